section
-- ===== PART A: goes FIRST, ahead of the names: the tables' words, and 'selects' of the private methods out of them =====
/-- a private method of a class that the tables say can be made, by its rows of tables_1 -/
def lw_okq (q : MethodName × Nat) : Prop := (q.1.cls ≠ "java/lang/invoke/MethodHandle" ∧ q.1.cls ≠ "java/lang/invoke/VarHandle") ∧ Cond.instantiable q.1.cls q.2 ∈ tables_1 ∧ Cond.privateMethod q.1 ∈ tables_1 ∧ Cond.instanceMethod q.1 ∈ tables_1
theorem lw_p0 : lw_okq (⟨"FoilBazaar$Reader", "takes", "(I)Z"⟩, 3) := ⟨⟨by decide +kernel, by decide +kernel⟩, List.mem_of_getElem? (i := 92) (by decide +kernel), List.mem_of_getElem? (i := 362) (by decide +kernel), List.mem_of_getElem? (i := 363) (by decide +kernel)⟩
theorem lw_p1 : lw_okq (⟨"FoilBazaar$Reader", "takesPart", "(I)Z"⟩, 3) := ⟨⟨by decide +kernel, by decide +kernel⟩, List.mem_of_getElem? (i := 92) (by decide +kernel), List.mem_of_getElem? (i := 366) (by decide +kernel), List.mem_of_getElem? (i := 367) (by decide +kernel)⟩
theorem lw_p2 : lw_okq (⟨"FoilBazaar$Reader", "takesKind", "(I)Z"⟩, 3) := ⟨⟨by decide +kernel, by decide +kernel⟩, List.mem_of_getElem? (i := 92) (by decide +kernel), List.mem_of_getElem? (i := 370) (by decide +kernel), List.mem_of_getElem? (i := 371) (by decide +kernel)⟩
theorem lw_p3 : lw_okq (⟨"FoilBazaar$Reader", "takesMove", "(I)Z"⟩, 3) := ⟨⟨by decide +kernel, by decide +kernel⟩, List.mem_of_getElem? (i := 92) (by decide +kernel), List.mem_of_getElem? (i := 377) (by decide +kernel), List.mem_of_getElem? (i := 378) (by decide +kernel)⟩
theorem lw_p4 : lw_okq (⟨"FoilBazaar$Reader", "takesOwner", "(I)Z"⟩, 3) := ⟨⟨by decide +kernel, by decide +kernel⟩, List.mem_of_getElem? (i := 92) (by decide +kernel), List.mem_of_getElem? (i := 381) (by decide +kernel), List.mem_of_getElem? (i := 382) (by decide +kernel)⟩
theorem lw_p5 : lw_okq (⟨"FoilBazaar$Reader", "takesPrice", "(I)Z"⟩, 3) := ⟨⟨by decide +kernel, by decide +kernel⟩, List.mem_of_getElem? (i := 92) (by decide +kernel), List.mem_of_getElem? (i := 389) (by decide +kernel), List.mem_of_getElem? (i := 390) (by decide +kernel)⟩
theorem lw_p6 : lw_okq (⟨"FoilBazaar", "refusalOfPair", "(IIII)I"⟩, 15) := ⟨⟨by decide +kernel, by decide +kernel⟩, List.mem_of_getElem? (i := 18) (by decide +kernel), List.mem_of_getElem? (i := 470) (by decide +kernel), List.mem_of_getElem? (i := 471) (by decide +kernel)⟩
theorem lw_p7 : lw_okq (⟨"FoilBazaar", "refusalOfTrade", "(II)I"⟩, 15) := ⟨⟨by decide +kernel, by decide +kernel⟩, List.mem_of_getElem? (i := 18) (by decide +kernel), List.mem_of_getElem? (i := 479) (by decide +kernel), List.mem_of_getElem? (i := 480) (by decide +kernel)⟩
theorem lw_p8 : lw_okq (⟨"FoilBazaar$Acts", "forgetFirst", "()V"⟩, 2) := ⟨⟨by decide +kernel, by decide +kernel⟩, List.mem_of_getElem? (i := 193) (by decide +kernel), List.mem_of_getElem? (i := 498) (by decide +kernel), List.mem_of_getElem? (i := 499) (by decide +kernel)⟩
theorem lw_p9 : lw_okq (⟨"FoilBazaar$Counsel", "findWays", "(III)V"⟩, 6) := ⟨⟨by decide +kernel, by decide +kernel⟩, List.mem_of_getElem? (i := 210) (by decide +kernel), List.mem_of_getElem? (i := 549) (by decide +kernel), List.mem_of_getElem? (i := 550) (by decide +kernel)⟩
theorem lw_p10 : lw_okq (⟨"FoilBazaar$Counsel", "costOfHand", "(III)I"⟩, 6) := ⟨⟨by decide +kernel, by decide +kernel⟩, List.mem_of_getElem? (i := 210) (by decide +kernel), List.mem_of_getElem? (i := 557) (by decide +kernel), List.mem_of_getElem? (i := 558) (by decide +kernel)⟩
theorem lw_p11 : lw_okq (⟨"FoilBazaar$Counsel", "againstWithAhead", "(II)I"⟩, 6) := ⟨⟨by decide +kernel, by decide +kernel⟩, List.mem_of_getElem? (i := 210) (by decide +kernel), List.mem_of_getElem? (i := 575) (by decide +kernel), List.mem_of_getElem? (i := 576) (by decide +kernel)⟩
theorem lw_p12 : lw_okq (⟨"FoilBazaar$Counsel", "leastAhead", "(I)I"⟩, 6) := ⟨⟨by decide +kernel, by decide +kernel⟩, List.mem_of_getElem? (i := 210) (by decide +kernel), List.mem_of_getElem? (i := 593) (by decide +kernel), List.mem_of_getElem? (i := 594) (by decide +kernel)⟩
theorem lw_p13 : lw_okq (⟨"FoilBazaar$Salle", "canTrade", "(II)Z"⟩, 4) := ⟨⟨by decide +kernel, by decide +kernel⟩, List.mem_of_getElem? (i := 132) (by decide +kernel), List.mem_of_getElem? (i := 609) (by decide +kernel), List.mem_of_getElem? (i := 610) (by decide +kernel)⟩
theorem lw_p14 : lw_okq (⟨"FoilBazaar$Sightings", "fitsAll", "()Z"⟩, 7) := ⟨⟨by decide +kernel, by decide +kernel⟩, List.mem_of_getElem? (i := 264) (by decide +kernel), List.mem_of_getElem? (i := 636) (by decide +kernel), List.mem_of_getElem? (i := 637) (by decide +kernel)⟩
theorem lw_p15 : lw_okq (⟨"FoilBazaar$Chances", "greatestDivisor", "()I"⟩, 6) := ⟨⟨by decide +kernel, by decide +kernel⟩, List.mem_of_getElem? (i := 237) (by decide +kernel), List.mem_of_getElem? (i := 659) (by decide +kernel), List.mem_of_getElem? (i := 660) (by decide +kernel)⟩
def lw_privs_1 : List (MethodName × Nat) := [(⟨"FoilBazaar$Reader", "takes", "(I)Z"⟩, 3), (⟨"FoilBazaar$Reader", "takesPart", "(I)Z"⟩, 3), (⟨"FoilBazaar$Reader", "takesKind", "(I)Z"⟩, 3), (⟨"FoilBazaar$Reader", "takesMove", "(I)Z"⟩, 3), (⟨"FoilBazaar$Reader", "takesOwner", "(I)Z"⟩, 3), (⟨"FoilBazaar$Reader", "takesPrice", "(I)Z"⟩, 3), (⟨"FoilBazaar", "refusalOfPair", "(IIII)I"⟩, 15), (⟨"FoilBazaar", "refusalOfTrade", "(II)I"⟩, 15), (⟨"FoilBazaar$Acts", "forgetFirst", "()V"⟩, 2), (⟨"FoilBazaar$Counsel", "findWays", "(III)V"⟩, 6), (⟨"FoilBazaar$Counsel", "costOfHand", "(III)I"⟩, 6), (⟨"FoilBazaar$Counsel", "againstWithAhead", "(II)I"⟩, 6), (⟨"FoilBazaar$Counsel", "leastAhead", "(I)I"⟩, 6), (⟨"FoilBazaar$Salle", "canTrade", "(II)Z"⟩, 4), (⟨"FoilBazaar$Sightings", "fitsAll", "()Z"⟩, 7), (⟨"FoilBazaar$Chances", "greatestDivisor", "()I"⟩, 6)]
theorem lw_r1 : ∀ q ∈ lw_privs_1, lw_okq q := List.forall_mem_cons.mpr ⟨lw_p0, List.forall_mem_cons.mpr ⟨lw_p1, List.forall_mem_cons.mpr ⟨lw_p2, List.forall_mem_cons.mpr ⟨lw_p3, List.forall_mem_cons.mpr ⟨lw_p4, List.forall_mem_cons.mpr ⟨lw_p5, List.forall_mem_cons.mpr ⟨lw_p6, List.forall_mem_cons.mpr ⟨lw_p7, List.forall_mem_cons.mpr ⟨lw_p8, List.forall_mem_cons.mpr ⟨lw_p9, List.forall_mem_cons.mpr ⟨lw_p10, List.forall_mem_cons.mpr ⟨lw_p11, List.forall_mem_cons.mpr ⟨lw_p12, List.forall_mem_cons.mpr ⟨lw_p13, List.forall_mem_cons.mpr ⟨lw_p14, List.forall_mem_cons.mpr ⟨lw_p15, fun _ h => absurd h List.not_mem_nil⟩⟩⟩⟩⟩⟩⟩⟩⟩⟩⟩⟩⟩⟩⟩⟩
theorem lw_p16 : lw_okq (⟨"FoilBazaar$Chances", "fillStanceLeads", "(LFoilBazaar$Fencer;LFoilBazaar$Fencer;)V"⟩, 6) := ⟨⟨by decide +kernel, by decide +kernel⟩, List.mem_of_getElem? (i := 237) (by decide +kernel), List.mem_of_getElem? (i := 672) (by decide +kernel), List.mem_of_getElem? (i := 673) (by decide +kernel)⟩
theorem lw_p17 : lw_okq (⟨"FoilBazaar$Chances", "isRest", "(II)Z"⟩, 6) := ⟨⟨by decide +kernel, by decide +kernel⟩, List.mem_of_getElem? (i := 237) (by decide +kernel), List.mem_of_getElem? (i := 678) (by decide +kernel), List.mem_of_getElem? (i := 679) (by decide +kernel)⟩
theorem lw_p18 : lw_okq (⟨"FoilBazaar$Chances", "leadIn", "(I)I"⟩, 6) := ⟨⟨by decide +kernel, by decide +kernel⟩, List.mem_of_getElem? (i := 237) (by decide +kernel), List.mem_of_getElem? (i := 690) (by decide +kernel), List.mem_of_getElem? (i := 691) (by decide +kernel)⟩
theorem lw_p19 : lw_okq (⟨"FoilBazaarModel", "readText", "()I"⟩, 32) := ⟨⟨by decide +kernel, by decide +kernel⟩, List.mem_of_getElem? (i := 737) (by decide +kernel), List.mem_of_getElem? (i := 856) (by decide +kernel), List.mem_of_getElem? (i := 857) (by decide +kernel)⟩
theorem lw_p20 : lw_okq (⟨"FoilBazaarModel", "readPart", "(I)V"⟩, 32) := ⟨⟨by decide +kernel, by decide +kernel⟩, List.mem_of_getElem? (i := 737) (by decide +kernel), List.mem_of_getElem? (i := 860) (by decide +kernel), List.mem_of_getElem? (i := 861) (by decide +kernel)⟩
theorem lw_p21 : lw_okq (⟨"FoilBazaarModel", "figureOf", "(I)I"⟩, 32) := ⟨⟨by decide +kernel, by decide +kernel⟩, List.mem_of_getElem? (i := 737) (by decide +kernel), List.mem_of_getElem? (i := 864) (by decide +kernel), List.mem_of_getElem? (i := 865) (by decide +kernel)⟩
theorem lw_p22 : lw_okq (⟨"FoilBazaarModel", "moveOf", "()I"⟩, 32) := ⟨⟨by decide +kernel, by decide +kernel⟩, List.mem_of_getElem? (i := 737) (by decide +kernel), List.mem_of_getElem? (i := 868) (by decide +kernel), List.mem_of_getElem? (i := 869) (by decide +kernel)⟩
theorem lw_p23 : lw_okq (⟨"FoilBazaarModel", "isFencer", "(I)Z"⟩, 32) := ⟨⟨by decide +kernel, by decide +kernel⟩, List.mem_of_getElem? (i := 737) (by decide +kernel), List.mem_of_getElem? (i := 883) (by decide +kernel), List.mem_of_getElem? (i := 884) (by decide +kernel)⟩
theorem lw_p24 : lw_okq (⟨"FoilBazaarModel", "ownedBy", "(I)I"⟩, 32) := ⟨⟨by decide +kernel, by decide +kernel⟩, List.mem_of_getElem? (i := 737) (by decide +kernel), List.mem_of_getElem? (i := 887) (by decide +kernel), List.mem_of_getElem? (i := 888) (by decide +kernel)⟩
theorem lw_p25 : lw_okq (⟨"FoilBazaarModel", "beatenBy", "(I)I"⟩, 32) := ⟨⟨by decide +kernel, by decide +kernel⟩, List.mem_of_getElem? (i := 737) (by decide +kernel), List.mem_of_getElem? (i := 891) (by decide +kernel), List.mem_of_getElem? (i := 892) (by decide +kernel)⟩
theorem lw_p26 : lw_okq (⟨"FoilBazaarModel", "beats", "(III)Z"⟩, 32) := ⟨⟨by decide +kernel, by decide +kernel⟩, List.mem_of_getElem? (i := 737) (by decide +kernel), List.mem_of_getElem? (i := 895) (by decide +kernel), List.mem_of_getElem? (i := 896) (by decide +kernel)⟩
theorem lw_p27 : lw_okq (⟨"FoilBazaarModel", "fightOn", "(III)V"⟩, 32) := ⟨⟨by decide +kernel, by decide +kernel⟩, List.mem_of_getElem? (i := 737) (by decide +kernel), List.mem_of_getElem? (i := 899) (by decide +kernel), List.mem_of_getElem? (i := 900) (by decide +kernel)⟩
theorem lw_p28 : lw_okq (⟨"FoilBazaarModel", "fight", "(IIII)V"⟩, 32) := ⟨⟨by decide +kernel, by decide +kernel⟩, List.mem_of_getElem? (i := 737) (by decide +kernel), List.mem_of_getElem? (i := 903) (by decide +kernel), List.mem_of_getElem? (i := 904) (by decide +kernel)⟩
theorem lw_p29 : lw_okq (⟨"FoilBazaarModel", "begin", "()V"⟩, 32) := ⟨⟨by decide +kernel, by decide +kernel⟩, List.mem_of_getElem? (i := 737) (by decide +kernel), List.mem_of_getElem? (i := 907) (by decide +kernel), List.mem_of_getElem? (i := 908) (by decide +kernel)⟩
theorem lw_p30 : lw_okq (⟨"FoilBazaarModel", "pass", "(IIIIZ)V"⟩, 32) := ⟨⟨by decide +kernel, by decide +kernel⟩, List.mem_of_getElem? (i := 737) (by decide +kernel), List.mem_of_getElem? (i := 911) (by decide +kernel), List.mem_of_getElem? (i := 912) (by decide +kernel)⟩
theorem lw_p31 : lw_okq (⟨"FoilBazaarModel", "moveIn", "(IIII)I"⟩, 32) := ⟨⟨by decide +kernel, by decide +kernel⟩, List.mem_of_getElem? (i := 737) (by decide +kernel), List.mem_of_getElem? (i := 915) (by decide +kernel), List.mem_of_getElem? (i := 916) (by decide +kernel)⟩
def lw_privs_2 : List (MethodName × Nat) := [(⟨"FoilBazaar$Chances", "fillStanceLeads", "(LFoilBazaar$Fencer;LFoilBazaar$Fencer;)V"⟩, 6), (⟨"FoilBazaar$Chances", "isRest", "(II)Z"⟩, 6), (⟨"FoilBazaar$Chances", "leadIn", "(I)I"⟩, 6), (⟨"FoilBazaarModel", "readText", "()I"⟩, 32), (⟨"FoilBazaarModel", "readPart", "(I)V"⟩, 32), (⟨"FoilBazaarModel", "figureOf", "(I)I"⟩, 32), (⟨"FoilBazaarModel", "moveOf", "()I"⟩, 32), (⟨"FoilBazaarModel", "isFencer", "(I)Z"⟩, 32), (⟨"FoilBazaarModel", "ownedBy", "(I)I"⟩, 32), (⟨"FoilBazaarModel", "beatenBy", "(I)I"⟩, 32), (⟨"FoilBazaarModel", "beats", "(III)Z"⟩, 32), (⟨"FoilBazaarModel", "fightOn", "(III)V"⟩, 32), (⟨"FoilBazaarModel", "fight", "(IIII)V"⟩, 32), (⟨"FoilBazaarModel", "begin", "()V"⟩, 32), (⟨"FoilBazaarModel", "pass", "(IIIIZ)V"⟩, 32), (⟨"FoilBazaarModel", "moveIn", "(IIII)I"⟩, 32)]
theorem lw_r2 : ∀ q ∈ lw_privs_2, lw_okq q := List.forall_mem_cons.mpr ⟨lw_p16, List.forall_mem_cons.mpr ⟨lw_p17, List.forall_mem_cons.mpr ⟨lw_p18, List.forall_mem_cons.mpr ⟨lw_p19, List.forall_mem_cons.mpr ⟨lw_p20, List.forall_mem_cons.mpr ⟨lw_p21, List.forall_mem_cons.mpr ⟨lw_p22, List.forall_mem_cons.mpr ⟨lw_p23, List.forall_mem_cons.mpr ⟨lw_p24, List.forall_mem_cons.mpr ⟨lw_p25, List.forall_mem_cons.mpr ⟨lw_p26, List.forall_mem_cons.mpr ⟨lw_p27, List.forall_mem_cons.mpr ⟨lw_p28, List.forall_mem_cons.mpr ⟨lw_p29, List.forall_mem_cons.mpr ⟨lw_p30, List.forall_mem_cons.mpr ⟨lw_p31, fun _ h => absurd h List.not_mem_nil⟩⟩⟩⟩⟩⟩⟩⟩⟩⟩⟩⟩⟩⟩⟩⟩
theorem lw_p32 : lw_okq (⟨"FoilBazaarModel", "isGood", "(I)Z"⟩, 32) := ⟨⟨by decide +kernel, by decide +kernel⟩, List.mem_of_getElem? (i := 737) (by decide +kernel), List.mem_of_getElem? (i := 929) (by decide +kernel), List.mem_of_getElem? (i := 930) (by decide +kernel)⟩
theorem lw_p33 : lw_okq (⟨"FoilBazaarModel", "costFrom", "(IIII)I"⟩, 32) := ⟨⟨by decide +kernel, by decide +kernel⟩, List.mem_of_getElem? (i := 737) (by decide +kernel), List.mem_of_getElem? (i := 942) (by decide +kernel), List.mem_of_getElem? (i := 943) (by decide +kernel)⟩
theorem lw_p34 : lw_okq (⟨"FoilBazaarModel", "keepAct", "()V"⟩, 32) := ⟨⟨by decide +kernel, by decide +kernel⟩, List.mem_of_getElem? (i := 737) (by decide +kernel), List.mem_of_getElem? (i := 950) (by decide +kernel), List.mem_of_getElem? (i := 951) (by decide +kernel)⟩
theorem lw_p35 : lw_okq (⟨"FoilBazaarModel", "meetOn", "(III)Z"⟩, 32) := ⟨⟨by decide +kernel, by decide +kernel⟩, List.mem_of_getElem? (i := 737) (by decide +kernel), List.mem_of_getElem? (i := 954) (by decide +kernel), List.mem_of_getElem? (i := 955) (by decide +kernel)⟩
theorem lw_p36 : lw_okq (⟨"FoilBazaarModel", "giveOn", "(III)V"⟩, 32) := ⟨⟨by decide +kernel, by decide +kernel⟩, List.mem_of_getElem? (i := 737) (by decide +kernel), List.mem_of_getElem? (i := 958) (by decide +kernel), List.mem_of_getElem? (i := 959) (by decide +kernel)⟩
theorem lw_p37 : lw_okq (⟨"FoilBazaarModel", "stepOn", "(II)V"⟩, 32) := ⟨⟨by decide +kernel, by decide +kernel⟩, List.mem_of_getElem? (i := 737) (by decide +kernel), List.mem_of_getElem? (i := 962) (by decide +kernel), List.mem_of_getElem? (i := 963) (by decide +kernel)⟩
theorem lw_p38 : lw_okq (⟨"FoilBazaarModel", "sumsTo", "(II)V"⟩, 32) := ⟨⟨by decide +kernel, by decide +kernel⟩, List.mem_of_getElem? (i := 737) (by decide +kernel), List.mem_of_getElem? (i := 983) (by decide +kernel), List.mem_of_getElem? (i := 984) (by decide +kernel)⟩
theorem lw_p39 : lw_okq (⟨"FoilBazaarModel", "against", "()I"⟩, 32) := ⟨⟨by decide +kernel, by decide +kernel⟩, List.mem_of_getElem? (i := 737) (by decide +kernel), List.mem_of_getElem? (i := 991) (by decide +kernel), List.mem_of_getElem? (i := 992) (by decide +kernel)⟩
theorem lw_p40 : lw_okq (⟨"FoilBazaarModel", "figures", "()I"⟩, 32) := ⟨⟨by decide +kernel, by decide +kernel⟩, List.mem_of_getElem? (i := 737) (by decide +kernel), List.mem_of_getElem? (i := 998) (by decide +kernel), List.mem_of_getElem? (i := 999) (by decide +kernel)⟩
theorem lw_p41 : lw_okq (⟨"FoilBazaarModel", "nextOrder", "()Z"⟩, 32) := ⟨⟨by decide +kernel, by decide +kernel⟩, List.mem_of_getElem? (i := 737) (by decide +kernel), List.mem_of_getElem? (i := 1002) (by decide +kernel), List.mem_of_getElem? (i := 1003) (by decide +kernel)⟩
theorem lw_p42 : lw_okq (⟨"FoilBazaarModel", "swap", "(II)V"⟩, 32) := ⟨⟨by decide +kernel, by decide +kernel⟩, List.mem_of_getElem? (i := 737) (by decide +kernel), List.mem_of_getElem? (i := 1006) (by decide +kernel), List.mem_of_getElem? (i := 1007) (by decide +kernel)⟩
theorem lw_p43 : lw_okq (⟨"FoilBazaarModel", "layTrial", "()V"⟩, 32) := ⟨⟨by decide +kernel, by decide +kernel⟩, List.mem_of_getElem? (i := 737) (by decide +kernel), List.mem_of_getElem? (i := 1019) (by decide +kernel), List.mem_of_getElem? (i := 1020) (by decide +kernel)⟩
theorem lw_p44 : lw_okq (⟨"FoilBazaarModel", "tryThing", "(III)Z"⟩, 32) := ⟨⟨by decide +kernel, by decide +kernel⟩, List.mem_of_getElem? (i := 737) (by decide +kernel), List.mem_of_getElem? (i := 1023) (by decide +kernel), List.mem_of_getElem? (i := 1024) (by decide +kernel)⟩
theorem lw_p45 : lw_okq (⟨"FoilBazaarModel", "mayBeMask", "(III)Z"⟩, 32) := ⟨⟨by decide +kernel, by decide +kernel⟩, List.mem_of_getElem? (i := 737) (by decide +kernel), List.mem_of_getElem? (i := 1039) (by decide +kernel), List.mem_of_getElem? (i := 1040) (by decide +kernel)⟩
theorem lw_p46 : lw_okq (⟨"FoilBazaarModel", "beatenBySome", "(I)I"⟩, 32) := ⟨⟨by decide +kernel, by decide +kernel⟩, List.mem_of_getElem? (i := 737) (by decide +kernel), List.mem_of_getElem? (i := 1053) (by decide +kernel), List.mem_of_getElem? (i := 1054) (by decide +kernel)⟩
theorem lw_p47 : lw_okq (⟨"FoilBazaarModel", "isRest", "(IIII)Z"⟩, 32) := ⟨⟨by decide +kernel, by decide +kernel⟩, List.mem_of_getElem? (i := 737) (by decide +kernel), List.mem_of_getElem? (i := 1064) (by decide +kernel), List.mem_of_getElem? (i := 1065) (by decide +kernel)⟩
def lw_privs_3 : List (MethodName × Nat) := [(⟨"FoilBazaarModel", "isGood", "(I)Z"⟩, 32), (⟨"FoilBazaarModel", "costFrom", "(IIII)I"⟩, 32), (⟨"FoilBazaarModel", "keepAct", "()V"⟩, 32), (⟨"FoilBazaarModel", "meetOn", "(III)Z"⟩, 32), (⟨"FoilBazaarModel", "giveOn", "(III)V"⟩, 32), (⟨"FoilBazaarModel", "stepOn", "(II)V"⟩, 32), (⟨"FoilBazaarModel", "sumsTo", "(II)V"⟩, 32), (⟨"FoilBazaarModel", "against", "()I"⟩, 32), (⟨"FoilBazaarModel", "figures", "()I"⟩, 32), (⟨"FoilBazaarModel", "nextOrder", "()Z"⟩, 32), (⟨"FoilBazaarModel", "swap", "(II)V"⟩, 32), (⟨"FoilBazaarModel", "layTrial", "()V"⟩, 32), (⟨"FoilBazaarModel", "tryThing", "(III)Z"⟩, 32), (⟨"FoilBazaarModel", "mayBeMask", "(III)Z"⟩, 32), (⟨"FoilBazaarModel", "beatenBySome", "(I)I"⟩, 32), (⟨"FoilBazaarModel", "isRest", "(IIII)Z"⟩, 32)]
theorem lw_r3 : ∀ q ∈ lw_privs_3, lw_okq q := List.forall_mem_cons.mpr ⟨lw_p32, List.forall_mem_cons.mpr ⟨lw_p33, List.forall_mem_cons.mpr ⟨lw_p34, List.forall_mem_cons.mpr ⟨lw_p35, List.forall_mem_cons.mpr ⟨lw_p36, List.forall_mem_cons.mpr ⟨lw_p37, List.forall_mem_cons.mpr ⟨lw_p38, List.forall_mem_cons.mpr ⟨lw_p39, List.forall_mem_cons.mpr ⟨lw_p40, List.forall_mem_cons.mpr ⟨lw_p41, List.forall_mem_cons.mpr ⟨lw_p42, List.forall_mem_cons.mpr ⟨lw_p43, List.forall_mem_cons.mpr ⟨lw_p44, List.forall_mem_cons.mpr ⟨lw_p45, List.forall_mem_cons.mpr ⟨lw_p46, List.forall_mem_cons.mpr ⟨lw_p47, fun _ h => absurd h List.not_mem_nil⟩⟩⟩⟩⟩⟩⟩⟩⟩⟩⟩⟩⟩⟩⟩⟩
theorem lw_p48 : lw_okq (⟨"FoilBazaarModel", "more", "(IIII)I"⟩, 32) := ⟨⟨by decide +kernel, by decide +kernel⟩, List.mem_of_getElem? (i := 737) (by decide +kernel), List.mem_of_getElem? (i := 1068) (by decide +kernel), List.mem_of_getElem? (i := 1069) (by decide +kernel)⟩
theorem lw_p49 : lw_okq (⟨"FoilBazaarModel", "strayed", "(I)I"⟩, 32) := ⟨⟨by decide +kernel, by decide +kernel⟩, List.mem_of_getElem? (i := 737) (by decide +kernel), List.mem_of_getElem? (i := 1092) (by decide +kernel), List.mem_of_getElem? (i := 1093) (by decide +kernel)⟩
theorem lw_p50 : lw_okq (⟨"FoilBazaarModel", "together", "(I)I"⟩, 32) := ⟨⟨by decide +kernel, by decide +kernel⟩, List.mem_of_getElem? (i := 737) (by decide +kernel), List.mem_of_getElem? (i := 1108) (by decide +kernel), List.mem_of_getElem? (i := 1109) (by decide +kernel)⟩
theorem lw_p51 : lw_okq (⟨"FoilBazaarModel", "beaten", "()I"⟩, 32) := ⟨⟨by decide +kernel, by decide +kernel⟩, List.mem_of_getElem? (i := 737) (by decide +kernel), List.mem_of_getElem? (i := 1112) (by decide +kernel), List.mem_of_getElem? (i := 1113) (by decide +kernel)⟩
def lw_privs_4 : List (MethodName × Nat) := [(⟨"FoilBazaarModel", "more", "(IIII)I"⟩, 32), (⟨"FoilBazaarModel", "strayed", "(I)I"⟩, 32), (⟨"FoilBazaarModel", "together", "(I)I"⟩, 32), (⟨"FoilBazaarModel", "beaten", "()I"⟩, 32)]
theorem lw_r4 : ∀ q ∈ lw_privs_4, lw_okq q := List.forall_mem_cons.mpr ⟨lw_p48, List.forall_mem_cons.mpr ⟨lw_p49, List.forall_mem_cons.mpr ⟨lw_p50, List.forall_mem_cons.mpr ⟨lw_p51, fun _ h => absurd h List.not_mem_nil⟩⟩⟩⟩
def lw_privs : List (MethodName × Nat) := lw_privs_1 ++ (lw_privs_2 ++ (lw_privs_3 ++ (lw_privs_4)))
def lw_tbl : List Cond := k2_sels lw_privs ++ tables_1
theorem lw_privs_ok : ∀ q ∈ lw_privs, lw_okq q := by
  show ∀ q ∈ lw_privs_1 ++ (lw_privs_2 ++ (lw_privs_3 ++ (lw_privs_4))), lw_okq q
  exact List.forall_mem_append.mpr ⟨lw_r1, List.forall_mem_append.mpr ⟨lw_r2, List.forall_mem_append.mpr ⟨lw_r3, lw_r4⟩⟩⟩
end
section
def RX0 : String := "FoilBazaar$Acts"
def TX0 : u_T := fun k => match k with
  | 0 => ("FoilBazaar$Acts", "before", "[LFoilBazaar$Holdings;", true)
  | _ => ("FoilBazaar$Acts", "size", "I", false)
def tyX0 : Nat → FieldType := fun k => match k with
  | 0 => .array (.object "FoilBazaar$Holdings")
  | _ => .int
abbrev wsX00 : List Cond := u_ws RX0 TX0 2
theorem nmX0 : ∀ a, a < 2 → ∀ b, b < 2 → a ≠ b → (TX0 a).2.1 ≠ (TX0 b).2.1 := by decide +kernel
theorem tyX0_ok : ∀ k, k < 2 → parseFieldDescriptor (TX0 k).2.2.1 = some (tyX0 k) := by decide +kernel
abbrev cX0_init : ByteArray := prog_2_method_1_code
def yX0_init : MethodName := ⟨RX0, "<init>", "()V"⟩
abbrev cX0_remember : ByteArray := prog_2_method_2_code
def yX0_remember : MethodName := ⟨RX0, "remember", "(LFoilBazaar$Holdings;)V"⟩
abbrev cX0_forgetFirst : ByteArray := prog_2_method_3_code
def yX0_forgetFirst : MethodName := ⟨RX0, "forgetFirst", "()V"⟩
abbrev cX0_takeBack : ByteArray := prog_2_method_4_code
def yX0_takeBack : MethodName := ⟨RX0, "takeBack", "(LFoilBazaar$Holdings;)V"⟩
abbrev cX0_forget : ByteArray := prog_2_method_5_code
def yX0_forget : MethodName := ⟨RX0, "forget", "()V"⟩
def RX1 : String := "FoilBazaar$Bout"
def TX1 : u_T := fun k => match k with
  | 0 => ("FoilBazaar$Bout", "hitsOfOne", "I", false)
  | 1 => ("FoilBazaar$Bout", "hitsOfOther", "I", false)
  | 2 => ("FoilBazaar$Bout", "passes", "I", false)
  | _ => ("FoilBazaar$Bout", "leads", "[I", true)
def tyX1 : Nat → FieldType := fun k => match k with
  | 0 => .int
  | 1 => .int
  | 2 => .int
  | _ => .array .int
abbrev wsX10 : List Cond := u_ws RX1 TX1 4
theorem nmX1 : ∀ a, a < 4 → ∀ b, b < 4 → a ≠ b → (TX1 a).2.1 ≠ (TX1 b).2.1 := by decide +kernel
theorem tyX1_ok : ∀ k, k < 4 → parseFieldDescriptor (TX1 k).2.2.1 = some (tyX1 k) := by decide +kernel
abbrev cX1_init : ByteArray := prog_3_method_1_code
def yX1_init : MethodName := ⟨RX1, "<init>", "()V"⟩
abbrev cX1_fight : ByteArray := prog_3_method_2_code
def yX1_fight : MethodName := ⟨RX1, "fight", "(LFoilBazaar$Fencer;ILFoilBazaar$Fencer;III)V"⟩
abbrev cX1_hits : ByteArray := prog_3_method_3_code
def yX1_hits : MethodName := ⟨RX1, "hits", "(III)I"⟩
abbrev cX1_lead : ByteArray := prog_3_method_4_code
def yX1_lead : MethodName := ⟨RX1, "lead", "()I"⟩
def RX2 : String := "FoilBazaar$Chances"
def TX2 : u_T := fun k => match k with
  | 0 => ("FoilBazaar$Chances", "salle", "LFoilBazaar$Salle;", true)
  | 1 => ("FoilBazaar$Chances", "stanceLeads", "[I", true)
  | 2 => ("FoilBazaar$Chances", "above", "I", false)
  | 3 => ("FoilBazaar$Chances", "below", "I", false)
  | 4 => ("FoilBazaar$Chances", "rests", "I", false)
  | _ => ("FoilBazaar$Chances", "firstRest", "I", false)
def tyX2 : Nat → FieldType := fun k => match k with
  | 0 => .object "FoilBazaar$Salle"
  | 1 => .array .int
  | 2 => .int
  | 3 => .int
  | 4 => .int
  | _ => .int
abbrev wsX20 : List Cond := u_ws RX2 TX2 6
theorem nmX2 : ∀ a, a < 6 → ∀ b, b < 6 → a ≠ b → (TX2 a).2.1 ≠ (TX2 b).2.1 := by decide +kernel
theorem tyX2_ok : ∀ k, k < 6 → parseFieldDescriptor (TX2 k).2.2.1 = some (tyX2 k) := by decide +kernel
abbrev cX2_init : ByteArray := prog_4_method_1_code
def yX2_init : MethodName := ⟨RX2, "<init>", "(LFoilBazaar$Salle;)V"⟩
abbrev cX2_findShare : ByteArray := prog_4_method_2_code
def yX2_findShare : MethodName := ⟨RX2, "findShare", "(I)V"⟩
abbrev cX2_findRests : ByteArray := prog_4_method_3_code
def yX2_findRests : MethodName := ⟨RX2, "findRests", "(II)V"⟩
abbrev cX2_fillStanceLeads : ByteArray := prog_4_method_4_code
def yX2_fillStanceLeads : MethodName := ⟨RX2, "fillStanceLeads", "(LFoilBazaar$Fencer;LFoilBazaar$Fencer;)V"⟩
abbrev cX2_isRest : ByteArray := prog_4_method_5_code
def yX2_isRest : MethodName := ⟨RX2, "isRest", "(II)Z"⟩
abbrev cX2_findClouded : ByteArray := prog_4_method_6_code
def yX2_findClouded : MethodName := ⟨RX2, "findClouded", "(III)V"⟩
abbrev cX2_leadIn : ByteArray := prog_4_method_7_code
def yX2_leadIn : MethodName := ⟨RX2, "leadIn", "(I)I"⟩
abbrev cX2_weightOf : ByteArray := prog_4_method_8_code
def yX2_weightOf : MethodName := ⟨RX2, "weightOf", "(II)I"⟩
abbrev cX2_told : ByteArray := prog_4_method_9_code
def yX2_told : MethodName := ⟨RX2, "told", "(Z)I"⟩
abbrev cX2_greatestDivisor : ByteArray := prog_4_method_10_code
def yX2_greatestDivisor : MethodName := ⟨RX2, "greatestDivisor", "()I"⟩
def RX3 : String := "FoilBazaar$Counsel"
def TX3 : u_T := fun k => match k with
  | 0 => ("FoilBazaar$Counsel", "salle", "LFoilBazaar$Salle;", true)
  | 1 => ("FoilBazaar$Counsel", "ways", "[I", true)
  | 2 => ("FoilBazaar$Counsel", "beaters", "[I", true)
  | 3 => ("FoilBazaar$Counsel", "fewest", "[I", true)
  | 4 => ("FoilBazaar$Counsel", "chainSum", "I", false)
  | _ => ("FoilBazaar$Counsel", "chainFirst", "I", false)
def tyX3 : Nat → FieldType := fun k => match k with
  | 0 => .object "FoilBazaar$Salle"
  | 1 => .array .int
  | 2 => .array .int
  | 3 => .array .int
  | 4 => .int
  | _ => .int
abbrev wsX30 : List Cond := u_ws RX3 TX3 6
theorem nmX3 : ∀ a, a < 6 → ∀ b, b < 6 → a ≠ b → (TX3 a).2.1 ≠ (TX3 b).2.1 := by decide +kernel
theorem tyX3_ok : ∀ k, k < 6 → parseFieldDescriptor (TX3 k).2.2.1 = some (tyX3 k) := by decide +kernel
abbrev cX3_init : ByteArray := prog_5_method_1_code
def yX3_init : MethodName := ⟨RX3, "<init>", "(LFoilBazaar$Salle;)V"⟩
abbrev cX3_findChain : ByteArray := prog_5_method_2_code
def yX3_findChain : MethodName := ⟨RX3, "findChain", "(II)V"⟩
abbrev cX3_findWays : ByteArray := prog_5_method_3_code
def yX3_findWays : MethodName := ⟨RX3, "findWays", "(III)V"⟩
abbrev cX3_costOfHand : ByteArray := prog_5_method_4_code
def yX3_costOfHand : MethodName := ⟨RX3, "costOfHand", "(III)I"⟩
abbrev cX3_weighOrders : ByteArray := prog_5_method_5_code
def yX3_weighOrders : MethodName := ⟨RX3, "weighOrders", "()V"⟩
abbrev cX3_againstWithAhead : ByteArray := prog_5_method_6_code
def yX3_againstWithAhead : MethodName := ⟨RX3, "againstWithAhead", "(II)I"⟩
abbrev cX3_fewestAgainst : ByteArray := prog_5_method_7_code
def yX3_fewestAgainst : MethodName := ⟨RX3, "fewestAgainst", "()I"⟩
abbrev cX3_bestOrder : ByteArray := prog_5_method_8_code
def yX3_bestOrder : MethodName := ⟨RX3, "bestOrder", "()I"⟩
abbrev cX3_leastAhead : ByteArray := prog_5_method_9_code
def yX3_leastAhead : MethodName := ⟨RX3, "leastAhead", "(I)I"⟩
def RX4 : String := "FoilBazaar$Fencer"
def TX4 : u_T := fun k => match k with
  | 0 => ("FoilBazaar$Fencer", "kind", "I", false)
  | _ => ("FoilBazaar$Fencer", "moves", "[I", true)
def tyX4 : Nat → FieldType := fun k => match k with
  | 0 => .int
  | _ => .array .int
abbrev wsX40 : List Cond := u_ws RX4 TX4 2
theorem nmX4 : ∀ a, a < 2 → ∀ b, b < 2 → a ≠ b → (TX4 a).2.1 ≠ (TX4 b).2.1 := by decide +kernel
theorem tyX4_ok : ∀ k, k < 2 → parseFieldDescriptor (TX4 k).2.2.1 = some (tyX4 k) := by decide +kernel
abbrev cX4_init : ByteArray := prog_6_method_1_code
def yX4_init : MethodName := ⟨RX4, "<init>", "()V"⟩
abbrev cX4_moveIn : ByteArray := prog_6_method_2_code
def yX4_moveIn : MethodName := ⟨RX4, "moveIn", "(III)I"⟩
abbrev cX4_movesAsFigures : ByteArray := prog_6_method_3_code
def yX4_movesAsFigures : MethodName := ⟨RX4, "movesAsFigures", "()I"⟩
abbrev cX4_copyFrom : ByteArray := prog_6_method_4_code
def yX4_copyFrom : MethodName := ⟨RX4, "copyFrom", "(LFoilBazaar$Fencer;)V"⟩
def RX5 : String := "FoilBazaar$Holdings"
def TX5 : u_T := fun k => match k with
  | 0 => ("FoilBazaar$Holdings", "owners", "[I", true)
  | 1 => ("FoilBazaar$Holdings", "purses", "[I", true)
  | 2 => ("FoilBazaar$Holdings", "feet", "[I", true)
  | _ => ("FoilBazaar$Holdings", "day", "I", false)
def tyX5 : Nat → FieldType := fun k => match k with
  | 0 => .array .int
  | 1 => .array .int
  | 2 => .array .int
  | _ => .int
abbrev wsX50 : List Cond := u_ws RX5 TX5 4
theorem nmX5 : ∀ a, a < 4 → ∀ b, b < 4 → a ≠ b → (TX5 a).2.1 ≠ (TX5 b).2.1 := by decide +kernel
theorem tyX5_ok : ∀ k, k < 4 → parseFieldDescriptor (TX5 k).2.2.1 = some (tyX5 k) := by decide +kernel
abbrev cX5_init : ByteArray := prog_7_method_1_code
def yX5_init : MethodName := ⟨RX5, "<init>", "()V"⟩
abbrev cX5_openFor : ByteArray := prog_7_method_2_code
def yX5_openFor : MethodName := ⟨RX5, "openFor", "(LFoilBazaar$Roll;)V"⟩
abbrev cX5_copyFrom : ByteArray := prog_7_method_3_code
def yX5_copyFrom : MethodName := ⟨RX5, "copyFrom", "(LFoilBazaar$Holdings;)V"⟩
abbrev cX5_fill : ByteArray := prog_7_method_4_code
def yX5_fill : MethodName := ⟨RX5, "fill", "(II)V"⟩
def RX6 : String := "FoilBazaar$Reader"
def TX6 : u_T := fun k => match k with
  | 0 => ("FoilBazaar$Reader", "into", "LFoilBazaar$Roll;", true)
  | 1 => ("FoilBazaar$Reader", "place", "I", false)
  | _ => ("FoilBazaar$Reader", "move", "I", false)
def tyX6 : Nat → FieldType := fun k => match k with
  | 0 => .object "FoilBazaar$Roll"
  | 1 => .int
  | _ => .int
abbrev wsX60 : List Cond := u_ws RX6 TX6 3
theorem nmX6 : ∀ a, a < 3 → ∀ b, b < 3 → a ≠ b → (TX6 a).2.1 ≠ (TX6 b).2.1 := by decide +kernel
theorem tyX6_ok : ∀ k, k < 3 → parseFieldDescriptor (TX6 k).2.2.1 = some (tyX6 k) := by decide +kernel
abbrev cX6_init : ByteArray := prog_8_method_1_code
def yX6_init : MethodName := ⟨RX6, "<init>", "(LFoilBazaar$Roll;)V"⟩
abbrev cX6_faultOf : ByteArray := prog_8_method_2_code
def yX6_faultOf : MethodName := ⟨RX6, "faultOf", "([II)I"⟩
abbrev cX6_takes : ByteArray := prog_8_method_3_code
def yX6_takes : MethodName := ⟨RX6, "takes", "(I)Z"⟩
abbrev cX6_takesPart : ByteArray := prog_8_method_4_code
def yX6_takesPart : MethodName := ⟨RX6, "takesPart", "(I)Z"⟩
abbrev cX6_takesKind : ByteArray := prog_8_method_5_code
def yX6_takesKind : MethodName := ⟨RX6, "takesKind", "(I)Z"⟩
abbrev cX6_takesMove : ByteArray := prog_8_method_6_code
def yX6_takesMove : MethodName := ⟨RX6, "takesMove", "(I)Z"⟩
abbrev cX6_takesOwner : ByteArray := prog_8_method_7_code
def yX6_takesOwner : MethodName := ⟨RX6, "takesOwner", "(I)Z"⟩
abbrev cX6_takesPrice : ByteArray := prog_8_method_8_code
def yX6_takesPrice : MethodName := ⟨RX6, "takesPrice", "(I)Z"⟩
abbrev cX6_moveOf : ByteArray := prog_8_method_9_code
def yX6_moveOf : MethodName := ⟨RX6, "moveOf", "(I)I"⟩
def RX7 : String := "FoilBazaar$Roll"
def TX7 : u_T := fun k => match k with
  | 0 => ("FoilBazaar$Roll", "fencers", "[LFoilBazaar$Fencer;", true)
  | 1 => ("FoilBazaar$Roll", "prices", "[I", true)
  | 2 => ("FoilBazaar$Roll", "toldOwners", "[I", true)
  | 3 => ("FoilBazaar$Roll", "fencerCount", "I", false)
  | _ => ("FoilBazaar$Roll", "goodCount", "I", false)
def tyX7 : Nat → FieldType := fun k => match k with
  | 0 => .array (.object "FoilBazaar$Fencer")
  | 1 => .array .int
  | 2 => .array .int
  | 3 => .int
  | _ => .int
abbrev wsX70 : List Cond := u_ws RX7 TX7 5
theorem nmX7 : ∀ a, a < 5 → ∀ b, b < 5 → a ≠ b → (TX7 a).2.1 ≠ (TX7 b).2.1 := by decide +kernel
theorem tyX7_ok : ∀ k, k < 5 → parseFieldDescriptor (TX7 k).2.2.1 = some (tyX7 k) := by decide +kernel
abbrev cX7_init : ByteArray := prog_9_method_1_code
def yX7_init : MethodName := ⟨RX7, "<init>", "()V"⟩
abbrev cX7_hasFencer : ByteArray := prog_9_method_2_code
def yX7_hasFencer : MethodName := ⟨RX7, "hasFencer", "(I)Z"⟩
abbrev cX7_hasGood : ByteArray := prog_9_method_3_code
def yX7_hasGood : MethodName := ⟨RX7, "hasGood", "(I)Z"⟩
abbrev cX7_copyFrom : ByteArray := prog_9_method_4_code
def yX7_copyFrom : MethodName := ⟨RX7, "copyFrom", "(LFoilBazaar$Roll;)V"⟩
def RX8 : String := "FoilBazaar$Salle"
def TX8 : u_T := fun k => match k with
  | 0 => ("FoilBazaar$Salle", "roll", "LFoilBazaar$Roll;", true)
  | 1 => ("FoilBazaar$Salle", "bout", "LFoilBazaar$Bout;", true)
  | 2 => ("FoilBazaar$Salle", "held", "LFoilBazaar$Holdings;", true)
  | _ => ("FoilBazaar$Salle", "leads", "[[I", true)
def tyX8 : Nat → FieldType := fun k => match k with
  | 0 => .object "FoilBazaar$Roll"
  | 1 => .object "FoilBazaar$Bout"
  | 2 => .object "FoilBazaar$Holdings"
  | _ => .array (.array .int)
abbrev wsX80 : List Cond := u_ws RX8 TX8 4
theorem nmX8 : ∀ a, a < 4 → ∀ b, b < 4 → a ≠ b → (TX8 a).2.1 ≠ (TX8 b).2.1 := by decide +kernel
theorem tyX8_ok : ∀ k, k < 4 → parseFieldDescriptor (TX8 k).2.2.1 = some (tyX8 k) := by decide +kernel
abbrev cX8_init : ByteArray := prog_10_method_1_code
def yX8_init : MethodName := ⟨RX8, "<init>", "(LFoilBazaar$Roll;LFoilBazaar$Bout;)V"⟩
abbrev cX8_fightNow : ByteArray := prog_10_method_2_code
def yX8_fightNow : MethodName := ⟨RX8, "fightNow", "(II)V"⟩
abbrev cX8_costFor : ByteArray := prog_10_method_3_code
def yX8_costFor : MethodName := ⟨RX8, "costFor", "(II)I"⟩
abbrev cX8_letMeet : ByteArray := prog_10_method_4_code
def yX8_letMeet : MethodName := ⟨RX8, "letMeet", "(II)V"⟩
abbrev cX8_letStep : ByteArray := prog_10_method_5_code
def yX8_letStep : MethodName := ⟨RX8, "letStep", "(I)V"⟩
abbrev cX8_canTrade : ByteArray := prog_10_method_6_code
def yX8_canTrade : MethodName := ⟨RX8, "canTrade", "(II)Z"⟩
abbrev cX8_holdsTrue : ByteArray := prog_10_method_7_code
def yX8_holdsTrue : MethodName := ⟨RX8, "holdsTrue", "(III)Z"⟩
abbrev cX8_feast : ByteArray := prog_10_method_8_code
def yX8_feast : MethodName := ⟨RX8, "feast", "(I)V"⟩
abbrev cX8_goodsOf : ByteArray := prog_10_method_9_code
def yX8_goodsOf : MethodName := ⟨RX8, "goodsOf", "(I)I"⟩
abbrev cX8_goodsAbroad : ByteArray := prog_10_method_10_code
def yX8_goodsAbroad : MethodName := ⟨RX8, "goodsAbroad", "()I"⟩
abbrev cX8_compareAll : ByteArray := prog_10_method_11_code
def yX8_compareAll : MethodName := ⟨RX8, "compareAll", "()V"⟩
abbrev cX8_beatenBy : ByteArray := prog_10_method_12_code
def yX8_beatenBy : MethodName := ⟨RX8, "beatenBy", "(I)I"⟩
abbrev cX8_thoseWhoBeat : ByteArray := prog_10_method_13_code
def yX8_thoseWhoBeat : MethodName := ⟨RX8, "thoseWhoBeat", "(I)I"⟩
abbrev cX8_beatenByAnybody : ByteArray := prog_10_method_14_code
def yX8_beatenByAnybody : MethodName := ⟨RX8, "beatenByAnybody", "()I"⟩
def RX9 : String := "FoilBazaar$Sightings"
def TX9 : u_T := fun k => match k with
  | 0 => ("FoilBazaar$Sightings", "salle", "LFoilBazaar$Salle;", true)
  | 1 => ("FoilBazaar$Sightings", "mask", "LFoilBazaar$Fencer;", true)
  | 2 => ("FoilBazaar$Sightings", "seenFencers", "[I", true)
  | 3 => ("FoilBazaar$Sightings", "seenHits", "[I", true)
  | 4 => ("FoilBazaar$Sightings", "size", "I", false)
  | 5 => ("FoilBazaar$Sightings", "masks", "I", false)
  | _ => ("FoilBazaar$Sightings", "firstMask", "I", false)
def tyX9 : Nat → FieldType := fun k => match k with
  | 0 => .object "FoilBazaar$Salle"
  | 1 => .object "FoilBazaar$Fencer"
  | 2 => .array .int
  | 3 => .array .int
  | 4 => .int
  | 5 => .int
  | _ => .int
abbrev wsX90 : List Cond := u_ws RX9 TX9 7
theorem nmX9 : ∀ a, a < 7 → ∀ b, b < 7 → a ≠ b → (TX9 a).2.1 ≠ (TX9 b).2.1 := by decide +kernel
theorem tyX9_ok : ∀ k, k < 7 → parseFieldDescriptor (TX9 k).2.2.1 = some (tyX9 k) := by decide +kernel
abbrev cX9_init : ByteArray := prog_11_method_1_code
def yX9_init : MethodName := ⟨RX9, "<init>", "(LFoilBazaar$Salle;)V"⟩
abbrev cX9_add : ByteArray := prog_11_method_2_code
def yX9_add : MethodName := ⟨RX9, "add", "(II)V"⟩
abbrev cX9_findMasks : ByteArray := prog_11_method_3_code
def yX9_findMasks : MethodName := ⟨RX9, "findMasks", "()V"⟩
abbrev cX9_fitsAll : ByteArray := prog_11_method_4_code
def yX9_fitsAll : MethodName := ⟨RX9, "fitsAll", "()Z"⟩
def RX10 : String := "FoilBazaar"
def TX10 : u_T := fun k => match k with
  | 0 => ("FoilBazaar", "text", "[I", true)
  | 1 => ("FoilBazaar", "length", "I", false)
  | 2 => ("FoilBazaar", "draft", "LFoilBazaar$Roll;", true)
  | 3 => ("FoilBazaar", "reader", "LFoilBazaar$Reader;", true)
  | 4 => ("FoilBazaar", "roll", "LFoilBazaar$Roll;", true)
  | 5 => ("FoilBazaar", "bout", "LFoilBazaar$Bout;", true)
  | 6 => ("FoilBazaar", "salle", "LFoilBazaar$Salle;", true)
  | 7 => ("FoilBazaar", "trial", "LFoilBazaar$Salle;", true)
  | 8 => ("FoilBazaar", "acts", "LFoilBazaar$Acts;", true)
  | 9 => ("FoilBazaar", "counsel", "LFoilBazaar$Counsel;", true)
  | 10 => ("FoilBazaar", "chances", "LFoilBazaar$Chances;", true)
  | 11 => ("FoilBazaar", "sightings", "LFoilBazaar$Sightings;", true)
  | 12 => ("FoilBazaar", "slots", "[LFoilBazaar$Holdings;", true)
  | 13 => ("FoilBazaar", "kept", "[Z", true)
  | _ => ("FoilBazaar", "seed", "J", false)
def tyX10 : Nat → FieldType := fun k => match k with
  | 0 => .array .int
  | 1 => .int
  | 2 => .object "FoilBazaar$Roll"
  | 3 => .object "FoilBazaar$Reader"
  | 4 => .object "FoilBazaar$Roll"
  | 5 => .object "FoilBazaar$Bout"
  | 6 => .object "FoilBazaar$Salle"
  | 7 => .object "FoilBazaar$Salle"
  | 8 => .object "FoilBazaar$Acts"
  | 9 => .object "FoilBazaar$Counsel"
  | 10 => .object "FoilBazaar$Chances"
  | 11 => .object "FoilBazaar$Sightings"
  | 12 => .array (.object "FoilBazaar$Holdings")
  | 13 => .array .boolean
  | _ => .long
abbrev wsX100 : List Cond := u_ws RX10 TX10 15
theorem nmX10 : ∀ a, a < 15 → ∀ b, b < 15 → a ≠ b → (TX10 a).2.1 ≠ (TX10 b).2.1 := by decide +kernel
theorem tyX10_ok : ∀ k, k < 15 → parseFieldDescriptor (TX10 k).2.2.1 = some (tyX10 k) := by decide +kernel
abbrev cX10_init : ByteArray := prog_1_method_1_code
def yX10_init : MethodName := ⟨RX10, "<init>", "()V"⟩
abbrev cX10_write : ByteArray := prog_1_method_2_code
def yX10_write : MethodName := ⟨RX10, "write", "(I)I"⟩
abbrev cX10_wipe : ByteArray := prog_1_method_3_code
def yX10_wipe : MethodName := ⟨RX10, "wipe", "()I"⟩
abbrev cX10_fault : ByteArray := prog_1_method_4_code
def yX10_fault : MethodName := ⟨RX10, "fault", "()I"⟩
abbrev cX10_bazaar : ByteArray := prog_1_method_5_code
def yX10_bazaar : MethodName := ⟨RX10, "bazaar", "()I"⟩
abbrev cX10_fencer : ByteArray := prog_1_method_6_code
def yX10_fencer : MethodName := ⟨RX10, "fencer", "(II)I"⟩
abbrev cX10_good : ByteArray := prog_1_method_7_code
def yX10_good : MethodName := ⟨RX10, "good", "(II)I"⟩
abbrev cX10_bout : ByteArray := prog_1_method_8_code
def yX10_bout : MethodName := ⟨RX10, "bout", "(III)I"⟩
abbrev cX10_cost : ByteArray := prog_1_method_9_code
def yX10_cost : MethodName := ⟨RX10, "cost", "(II)I"⟩
abbrev cX10_meet : ByteArray := prog_1_method_10_code
def yX10_meet : MethodName := ⟨RX10, "meet", "(II)I"⟩
abbrev cX10_step : ByteArray := prog_1_method_11_code
def yX10_step : MethodName := ⟨RX10, "step", "(I)I"⟩
abbrev cX10_salute : ByteArray := prog_1_method_12_code
def yX10_salute : MethodName := ⟨RX10, "salute", "(II)I"⟩
abbrev cX10_undo : ByteArray := prog_1_method_13_code
def yX10_undo : MethodName := ⟨RX10, "undo", "()I"⟩
abbrev cX10_chain : ByteArray := prog_1_method_14_code
def yX10_chain : MethodName := ⟨RX10, "chain", "(III)I"⟩
abbrev cX10_order : ByteArray := prog_1_method_15_code
def yX10_order : MethodName := ⟨RX10, "order", "(I)I"⟩
abbrev cX10_judge : ByteArray := prog_1_method_16_code
def yX10_judge : MethodName := ⟨RX10, "judge", "(IJ)I"⟩
abbrev cX10_see : ByteArray := prog_1_method_17_code
def yX10_see : MethodName := ⟨RX10, "see", "(II)I"⟩
abbrev cX10_unsee : ByteArray := prog_1_method_18_code
def yX10_unsee : MethodName := ⟨RX10, "unsee", "()I"⟩
abbrev cX10_masks : ByteArray := prog_1_method_19_code
def yX10_masks : MethodName := ⟨RX10, "masks", "(I)I"⟩
abbrev cX10_share : ByteArray := prog_1_method_20_code
def yX10_share : MethodName := ⟨RX10, "share", "(IZ)I"⟩
abbrev cX10_rests : ByteArray := prog_1_method_21_code
def yX10_rests : MethodName := ⟨RX10, "rests", "(III)I"⟩
abbrev cX10_clouded : ByteArray := prog_1_method_22_code
def yX10_clouded : MethodName := ⟨RX10, "clouded", "(IIIZ)I"⟩
abbrev cX10_seed : ByteArray := prog_1_method_23_code
def yX10_seed : MethodName := ⟨RX10, "seed", "(J)J"⟩
abbrev cX10_feasts : ByteArray := prog_1_method_24_code
def yX10_feasts : MethodName := ⟨RX10, "feasts", "(I)I"⟩
abbrev cX10_keep : ByteArray := prog_1_method_25_code
def yX10_keep : MethodName := ⟨RX10, "keep", "(I)I"⟩
abbrev cX10_again : ByteArray := prog_1_method_26_code
def yX10_again : MethodName := ⟨RX10, "again", "(I)I"⟩
abbrev cX10_count : ByteArray := prog_1_method_27_code
def yX10_count : MethodName := ⟨RX10, "count", "(I)I"⟩
abbrev cX10_refusalOfPair : ByteArray := prog_1_method_28_code
def yX10_refusalOfPair : MethodName := ⟨RX10, "refusalOfPair", "(IIII)I"⟩
abbrev cX10_refusalOfTrade : ByteArray := prog_1_method_29_code
def yX10_refusalOfTrade : MethodName := ⟨RX10, "refusalOfTrade", "(II)I"⟩
abbrev cX10_sumOf : ByteArray := prog_1_method_30_code
def yX10_sumOf : MethodName := ⟨RX10, "sumOf", "([I)I"⟩
def RX11 : String := "FoilBazaarModel"
def TX11 : u_T := fun k => match k with
  | 0 => ("FoilBazaarModel", "fencers", "I", false)
  | 1 => ("FoilBazaarModel", "goods", "I", false)
  | 2 => ("FoilBazaarModel", "kind", "[I", true)
  | 3 => ("FoilBazaarModel", "move", "[I", true)
  | 4 => ("FoilBazaarModel", "told", "[I", true)
  | 5 => ("FoilBazaarModel", "price", "[I", true)
  | 6 => ("FoilBazaarModel", "now", "[I", true)
  | 7 => ("FoilBazaarModel", "readFencer", "[I", true)
  | 8 => ("FoilBazaarModel", "readGood", "[I", true)
  | 9 => ("FoilBazaarModel", "readFencers", "I", false)
  | 10 => ("FoilBazaarModel", "readGoods", "I", false)
  | 11 => ("FoilBazaarModel", "text", "[I", true)
  | 12 => ("FoilBazaarModel", "length", "I", false)
  | 13 => ("FoilBazaarModel", "at", "I", false)
  | 14 => ("FoilBazaarModel", "faultAt", "I", false)
  | 15 => ("FoilBazaarModel", "hitsOne", "I", false)
  | 16 => ("FoilBazaarModel", "hitsOther", "I", false)
  | 17 => ("FoilBazaarModel", "passes", "I", false)
  | 18 => ("FoilBazaarModel", "moveOne", "I", false)
  | 19 => ("FoilBazaarModel", "moveOther", "I", false)
  | 20 => ("FoilBazaarModel", "acts", "I", false)
  | 21 => ("FoilBazaarModel", "next", "I", false)
  | 22 => ("FoilBazaarModel", "row", "[I", true)
  | 23 => ("FoilBazaarModel", "sum", "[I", true)
  | 24 => ("FoilBazaarModel", "stands", "[I", true)
  | 25 => ("FoilBazaarModel", "beatSets", "[I", true)
  | 26 => ("FoilBazaarModel", "seen", "I", false)
  | 27 => ("FoilBazaarModel", "seenWith", "[I", true)
  | 28 => ("FoilBazaarModel", "seenHits", "[I", true)
  | 29 => ("FoilBazaarModel", "seed", "J", false)
  | 30 => ("FoilBazaarModel", "isKept", "[Z", true)
  | _ => ("FoilBazaarModel", "kept", "[I", true)
def tyX11 : Nat → FieldType := fun k => match k with
  | 0 => .int
  | 1 => .int
  | 2 => .array .int
  | 3 => .array .int
  | 4 => .array .int
  | 5 => .array .int
  | 6 => .array .int
  | 7 => .array .int
  | 8 => .array .int
  | 9 => .int
  | 10 => .int
  | 11 => .array .int
  | 12 => .int
  | 13 => .int
  | 14 => .int
  | 15 => .int
  | 16 => .int
  | 17 => .int
  | 18 => .int
  | 19 => .int
  | 20 => .int
  | 21 => .int
  | 22 => .array .int
  | 23 => .array .int
  | 24 => .array .int
  | 25 => .array .int
  | 26 => .int
  | 27 => .array .int
  | 28 => .array .int
  | 29 => .long
  | 30 => .array .boolean
  | _ => .array .int
abbrev wsX110 : List Cond := u_ws RX11 TX11 32
theorem nmX11 : ∀ a, a < 32 → ∀ b, b < 32 → a ≠ b → (TX11 a).2.1 ≠ (TX11 b).2.1 := by decide +kernel
theorem tyX11_ok : ∀ k, k < 32 → parseFieldDescriptor (TX11 k).2.2.1 = some (tyX11 k) := by decide +kernel
abbrev cX11_init : ByteArray := prog_13_method_1_code
def yX11_init : MethodName := ⟨RX11, "<init>", "()V"⟩
abbrev cX11_in : ByteArray := prog_13_method_3_code
def yX11_in : MethodName := ⟨RX11, "in", "(JJJ)Z"⟩
abbrev cX11_has : ByteArray := prog_13_method_4_code
def yX11_has : MethodName := ⟨RX11, "has", "(II)Z"⟩
abbrev cX11_ones : ByteArray := prog_13_method_5_code
def yX11_ones : MethodName := ⟨RX11, "ones", "(I)I"⟩
abbrev cX11_write : ByteArray := prog_13_method_6_code
def yX11_write : MethodName := ⟨RX11, "write", "(I)I"⟩
abbrev cX11_wipe : ByteArray := prog_13_method_7_code
def yX11_wipe : MethodName := ⟨RX11, "wipe", "()I"⟩
abbrev cX11_figureOf : ByteArray := prog_13_method_8_code
def yX11_figureOf : MethodName := ⟨RX11, "figureOf", "(I)I"⟩
abbrev cX11_moveBy : ByteArray := prog_13_method_9_code
def yX11_moveBy : MethodName := ⟨RX11, "moveBy", "(I)I"⟩
abbrev cX11_moveOf : ByteArray := prog_13_method_10_code
def yX11_moveOf : MethodName := ⟨RX11, "moveOf", "()I"⟩
abbrev cX11_readText : ByteArray := prog_13_method_11_code
def yX11_readText : MethodName := ⟨RX11, "readText", "()I"⟩
abbrev cX11_readPart : ByteArray := prog_13_method_12_code
def yX11_readPart : MethodName := ⟨RX11, "readPart", "(I)V"⟩
abbrev cX11_fault : ByteArray := prog_13_method_13_code
def yX11_fault : MethodName := ⟨RX11, "fault", "()I"⟩
abbrev cX11_bazaar : ByteArray := prog_13_method_14_code
def yX11_bazaar : MethodName := ⟨RX11, "bazaar", "()I"⟩
abbrev cX11_isFencer : ByteArray := prog_13_method_15_code
def yX11_isFencer : MethodName := ⟨RX11, "isFencer", "(I)Z"⟩
abbrev cX11_isGood : ByteArray := prog_13_method_16_code
def yX11_isGood : MethodName := ⟨RX11, "isGood", "(I)Z"⟩
abbrev cX11_answer : ByteArray := prog_13_method_17_code
def yX11_answer : MethodName := ⟨RX11, "answer", "(I)I"⟩
abbrev cX11_moveIn : ByteArray := prog_13_method_18_code
def yX11_moveIn : MethodName := ⟨RX11, "moveIn", "(IIII)I"⟩
abbrev cX11_hits : ByteArray := prog_13_method_19_code
def yX11_hits : MethodName := ⟨RX11, "hits", "(II)Z"⟩
abbrev cX11_pass : ByteArray := prog_13_method_20_code
def yX11_pass : MethodName := ⟨RX11, "pass", "(IIIIZ)V"⟩
abbrev cX11_begin : ByteArray := prog_13_method_21_code
def yX11_begin : MethodName := ⟨RX11, "begin", "()V"⟩
abbrev cX11_fight : ByteArray := prog_13_method_22_code
def yX11_fight : MethodName := ⟨RX11, "fight", "(IIII)V"⟩
abbrev cX11_fightOn : ByteArray := prog_13_method_23_code
def yX11_fightOn : MethodName := ⟨RX11, "fightOn", "(III)V"⟩
abbrev cX11_beats : ByteArray := prog_13_method_24_code
def yX11_beats : MethodName := ⟨RX11, "beats", "(III)Z"⟩
abbrev cX11_beatenBy : ByteArray := prog_13_method_25_code
def yX11_beatenBy : MethodName := ⟨RX11, "beatenBy", "(I)I"⟩
abbrev cX11_ownedBy : ByteArray := prog_13_method_26_code
def yX11_ownedBy : MethodName := ⟨RX11, "ownedBy", "(I)I"⟩
abbrev cX11_fencer : ByteArray := prog_13_method_27_code
def yX11_fencer : MethodName := ⟨RX11, "fencer", "(II)I"⟩
abbrev cX11_good : ByteArray := prog_13_method_28_code
def yX11_good : MethodName := ⟨RX11, "good", "(II)I"⟩
abbrev cX11_bout : ByteArray := prog_13_method_29_code
def yX11_bout : MethodName := ⟨RX11, "bout", "(III)I"⟩
abbrev cX11_costFrom : ByteArray := prog_13_method_30_code
def yX11_costFrom : MethodName := ⟨RX11, "costFrom", "(IIII)I"⟩
abbrev cX11_cost : ByteArray := prog_13_method_31_code
def yX11_cost : MethodName := ⟨RX11, "cost", "(II)I"⟩
abbrev cX11_keepAct : ByteArray := prog_13_method_32_code
def yX11_keepAct : MethodName := ⟨RX11, "keepAct", "()V"⟩
abbrev cX11_stepOn : ByteArray := prog_13_method_33_code
def yX11_stepOn : MethodName := ⟨RX11, "stepOn", "(II)V"⟩
abbrev cX11_giveOn : ByteArray := prog_13_method_34_code
def yX11_giveOn : MethodName := ⟨RX11, "giveOn", "(III)V"⟩
abbrev cX11_meetOn : ByteArray := prog_13_method_35_code
def yX11_meetOn : MethodName := ⟨RX11, "meetOn", "(III)Z"⟩
abbrev cX11_meet : ByteArray := prog_13_method_36_code
def yX11_meet : MethodName := ⟨RX11, "meet", "(II)I"⟩
abbrev cX11_step : ByteArray := prog_13_method_37_code
def yX11_step : MethodName := ⟨RX11, "step", "(I)I"⟩
abbrev cX11_salute : ByteArray := prog_13_method_38_code
def yX11_salute : MethodName := ⟨RX11, "salute", "(II)I"⟩
abbrev cX11_undo : ByteArray := prog_13_method_39_code
def yX11_undo : MethodName := ⟨RX11, "undo", "()I"⟩
abbrev cX11_sumsTo : ByteArray := prog_13_method_40_code
def yX11_sumsTo : MethodName := ⟨RX11, "sumsTo", "(II)V"⟩
abbrev cX11_chain : ByteArray := prog_13_method_41_code
def yX11_chain : MethodName := ⟨RX11, "chain", "(III)I"⟩
abbrev cX11_nextOrder : ByteArray := prog_13_method_42_code
def yX11_nextOrder : MethodName := ⟨RX11, "nextOrder", "()Z"⟩
abbrev cX11_swap : ByteArray := prog_13_method_43_code
def yX11_swap : MethodName := ⟨RX11, "swap", "(II)V"⟩
abbrev cX11_against : ByteArray := prog_13_method_44_code
def yX11_against : MethodName := ⟨RX11, "against", "()I"⟩
abbrev cX11_figures : ByteArray := prog_13_method_45_code
def yX11_figures : MethodName := ⟨RX11, "figures", "()I"⟩
abbrev cX11_order : ByteArray := prog_13_method_46_code
def yX11_order : MethodName := ⟨RX11, "order", "(I)I"⟩
abbrev cX11_layTrial : ByteArray := prog_13_method_47_code
def yX11_layTrial : MethodName := ⟨RX11, "layTrial", "()V"⟩
abbrev cX11_tryThing : ByteArray := prog_13_method_48_code
def yX11_tryThing : MethodName := ⟨RX11, "tryThing", "(III)Z"⟩
abbrev cX11_thousandTo : ByteArray := prog_13_method_49_code
def yX11_thousandTo : MethodName := ⟨RX11, "thousandTo", "(I)J"⟩
abbrev cX11_judge : ByteArray := prog_13_method_50_code
def yX11_judge : MethodName := ⟨RX11, "judge", "(IJ)I"⟩
abbrev cX11_see : ByteArray := prog_13_method_51_code
def yX11_see : MethodName := ⟨RX11, "see", "(II)I"⟩
abbrev cX11_unsee : ByteArray := prog_13_method_52_code
def yX11_unsee : MethodName := ⟨RX11, "unsee", "()I"⟩
abbrev cX11_mayBeMask : ByteArray := prog_13_method_53_code
def yX11_mayBeMask : MethodName := ⟨RX11, "mayBeMask", "(III)Z"⟩
abbrev cX11_masks : ByteArray := prog_13_method_54_code
def yX11_masks : MethodName := ⟨RX11, "masks", "(I)I"⟩
abbrev cX11_factorial : ByteArray := prog_13_method_55_code
def yX11_factorial : MethodName := ⟨RX11, "factorial", "(I)I"⟩
abbrev cX11_common : ByteArray := prog_13_method_56_code
def yX11_common : MethodName := ⟨RX11, "common", "(II)I"⟩
abbrev cX11_beatenBySome : ByteArray := prog_13_method_57_code
def yX11_beatenBySome : MethodName := ⟨RX11, "beatenBySome", "(I)I"⟩
abbrev cX11_share : ByteArray := prog_13_method_58_code
def yX11_share : MethodName := ⟨RX11, "share", "(IZ)I"⟩
abbrev cX11_more : ByteArray := prog_13_method_59_code
def yX11_more : MethodName := ⟨RX11, "more", "(IIII)I"⟩
abbrev cX11_isRest : ByteArray := prog_13_method_60_code
def yX11_isRest : MethodName := ⟨RX11, "isRest", "(IIII)Z"⟩
abbrev cX11_rests : ByteArray := prog_13_method_61_code
def yX11_rests : MethodName := ⟨RX11, "rests", "(III)I"⟩
abbrev cX11_power : ByteArray := prog_13_method_62_code
def yX11_power : MethodName := ⟨RX11, "power", "(II)I"⟩
abbrev cX11_clouded : ByteArray := prog_13_method_63_code
def yX11_clouded : MethodName := ⟨RX11, "clouded", "(IIIZ)I"⟩
abbrev cX11_seed : ByteArray := prog_13_method_64_code
def yX11_seed : MethodName := ⟨RX11, "seed", "(J)J"⟩
abbrev cX11_strayed : ByteArray := prog_13_method_65_code
def yX11_strayed : MethodName := ⟨RX11, "strayed", "(I)I"⟩
abbrev cX11_feasts : ByteArray := prog_13_method_66_code
def yX11_feasts : MethodName := ⟨RX11, "feasts", "(I)I"⟩
abbrev cX11_keep : ByteArray := prog_13_method_67_code
def yX11_keep : MethodName := ⟨RX11, "keep", "(I)I"⟩
abbrev cX11_again : ByteArray := prog_13_method_68_code
def yX11_again : MethodName := ⟨RX11, "again", "(I)I"⟩
abbrev cX11_together : ByteArray := prog_13_method_69_code
def yX11_together : MethodName := ⟨RX11, "together", "(I)I"⟩
abbrev cX11_beaten : ByteArray := prog_13_method_70_code
def yX11_beaten : MethodName := ⟨RX11, "beaten", "()I"⟩
abbrev cX11_count : ByteArray := prog_13_method_71_code
def yX11_count : MethodName := ⟨RX11, "count", "(I)I"⟩
def RJ6 : String := "java/lang/Integer"
def TJ6 : u_T := fun k => match k with
  | _ => ("", "", "", false)
def tyJ6 : Nat → FieldType := fun k => match k with
  | _ => .int
theorem tyJ6_ok : ∀ k, k < 0 → parseFieldDescriptor (TJ6 k).2.2.1 = some (tyJ6 k) := by decide +kernel
abbrev cJ6_bitCount_0f7a4 : ByteArray := prog_14_method_49_code
def yJ6_bitCount_0f7a4 : MethodName := ⟨RJ6, "bitCount", "(I)I"⟩
def RJ9 : String := "java/lang/Math"
def TJ9 : u_T := fun k => match k with
  | _ => ("", "", "", false)
def tyJ9 : Nat → FieldType := fun k => match k with
  | _ => .int
theorem tyJ9_ok : ∀ k, k < 0 → parseFieldDescriptor (TJ9 k).2.2.1 = some (tyJ9 k) := by decide +kernel
abbrev cJ9_max_7cf53 : ByteArray := prog_15_method_65_code
def yJ9_max_7cf53 : MethodName := ⟨RJ9, "max", "(II)I"⟩
abbrev cJ9_min_7cf53 : ByteArray := prog_15_method_69_code
def yJ9_min_7cf53 : MethodName := ⟨RJ9, "min", "(II)I"⟩
def RJ10 : String := "java/lang/System"
def TJ10 : u_T := fun k => match k with
  | _ => ("", "", "", false)
def tyJ10 : Nat → FieldType := fun k => match k with
  | _ => .int
theorem tyJ10_ok : ∀ k, k < 0 → parseFieldDescriptor (TJ10 k).2.2.1 = some (tyJ10 k) := by decide +kernel
def RJ7 : String := "java/util/Arrays"
def TJ7 : u_T := fun k => match k with
  | _ => ("", "", "", false)
def tyJ7 : Nat → FieldType := fun k => match k with
  | _ => .int
theorem tyJ7_ok : ∀ k, k < 0 → parseFieldDescriptor (TJ7 k).2.2.1 = some (tyJ7 k) := by decide +kernel
abbrev cJ7_fill_53178 : ByteArray := prog_17_method_103_code
def yJ7_fill_53178 : MethodName := ⟨RJ7, "fill", "([II)V"⟩
def RL : String := "FoilBazaarLaw"
abbrev cL_law : ByteArray := code
def yL_law : MethodName := ⟨RL, "law", "([I)Z"⟩
abbrev vwCl : List vw_C := [(RX0, TX0, 2), (RX1, TX1, 4), (RX2, TX2, 6), (RX3, TX3, 6), (RX4, TX4, 2), (RX5, TX5, 4), (RX6, TX6, 3), (RX7, TX7, 5), (RX8, TX8, 4), (RX9, TX9, 7), (RX10, TX10, 15), (RX11, TX11, 32)]

/-- the instruction at pc, its length, the place behind it -/
def In (cc : ByteArray) (pc : Nat) (i : Instr) (n pc' : Nat) : Prop := decode cc pc = .ok (i, n) ∧ pc + n = pc'
/-- a jump at pc: its offset, the place behind it, its target -/
def Jn (cc : ByteArray) (pc : Nat) (i : Instr) (off : Int) (pc' tgt : Nat) : Prop := decode cc pc = .ok (i, 3) ∧ pc + 3 = pc' ∧ (pc : Int) + off = (tgt : Int)
end
section
theorem iX0_init_0 : In cX0_init 0 (.aload_n 0) 1 1 := ⟨by decide +kernel, rfl⟩
theorem iX0_init_1 : In cX0_init 1 (.invokespecial 3) 3 4 := ⟨by decide +kernel, rfl⟩
theorem iX0_init_4 : In cX0_init 4 (.aload_n 0) 1 5 := ⟨by decide +kernel, rfl⟩
theorem iX0_init_5 : In cX0_init 5 (.bipush 14) 2 7 := ⟨by decide +kernel, rfl⟩
theorem iX0_init_7 : In cX0_init 7 (.anewarray 9) 3 10 := ⟨by decide +kernel, rfl⟩
theorem iX0_init_10 : In cX0_init 10 (.putfield 11) 3 13 := ⟨by decide +kernel, rfl⟩
theorem iX0_init_13 : In cX0_init 13 (.iconst 0) 1 14 := ⟨by decide +kernel, rfl⟩
theorem iX0_init_14 : In cX0_init 14 (.istore_n 1) 1 15 := ⟨by decide +kernel, rfl⟩
theorem iX0_init_15 : In cX0_init 15 (.iload_n 1) 1 16 := ⟨by decide +kernel, rfl⟩
theorem iX0_init_16 : In cX0_init 16 (.bipush 14) 2 18 := ⟨by decide +kernel, rfl⟩
theorem iX0_init_18 : Jn cX0_init 18 (.if_icmp .ge 22) (22) 21 40 := ⟨by decide +kernel, rfl, by decide⟩
theorem iX0_init_21 : In cX0_init 21 (.aload_n 0) 1 22 := ⟨by decide +kernel, rfl⟩
theorem iX0_init_22 : In cX0_init 22 (.getfield 11) 3 25 := ⟨by decide +kernel, rfl⟩
theorem iX0_init_25 : In cX0_init 25 (.iload_n 1) 1 26 := ⟨by decide +kernel, rfl⟩
theorem iX0_init_26 : In cX0_init 26 (.new 9) 3 29 := ⟨by decide +kernel, rfl⟩
theorem iX0_init_29 : In cX0_init 29 (.dup) 1 30 := ⟨by decide +kernel, rfl⟩
theorem iX0_init_30 : In cX0_init 30 (.invokespecial 17) 3 33 := ⟨by decide +kernel, rfl⟩
theorem iX0_init_33 : In cX0_init 33 (.aastore) 1 34 := ⟨by decide +kernel, rfl⟩
theorem iX0_init_34 : In cX0_init 34 (.iinc 1 1) 3 37 := ⟨by decide +kernel, rfl⟩
theorem iX0_init_37 : Jn cX0_init 37 (.goto (-22)) (-22) 40 15 := ⟨by decide +kernel, rfl, by decide⟩
theorem iX0_init_40 : In cX0_init 40 (.return_) 1 41 := ⟨by decide +kernel, rfl⟩
theorem iX0_remember_0 : In cX0_remember 0 (.aload_n 0) 1 1 := ⟨by decide +kernel, rfl⟩
theorem iX0_remember_1 : In cX0_remember 1 (.getfield 18) 3 4 := ⟨by decide +kernel, rfl⟩
theorem iX0_remember_4 : In cX0_remember 4 (.bipush 14) 2 6 := ⟨by decide +kernel, rfl⟩
theorem iX0_remember_6 : Jn cX0_remember 6 (.if_icmp .lt 7) (7) 9 13 := ⟨by decide +kernel, rfl, by decide⟩
theorem iX0_remember_9 : In cX0_remember 9 (.aload_n 0) 1 10 := ⟨by decide +kernel, rfl⟩
theorem iX0_remember_10 : In cX0_remember 10 (.invokevirtual 22) 3 13 := ⟨by decide +kernel, rfl⟩
theorem iX0_remember_13 : In cX0_remember 13 (.aload_n 0) 1 14 := ⟨by decide +kernel, rfl⟩
theorem iX0_remember_14 : In cX0_remember 14 (.getfield 11) 3 17 := ⟨by decide +kernel, rfl⟩
theorem iX0_remember_17 : In cX0_remember 17 (.aload_n 0) 1 18 := ⟨by decide +kernel, rfl⟩
theorem iX0_remember_18 : In cX0_remember 18 (.getfield 18) 3 21 := ⟨by decide +kernel, rfl⟩
theorem iX0_remember_21 : In cX0_remember 21 (.aaload) 1 22 := ⟨by decide +kernel, rfl⟩
theorem iX0_remember_22 : In cX0_remember 22 (.aload_n 1) 1 23 := ⟨by decide +kernel, rfl⟩
theorem iX0_remember_23 : In cX0_remember 23 (.invokevirtual 25) 3 26 := ⟨by decide +kernel, rfl⟩
theorem iX0_remember_26 : In cX0_remember 26 (.aload_n 0) 1 27 := ⟨by decide +kernel, rfl⟩
theorem iX0_remember_27 : In cX0_remember 27 (.dup) 1 28 := ⟨by decide +kernel, rfl⟩
theorem iX0_remember_28 : In cX0_remember 28 (.getfield 18) 3 31 := ⟨by decide +kernel, rfl⟩
theorem iX0_remember_31 : In cX0_remember 31 (.iconst 1) 1 32 := ⟨by decide +kernel, rfl⟩
theorem iX0_remember_32 : In cX0_remember 32 (.iadd) 1 33 := ⟨by decide +kernel, rfl⟩
theorem iX0_remember_33 : In cX0_remember 33 (.putfield 18) 3 36 := ⟨by decide +kernel, rfl⟩
theorem iX0_remember_36 : In cX0_remember 36 (.return_) 1 37 := ⟨by decide +kernel, rfl⟩
theorem iX0_forgetFirst_0 : In cX0_forgetFirst 0 (.aload_n 0) 1 1 := ⟨by decide +kernel, rfl⟩
theorem iX0_forgetFirst_1 : In cX0_forgetFirst 1 (.getfield 11) 3 4 := ⟨by decide +kernel, rfl⟩
theorem iX0_forgetFirst_4 : In cX0_forgetFirst 4 (.iconst 0) 1 5 := ⟨by decide +kernel, rfl⟩
theorem iX0_forgetFirst_5 : In cX0_forgetFirst 5 (.aaload) 1 6 := ⟨by decide +kernel, rfl⟩
theorem iX0_forgetFirst_6 : In cX0_forgetFirst 6 (.astore_n 1) 1 7 := ⟨by decide +kernel, rfl⟩
theorem iX0_forgetFirst_7 : In cX0_forgetFirst 7 (.iconst 1) 1 8 := ⟨by decide +kernel, rfl⟩
theorem iX0_forgetFirst_8 : In cX0_forgetFirst 8 (.istore_n 2) 1 9 := ⟨by decide +kernel, rfl⟩
theorem iX0_forgetFirst_9 : In cX0_forgetFirst 9 (.iload_n 2) 1 10 := ⟨by decide +kernel, rfl⟩
theorem iX0_forgetFirst_10 : In cX0_forgetFirst 10 (.bipush 14) 2 12 := ⟨by decide +kernel, rfl⟩
theorem iX0_forgetFirst_12 : Jn cX0_forgetFirst 12 (.if_icmp .ge 23) (23) 15 35 := ⟨by decide +kernel, rfl, by decide⟩
theorem iX0_forgetFirst_15 : In cX0_forgetFirst 15 (.aload_n 0) 1 16 := ⟨by decide +kernel, rfl⟩
theorem iX0_forgetFirst_16 : In cX0_forgetFirst 16 (.getfield 11) 3 19 := ⟨by decide +kernel, rfl⟩
theorem iX0_forgetFirst_19 : In cX0_forgetFirst 19 (.iload_n 2) 1 20 := ⟨by decide +kernel, rfl⟩
theorem iX0_forgetFirst_20 : In cX0_forgetFirst 20 (.iconst 1) 1 21 := ⟨by decide +kernel, rfl⟩
theorem iX0_forgetFirst_21 : In cX0_forgetFirst 21 (.isub) 1 22 := ⟨by decide +kernel, rfl⟩
theorem iX0_forgetFirst_22 : In cX0_forgetFirst 22 (.aload_n 0) 1 23 := ⟨by decide +kernel, rfl⟩
theorem iX0_forgetFirst_23 : In cX0_forgetFirst 23 (.getfield 11) 3 26 := ⟨by decide +kernel, rfl⟩
theorem iX0_forgetFirst_26 : In cX0_forgetFirst 26 (.iload_n 2) 1 27 := ⟨by decide +kernel, rfl⟩
theorem iX0_forgetFirst_27 : In cX0_forgetFirst 27 (.aaload) 1 28 := ⟨by decide +kernel, rfl⟩
theorem iX0_forgetFirst_28 : In cX0_forgetFirst 28 (.aastore) 1 29 := ⟨by decide +kernel, rfl⟩
theorem iX0_forgetFirst_29 : In cX0_forgetFirst 29 (.iinc 2 1) 3 32 := ⟨by decide +kernel, rfl⟩
theorem iX0_forgetFirst_32 : Jn cX0_forgetFirst 32 (.goto (-23)) (-23) 35 9 := ⟨by decide +kernel, rfl, by decide⟩
theorem iX0_forgetFirst_35 : In cX0_forgetFirst 35 (.aload_n 0) 1 36 := ⟨by decide +kernel, rfl⟩
theorem iX0_forgetFirst_36 : In cX0_forgetFirst 36 (.getfield 11) 3 39 := ⟨by decide +kernel, rfl⟩
theorem iX0_forgetFirst_39 : In cX0_forgetFirst 39 (.bipush 13) 2 41 := ⟨by decide +kernel, rfl⟩
theorem iX0_forgetFirst_41 : In cX0_forgetFirst 41 (.aload_n 1) 1 42 := ⟨by decide +kernel, rfl⟩
theorem iX0_forgetFirst_42 : In cX0_forgetFirst 42 (.aastore) 1 43 := ⟨by decide +kernel, rfl⟩
theorem iX0_forgetFirst_43 : In cX0_forgetFirst 43 (.aload_n 0) 1 44 := ⟨by decide +kernel, rfl⟩
theorem iX0_forgetFirst_44 : In cX0_forgetFirst 44 (.bipush 13) 2 46 := ⟨by decide +kernel, rfl⟩
theorem iX0_forgetFirst_46 : In cX0_forgetFirst 46 (.putfield 18) 3 49 := ⟨by decide +kernel, rfl⟩
theorem iX0_forgetFirst_49 : In cX0_forgetFirst 49 (.return_) 1 50 := ⟨by decide +kernel, rfl⟩
theorem iX0_takeBack_0 : In cX0_takeBack 0 (.aload_n 0) 1 1 := ⟨by decide +kernel, rfl⟩
theorem iX0_takeBack_1 : In cX0_takeBack 1 (.getfield 18) 3 4 := ⟨by decide +kernel, rfl⟩
theorem iX0_takeBack_4 : Jn cX0_takeBack 4 (.ifCond .le 26) (26) 7 30 := ⟨by decide +kernel, rfl, by decide⟩
theorem iX0_takeBack_7 : In cX0_takeBack 7 (.aload_n 0) 1 8 := ⟨by decide +kernel, rfl⟩
theorem iX0_takeBack_8 : In cX0_takeBack 8 (.dup) 1 9 := ⟨by decide +kernel, rfl⟩
theorem iX0_takeBack_9 : In cX0_takeBack 9 (.getfield 18) 3 12 := ⟨by decide +kernel, rfl⟩
theorem iX0_takeBack_12 : In cX0_takeBack 12 (.iconst 1) 1 13 := ⟨by decide +kernel, rfl⟩
theorem iX0_takeBack_13 : In cX0_takeBack 13 (.isub) 1 14 := ⟨by decide +kernel, rfl⟩
theorem iX0_takeBack_14 : In cX0_takeBack 14 (.putfield 18) 3 17 := ⟨by decide +kernel, rfl⟩
theorem iX0_takeBack_17 : In cX0_takeBack 17 (.aload_n 1) 1 18 := ⟨by decide +kernel, rfl⟩
theorem iX0_takeBack_18 : In cX0_takeBack 18 (.aload_n 0) 1 19 := ⟨by decide +kernel, rfl⟩
theorem iX0_takeBack_19 : In cX0_takeBack 19 (.getfield 11) 3 22 := ⟨by decide +kernel, rfl⟩
theorem iX0_takeBack_22 : In cX0_takeBack 22 (.aload_n 0) 1 23 := ⟨by decide +kernel, rfl⟩
theorem iX0_takeBack_23 : In cX0_takeBack 23 (.getfield 18) 3 26 := ⟨by decide +kernel, rfl⟩
theorem iX0_takeBack_26 : In cX0_takeBack 26 (.aaload) 1 27 := ⟨by decide +kernel, rfl⟩
theorem iX0_takeBack_27 : In cX0_takeBack 27 (.invokevirtual 25) 3 30 := ⟨by decide +kernel, rfl⟩
theorem iX0_takeBack_30 : In cX0_takeBack 30 (.return_) 1 31 := ⟨by decide +kernel, rfl⟩
theorem iX0_forget_0 : In cX0_forget 0 (.aload_n 0) 1 1 := ⟨by decide +kernel, rfl⟩
theorem iX0_forget_1 : In cX0_forget 1 (.iconst 0) 1 2 := ⟨by decide +kernel, rfl⟩
theorem iX0_forget_2 : In cX0_forget 2 (.putfield 18) 3 5 := ⟨by decide +kernel, rfl⟩
theorem iX0_forget_5 : In cX0_forget 5 (.return_) 1 6 := ⟨by decide +kernel, rfl⟩
theorem iX1_init_0 : In cX1_init 0 (.aload_n 0) 1 1 := ⟨by decide +kernel, rfl⟩
theorem iX1_init_1 : In cX1_init 1 (.invokespecial 3) 3 4 := ⟨by decide +kernel, rfl⟩
theorem iX1_init_4 : In cX1_init 4 (.aload_n 0) 1 5 := ⟨by decide +kernel, rfl⟩
theorem iX1_init_5 : In cX1_init 5 (.bipush 9) 2 7 := ⟨by decide +kernel, rfl⟩
theorem iX1_init_7 : In cX1_init 7 (.newarray .int) 2 9 := ⟨by decide +kernel, rfl⟩
theorem iX1_init_9 : In cX1_init 9 (.putfield 9) 3 12 := ⟨by decide +kernel, rfl⟩
theorem iX1_init_12 : In cX1_init 12 (.return_) 1 13 := ⟨by decide +kernel, rfl⟩
theorem iX1_fight_0 : In cX1_fight 0 (.aload_n 0) 1 1 := ⟨by decide +kernel, rfl⟩
theorem iX1_fight_1 : In cX1_fight 1 (.iconst 0) 1 2 := ⟨by decide +kernel, rfl⟩
theorem iX1_fight_2 : In cX1_fight 2 (.putfield 15) 3 5 := ⟨by decide +kernel, rfl⟩
theorem iX1_fight_5 : In cX1_fight 5 (.aload_n 0) 1 6 := ⟨by decide +kernel, rfl⟩
theorem iX1_fight_6 : In cX1_fight 6 (.iconst 0) 1 7 := ⟨by decide +kernel, rfl⟩
theorem iX1_fight_7 : In cX1_fight 7 (.putfield 19) 3 10 := ⟨by decide +kernel, rfl⟩
theorem iX1_fight_10 : In cX1_fight 10 (.aload_n 0) 1 11 := ⟨by decide +kernel, rfl⟩
theorem iX1_fight_11 : In cX1_fight 11 (.iconst 0) 1 12 := ⟨by decide +kernel, rfl⟩
theorem iX1_fight_12 : In cX1_fight 12 (.putfield 22) 3 15 := ⟨by decide +kernel, rfl⟩
theorem iX1_fight_15 : In cX1_fight 15 (.iconst 0) 1 16 := ⟨by decide +kernel, rfl⟩
theorem iX1_fight_16 : In cX1_fight 16 (.istore 7) 2 18 := ⟨by decide +kernel, rfl⟩
theorem iX1_fight_18 : In cX1_fight 18 (.iconst 0) 1 19 := ⟨by decide +kernel, rfl⟩
theorem iX1_fight_19 : In cX1_fight 19 (.istore 8) 2 21 := ⟨by decide +kernel, rfl⟩
theorem iX1_fight_21 : In cX1_fight 21 (.iconst 0) 1 22 := ⟨by decide +kernel, rfl⟩
theorem iX1_fight_22 : In cX1_fight 22 (.istore 9) 2 24 := ⟨by decide +kernel, rfl⟩
theorem iX1_fight_24 : In cX1_fight 24 (.iload 9) 2 26 := ⟨by decide +kernel, rfl⟩
theorem iX1_fight_26 : In cX1_fight 26 (.iload 5) 2 28 := ⟨by decide +kernel, rfl⟩
theorem iX1_fight_28 : Jn cX1_fight 28 (.if_icmp .ge 134) (134) 31 162 := ⟨by decide +kernel, rfl, by decide⟩
theorem iX1_fight_31 : In cX1_fight 31 (.iload 9) 2 33 := ⟨by decide +kernel, rfl⟩
theorem iX1_fight_33 : In cX1_fight 33 (.bipush 9) 2 35 := ⟨by decide +kernel, rfl⟩
theorem iX1_fight_35 : Jn cX1_fight 35 (.if_icmp .ge 127) (127) 38 162 := ⟨by decide +kernel, rfl, by decide⟩
theorem iX1_fight_38 : In cX1_fight 38 (.aload_n 0) 1 39 := ⟨by decide +kernel, rfl⟩
theorem iX1_fight_39 : In cX1_fight 39 (.getfield 15) 3 42 := ⟨by decide +kernel, rfl⟩
theorem iX1_fight_42 : In cX1_fight 42 (.iload 6) 2 44 := ⟨by decide +kernel, rfl⟩
theorem iX1_fight_44 : Jn cX1_fight 44 (.if_icmp .ge 118) (118) 47 162 := ⟨by decide +kernel, rfl, by decide⟩
theorem iX1_fight_47 : In cX1_fight 47 (.aload_n 0) 1 48 := ⟨by decide +kernel, rfl⟩
theorem iX1_fight_48 : In cX1_fight 48 (.getfield 19) 3 51 := ⟨by decide +kernel, rfl⟩
theorem iX1_fight_51 : In cX1_fight 51 (.iload 6) 2 53 := ⟨by decide +kernel, rfl⟩
theorem iX1_fight_53 : Jn cX1_fight 53 (.if_icmp .lt 6) (6) 56 59 := ⟨by decide +kernel, rfl, by decide⟩
theorem iX1_fight_56 : Jn cX1_fight 56 (.goto 106) (106) 59 162 := ⟨by decide +kernel, rfl, by decide⟩
theorem iX1_fight_59 : In cX1_fight 59 (.aload_n 1) 1 60 := ⟨by decide +kernel, rfl⟩
theorem iX1_fight_60 : In cX1_fight 60 (.iload 9) 2 62 := ⟨by decide +kernel, rfl⟩
theorem iX1_fight_62 : In cX1_fight 62 (.iload_n 2) 1 63 := ⟨by decide +kernel, rfl⟩
theorem iX1_fight_63 : In cX1_fight 63 (.iload 8) 2 65 := ⟨by decide +kernel, rfl⟩
theorem iX1_fight_65 : In cX1_fight 65 (.invokevirtual 25) 3 68 := ⟨by decide +kernel, rfl⟩
theorem iX1_fight_68 : In cX1_fight 68 (.istore 10) 2 70 := ⟨by decide +kernel, rfl⟩
theorem iX1_fight_70 : In cX1_fight 70 (.aload_n 3) 1 71 := ⟨by decide +kernel, rfl⟩
theorem iX1_fight_71 : In cX1_fight 71 (.iload 9) 2 73 := ⟨by decide +kernel, rfl⟩
theorem iX1_fight_73 : In cX1_fight 73 (.iload 4) 2 75 := ⟨by decide +kernel, rfl⟩
theorem iX1_fight_75 : In cX1_fight 75 (.iload 7) 2 77 := ⟨by decide +kernel, rfl⟩
theorem iX1_fight_77 : In cX1_fight 77 (.invokevirtual 25) 3 80 := ⟨by decide +kernel, rfl⟩
theorem iX1_fight_80 : In cX1_fight 80 (.istore 8) 2 82 := ⟨by decide +kernel, rfl⟩
theorem iX1_fight_82 : In cX1_fight 82 (.iload 10) 2 84 := ⟨by decide +kernel, rfl⟩
theorem iX1_fight_84 : In cX1_fight 84 (.istore 7) 2 86 := ⟨by decide +kernel, rfl⟩
theorem iX1_fight_86 : In cX1_fight 86 (.iload 7) 2 88 := ⟨by decide +kernel, rfl⟩
theorem iX1_fight_88 : In cX1_fight 88 (.iload 8) 2 90 := ⟨by decide +kernel, rfl⟩
theorem iX1_fight_90 : In cX1_fight 90 (.aload_n 3) 1 91 := ⟨by decide +kernel, rfl⟩
theorem iX1_fight_91 : In cX1_fight 91 (.getfield 31) 3 94 := ⟨by decide +kernel, rfl⟩
theorem iX1_fight_94 : In cX1_fight 94 (.invokestatic 34) 3 97 := ⟨by decide +kernel, rfl⟩
theorem iX1_fight_97 : In cX1_fight 97 (.istore 11) 2 99 := ⟨by decide +kernel, rfl⟩
theorem iX1_fight_99 : In cX1_fight 99 (.iload 8) 2 101 := ⟨by decide +kernel, rfl⟩
theorem iX1_fight_101 : In cX1_fight 101 (.iload 7) 2 103 := ⟨by decide +kernel, rfl⟩
theorem iX1_fight_103 : In cX1_fight 103 (.aload_n 1) 1 104 := ⟨by decide +kernel, rfl⟩
theorem iX1_fight_104 : In cX1_fight 104 (.getfield 31) 3 107 := ⟨by decide +kernel, rfl⟩
theorem iX1_fight_107 : In cX1_fight 107 (.invokestatic 34) 3 110 := ⟨by decide +kernel, rfl⟩
theorem iX1_fight_110 : In cX1_fight 110 (.istore 12) 2 112 := ⟨by decide +kernel, rfl⟩
theorem iX1_fight_112 : In cX1_fight 112 (.aload_n 0) 1 113 := ⟨by decide +kernel, rfl⟩
theorem iX1_fight_113 : In cX1_fight 113 (.dup) 1 114 := ⟨by decide +kernel, rfl⟩
theorem iX1_fight_114 : In cX1_fight 114 (.getfield 15) 3 117 := ⟨by decide +kernel, rfl⟩
theorem iX1_fight_117 : In cX1_fight 117 (.iload 11) 2 119 := ⟨by decide +kernel, rfl⟩
theorem iX1_fight_119 : In cX1_fight 119 (.iadd) 1 120 := ⟨by decide +kernel, rfl⟩
theorem iX1_fight_120 : In cX1_fight 120 (.putfield 15) 3 123 := ⟨by decide +kernel, rfl⟩
theorem iX1_fight_123 : In cX1_fight 123 (.aload_n 0) 1 124 := ⟨by decide +kernel, rfl⟩
theorem iX1_fight_124 : In cX1_fight 124 (.dup) 1 125 := ⟨by decide +kernel, rfl⟩
theorem iX1_fight_125 : In cX1_fight 125 (.getfield 19) 3 128 := ⟨by decide +kernel, rfl⟩
theorem iX1_fight_128 : In cX1_fight 128 (.iload 12) 2 130 := ⟨by decide +kernel, rfl⟩
theorem iX1_fight_130 : In cX1_fight 130 (.iadd) 1 131 := ⟨by decide +kernel, rfl⟩
theorem iX1_fight_131 : In cX1_fight 131 (.putfield 19) 3 134 := ⟨by decide +kernel, rfl⟩
theorem iX1_fight_134 : In cX1_fight 134 (.aload_n 0) 1 135 := ⟨by decide +kernel, rfl⟩
theorem iX1_fight_135 : In cX1_fight 135 (.getfield 9) 3 138 := ⟨by decide +kernel, rfl⟩
theorem iX1_fight_138 : In cX1_fight 138 (.iload 9) 2 140 := ⟨by decide +kernel, rfl⟩
theorem iX1_fight_140 : In cX1_fight 140 (.iload 11) 2 142 := ⟨by decide +kernel, rfl⟩
theorem iX1_fight_142 : In cX1_fight 142 (.iload 12) 2 144 := ⟨by decide +kernel, rfl⟩
theorem iX1_fight_144 : In cX1_fight 144 (.isub) 1 145 := ⟨by decide +kernel, rfl⟩
theorem iX1_fight_145 : In cX1_fight 145 (.iastore) 1 146 := ⟨by decide +kernel, rfl⟩
theorem iX1_fight_146 : In cX1_fight 146 (.aload_n 0) 1 147 := ⟨by decide +kernel, rfl⟩
theorem iX1_fight_147 : In cX1_fight 147 (.dup) 1 148 := ⟨by decide +kernel, rfl⟩
theorem iX1_fight_148 : In cX1_fight 148 (.getfield 22) 3 151 := ⟨by decide +kernel, rfl⟩
theorem iX1_fight_151 : In cX1_fight 151 (.iconst 1) 1 152 := ⟨by decide +kernel, rfl⟩
theorem iX1_fight_152 : In cX1_fight 152 (.iadd) 1 153 := ⟨by decide +kernel, rfl⟩
theorem iX1_fight_153 : In cX1_fight 153 (.putfield 22) 3 156 := ⟨by decide +kernel, rfl⟩
theorem iX1_fight_156 : In cX1_fight 156 (.iinc 9 1) 3 159 := ⟨by decide +kernel, rfl⟩
theorem iX1_fight_159 : Jn cX1_fight 159 (.goto (-135)) (-135) 162 24 := ⟨by decide +kernel, rfl, by decide⟩
theorem iX1_fight_162 : In cX1_fight 162 (.return_) 1 163 := ⟨by decide +kernel, rfl⟩
theorem iX1_hits_0 : In cX1_hits 0 (.iload_n 0) 1 1 := ⟨by decide +kernel, rfl⟩
theorem iX1_hits_1 : In cX1_hits 1 (.tableswitch 75 1 3 #[27, 53, 64]) 27 28 := ⟨by decide +kernel, rfl⟩
theorem iX1_hits_28 : In cX1_hits 28 (.iload_n 1) 1 29 := ⟨by decide +kernel, rfl⟩
theorem iX1_hits_29 : In cX1_hits 29 (.iconst 3) 1 30 := ⟨by decide +kernel, rfl⟩
theorem iX1_hits_30 : Jn cX1_hits 30 (.if_icmp .eq 18) (18) 33 48 := ⟨by decide +kernel, rfl, by decide⟩
theorem iX1_hits_33 : In cX1_hits 33 (.iload_n 1) 1 34 := ⟨by decide +kernel, rfl⟩
theorem iX1_hits_34 : In cX1_hits 34 (.iconst 4) 1 35 := ⟨by decide +kernel, rfl⟩
theorem iX1_hits_35 : Jn cX1_hits 35 (.if_icmp .eq 13) (13) 38 48 := ⟨by decide +kernel, rfl, by decide⟩
theorem iX1_hits_38 : In cX1_hits 38 (.iload_n 1) 1 39 := ⟨by decide +kernel, rfl⟩
theorem iX1_hits_39 : In cX1_hits 39 (.iconst 1) 1 40 := ⟨by decide +kernel, rfl⟩
theorem iX1_hits_40 : Jn cX1_hits 40 (.if_icmp .ne 12) (12) 43 52 := ⟨by decide +kernel, rfl, by decide⟩
theorem iX1_hits_43 : In cX1_hits 43 (.iload_n 2) 1 44 := ⟨by decide +kernel, rfl⟩
theorem iX1_hits_44 : In cX1_hits 44 (.iconst 1) 1 45 := ⟨by decide +kernel, rfl⟩
theorem iX1_hits_45 : Jn cX1_hits 45 (.if_icmp .eq 7) (7) 48 52 := ⟨by decide +kernel, rfl, by decide⟩
theorem iX1_hits_48 : In cX1_hits 48 (.iconst 1) 1 49 := ⟨by decide +kernel, rfl⟩
theorem iX1_hits_49 : Jn cX1_hits 49 (.goto 4) (4) 52 53 := ⟨by decide +kernel, rfl, by decide⟩
theorem iX1_hits_52 : In cX1_hits 52 (.iconst 0) 1 53 := ⟨by decide +kernel, rfl⟩
theorem iX1_hits_53 : In cX1_hits 53 (.ireturn) 1 54 := ⟨by decide +kernel, rfl⟩
theorem iX1_hits_54 : In cX1_hits 54 (.iload_n 1) 1 55 := ⟨by decide +kernel, rfl⟩
theorem iX1_hits_55 : In cX1_hits 55 (.iconst 1) 1 56 := ⟨by decide +kernel, rfl⟩
theorem iX1_hits_56 : Jn cX1_hits 56 (.if_icmp .ne 7) (7) 59 63 := ⟨by decide +kernel, rfl, by decide⟩
theorem iX1_hits_59 : In cX1_hits 59 (.iconst 1) 1 60 := ⟨by decide +kernel, rfl⟩
theorem iX1_hits_60 : Jn cX1_hits 60 (.goto 4) (4) 63 64 := ⟨by decide +kernel, rfl, by decide⟩
theorem iX1_hits_63 : In cX1_hits 63 (.iconst 0) 1 64 := ⟨by decide +kernel, rfl⟩
theorem iX1_hits_64 : In cX1_hits 64 (.ireturn) 1 65 := ⟨by decide +kernel, rfl⟩
theorem iX1_hits_65 : In cX1_hits 65 (.iload_n 1) 1 66 := ⟨by decide +kernel, rfl⟩
theorem iX1_hits_66 : In cX1_hits 66 (.iconst 2) 1 67 := ⟨by decide +kernel, rfl⟩
theorem iX1_hits_67 : Jn cX1_hits 67 (.if_icmp .ne 7) (7) 70 74 := ⟨by decide +kernel, rfl, by decide⟩
theorem iX1_hits_70 : In cX1_hits 70 (.iconst 1) 1 71 := ⟨by decide +kernel, rfl⟩
theorem iX1_hits_71 : Jn cX1_hits 71 (.goto 4) (4) 74 75 := ⟨by decide +kernel, rfl, by decide⟩
theorem iX1_hits_74 : In cX1_hits 74 (.iconst 0) 1 75 := ⟨by decide +kernel, rfl⟩
theorem iX1_hits_75 : In cX1_hits 75 (.ireturn) 1 76 := ⟨by decide +kernel, rfl⟩
theorem iX1_hits_76 : In cX1_hits 76 (.iconst 0) 1 77 := ⟨by decide +kernel, rfl⟩
theorem iX1_hits_77 : In cX1_hits 77 (.ireturn) 1 78 := ⟨by decide +kernel, rfl⟩
theorem iX1_lead_0 : In cX1_lead 0 (.aload_n 0) 1 1 := ⟨by decide +kernel, rfl⟩
theorem iX1_lead_1 : In cX1_lead 1 (.getfield 15) 3 4 := ⟨by decide +kernel, rfl⟩
theorem iX1_lead_4 : In cX1_lead 4 (.aload_n 0) 1 5 := ⟨by decide +kernel, rfl⟩
theorem iX1_lead_5 : In cX1_lead 5 (.getfield 19) 3 8 := ⟨by decide +kernel, rfl⟩
theorem iX1_lead_8 : In cX1_lead 8 (.isub) 1 9 := ⟨by decide +kernel, rfl⟩
theorem iX1_lead_9 : In cX1_lead 9 (.ireturn) 1 10 := ⟨by decide +kernel, rfl⟩
theorem iX2_init_0 : In cX2_init 0 (.aload_n 0) 1 1 := ⟨by decide +kernel, rfl⟩
theorem iX2_init_1 : In cX2_init 1 (.invokespecial 3) 3 4 := ⟨by decide +kernel, rfl⟩
theorem iX2_init_4 : In cX2_init 4 (.aload_n 0) 1 5 := ⟨by decide +kernel, rfl⟩
theorem iX2_init_5 : In cX2_init 5 (.bipush 9) 2 7 := ⟨by decide +kernel, rfl⟩
theorem iX2_init_7 : In cX2_init 7 (.newarray .int) 2 9 := ⟨by decide +kernel, rfl⟩
theorem iX2_init_9 : In cX2_init 9 (.putfield 9) 3 12 := ⟨by decide +kernel, rfl⟩
theorem iX2_init_12 : In cX2_init 12 (.aload_n 0) 1 13 := ⟨by decide +kernel, rfl⟩
theorem iX2_init_13 : In cX2_init 13 (.iconst 1) 1 14 := ⟨by decide +kernel, rfl⟩
theorem iX2_init_14 : In cX2_init 14 (.putfield 15) 3 17 := ⟨by decide +kernel, rfl⟩
theorem iX2_init_17 : In cX2_init 17 (.aload_n 0) 1 18 := ⟨by decide +kernel, rfl⟩
theorem iX2_init_18 : In cX2_init 18 (.aload_n 1) 1 19 := ⟨by decide +kernel, rfl⟩
theorem iX2_init_19 : In cX2_init 19 (.putfield 19) 3 22 := ⟨by decide +kernel, rfl⟩
theorem iX2_init_22 : In cX2_init 22 (.return_) 1 23 := ⟨by decide +kernel, rfl⟩
theorem iX2_findShare_0 : In cX2_findShare 0 (.aload_n 0) 1 1 := ⟨by decide +kernel, rfl⟩
theorem iX2_findShare_1 : In cX2_findShare 1 (.getfield 19) 3 4 := ⟨by decide +kernel, rfl⟩
theorem iX2_findShare_4 : In cX2_findShare 4 (.invokevirtual 23) 3 7 := ⟨by decide +kernel, rfl⟩
theorem iX2_findShare_7 : In cX2_findShare 7 (.aload_n 0) 1 8 := ⟨by decide +kernel, rfl⟩
theorem iX2_findShare_8 : In cX2_findShare 8 (.getfield 19) 3 11 := ⟨by decide +kernel, rfl⟩
theorem iX2_findShare_11 : In cX2_findShare 11 (.iload_n 1) 1 12 := ⟨by decide +kernel, rfl⟩
theorem iX2_findShare_12 : In cX2_findShare 12 (.invokevirtual 28) 3 15 := ⟨by decide +kernel, rfl⟩
theorem iX2_findShare_15 : In cX2_findShare 15 (.istore_n 2) 1 16 := ⟨by decide +kernel, rfl⟩
theorem iX2_findShare_16 : In cX2_findShare 16 (.aload_n 0) 1 17 := ⟨by decide +kernel, rfl⟩
theorem iX2_findShare_17 : In cX2_findShare 17 (.iconst 0) 1 18 := ⟨by decide +kernel, rfl⟩
theorem iX2_findShare_18 : In cX2_findShare 18 (.putfield 32) 3 21 := ⟨by decide +kernel, rfl⟩
theorem iX2_findShare_21 : In cX2_findShare 21 (.aload_n 0) 1 22 := ⟨by decide +kernel, rfl⟩
theorem iX2_findShare_22 : In cX2_findShare 22 (.bipush 60) 2 24 := ⟨by decide +kernel, rfl⟩
theorem iX2_findShare_24 : In cX2_findShare 24 (.putfield 15) 3 27 := ⟨by decide +kernel, rfl⟩
theorem iX2_findShare_27 : In cX2_findShare 27 (.iconst 0) 1 28 := ⟨by decide +kernel, rfl⟩
theorem iX2_findShare_28 : In cX2_findShare 28 (.istore_n 3) 1 29 := ⟨by decide +kernel, rfl⟩
theorem iX2_findShare_29 : In cX2_findShare 29 (.iload_n 3) 1 30 := ⟨by decide +kernel, rfl⟩
theorem iX2_findShare_30 : In cX2_findShare 30 (.aload_n 0) 1 31 := ⟨by decide +kernel, rfl⟩
theorem iX2_findShare_31 : In cX2_findShare 31 (.getfield 19) 3 34 := ⟨by decide +kernel, rfl⟩
theorem iX2_findShare_34 : In cX2_findShare 34 (.getfield 35) 3 37 := ⟨by decide +kernel, rfl⟩
theorem iX2_findShare_37 : In cX2_findShare 37 (.getfield 39) 3 40 := ⟨by decide +kernel, rfl⟩
theorem iX2_findShare_40 : Jn cX2_findShare 40 (.if_icmp .ge 50) (50) 43 90 := ⟨by decide +kernel, rfl, by decide⟩
theorem iX2_findShare_43 : In cX2_findShare 43 (.aload_n 0) 1 44 := ⟨by decide +kernel, rfl⟩
theorem iX2_findShare_44 : In cX2_findShare 44 (.getfield 19) 3 47 := ⟨by decide +kernel, rfl⟩
theorem iX2_findShare_47 : In cX2_findShare 47 (.iload_n 3) 1 48 := ⟨by decide +kernel, rfl⟩
theorem iX2_findShare_48 : In cX2_findShare 48 (.invokevirtual 44) 3 51 := ⟨by decide +kernel, rfl⟩
theorem iX2_findShare_51 : In cX2_findShare 51 (.invokestatic 47) 3 54 := ⟨by decide +kernel, rfl⟩
theorem iX2_findShare_54 : In cX2_findShare 54 (.istore 4) 2 56 := ⟨by decide +kernel, rfl⟩
theorem iX2_findShare_56 : In cX2_findShare 56 (.iload_n 2) 1 57 := ⟨by decide +kernel, rfl⟩
theorem iX2_findShare_57 : In cX2_findShare 57 (.iload_n 3) 1 58 := ⟨by decide +kernel, rfl⟩
theorem iX2_findShare_58 : In cX2_findShare 58 (.ishr) 1 59 := ⟨by decide +kernel, rfl⟩
theorem iX2_findShare_59 : In cX2_findShare 59 (.iconst 1) 1 60 := ⟨by decide +kernel, rfl⟩
theorem iX2_findShare_60 : In cX2_findShare 60 (.iand) 1 61 := ⟨by decide +kernel, rfl⟩
theorem iX2_findShare_61 : In cX2_findShare 61 (.iconst 1) 1 62 := ⟨by decide +kernel, rfl⟩
theorem iX2_findShare_62 : Jn cX2_findShare 62 (.if_icmp .ne 22) (22) 65 84 := ⟨by decide +kernel, rfl, by decide⟩
theorem iX2_findShare_65 : In cX2_findShare 65 (.iload 4) 2 67 := ⟨by decide +kernel, rfl⟩
theorem iX2_findShare_67 : Jn cX2_findShare 67 (.ifCond .le 17) (17) 70 84 := ⟨by decide +kernel, rfl, by decide⟩
theorem iX2_findShare_70 : In cX2_findShare 70 (.aload_n 0) 1 71 := ⟨by decide +kernel, rfl⟩
theorem iX2_findShare_71 : In cX2_findShare 71 (.dup) 1 72 := ⟨by decide +kernel, rfl⟩
theorem iX2_findShare_72 : In cX2_findShare 72 (.getfield 32) 3 75 := ⟨by decide +kernel, rfl⟩
theorem iX2_findShare_75 : In cX2_findShare 75 (.bipush 60) 2 77 := ⟨by decide +kernel, rfl⟩
theorem iX2_findShare_77 : In cX2_findShare 77 (.iload 4) 2 79 := ⟨by decide +kernel, rfl⟩
theorem iX2_findShare_79 : In cX2_findShare 79 (.idiv) 1 80 := ⟨by decide +kernel, rfl⟩
theorem iX2_findShare_80 : In cX2_findShare 80 (.iadd) 1 81 := ⟨by decide +kernel, rfl⟩
theorem iX2_findShare_81 : In cX2_findShare 81 (.putfield 32) 3 84 := ⟨by decide +kernel, rfl⟩
theorem iX2_findShare_84 : In cX2_findShare 84 (.iinc 3 1) 3 87 := ⟨by decide +kernel, rfl⟩
theorem iX2_findShare_87 : Jn cX2_findShare 87 (.goto (-58)) (-58) 90 29 := ⟨by decide +kernel, rfl, by decide⟩
theorem iX2_findShare_90 : In cX2_findShare 90 (.return_) 1 91 := ⟨by decide +kernel, rfl⟩
theorem iX2_findRests_0 : In cX2_findRests 0 (.aload_n 0) 1 1 := ⟨by decide +kernel, rfl⟩
theorem iX2_findRests_1 : In cX2_findRests 1 (.aload_n 0) 1 2 := ⟨by decide +kernel, rfl⟩
theorem iX2_findRests_2 : In cX2_findRests 2 (.getfield 19) 3 5 := ⟨by decide +kernel, rfl⟩
theorem iX2_findRests_5 : In cX2_findRests 5 (.getfield 35) 3 8 := ⟨by decide +kernel, rfl⟩
theorem iX2_findRests_8 : In cX2_findRests 8 (.getfield 52) 3 11 := ⟨by decide +kernel, rfl⟩
theorem iX2_findRests_11 : In cX2_findRests 11 (.iload_n 1) 1 12 := ⟨by decide +kernel, rfl⟩
theorem iX2_findRests_12 : In cX2_findRests 12 (.aaload) 1 13 := ⟨by decide +kernel, rfl⟩
theorem iX2_findRests_13 : In cX2_findRests 13 (.aload_n 0) 1 14 := ⟨by decide +kernel, rfl⟩
theorem iX2_findRests_14 : In cX2_findRests 14 (.getfield 19) 3 17 := ⟨by decide +kernel, rfl⟩
theorem iX2_findRests_17 : In cX2_findRests 17 (.getfield 35) 3 20 := ⟨by decide +kernel, rfl⟩
theorem iX2_findRests_20 : In cX2_findRests 20 (.getfield 52) 3 23 := ⟨by decide +kernel, rfl⟩
theorem iX2_findRests_23 : In cX2_findRests 23 (.iload_n 2) 1 24 := ⟨by decide +kernel, rfl⟩
theorem iX2_findRests_24 : In cX2_findRests 24 (.aaload) 1 25 := ⟨by decide +kernel, rfl⟩
theorem iX2_findRests_25 : In cX2_findRests 25 (.invokevirtual 56) 3 28 := ⟨by decide +kernel, rfl⟩
theorem iX2_findRests_28 : In cX2_findRests 28 (.aload_n 0) 1 29 := ⟨by decide +kernel, rfl⟩
theorem iX2_findRests_29 : In cX2_findRests 29 (.iconst 0) 1 30 := ⟨by decide +kernel, rfl⟩
theorem iX2_findRests_30 : In cX2_findRests 30 (.putfield 60) 3 33 := ⟨by decide +kernel, rfl⟩
theorem iX2_findRests_33 : In cX2_findRests 33 (.aload_n 0) 1 34 := ⟨by decide +kernel, rfl⟩
theorem iX2_findRests_34 : In cX2_findRests 34 (.bipush (-9)) 2 36 := ⟨by decide +kernel, rfl⟩
theorem iX2_findRests_36 : In cX2_findRests 36 (.putfield 63) 3 39 := ⟨by decide +kernel, rfl⟩
theorem iX2_findRests_39 : In cX2_findRests 39 (.iconst 0) 1 40 := ⟨by decide +kernel, rfl⟩
theorem iX2_findRests_40 : In cX2_findRests 40 (.istore_n 3) 1 41 := ⟨by decide +kernel, rfl⟩
theorem iX2_findRests_41 : In cX2_findRests 41 (.iload_n 3) 1 42 := ⟨by decide +kernel, rfl⟩
theorem iX2_findRests_42 : In cX2_findRests 42 (.iconst 3) 1 43 := ⟨by decide +kernel, rfl⟩
theorem iX2_findRests_43 : Jn cX2_findRests 43 (.if_icmp .ge 69) (69) 46 112 := ⟨by decide +kernel, rfl, by decide⟩
theorem iX2_findRests_46 : In cX2_findRests 46 (.iconst 0) 1 47 := ⟨by decide +kernel, rfl⟩
theorem iX2_findRests_47 : In cX2_findRests 47 (.istore 4) 2 49 := ⟨by decide +kernel, rfl⟩
theorem iX2_findRests_49 : In cX2_findRests 49 (.iload 4) 2 51 := ⟨by decide +kernel, rfl⟩
theorem iX2_findRests_51 : In cX2_findRests 51 (.iconst 3) 1 52 := ⟨by decide +kernel, rfl⟩
theorem iX2_findRests_52 : Jn cX2_findRests 52 (.if_icmp .ge 54) (54) 55 106 := ⟨by decide +kernel, rfl, by decide⟩
theorem iX2_findRests_55 : In cX2_findRests 55 (.aload_n 0) 1 56 := ⟨by decide +kernel, rfl⟩
theorem iX2_findRests_56 : In cX2_findRests 56 (.iload_n 3) 1 57 := ⟨by decide +kernel, rfl⟩
theorem iX2_findRests_57 : In cX2_findRests 57 (.iload 4) 2 59 := ⟨by decide +kernel, rfl⟩
theorem iX2_findRests_59 : In cX2_findRests 59 (.invokevirtual 66) 3 62 := ⟨by decide +kernel, rfl⟩
theorem iX2_findRests_62 : Jn cX2_findRests 62 (.ifCond .eq 38) (38) 65 100 := ⟨by decide +kernel, rfl, by decide⟩
theorem iX2_findRests_65 : In cX2_findRests 65 (.aload_n 0) 1 66 := ⟨by decide +kernel, rfl⟩
theorem iX2_findRests_66 : In cX2_findRests 66 (.aload_n 0) 1 67 := ⟨by decide +kernel, rfl⟩
theorem iX2_findRests_67 : In cX2_findRests 67 (.getfield 60) 3 70 := ⟨by decide +kernel, rfl⟩
theorem iX2_findRests_70 : Jn cX2_findRests 70 (.ifCond .ne 13) (13) 73 83 := ⟨by decide +kernel, rfl, by decide⟩
theorem iX2_findRests_73 : In cX2_findRests 73 (.bipush 10) 2 75 := ⟨by decide +kernel, rfl⟩
theorem iX2_findRests_75 : In cX2_findRests 75 (.iload_n 3) 1 76 := ⟨by decide +kernel, rfl⟩
theorem iX2_findRests_76 : In cX2_findRests 76 (.imul) 1 77 := ⟨by decide +kernel, rfl⟩
theorem iX2_findRests_77 : In cX2_findRests 77 (.iload 4) 2 79 := ⟨by decide +kernel, rfl⟩
theorem iX2_findRests_79 : In cX2_findRests 79 (.iadd) 1 80 := ⟨by decide +kernel, rfl⟩
theorem iX2_findRests_80 : Jn cX2_findRests 80 (.goto 7) (7) 83 87 := ⟨by decide +kernel, rfl, by decide⟩
theorem iX2_findRests_83 : In cX2_findRests 83 (.aload_n 0) 1 84 := ⟨by decide +kernel, rfl⟩
theorem iX2_findRests_84 : In cX2_findRests 84 (.getfield 63) 3 87 := ⟨by decide +kernel, rfl⟩
theorem iX2_findRests_87 : In cX2_findRests 87 (.putfield 63) 3 90 := ⟨by decide +kernel, rfl⟩
theorem iX2_findRests_90 : In cX2_findRests 90 (.aload_n 0) 1 91 := ⟨by decide +kernel, rfl⟩
theorem iX2_findRests_91 : In cX2_findRests 91 (.dup) 1 92 := ⟨by decide +kernel, rfl⟩
theorem iX2_findRests_92 : In cX2_findRests 92 (.getfield 60) 3 95 := ⟨by decide +kernel, rfl⟩
theorem iX2_findRests_95 : In cX2_findRests 95 (.iconst 1) 1 96 := ⟨by decide +kernel, rfl⟩
theorem iX2_findRests_96 : In cX2_findRests 96 (.iadd) 1 97 := ⟨by decide +kernel, rfl⟩
theorem iX2_findRests_97 : In cX2_findRests 97 (.putfield 60) 3 100 := ⟨by decide +kernel, rfl⟩
theorem iX2_findRests_100 : In cX2_findRests 100 (.iinc 4 1) 3 103 := ⟨by decide +kernel, rfl⟩
theorem iX2_findRests_103 : Jn cX2_findRests 103 (.goto (-54)) (-54) 106 49 := ⟨by decide +kernel, rfl, by decide⟩
theorem iX2_findRests_106 : In cX2_findRests 106 (.iinc 3 1) 3 109 := ⟨by decide +kernel, rfl⟩
theorem iX2_findRests_109 : Jn cX2_findRests 109 (.goto (-68)) (-68) 112 41 := ⟨by decide +kernel, rfl, by decide⟩
theorem iX2_findRests_112 : In cX2_findRests 112 (.return_) 1 113 := ⟨by decide +kernel, rfl⟩
theorem iX2_fillStanceLeads_0 : In cX2_fillStanceLeads 0 (.iconst 0) 1 1 := ⟨by decide +kernel, rfl⟩
theorem iX2_fillStanceLeads_1 : In cX2_fillStanceLeads 1 (.istore_n 3) 1 2 := ⟨by decide +kernel, rfl⟩
theorem iX2_fillStanceLeads_2 : In cX2_fillStanceLeads 2 (.iload_n 3) 1 3 := ⟨by decide +kernel, rfl⟩
theorem iX2_fillStanceLeads_3 : In cX2_fillStanceLeads 3 (.iconst 3) 1 4 := ⟨by decide +kernel, rfl⟩
theorem iX2_fillStanceLeads_4 : Jn cX2_fillStanceLeads 4 (.if_icmp .ge 63) (63) 7 67 := ⟨by decide +kernel, rfl, by decide⟩
theorem iX2_fillStanceLeads_7 : In cX2_fillStanceLeads 7 (.iconst 0) 1 8 := ⟨by decide +kernel, rfl⟩
theorem iX2_fillStanceLeads_8 : In cX2_fillStanceLeads 8 (.istore 4) 2 10 := ⟨by decide +kernel, rfl⟩
theorem iX2_fillStanceLeads_10 : In cX2_fillStanceLeads 10 (.iload 4) 2 12 := ⟨by decide +kernel, rfl⟩
theorem iX2_fillStanceLeads_12 : In cX2_fillStanceLeads 12 (.iconst 3) 1 13 := ⟨by decide +kernel, rfl⟩
theorem iX2_fillStanceLeads_13 : Jn cX2_fillStanceLeads 13 (.if_icmp .ge 48) (48) 16 61 := ⟨by decide +kernel, rfl, by decide⟩
theorem iX2_fillStanceLeads_16 : In cX2_fillStanceLeads 16 (.aload_n 0) 1 17 := ⟨by decide +kernel, rfl⟩
theorem iX2_fillStanceLeads_17 : In cX2_fillStanceLeads 17 (.getfield 19) 3 20 := ⟨by decide +kernel, rfl⟩
theorem iX2_fillStanceLeads_20 : In cX2_fillStanceLeads 20 (.getfield 70) 3 23 := ⟨by decide +kernel, rfl⟩
theorem iX2_fillStanceLeads_23 : In cX2_fillStanceLeads 23 (.aload_n 1) 1 24 := ⟨by decide +kernel, rfl⟩
theorem iX2_fillStanceLeads_24 : In cX2_fillStanceLeads 24 (.iload_n 3) 1 25 := ⟨by decide +kernel, rfl⟩
theorem iX2_fillStanceLeads_25 : In cX2_fillStanceLeads 25 (.aload_n 2) 1 26 := ⟨by decide +kernel, rfl⟩
theorem iX2_fillStanceLeads_26 : In cX2_fillStanceLeads 26 (.iload 4) 2 28 := ⟨by decide +kernel, rfl⟩
theorem iX2_fillStanceLeads_28 : In cX2_fillStanceLeads 28 (.bipush 9) 2 30 := ⟨by decide +kernel, rfl⟩
theorem iX2_fillStanceLeads_30 : In cX2_fillStanceLeads 30 (.iconst 3) 1 31 := ⟨by decide +kernel, rfl⟩
theorem iX2_fillStanceLeads_31 : In cX2_fillStanceLeads 31 (.invokevirtual 74) 3 34 := ⟨by decide +kernel, rfl⟩
theorem iX2_fillStanceLeads_34 : In cX2_fillStanceLeads 34 (.aload_n 0) 1 35 := ⟨by decide +kernel, rfl⟩
theorem iX2_fillStanceLeads_35 : In cX2_fillStanceLeads 35 (.getfield 9) 3 38 := ⟨by decide +kernel, rfl⟩
theorem iX2_fillStanceLeads_38 : In cX2_fillStanceLeads 38 (.iconst 3) 1 39 := ⟨by decide +kernel, rfl⟩
theorem iX2_fillStanceLeads_39 : In cX2_fillStanceLeads 39 (.iload_n 3) 1 40 := ⟨by decide +kernel, rfl⟩
theorem iX2_fillStanceLeads_40 : In cX2_fillStanceLeads 40 (.imul) 1 41 := ⟨by decide +kernel, rfl⟩
theorem iX2_fillStanceLeads_41 : In cX2_fillStanceLeads 41 (.iload 4) 2 43 := ⟨by decide +kernel, rfl⟩
theorem iX2_fillStanceLeads_43 : In cX2_fillStanceLeads 43 (.iadd) 1 44 := ⟨by decide +kernel, rfl⟩
theorem iX2_fillStanceLeads_44 : In cX2_fillStanceLeads 44 (.aload_n 0) 1 45 := ⟨by decide +kernel, rfl⟩
theorem iX2_fillStanceLeads_45 : In cX2_fillStanceLeads 45 (.getfield 19) 3 48 := ⟨by decide +kernel, rfl⟩
theorem iX2_fillStanceLeads_48 : In cX2_fillStanceLeads 48 (.getfield 70) 3 51 := ⟨by decide +kernel, rfl⟩
theorem iX2_fillStanceLeads_51 : In cX2_fillStanceLeads 51 (.invokevirtual 80) 3 54 := ⟨by decide +kernel, rfl⟩
theorem iX2_fillStanceLeads_54 : In cX2_fillStanceLeads 54 (.iastore) 1 55 := ⟨by decide +kernel, rfl⟩
theorem iX2_fillStanceLeads_55 : In cX2_fillStanceLeads 55 (.iinc 4 1) 3 58 := ⟨by decide +kernel, rfl⟩
theorem iX2_fillStanceLeads_58 : Jn cX2_fillStanceLeads 58 (.goto (-48)) (-48) 61 10 := ⟨by decide +kernel, rfl, by decide⟩
theorem iX2_fillStanceLeads_61 : In cX2_fillStanceLeads 61 (.iinc 3 1) 3 64 := ⟨by decide +kernel, rfl⟩
theorem iX2_fillStanceLeads_64 : Jn cX2_fillStanceLeads 64 (.goto (-62)) (-62) 67 2 := ⟨by decide +kernel, rfl, by decide⟩
theorem iX2_fillStanceLeads_67 : In cX2_fillStanceLeads 67 (.return_) 1 68 := ⟨by decide +kernel, rfl⟩
theorem iX2_isRest_0 : In cX2_isRest 0 (.aload_n 0) 1 1 := ⟨by decide +kernel, rfl⟩
theorem iX2_isRest_1 : In cX2_isRest 1 (.getfield 9) 3 4 := ⟨by decide +kernel, rfl⟩
theorem iX2_isRest_4 : In cX2_isRest 4 (.iconst 3) 1 5 := ⟨by decide +kernel, rfl⟩
theorem iX2_isRest_5 : In cX2_isRest 5 (.iload_n 1) 1 6 := ⟨by decide +kernel, rfl⟩
theorem iX2_isRest_6 : In cX2_isRest 6 (.imul) 1 7 := ⟨by decide +kernel, rfl⟩
theorem iX2_isRest_7 : In cX2_isRest 7 (.iload_n 2) 1 8 := ⟨by decide +kernel, rfl⟩
theorem iX2_isRest_8 : In cX2_isRest 8 (.iadd) 1 9 := ⟨by decide +kernel, rfl⟩
theorem iX2_isRest_9 : In cX2_isRest 9 (.iaload) 1 10 := ⟨by decide +kernel, rfl⟩
theorem iX2_isRest_10 : In cX2_isRest 10 (.istore_n 3) 1 11 := ⟨by decide +kernel, rfl⟩
theorem iX2_isRest_11 : In cX2_isRest 11 (.iconst 0) 1 12 := ⟨by decide +kernel, rfl⟩
theorem iX2_isRest_12 : In cX2_isRest 12 (.istore 4) 2 14 := ⟨by decide +kernel, rfl⟩
theorem iX2_isRest_14 : In cX2_isRest 14 (.iload 4) 2 16 := ⟨by decide +kernel, rfl⟩
theorem iX2_isRest_16 : In cX2_isRest 16 (.iconst 3) 1 17 := ⟨by decide +kernel, rfl⟩
theorem iX2_isRest_17 : Jn cX2_isRest 17 (.if_icmp .ge 41) (41) 20 58 := ⟨by decide +kernel, rfl, by decide⟩
theorem iX2_isRest_20 : In cX2_isRest 20 (.aload_n 0) 1 21 := ⟨by decide +kernel, rfl⟩
theorem iX2_isRest_21 : In cX2_isRest 21 (.getfield 9) 3 24 := ⟨by decide +kernel, rfl⟩
theorem iX2_isRest_24 : In cX2_isRest 24 (.iconst 3) 1 25 := ⟨by decide +kernel, rfl⟩
theorem iX2_isRest_25 : In cX2_isRest 25 (.iload 4) 2 27 := ⟨by decide +kernel, rfl⟩
theorem iX2_isRest_27 : In cX2_isRest 27 (.imul) 1 28 := ⟨by decide +kernel, rfl⟩
theorem iX2_isRest_28 : In cX2_isRest 28 (.iload_n 2) 1 29 := ⟨by decide +kernel, rfl⟩
theorem iX2_isRest_29 : In cX2_isRest 29 (.iadd) 1 30 := ⟨by decide +kernel, rfl⟩
theorem iX2_isRest_30 : In cX2_isRest 30 (.iaload) 1 31 := ⟨by decide +kernel, rfl⟩
theorem iX2_isRest_31 : In cX2_isRest 31 (.iload_n 3) 1 32 := ⟨by decide +kernel, rfl⟩
theorem iX2_isRest_32 : Jn cX2_isRest 32 (.if_icmp .gt 18) (18) 35 50 := ⟨by decide +kernel, rfl, by decide⟩
theorem iX2_isRest_35 : In cX2_isRest 35 (.aload_n 0) 1 36 := ⟨by decide +kernel, rfl⟩
theorem iX2_isRest_36 : In cX2_isRest 36 (.getfield 9) 3 39 := ⟨by decide +kernel, rfl⟩
theorem iX2_isRest_39 : In cX2_isRest 39 (.iconst 3) 1 40 := ⟨by decide +kernel, rfl⟩
theorem iX2_isRest_40 : In cX2_isRest 40 (.iload_n 1) 1 41 := ⟨by decide +kernel, rfl⟩
theorem iX2_isRest_41 : In cX2_isRest 41 (.imul) 1 42 := ⟨by decide +kernel, rfl⟩
theorem iX2_isRest_42 : In cX2_isRest 42 (.iload 4) 2 44 := ⟨by decide +kernel, rfl⟩
theorem iX2_isRest_44 : In cX2_isRest 44 (.iadd) 1 45 := ⟨by decide +kernel, rfl⟩
theorem iX2_isRest_45 : In cX2_isRest 45 (.iaload) 1 46 := ⟨by decide +kernel, rfl⟩
theorem iX2_isRest_46 : In cX2_isRest 46 (.iload_n 3) 1 47 := ⟨by decide +kernel, rfl⟩
theorem iX2_isRest_47 : Jn cX2_isRest 47 (.if_icmp .ge 5) (5) 50 52 := ⟨by decide +kernel, rfl, by decide⟩
theorem iX2_isRest_50 : In cX2_isRest 50 (.iconst 0) 1 51 := ⟨by decide +kernel, rfl⟩
theorem iX2_isRest_51 : In cX2_isRest 51 (.ireturn) 1 52 := ⟨by decide +kernel, rfl⟩
theorem iX2_isRest_52 : In cX2_isRest 52 (.iinc 4 1) 3 55 := ⟨by decide +kernel, rfl⟩
theorem iX2_isRest_55 : Jn cX2_isRest 55 (.goto (-41)) (-41) 58 14 := ⟨by decide +kernel, rfl, by decide⟩
theorem iX2_isRest_58 : In cX2_isRest 58 (.iconst 1) 1 59 := ⟨by decide +kernel, rfl⟩
theorem iX2_isRest_59 : In cX2_isRest 59 (.ireturn) 1 60 := ⟨by decide +kernel, rfl⟩
theorem iX2_findClouded_0 : In cX2_findClouded 0 (.aload_n 0) 1 1 := ⟨by decide +kernel, rfl⟩
theorem iX2_findClouded_1 : In cX2_findClouded 1 (.getfield 19) 3 4 := ⟨by decide +kernel, rfl⟩
theorem iX2_findClouded_4 : In cX2_findClouded 4 (.getfield 70) 3 7 := ⟨by decide +kernel, rfl⟩
theorem iX2_findClouded_7 : In cX2_findClouded 7 (.aload_n 0) 1 8 := ⟨by decide +kernel, rfl⟩
theorem iX2_findClouded_8 : In cX2_findClouded 8 (.getfield 19) 3 11 := ⟨by decide +kernel, rfl⟩
theorem iX2_findClouded_11 : In cX2_findClouded 11 (.getfield 35) 3 14 := ⟨by decide +kernel, rfl⟩
theorem iX2_findClouded_14 : In cX2_findClouded 14 (.getfield 52) 3 17 := ⟨by decide +kernel, rfl⟩
theorem iX2_findClouded_17 : In cX2_findClouded 17 (.iload_n 1) 1 18 := ⟨by decide +kernel, rfl⟩
theorem iX2_findClouded_18 : In cX2_findClouded 18 (.aaload) 1 19 := ⟨by decide +kernel, rfl⟩
theorem iX2_findClouded_19 : In cX2_findClouded 19 (.aload_n 0) 1 20 := ⟨by decide +kernel, rfl⟩
theorem iX2_findClouded_20 : In cX2_findClouded 20 (.getfield 19) 3 23 := ⟨by decide +kernel, rfl⟩
theorem iX2_findClouded_23 : In cX2_findClouded 23 (.getfield 84) 3 26 := ⟨by decide +kernel, rfl⟩
theorem iX2_findClouded_26 : In cX2_findClouded 26 (.getfield 88) 3 29 := ⟨by decide +kernel, rfl⟩
theorem iX2_findClouded_29 : In cX2_findClouded 29 (.iload_n 1) 1 30 := ⟨by decide +kernel, rfl⟩
theorem iX2_findClouded_30 : In cX2_findClouded 30 (.iaload) 1 31 := ⟨by decide +kernel, rfl⟩
theorem iX2_findClouded_31 : In cX2_findClouded 31 (.aload_n 0) 1 32 := ⟨by decide +kernel, rfl⟩
theorem iX2_findClouded_32 : In cX2_findClouded 32 (.getfield 19) 3 35 := ⟨by decide +kernel, rfl⟩
theorem iX2_findClouded_35 : In cX2_findClouded 35 (.getfield 35) 3 38 := ⟨by decide +kernel, rfl⟩
theorem iX2_findClouded_38 : In cX2_findClouded 38 (.getfield 52) 3 41 := ⟨by decide +kernel, rfl⟩
theorem iX2_findClouded_41 : In cX2_findClouded 41 (.iload_n 2) 1 42 := ⟨by decide +kernel, rfl⟩
theorem iX2_findClouded_42 : In cX2_findClouded 42 (.aaload) 1 43 := ⟨by decide +kernel, rfl⟩
theorem iX2_findClouded_43 : In cX2_findClouded 43 (.aload_n 0) 1 44 := ⟨by decide +kernel, rfl⟩
theorem iX2_findClouded_44 : In cX2_findClouded 44 (.getfield 19) 3 47 := ⟨by decide +kernel, rfl⟩
theorem iX2_findClouded_47 : In cX2_findClouded 47 (.getfield 84) 3 50 := ⟨by decide +kernel, rfl⟩
theorem iX2_findClouded_50 : In cX2_findClouded 50 (.getfield 88) 3 53 := ⟨by decide +kernel, rfl⟩
theorem iX2_findClouded_53 : In cX2_findClouded 53 (.iload_n 2) 1 54 := ⟨by decide +kernel, rfl⟩
theorem iX2_findClouded_54 : In cX2_findClouded 54 (.iaload) 1 55 := ⟨by decide +kernel, rfl⟩
theorem iX2_findClouded_55 : In cX2_findClouded 55 (.bipush 6) 2 57 := ⟨by decide +kernel, rfl⟩
theorem iX2_findClouded_57 : In cX2_findClouded 57 (.ldc 93) 2 59 := ⟨by decide +kernel, rfl⟩
theorem iX2_findClouded_59 : In cX2_findClouded 59 (.invokevirtual 74) 3 62 := ⟨by decide +kernel, rfl⟩
theorem iX2_findClouded_62 : In cX2_findClouded 62 (.aload_n 0) 1 63 := ⟨by decide +kernel, rfl⟩
theorem iX2_findClouded_63 : In cX2_findClouded 63 (.iconst 0) 1 64 := ⟨by decide +kernel, rfl⟩
theorem iX2_findClouded_64 : In cX2_findClouded 64 (.putfield 32) 3 67 := ⟨by decide +kernel, rfl⟩
theorem iX2_findClouded_67 : In cX2_findClouded 67 (.aload_n 0) 1 68 := ⟨by decide +kernel, rfl⟩
theorem iX2_findClouded_68 : In cX2_findClouded 68 (.iconst 1) 1 69 := ⟨by decide +kernel, rfl⟩
theorem iX2_findClouded_69 : In cX2_findClouded 69 (.putfield 15) 3 72 := ⟨by decide +kernel, rfl⟩
theorem iX2_findClouded_72 : In cX2_findClouded 72 (.iconst 0) 1 73 := ⟨by decide +kernel, rfl⟩
theorem iX2_findClouded_73 : In cX2_findClouded 73 (.istore 4) 2 75 := ⟨by decide +kernel, rfl⟩
theorem iX2_findClouded_75 : In cX2_findClouded 75 (.iload 4) 2 77 := ⟨by decide +kernel, rfl⟩
theorem iX2_findClouded_77 : In cX2_findClouded 77 (.bipush 6) 2 79 := ⟨by decide +kernel, rfl⟩
theorem iX2_findClouded_79 : Jn cX2_findClouded 79 (.if_icmp .ge 20) (20) 82 99 := ⟨by decide +kernel, rfl, by decide⟩
theorem iX2_findClouded_82 : In cX2_findClouded 82 (.aload_n 0) 1 83 := ⟨by decide +kernel, rfl⟩
theorem iX2_findClouded_83 : In cX2_findClouded 83 (.dup) 1 84 := ⟨by decide +kernel, rfl⟩
theorem iX2_findClouded_84 : In cX2_findClouded 84 (.getfield 15) 3 87 := ⟨by decide +kernel, rfl⟩
theorem iX2_findClouded_87 : In cX2_findClouded 87 (.bipush 10) 2 89 := ⟨by decide +kernel, rfl⟩
theorem iX2_findClouded_89 : In cX2_findClouded 89 (.imul) 1 90 := ⟨by decide +kernel, rfl⟩
theorem iX2_findClouded_90 : In cX2_findClouded 90 (.putfield 15) 3 93 := ⟨by decide +kernel, rfl⟩
theorem iX2_findClouded_93 : In cX2_findClouded 93 (.iinc 4 1) 3 96 := ⟨by decide +kernel, rfl⟩
theorem iX2_findClouded_96 : Jn cX2_findClouded 96 (.goto (-21)) (-21) 99 75 := ⟨by decide +kernel, rfl, by decide⟩
theorem iX2_findClouded_99 : In cX2_findClouded 99 (.iconst 0) 1 100 := ⟨by decide +kernel, rfl⟩
theorem iX2_findClouded_100 : In cX2_findClouded 100 (.istore 4) 2 102 := ⟨by decide +kernel, rfl⟩
theorem iX2_findClouded_102 : In cX2_findClouded 102 (.iload 4) 2 104 := ⟨by decide +kernel, rfl⟩
theorem iX2_findClouded_104 : In cX2_findClouded 104 (.bipush 64) 2 106 := ⟨by decide +kernel, rfl⟩
theorem iX2_findClouded_106 : Jn cX2_findClouded 106 (.if_icmp .ge 33) (33) 109 139 := ⟨by decide +kernel, rfl, by decide⟩
theorem iX2_findClouded_109 : In cX2_findClouded 109 (.aload_n 0) 1 110 := ⟨by decide +kernel, rfl⟩
theorem iX2_findClouded_110 : In cX2_findClouded 110 (.iload 4) 2 112 := ⟨by decide +kernel, rfl⟩
theorem iX2_findClouded_112 : In cX2_findClouded 112 (.invokevirtual 94) 3 115 := ⟨by decide +kernel, rfl⟩
theorem iX2_findClouded_115 : Jn cX2_findClouded 115 (.ifCond .le 18) (18) 118 133 := ⟨by decide +kernel, rfl, by decide⟩
theorem iX2_findClouded_118 : In cX2_findClouded 118 (.aload_n 0) 1 119 := ⟨by decide +kernel, rfl⟩
theorem iX2_findClouded_119 : In cX2_findClouded 119 (.dup) 1 120 := ⟨by decide +kernel, rfl⟩
theorem iX2_findClouded_120 : In cX2_findClouded 120 (.getfield 32) 3 123 := ⟨by decide +kernel, rfl⟩
theorem iX2_findClouded_123 : In cX2_findClouded 123 (.iload 4) 2 125 := ⟨by decide +kernel, rfl⟩
theorem iX2_findClouded_125 : In cX2_findClouded 125 (.iload_n 3) 1 126 := ⟨by decide +kernel, rfl⟩
theorem iX2_findClouded_126 : In cX2_findClouded 126 (.invokestatic 97) 3 129 := ⟨by decide +kernel, rfl⟩
theorem iX2_findClouded_129 : In cX2_findClouded 129 (.iadd) 1 130 := ⟨by decide +kernel, rfl⟩
theorem iX2_findClouded_130 : In cX2_findClouded 130 (.putfield 32) 3 133 := ⟨by decide +kernel, rfl⟩
theorem iX2_findClouded_133 : In cX2_findClouded 133 (.iinc 4 1) 3 136 := ⟨by decide +kernel, rfl⟩
theorem iX2_findClouded_136 : Jn cX2_findClouded 136 (.goto (-34)) (-34) 139 102 := ⟨by decide +kernel, rfl, by decide⟩
theorem iX2_findClouded_139 : In cX2_findClouded 139 (.return_) 1 140 := ⟨by decide +kernel, rfl⟩
theorem iX2_leadIn_0 : In cX2_leadIn 0 (.iconst 0) 1 1 := ⟨by decide +kernel, rfl⟩
theorem iX2_leadIn_1 : In cX2_leadIn 1 (.istore_n 2) 1 2 := ⟨by decide +kernel, rfl⟩
theorem iX2_leadIn_2 : In cX2_leadIn 2 (.iconst 0) 1 3 := ⟨by decide +kernel, rfl⟩
theorem iX2_leadIn_3 : In cX2_leadIn 3 (.istore_n 3) 1 4 := ⟨by decide +kernel, rfl⟩
theorem iX2_leadIn_4 : In cX2_leadIn 4 (.iload_n 3) 1 5 := ⟨by decide +kernel, rfl⟩
theorem iX2_leadIn_5 : In cX2_leadIn 5 (.bipush 6) 2 7 := ⟨by decide +kernel, rfl⟩
theorem iX2_leadIn_7 : Jn cX2_leadIn 7 (.if_icmp .ge 30) (30) 10 37 := ⟨by decide +kernel, rfl, by decide⟩
theorem iX2_leadIn_10 : In cX2_leadIn 10 (.iload_n 2) 1 11 := ⟨by decide +kernel, rfl⟩
theorem iX2_leadIn_11 : In cX2_leadIn 11 (.iload_n 1) 1 12 := ⟨by decide +kernel, rfl⟩
theorem iX2_leadIn_12 : In cX2_leadIn 12 (.iload_n 3) 1 13 := ⟨by decide +kernel, rfl⟩
theorem iX2_leadIn_13 : In cX2_leadIn 13 (.ishr) 1 14 := ⟨by decide +kernel, rfl⟩
theorem iX2_leadIn_14 : In cX2_leadIn 14 (.iconst 1) 1 15 := ⟨by decide +kernel, rfl⟩
theorem iX2_leadIn_15 : In cX2_leadIn 15 (.iand) 1 16 := ⟨by decide +kernel, rfl⟩
theorem iX2_leadIn_16 : In cX2_leadIn 16 (.aload_n 0) 1 17 := ⟨by decide +kernel, rfl⟩
theorem iX2_leadIn_17 : In cX2_leadIn 17 (.getfield 19) 3 20 := ⟨by decide +kernel, rfl⟩
theorem iX2_leadIn_20 : In cX2_leadIn 20 (.getfield 70) 3 23 := ⟨by decide +kernel, rfl⟩
theorem iX2_leadIn_23 : In cX2_leadIn 23 (.getfield 101) 3 26 := ⟨by decide +kernel, rfl⟩
theorem iX2_leadIn_26 : In cX2_leadIn 26 (.iload_n 3) 1 27 := ⟨by decide +kernel, rfl⟩
theorem iX2_leadIn_27 : In cX2_leadIn 27 (.iaload) 1 28 := ⟨by decide +kernel, rfl⟩
theorem iX2_leadIn_28 : In cX2_leadIn 28 (.imul) 1 29 := ⟨by decide +kernel, rfl⟩
theorem iX2_leadIn_29 : In cX2_leadIn 29 (.iadd) 1 30 := ⟨by decide +kernel, rfl⟩
theorem iX2_leadIn_30 : In cX2_leadIn 30 (.istore_n 2) 1 31 := ⟨by decide +kernel, rfl⟩
theorem iX2_leadIn_31 : In cX2_leadIn 31 (.iinc 3 1) 3 34 := ⟨by decide +kernel, rfl⟩
theorem iX2_leadIn_34 : Jn cX2_leadIn 34 (.goto (-30)) (-30) 37 4 := ⟨by decide +kernel, rfl, by decide⟩
theorem iX2_leadIn_37 : In cX2_leadIn 37 (.iload_n 2) 1 38 := ⟨by decide +kernel, rfl⟩
theorem iX2_leadIn_38 : In cX2_leadIn 38 (.ireturn) 1 39 := ⟨by decide +kernel, rfl⟩
theorem iX2_weightOf_0 : In cX2_weightOf 0 (.iconst 1) 1 1 := ⟨by decide +kernel, rfl⟩
theorem iX2_weightOf_1 : In cX2_weightOf 1 (.istore_n 2) 1 2 := ⟨by decide +kernel, rfl⟩
theorem iX2_weightOf_2 : In cX2_weightOf 2 (.iconst 0) 1 3 := ⟨by decide +kernel, rfl⟩
theorem iX2_weightOf_3 : In cX2_weightOf 3 (.istore_n 3) 1 4 := ⟨by decide +kernel, rfl⟩
theorem iX2_weightOf_4 : In cX2_weightOf 4 (.iload_n 3) 1 5 := ⟨by decide +kernel, rfl⟩
theorem iX2_weightOf_5 : In cX2_weightOf 5 (.bipush 6) 2 7 := ⟨by decide +kernel, rfl⟩
theorem iX2_weightOf_7 : Jn cX2_weightOf 7 (.if_icmp .ge 29) (29) 10 36 := ⟨by decide +kernel, rfl, by decide⟩
theorem iX2_weightOf_10 : In cX2_weightOf 10 (.iload_n 2) 1 11 := ⟨by decide +kernel, rfl⟩
theorem iX2_weightOf_11 : In cX2_weightOf 11 (.iload_n 0) 1 12 := ⟨by decide +kernel, rfl⟩
theorem iX2_weightOf_12 : In cX2_weightOf 12 (.iload_n 3) 1 13 := ⟨by decide +kernel, rfl⟩
theorem iX2_weightOf_13 : In cX2_weightOf 13 (.ishr) 1 14 := ⟨by decide +kernel, rfl⟩
theorem iX2_weightOf_14 : In cX2_weightOf 14 (.iconst 1) 1 15 := ⟨by decide +kernel, rfl⟩
theorem iX2_weightOf_15 : In cX2_weightOf 15 (.iand) 1 16 := ⟨by decide +kernel, rfl⟩
theorem iX2_weightOf_16 : In cX2_weightOf 16 (.iconst 1) 1 17 := ⟨by decide +kernel, rfl⟩
theorem iX2_weightOf_17 : Jn cX2_weightOf 17 (.if_icmp .ne 10) (10) 20 27 := ⟨by decide +kernel, rfl, by decide⟩
theorem iX2_weightOf_20 : In cX2_weightOf 20 (.bipush 10) 2 22 := ⟨by decide +kernel, rfl⟩
theorem iX2_weightOf_22 : In cX2_weightOf 22 (.iload_n 1) 1 23 := ⟨by decide +kernel, rfl⟩
theorem iX2_weightOf_23 : In cX2_weightOf 23 (.isub) 1 24 := ⟨by decide +kernel, rfl⟩
theorem iX2_weightOf_24 : Jn cX2_weightOf 24 (.goto 4) (4) 27 28 := ⟨by decide +kernel, rfl, by decide⟩
theorem iX2_weightOf_27 : In cX2_weightOf 27 (.iload_n 1) 1 28 := ⟨by decide +kernel, rfl⟩
theorem iX2_weightOf_28 : In cX2_weightOf 28 (.imul) 1 29 := ⟨by decide +kernel, rfl⟩
theorem iX2_weightOf_29 : In cX2_weightOf 29 (.istore_n 2) 1 30 := ⟨by decide +kernel, rfl⟩
theorem iX2_weightOf_30 : In cX2_weightOf 30 (.iinc 3 1) 3 33 := ⟨by decide +kernel, rfl⟩
theorem iX2_weightOf_33 : Jn cX2_weightOf 33 (.goto (-29)) (-29) 36 4 := ⟨by decide +kernel, rfl, by decide⟩
theorem iX2_weightOf_36 : In cX2_weightOf 36 (.iload_n 2) 1 37 := ⟨by decide +kernel, rfl⟩
theorem iX2_weightOf_37 : In cX2_weightOf 37 (.ireturn) 1 38 := ⟨by decide +kernel, rfl⟩
theorem iX2_told_0 : In cX2_told 0 (.aload_n 0) 1 1 := ⟨by decide +kernel, rfl⟩
theorem iX2_told_1 : In cX2_told 1 (.invokevirtual 104) 3 4 := ⟨by decide +kernel, rfl⟩
theorem iX2_told_4 : In cX2_told 4 (.istore_n 2) 1 5 := ⟨by decide +kernel, rfl⟩
theorem iX2_told_5 : In cX2_told 5 (.iload_n 1) 1 6 := ⟨by decide +kernel, rfl⟩
theorem iX2_told_6 : Jn cX2_told 6 (.ifCond .eq 10) (10) 9 16 := ⟨by decide +kernel, rfl, by decide⟩
theorem iX2_told_9 : In cX2_told 9 (.aload_n 0) 1 10 := ⟨by decide +kernel, rfl⟩
theorem iX2_told_10 : In cX2_told 10 (.getfield 32) 3 13 := ⟨by decide +kernel, rfl⟩
theorem iX2_told_13 : Jn cX2_told 13 (.goto 7) (7) 16 20 := ⟨by decide +kernel, rfl, by decide⟩
theorem iX2_told_16 : In cX2_told 16 (.aload_n 0) 1 17 := ⟨by decide +kernel, rfl⟩
theorem iX2_told_17 : In cX2_told 17 (.getfield 15) 3 20 := ⟨by decide +kernel, rfl⟩
theorem iX2_told_20 : In cX2_told 20 (.istore_n 3) 1 21 := ⟨by decide +kernel, rfl⟩
theorem iX2_told_21 : In cX2_told 21 (.iload_n 2) 1 22 := ⟨by decide +kernel, rfl⟩
theorem iX2_told_22 : In cX2_told 22 (.iconst 1) 1 23 := ⟨by decide +kernel, rfl⟩
theorem iX2_told_23 : Jn cX2_told 23 (.if_icmp .le 9) (9) 26 32 := ⟨by decide +kernel, rfl, by decide⟩
theorem iX2_told_26 : In cX2_told 26 (.iload_n 3) 1 27 := ⟨by decide +kernel, rfl⟩
theorem iX2_told_27 : In cX2_told 27 (.iload_n 2) 1 28 := ⟨by decide +kernel, rfl⟩
theorem iX2_told_28 : In cX2_told 28 (.idiv) 1 29 := ⟨by decide +kernel, rfl⟩
theorem iX2_told_29 : Jn cX2_told 29 (.goto 4) (4) 32 33 := ⟨by decide +kernel, rfl, by decide⟩
theorem iX2_told_32 : In cX2_told 32 (.iload_n 3) 1 33 := ⟨by decide +kernel, rfl⟩
theorem iX2_told_33 : In cX2_told 33 (.ireturn) 1 34 := ⟨by decide +kernel, rfl⟩
theorem iX2_greatestDivisor_0 : In cX2_greatestDivisor 0 (.aload_n 0) 1 1 := ⟨by decide +kernel, rfl⟩
theorem iX2_greatestDivisor_1 : In cX2_greatestDivisor 1 (.getfield 15) 3 4 := ⟨by decide +kernel, rfl⟩
theorem iX2_greatestDivisor_4 : In cX2_greatestDivisor 4 (.istore_n 1) 1 5 := ⟨by decide +kernel, rfl⟩
theorem iX2_greatestDivisor_5 : In cX2_greatestDivisor 5 (.aload_n 0) 1 6 := ⟨by decide +kernel, rfl⟩
theorem iX2_greatestDivisor_6 : In cX2_greatestDivisor 6 (.getfield 32) 3 9 := ⟨by decide +kernel, rfl⟩
theorem iX2_greatestDivisor_9 : In cX2_greatestDivisor 9 (.istore_n 2) 1 10 := ⟨by decide +kernel, rfl⟩
theorem iX2_greatestDivisor_10 : In cX2_greatestDivisor 10 (.iconst 0) 1 11 := ⟨by decide +kernel, rfl⟩
theorem iX2_greatestDivisor_11 : In cX2_greatestDivisor 11 (.istore_n 3) 1 12 := ⟨by decide +kernel, rfl⟩
theorem iX2_greatestDivisor_12 : In cX2_greatestDivisor 12 (.iload_n 3) 1 13 := ⟨by decide +kernel, rfl⟩
theorem iX2_greatestDivisor_13 : In cX2_greatestDivisor 13 (.ldc 93) 2 15 := ⟨by decide +kernel, rfl⟩
theorem iX2_greatestDivisor_15 : Jn cX2_greatestDivisor 15 (.if_icmp .ge 23) (23) 18 38 := ⟨by decide +kernel, rfl, by decide⟩
theorem iX2_greatestDivisor_18 : In cX2_greatestDivisor 18 (.iload_n 2) 1 19 := ⟨by decide +kernel, rfl⟩
theorem iX2_greatestDivisor_19 : Jn cX2_greatestDivisor 19 (.ifCond .le 19) (19) 22 38 := ⟨by decide +kernel, rfl, by decide⟩
theorem iX2_greatestDivisor_22 : In cX2_greatestDivisor 22 (.iload_n 1) 1 23 := ⟨by decide +kernel, rfl⟩
theorem iX2_greatestDivisor_23 : In cX2_greatestDivisor 23 (.iload_n 2) 1 24 := ⟨by decide +kernel, rfl⟩
theorem iX2_greatestDivisor_24 : In cX2_greatestDivisor 24 (.irem) 1 25 := ⟨by decide +kernel, rfl⟩
theorem iX2_greatestDivisor_25 : In cX2_greatestDivisor 25 (.istore 4) 2 27 := ⟨by decide +kernel, rfl⟩
theorem iX2_greatestDivisor_27 : In cX2_greatestDivisor 27 (.iload_n 2) 1 28 := ⟨by decide +kernel, rfl⟩
theorem iX2_greatestDivisor_28 : In cX2_greatestDivisor 28 (.istore_n 1) 1 29 := ⟨by decide +kernel, rfl⟩
theorem iX2_greatestDivisor_29 : In cX2_greatestDivisor 29 (.iload 4) 2 31 := ⟨by decide +kernel, rfl⟩
theorem iX2_greatestDivisor_31 : In cX2_greatestDivisor 31 (.istore_n 2) 1 32 := ⟨by decide +kernel, rfl⟩
theorem iX2_greatestDivisor_32 : In cX2_greatestDivisor 32 (.iinc 3 1) 3 35 := ⟨by decide +kernel, rfl⟩
theorem iX2_greatestDivisor_35 : Jn cX2_greatestDivisor 35 (.goto (-23)) (-23) 38 12 := ⟨by decide +kernel, rfl, by decide⟩
theorem iX2_greatestDivisor_38 : In cX2_greatestDivisor 38 (.iload_n 1) 1 39 := ⟨by decide +kernel, rfl⟩
theorem iX2_greatestDivisor_39 : In cX2_greatestDivisor 39 (.ireturn) 1 40 := ⟨by decide +kernel, rfl⟩
theorem iX3_init_0 : In cX3_init 0 (.aload_n 0) 1 1 := ⟨by decide +kernel, rfl⟩
theorem iX3_init_1 : In cX3_init 1 (.invokespecial 3) 3 4 := ⟨by decide +kernel, rfl⟩
theorem iX3_init_4 : In cX3_init 4 (.aload_n 0) 1 5 := ⟨by decide +kernel, rfl⟩
theorem iX3_init_5 : In cX3_init 5 (.bipush 6) 2 7 := ⟨by decide +kernel, rfl⟩
theorem iX3_init_7 : In cX3_init 7 (.newarray .int) 2 9 := ⟨by decide +kernel, rfl⟩
theorem iX3_init_9 : In cX3_init 9 (.putfield 9) 3 12 := ⟨by decide +kernel, rfl⟩
theorem iX3_init_12 : In cX3_init 12 (.aload_n 0) 1 13 := ⟨by decide +kernel, rfl⟩
theorem iX3_init_13 : In cX3_init 13 (.bipush 6) 2 15 := ⟨by decide +kernel, rfl⟩
theorem iX3_init_15 : In cX3_init 15 (.newarray .int) 2 17 := ⟨by decide +kernel, rfl⟩
theorem iX3_init_17 : In cX3_init 17 (.putfield 15) 3 20 := ⟨by decide +kernel, rfl⟩
theorem iX3_init_20 : In cX3_init 20 (.aload_n 0) 1 21 := ⟨by decide +kernel, rfl⟩
theorem iX3_init_21 : In cX3_init 21 (.bipush 64) 2 23 := ⟨by decide +kernel, rfl⟩
theorem iX3_init_23 : In cX3_init 23 (.newarray .int) 2 25 := ⟨by decide +kernel, rfl⟩
theorem iX3_init_25 : In cX3_init 25 (.putfield 18) 3 28 := ⟨by decide +kernel, rfl⟩
theorem iX3_init_28 : In cX3_init 28 (.aload_n 0) 1 29 := ⟨by decide +kernel, rfl⟩
theorem iX3_init_29 : In cX3_init 29 (.aload_n 1) 1 30 := ⟨by decide +kernel, rfl⟩
theorem iX3_init_30 : In cX3_init 30 (.putfield 21) 3 33 := ⟨by decide +kernel, rfl⟩
theorem iX3_init_33 : In cX3_init 33 (.return_) 1 34 := ⟨by decide +kernel, rfl⟩
theorem iX3_findChain_0 : In cX3_findChain 0 (.aload_n 0) 1 1 := ⟨by decide +kernel, rfl⟩
theorem iX3_findChain_1 : In cX3_findChain 1 (.getfield 21) 3 4 := ⟨by decide +kernel, rfl⟩
theorem iX3_findChain_4 : In cX3_findChain 4 (.getfield 25) 3 7 := ⟨by decide +kernel, rfl⟩
theorem iX3_findChain_7 : In cX3_findChain 7 (.getfield 31) 3 10 := ⟨by decide +kernel, rfl⟩
theorem iX3_findChain_10 : In cX3_findChain 10 (.iload_n 2) 1 11 := ⟨by decide +kernel, rfl⟩
theorem iX3_findChain_11 : In cX3_findChain 11 (.iaload) 1 12 := ⟨by decide +kernel, rfl⟩
theorem iX3_findChain_12 : In cX3_findChain 12 (.istore_n 3) 1 13 := ⟨by decide +kernel, rfl⟩
theorem iX3_findChain_13 : In cX3_findChain 13 (.aload_n 0) 1 14 := ⟨by decide +kernel, rfl⟩
theorem iX3_findChain_14 : In cX3_findChain 14 (.iconst 0) 1 15 := ⟨by decide +kernel, rfl⟩
theorem iX3_findChain_15 : In cX3_findChain 15 (.putfield 36) 3 18 := ⟨by decide +kernel, rfl⟩
theorem iX3_findChain_18 : In cX3_findChain 18 (.aload_n 0) 1 19 := ⟨by decide +kernel, rfl⟩
theorem iX3_findChain_19 : In cX3_findChain 19 (.bipush (-9)) 2 21 := ⟨by decide +kernel, rfl⟩
theorem iX3_findChain_21 : In cX3_findChain 21 (.putfield 40) 3 24 := ⟨by decide +kernel, rfl⟩
theorem iX3_findChain_24 : In cX3_findChain 24 (.iload_n 3) 1 25 := ⟨by decide +kernel, rfl⟩
theorem iX3_findChain_25 : In cX3_findChain 25 (.iload_n 1) 1 26 := ⟨by decide +kernel, rfl⟩
theorem iX3_findChain_26 : Jn cX3_findChain 26 (.if_icmp .ne 4) (4) 29 30 := ⟨by decide +kernel, rfl, by decide⟩
theorem iX3_findChain_29 : In cX3_findChain 29 (.return_) 1 30 := ⟨by decide +kernel, rfl⟩
theorem iX3_findChain_30 : In cX3_findChain 30 (.aload_n 0) 1 31 := ⟨by decide +kernel, rfl⟩
theorem iX3_findChain_31 : In cX3_findChain 31 (.getfield 21) 3 34 := ⟨by decide +kernel, rfl⟩
theorem iX3_findChain_34 : In cX3_findChain 34 (.invokevirtual 43) 3 37 := ⟨by decide +kernel, rfl⟩
theorem iX3_findChain_37 : In cX3_findChain 37 (.aload_n 0) 1 38 := ⟨by decide +kernel, rfl⟩
theorem iX3_findChain_38 : In cX3_findChain 38 (.getfield 21) 3 41 := ⟨by decide +kernel, rfl⟩
theorem iX3_findChain_41 : In cX3_findChain 41 (.getfield 46) 3 44 := ⟨by decide +kernel, rfl⟩
theorem iX3_findChain_44 : In cX3_findChain 44 (.getfield 50) 3 47 := ⟨by decide +kernel, rfl⟩
theorem iX3_findChain_47 : In cX3_findChain 47 (.iload_n 2) 1 48 := ⟨by decide +kernel, rfl⟩
theorem iX3_findChain_48 : In cX3_findChain 48 (.iaload) 1 49 := ⟨by decide +kernel, rfl⟩
theorem iX3_findChain_49 : In cX3_findChain 49 (.istore 4) 2 51 := ⟨by decide +kernel, rfl⟩
theorem iX3_findChain_51 : In cX3_findChain 51 (.aload_n 0) 1 52 := ⟨by decide +kernel, rfl⟩
theorem iX3_findChain_52 : In cX3_findChain 52 (.iload_n 1) 1 53 := ⟨by decide +kernel, rfl⟩
theorem iX3_findChain_53 : In cX3_findChain 53 (.iload_n 3) 1 54 := ⟨by decide +kernel, rfl⟩
theorem iX3_findChain_54 : In cX3_findChain 54 (.iload 4) 2 56 := ⟨by decide +kernel, rfl⟩
theorem iX3_findChain_56 : In cX3_findChain 56 (.invokevirtual 55) 3 59 := ⟨by decide +kernel, rfl⟩
theorem iX3_findChain_59 : In cX3_findChain 59 (.aload_n 0) 1 60 := ⟨by decide +kernel, rfl⟩
theorem iX3_findChain_60 : In cX3_findChain 60 (.ldc 59) 2 62 := ⟨by decide +kernel, rfl⟩
theorem iX3_findChain_62 : In cX3_findChain 62 (.putfield 36) 3 65 := ⟨by decide +kernel, rfl⟩
theorem iX3_findChain_65 : In cX3_findChain 65 (.iconst 0) 1 66 := ⟨by decide +kernel, rfl⟩
theorem iX3_findChain_66 : In cX3_findChain 66 (.istore 5) 2 68 := ⟨by decide +kernel, rfl⟩
theorem iX3_findChain_68 : In cX3_findChain 68 (.iload 5) 2 70 := ⟨by decide +kernel, rfl⟩
theorem iX3_findChain_70 : In cX3_findChain 70 (.aload_n 0) 1 71 := ⟨by decide +kernel, rfl⟩
theorem iX3_findChain_71 : In cX3_findChain 71 (.getfield 21) 3 74 := ⟨by decide +kernel, rfl⟩
theorem iX3_findChain_74 : In cX3_findChain 74 (.getfield 46) 3 77 := ⟨by decide +kernel, rfl⟩
theorem iX3_findChain_77 : In cX3_findChain 77 (.getfield 60) 3 80 := ⟨by decide +kernel, rfl⟩
theorem iX3_findChain_80 : Jn cX3_findChain 80 (.if_icmp .ge 60) (60) 83 140 := ⟨by decide +kernel, rfl, by decide⟩
theorem iX3_findChain_83 : In cX3_findChain 83 (.iload 5) 2 85 := ⟨by decide +kernel, rfl⟩
theorem iX3_findChain_85 : In cX3_findChain 85 (.iload_n 3) 1 86 := ⟨by decide +kernel, rfl⟩
theorem iX3_findChain_86 : Jn cX3_findChain 86 (.if_icmp .ne 8) (8) 89 94 := ⟨by decide +kernel, rfl, by decide⟩
theorem iX3_findChain_89 : In cX3_findChain 89 (.ldc 59) 2 91 := ⟨by decide +kernel, rfl⟩
theorem iX3_findChain_91 : Jn cX3_findChain 91 (.goto 20) (20) 94 111 := ⟨by decide +kernel, rfl, by decide⟩
theorem iX3_findChain_94 : In cX3_findChain 94 (.aload_n 0) 1 95 := ⟨by decide +kernel, rfl⟩
theorem iX3_findChain_95 : In cX3_findChain 95 (.iload_n 3) 1 96 := ⟨by decide +kernel, rfl⟩
theorem iX3_findChain_96 : In cX3_findChain 96 (.iload 5) 2 98 := ⟨by decide +kernel, rfl⟩
theorem iX3_findChain_98 : In cX3_findChain 98 (.iload 4) 2 100 := ⟨by decide +kernel, rfl⟩
theorem iX3_findChain_100 : In cX3_findChain 100 (.invokevirtual 63) 3 103 := ⟨by decide +kernel, rfl⟩
theorem iX3_findChain_103 : In cX3_findChain 103 (.aload_n 0) 1 104 := ⟨by decide +kernel, rfl⟩
theorem iX3_findChain_104 : In cX3_findChain 104 (.getfield 9) 3 107 := ⟨by decide +kernel, rfl⟩
theorem iX3_findChain_107 : In cX3_findChain 107 (.iload 5) 2 109 := ⟨by decide +kernel, rfl⟩
theorem iX3_findChain_109 : In cX3_findChain 109 (.iaload) 1 110 := ⟨by decide +kernel, rfl⟩
theorem iX3_findChain_110 : In cX3_findChain 110 (.iadd) 1 111 := ⟨by decide +kernel, rfl⟩
theorem iX3_findChain_111 : In cX3_findChain 111 (.istore 6) 2 113 := ⟨by decide +kernel, rfl⟩
theorem iX3_findChain_113 : In cX3_findChain 113 (.iload 6) 2 115 := ⟨by decide +kernel, rfl⟩
theorem iX3_findChain_115 : In cX3_findChain 115 (.aload_n 0) 1 116 := ⟨by decide +kernel, rfl⟩
theorem iX3_findChain_116 : In cX3_findChain 116 (.getfield 36) 3 119 := ⟨by decide +kernel, rfl⟩
theorem iX3_findChain_119 : Jn cX3_findChain 119 (.if_icmp .ge 15) (15) 122 134 := ⟨by decide +kernel, rfl, by decide⟩
theorem iX3_findChain_122 : In cX3_findChain 122 (.aload_n 0) 1 123 := ⟨by decide +kernel, rfl⟩
theorem iX3_findChain_123 : In cX3_findChain 123 (.iload 6) 2 125 := ⟨by decide +kernel, rfl⟩
theorem iX3_findChain_125 : In cX3_findChain 125 (.putfield 36) 3 128 := ⟨by decide +kernel, rfl⟩
theorem iX3_findChain_128 : In cX3_findChain 128 (.aload_n 0) 1 129 := ⟨by decide +kernel, rfl⟩
theorem iX3_findChain_129 : In cX3_findChain 129 (.iload 5) 2 131 := ⟨by decide +kernel, rfl⟩
theorem iX3_findChain_131 : In cX3_findChain 131 (.putfield 40) 3 134 := ⟨by decide +kernel, rfl⟩
theorem iX3_findChain_134 : In cX3_findChain 134 (.iinc 5 1) 3 137 := ⟨by decide +kernel, rfl⟩
theorem iX3_findChain_137 : Jn cX3_findChain 137 (.goto (-69)) (-69) 140 68 := ⟨by decide +kernel, rfl, by decide⟩
theorem iX3_findChain_140 : In cX3_findChain 140 (.return_) 1 141 := ⟨by decide +kernel, rfl⟩
theorem iX3_findWays_0 : In cX3_findWays 0 (.aload_n 0) 1 1 := ⟨by decide +kernel, rfl⟩
theorem iX3_findWays_1 : In cX3_findWays 1 (.getfield 9) 3 4 := ⟨by decide +kernel, rfl⟩
theorem iX3_findWays_4 : In cX3_findWays 4 (.ldc 59) 2 6 := ⟨by decide +kernel, rfl⟩
theorem iX3_findWays_6 : In cX3_findWays 6 (.invokestatic 67) 3 9 := ⟨by decide +kernel, rfl⟩
theorem iX3_findWays_9 : In cX3_findWays 9 (.aload_n 0) 1 10 := ⟨by decide +kernel, rfl⟩
theorem iX3_findWays_10 : In cX3_findWays 10 (.getfield 9) 3 13 := ⟨by decide +kernel, rfl⟩
theorem iX3_findWays_13 : In cX3_findWays 13 (.iload_n 1) 1 14 := ⟨by decide +kernel, rfl⟩
theorem iX3_findWays_14 : In cX3_findWays 14 (.iconst 0) 1 15 := ⟨by decide +kernel, rfl⟩
theorem iX3_findWays_15 : In cX3_findWays 15 (.iastore) 1 16 := ⟨by decide +kernel, rfl⟩
theorem iX3_findWays_16 : In cX3_findWays 16 (.iconst 0) 1 17 := ⟨by decide +kernel, rfl⟩
theorem iX3_findWays_17 : In cX3_findWays 17 (.istore 4) 2 19 := ⟨by decide +kernel, rfl⟩
theorem iX3_findWays_19 : In cX3_findWays 19 (.iload 4) 2 21 := ⟨by decide +kernel, rfl⟩
theorem iX3_findWays_21 : In cX3_findWays 21 (.aload_n 0) 1 22 := ⟨by decide +kernel, rfl⟩
theorem iX3_findWays_22 : In cX3_findWays 22 (.getfield 21) 3 25 := ⟨by decide +kernel, rfl⟩
theorem iX3_findWays_25 : In cX3_findWays 25 (.getfield 46) 3 28 := ⟨by decide +kernel, rfl⟩
theorem iX3_findWays_28 : In cX3_findWays 28 (.getfield 60) 3 31 := ⟨by decide +kernel, rfl⟩
theorem iX3_findWays_31 : Jn cX3_findWays 31 (.if_icmp .ge 110) (110) 34 141 := ⟨by decide +kernel, rfl, by decide⟩
theorem iX3_findWays_34 : In cX3_findWays 34 (.iconst 0) 1 35 := ⟨by decide +kernel, rfl⟩
theorem iX3_findWays_35 : In cX3_findWays 35 (.istore 5) 2 37 := ⟨by decide +kernel, rfl⟩
theorem iX3_findWays_37 : In cX3_findWays 37 (.iload 5) 2 39 := ⟨by decide +kernel, rfl⟩
theorem iX3_findWays_39 : In cX3_findWays 39 (.aload_n 0) 1 40 := ⟨by decide +kernel, rfl⟩
theorem iX3_findWays_40 : In cX3_findWays 40 (.getfield 21) 3 43 := ⟨by decide +kernel, rfl⟩
theorem iX3_findWays_43 : In cX3_findWays 43 (.getfield 46) 3 46 := ⟨by decide +kernel, rfl⟩
theorem iX3_findWays_46 : In cX3_findWays 46 (.getfield 60) 3 49 := ⟨by decide +kernel, rfl⟩
theorem iX3_findWays_49 : Jn cX3_findWays 49 (.if_icmp .ge 86) (86) 52 135 := ⟨by decide +kernel, rfl, by decide⟩
theorem iX3_findWays_52 : In cX3_findWays 52 (.iconst 0) 1 53 := ⟨by decide +kernel, rfl⟩
theorem iX3_findWays_53 : In cX3_findWays 53 (.istore 6) 2 55 := ⟨by decide +kernel, rfl⟩
theorem iX3_findWays_55 : In cX3_findWays 55 (.iload 6) 2 57 := ⟨by decide +kernel, rfl⟩
theorem iX3_findWays_57 : In cX3_findWays 57 (.aload_n 0) 1 58 := ⟨by decide +kernel, rfl⟩
theorem iX3_findWays_58 : In cX3_findWays 58 (.getfield 21) 3 61 := ⟨by decide +kernel, rfl⟩
theorem iX3_findWays_61 : In cX3_findWays 61 (.getfield 46) 3 64 := ⟨by decide +kernel, rfl⟩
theorem iX3_findWays_64 : In cX3_findWays 64 (.getfield 60) 3 67 := ⟨by decide +kernel, rfl⟩
theorem iX3_findWays_67 : Jn cX3_findWays 67 (.if_icmp .ge 62) (62) 70 129 := ⟨by decide +kernel, rfl, by decide⟩
theorem iX3_findWays_70 : In cX3_findWays 70 (.iload 5) 2 72 := ⟨by decide +kernel, rfl⟩
theorem iX3_findWays_72 : In cX3_findWays 72 (.iload_n 2) 1 73 := ⟨by decide +kernel, rfl⟩
theorem iX3_findWays_73 : Jn cX3_findWays 73 (.if_icmp .eq 50) (50) 76 123 := ⟨by decide +kernel, rfl, by decide⟩
theorem iX3_findWays_76 : In cX3_findWays 76 (.iload 6) 2 78 := ⟨by decide +kernel, rfl⟩
theorem iX3_findWays_78 : In cX3_findWays 78 (.iload_n 2) 1 79 := ⟨by decide +kernel, rfl⟩
theorem iX3_findWays_79 : Jn cX3_findWays 79 (.if_icmp .eq 44) (44) 82 123 := ⟨by decide +kernel, rfl, by decide⟩
theorem iX3_findWays_82 : In cX3_findWays 82 (.iload 5) 2 84 := ⟨by decide +kernel, rfl⟩
theorem iX3_findWays_84 : In cX3_findWays 84 (.iload 6) 2 86 := ⟨by decide +kernel, rfl⟩
theorem iX3_findWays_86 : Jn cX3_findWays 86 (.if_icmp .eq 37) (37) 89 123 := ⟨by decide +kernel, rfl, by decide⟩
theorem iX3_findWays_89 : In cX3_findWays 89 (.aload_n 0) 1 90 := ⟨by decide +kernel, rfl⟩
theorem iX3_findWays_90 : In cX3_findWays 90 (.getfield 9) 3 93 := ⟨by decide +kernel, rfl⟩
theorem iX3_findWays_93 : In cX3_findWays 93 (.iload 5) 2 95 := ⟨by decide +kernel, rfl⟩
theorem iX3_findWays_95 : In cX3_findWays 95 (.aload_n 0) 1 96 := ⟨by decide +kernel, rfl⟩
theorem iX3_findWays_96 : In cX3_findWays 96 (.getfield 9) 3 99 := ⟨by decide +kernel, rfl⟩
theorem iX3_findWays_99 : In cX3_findWays 99 (.iload 5) 2 101 := ⟨by decide +kernel, rfl⟩
theorem iX3_findWays_101 : In cX3_findWays 101 (.iaload) 1 102 := ⟨by decide +kernel, rfl⟩
theorem iX3_findWays_102 : In cX3_findWays 102 (.aload_n 0) 1 103 := ⟨by decide +kernel, rfl⟩
theorem iX3_findWays_103 : In cX3_findWays 103 (.getfield 9) 3 106 := ⟨by decide +kernel, rfl⟩
theorem iX3_findWays_106 : In cX3_findWays 106 (.iload 6) 2 108 := ⟨by decide +kernel, rfl⟩
theorem iX3_findWays_108 : In cX3_findWays 108 (.iaload) 1 109 := ⟨by decide +kernel, rfl⟩
theorem iX3_findWays_109 : In cX3_findWays 109 (.aload_n 0) 1 110 := ⟨by decide +kernel, rfl⟩
theorem iX3_findWays_110 : In cX3_findWays 110 (.iload 5) 2 112 := ⟨by decide +kernel, rfl⟩
theorem iX3_findWays_112 : In cX3_findWays 112 (.iload 6) 2 114 := ⟨by decide +kernel, rfl⟩
theorem iX3_findWays_114 : In cX3_findWays 114 (.iload_n 3) 1 115 := ⟨by decide +kernel, rfl⟩
theorem iX3_findWays_115 : In cX3_findWays 115 (.invokevirtual 63) 3 118 := ⟨by decide +kernel, rfl⟩
theorem iX3_findWays_118 : In cX3_findWays 118 (.iadd) 1 119 := ⟨by decide +kernel, rfl⟩
theorem iX3_findWays_119 : In cX3_findWays 119 (.invokestatic 73) 3 122 := ⟨by decide +kernel, rfl⟩
theorem iX3_findWays_122 : In cX3_findWays 122 (.iastore) 1 123 := ⟨by decide +kernel, rfl⟩
theorem iX3_findWays_123 : In cX3_findWays 123 (.iinc 6 1) 3 126 := ⟨by decide +kernel, rfl⟩
theorem iX3_findWays_126 : Jn cX3_findWays 126 (.goto (-71)) (-71) 129 55 := ⟨by decide +kernel, rfl, by decide⟩
theorem iX3_findWays_129 : In cX3_findWays 129 (.iinc 5 1) 3 132 := ⟨by decide +kernel, rfl⟩
theorem iX3_findWays_132 : Jn cX3_findWays 132 (.goto (-95)) (-95) 135 37 := ⟨by decide +kernel, rfl, by decide⟩
theorem iX3_findWays_135 : In cX3_findWays 135 (.iinc 4 1) 3 138 := ⟨by decide +kernel, rfl⟩
theorem iX3_findWays_138 : Jn cX3_findWays 138 (.goto (-119)) (-119) 141 19 := ⟨by decide +kernel, rfl, by decide⟩
theorem iX3_findWays_141 : In cX3_findWays 141 (.return_) 1 142 := ⟨by decide +kernel, rfl⟩
theorem iX3_costOfHand_0 : In cX3_costOfHand 0 (.iconst 0) 1 1 := ⟨by decide +kernel, rfl⟩
theorem iX3_costOfHand_1 : In cX3_costOfHand 1 (.iload_n 3) 1 2 := ⟨by decide +kernel, rfl⟩
theorem iX3_costOfHand_2 : In cX3_costOfHand 2 (.aload_n 0) 1 3 := ⟨by decide +kernel, rfl⟩
theorem iX3_costOfHand_3 : In cX3_costOfHand 3 (.getfield 21) 3 6 := ⟨by decide +kernel, rfl⟩
theorem iX3_costOfHand_6 : In cX3_costOfHand 6 (.getfield 79) 3 9 := ⟨by decide +kernel, rfl⟩
theorem iX3_costOfHand_9 : In cX3_costOfHand 9 (.iload_n 2) 1 10 := ⟨by decide +kernel, rfl⟩
theorem iX3_costOfHand_10 : In cX3_costOfHand 10 (.aaload) 1 11 := ⟨by decide +kernel, rfl⟩
theorem iX3_costOfHand_11 : In cX3_costOfHand 11 (.iload_n 1) 1 12 := ⟨by decide +kernel, rfl⟩
theorem iX3_costOfHand_12 : In cX3_costOfHand 12 (.iaload) 1 13 := ⟨by decide +kernel, rfl⟩
theorem iX3_costOfHand_13 : In cX3_costOfHand 13 (.isub) 1 14 := ⟨by decide +kernel, rfl⟩
theorem iX3_costOfHand_14 : In cX3_costOfHand 14 (.invokestatic 83) 3 17 := ⟨by decide +kernel, rfl⟩
theorem iX3_costOfHand_17 : In cX3_costOfHand 17 (.ireturn) 1 18 := ⟨by decide +kernel, rfl⟩
theorem iX3_weighOrders_0 : In cX3_weighOrders 0 (.aload_n 0) 1 1 := ⟨by decide +kernel, rfl⟩
theorem iX3_weighOrders_1 : In cX3_weighOrders 1 (.getfield 21) 3 4 := ⟨by decide +kernel, rfl⟩
theorem iX3_weighOrders_4 : In cX3_weighOrders 4 (.invokevirtual 43) 3 7 := ⟨by decide +kernel, rfl⟩
theorem iX3_weighOrders_7 : In cX3_weighOrders 7 (.aload_n 0) 1 8 := ⟨by decide +kernel, rfl⟩
theorem iX3_weighOrders_8 : In cX3_weighOrders 8 (.getfield 21) 3 11 := ⟨by decide +kernel, rfl⟩
theorem iX3_weighOrders_11 : In cX3_weighOrders 11 (.getfield 46) 3 14 := ⟨by decide +kernel, rfl⟩
theorem iX3_weighOrders_14 : In cX3_weighOrders 14 (.getfield 60) 3 17 := ⟨by decide +kernel, rfl⟩
theorem iX3_weighOrders_17 : In cX3_weighOrders 17 (.istore_n 1) 1 18 := ⟨by decide +kernel, rfl⟩
theorem iX3_weighOrders_18 : In cX3_weighOrders 18 (.iconst 0) 1 19 := ⟨by decide +kernel, rfl⟩
theorem iX3_weighOrders_19 : In cX3_weighOrders 19 (.istore_n 2) 1 20 := ⟨by decide +kernel, rfl⟩
theorem iX3_weighOrders_20 : In cX3_weighOrders 20 (.iload_n 2) 1 21 := ⟨by decide +kernel, rfl⟩
theorem iX3_weighOrders_21 : In cX3_weighOrders 21 (.iload_n 1) 1 22 := ⟨by decide +kernel, rfl⟩
theorem iX3_weighOrders_22 : Jn cX3_weighOrders 22 (.if_icmp .ge 23) (23) 25 45 := ⟨by decide +kernel, rfl, by decide⟩
theorem iX3_weighOrders_25 : In cX3_weighOrders 25 (.aload_n 0) 1 26 := ⟨by decide +kernel, rfl⟩
theorem iX3_weighOrders_26 : In cX3_weighOrders 26 (.getfield 15) 3 29 := ⟨by decide +kernel, rfl⟩
theorem iX3_weighOrders_29 : In cX3_weighOrders 29 (.iload_n 2) 1 30 := ⟨by decide +kernel, rfl⟩
theorem iX3_weighOrders_30 : In cX3_weighOrders 30 (.aload_n 0) 1 31 := ⟨by decide +kernel, rfl⟩
theorem iX3_weighOrders_31 : In cX3_weighOrders 31 (.getfield 21) 3 34 := ⟨by decide +kernel, rfl⟩
theorem iX3_weighOrders_34 : In cX3_weighOrders 34 (.iload_n 2) 1 35 := ⟨by decide +kernel, rfl⟩
theorem iX3_weighOrders_35 : In cX3_weighOrders 35 (.invokevirtual 86) 3 38 := ⟨by decide +kernel, rfl⟩
theorem iX3_weighOrders_38 : In cX3_weighOrders 38 (.iastore) 1 39 := ⟨by decide +kernel, rfl⟩
theorem iX3_weighOrders_39 : In cX3_weighOrders 39 (.iinc 2 1) 3 42 := ⟨by decide +kernel, rfl⟩
theorem iX3_weighOrders_42 : Jn cX3_weighOrders 42 (.goto (-22)) (-22) 45 20 := ⟨by decide +kernel, rfl, by decide⟩
theorem iX3_weighOrders_45 : In cX3_weighOrders 45 (.aload_n 0) 1 46 := ⟨by decide +kernel, rfl⟩
theorem iX3_weighOrders_46 : In cX3_weighOrders 46 (.getfield 18) 3 49 := ⟨by decide +kernel, rfl⟩
theorem iX3_weighOrders_49 : In cX3_weighOrders 49 (.iconst 0) 1 50 := ⟨by decide +kernel, rfl⟩
theorem iX3_weighOrders_50 : In cX3_weighOrders 50 (.iconst 0) 1 51 := ⟨by decide +kernel, rfl⟩
theorem iX3_weighOrders_51 : In cX3_weighOrders 51 (.iastore) 1 52 := ⟨by decide +kernel, rfl⟩
theorem iX3_weighOrders_52 : In cX3_weighOrders 52 (.iconst 1) 1 53 := ⟨by decide +kernel, rfl⟩
theorem iX3_weighOrders_53 : In cX3_weighOrders 53 (.istore_n 2) 1 54 := ⟨by decide +kernel, rfl⟩
theorem iX3_weighOrders_54 : In cX3_weighOrders 54 (.iload_n 2) 1 55 := ⟨by decide +kernel, rfl⟩
theorem iX3_weighOrders_55 : In cX3_weighOrders 55 (.iconst 1) 1 56 := ⟨by decide +kernel, rfl⟩
theorem iX3_weighOrders_56 : In cX3_weighOrders 56 (.iload_n 1) 1 57 := ⟨by decide +kernel, rfl⟩
theorem iX3_weighOrders_57 : In cX3_weighOrders 57 (.ishl) 1 58 := ⟨by decide +kernel, rfl⟩
theorem iX3_weighOrders_58 : Jn cX3_weighOrders 58 (.if_icmp .ge 60) (60) 61 118 := ⟨by decide +kernel, rfl, by decide⟩
theorem iX3_weighOrders_61 : In cX3_weighOrders 61 (.aload_n 0) 1 62 := ⟨by decide +kernel, rfl⟩
theorem iX3_weighOrders_62 : In cX3_weighOrders 62 (.getfield 18) 3 65 := ⟨by decide +kernel, rfl⟩
theorem iX3_weighOrders_65 : In cX3_weighOrders 65 (.iload_n 2) 1 66 := ⟨by decide +kernel, rfl⟩
theorem iX3_weighOrders_66 : In cX3_weighOrders 66 (.ldc 59) 2 68 := ⟨by decide +kernel, rfl⟩
theorem iX3_weighOrders_68 : In cX3_weighOrders 68 (.iastore) 1 69 := ⟨by decide +kernel, rfl⟩
theorem iX3_weighOrders_69 : In cX3_weighOrders 69 (.iconst 0) 1 70 := ⟨by decide +kernel, rfl⟩
theorem iX3_weighOrders_70 : In cX3_weighOrders 70 (.istore_n 3) 1 71 := ⟨by decide +kernel, rfl⟩
theorem iX3_weighOrders_71 : In cX3_weighOrders 71 (.iload_n 3) 1 72 := ⟨by decide +kernel, rfl⟩
theorem iX3_weighOrders_72 : In cX3_weighOrders 72 (.iload_n 1) 1 73 := ⟨by decide +kernel, rfl⟩
theorem iX3_weighOrders_73 : Jn cX3_weighOrders 73 (.if_icmp .ge 39) (39) 76 112 := ⟨by decide +kernel, rfl, by decide⟩
theorem iX3_weighOrders_76 : In cX3_weighOrders 76 (.iload_n 2) 1 77 := ⟨by decide +kernel, rfl⟩
theorem iX3_weighOrders_77 : In cX3_weighOrders 77 (.iload_n 3) 1 78 := ⟨by decide +kernel, rfl⟩
theorem iX3_weighOrders_78 : In cX3_weighOrders 78 (.ishr) 1 79 := ⟨by decide +kernel, rfl⟩
theorem iX3_weighOrders_79 : In cX3_weighOrders 79 (.iconst 1) 1 80 := ⟨by decide +kernel, rfl⟩
theorem iX3_weighOrders_80 : In cX3_weighOrders 80 (.iand) 1 81 := ⟨by decide +kernel, rfl⟩
theorem iX3_weighOrders_81 : In cX3_weighOrders 81 (.iconst 1) 1 82 := ⟨by decide +kernel, rfl⟩
theorem iX3_weighOrders_82 : Jn cX3_weighOrders 82 (.if_icmp .ne 24) (24) 85 106 := ⟨by decide +kernel, rfl, by decide⟩
theorem iX3_weighOrders_85 : In cX3_weighOrders 85 (.aload_n 0) 1 86 := ⟨by decide +kernel, rfl⟩
theorem iX3_weighOrders_86 : In cX3_weighOrders 86 (.getfield 18) 3 89 := ⟨by decide +kernel, rfl⟩
theorem iX3_weighOrders_89 : In cX3_weighOrders 89 (.iload_n 2) 1 90 := ⟨by decide +kernel, rfl⟩
theorem iX3_weighOrders_90 : In cX3_weighOrders 90 (.aload_n 0) 1 91 := ⟨by decide +kernel, rfl⟩
theorem iX3_weighOrders_91 : In cX3_weighOrders 91 (.getfield 18) 3 94 := ⟨by decide +kernel, rfl⟩
theorem iX3_weighOrders_94 : In cX3_weighOrders 94 (.iload_n 2) 1 95 := ⟨by decide +kernel, rfl⟩
theorem iX3_weighOrders_95 : In cX3_weighOrders 95 (.iaload) 1 96 := ⟨by decide +kernel, rfl⟩
theorem iX3_weighOrders_96 : In cX3_weighOrders 96 (.aload_n 0) 1 97 := ⟨by decide +kernel, rfl⟩
theorem iX3_weighOrders_97 : In cX3_weighOrders 97 (.iload_n 3) 1 98 := ⟨by decide +kernel, rfl⟩
theorem iX3_weighOrders_98 : In cX3_weighOrders 98 (.iload_n 2) 1 99 := ⟨by decide +kernel, rfl⟩
theorem iX3_weighOrders_99 : In cX3_weighOrders 99 (.invokevirtual 90) 3 102 := ⟨by decide +kernel, rfl⟩
theorem iX3_weighOrders_102 : In cX3_weighOrders 102 (.invokestatic 73) 3 105 := ⟨by decide +kernel, rfl⟩
theorem iX3_weighOrders_105 : In cX3_weighOrders 105 (.iastore) 1 106 := ⟨by decide +kernel, rfl⟩
theorem iX3_weighOrders_106 : In cX3_weighOrders 106 (.iinc 3 1) 3 109 := ⟨by decide +kernel, rfl⟩
theorem iX3_weighOrders_109 : Jn cX3_weighOrders 109 (.goto (-38)) (-38) 112 71 := ⟨by decide +kernel, rfl, by decide⟩
theorem iX3_weighOrders_112 : In cX3_weighOrders 112 (.iinc 2 1) 3 115 := ⟨by decide +kernel, rfl⟩
theorem iX3_weighOrders_115 : Jn cX3_weighOrders 115 (.goto (-61)) (-61) 118 54 := ⟨by decide +kernel, rfl, by decide⟩
theorem iX3_weighOrders_118 : In cX3_weighOrders 118 (.return_) 1 119 := ⟨by decide +kernel, rfl⟩
theorem iX3_againstWithAhead_0 : In cX3_againstWithAhead 0 (.iload_n 2) 1 1 := ⟨by decide +kernel, rfl⟩
theorem iX3_againstWithAhead_1 : In cX3_againstWithAhead 1 (.iconst 1) 1 2 := ⟨by decide +kernel, rfl⟩
theorem iX3_againstWithAhead_2 : In cX3_againstWithAhead 2 (.iload_n 1) 1 3 := ⟨by decide +kernel, rfl⟩
theorem iX3_againstWithAhead_3 : In cX3_againstWithAhead 3 (.ishl) 1 4 := ⟨by decide +kernel, rfl⟩
theorem iX3_againstWithAhead_4 : In cX3_againstWithAhead 4 (.iconst (-1)) 1 5 := ⟨by decide +kernel, rfl⟩
theorem iX3_againstWithAhead_5 : In cX3_againstWithAhead 5 (.ixor) 1 6 := ⟨by decide +kernel, rfl⟩
theorem iX3_againstWithAhead_6 : In cX3_againstWithAhead 6 (.iand) 1 7 := ⟨by decide +kernel, rfl⟩
theorem iX3_againstWithAhead_7 : In cX3_againstWithAhead 7 (.istore_n 3) 1 8 := ⟨by decide +kernel, rfl⟩
theorem iX3_againstWithAhead_8 : In cX3_againstWithAhead 8 (.aload_n 0) 1 9 := ⟨by decide +kernel, rfl⟩
theorem iX3_againstWithAhead_9 : In cX3_againstWithAhead 9 (.getfield 15) 3 12 := ⟨by decide +kernel, rfl⟩
theorem iX3_againstWithAhead_12 : In cX3_againstWithAhead 12 (.iload_n 1) 1 13 := ⟨by decide +kernel, rfl⟩
theorem iX3_againstWithAhead_13 : In cX3_againstWithAhead 13 (.iaload) 1 14 := ⟨by decide +kernel, rfl⟩
theorem iX3_againstWithAhead_14 : In cX3_againstWithAhead 14 (.iload_n 3) 1 15 := ⟨by decide +kernel, rfl⟩
theorem iX3_againstWithAhead_15 : In cX3_againstWithAhead 15 (.iand) 1 16 := ⟨by decide +kernel, rfl⟩
theorem iX3_againstWithAhead_16 : In cX3_againstWithAhead 16 (.invokestatic 93) 3 19 := ⟨by decide +kernel, rfl⟩
theorem iX3_againstWithAhead_19 : In cX3_againstWithAhead 19 (.aload_n 0) 1 20 := ⟨by decide +kernel, rfl⟩
theorem iX3_againstWithAhead_20 : In cX3_againstWithAhead 20 (.getfield 18) 3 23 := ⟨by decide +kernel, rfl⟩
theorem iX3_againstWithAhead_23 : In cX3_againstWithAhead 23 (.iload_n 3) 1 24 := ⟨by decide +kernel, rfl⟩
theorem iX3_againstWithAhead_24 : In cX3_againstWithAhead 24 (.iaload) 1 25 := ⟨by decide +kernel, rfl⟩
theorem iX3_againstWithAhead_25 : In cX3_againstWithAhead 25 (.iadd) 1 26 := ⟨by decide +kernel, rfl⟩
theorem iX3_againstWithAhead_26 : In cX3_againstWithAhead 26 (.ireturn) 1 27 := ⟨by decide +kernel, rfl⟩
theorem iX3_fewestAgainst_0 : In cX3_fewestAgainst 0 (.aload_n 0) 1 1 := ⟨by decide +kernel, rfl⟩
theorem iX3_fewestAgainst_1 : In cX3_fewestAgainst 1 (.getfield 18) 3 4 := ⟨by decide +kernel, rfl⟩
theorem iX3_fewestAgainst_4 : In cX3_fewestAgainst 4 (.iconst 1) 1 5 := ⟨by decide +kernel, rfl⟩
theorem iX3_fewestAgainst_5 : In cX3_fewestAgainst 5 (.aload_n 0) 1 6 := ⟨by decide +kernel, rfl⟩
theorem iX3_fewestAgainst_6 : In cX3_fewestAgainst 6 (.getfield 21) 3 9 := ⟨by decide +kernel, rfl⟩
theorem iX3_fewestAgainst_9 : In cX3_fewestAgainst 9 (.getfield 46) 3 12 := ⟨by decide +kernel, rfl⟩
theorem iX3_fewestAgainst_12 : In cX3_fewestAgainst 12 (.getfield 60) 3 15 := ⟨by decide +kernel, rfl⟩
theorem iX3_fewestAgainst_15 : In cX3_fewestAgainst 15 (.ishl) 1 16 := ⟨by decide +kernel, rfl⟩
theorem iX3_fewestAgainst_16 : In cX3_fewestAgainst 16 (.iconst 1) 1 17 := ⟨by decide +kernel, rfl⟩
theorem iX3_fewestAgainst_17 : In cX3_fewestAgainst 17 (.isub) 1 18 := ⟨by decide +kernel, rfl⟩
theorem iX3_fewestAgainst_18 : In cX3_fewestAgainst 18 (.iaload) 1 19 := ⟨by decide +kernel, rfl⟩
theorem iX3_fewestAgainst_19 : In cX3_fewestAgainst 19 (.ireturn) 1 20 := ⟨by decide +kernel, rfl⟩
theorem iX3_bestOrder_0 : In cX3_bestOrder 0 (.iconst 0) 1 1 := ⟨by decide +kernel, rfl⟩
theorem iX3_bestOrder_1 : In cX3_bestOrder 1 (.istore_n 1) 1 2 := ⟨by decide +kernel, rfl⟩
theorem iX3_bestOrder_2 : In cX3_bestOrder 2 (.iconst 1) 1 3 := ⟨by decide +kernel, rfl⟩
theorem iX3_bestOrder_3 : In cX3_bestOrder 3 (.aload_n 0) 1 4 := ⟨by decide +kernel, rfl⟩
theorem iX3_bestOrder_4 : In cX3_bestOrder 4 (.getfield 21) 3 7 := ⟨by decide +kernel, rfl⟩
theorem iX3_bestOrder_7 : In cX3_bestOrder 7 (.getfield 46) 3 10 := ⟨by decide +kernel, rfl⟩
theorem iX3_bestOrder_10 : In cX3_bestOrder 10 (.getfield 60) 3 13 := ⟨by decide +kernel, rfl⟩
theorem iX3_bestOrder_13 : In cX3_bestOrder 13 (.ishl) 1 14 := ⟨by decide +kernel, rfl⟩
theorem iX3_bestOrder_14 : In cX3_bestOrder 14 (.iconst 1) 1 15 := ⟨by decide +kernel, rfl⟩
theorem iX3_bestOrder_15 : In cX3_bestOrder 15 (.isub) 1 16 := ⟨by decide +kernel, rfl⟩
theorem iX3_bestOrder_16 : In cX3_bestOrder 16 (.istore_n 2) 1 17 := ⟨by decide +kernel, rfl⟩
theorem iX3_bestOrder_17 : In cX3_bestOrder 17 (.iconst 0) 1 18 := ⟨by decide +kernel, rfl⟩
theorem iX3_bestOrder_18 : In cX3_bestOrder 18 (.istore_n 3) 1 19 := ⟨by decide +kernel, rfl⟩
theorem iX3_bestOrder_19 : In cX3_bestOrder 19 (.iload_n 3) 1 20 := ⟨by decide +kernel, rfl⟩
theorem iX3_bestOrder_20 : In cX3_bestOrder 20 (.aload_n 0) 1 21 := ⟨by decide +kernel, rfl⟩
theorem iX3_bestOrder_21 : In cX3_bestOrder 21 (.getfield 21) 3 24 := ⟨by decide +kernel, rfl⟩
theorem iX3_bestOrder_24 : In cX3_bestOrder 24 (.getfield 46) 3 27 := ⟨by decide +kernel, rfl⟩
theorem iX3_bestOrder_27 : In cX3_bestOrder 27 (.getfield 60) 3 30 := ⟨by decide +kernel, rfl⟩
theorem iX3_bestOrder_30 : Jn cX3_bestOrder 30 (.if_icmp .ge 35) (35) 33 65 := ⟨by decide +kernel, rfl, by decide⟩
theorem iX3_bestOrder_33 : In cX3_bestOrder 33 (.aload_n 0) 1 34 := ⟨by decide +kernel, rfl⟩
theorem iX3_bestOrder_34 : In cX3_bestOrder 34 (.iload_n 2) 1 35 := ⟨by decide +kernel, rfl⟩
theorem iX3_bestOrder_35 : In cX3_bestOrder 35 (.invokevirtual 98) 3 38 := ⟨by decide +kernel, rfl⟩
theorem iX3_bestOrder_38 : In cX3_bestOrder 38 (.istore 4) 2 40 := ⟨by decide +kernel, rfl⟩
theorem iX3_bestOrder_40 : In cX3_bestOrder 40 (.bipush 10) 2 42 := ⟨by decide +kernel, rfl⟩
theorem iX3_bestOrder_42 : In cX3_bestOrder 42 (.iload_n 1) 1 43 := ⟨by decide +kernel, rfl⟩
theorem iX3_bestOrder_43 : In cX3_bestOrder 43 (.imul) 1 44 := ⟨by decide +kernel, rfl⟩
theorem iX3_bestOrder_44 : In cX3_bestOrder 44 (.iload 4) 2 46 := ⟨by decide +kernel, rfl⟩
theorem iX3_bestOrder_46 : In cX3_bestOrder 46 (.iadd) 1 47 := ⟨by decide +kernel, rfl⟩
theorem iX3_bestOrder_47 : In cX3_bestOrder 47 (.iconst 1) 1 48 := ⟨by decide +kernel, rfl⟩
theorem iX3_bestOrder_48 : In cX3_bestOrder 48 (.iadd) 1 49 := ⟨by decide +kernel, rfl⟩
theorem iX3_bestOrder_49 : In cX3_bestOrder 49 (.istore_n 1) 1 50 := ⟨by decide +kernel, rfl⟩
theorem iX3_bestOrder_50 : In cX3_bestOrder 50 (.iload_n 2) 1 51 := ⟨by decide +kernel, rfl⟩
theorem iX3_bestOrder_51 : In cX3_bestOrder 51 (.iconst 1) 1 52 := ⟨by decide +kernel, rfl⟩
theorem iX3_bestOrder_52 : In cX3_bestOrder 52 (.iload 4) 2 54 := ⟨by decide +kernel, rfl⟩
theorem iX3_bestOrder_54 : In cX3_bestOrder 54 (.ishl) 1 55 := ⟨by decide +kernel, rfl⟩
theorem iX3_bestOrder_55 : In cX3_bestOrder 55 (.iconst (-1)) 1 56 := ⟨by decide +kernel, rfl⟩
theorem iX3_bestOrder_56 : In cX3_bestOrder 56 (.ixor) 1 57 := ⟨by decide +kernel, rfl⟩
theorem iX3_bestOrder_57 : In cX3_bestOrder 57 (.iand) 1 58 := ⟨by decide +kernel, rfl⟩
theorem iX3_bestOrder_58 : In cX3_bestOrder 58 (.istore_n 2) 1 59 := ⟨by decide +kernel, rfl⟩
theorem iX3_bestOrder_59 : In cX3_bestOrder 59 (.iinc 3 1) 3 62 := ⟨by decide +kernel, rfl⟩
theorem iX3_bestOrder_62 : Jn cX3_bestOrder 62 (.goto (-43)) (-43) 65 19 := ⟨by decide +kernel, rfl, by decide⟩
theorem iX3_bestOrder_65 : In cX3_bestOrder 65 (.iload_n 1) 1 66 := ⟨by decide +kernel, rfl⟩
theorem iX3_bestOrder_66 : In cX3_bestOrder 66 (.ireturn) 1 67 := ⟨by decide +kernel, rfl⟩
theorem iX3_leastAhead_0 : In cX3_leastAhead 0 (.iconst 0) 1 1 := ⟨by decide +kernel, rfl⟩
theorem iX3_leastAhead_1 : In cX3_leastAhead 1 (.istore_n 2) 1 2 := ⟨by decide +kernel, rfl⟩
theorem iX3_leastAhead_2 : In cX3_leastAhead 2 (.iload_n 2) 1 3 := ⟨by decide +kernel, rfl⟩
theorem iX3_leastAhead_3 : In cX3_leastAhead 3 (.aload_n 0) 1 4 := ⟨by decide +kernel, rfl⟩
theorem iX3_leastAhead_4 : In cX3_leastAhead 4 (.getfield 21) 3 7 := ⟨by decide +kernel, rfl⟩
theorem iX3_leastAhead_7 : In cX3_leastAhead 7 (.getfield 46) 3 10 := ⟨by decide +kernel, rfl⟩
theorem iX3_leastAhead_10 : In cX3_leastAhead 10 (.getfield 60) 3 13 := ⟨by decide +kernel, rfl⟩
theorem iX3_leastAhead_13 : Jn cX3_leastAhead 13 (.if_icmp .ge 35) (35) 16 48 := ⟨by decide +kernel, rfl, by decide⟩
theorem iX3_leastAhead_16 : In cX3_leastAhead 16 (.iload_n 1) 1 17 := ⟨by decide +kernel, rfl⟩
theorem iX3_leastAhead_17 : In cX3_leastAhead 17 (.iload_n 2) 1 18 := ⟨by decide +kernel, rfl⟩
theorem iX3_leastAhead_18 : In cX3_leastAhead 18 (.ishr) 1 19 := ⟨by decide +kernel, rfl⟩
theorem iX3_leastAhead_19 : In cX3_leastAhead 19 (.iconst 1) 1 20 := ⟨by decide +kernel, rfl⟩
theorem iX3_leastAhead_20 : In cX3_leastAhead 20 (.iand) 1 21 := ⟨by decide +kernel, rfl⟩
theorem iX3_leastAhead_21 : In cX3_leastAhead 21 (.iconst 1) 1 22 := ⟨by decide +kernel, rfl⟩
theorem iX3_leastAhead_22 : Jn cX3_leastAhead 22 (.if_icmp .ne 20) (20) 25 42 := ⟨by decide +kernel, rfl, by decide⟩
theorem iX3_leastAhead_25 : In cX3_leastAhead 25 (.aload_n 0) 1 26 := ⟨by decide +kernel, rfl⟩
theorem iX3_leastAhead_26 : In cX3_leastAhead 26 (.iload_n 2) 1 27 := ⟨by decide +kernel, rfl⟩
theorem iX3_leastAhead_27 : In cX3_leastAhead 27 (.iload_n 1) 1 28 := ⟨by decide +kernel, rfl⟩
theorem iX3_leastAhead_28 : In cX3_leastAhead 28 (.invokevirtual 90) 3 31 := ⟨by decide +kernel, rfl⟩
theorem iX3_leastAhead_31 : In cX3_leastAhead 31 (.aload_n 0) 1 32 := ⟨by decide +kernel, rfl⟩
theorem iX3_leastAhead_32 : In cX3_leastAhead 32 (.getfield 18) 3 35 := ⟨by decide +kernel, rfl⟩
theorem iX3_leastAhead_35 : In cX3_leastAhead 35 (.iload_n 1) 1 36 := ⟨by decide +kernel, rfl⟩
theorem iX3_leastAhead_36 : In cX3_leastAhead 36 (.iaload) 1 37 := ⟨by decide +kernel, rfl⟩
theorem iX3_leastAhead_37 : Jn cX3_leastAhead 37 (.if_icmp .ne 5) (5) 40 42 := ⟨by decide +kernel, rfl, by decide⟩
theorem iX3_leastAhead_40 : In cX3_leastAhead 40 (.iload_n 2) 1 41 := ⟨by decide +kernel, rfl⟩
theorem iX3_leastAhead_41 : In cX3_leastAhead 41 (.ireturn) 1 42 := ⟨by decide +kernel, rfl⟩
theorem iX3_leastAhead_42 : In cX3_leastAhead 42 (.iinc 2 1) 3 45 := ⟨by decide +kernel, rfl⟩
theorem iX3_leastAhead_45 : Jn cX3_leastAhead 45 (.goto (-43)) (-43) 48 2 := ⟨by decide +kernel, rfl, by decide⟩
theorem iX3_leastAhead_48 : In cX3_leastAhead 48 (.iconst 0) 1 49 := ⟨by decide +kernel, rfl⟩
theorem iX3_leastAhead_49 : In cX3_leastAhead 49 (.ireturn) 1 50 := ⟨by decide +kernel, rfl⟩
theorem iX4_init_0 : In cX4_init 0 (.aload_n 0) 1 1 := ⟨by decide +kernel, rfl⟩
theorem iX4_init_1 : In cX4_init 1 (.invokespecial 3) 3 4 := ⟨by decide +kernel, rfl⟩
theorem iX4_init_4 : In cX4_init 4 (.aload_n 0) 1 5 := ⟨by decide +kernel, rfl⟩
theorem iX4_init_5 : In cX4_init 5 (.iconst 3) 1 6 := ⟨by decide +kernel, rfl⟩
theorem iX4_init_6 : In cX4_init 6 (.newarray .int) 2 8 := ⟨by decide +kernel, rfl⟩
theorem iX4_init_8 : In cX4_init 8 (.putfield 9) 3 11 := ⟨by decide +kernel, rfl⟩
theorem iX4_init_11 : In cX4_init 11 (.return_) 1 12 := ⟨by decide +kernel, rfl⟩
theorem iX4_moveIn_0 : In cX4_moveIn 0 (.aload_n 0) 1 1 := ⟨by decide +kernel, rfl⟩
theorem iX4_moveIn_1 : In cX4_moveIn 1 (.getfield 15) 3 4 := ⟨by decide +kernel, rfl⟩
theorem iX4_moveIn_4 : In cX4_moveIn 4 (.iconst 2) 1 5 := ⟨by decide +kernel, rfl⟩
theorem iX4_moveIn_5 : Jn cX4_moveIn 5 (.if_icmp .eq 30) (30) 8 35 := ⟨by decide +kernel, rfl, by decide⟩
theorem iX4_moveIn_8 : In cX4_moveIn 8 (.aload_n 0) 1 9 := ⟨by decide +kernel, rfl⟩
theorem iX4_moveIn_9 : In cX4_moveIn 9 (.getfield 15) 3 12 := ⟨by decide +kernel, rfl⟩
theorem iX4_moveIn_12 : In cX4_moveIn 12 (.iconst 3) 1 13 := ⟨by decide +kernel, rfl⟩
theorem iX4_moveIn_13 : Jn cX4_moveIn 13 (.if_icmp .ne 7) (7) 16 20 := ⟨by decide +kernel, rfl, by decide⟩
theorem iX4_moveIn_16 : In cX4_moveIn 16 (.iconst 0) 1 17 := ⟨by decide +kernel, rfl⟩
theorem iX4_moveIn_17 : Jn cX4_moveIn 17 (.goto 4) (4) 20 21 := ⟨by decide +kernel, rfl, by decide⟩
theorem iX4_moveIn_20 : In cX4_moveIn 20 (.iload_n 2) 1 21 := ⟨by decide +kernel, rfl⟩
theorem iX4_moveIn_21 : In cX4_moveIn 21 (.istore 4) 2 23 := ⟨by decide +kernel, rfl⟩
theorem iX4_moveIn_23 : In cX4_moveIn 23 (.aload_n 0) 1 24 := ⟨by decide +kernel, rfl⟩
theorem iX4_moveIn_24 : In cX4_moveIn 24 (.getfield 9) 3 27 := ⟨by decide +kernel, rfl⟩
theorem iX4_moveIn_27 : In cX4_moveIn 27 (.iload 4) 2 29 := ⟨by decide +kernel, rfl⟩
theorem iX4_moveIn_29 : In cX4_moveIn 29 (.iload_n 1) 1 30 := ⟨by decide +kernel, rfl⟩
theorem iX4_moveIn_30 : In cX4_moveIn 30 (.iadd) 1 31 := ⟨by decide +kernel, rfl⟩
theorem iX4_moveIn_31 : In cX4_moveIn 31 (.iconst 3) 1 32 := ⟨by decide +kernel, rfl⟩
theorem iX4_moveIn_32 : In cX4_moveIn 32 (.irem) 1 33 := ⟨by decide +kernel, rfl⟩
theorem iX4_moveIn_33 : In cX4_moveIn 33 (.iaload) 1 34 := ⟨by decide +kernel, rfl⟩
theorem iX4_moveIn_34 : In cX4_moveIn 34 (.ireturn) 1 35 := ⟨by decide +kernel, rfl⟩
theorem iX4_moveIn_35 : In cX4_moveIn 35 (.iload_n 1) 1 36 := ⟨by decide +kernel, rfl⟩
theorem iX4_moveIn_36 : Jn cX4_moveIn 36 (.ifCond .ne 5) (5) 39 41 := ⟨by decide +kernel, rfl, by decide⟩
theorem iX4_moveIn_39 : In cX4_moveIn 39 (.iconst 4) 1 40 := ⟨by decide +kernel, rfl⟩
theorem iX4_moveIn_40 : In cX4_moveIn 40 (.ireturn) 1 41 := ⟨by decide +kernel, rfl⟩
theorem iX4_moveIn_41 : In cX4_moveIn 41 (.iload_n 3) 1 42 := ⟨by decide +kernel, rfl⟩
theorem iX4_moveIn_42 : In cX4_moveIn 42 (.lookupswitch 30 #[(1, 26), (2, 28)]) 26 68 := ⟨by decide +kernel, rfl⟩
theorem iX4_moveIn_68 : In cX4_moveIn 68 (.iconst 2) 1 69 := ⟨by decide +kernel, rfl⟩
theorem iX4_moveIn_69 : In cX4_moveIn 69 (.ireturn) 1 70 := ⟨by decide +kernel, rfl⟩
theorem iX4_moveIn_70 : In cX4_moveIn 70 (.iconst 3) 1 71 := ⟨by decide +kernel, rfl⟩
theorem iX4_moveIn_71 : In cX4_moveIn 71 (.ireturn) 1 72 := ⟨by decide +kernel, rfl⟩
theorem iX4_moveIn_72 : In cX4_moveIn 72 (.iconst 1) 1 73 := ⟨by decide +kernel, rfl⟩
theorem iX4_moveIn_73 : In cX4_moveIn 73 (.ireturn) 1 74 := ⟨by decide +kernel, rfl⟩
theorem iX4_movesAsFigures_0 : In cX4_movesAsFigures 0 (.bipush 100) 2 2 := ⟨by decide +kernel, rfl⟩
theorem iX4_movesAsFigures_2 : In cX4_movesAsFigures 2 (.aload_n 0) 1 3 := ⟨by decide +kernel, rfl⟩
theorem iX4_movesAsFigures_3 : In cX4_movesAsFigures 3 (.getfield 9) 3 6 := ⟨by decide +kernel, rfl⟩
theorem iX4_movesAsFigures_6 : In cX4_movesAsFigures 6 (.iconst 0) 1 7 := ⟨by decide +kernel, rfl⟩
theorem iX4_movesAsFigures_7 : In cX4_movesAsFigures 7 (.iaload) 1 8 := ⟨by decide +kernel, rfl⟩
theorem iX4_movesAsFigures_8 : In cX4_movesAsFigures 8 (.imul) 1 9 := ⟨by decide +kernel, rfl⟩
theorem iX4_movesAsFigures_9 : In cX4_movesAsFigures 9 (.bipush 10) 2 11 := ⟨by decide +kernel, rfl⟩
theorem iX4_movesAsFigures_11 : In cX4_movesAsFigures 11 (.aload_n 0) 1 12 := ⟨by decide +kernel, rfl⟩
theorem iX4_movesAsFigures_12 : In cX4_movesAsFigures 12 (.getfield 9) 3 15 := ⟨by decide +kernel, rfl⟩
theorem iX4_movesAsFigures_15 : In cX4_movesAsFigures 15 (.iconst 1) 1 16 := ⟨by decide +kernel, rfl⟩
theorem iX4_movesAsFigures_16 : In cX4_movesAsFigures 16 (.iaload) 1 17 := ⟨by decide +kernel, rfl⟩
theorem iX4_movesAsFigures_17 : In cX4_movesAsFigures 17 (.imul) 1 18 := ⟨by decide +kernel, rfl⟩
theorem iX4_movesAsFigures_18 : In cX4_movesAsFigures 18 (.iadd) 1 19 := ⟨by decide +kernel, rfl⟩
theorem iX4_movesAsFigures_19 : In cX4_movesAsFigures 19 (.aload_n 0) 1 20 := ⟨by decide +kernel, rfl⟩
theorem iX4_movesAsFigures_20 : In cX4_movesAsFigures 20 (.getfield 9) 3 23 := ⟨by decide +kernel, rfl⟩
theorem iX4_movesAsFigures_23 : In cX4_movesAsFigures 23 (.iconst 2) 1 24 := ⟨by decide +kernel, rfl⟩
theorem iX4_movesAsFigures_24 : In cX4_movesAsFigures 24 (.iaload) 1 25 := ⟨by decide +kernel, rfl⟩
theorem iX4_movesAsFigures_25 : In cX4_movesAsFigures 25 (.iadd) 1 26 := ⟨by decide +kernel, rfl⟩
theorem iX4_movesAsFigures_26 : In cX4_movesAsFigures 26 (.ireturn) 1 27 := ⟨by decide +kernel, rfl⟩
theorem iX4_copyFrom_0 : In cX4_copyFrom 0 (.aload_n 0) 1 1 := ⟨by decide +kernel, rfl⟩
theorem iX4_copyFrom_1 : In cX4_copyFrom 1 (.aload_n 1) 1 2 := ⟨by decide +kernel, rfl⟩
theorem iX4_copyFrom_2 : In cX4_copyFrom 2 (.getfield 15) 3 5 := ⟨by decide +kernel, rfl⟩
theorem iX4_copyFrom_5 : In cX4_copyFrom 5 (.putfield 15) 3 8 := ⟨by decide +kernel, rfl⟩
theorem iX4_copyFrom_8 : In cX4_copyFrom 8 (.aload_n 1) 1 9 := ⟨by decide +kernel, rfl⟩
theorem iX4_copyFrom_9 : In cX4_copyFrom 9 (.getfield 9) 3 12 := ⟨by decide +kernel, rfl⟩
theorem iX4_copyFrom_12 : In cX4_copyFrom 12 (.iconst 0) 1 13 := ⟨by decide +kernel, rfl⟩
theorem iX4_copyFrom_13 : In cX4_copyFrom 13 (.aload_n 0) 1 14 := ⟨by decide +kernel, rfl⟩
theorem iX4_copyFrom_14 : In cX4_copyFrom 14 (.getfield 9) 3 17 := ⟨by decide +kernel, rfl⟩
theorem iX4_copyFrom_17 : In cX4_copyFrom 17 (.iconst 0) 1 18 := ⟨by decide +kernel, rfl⟩
theorem iX4_copyFrom_18 : In cX4_copyFrom 18 (.iconst 3) 1 19 := ⟨by decide +kernel, rfl⟩
theorem iX4_copyFrom_19 : In cX4_copyFrom 19 (.invokestatic 19) 3 22 := ⟨by decide +kernel, rfl⟩
theorem iX4_copyFrom_22 : In cX4_copyFrom 22 (.return_) 1 23 := ⟨by decide +kernel, rfl⟩
theorem iX5_init_0 : In cX5_init 0 (.aload_n 0) 1 1 := ⟨by decide +kernel, rfl⟩
theorem iX5_init_1 : In cX5_init 1 (.invokespecial 3) 3 4 := ⟨by decide +kernel, rfl⟩
theorem iX5_init_4 : In cX5_init 4 (.aload_n 0) 1 5 := ⟨by decide +kernel, rfl⟩
theorem iX5_init_5 : In cX5_init 5 (.iconst 5) 1 6 := ⟨by decide +kernel, rfl⟩
theorem iX5_init_6 : In cX5_init 6 (.newarray .int) 2 8 := ⟨by decide +kernel, rfl⟩
theorem iX5_init_8 : In cX5_init 8 (.putfield 9) 3 11 := ⟨by decide +kernel, rfl⟩
theorem iX5_init_11 : In cX5_init 11 (.aload_n 0) 1 12 := ⟨by decide +kernel, rfl⟩
theorem iX5_init_12 : In cX5_init 12 (.bipush 6) 2 14 := ⟨by decide +kernel, rfl⟩
theorem iX5_init_14 : In cX5_init 14 (.newarray .int) 2 16 := ⟨by decide +kernel, rfl⟩
theorem iX5_init_16 : In cX5_init 16 (.putfield 15) 3 19 := ⟨by decide +kernel, rfl⟩
theorem iX5_init_19 : In cX5_init 19 (.aload_n 0) 1 20 := ⟨by decide +kernel, rfl⟩
theorem iX5_init_20 : In cX5_init 20 (.bipush 6) 2 22 := ⟨by decide +kernel, rfl⟩
theorem iX5_init_22 : In cX5_init 22 (.newarray .int) 2 24 := ⟨by decide +kernel, rfl⟩
theorem iX5_init_24 : In cX5_init 24 (.putfield 18) 3 27 := ⟨by decide +kernel, rfl⟩
theorem iX5_init_27 : In cX5_init 27 (.return_) 1 28 := ⟨by decide +kernel, rfl⟩
theorem iX5_openFor_0 : In cX5_openFor 0 (.aload_n 1) 1 1 := ⟨by decide +kernel, rfl⟩
theorem iX5_openFor_1 : In cX5_openFor 1 (.getfield 21) 3 4 := ⟨by decide +kernel, rfl⟩
theorem iX5_openFor_4 : In cX5_openFor 4 (.iconst 0) 1 5 := ⟨by decide +kernel, rfl⟩
theorem iX5_openFor_5 : In cX5_openFor 5 (.aload_n 0) 1 6 := ⟨by decide +kernel, rfl⟩
theorem iX5_openFor_6 : In cX5_openFor 6 (.getfield 9) 3 9 := ⟨by decide +kernel, rfl⟩
theorem iX5_openFor_9 : In cX5_openFor 9 (.iconst 0) 1 10 := ⟨by decide +kernel, rfl⟩
theorem iX5_openFor_10 : In cX5_openFor 10 (.iconst 5) 1 11 := ⟨by decide +kernel, rfl⟩
theorem iX5_openFor_11 : In cX5_openFor 11 (.invokestatic 26) 3 14 := ⟨by decide +kernel, rfl⟩
theorem iX5_openFor_14 : In cX5_openFor 14 (.iconst 0) 1 15 := ⟨by decide +kernel, rfl⟩
theorem iX5_openFor_15 : In cX5_openFor 15 (.istore_n 2) 1 16 := ⟨by decide +kernel, rfl⟩
theorem iX5_openFor_16 : In cX5_openFor 16 (.iload_n 2) 1 17 := ⟨by decide +kernel, rfl⟩
theorem iX5_openFor_17 : In cX5_openFor 17 (.bipush 6) 2 19 := ⟨by decide +kernel, rfl⟩
theorem iX5_openFor_19 : Jn cX5_openFor 19 (.if_icmp .ge 36) (36) 22 55 := ⟨by decide +kernel, rfl, by decide⟩
theorem iX5_openFor_22 : In cX5_openFor 22 (.aload_n 0) 1 23 := ⟨by decide +kernel, rfl⟩
theorem iX5_openFor_23 : In cX5_openFor 23 (.getfield 15) 3 26 := ⟨by decide +kernel, rfl⟩
theorem iX5_openFor_26 : In cX5_openFor 26 (.iload_n 2) 1 27 := ⟨by decide +kernel, rfl⟩
theorem iX5_openFor_27 : In cX5_openFor 27 (.iload_n 2) 1 28 := ⟨by decide +kernel, rfl⟩
theorem iX5_openFor_28 : In cX5_openFor 28 (.aload_n 1) 1 29 := ⟨by decide +kernel, rfl⟩
theorem iX5_openFor_29 : In cX5_openFor 29 (.getfield 32) 3 32 := ⟨by decide +kernel, rfl⟩
theorem iX5_openFor_32 : Jn cX5_openFor 32 (.if_icmp .ge 8) (8) 35 40 := ⟨by decide +kernel, rfl, by decide⟩
theorem iX5_openFor_35 : In cX5_openFor 35 (.bipush 9) 2 37 := ⟨by decide +kernel, rfl⟩
theorem iX5_openFor_37 : Jn cX5_openFor 37 (.goto 4) (4) 40 41 := ⟨by decide +kernel, rfl, by decide⟩
theorem iX5_openFor_40 : In cX5_openFor 40 (.iconst 0) 1 41 := ⟨by decide +kernel, rfl⟩
theorem iX5_openFor_41 : In cX5_openFor 41 (.iastore) 1 42 := ⟨by decide +kernel, rfl⟩
theorem iX5_openFor_42 : In cX5_openFor 42 (.aload_n 0) 1 43 := ⟨by decide +kernel, rfl⟩
theorem iX5_openFor_43 : In cX5_openFor 43 (.getfield 18) 3 46 := ⟨by decide +kernel, rfl⟩
theorem iX5_openFor_46 : In cX5_openFor 46 (.iload_n 2) 1 47 := ⟨by decide +kernel, rfl⟩
theorem iX5_openFor_47 : In cX5_openFor 47 (.iconst 0) 1 48 := ⟨by decide +kernel, rfl⟩
theorem iX5_openFor_48 : In cX5_openFor 48 (.iastore) 1 49 := ⟨by decide +kernel, rfl⟩
theorem iX5_openFor_49 : In cX5_openFor 49 (.iinc 2 1) 3 52 := ⟨by decide +kernel, rfl⟩
theorem iX5_openFor_52 : Jn cX5_openFor 52 (.goto (-36)) (-36) 55 16 := ⟨by decide +kernel, rfl, by decide⟩
theorem iX5_openFor_55 : In cX5_openFor 55 (.aload_n 0) 1 56 := ⟨by decide +kernel, rfl⟩
theorem iX5_openFor_56 : In cX5_openFor 56 (.iconst 0) 1 57 := ⟨by decide +kernel, rfl⟩
theorem iX5_openFor_57 : In cX5_openFor 57 (.putfield 36) 3 60 := ⟨by decide +kernel, rfl⟩
theorem iX5_openFor_60 : In cX5_openFor 60 (.return_) 1 61 := ⟨by decide +kernel, rfl⟩
theorem iX5_copyFrom_0 : In cX5_copyFrom 0 (.aload_n 1) 1 1 := ⟨by decide +kernel, rfl⟩
theorem iX5_copyFrom_1 : In cX5_copyFrom 1 (.getfield 9) 3 4 := ⟨by decide +kernel, rfl⟩
theorem iX5_copyFrom_4 : In cX5_copyFrom 4 (.iconst 0) 1 5 := ⟨by decide +kernel, rfl⟩
theorem iX5_copyFrom_5 : In cX5_copyFrom 5 (.aload_n 0) 1 6 := ⟨by decide +kernel, rfl⟩
theorem iX5_copyFrom_6 : In cX5_copyFrom 6 (.getfield 9) 3 9 := ⟨by decide +kernel, rfl⟩
theorem iX5_copyFrom_9 : In cX5_copyFrom 9 (.iconst 0) 1 10 := ⟨by decide +kernel, rfl⟩
theorem iX5_copyFrom_10 : In cX5_copyFrom 10 (.iconst 5) 1 11 := ⟨by decide +kernel, rfl⟩
theorem iX5_copyFrom_11 : In cX5_copyFrom 11 (.invokestatic 26) 3 14 := ⟨by decide +kernel, rfl⟩
theorem iX5_copyFrom_14 : In cX5_copyFrom 14 (.aload_n 1) 1 15 := ⟨by decide +kernel, rfl⟩
theorem iX5_copyFrom_15 : In cX5_copyFrom 15 (.getfield 15) 3 18 := ⟨by decide +kernel, rfl⟩
theorem iX5_copyFrom_18 : In cX5_copyFrom 18 (.iconst 0) 1 19 := ⟨by decide +kernel, rfl⟩
theorem iX5_copyFrom_19 : In cX5_copyFrom 19 (.aload_n 0) 1 20 := ⟨by decide +kernel, rfl⟩
theorem iX5_copyFrom_20 : In cX5_copyFrom 20 (.getfield 15) 3 23 := ⟨by decide +kernel, rfl⟩
theorem iX5_copyFrom_23 : In cX5_copyFrom 23 (.iconst 0) 1 24 := ⟨by decide +kernel, rfl⟩
theorem iX5_copyFrom_24 : In cX5_copyFrom 24 (.bipush 6) 2 26 := ⟨by decide +kernel, rfl⟩
theorem iX5_copyFrom_26 : In cX5_copyFrom 26 (.invokestatic 26) 3 29 := ⟨by decide +kernel, rfl⟩
theorem iX5_copyFrom_29 : In cX5_copyFrom 29 (.aload_n 1) 1 30 := ⟨by decide +kernel, rfl⟩
theorem iX5_copyFrom_30 : In cX5_copyFrom 30 (.getfield 18) 3 33 := ⟨by decide +kernel, rfl⟩
theorem iX5_copyFrom_33 : In cX5_copyFrom 33 (.iconst 0) 1 34 := ⟨by decide +kernel, rfl⟩
theorem iX5_copyFrom_34 : In cX5_copyFrom 34 (.aload_n 0) 1 35 := ⟨by decide +kernel, rfl⟩
theorem iX5_copyFrom_35 : In cX5_copyFrom 35 (.getfield 18) 3 38 := ⟨by decide +kernel, rfl⟩
theorem iX5_copyFrom_38 : In cX5_copyFrom 38 (.iconst 0) 1 39 := ⟨by decide +kernel, rfl⟩
theorem iX5_copyFrom_39 : In cX5_copyFrom 39 (.bipush 6) 2 41 := ⟨by decide +kernel, rfl⟩
theorem iX5_copyFrom_41 : In cX5_copyFrom 41 (.invokestatic 26) 3 44 := ⟨by decide +kernel, rfl⟩
theorem iX5_copyFrom_44 : In cX5_copyFrom 44 (.aload_n 0) 1 45 := ⟨by decide +kernel, rfl⟩
theorem iX5_copyFrom_45 : In cX5_copyFrom 45 (.aload_n 1) 1 46 := ⟨by decide +kernel, rfl⟩
theorem iX5_copyFrom_46 : In cX5_copyFrom 46 (.getfield 36) 3 49 := ⟨by decide +kernel, rfl⟩
theorem iX5_copyFrom_49 : In cX5_copyFrom 49 (.putfield 36) 3 52 := ⟨by decide +kernel, rfl⟩
theorem iX5_copyFrom_52 : In cX5_copyFrom 52 (.return_) 1 53 := ⟨by decide +kernel, rfl⟩
theorem iX5_fill_0 : In cX5_fill 0 (.aload_n 0) 1 1 := ⟨by decide +kernel, rfl⟩
theorem iX5_fill_1 : In cX5_fill 1 (.getfield 15) 3 4 := ⟨by decide +kernel, rfl⟩
theorem iX5_fill_4 : In cX5_fill 4 (.iload_n 1) 1 5 := ⟨by decide +kernel, rfl⟩
theorem iX5_fill_5 : In cX5_fill 5 (.bipush 99) 2 7 := ⟨by decide +kernel, rfl⟩
theorem iX5_fill_7 : In cX5_fill 7 (.aload_n 0) 1 8 := ⟨by decide +kernel, rfl⟩
theorem iX5_fill_8 : In cX5_fill 8 (.getfield 15) 3 11 := ⟨by decide +kernel, rfl⟩
theorem iX5_fill_11 : In cX5_fill 11 (.iload_n 1) 1 12 := ⟨by decide +kernel, rfl⟩
theorem iX5_fill_12 : In cX5_fill 12 (.iaload) 1 13 := ⟨by decide +kernel, rfl⟩
theorem iX5_fill_13 : In cX5_fill 13 (.iload_n 2) 1 14 := ⟨by decide +kernel, rfl⟩
theorem iX5_fill_14 : In cX5_fill 14 (.iadd) 1 15 := ⟨by decide +kernel, rfl⟩
theorem iX5_fill_15 : In cX5_fill 15 (.invokestatic 39) 3 18 := ⟨by decide +kernel, rfl⟩
theorem iX5_fill_18 : In cX5_fill 18 (.iastore) 1 19 := ⟨by decide +kernel, rfl⟩
theorem iX5_fill_19 : In cX5_fill 19 (.return_) 1 20 := ⟨by decide +kernel, rfl⟩
theorem iX6_init_0 : In cX6_init 0 (.aload_n 0) 1 1 := ⟨by decide +kernel, rfl⟩
theorem iX6_init_1 : In cX6_init 1 (.invokespecial 3) 3 4 := ⟨by decide +kernel, rfl⟩
theorem iX6_init_4 : In cX6_init 4 (.aload_n 0) 1 5 := ⟨by decide +kernel, rfl⟩
end
section
theorem iX6_init_5 : In cX6_init 5 (.aload_n 1) 1 6 := ⟨by decide +kernel, rfl⟩
theorem iX6_init_6 : In cX6_init 6 (.putfield 9) 3 9 := ⟨by decide +kernel, rfl⟩
theorem iX6_init_9 : In cX6_init 9 (.return_) 1 10 := ⟨by decide +kernel, rfl⟩
theorem iX6_faultOf_0 : In cX6_faultOf 0 (.aload_n 0) 1 1 := ⟨by decide +kernel, rfl⟩
theorem iX6_faultOf_1 : In cX6_faultOf 1 (.iconst 0) 1 2 := ⟨by decide +kernel, rfl⟩
theorem iX6_faultOf_2 : In cX6_faultOf 2 (.putfield 15) 3 5 := ⟨by decide +kernel, rfl⟩
theorem iX6_faultOf_5 : In cX6_faultOf 5 (.aload_n 0) 1 6 := ⟨by decide +kernel, rfl⟩
theorem iX6_faultOf_6 : In cX6_faultOf 6 (.getfield 9) 3 9 := ⟨by decide +kernel, rfl⟩
theorem iX6_faultOf_9 : In cX6_faultOf 9 (.iconst 0) 1 10 := ⟨by decide +kernel, rfl⟩
theorem iX6_faultOf_10 : In cX6_faultOf 10 (.putfield 19) 3 13 := ⟨by decide +kernel, rfl⟩
theorem iX6_faultOf_13 : In cX6_faultOf 13 (.aload_n 0) 1 14 := ⟨by decide +kernel, rfl⟩
theorem iX6_faultOf_14 : In cX6_faultOf 14 (.getfield 9) 3 17 := ⟨by decide +kernel, rfl⟩
theorem iX6_faultOf_17 : In cX6_faultOf 17 (.iconst 0) 1 18 := ⟨by decide +kernel, rfl⟩
theorem iX6_faultOf_18 : In cX6_faultOf 18 (.putfield 24) 3 21 := ⟨by decide +kernel, rfl⟩
theorem iX6_faultOf_21 : In cX6_faultOf 21 (.iconst 0) 1 22 := ⟨by decide +kernel, rfl⟩
theorem iX6_faultOf_22 : In cX6_faultOf 22 (.istore_n 3) 1 23 := ⟨by decide +kernel, rfl⟩
theorem iX6_faultOf_23 : In cX6_faultOf 23 (.iload_n 3) 1 24 := ⟨by decide +kernel, rfl⟩
theorem iX6_faultOf_24 : In cX6_faultOf 24 (.iload_n 2) 1 25 := ⟨by decide +kernel, rfl⟩
theorem iX6_faultOf_25 : Jn cX6_faultOf 25 (.if_icmp .ge 27) (27) 28 52 := ⟨by decide +kernel, rfl, by decide⟩
theorem iX6_faultOf_28 : In cX6_faultOf 28 (.iload_n 3) 1 29 := ⟨by decide +kernel, rfl⟩
theorem iX6_faultOf_29 : In cX6_faultOf 29 (.aload_n 1) 1 30 := ⟨by decide +kernel, rfl⟩
theorem iX6_faultOf_30 : In cX6_faultOf 30 (.arraylength) 1 31 := ⟨by decide +kernel, rfl⟩
theorem iX6_faultOf_31 : Jn cX6_faultOf 31 (.if_icmp .ge 21) (21) 34 52 := ⟨by decide +kernel, rfl, by decide⟩
theorem iX6_faultOf_34 : In cX6_faultOf 34 (.aload_n 0) 1 35 := ⟨by decide +kernel, rfl⟩
theorem iX6_faultOf_35 : In cX6_faultOf 35 (.aload_n 1) 1 36 := ⟨by decide +kernel, rfl⟩
theorem iX6_faultOf_36 : In cX6_faultOf 36 (.iload_n 3) 1 37 := ⟨by decide +kernel, rfl⟩
theorem iX6_faultOf_37 : In cX6_faultOf 37 (.iaload) 1 38 := ⟨by decide +kernel, rfl⟩
theorem iX6_faultOf_38 : In cX6_faultOf 38 (.invokevirtual 27) 3 41 := ⟨by decide +kernel, rfl⟩
theorem iX6_faultOf_41 : Jn cX6_faultOf 41 (.ifCond .ne 5) (5) 44 46 := ⟨by decide +kernel, rfl, by decide⟩
theorem iX6_faultOf_44 : In cX6_faultOf 44 (.iload_n 3) 1 45 := ⟨by decide +kernel, rfl⟩
theorem iX6_faultOf_45 : In cX6_faultOf 45 (.ireturn) 1 46 := ⟨by decide +kernel, rfl⟩
theorem iX6_faultOf_46 : In cX6_faultOf 46 (.iinc 3 1) 3 49 := ⟨by decide +kernel, rfl⟩
theorem iX6_faultOf_49 : Jn cX6_faultOf 49 (.goto (-26)) (-26) 52 23 := ⟨by decide +kernel, rfl, by decide⟩
theorem iX6_faultOf_52 : In cX6_faultOf 52 (.aload_n 0) 1 53 := ⟨by decide +kernel, rfl⟩
theorem iX6_faultOf_53 : In cX6_faultOf 53 (.getfield 15) 3 56 := ⟨by decide +kernel, rfl⟩
theorem iX6_faultOf_56 : In cX6_faultOf 56 (.iconst 1) 1 57 := ⟨by decide +kernel, rfl⟩
theorem iX6_faultOf_57 : Jn cX6_faultOf 57 (.if_icmp .ne 8) (8) 60 65 := ⟨by decide +kernel, rfl, by decide⟩
theorem iX6_faultOf_60 : In cX6_faultOf 60 (.bipush (-9)) 2 62 := ⟨by decide +kernel, rfl⟩
theorem iX6_faultOf_62 : Jn cX6_faultOf 62 (.goto 4) (4) 65 66 := ⟨by decide +kernel, rfl, by decide⟩
theorem iX6_faultOf_65 : In cX6_faultOf 65 (.iload_n 2) 1 66 := ⟨by decide +kernel, rfl⟩
theorem iX6_faultOf_66 : In cX6_faultOf 66 (.ireturn) 1 67 := ⟨by decide +kernel, rfl⟩
theorem iX6_takes_0 : In cX6_takes 0 (.aload_n 0) 1 1 := ⟨by decide +kernel, rfl⟩
theorem iX6_takes_1 : In cX6_takes 1 (.getfield 15) 3 4 := ⟨by decide +kernel, rfl⟩
theorem iX6_takes_4 : In cX6_takes 4 (.tableswitch 86 0 4 #[36, 53, 59, 68, 77]) 36 40 := ⟨by decide +kernel, rfl⟩
theorem iX6_takes_40 : In cX6_takes 40 (.aload_n 0) 1 41 := ⟨by decide +kernel, rfl⟩
theorem iX6_takes_41 : In cX6_takes 41 (.iconst 1) 1 42 := ⟨by decide +kernel, rfl⟩
theorem iX6_takes_42 : In cX6_takes 42 (.putfield 15) 3 45 := ⟨by decide +kernel, rfl⟩
theorem iX6_takes_45 : In cX6_takes 45 (.iload_n 1) 1 46 := ⟨by decide +kernel, rfl⟩
theorem iX6_takes_46 : In cX6_takes 46 (.bipush 66) 2 48 := ⟨by decide +kernel, rfl⟩
theorem iX6_takes_48 : Jn cX6_takes 48 (.if_icmp .ne 7) (7) 51 55 := ⟨by decide +kernel, rfl, by decide⟩
theorem iX6_takes_51 : In cX6_takes 51 (.iconst 1) 1 52 := ⟨by decide +kernel, rfl⟩
theorem iX6_takes_52 : Jn cX6_takes 52 (.goto 4) (4) 55 56 := ⟨by decide +kernel, rfl, by decide⟩
theorem iX6_takes_55 : In cX6_takes 55 (.iconst 0) 1 56 := ⟨by decide +kernel, rfl⟩
theorem iX6_takes_56 : In cX6_takes 56 (.ireturn) 1 57 := ⟨by decide +kernel, rfl⟩
theorem iX6_takes_57 : In cX6_takes 57 (.aload_n 0) 1 58 := ⟨by decide +kernel, rfl⟩
theorem iX6_takes_58 : In cX6_takes 58 (.iload_n 1) 1 59 := ⟨by decide +kernel, rfl⟩
theorem iX6_takes_59 : In cX6_takes 59 (.invokevirtual 31) 3 62 := ⟨by decide +kernel, rfl⟩
theorem iX6_takes_62 : In cX6_takes 62 (.ireturn) 1 63 := ⟨by decide +kernel, rfl⟩
theorem iX6_takes_63 : In cX6_takes 63 (.aload_n 0) 1 64 := ⟨by decide +kernel, rfl⟩
theorem iX6_takes_64 : In cX6_takes 64 (.iload_n 1) 1 65 := ⟨by decide +kernel, rfl⟩
theorem iX6_takes_65 : In cX6_takes 65 (.bipush 48) 2 67 := ⟨by decide +kernel, rfl⟩
theorem iX6_takes_67 : In cX6_takes 67 (.isub) 1 68 := ⟨by decide +kernel, rfl⟩
theorem iX6_takes_68 : In cX6_takes 68 (.invokevirtual 34) 3 71 := ⟨by decide +kernel, rfl⟩
theorem iX6_takes_71 : In cX6_takes 71 (.ireturn) 1 72 := ⟨by decide +kernel, rfl⟩
theorem iX6_takes_72 : In cX6_takes 72 (.aload_n 0) 1 73 := ⟨by decide +kernel, rfl⟩
theorem iX6_takes_73 : In cX6_takes 73 (.iload_n 1) 1 74 := ⟨by decide +kernel, rfl⟩
theorem iX6_takes_74 : In cX6_takes 74 (.invokestatic 37) 3 77 := ⟨by decide +kernel, rfl⟩
theorem iX6_takes_77 : In cX6_takes 77 (.invokevirtual 41) 3 80 := ⟨by decide +kernel, rfl⟩
theorem iX6_takes_80 : In cX6_takes 80 (.ireturn) 1 81 := ⟨by decide +kernel, rfl⟩
theorem iX6_takes_81 : In cX6_takes 81 (.aload_n 0) 1 82 := ⟨by decide +kernel, rfl⟩
theorem iX6_takes_82 : In cX6_takes 82 (.iload_n 1) 1 83 := ⟨by decide +kernel, rfl⟩
theorem iX6_takes_83 : In cX6_takes 83 (.bipush 48) 2 85 := ⟨by decide +kernel, rfl⟩
theorem iX6_takes_85 : In cX6_takes 85 (.isub) 1 86 := ⟨by decide +kernel, rfl⟩
theorem iX6_takes_86 : In cX6_takes 86 (.invokevirtual 44) 3 89 := ⟨by decide +kernel, rfl⟩
theorem iX6_takes_89 : In cX6_takes 89 (.ireturn) 1 90 := ⟨by decide +kernel, rfl⟩
theorem iX6_takes_90 : In cX6_takes 90 (.aload_n 0) 1 91 := ⟨by decide +kernel, rfl⟩
theorem iX6_takes_91 : In cX6_takes 91 (.iload_n 1) 1 92 := ⟨by decide +kernel, rfl⟩
theorem iX6_takes_92 : In cX6_takes 92 (.bipush 48) 2 94 := ⟨by decide +kernel, rfl⟩
theorem iX6_takes_94 : In cX6_takes 94 (.isub) 1 95 := ⟨by decide +kernel, rfl⟩
theorem iX6_takes_95 : In cX6_takes 95 (.invokevirtual 47) 3 98 := ⟨by decide +kernel, rfl⟩
theorem iX6_takes_98 : In cX6_takes 98 (.ireturn) 1 99 := ⟨by decide +kernel, rfl⟩
theorem iX6_takesPart_0 : In cX6_takesPart 0 (.iload_n 1) 1 1 := ⟨by decide +kernel, rfl⟩
theorem iX6_takesPart_1 : In cX6_takesPart 1 (.bipush 70) 2 3 := ⟨by decide +kernel, rfl⟩
theorem iX6_takesPart_3 : Jn cX6_takesPart 3 (.if_icmp .ne 22) (22) 6 25 := ⟨by decide +kernel, rfl, by decide⟩
theorem iX6_takesPart_6 : In cX6_takesPart 6 (.aload_n 0) 1 7 := ⟨by decide +kernel, rfl⟩
theorem iX6_takesPart_7 : In cX6_takesPart 7 (.getfield 9) 3 10 := ⟨by decide +kernel, rfl⟩
theorem iX6_takesPart_10 : In cX6_takesPart 10 (.getfield 19) 3 13 := ⟨by decide +kernel, rfl⟩
theorem iX6_takesPart_13 : In cX6_takesPart 13 (.bipush 6) 2 15 := ⟨by decide +kernel, rfl⟩
theorem iX6_takesPart_15 : Jn cX6_takesPart 15 (.if_icmp .ge 10) (10) 18 25 := ⟨by decide +kernel, rfl, by decide⟩
theorem iX6_takesPart_18 : In cX6_takesPart 18 (.aload_n 0) 1 19 := ⟨by decide +kernel, rfl⟩
theorem iX6_takesPart_19 : In cX6_takesPart 19 (.iconst 2) 1 20 := ⟨by decide +kernel, rfl⟩
theorem iX6_takesPart_20 : In cX6_takesPart 20 (.putfield 15) 3 23 := ⟨by decide +kernel, rfl⟩
theorem iX6_takesPart_23 : In cX6_takesPart 23 (.iconst 1) 1 24 := ⟨by decide +kernel, rfl⟩
theorem iX6_takesPart_24 : In cX6_takesPart 24 (.ireturn) 1 25 := ⟨by decide +kernel, rfl⟩
theorem iX6_takesPart_25 : In cX6_takesPart 25 (.iload_n 1) 1 26 := ⟨by decide +kernel, rfl⟩
theorem iX6_takesPart_26 : In cX6_takesPart 26 (.bipush 71) 2 28 := ⟨by decide +kernel, rfl⟩
theorem iX6_takesPart_28 : Jn cX6_takesPart 28 (.if_icmp .ne 31) (31) 31 59 := ⟨by decide +kernel, rfl, by decide⟩
theorem iX6_takesPart_31 : In cX6_takesPart 31 (.aload_n 0) 1 32 := ⟨by decide +kernel, rfl⟩
theorem iX6_takesPart_32 : In cX6_takesPart 32 (.getfield 9) 3 35 := ⟨by decide +kernel, rfl⟩
theorem iX6_takesPart_35 : In cX6_takesPart 35 (.getfield 24) 3 38 := ⟨by decide +kernel, rfl⟩
theorem iX6_takesPart_38 : In cX6_takesPart 38 (.iconst 5) 1 39 := ⟨by decide +kernel, rfl⟩
theorem iX6_takesPart_39 : Jn cX6_takesPart 39 (.if_icmp .ge 20) (20) 42 59 := ⟨by decide +kernel, rfl, by decide⟩
theorem iX6_takesPart_42 : In cX6_takesPart 42 (.aload_n 0) 1 43 := ⟨by decide +kernel, rfl⟩
theorem iX6_takesPart_43 : In cX6_takesPart 43 (.getfield 9) 3 46 := ⟨by decide +kernel, rfl⟩
theorem iX6_takesPart_46 : In cX6_takesPart 46 (.getfield 19) 3 49 := ⟨by decide +kernel, rfl⟩
theorem iX6_takesPart_49 : Jn cX6_takesPart 49 (.ifCond .le 10) (10) 52 59 := ⟨by decide +kernel, rfl, by decide⟩
theorem iX6_takesPart_52 : In cX6_takesPart 52 (.aload_n 0) 1 53 := ⟨by decide +kernel, rfl⟩
theorem iX6_takesPart_53 : In cX6_takesPart 53 (.iconst 4) 1 54 := ⟨by decide +kernel, rfl⟩
theorem iX6_takesPart_54 : In cX6_takesPart 54 (.putfield 15) 3 57 := ⟨by decide +kernel, rfl⟩
theorem iX6_takesPart_57 : In cX6_takesPart 57 (.iconst 1) 1 58 := ⟨by decide +kernel, rfl⟩
theorem iX6_takesPart_58 : In cX6_takesPart 58 (.ireturn) 1 59 := ⟨by decide +kernel, rfl⟩
theorem iX6_takesPart_59 : In cX6_takesPart 59 (.iconst 0) 1 60 := ⟨by decide +kernel, rfl⟩
theorem iX6_takesPart_60 : In cX6_takesPart 60 (.ireturn) 1 61 := ⟨by decide +kernel, rfl⟩
theorem iX6_takesKind_0 : In cX6_takesKind 0 (.iload_n 1) 1 1 := ⟨by decide +kernel, rfl⟩
theorem iX6_takesKind_1 : Jn cX6_takesKind 1 (.ifCond .lt 20) (20) 4 21 := ⟨by decide +kernel, rfl, by decide⟩
theorem iX6_takesKind_4 : In cX6_takesKind 4 (.iload_n 1) 1 5 := ⟨by decide +kernel, rfl⟩
theorem iX6_takesKind_5 : In cX6_takesKind 5 (.iconst 3) 1 6 := ⟨by decide +kernel, rfl⟩
theorem iX6_takesKind_6 : Jn cX6_takesKind 6 (.if_icmp .gt 15) (15) 9 21 := ⟨by decide +kernel, rfl, by decide⟩
theorem iX6_takesKind_9 : In cX6_takesKind 9 (.aload_n 0) 1 10 := ⟨by decide +kernel, rfl⟩
theorem iX6_takesKind_10 : In cX6_takesKind 10 (.getfield 9) 3 13 := ⟨by decide +kernel, rfl⟩
theorem iX6_takesKind_13 : In cX6_takesKind 13 (.getfield 19) 3 16 := ⟨by decide +kernel, rfl⟩
theorem iX6_takesKind_16 : In cX6_takesKind 16 (.bipush 6) 2 18 := ⟨by decide +kernel, rfl⟩
theorem iX6_takesKind_18 : Jn cX6_takesKind 18 (.if_icmp .lt 5) (5) 21 23 := ⟨by decide +kernel, rfl, by decide⟩
theorem iX6_takesKind_21 : In cX6_takesKind 21 (.iconst 0) 1 22 := ⟨by decide +kernel, rfl⟩
theorem iX6_takesKind_22 : In cX6_takesKind 22 (.ireturn) 1 23 := ⟨by decide +kernel, rfl⟩
theorem iX6_takesKind_23 : In cX6_takesKind 23 (.aload_n 0) 1 24 := ⟨by decide +kernel, rfl⟩
theorem iX6_takesKind_24 : In cX6_takesKind 24 (.getfield 9) 3 27 := ⟨by decide +kernel, rfl⟩
theorem iX6_takesKind_27 : In cX6_takesKind 27 (.getfield 50) 3 30 := ⟨by decide +kernel, rfl⟩
theorem iX6_takesKind_30 : In cX6_takesKind 30 (.aload_n 0) 1 31 := ⟨by decide +kernel, rfl⟩
theorem iX6_takesKind_31 : In cX6_takesKind 31 (.getfield 9) 3 34 := ⟨by decide +kernel, rfl⟩
theorem iX6_takesKind_34 : In cX6_takesKind 34 (.getfield 19) 3 37 := ⟨by decide +kernel, rfl⟩
theorem iX6_takesKind_37 : In cX6_takesKind 37 (.aaload) 1 38 := ⟨by decide +kernel, rfl⟩
theorem iX6_takesKind_38 : In cX6_takesKind 38 (.iload_n 1) 1 39 := ⟨by decide +kernel, rfl⟩
theorem iX6_takesKind_39 : In cX6_takesKind 39 (.putfield 54) 3 42 := ⟨by decide +kernel, rfl⟩
theorem iX6_takesKind_42 : In cX6_takesKind 42 (.aload_n 0) 1 43 := ⟨by decide +kernel, rfl⟩
theorem iX6_takesKind_43 : In cX6_takesKind 43 (.iconst 3) 1 44 := ⟨by decide +kernel, rfl⟩
theorem iX6_takesKind_44 : In cX6_takesKind 44 (.putfield 15) 3 47 := ⟨by decide +kernel, rfl⟩
theorem iX6_takesKind_47 : In cX6_takesKind 47 (.aload_n 0) 1 48 := ⟨by decide +kernel, rfl⟩
theorem iX6_takesKind_48 : In cX6_takesKind 48 (.iconst 0) 1 49 := ⟨by decide +kernel, rfl⟩
theorem iX6_takesKind_49 : In cX6_takesKind 49 (.putfield 59) 3 52 := ⟨by decide +kernel, rfl⟩
theorem iX6_takesKind_52 : In cX6_takesKind 52 (.iconst 1) 1 53 := ⟨by decide +kernel, rfl⟩
theorem iX6_takesKind_53 : In cX6_takesKind 53 (.ireturn) 1 54 := ⟨by decide +kernel, rfl⟩
theorem iX6_takesMove_0 : In cX6_takesMove 0 (.iload_n 1) 1 1 := ⟨by decide +kernel, rfl⟩
theorem iX6_takesMove_1 : Jn cX6_takesMove 1 (.ifCond .eq 23) (23) 4 24 := ⟨by decide +kernel, rfl, by decide⟩
theorem iX6_takesMove_4 : In cX6_takesMove 4 (.aload_n 0) 1 5 := ⟨by decide +kernel, rfl⟩
theorem iX6_takesMove_5 : In cX6_takesMove 5 (.getfield 9) 3 8 := ⟨by decide +kernel, rfl⟩
theorem iX6_takesMove_8 : In cX6_takesMove 8 (.getfield 19) 3 11 := ⟨by decide +kernel, rfl⟩
theorem iX6_takesMove_11 : In cX6_takesMove 11 (.bipush 6) 2 13 := ⟨by decide +kernel, rfl⟩
theorem iX6_takesMove_13 : Jn cX6_takesMove 13 (.if_icmp .ge 11) (11) 16 24 := ⟨by decide +kernel, rfl, by decide⟩
theorem iX6_takesMove_16 : In cX6_takesMove 16 (.aload_n 0) 1 17 := ⟨by decide +kernel, rfl⟩
theorem iX6_takesMove_17 : In cX6_takesMove 17 (.getfield 59) 3 20 := ⟨by decide +kernel, rfl⟩
theorem iX6_takesMove_20 : In cX6_takesMove 20 (.iconst 3) 1 21 := ⟨by decide +kernel, rfl⟩
theorem iX6_takesMove_21 : Jn cX6_takesMove 21 (.if_icmp .lt 5) (5) 24 26 := ⟨by decide +kernel, rfl, by decide⟩
theorem iX6_takesMove_24 : In cX6_takesMove 24 (.iconst 0) 1 25 := ⟨by decide +kernel, rfl⟩
theorem iX6_takesMove_25 : In cX6_takesMove 25 (.ireturn) 1 26 := ⟨by decide +kernel, rfl⟩
theorem iX6_takesMove_26 : In cX6_takesMove 26 (.aload_n 0) 1 27 := ⟨by decide +kernel, rfl⟩
theorem iX6_takesMove_27 : In cX6_takesMove 27 (.getfield 9) 3 30 := ⟨by decide +kernel, rfl⟩
theorem iX6_takesMove_30 : In cX6_takesMove 30 (.getfield 50) 3 33 := ⟨by decide +kernel, rfl⟩
theorem iX6_takesMove_33 : In cX6_takesMove 33 (.aload_n 0) 1 34 := ⟨by decide +kernel, rfl⟩
theorem iX6_takesMove_34 : In cX6_takesMove 34 (.getfield 9) 3 37 := ⟨by decide +kernel, rfl⟩
theorem iX6_takesMove_37 : In cX6_takesMove 37 (.getfield 19) 3 40 := ⟨by decide +kernel, rfl⟩
theorem iX6_takesMove_40 : In cX6_takesMove 40 (.aaload) 1 41 := ⟨by decide +kernel, rfl⟩
theorem iX6_takesMove_41 : In cX6_takesMove 41 (.getfield 62) 3 44 := ⟨by decide +kernel, rfl⟩
theorem iX6_takesMove_44 : In cX6_takesMove 44 (.aload_n 0) 1 45 := ⟨by decide +kernel, rfl⟩
theorem iX6_takesMove_45 : In cX6_takesMove 45 (.getfield 59) 3 48 := ⟨by decide +kernel, rfl⟩
theorem iX6_takesMove_48 : In cX6_takesMove 48 (.iload_n 1) 1 49 := ⟨by decide +kernel, rfl⟩
theorem iX6_takesMove_49 : In cX6_takesMove 49 (.iastore) 1 50 := ⟨by decide +kernel, rfl⟩
theorem iX6_takesMove_50 : In cX6_takesMove 50 (.aload_n 0) 1 51 := ⟨by decide +kernel, rfl⟩
theorem iX6_takesMove_51 : In cX6_takesMove 51 (.dup) 1 52 := ⟨by decide +kernel, rfl⟩
theorem iX6_takesMove_52 : In cX6_takesMove 52 (.getfield 59) 3 55 := ⟨by decide +kernel, rfl⟩
theorem iX6_takesMove_55 : In cX6_takesMove 55 (.iconst 1) 1 56 := ⟨by decide +kernel, rfl⟩
theorem iX6_takesMove_56 : In cX6_takesMove 56 (.iadd) 1 57 := ⟨by decide +kernel, rfl⟩
theorem iX6_takesMove_57 : In cX6_takesMove 57 (.putfield 59) 3 60 := ⟨by decide +kernel, rfl⟩
theorem iX6_takesMove_60 : In cX6_takesMove 60 (.aload_n 0) 1 61 := ⟨by decide +kernel, rfl⟩
theorem iX6_takesMove_61 : In cX6_takesMove 61 (.getfield 59) 3 64 := ⟨by decide +kernel, rfl⟩
theorem iX6_takesMove_64 : In cX6_takesMove 64 (.iconst 3) 1 65 := ⟨by decide +kernel, rfl⟩
theorem iX6_takesMove_65 : Jn cX6_takesMove 65 (.if_icmp .ne 21) (21) 68 86 := ⟨by decide +kernel, rfl, by decide⟩
theorem iX6_takesMove_68 : In cX6_takesMove 68 (.aload_n 0) 1 69 := ⟨by decide +kernel, rfl⟩
theorem iX6_takesMove_69 : In cX6_takesMove 69 (.getfield 9) 3 72 := ⟨by decide +kernel, rfl⟩
theorem iX6_takesMove_72 : In cX6_takesMove 72 (.dup) 1 73 := ⟨by decide +kernel, rfl⟩
theorem iX6_takesMove_73 : In cX6_takesMove 73 (.getfield 19) 3 76 := ⟨by decide +kernel, rfl⟩
theorem iX6_takesMove_76 : In cX6_takesMove 76 (.iconst 1) 1 77 := ⟨by decide +kernel, rfl⟩
theorem iX6_takesMove_77 : In cX6_takesMove 77 (.iadd) 1 78 := ⟨by decide +kernel, rfl⟩
theorem iX6_takesMove_78 : In cX6_takesMove 78 (.putfield 19) 3 81 := ⟨by decide +kernel, rfl⟩
theorem iX6_takesMove_81 : In cX6_takesMove 81 (.aload_n 0) 1 82 := ⟨by decide +kernel, rfl⟩
theorem iX6_takesMove_82 : In cX6_takesMove 82 (.iconst 1) 1 83 := ⟨by decide +kernel, rfl⟩
theorem iX6_takesMove_83 : In cX6_takesMove 83 (.putfield 15) 3 86 := ⟨by decide +kernel, rfl⟩
theorem iX6_takesMove_86 : In cX6_takesMove 86 (.iconst 1) 1 87 := ⟨by decide +kernel, rfl⟩
theorem iX6_takesMove_87 : In cX6_takesMove 87 (.ireturn) 1 88 := ⟨by decide +kernel, rfl⟩
theorem iX6_takesOwner_0 : In cX6_takesOwner 0 (.aload_n 0) 1 1 := ⟨by decide +kernel, rfl⟩
theorem iX6_takesOwner_1 : In cX6_takesOwner 1 (.getfield 9) 3 4 := ⟨by decide +kernel, rfl⟩
theorem iX6_takesOwner_4 : In cX6_takesOwner 4 (.iload_n 1) 1 5 := ⟨by decide +kernel, rfl⟩
theorem iX6_takesOwner_5 : In cX6_takesOwner 5 (.invokevirtual 66) 3 8 := ⟨by decide +kernel, rfl⟩
theorem iX6_takesOwner_8 : Jn cX6_takesOwner 8 (.ifCond .eq 14) (14) 11 22 := ⟨by decide +kernel, rfl, by decide⟩
theorem iX6_takesOwner_11 : In cX6_takesOwner 11 (.aload_n 0) 1 12 := ⟨by decide +kernel, rfl⟩
theorem iX6_takesOwner_12 : In cX6_takesOwner 12 (.getfield 9) 3 15 := ⟨by decide +kernel, rfl⟩
theorem iX6_takesOwner_15 : In cX6_takesOwner 15 (.getfield 24) 3 18 := ⟨by decide +kernel, rfl⟩
theorem iX6_takesOwner_18 : In cX6_takesOwner 18 (.iconst 5) 1 19 := ⟨by decide +kernel, rfl⟩
theorem iX6_takesOwner_19 : Jn cX6_takesOwner 19 (.if_icmp .lt 5) (5) 22 24 := ⟨by decide +kernel, rfl, by decide⟩
theorem iX6_takesOwner_22 : In cX6_takesOwner 22 (.iconst 0) 1 23 := ⟨by decide +kernel, rfl⟩
theorem iX6_takesOwner_23 : In cX6_takesOwner 23 (.ireturn) 1 24 := ⟨by decide +kernel, rfl⟩
theorem iX6_takesOwner_24 : In cX6_takesOwner 24 (.aload_n 0) 1 25 := ⟨by decide +kernel, rfl⟩
theorem iX6_takesOwner_25 : In cX6_takesOwner 25 (.getfield 9) 3 28 := ⟨by decide +kernel, rfl⟩
theorem iX6_takesOwner_28 : In cX6_takesOwner 28 (.getfield 69) 3 31 := ⟨by decide +kernel, rfl⟩
theorem iX6_takesOwner_31 : In cX6_takesOwner 31 (.aload_n 0) 1 32 := ⟨by decide +kernel, rfl⟩
theorem iX6_takesOwner_32 : In cX6_takesOwner 32 (.getfield 9) 3 35 := ⟨by decide +kernel, rfl⟩
theorem iX6_takesOwner_35 : In cX6_takesOwner 35 (.getfield 24) 3 38 := ⟨by decide +kernel, rfl⟩
theorem iX6_takesOwner_38 : In cX6_takesOwner 38 (.iload_n 1) 1 39 := ⟨by decide +kernel, rfl⟩
theorem iX6_takesOwner_39 : In cX6_takesOwner 39 (.iastore) 1 40 := ⟨by decide +kernel, rfl⟩
theorem iX6_takesOwner_40 : In cX6_takesOwner 40 (.aload_n 0) 1 41 := ⟨by decide +kernel, rfl⟩
theorem iX6_takesOwner_41 : In cX6_takesOwner 41 (.iconst 5) 1 42 := ⟨by decide +kernel, rfl⟩
theorem iX6_takesOwner_42 : In cX6_takesOwner 42 (.putfield 15) 3 45 := ⟨by decide +kernel, rfl⟩
theorem iX6_takesOwner_45 : In cX6_takesOwner 45 (.iconst 1) 1 46 := ⟨by decide +kernel, rfl⟩
theorem iX6_takesOwner_46 : In cX6_takesOwner 46 (.ireturn) 1 47 := ⟨by decide +kernel, rfl⟩
theorem iX6_takesPrice_0 : In cX6_takesPrice 0 (.iload_n 1) 1 1 := ⟨by decide +kernel, rfl⟩
theorem iX6_takesPrice_1 : Jn cX6_takesPrice 1 (.ifCond .lt 20) (20) 4 21 := ⟨by decide +kernel, rfl, by decide⟩
theorem iX6_takesPrice_4 : In cX6_takesPrice 4 (.iload_n 1) 1 5 := ⟨by decide +kernel, rfl⟩
theorem iX6_takesPrice_5 : In cX6_takesPrice 5 (.bipush 9) 2 7 := ⟨by decide +kernel, rfl⟩
theorem iX6_takesPrice_7 : Jn cX6_takesPrice 7 (.if_icmp .gt 14) (14) 10 21 := ⟨by decide +kernel, rfl, by decide⟩
theorem iX6_takesPrice_10 : In cX6_takesPrice 10 (.aload_n 0) 1 11 := ⟨by decide +kernel, rfl⟩
theorem iX6_takesPrice_11 : In cX6_takesPrice 11 (.getfield 9) 3 14 := ⟨by decide +kernel, rfl⟩
theorem iX6_takesPrice_14 : In cX6_takesPrice 14 (.getfield 24) 3 17 := ⟨by decide +kernel, rfl⟩
theorem iX6_takesPrice_17 : In cX6_takesPrice 17 (.iconst 5) 1 18 := ⟨by decide +kernel, rfl⟩
theorem iX6_takesPrice_18 : Jn cX6_takesPrice 18 (.if_icmp .lt 5) (5) 21 23 := ⟨by decide +kernel, rfl, by decide⟩
theorem iX6_takesPrice_21 : In cX6_takesPrice 21 (.iconst 0) 1 22 := ⟨by decide +kernel, rfl⟩
theorem iX6_takesPrice_22 : In cX6_takesPrice 22 (.ireturn) 1 23 := ⟨by decide +kernel, rfl⟩
theorem iX6_takesPrice_23 : In cX6_takesPrice 23 (.aload_n 0) 1 24 := ⟨by decide +kernel, rfl⟩
theorem iX6_takesPrice_24 : In cX6_takesPrice 24 (.getfield 9) 3 27 := ⟨by decide +kernel, rfl⟩
theorem iX6_takesPrice_27 : In cX6_takesPrice 27 (.getfield 72) 3 30 := ⟨by decide +kernel, rfl⟩
theorem iX6_takesPrice_30 : In cX6_takesPrice 30 (.aload_n 0) 1 31 := ⟨by decide +kernel, rfl⟩
theorem iX6_takesPrice_31 : In cX6_takesPrice 31 (.getfield 9) 3 34 := ⟨by decide +kernel, rfl⟩
theorem iX6_takesPrice_34 : In cX6_takesPrice 34 (.getfield 24) 3 37 := ⟨by decide +kernel, rfl⟩
theorem iX6_takesPrice_37 : In cX6_takesPrice 37 (.iload_n 1) 1 38 := ⟨by decide +kernel, rfl⟩
theorem iX6_takesPrice_38 : In cX6_takesPrice 38 (.iastore) 1 39 := ⟨by decide +kernel, rfl⟩
theorem iX6_takesPrice_39 : In cX6_takesPrice 39 (.aload_n 0) 1 40 := ⟨by decide +kernel, rfl⟩
theorem iX6_takesPrice_40 : In cX6_takesPrice 40 (.getfield 9) 3 43 := ⟨by decide +kernel, rfl⟩
theorem iX6_takesPrice_43 : In cX6_takesPrice 43 (.dup) 1 44 := ⟨by decide +kernel, rfl⟩
theorem iX6_takesPrice_44 : In cX6_takesPrice 44 (.getfield 24) 3 47 := ⟨by decide +kernel, rfl⟩
theorem iX6_takesPrice_47 : In cX6_takesPrice 47 (.iconst 1) 1 48 := ⟨by decide +kernel, rfl⟩
theorem iX6_takesPrice_48 : In cX6_takesPrice 48 (.iadd) 1 49 := ⟨by decide +kernel, rfl⟩
theorem iX6_takesPrice_49 : In cX6_takesPrice 49 (.putfield 24) 3 52 := ⟨by decide +kernel, rfl⟩
theorem iX6_takesPrice_52 : In cX6_takesPrice 52 (.aload_n 0) 1 53 := ⟨by decide +kernel, rfl⟩
theorem iX6_takesPrice_53 : In cX6_takesPrice 53 (.iconst 1) 1 54 := ⟨by decide +kernel, rfl⟩
theorem iX6_takesPrice_54 : In cX6_takesPrice 54 (.putfield 15) 3 57 := ⟨by decide +kernel, rfl⟩
theorem iX6_takesPrice_57 : In cX6_takesPrice 57 (.iconst 1) 1 58 := ⟨by decide +kernel, rfl⟩
theorem iX6_takesPrice_58 : In cX6_takesPrice 58 (.ireturn) 1 59 := ⟨by decide +kernel, rfl⟩
theorem iX6_moveOf_0 : In cX6_moveOf 0 (.iload_n 0) 1 1 := ⟨by decide +kernel, rfl⟩
theorem iX6_moveOf_1 : In cX6_moveOf 1 (.lookupswitch 51 #[(102, 47), (108, 43), (112, 45), (119, 49)]) 43 44 := ⟨by decide +kernel, rfl⟩
theorem iX6_moveOf_44 : In cX6_moveOf 44 (.iconst 1) 1 45 := ⟨by decide +kernel, rfl⟩
theorem iX6_moveOf_45 : In cX6_moveOf 45 (.ireturn) 1 46 := ⟨by decide +kernel, rfl⟩
theorem iX6_moveOf_46 : In cX6_moveOf 46 (.iconst 2) 1 47 := ⟨by decide +kernel, rfl⟩
theorem iX6_moveOf_47 : In cX6_moveOf 47 (.ireturn) 1 48 := ⟨by decide +kernel, rfl⟩
theorem iX6_moveOf_48 : In cX6_moveOf 48 (.iconst 3) 1 49 := ⟨by decide +kernel, rfl⟩
theorem iX6_moveOf_49 : In cX6_moveOf 49 (.ireturn) 1 50 := ⟨by decide +kernel, rfl⟩
theorem iX6_moveOf_50 : In cX6_moveOf 50 (.iconst 4) 1 51 := ⟨by decide +kernel, rfl⟩
theorem iX6_moveOf_51 : In cX6_moveOf 51 (.ireturn) 1 52 := ⟨by decide +kernel, rfl⟩
theorem iX6_moveOf_52 : In cX6_moveOf 52 (.iconst 0) 1 53 := ⟨by decide +kernel, rfl⟩
theorem iX6_moveOf_53 : In cX6_moveOf 53 (.ireturn) 1 54 := ⟨by decide +kernel, rfl⟩
theorem iX7_init_0 : In cX7_init 0 (.aload_n 0) 1 1 := ⟨by decide +kernel, rfl⟩
theorem iX7_init_1 : In cX7_init 1 (.invokespecial 3) 3 4 := ⟨by decide +kernel, rfl⟩
theorem iX7_init_4 : In cX7_init 4 (.aload_n 0) 1 5 := ⟨by decide +kernel, rfl⟩
theorem iX7_init_5 : In cX7_init 5 (.bipush 6) 2 7 := ⟨by decide +kernel, rfl⟩
theorem iX7_init_7 : In cX7_init 7 (.anewarray 9) 3 10 := ⟨by decide +kernel, rfl⟩
theorem iX7_init_10 : In cX7_init 10 (.putfield 11) 3 13 := ⟨by decide +kernel, rfl⟩
theorem iX7_init_13 : In cX7_init 13 (.aload_n 0) 1 14 := ⟨by decide +kernel, rfl⟩
theorem iX7_init_14 : In cX7_init 14 (.iconst 5) 1 15 := ⟨by decide +kernel, rfl⟩
theorem iX7_init_15 : In cX7_init 15 (.newarray .int) 2 17 := ⟨by decide +kernel, rfl⟩
theorem iX7_init_17 : In cX7_init 17 (.putfield 17) 3 20 := ⟨by decide +kernel, rfl⟩
theorem iX7_init_20 : In cX7_init 20 (.aload_n 0) 1 21 := ⟨by decide +kernel, rfl⟩
theorem iX7_init_21 : In cX7_init 21 (.iconst 5) 1 22 := ⟨by decide +kernel, rfl⟩
theorem iX7_init_22 : In cX7_init 22 (.newarray .int) 2 24 := ⟨by decide +kernel, rfl⟩
theorem iX7_init_24 : In cX7_init 24 (.putfield 21) 3 27 := ⟨by decide +kernel, rfl⟩
theorem iX7_init_27 : In cX7_init 27 (.iconst 0) 1 28 := ⟨by decide +kernel, rfl⟩
theorem iX7_init_28 : In cX7_init 28 (.istore_n 1) 1 29 := ⟨by decide +kernel, rfl⟩
theorem iX7_init_29 : In cX7_init 29 (.iload_n 1) 1 30 := ⟨by decide +kernel, rfl⟩
theorem iX7_init_30 : In cX7_init 30 (.bipush 6) 2 32 := ⟨by decide +kernel, rfl⟩
theorem iX7_init_32 : Jn cX7_init 32 (.if_icmp .ge 22) (22) 35 54 := ⟨by decide +kernel, rfl, by decide⟩
theorem iX7_init_35 : In cX7_init 35 (.aload_n 0) 1 36 := ⟨by decide +kernel, rfl⟩
theorem iX7_init_36 : In cX7_init 36 (.getfield 11) 3 39 := ⟨by decide +kernel, rfl⟩
theorem iX7_init_39 : In cX7_init 39 (.iload_n 1) 1 40 := ⟨by decide +kernel, rfl⟩
theorem iX7_init_40 : In cX7_init 40 (.new 9) 3 43 := ⟨by decide +kernel, rfl⟩
theorem iX7_init_43 : In cX7_init 43 (.dup) 1 44 := ⟨by decide +kernel, rfl⟩
theorem iX7_init_44 : In cX7_init 44 (.invokespecial 24) 3 47 := ⟨by decide +kernel, rfl⟩
theorem iX7_init_47 : In cX7_init 47 (.aastore) 1 48 := ⟨by decide +kernel, rfl⟩
theorem iX7_init_48 : In cX7_init 48 (.iinc 1 1) 3 51 := ⟨by decide +kernel, rfl⟩
theorem iX7_init_51 : Jn cX7_init 51 (.goto (-22)) (-22) 54 29 := ⟨by decide +kernel, rfl, by decide⟩
theorem iX7_init_54 : In cX7_init 54 (.return_) 1 55 := ⟨by decide +kernel, rfl⟩
theorem iX7_hasFencer_0 : In cX7_hasFencer 0 (.iload_n 1) 1 1 := ⟨by decide +kernel, rfl⟩
theorem iX7_hasFencer_1 : Jn cX7_hasFencer 1 (.ifCond .lt 15) (15) 4 16 := ⟨by decide +kernel, rfl, by decide⟩
theorem iX7_hasFencer_4 : In cX7_hasFencer 4 (.iload_n 1) 1 5 := ⟨by decide +kernel, rfl⟩
theorem iX7_hasFencer_5 : In cX7_hasFencer 5 (.aload_n 0) 1 6 := ⟨by decide +kernel, rfl⟩
theorem iX7_hasFencer_6 : In cX7_hasFencer 6 (.getfield 25) 3 9 := ⟨by decide +kernel, rfl⟩
theorem iX7_hasFencer_9 : Jn cX7_hasFencer 9 (.if_icmp .ge 7) (7) 12 16 := ⟨by decide +kernel, rfl, by decide⟩
theorem iX7_hasFencer_12 : In cX7_hasFencer 12 (.iconst 1) 1 13 := ⟨by decide +kernel, rfl⟩
theorem iX7_hasFencer_13 : Jn cX7_hasFencer 13 (.goto 4) (4) 16 17 := ⟨by decide +kernel, rfl, by decide⟩
theorem iX7_hasFencer_16 : In cX7_hasFencer 16 (.iconst 0) 1 17 := ⟨by decide +kernel, rfl⟩
theorem iX7_hasFencer_17 : In cX7_hasFencer 17 (.ireturn) 1 18 := ⟨by decide +kernel, rfl⟩
theorem iX7_hasGood_0 : In cX7_hasGood 0 (.iload_n 1) 1 1 := ⟨by decide +kernel, rfl⟩
theorem iX7_hasGood_1 : Jn cX7_hasGood 1 (.ifCond .lt 15) (15) 4 16 := ⟨by decide +kernel, rfl, by decide⟩
theorem iX7_hasGood_4 : In cX7_hasGood 4 (.iload_n 1) 1 5 := ⟨by decide +kernel, rfl⟩
theorem iX7_hasGood_5 : In cX7_hasGood 5 (.aload_n 0) 1 6 := ⟨by decide +kernel, rfl⟩
theorem iX7_hasGood_6 : In cX7_hasGood 6 (.getfield 29) 3 9 := ⟨by decide +kernel, rfl⟩
theorem iX7_hasGood_9 : Jn cX7_hasGood 9 (.if_icmp .ge 7) (7) 12 16 := ⟨by decide +kernel, rfl, by decide⟩
theorem iX7_hasGood_12 : In cX7_hasGood 12 (.iconst 1) 1 13 := ⟨by decide +kernel, rfl⟩
theorem iX7_hasGood_13 : Jn cX7_hasGood 13 (.goto 4) (4) 16 17 := ⟨by decide +kernel, rfl, by decide⟩
theorem iX7_hasGood_16 : In cX7_hasGood 16 (.iconst 0) 1 17 := ⟨by decide +kernel, rfl⟩
theorem iX7_hasGood_17 : In cX7_hasGood 17 (.ireturn) 1 18 := ⟨by decide +kernel, rfl⟩
theorem iX7_copyFrom_0 : In cX7_copyFrom 0 (.aload_n 0) 1 1 := ⟨by decide +kernel, rfl⟩
theorem iX7_copyFrom_1 : In cX7_copyFrom 1 (.aload_n 1) 1 2 := ⟨by decide +kernel, rfl⟩
theorem iX7_copyFrom_2 : In cX7_copyFrom 2 (.getfield 25) 3 5 := ⟨by decide +kernel, rfl⟩
theorem iX7_copyFrom_5 : In cX7_copyFrom 5 (.putfield 25) 3 8 := ⟨by decide +kernel, rfl⟩
theorem iX7_copyFrom_8 : In cX7_copyFrom 8 (.aload_n 0) 1 9 := ⟨by decide +kernel, rfl⟩
theorem iX7_copyFrom_9 : In cX7_copyFrom 9 (.aload_n 1) 1 10 := ⟨by decide +kernel, rfl⟩
theorem iX7_copyFrom_10 : In cX7_copyFrom 10 (.getfield 29) 3 13 := ⟨by decide +kernel, rfl⟩
theorem iX7_copyFrom_13 : In cX7_copyFrom 13 (.putfield 29) 3 16 := ⟨by decide +kernel, rfl⟩
theorem iX7_copyFrom_16 : In cX7_copyFrom 16 (.iconst 0) 1 17 := ⟨by decide +kernel, rfl⟩
theorem iX7_copyFrom_17 : In cX7_copyFrom 17 (.istore_n 2) 1 18 := ⟨by decide +kernel, rfl⟩
theorem iX7_copyFrom_18 : In cX7_copyFrom 18 (.iload_n 2) 1 19 := ⟨by decide +kernel, rfl⟩
theorem iX7_copyFrom_19 : In cX7_copyFrom 19 (.bipush 6) 2 21 := ⟨by decide +kernel, rfl⟩
theorem iX7_copyFrom_21 : Jn cX7_copyFrom 21 (.if_icmp .ge 24) (24) 24 45 := ⟨by decide +kernel, rfl, by decide⟩
theorem iX7_copyFrom_24 : In cX7_copyFrom 24 (.aload_n 0) 1 25 := ⟨by decide +kernel, rfl⟩
theorem iX7_copyFrom_25 : In cX7_copyFrom 25 (.getfield 11) 3 28 := ⟨by decide +kernel, rfl⟩
theorem iX7_copyFrom_28 : In cX7_copyFrom 28 (.iload_n 2) 1 29 := ⟨by decide +kernel, rfl⟩
theorem iX7_copyFrom_29 : In cX7_copyFrom 29 (.aaload) 1 30 := ⟨by decide +kernel, rfl⟩
theorem iX7_copyFrom_30 : In cX7_copyFrom 30 (.aload_n 1) 1 31 := ⟨by decide +kernel, rfl⟩
theorem iX7_copyFrom_31 : In cX7_copyFrom 31 (.getfield 11) 3 34 := ⟨by decide +kernel, rfl⟩
theorem iX7_copyFrom_34 : In cX7_copyFrom 34 (.iload_n 2) 1 35 := ⟨by decide +kernel, rfl⟩
theorem iX7_copyFrom_35 : In cX7_copyFrom 35 (.aaload) 1 36 := ⟨by decide +kernel, rfl⟩
theorem iX7_copyFrom_36 : In cX7_copyFrom 36 (.invokevirtual 32) 3 39 := ⟨by decide +kernel, rfl⟩
theorem iX7_copyFrom_39 : In cX7_copyFrom 39 (.iinc 2 1) 3 42 := ⟨by decide +kernel, rfl⟩
theorem iX7_copyFrom_42 : Jn cX7_copyFrom 42 (.goto (-24)) (-24) 45 18 := ⟨by decide +kernel, rfl, by decide⟩
theorem iX7_copyFrom_45 : In cX7_copyFrom 45 (.aload_n 1) 1 46 := ⟨by decide +kernel, rfl⟩
theorem iX7_copyFrom_46 : In cX7_copyFrom 46 (.getfield 17) 3 49 := ⟨by decide +kernel, rfl⟩
theorem iX7_copyFrom_49 : In cX7_copyFrom 49 (.iconst 0) 1 50 := ⟨by decide +kernel, rfl⟩
theorem iX7_copyFrom_50 : In cX7_copyFrom 50 (.aload_n 0) 1 51 := ⟨by decide +kernel, rfl⟩
theorem iX7_copyFrom_51 : In cX7_copyFrom 51 (.getfield 17) 3 54 := ⟨by decide +kernel, rfl⟩
theorem iX7_copyFrom_54 : In cX7_copyFrom 54 (.iconst 0) 1 55 := ⟨by decide +kernel, rfl⟩
theorem iX7_copyFrom_55 : In cX7_copyFrom 55 (.iconst 5) 1 56 := ⟨by decide +kernel, rfl⟩
theorem iX7_copyFrom_56 : In cX7_copyFrom 56 (.invokestatic 36) 3 59 := ⟨by decide +kernel, rfl⟩
theorem iX7_copyFrom_59 : In cX7_copyFrom 59 (.aload_n 1) 1 60 := ⟨by decide +kernel, rfl⟩
theorem iX7_copyFrom_60 : In cX7_copyFrom 60 (.getfield 21) 3 63 := ⟨by decide +kernel, rfl⟩
theorem iX7_copyFrom_63 : In cX7_copyFrom 63 (.iconst 0) 1 64 := ⟨by decide +kernel, rfl⟩
theorem iX7_copyFrom_64 : In cX7_copyFrom 64 (.aload_n 0) 1 65 := ⟨by decide +kernel, rfl⟩
theorem iX7_copyFrom_65 : In cX7_copyFrom 65 (.getfield 21) 3 68 := ⟨by decide +kernel, rfl⟩
theorem iX7_copyFrom_68 : In cX7_copyFrom 68 (.iconst 0) 1 69 := ⟨by decide +kernel, rfl⟩
theorem iX7_copyFrom_69 : In cX7_copyFrom 69 (.iconst 5) 1 70 := ⟨by decide +kernel, rfl⟩
theorem iX7_copyFrom_70 : In cX7_copyFrom 70 (.invokestatic 36) 3 73 := ⟨by decide +kernel, rfl⟩
theorem iX7_copyFrom_73 : In cX7_copyFrom 73 (.return_) 1 74 := ⟨by decide +kernel, rfl⟩
theorem iX8_init_0 : In cX8_init 0 (.aload_n 0) 1 1 := ⟨by decide +kernel, rfl⟩
theorem iX8_init_1 : In cX8_init 1 (.invokespecial 3) 3 4 := ⟨by decide +kernel, rfl⟩
theorem iX8_init_4 : In cX8_init 4 (.aload_n 0) 1 5 := ⟨by decide +kernel, rfl⟩
theorem iX8_init_5 : In cX8_init 5 (.new 9) 3 8 := ⟨by decide +kernel, rfl⟩
theorem iX8_init_8 : In cX8_init 8 (.dup) 1 9 := ⟨by decide +kernel, rfl⟩
theorem iX8_init_9 : In cX8_init 9 (.invokespecial 11) 3 12 := ⟨by decide +kernel, rfl⟩
theorem iX8_init_12 : In cX8_init 12 (.putfield 12) 3 15 := ⟨by decide +kernel, rfl⟩
theorem iX8_init_15 : In cX8_init 15 (.aload_n 0) 1 16 := ⟨by decide +kernel, rfl⟩
theorem iX8_init_16 : In cX8_init 16 (.bipush 6) 2 18 := ⟨by decide +kernel, rfl⟩
theorem iX8_init_18 : In cX8_init 18 (.bipush 6) 2 20 := ⟨by decide +kernel, rfl⟩
theorem iX8_init_20 : In cX8_init 20 (.multianewarray 18 2) 4 24 := ⟨by decide +kernel, rfl⟩
theorem iX8_init_24 : In cX8_init 24 (.putfield 20) 3 27 := ⟨by decide +kernel, rfl⟩
theorem iX8_init_27 : In cX8_init 27 (.aload_n 0) 1 28 := ⟨by decide +kernel, rfl⟩
theorem iX8_init_28 : In cX8_init 28 (.aload_n 1) 1 29 := ⟨by decide +kernel, rfl⟩
theorem iX8_init_29 : In cX8_init 29 (.putfield 23) 3 32 := ⟨by decide +kernel, rfl⟩
theorem iX8_init_32 : In cX8_init 32 (.aload_n 0) 1 33 := ⟨by decide +kernel, rfl⟩
theorem iX8_init_33 : In cX8_init 33 (.aload_n 2) 1 34 := ⟨by decide +kernel, rfl⟩
theorem iX8_init_34 : In cX8_init 34 (.putfield 27) 3 37 := ⟨by decide +kernel, rfl⟩
theorem iX8_init_37 : In cX8_init 37 (.return_) 1 38 := ⟨by decide +kernel, rfl⟩
theorem iX8_fightNow_0 : In cX8_fightNow 0 (.aload_n 0) 1 1 := ⟨by decide +kernel, rfl⟩
theorem iX8_fightNow_1 : In cX8_fightNow 1 (.getfield 27) 3 4 := ⟨by decide +kernel, rfl⟩
theorem iX8_fightNow_4 : In cX8_fightNow 4 (.aload_n 0) 1 5 := ⟨by decide +kernel, rfl⟩
theorem iX8_fightNow_5 : In cX8_fightNow 5 (.getfield 23) 3 8 := ⟨by decide +kernel, rfl⟩
theorem iX8_fightNow_8 : In cX8_fightNow 8 (.getfield 31) 3 11 := ⟨by decide +kernel, rfl⟩
theorem iX8_fightNow_11 : In cX8_fightNow 11 (.iload_n 1) 1 12 := ⟨by decide +kernel, rfl⟩
theorem iX8_fightNow_12 : In cX8_fightNow 12 (.aaload) 1 13 := ⟨by decide +kernel, rfl⟩
theorem iX8_fightNow_13 : In cX8_fightNow 13 (.aload_n 0) 1 14 := ⟨by decide +kernel, rfl⟩
theorem iX8_fightNow_14 : In cX8_fightNow 14 (.getfield 12) 3 17 := ⟨by decide +kernel, rfl⟩
theorem iX8_fightNow_17 : In cX8_fightNow 17 (.getfield 37) 3 20 := ⟨by decide +kernel, rfl⟩
theorem iX8_fightNow_20 : In cX8_fightNow 20 (.iload_n 1) 1 21 := ⟨by decide +kernel, rfl⟩
theorem iX8_fightNow_21 : In cX8_fightNow 21 (.iaload) 1 22 := ⟨by decide +kernel, rfl⟩
theorem iX8_fightNow_22 : In cX8_fightNow 22 (.aload_n 0) 1 23 := ⟨by decide +kernel, rfl⟩
theorem iX8_fightNow_23 : In cX8_fightNow 23 (.getfield 23) 3 26 := ⟨by decide +kernel, rfl⟩
theorem iX8_fightNow_26 : In cX8_fightNow 26 (.getfield 31) 3 29 := ⟨by decide +kernel, rfl⟩
theorem iX8_fightNow_29 : In cX8_fightNow 29 (.iload_n 2) 1 30 := ⟨by decide +kernel, rfl⟩
theorem iX8_fightNow_30 : In cX8_fightNow 30 (.aaload) 1 31 := ⟨by decide +kernel, rfl⟩
theorem iX8_fightNow_31 : In cX8_fightNow 31 (.aload_n 0) 1 32 := ⟨by decide +kernel, rfl⟩
theorem iX8_fightNow_32 : In cX8_fightNow 32 (.getfield 12) 3 35 := ⟨by decide +kernel, rfl⟩
theorem iX8_fightNow_35 : In cX8_fightNow 35 (.getfield 37) 3 38 := ⟨by decide +kernel, rfl⟩
theorem iX8_fightNow_38 : In cX8_fightNow 38 (.iload_n 2) 1 39 := ⟨by decide +kernel, rfl⟩
theorem iX8_fightNow_39 : In cX8_fightNow 39 (.iaload) 1 40 := ⟨by decide +kernel, rfl⟩
theorem iX8_fightNow_40 : In cX8_fightNow 40 (.bipush 9) 2 42 := ⟨by decide +kernel, rfl⟩
theorem iX8_fightNow_42 : In cX8_fightNow 42 (.iconst 3) 1 43 := ⟨by decide +kernel, rfl⟩
theorem iX8_fightNow_43 : In cX8_fightNow 43 (.invokevirtual 41) 3 46 := ⟨by decide +kernel, rfl⟩
theorem iX8_fightNow_46 : In cX8_fightNow 46 (.return_) 1 47 := ⟨by decide +kernel, rfl⟩
theorem iX8_costFor_0 : In cX8_costFor 0 (.aload_n 0) 1 1 := ⟨by decide +kernel, rfl⟩
theorem iX8_costFor_1 : In cX8_costFor 1 (.iload_n 1) 1 2 := ⟨by decide +kernel, rfl⟩
theorem iX8_costFor_2 : In cX8_costFor 2 (.aload_n 0) 1 3 := ⟨by decide +kernel, rfl⟩
theorem iX8_costFor_3 : In cX8_costFor 3 (.getfield 12) 3 6 := ⟨by decide +kernel, rfl⟩
theorem iX8_costFor_6 : In cX8_costFor 6 (.getfield 47) 3 9 := ⟨by decide +kernel, rfl⟩
theorem iX8_costFor_9 : In cX8_costFor 9 (.iload_n 2) 1 10 := ⟨by decide +kernel, rfl⟩
theorem iX8_costFor_10 : In cX8_costFor 10 (.iaload) 1 11 := ⟨by decide +kernel, rfl⟩
theorem iX8_costFor_11 : In cX8_costFor 11 (.invokevirtual 50) 3 14 := ⟨by decide +kernel, rfl⟩
theorem iX8_costFor_14 : In cX8_costFor 14 (.iconst 0) 1 15 := ⟨by decide +kernel, rfl⟩
theorem iX8_costFor_15 : In cX8_costFor 15 (.aload_n 0) 1 16 := ⟨by decide +kernel, rfl⟩
theorem iX8_costFor_16 : In cX8_costFor 16 (.getfield 23) 3 19 := ⟨by decide +kernel, rfl⟩
theorem iX8_costFor_19 : In cX8_costFor 19 (.getfield 54) 3 22 := ⟨by decide +kernel, rfl⟩
theorem iX8_costFor_22 : In cX8_costFor 22 (.iload_n 2) 1 23 := ⟨by decide +kernel, rfl⟩
theorem iX8_costFor_23 : In cX8_costFor 23 (.iaload) 1 24 := ⟨by decide +kernel, rfl⟩
theorem iX8_costFor_24 : In cX8_costFor 24 (.aload_n 0) 1 25 := ⟨by decide +kernel, rfl⟩
theorem iX8_costFor_25 : In cX8_costFor 25 (.getfield 27) 3 28 := ⟨by decide +kernel, rfl⟩
theorem iX8_costFor_28 : In cX8_costFor 28 (.invokevirtual 57) 3 31 := ⟨by decide +kernel, rfl⟩
theorem iX8_costFor_31 : In cX8_costFor 31 (.isub) 1 32 := ⟨by decide +kernel, rfl⟩
theorem iX8_costFor_32 : In cX8_costFor 32 (.invokestatic 61) 3 35 := ⟨by decide +kernel, rfl⟩
theorem iX8_costFor_35 : In cX8_costFor 35 (.ireturn) 1 36 := ⟨by decide +kernel, rfl⟩
theorem iX8_letMeet_0 : In cX8_letMeet 0 (.aload_n 0) 1 1 := ⟨by decide +kernel, rfl⟩
theorem iX8_letMeet_1 : In cX8_letMeet 1 (.getfield 12) 3 4 := ⟨by decide +kernel, rfl⟩
theorem iX8_letMeet_4 : In cX8_letMeet 4 (.getfield 47) 3 7 := ⟨by decide +kernel, rfl⟩
theorem iX8_letMeet_7 : In cX8_letMeet 7 (.iload_n 2) 1 8 := ⟨by decide +kernel, rfl⟩
theorem iX8_letMeet_8 : In cX8_letMeet 8 (.iaload) 1 9 := ⟨by decide +kernel, rfl⟩
theorem iX8_letMeet_9 : In cX8_letMeet 9 (.istore_n 3) 1 10 := ⟨by decide +kernel, rfl⟩
theorem iX8_letMeet_10 : In cX8_letMeet 10 (.aload_n 0) 1 11 := ⟨by decide +kernel, rfl⟩
theorem iX8_letMeet_11 : In cX8_letMeet 11 (.iload_n 1) 1 12 := ⟨by decide +kernel, rfl⟩
theorem iX8_letMeet_12 : In cX8_letMeet 12 (.iload_n 2) 1 13 := ⟨by decide +kernel, rfl⟩
theorem iX8_letMeet_13 : In cX8_letMeet 13 (.invokevirtual 67) 3 16 := ⟨by decide +kernel, rfl⟩
theorem iX8_letMeet_16 : In cX8_letMeet 16 (.istore 4) 2 18 := ⟨by decide +kernel, rfl⟩
theorem iX8_letMeet_18 : In cX8_letMeet 18 (.aload_n 0) 1 19 := ⟨by decide +kernel, rfl⟩
theorem iX8_letMeet_19 : In cX8_letMeet 19 (.getfield 12) 3 22 := ⟨by decide +kernel, rfl⟩
theorem iX8_letMeet_22 : In cX8_letMeet 22 (.getfield 70) 3 25 := ⟨by decide +kernel, rfl⟩
theorem iX8_letMeet_25 : In cX8_letMeet 25 (.iload_n 1) 1 26 := ⟨by decide +kernel, rfl⟩
theorem iX8_letMeet_26 : In cX8_letMeet 26 (.iaload) 1 27 := ⟨by decide +kernel, rfl⟩
theorem iX8_letMeet_27 : In cX8_letMeet 27 (.iload 4) 2 29 := ⟨by decide +kernel, rfl⟩
theorem iX8_letMeet_29 : Jn cX8_letMeet 29 (.if_icmp .lt 37) (37) 32 66 := ⟨by decide +kernel, rfl, by decide⟩
theorem iX8_letMeet_32 : In cX8_letMeet 32 (.aload_n 0) 1 33 := ⟨by decide +kernel, rfl⟩
theorem iX8_letMeet_33 : In cX8_letMeet 33 (.getfield 12) 3 36 := ⟨by decide +kernel, rfl⟩
theorem iX8_letMeet_36 : In cX8_letMeet 36 (.getfield 70) 3 39 := ⟨by decide +kernel, rfl⟩
theorem iX8_letMeet_39 : In cX8_letMeet 39 (.iload_n 1) 1 40 := ⟨by decide +kernel, rfl⟩
theorem iX8_letMeet_40 : In cX8_letMeet 40 (.dup2) 1 41 := ⟨by decide +kernel, rfl⟩
theorem iX8_letMeet_41 : In cX8_letMeet 41 (.iaload) 1 42 := ⟨by decide +kernel, rfl⟩
theorem iX8_letMeet_42 : In cX8_letMeet 42 (.iload 4) 2 44 := ⟨by decide +kernel, rfl⟩
theorem iX8_letMeet_44 : In cX8_letMeet 44 (.isub) 1 45 := ⟨by decide +kernel, rfl⟩
theorem iX8_letMeet_45 : In cX8_letMeet 45 (.iastore) 1 46 := ⟨by decide +kernel, rfl⟩
theorem iX8_letMeet_46 : In cX8_letMeet 46 (.aload_n 0) 1 47 := ⟨by decide +kernel, rfl⟩
theorem iX8_letMeet_47 : In cX8_letMeet 47 (.getfield 12) 3 50 := ⟨by decide +kernel, rfl⟩
theorem iX8_letMeet_50 : In cX8_letMeet 50 (.iload_n 3) 1 51 := ⟨by decide +kernel, rfl⟩
theorem iX8_letMeet_51 : In cX8_letMeet 51 (.iload 4) 2 53 := ⟨by decide +kernel, rfl⟩
theorem iX8_letMeet_53 : In cX8_letMeet 53 (.invokevirtual 73) 3 56 := ⟨by decide +kernel, rfl⟩
theorem iX8_letMeet_56 : In cX8_letMeet 56 (.aload_n 0) 1 57 := ⟨by decide +kernel, rfl⟩
theorem iX8_letMeet_57 : In cX8_letMeet 57 (.getfield 12) 3 60 := ⟨by decide +kernel, rfl⟩
theorem iX8_letMeet_60 : In cX8_letMeet 60 (.getfield 47) 3 63 := ⟨by decide +kernel, rfl⟩
theorem iX8_letMeet_63 : In cX8_letMeet 63 (.iload_n 2) 1 64 := ⟨by decide +kernel, rfl⟩
theorem iX8_letMeet_64 : In cX8_letMeet 64 (.iload_n 1) 1 65 := ⟨by decide +kernel, rfl⟩
theorem iX8_letMeet_65 : In cX8_letMeet 65 (.iastore) 1 66 := ⟨by decide +kernel, rfl⟩
theorem iX8_letMeet_66 : In cX8_letMeet 66 (.aload_n 0) 1 67 := ⟨by decide +kernel, rfl⟩
theorem iX8_letMeet_67 : In cX8_letMeet 67 (.iload_n 1) 1 68 := ⟨by decide +kernel, rfl⟩
theorem iX8_letMeet_68 : In cX8_letMeet 68 (.invokevirtual 76) 3 71 := ⟨by decide +kernel, rfl⟩
theorem iX8_letMeet_71 : In cX8_letMeet 71 (.aload_n 0) 1 72 := ⟨by decide +kernel, rfl⟩
theorem iX8_letMeet_72 : In cX8_letMeet 72 (.iload_n 3) 1 73 := ⟨by decide +kernel, rfl⟩
theorem iX8_letMeet_73 : In cX8_letMeet 73 (.invokevirtual 76) 3 76 := ⟨by decide +kernel, rfl⟩
theorem iX8_letMeet_76 : In cX8_letMeet 76 (.aload_n 0) 1 77 := ⟨by decide +kernel, rfl⟩
theorem iX8_letMeet_77 : In cX8_letMeet 77 (.getfield 12) 3 80 := ⟨by decide +kernel, rfl⟩
theorem iX8_letMeet_80 : In cX8_letMeet 80 (.dup) 1 81 := ⟨by decide +kernel, rfl⟩
theorem iX8_letMeet_81 : In cX8_letMeet 81 (.getfield 80) 3 84 := ⟨by decide +kernel, rfl⟩
theorem iX8_letMeet_84 : In cX8_letMeet 84 (.iconst 1) 1 85 := ⟨by decide +kernel, rfl⟩
theorem iX8_letMeet_85 : In cX8_letMeet 85 (.iadd) 1 86 := ⟨by decide +kernel, rfl⟩
theorem iX8_letMeet_86 : In cX8_letMeet 86 (.putfield 80) 3 89 := ⟨by decide +kernel, rfl⟩
theorem iX8_letMeet_89 : In cX8_letMeet 89 (.return_) 1 90 := ⟨by decide +kernel, rfl⟩
theorem iX8_letStep_0 : In cX8_letStep 0 (.aload_n 0) 1 1 := ⟨by decide +kernel, rfl⟩
theorem iX8_letStep_1 : In cX8_letStep 1 (.getfield 23) 3 4 := ⟨by decide +kernel, rfl⟩
theorem iX8_letStep_4 : In cX8_letStep 4 (.getfield 31) 3 7 := ⟨by decide +kernel, rfl⟩
theorem iX8_letStep_7 : In cX8_letStep 7 (.iload_n 1) 1 8 := ⟨by decide +kernel, rfl⟩
theorem iX8_letStep_8 : In cX8_letStep 8 (.aaload) 1 9 := ⟨by decide +kernel, rfl⟩
theorem iX8_letStep_9 : In cX8_letStep 9 (.getfield 84) 3 12 := ⟨by decide +kernel, rfl⟩
theorem iX8_letStep_12 : In cX8_letStep 12 (.iconst 3) 1 13 := ⟨by decide +kernel, rfl⟩
theorem iX8_letStep_13 : Jn cX8_letStep 13 (.if_icmp .eq 25) (25) 16 38 := ⟨by decide +kernel, rfl, by decide⟩
theorem iX8_letStep_16 : In cX8_letStep 16 (.aload_n 0) 1 17 := ⟨by decide +kernel, rfl⟩
theorem iX8_letStep_17 : In cX8_letStep 17 (.getfield 12) 3 20 := ⟨by decide +kernel, rfl⟩
theorem iX8_letStep_20 : In cX8_letStep 20 (.getfield 37) 3 23 := ⟨by decide +kernel, rfl⟩
theorem iX8_letStep_23 : In cX8_letStep 23 (.iload_n 1) 1 24 := ⟨by decide +kernel, rfl⟩
theorem iX8_letStep_24 : In cX8_letStep 24 (.aload_n 0) 1 25 := ⟨by decide +kernel, rfl⟩
theorem iX8_letStep_25 : In cX8_letStep 25 (.getfield 12) 3 28 := ⟨by decide +kernel, rfl⟩
theorem iX8_letStep_28 : In cX8_letStep 28 (.getfield 37) 3 31 := ⟨by decide +kernel, rfl⟩
theorem iX8_letStep_31 : In cX8_letStep 31 (.iload_n 1) 1 32 := ⟨by decide +kernel, rfl⟩
theorem iX8_letStep_32 : In cX8_letStep 32 (.iaload) 1 33 := ⟨by decide +kernel, rfl⟩
theorem iX8_letStep_33 : In cX8_letStep 33 (.iconst 1) 1 34 := ⟨by decide +kernel, rfl⟩
theorem iX8_letStep_34 : In cX8_letStep 34 (.iadd) 1 35 := ⟨by decide +kernel, rfl⟩
theorem iX8_letStep_35 : In cX8_letStep 35 (.iconst 3) 1 36 := ⟨by decide +kernel, rfl⟩
theorem iX8_letStep_36 : In cX8_letStep 36 (.irem) 1 37 := ⟨by decide +kernel, rfl⟩
theorem iX8_letStep_37 : In cX8_letStep 37 (.iastore) 1 38 := ⟨by decide +kernel, rfl⟩
theorem iX8_letStep_38 : In cX8_letStep 38 (.return_) 1 39 := ⟨by decide +kernel, rfl⟩
theorem iX8_canTrade_0 : In cX8_canTrade 0 (.aload_n 0) 1 1 := ⟨by decide +kernel, rfl⟩
theorem iX8_canTrade_1 : In cX8_canTrade 1 (.getfield 23) 3 4 := ⟨by decide +kernel, rfl⟩
theorem iX8_canTrade_4 : In cX8_canTrade 4 (.iload_n 1) 1 5 := ⟨by decide +kernel, rfl⟩
theorem iX8_canTrade_5 : In cX8_canTrade 5 (.invokevirtual 89) 3 8 := ⟨by decide +kernel, rfl⟩
theorem iX8_canTrade_8 : Jn cX8_canTrade 8 (.ifCond .eq 31) (31) 11 39 := ⟨by decide +kernel, rfl, by decide⟩
theorem iX8_canTrade_11 : In cX8_canTrade 11 (.aload_n 0) 1 12 := ⟨by decide +kernel, rfl⟩
theorem iX8_canTrade_12 : In cX8_canTrade 12 (.getfield 23) 3 15 := ⟨by decide +kernel, rfl⟩
theorem iX8_canTrade_15 : In cX8_canTrade 15 (.iload_n 2) 1 16 := ⟨by decide +kernel, rfl⟩
theorem iX8_canTrade_16 : In cX8_canTrade 16 (.invokevirtual 93) 3 19 := ⟨by decide +kernel, rfl⟩
theorem iX8_canTrade_19 : Jn cX8_canTrade 19 (.ifCond .eq 20) (20) 22 39 := ⟨by decide +kernel, rfl, by decide⟩
theorem iX8_canTrade_22 : In cX8_canTrade 22 (.aload_n 0) 1 23 := ⟨by decide +kernel, rfl⟩
theorem iX8_canTrade_23 : In cX8_canTrade 23 (.getfield 12) 3 26 := ⟨by decide +kernel, rfl⟩
theorem iX8_canTrade_26 : In cX8_canTrade 26 (.getfield 47) 3 29 := ⟨by decide +kernel, rfl⟩
theorem iX8_canTrade_29 : In cX8_canTrade 29 (.iload_n 2) 1 30 := ⟨by decide +kernel, rfl⟩
theorem iX8_canTrade_30 : In cX8_canTrade 30 (.iaload) 1 31 := ⟨by decide +kernel, rfl⟩
theorem iX8_canTrade_31 : In cX8_canTrade 31 (.iload_n 1) 1 32 := ⟨by decide +kernel, rfl⟩
theorem iX8_canTrade_32 : Jn cX8_canTrade 32 (.if_icmp .eq 7) (7) 35 39 := ⟨by decide +kernel, rfl, by decide⟩
theorem iX8_canTrade_35 : In cX8_canTrade 35 (.iconst 1) 1 36 := ⟨by decide +kernel, rfl⟩
theorem iX8_canTrade_36 : Jn cX8_canTrade 36 (.goto 4) (4) 39 40 := ⟨by decide +kernel, rfl, by decide⟩
theorem iX8_canTrade_39 : In cX8_canTrade 39 (.iconst 0) 1 40 := ⟨by decide +kernel, rfl⟩
theorem iX8_canTrade_40 : In cX8_canTrade 40 (.ireturn) 1 41 := ⟨by decide +kernel, rfl⟩
theorem iX8_holdsTrue_0 : In cX8_holdsTrue 0 (.iload_n 1) 1 1 := ⟨by decide +kernel, rfl⟩
theorem iX8_holdsTrue_1 : In cX8_holdsTrue 1 (.tableswitch 222 1 5 #[35, 71, 95, 130, 181]) 35 36 := ⟨by decide +kernel, rfl⟩
theorem iX8_holdsTrue_36 : In cX8_holdsTrue 36 (.aload_n 0) 1 37 := ⟨by decide +kernel, rfl⟩
theorem iX8_holdsTrue_37 : In cX8_holdsTrue 37 (.iload_n 2) 1 38 := ⟨by decide +kernel, rfl⟩
theorem iX8_holdsTrue_38 : In cX8_holdsTrue 38 (.iload_n 3) 1 39 := ⟨by decide +kernel, rfl⟩
theorem iX8_holdsTrue_39 : In cX8_holdsTrue 39 (.invokevirtual 96) 3 42 := ⟨by decide +kernel, rfl⟩
theorem iX8_holdsTrue_42 : Jn cX8_holdsTrue 42 (.ifCond .ne 5) (5) 45 47 := ⟨by decide +kernel, rfl, by decide⟩
theorem iX8_holdsTrue_45 : In cX8_holdsTrue 45 (.iconst 0) 1 46 := ⟨by decide +kernel, rfl⟩
theorem iX8_holdsTrue_46 : In cX8_holdsTrue 46 (.ireturn) 1 47 := ⟨by decide +kernel, rfl⟩
theorem iX8_holdsTrue_47 : In cX8_holdsTrue 47 (.aload_n 0) 1 48 := ⟨by decide +kernel, rfl⟩
theorem iX8_holdsTrue_48 : In cX8_holdsTrue 48 (.iload_n 2) 1 49 := ⟨by decide +kernel, rfl⟩
theorem iX8_holdsTrue_49 : In cX8_holdsTrue 49 (.iload_n 3) 1 50 := ⟨by decide +kernel, rfl⟩
theorem iX8_holdsTrue_50 : In cX8_holdsTrue 50 (.invokevirtual 100) 3 53 := ⟨by decide +kernel, rfl⟩
theorem iX8_holdsTrue_53 : In cX8_holdsTrue 53 (.aload_n 0) 1 54 := ⟨by decide +kernel, rfl⟩
theorem iX8_holdsTrue_54 : In cX8_holdsTrue 54 (.getfield 12) 3 57 := ⟨by decide +kernel, rfl⟩
theorem iX8_holdsTrue_57 : In cX8_holdsTrue 57 (.getfield 47) 3 60 := ⟨by decide +kernel, rfl⟩
theorem iX8_holdsTrue_60 : In cX8_holdsTrue 60 (.iload_n 3) 1 61 := ⟨by decide +kernel, rfl⟩
theorem iX8_holdsTrue_61 : In cX8_holdsTrue 61 (.iaload) 1 62 := ⟨by decide +kernel, rfl⟩
theorem iX8_holdsTrue_62 : In cX8_holdsTrue 62 (.iload_n 2) 1 63 := ⟨by decide +kernel, rfl⟩
theorem iX8_holdsTrue_63 : Jn cX8_holdsTrue 63 (.if_icmp .ne 7) (7) 66 70 := ⟨by decide +kernel, rfl, by decide⟩
theorem iX8_holdsTrue_66 : In cX8_holdsTrue 66 (.iconst 1) 1 67 := ⟨by decide +kernel, rfl⟩
theorem iX8_holdsTrue_67 : Jn cX8_holdsTrue 67 (.goto 4) (4) 70 71 := ⟨by decide +kernel, rfl, by decide⟩
theorem iX8_holdsTrue_70 : In cX8_holdsTrue 70 (.iconst 0) 1 71 := ⟨by decide +kernel, rfl⟩
theorem iX8_holdsTrue_71 : In cX8_holdsTrue 71 (.ireturn) 1 72 := ⟨by decide +kernel, rfl⟩
theorem iX8_holdsTrue_72 : In cX8_holdsTrue 72 (.iload_n 2) 1 73 := ⟨by decide +kernel, rfl⟩
theorem iX8_holdsTrue_73 : Jn cX8_holdsTrue 73 (.ifCond .ne 14) (14) 76 87 := ⟨by decide +kernel, rfl, by decide⟩
theorem iX8_holdsTrue_76 : In cX8_holdsTrue 76 (.aload_n 0) 1 77 := ⟨by decide +kernel, rfl⟩
theorem iX8_holdsTrue_77 : In cX8_holdsTrue 77 (.getfield 23) 3 80 := ⟨by decide +kernel, rfl⟩
theorem iX8_holdsTrue_80 : In cX8_holdsTrue 80 (.iload_n 3) 1 81 := ⟨by decide +kernel, rfl⟩
theorem iX8_holdsTrue_81 : In cX8_holdsTrue 81 (.invokevirtual 89) 3 84 := ⟨by decide +kernel, rfl⟩
theorem iX8_holdsTrue_84 : Jn cX8_holdsTrue 84 (.ifCond .ne 5) (5) 87 89 := ⟨by decide +kernel, rfl, by decide⟩
theorem iX8_holdsTrue_87 : In cX8_holdsTrue 87 (.iconst 0) 1 88 := ⟨by decide +kernel, rfl⟩
theorem iX8_holdsTrue_88 : In cX8_holdsTrue 88 (.ireturn) 1 89 := ⟨by decide +kernel, rfl⟩
theorem iX8_holdsTrue_89 : In cX8_holdsTrue 89 (.aload_n 0) 1 90 := ⟨by decide +kernel, rfl⟩
theorem iX8_holdsTrue_90 : In cX8_holdsTrue 90 (.iload_n 3) 1 91 := ⟨by decide +kernel, rfl⟩
theorem iX8_holdsTrue_91 : In cX8_holdsTrue 91 (.invokevirtual 76) 3 94 := ⟨by decide +kernel, rfl⟩
theorem iX8_holdsTrue_94 : In cX8_holdsTrue 94 (.iconst 1) 1 95 := ⟨by decide +kernel, rfl⟩
theorem iX8_holdsTrue_95 : In cX8_holdsTrue 95 (.ireturn) 1 96 := ⟨by decide +kernel, rfl⟩
theorem iX8_holdsTrue_96 : In cX8_holdsTrue 96 (.aload_n 0) 1 97 := ⟨by decide +kernel, rfl⟩
theorem iX8_holdsTrue_97 : In cX8_holdsTrue 97 (.getfield 23) 3 100 := ⟨by decide +kernel, rfl⟩
theorem iX8_holdsTrue_100 : In cX8_holdsTrue 100 (.iload_n 2) 1 101 := ⟨by decide +kernel, rfl⟩
theorem iX8_holdsTrue_101 : In cX8_holdsTrue 101 (.invokevirtual 89) 3 104 := ⟨by decide +kernel, rfl⟩
theorem iX8_holdsTrue_104 : Jn cX8_holdsTrue 104 (.ifCond .eq 14) (14) 107 118 := ⟨by decide +kernel, rfl, by decide⟩
theorem iX8_holdsTrue_107 : In cX8_holdsTrue 107 (.iload_n 3) 1 108 := ⟨by decide +kernel, rfl⟩
theorem iX8_holdsTrue_108 : In cX8_holdsTrue 108 (.iconst 1) 1 109 := ⟨by decide +kernel, rfl⟩
theorem iX8_holdsTrue_109 : Jn cX8_holdsTrue 109 (.if_icmp .lt 9) (9) 112 118 := ⟨by decide +kernel, rfl, by decide⟩
theorem iX8_holdsTrue_112 : In cX8_holdsTrue 112 (.iload_n 3) 1 113 := ⟨by decide +kernel, rfl⟩
theorem iX8_holdsTrue_113 : In cX8_holdsTrue 113 (.bipush 9) 2 115 := ⟨by decide +kernel, rfl⟩
theorem iX8_holdsTrue_115 : Jn cX8_holdsTrue 115 (.if_icmp .le 5) (5) 118 120 := ⟨by decide +kernel, rfl, by decide⟩
theorem iX8_holdsTrue_118 : In cX8_holdsTrue 118 (.iconst 0) 1 119 := ⟨by decide +kernel, rfl⟩
theorem iX8_holdsTrue_119 : In cX8_holdsTrue 119 (.ireturn) 1 120 := ⟨by decide +kernel, rfl⟩
theorem iX8_holdsTrue_120 : In cX8_holdsTrue 120 (.aload_n 0) 1 121 := ⟨by decide +kernel, rfl⟩
theorem iX8_holdsTrue_121 : In cX8_holdsTrue 121 (.getfield 12) 3 124 := ⟨by decide +kernel, rfl⟩
theorem iX8_holdsTrue_124 : In cX8_holdsTrue 124 (.iload_n 2) 1 125 := ⟨by decide +kernel, rfl⟩
theorem iX8_holdsTrue_125 : In cX8_holdsTrue 125 (.iload_n 3) 1 126 := ⟨by decide +kernel, rfl⟩
theorem iX8_holdsTrue_126 : In cX8_holdsTrue 126 (.invokevirtual 73) 3 129 := ⟨by decide +kernel, rfl⟩
theorem iX8_holdsTrue_129 : In cX8_holdsTrue 129 (.iconst 1) 1 130 := ⟨by decide +kernel, rfl⟩
theorem iX8_holdsTrue_130 : In cX8_holdsTrue 130 (.ireturn) 1 131 := ⟨by decide +kernel, rfl⟩
theorem iX8_holdsTrue_131 : In cX8_holdsTrue 131 (.aload_n 0) 1 132 := ⟨by decide +kernel, rfl⟩
theorem iX8_holdsTrue_132 : In cX8_holdsTrue 132 (.getfield 23) 3 135 := ⟨by decide +kernel, rfl⟩
theorem iX8_holdsTrue_135 : In cX8_holdsTrue 135 (.iload_n 2) 1 136 := ⟨by decide +kernel, rfl⟩
theorem iX8_holdsTrue_136 : In cX8_holdsTrue 136 (.invokevirtual 89) 3 139 := ⟨by decide +kernel, rfl⟩
theorem iX8_holdsTrue_139 : Jn cX8_holdsTrue 139 (.ifCond .eq 19) (19) 142 158 := ⟨by decide +kernel, rfl, by decide⟩
theorem iX8_holdsTrue_142 : In cX8_holdsTrue 142 (.aload_n 0) 1 143 := ⟨by decide +kernel, rfl⟩
theorem iX8_holdsTrue_143 : In cX8_holdsTrue 143 (.getfield 23) 3 146 := ⟨by decide +kernel, rfl⟩
theorem iX8_holdsTrue_146 : In cX8_holdsTrue 146 (.iload_n 3) 1 147 := ⟨by decide +kernel, rfl⟩
theorem iX8_holdsTrue_147 : In cX8_holdsTrue 147 (.invokevirtual 89) 3 150 := ⟨by decide +kernel, rfl⟩
theorem iX8_holdsTrue_150 : Jn cX8_holdsTrue 150 (.ifCond .eq 8) (8) 153 158 := ⟨by decide +kernel, rfl, by decide⟩
theorem iX8_holdsTrue_153 : In cX8_holdsTrue 153 (.iload_n 2) 1 154 := ⟨by decide +kernel, rfl⟩
theorem iX8_holdsTrue_154 : In cX8_holdsTrue 154 (.iload_n 3) 1 155 := ⟨by decide +kernel, rfl⟩
theorem iX8_holdsTrue_155 : Jn cX8_holdsTrue 155 (.if_icmp .ne 5) (5) 158 160 := ⟨by decide +kernel, rfl, by decide⟩
theorem iX8_holdsTrue_158 : In cX8_holdsTrue 158 (.iconst 0) 1 159 := ⟨by decide +kernel, rfl⟩
theorem iX8_holdsTrue_159 : In cX8_holdsTrue 159 (.ireturn) 1 160 := ⟨by decide +kernel, rfl⟩
theorem iX8_holdsTrue_160 : In cX8_holdsTrue 160 (.aload_n 0) 1 161 := ⟨by decide +kernel, rfl⟩
theorem iX8_holdsTrue_161 : In cX8_holdsTrue 161 (.iload_n 2) 1 162 := ⟨by decide +kernel, rfl⟩
theorem iX8_holdsTrue_162 : In cX8_holdsTrue 162 (.iload_n 3) 1 163 := ⟨by decide +kernel, rfl⟩
theorem iX8_holdsTrue_163 : In cX8_holdsTrue 163 (.invokevirtual 50) 3 166 := ⟨by decide +kernel, rfl⟩
theorem iX8_holdsTrue_166 : In cX8_holdsTrue 166 (.aload_n 0) 1 167 := ⟨by decide +kernel, rfl⟩
theorem iX8_holdsTrue_167 : In cX8_holdsTrue 167 (.getfield 27) 3 170 := ⟨by decide +kernel, rfl⟩
theorem iX8_holdsTrue_170 : In cX8_holdsTrue 170 (.invokevirtual 57) 3 173 := ⟨by decide +kernel, rfl⟩
theorem iX8_holdsTrue_173 : Jn cX8_holdsTrue 173 (.ifCond .le 7) (7) 176 180 := ⟨by decide +kernel, rfl, by decide⟩
theorem iX8_holdsTrue_176 : In cX8_holdsTrue 176 (.iconst 1) 1 177 := ⟨by decide +kernel, rfl⟩
theorem iX8_holdsTrue_177 : Jn cX8_holdsTrue 177 (.goto 4) (4) 180 181 := ⟨by decide +kernel, rfl, by decide⟩
theorem iX8_holdsTrue_180 : In cX8_holdsTrue 180 (.iconst 0) 1 181 := ⟨by decide +kernel, rfl⟩
theorem iX8_holdsTrue_181 : In cX8_holdsTrue 181 (.ireturn) 1 182 := ⟨by decide +kernel, rfl⟩
theorem iX8_holdsTrue_182 : In cX8_holdsTrue 182 (.aload_n 0) 1 183 := ⟨by decide +kernel, rfl⟩
theorem iX8_holdsTrue_183 : In cX8_holdsTrue 183 (.getfield 23) 3 186 := ⟨by decide +kernel, rfl⟩
theorem iX8_holdsTrue_186 : In cX8_holdsTrue 186 (.iload_n 2) 1 187 := ⟨by decide +kernel, rfl⟩
theorem iX8_holdsTrue_187 : In cX8_holdsTrue 187 (.invokevirtual 89) 3 190 := ⟨by decide +kernel, rfl⟩
theorem iX8_holdsTrue_190 : Jn cX8_holdsTrue 190 (.ifCond .eq 31) (31) 193 221 := ⟨by decide +kernel, rfl, by decide⟩
theorem iX8_holdsTrue_193 : In cX8_holdsTrue 193 (.aload_n 0) 1 194 := ⟨by decide +kernel, rfl⟩
theorem iX8_holdsTrue_194 : In cX8_holdsTrue 194 (.getfield 23) 3 197 := ⟨by decide +kernel, rfl⟩
theorem iX8_holdsTrue_197 : In cX8_holdsTrue 197 (.iload_n 3) 1 198 := ⟨by decide +kernel, rfl⟩
theorem iX8_holdsTrue_198 : In cX8_holdsTrue 198 (.invokevirtual 93) 3 201 := ⟨by decide +kernel, rfl⟩
theorem iX8_holdsTrue_201 : Jn cX8_holdsTrue 201 (.ifCond .eq 20) (20) 204 221 := ⟨by decide +kernel, rfl, by decide⟩
theorem iX8_holdsTrue_204 : In cX8_holdsTrue 204 (.aload_n 0) 1 205 := ⟨by decide +kernel, rfl⟩
theorem iX8_holdsTrue_205 : In cX8_holdsTrue 205 (.getfield 12) 3 208 := ⟨by decide +kernel, rfl⟩
theorem iX8_holdsTrue_208 : In cX8_holdsTrue 208 (.getfield 47) 3 211 := ⟨by decide +kernel, rfl⟩
theorem iX8_holdsTrue_211 : In cX8_holdsTrue 211 (.iload_n 3) 1 212 := ⟨by decide +kernel, rfl⟩
theorem iX8_holdsTrue_212 : In cX8_holdsTrue 212 (.iaload) 1 213 := ⟨by decide +kernel, rfl⟩
theorem iX8_holdsTrue_213 : In cX8_holdsTrue 213 (.iload_n 2) 1 214 := ⟨by decide +kernel, rfl⟩
theorem iX8_holdsTrue_214 : Jn cX8_holdsTrue 214 (.if_icmp .ne 7) (7) 217 221 := ⟨by decide +kernel, rfl, by decide⟩
theorem iX8_holdsTrue_217 : In cX8_holdsTrue 217 (.iconst 1) 1 218 := ⟨by decide +kernel, rfl⟩
theorem iX8_holdsTrue_218 : Jn cX8_holdsTrue 218 (.goto 4) (4) 221 222 := ⟨by decide +kernel, rfl, by decide⟩
theorem iX8_holdsTrue_221 : In cX8_holdsTrue 221 (.iconst 0) 1 222 := ⟨by decide +kernel, rfl⟩
theorem iX8_holdsTrue_222 : In cX8_holdsTrue 222 (.ireturn) 1 223 := ⟨by decide +kernel, rfl⟩
theorem iX8_holdsTrue_223 : In cX8_holdsTrue 223 (.iconst 0) 1 224 := ⟨by decide +kernel, rfl⟩
theorem iX8_holdsTrue_224 : In cX8_holdsTrue 224 (.ireturn) 1 225 := ⟨by decide +kernel, rfl⟩
theorem iX8_feast_0 : In cX8_feast 0 (.iload_n 1) 1 1 := ⟨by decide +kernel, rfl⟩
theorem iX8_feast_1 : In cX8_feast 1 (.bipush 30) 2 3 := ⟨by decide +kernel, rfl⟩
theorem iX8_feast_3 : Jn cX8_feast 3 (.if_icmp .ge 29) (29) 6 32 := ⟨by decide +kernel, rfl, by decide⟩
theorem iX8_feast_6 : In cX8_feast 6 (.aload_n 0) 1 7 := ⟨by decide +kernel, rfl⟩
theorem iX8_feast_7 : In cX8_feast 7 (.iload_n 1) 1 8 := ⟨by decide +kernel, rfl⟩
theorem iX8_feast_8 : In cX8_feast 8 (.iconst 5) 1 9 := ⟨by decide +kernel, rfl⟩
theorem iX8_feast_9 : In cX8_feast 9 (.idiv) 1 10 := ⟨by decide +kernel, rfl⟩
theorem iX8_feast_10 : In cX8_feast 10 (.iload_n 1) 1 11 := ⟨by decide +kernel, rfl⟩
theorem iX8_feast_11 : In cX8_feast 11 (.iconst 5) 1 12 := ⟨by decide +kernel, rfl⟩
theorem iX8_feast_12 : In cX8_feast 12 (.irem) 1 13 := ⟨by decide +kernel, rfl⟩
theorem iX8_feast_13 : In cX8_feast 13 (.invokevirtual 96) 3 16 := ⟨by decide +kernel, rfl⟩
theorem iX8_feast_16 : Jn cX8_feast 16 (.ifCond .eq 73) (73) 19 89 := ⟨by decide +kernel, rfl, by decide⟩
theorem iX8_feast_19 : In cX8_feast 19 (.aload_n 0) 1 20 := ⟨by decide +kernel, rfl⟩
theorem iX8_feast_20 : In cX8_feast 20 (.iload_n 1) 1 21 := ⟨by decide +kernel, rfl⟩
theorem iX8_feast_21 : In cX8_feast 21 (.iconst 5) 1 22 := ⟨by decide +kernel, rfl⟩
theorem iX8_feast_22 : In cX8_feast 22 (.idiv) 1 23 := ⟨by decide +kernel, rfl⟩
theorem iX8_feast_23 : In cX8_feast 23 (.iload_n 1) 1 24 := ⟨by decide +kernel, rfl⟩
theorem iX8_feast_24 : In cX8_feast 24 (.iconst 5) 1 25 := ⟨by decide +kernel, rfl⟩
theorem iX8_feast_25 : In cX8_feast 25 (.irem) 1 26 := ⟨by decide +kernel, rfl⟩
theorem iX8_feast_26 : In cX8_feast 26 (.invokevirtual 100) 3 29 := ⟨by decide +kernel, rfl⟩
theorem iX8_feast_29 : Jn cX8_feast 29 (.goto 60) (60) 32 89 := ⟨by decide +kernel, rfl, by decide⟩
theorem iX8_feast_32 : In cX8_feast 32 (.iload_n 1) 1 33 := ⟨by decide +kernel, rfl⟩
theorem iX8_feast_33 : In cX8_feast 33 (.bipush 36) 2 35 := ⟨by decide +kernel, rfl⟩
theorem iX8_feast_35 : Jn cX8_feast 35 (.if_icmp .ge 28) (28) 38 63 := ⟨by decide +kernel, rfl, by decide⟩
theorem iX8_feast_38 : In cX8_feast 38 (.aload_n 0) 1 39 := ⟨by decide +kernel, rfl⟩
theorem iX8_feast_39 : In cX8_feast 39 (.getfield 23) 3 42 := ⟨by decide +kernel, rfl⟩
theorem iX8_feast_42 : In cX8_feast 42 (.iload_n 1) 1 43 := ⟨by decide +kernel, rfl⟩
theorem iX8_feast_43 : In cX8_feast 43 (.bipush 30) 2 45 := ⟨by decide +kernel, rfl⟩
theorem iX8_feast_45 : In cX8_feast 45 (.isub) 1 46 := ⟨by decide +kernel, rfl⟩
theorem iX8_feast_46 : In cX8_feast 46 (.invokevirtual 89) 3 49 := ⟨by decide +kernel, rfl⟩
theorem iX8_feast_49 : Jn cX8_feast 49 (.ifCond .eq 40) (40) 52 89 := ⟨by decide +kernel, rfl, by decide⟩
theorem iX8_feast_52 : In cX8_feast 52 (.aload_n 0) 1 53 := ⟨by decide +kernel, rfl⟩
theorem iX8_feast_53 : In cX8_feast 53 (.iload_n 1) 1 54 := ⟨by decide +kernel, rfl⟩
theorem iX8_feast_54 : In cX8_feast 54 (.bipush 30) 2 56 := ⟨by decide +kernel, rfl⟩
theorem iX8_feast_56 : In cX8_feast 56 (.isub) 1 57 := ⟨by decide +kernel, rfl⟩
theorem iX8_feast_57 : In cX8_feast 57 (.invokevirtual 76) 3 60 := ⟨by decide +kernel, rfl⟩
theorem iX8_feast_60 : Jn cX8_feast 60 (.goto 29) (29) 63 89 := ⟨by decide +kernel, rfl, by decide⟩
theorem iX8_feast_63 : In cX8_feast 63 (.aload_n 0) 1 64 := ⟨by decide +kernel, rfl⟩
theorem iX8_feast_64 : In cX8_feast 64 (.getfield 23) 3 67 := ⟨by decide +kernel, rfl⟩
theorem iX8_feast_67 : In cX8_feast 67 (.iload_n 1) 1 68 := ⟨by decide +kernel, rfl⟩
theorem iX8_feast_68 : In cX8_feast 68 (.bipush 36) 2 70 := ⟨by decide +kernel, rfl⟩
theorem iX8_feast_70 : In cX8_feast 70 (.isub) 1 71 := ⟨by decide +kernel, rfl⟩
theorem iX8_feast_71 : In cX8_feast 71 (.invokevirtual 89) 3 74 := ⟨by decide +kernel, rfl⟩
theorem iX8_feast_74 : Jn cX8_feast 74 (.ifCond .eq 15) (15) 77 89 := ⟨by decide +kernel, rfl, by decide⟩
theorem iX8_feast_77 : In cX8_feast 77 (.aload_n 0) 1 78 := ⟨by decide +kernel, rfl⟩
theorem iX8_feast_78 : In cX8_feast 78 (.getfield 12) 3 81 := ⟨by decide +kernel, rfl⟩
theorem iX8_feast_81 : In cX8_feast 81 (.iload_n 1) 1 82 := ⟨by decide +kernel, rfl⟩
theorem iX8_feast_82 : In cX8_feast 82 (.bipush 36) 2 84 := ⟨by decide +kernel, rfl⟩
theorem iX8_feast_84 : In cX8_feast 84 (.isub) 1 85 := ⟨by decide +kernel, rfl⟩
theorem iX8_feast_85 : In cX8_feast 85 (.iconst 2) 1 86 := ⟨by decide +kernel, rfl⟩
theorem iX8_feast_86 : In cX8_feast 86 (.invokevirtual 73) 3 89 := ⟨by decide +kernel, rfl⟩
theorem iX8_feast_89 : In cX8_feast 89 (.return_) 1 90 := ⟨by decide +kernel, rfl⟩
theorem iX8_goodsOf_0 : In cX8_goodsOf 0 (.iconst 0) 1 1 := ⟨by decide +kernel, rfl⟩
theorem iX8_goodsOf_1 : In cX8_goodsOf 1 (.istore_n 2) 1 2 := ⟨by decide +kernel, rfl⟩
theorem iX8_goodsOf_2 : In cX8_goodsOf 2 (.iconst 0) 1 3 := ⟨by decide +kernel, rfl⟩
theorem iX8_goodsOf_3 : In cX8_goodsOf 3 (.istore_n 3) 1 4 := ⟨by decide +kernel, rfl⟩
theorem iX8_goodsOf_4 : In cX8_goodsOf 4 (.iload_n 3) 1 5 := ⟨by decide +kernel, rfl⟩
theorem iX8_goodsOf_5 : In cX8_goodsOf 5 (.aload_n 0) 1 6 := ⟨by decide +kernel, rfl⟩
theorem iX8_goodsOf_6 : In cX8_goodsOf 6 (.getfield 23) 3 9 := ⟨by decide +kernel, rfl⟩
theorem iX8_goodsOf_9 : In cX8_goodsOf 9 (.getfield 103) 3 12 := ⟨by decide +kernel, rfl⟩
theorem iX8_goodsOf_12 : Jn cX8_goodsOf 12 (.if_icmp .ge 28) (28) 15 40 := ⟨by decide +kernel, rfl, by decide⟩
theorem iX8_goodsOf_15 : In cX8_goodsOf 15 (.aload_n 0) 1 16 := ⟨by decide +kernel, rfl⟩
theorem iX8_goodsOf_16 : In cX8_goodsOf 16 (.getfield 12) 3 19 := ⟨by decide +kernel, rfl⟩
theorem iX8_goodsOf_19 : In cX8_goodsOf 19 (.getfield 47) 3 22 := ⟨by decide +kernel, rfl⟩
theorem iX8_goodsOf_22 : In cX8_goodsOf 22 (.iload_n 3) 1 23 := ⟨by decide +kernel, rfl⟩
theorem iX8_goodsOf_23 : In cX8_goodsOf 23 (.iaload) 1 24 := ⟨by decide +kernel, rfl⟩
theorem iX8_goodsOf_24 : In cX8_goodsOf 24 (.iload_n 1) 1 25 := ⟨by decide +kernel, rfl⟩
theorem iX8_goodsOf_25 : Jn cX8_goodsOf 25 (.if_icmp .ne 9) (9) 28 34 := ⟨by decide +kernel, rfl, by decide⟩
theorem iX8_goodsOf_28 : In cX8_goodsOf 28 (.iload_n 2) 1 29 := ⟨by decide +kernel, rfl⟩
theorem iX8_goodsOf_29 : In cX8_goodsOf 29 (.iconst 1) 1 30 := ⟨by decide +kernel, rfl⟩
theorem iX8_goodsOf_30 : In cX8_goodsOf 30 (.iload_n 3) 1 31 := ⟨by decide +kernel, rfl⟩
theorem iX8_goodsOf_31 : In cX8_goodsOf 31 (.ishl) 1 32 := ⟨by decide +kernel, rfl⟩
theorem iX8_goodsOf_32 : In cX8_goodsOf 32 (.ior) 1 33 := ⟨by decide +kernel, rfl⟩
theorem iX8_goodsOf_33 : In cX8_goodsOf 33 (.istore_n 2) 1 34 := ⟨by decide +kernel, rfl⟩
theorem iX8_goodsOf_34 : In cX8_goodsOf 34 (.iinc 3 1) 3 37 := ⟨by decide +kernel, rfl⟩
theorem iX8_goodsOf_37 : Jn cX8_goodsOf 37 (.goto (-33)) (-33) 40 4 := ⟨by decide +kernel, rfl, by decide⟩
theorem iX8_goodsOf_40 : In cX8_goodsOf 40 (.iload_n 2) 1 41 := ⟨by decide +kernel, rfl⟩
theorem iX8_goodsOf_41 : In cX8_goodsOf 41 (.ireturn) 1 42 := ⟨by decide +kernel, rfl⟩
theorem iX8_goodsAbroad_0 : In cX8_goodsAbroad 0 (.iconst 0) 1 1 := ⟨by decide +kernel, rfl⟩
theorem iX8_goodsAbroad_1 : In cX8_goodsAbroad 1 (.istore_n 1) 1 2 := ⟨by decide +kernel, rfl⟩
theorem iX8_goodsAbroad_2 : In cX8_goodsAbroad 2 (.iconst 0) 1 3 := ⟨by decide +kernel, rfl⟩
theorem iX8_goodsAbroad_3 : In cX8_goodsAbroad 3 (.istore_n 2) 1 4 := ⟨by decide +kernel, rfl⟩
theorem iX8_goodsAbroad_4 : In cX8_goodsAbroad 4 (.iload_n 2) 1 5 := ⟨by decide +kernel, rfl⟩
theorem iX8_goodsAbroad_5 : In cX8_goodsAbroad 5 (.aload_n 0) 1 6 := ⟨by decide +kernel, rfl⟩
theorem iX8_goodsAbroad_6 : In cX8_goodsAbroad 6 (.getfield 23) 3 9 := ⟨by decide +kernel, rfl⟩
theorem iX8_goodsAbroad_9 : In cX8_goodsAbroad 9 (.getfield 103) 3 12 := ⟨by decide +kernel, rfl⟩
theorem iX8_goodsAbroad_12 : Jn cX8_goodsAbroad 12 (.if_icmp .ge 36) (36) 15 48 := ⟨by decide +kernel, rfl, by decide⟩
theorem iX8_goodsAbroad_15 : In cX8_goodsAbroad 15 (.aload_n 0) 1 16 := ⟨by decide +kernel, rfl⟩
theorem iX8_goodsAbroad_16 : In cX8_goodsAbroad 16 (.getfield 12) 3 19 := ⟨by decide +kernel, rfl⟩
theorem iX8_goodsAbroad_19 : In cX8_goodsAbroad 19 (.getfield 47) 3 22 := ⟨by decide +kernel, rfl⟩
theorem iX8_goodsAbroad_22 : In cX8_goodsAbroad 22 (.iload_n 2) 1 23 := ⟨by decide +kernel, rfl⟩
theorem iX8_goodsAbroad_23 : In cX8_goodsAbroad 23 (.iaload) 1 24 := ⟨by decide +kernel, rfl⟩
theorem iX8_goodsAbroad_24 : In cX8_goodsAbroad 24 (.aload_n 0) 1 25 := ⟨by decide +kernel, rfl⟩
theorem iX8_goodsAbroad_25 : In cX8_goodsAbroad 25 (.getfield 23) 3 28 := ⟨by decide +kernel, rfl⟩
theorem iX8_goodsAbroad_28 : In cX8_goodsAbroad 28 (.getfield 106) 3 31 := ⟨by decide +kernel, rfl⟩
theorem iX8_goodsAbroad_31 : In cX8_goodsAbroad 31 (.iload_n 2) 1 32 := ⟨by decide +kernel, rfl⟩
theorem iX8_goodsAbroad_32 : In cX8_goodsAbroad 32 (.iaload) 1 33 := ⟨by decide +kernel, rfl⟩
theorem iX8_goodsAbroad_33 : Jn cX8_goodsAbroad 33 (.if_icmp .eq 9) (9) 36 42 := ⟨by decide +kernel, rfl, by decide⟩
theorem iX8_goodsAbroad_36 : In cX8_goodsAbroad 36 (.iload_n 1) 1 37 := ⟨by decide +kernel, rfl⟩
theorem iX8_goodsAbroad_37 : In cX8_goodsAbroad 37 (.iconst 1) 1 38 := ⟨by decide +kernel, rfl⟩
theorem iX8_goodsAbroad_38 : In cX8_goodsAbroad 38 (.iload_n 2) 1 39 := ⟨by decide +kernel, rfl⟩
theorem iX8_goodsAbroad_39 : In cX8_goodsAbroad 39 (.ishl) 1 40 := ⟨by decide +kernel, rfl⟩
theorem iX8_goodsAbroad_40 : In cX8_goodsAbroad 40 (.ior) 1 41 := ⟨by decide +kernel, rfl⟩
theorem iX8_goodsAbroad_41 : In cX8_goodsAbroad 41 (.istore_n 1) 1 42 := ⟨by decide +kernel, rfl⟩
theorem iX8_goodsAbroad_42 : In cX8_goodsAbroad 42 (.iinc 2 1) 3 45 := ⟨by decide +kernel, rfl⟩
theorem iX8_goodsAbroad_45 : Jn cX8_goodsAbroad 45 (.goto (-41)) (-41) 48 4 := ⟨by decide +kernel, rfl, by decide⟩
theorem iX8_goodsAbroad_48 : In cX8_goodsAbroad 48 (.iload_n 1) 1 49 := ⟨by decide +kernel, rfl⟩
theorem iX8_goodsAbroad_49 : In cX8_goodsAbroad 49 (.ireturn) 1 50 := ⟨by decide +kernel, rfl⟩
theorem iX8_compareAll_0 : In cX8_compareAll 0 (.iconst 0) 1 1 := ⟨by decide +kernel, rfl⟩
theorem iX8_compareAll_1 : In cX8_compareAll 1 (.istore_n 1) 1 2 := ⟨by decide +kernel, rfl⟩
theorem iX8_compareAll_2 : In cX8_compareAll 2 (.iload_n 1) 1 3 := ⟨by decide +kernel, rfl⟩
theorem iX8_compareAll_3 : In cX8_compareAll 3 (.aload_n 0) 1 4 := ⟨by decide +kernel, rfl⟩
theorem iX8_compareAll_4 : In cX8_compareAll 4 (.getfield 23) 3 7 := ⟨by decide +kernel, rfl⟩
theorem iX8_compareAll_7 : In cX8_compareAll 7 (.getfield 109) 3 10 := ⟨by decide +kernel, rfl⟩
theorem iX8_compareAll_10 : Jn cX8_compareAll 10 (.if_icmp .ge 76) (76) 13 86 := ⟨by decide +kernel, rfl, by decide⟩
theorem iX8_compareAll_13 : In cX8_compareAll 13 (.aload_n 0) 1 14 := ⟨by decide +kernel, rfl⟩
theorem iX8_compareAll_14 : In cX8_compareAll 14 (.getfield 20) 3 17 := ⟨by decide +kernel, rfl⟩
theorem iX8_compareAll_17 : In cX8_compareAll 17 (.iload_n 1) 1 18 := ⟨by decide +kernel, rfl⟩
theorem iX8_compareAll_18 : In cX8_compareAll 18 (.aaload) 1 19 := ⟨by decide +kernel, rfl⟩
theorem iX8_compareAll_19 : In cX8_compareAll 19 (.iload_n 1) 1 20 := ⟨by decide +kernel, rfl⟩
theorem iX8_compareAll_20 : In cX8_compareAll 20 (.iconst 0) 1 21 := ⟨by decide +kernel, rfl⟩
theorem iX8_compareAll_21 : In cX8_compareAll 21 (.iastore) 1 22 := ⟨by decide +kernel, rfl⟩
theorem iX8_compareAll_22 : In cX8_compareAll 22 (.iload_n 1) 1 23 := ⟨by decide +kernel, rfl⟩
theorem iX8_compareAll_23 : In cX8_compareAll 23 (.iconst 1) 1 24 := ⟨by decide +kernel, rfl⟩
theorem iX8_compareAll_24 : In cX8_compareAll 24 (.iadd) 1 25 := ⟨by decide +kernel, rfl⟩
theorem iX8_compareAll_25 : In cX8_compareAll 25 (.istore_n 2) 1 26 := ⟨by decide +kernel, rfl⟩
theorem iX8_compareAll_26 : In cX8_compareAll 26 (.iload_n 2) 1 27 := ⟨by decide +kernel, rfl⟩
theorem iX8_compareAll_27 : In cX8_compareAll 27 (.aload_n 0) 1 28 := ⟨by decide +kernel, rfl⟩
theorem iX8_compareAll_28 : In cX8_compareAll 28 (.getfield 23) 3 31 := ⟨by decide +kernel, rfl⟩
theorem iX8_compareAll_31 : In cX8_compareAll 31 (.getfield 109) 3 34 := ⟨by decide +kernel, rfl⟩
theorem iX8_compareAll_34 : Jn cX8_compareAll 34 (.if_icmp .ge 46) (46) 37 80 := ⟨by decide +kernel, rfl, by decide⟩
theorem iX8_compareAll_37 : In cX8_compareAll 37 (.aload_n 0) 1 38 := ⟨by decide +kernel, rfl⟩
theorem iX8_compareAll_38 : In cX8_compareAll 38 (.iload_n 1) 1 39 := ⟨by decide +kernel, rfl⟩
theorem iX8_compareAll_39 : In cX8_compareAll 39 (.iload_n 2) 1 40 := ⟨by decide +kernel, rfl⟩
theorem iX8_compareAll_40 : In cX8_compareAll 40 (.invokevirtual 50) 3 43 := ⟨by decide +kernel, rfl⟩
theorem iX8_compareAll_43 : In cX8_compareAll 43 (.aload_n 0) 1 44 := ⟨by decide +kernel, rfl⟩
theorem iX8_compareAll_44 : In cX8_compareAll 44 (.getfield 20) 3 47 := ⟨by decide +kernel, rfl⟩
theorem iX8_compareAll_47 : In cX8_compareAll 47 (.iload_n 1) 1 48 := ⟨by decide +kernel, rfl⟩
theorem iX8_compareAll_48 : In cX8_compareAll 48 (.aaload) 1 49 := ⟨by decide +kernel, rfl⟩
theorem iX8_compareAll_49 : In cX8_compareAll 49 (.iload_n 2) 1 50 := ⟨by decide +kernel, rfl⟩
theorem iX8_compareAll_50 : In cX8_compareAll 50 (.aload_n 0) 1 51 := ⟨by decide +kernel, rfl⟩
theorem iX8_compareAll_51 : In cX8_compareAll 51 (.getfield 27) 3 54 := ⟨by decide +kernel, rfl⟩
theorem iX8_compareAll_54 : In cX8_compareAll 54 (.invokevirtual 57) 3 57 := ⟨by decide +kernel, rfl⟩
theorem iX8_compareAll_57 : In cX8_compareAll 57 (.iastore) 1 58 := ⟨by decide +kernel, rfl⟩
theorem iX8_compareAll_58 : In cX8_compareAll 58 (.aload_n 0) 1 59 := ⟨by decide +kernel, rfl⟩
theorem iX8_compareAll_59 : In cX8_compareAll 59 (.getfield 20) 3 62 := ⟨by decide +kernel, rfl⟩
theorem iX8_compareAll_62 : In cX8_compareAll 62 (.iload_n 2) 1 63 := ⟨by decide +kernel, rfl⟩
theorem iX8_compareAll_63 : In cX8_compareAll 63 (.aaload) 1 64 := ⟨by decide +kernel, rfl⟩
theorem iX8_compareAll_64 : In cX8_compareAll 64 (.iload_n 1) 1 65 := ⟨by decide +kernel, rfl⟩
theorem iX8_compareAll_65 : In cX8_compareAll 65 (.aload_n 0) 1 66 := ⟨by decide +kernel, rfl⟩
theorem iX8_compareAll_66 : In cX8_compareAll 66 (.getfield 27) 3 69 := ⟨by decide +kernel, rfl⟩
theorem iX8_compareAll_69 : In cX8_compareAll 69 (.invokevirtual 57) 3 72 := ⟨by decide +kernel, rfl⟩
theorem iX8_compareAll_72 : In cX8_compareAll 72 (.ineg) 1 73 := ⟨by decide +kernel, rfl⟩
theorem iX8_compareAll_73 : In cX8_compareAll 73 (.iastore) 1 74 := ⟨by decide +kernel, rfl⟩
theorem iX8_compareAll_74 : In cX8_compareAll 74 (.iinc 2 1) 3 77 := ⟨by decide +kernel, rfl⟩
theorem iX8_compareAll_77 : Jn cX8_compareAll 77 (.goto (-51)) (-51) 80 26 := ⟨by decide +kernel, rfl, by decide⟩
theorem iX8_compareAll_80 : In cX8_compareAll 80 (.iinc 1 1) 3 83 := ⟨by decide +kernel, rfl⟩
theorem iX8_compareAll_83 : Jn cX8_compareAll 83 (.goto (-81)) (-81) 86 2 := ⟨by decide +kernel, rfl, by decide⟩
theorem iX8_compareAll_86 : In cX8_compareAll 86 (.return_) 1 87 := ⟨by decide +kernel, rfl⟩
theorem iX8_beatenBy_0 : In cX8_beatenBy 0 (.iconst 0) 1 1 := ⟨by decide +kernel, rfl⟩
theorem iX8_beatenBy_1 : In cX8_beatenBy 1 (.istore_n 2) 1 2 := ⟨by decide +kernel, rfl⟩
theorem iX8_beatenBy_2 : In cX8_beatenBy 2 (.iconst 0) 1 3 := ⟨by decide +kernel, rfl⟩
theorem iX8_beatenBy_3 : In cX8_beatenBy 3 (.istore_n 3) 1 4 := ⟨by decide +kernel, rfl⟩
theorem iX8_beatenBy_4 : In cX8_beatenBy 4 (.iload_n 3) 1 5 := ⟨by decide +kernel, rfl⟩
theorem iX8_beatenBy_5 : In cX8_beatenBy 5 (.aload_n 0) 1 6 := ⟨by decide +kernel, rfl⟩
theorem iX8_beatenBy_6 : In cX8_beatenBy 6 (.getfield 23) 3 9 := ⟨by decide +kernel, rfl⟩
theorem iX8_beatenBy_9 : In cX8_beatenBy 9 (.getfield 109) 3 12 := ⟨by decide +kernel, rfl⟩
theorem iX8_beatenBy_12 : Jn cX8_beatenBy 12 (.if_icmp .ge 26) (26) 15 38 := ⟨by decide +kernel, rfl, by decide⟩
theorem iX8_beatenBy_15 : In cX8_beatenBy 15 (.aload_n 0) 1 16 := ⟨by decide +kernel, rfl⟩
theorem iX8_beatenBy_16 : In cX8_beatenBy 16 (.getfield 20) 3 19 := ⟨by decide +kernel, rfl⟩
theorem iX8_beatenBy_19 : In cX8_beatenBy 19 (.iload_n 1) 1 20 := ⟨by decide +kernel, rfl⟩
theorem iX8_beatenBy_20 : In cX8_beatenBy 20 (.aaload) 1 21 := ⟨by decide +kernel, rfl⟩
theorem iX8_beatenBy_21 : In cX8_beatenBy 21 (.iload_n 3) 1 22 := ⟨by decide +kernel, rfl⟩
theorem iX8_beatenBy_22 : In cX8_beatenBy 22 (.iaload) 1 23 := ⟨by decide +kernel, rfl⟩
theorem iX8_beatenBy_23 : Jn cX8_beatenBy 23 (.ifCond .le 9) (9) 26 32 := ⟨by decide +kernel, rfl, by decide⟩
theorem iX8_beatenBy_26 : In cX8_beatenBy 26 (.iload_n 2) 1 27 := ⟨by decide +kernel, rfl⟩
theorem iX8_beatenBy_27 : In cX8_beatenBy 27 (.iconst 1) 1 28 := ⟨by decide +kernel, rfl⟩
theorem iX8_beatenBy_28 : In cX8_beatenBy 28 (.iload_n 3) 1 29 := ⟨by decide +kernel, rfl⟩
theorem iX8_beatenBy_29 : In cX8_beatenBy 29 (.ishl) 1 30 := ⟨by decide +kernel, rfl⟩
theorem iX8_beatenBy_30 : In cX8_beatenBy 30 (.ior) 1 31 := ⟨by decide +kernel, rfl⟩
theorem iX8_beatenBy_31 : In cX8_beatenBy 31 (.istore_n 2) 1 32 := ⟨by decide +kernel, rfl⟩
theorem iX8_beatenBy_32 : In cX8_beatenBy 32 (.iinc 3 1) 3 35 := ⟨by decide +kernel, rfl⟩
theorem iX8_beatenBy_35 : Jn cX8_beatenBy 35 (.goto (-31)) (-31) 38 4 := ⟨by decide +kernel, rfl, by decide⟩
theorem iX8_beatenBy_38 : In cX8_beatenBy 38 (.iload_n 2) 1 39 := ⟨by decide +kernel, rfl⟩
theorem iX8_beatenBy_39 : In cX8_beatenBy 39 (.ireturn) 1 40 := ⟨by decide +kernel, rfl⟩
theorem iX8_thoseWhoBeat_0 : In cX8_thoseWhoBeat 0 (.iconst 0) 1 1 := ⟨by decide +kernel, rfl⟩
theorem iX8_thoseWhoBeat_1 : In cX8_thoseWhoBeat 1 (.istore_n 2) 1 2 := ⟨by decide +kernel, rfl⟩
theorem iX8_thoseWhoBeat_2 : In cX8_thoseWhoBeat 2 (.iconst 0) 1 3 := ⟨by decide +kernel, rfl⟩
theorem iX8_thoseWhoBeat_3 : In cX8_thoseWhoBeat 3 (.istore_n 3) 1 4 := ⟨by decide +kernel, rfl⟩
theorem iX8_thoseWhoBeat_4 : In cX8_thoseWhoBeat 4 (.iload_n 3) 1 5 := ⟨by decide +kernel, rfl⟩
theorem iX8_thoseWhoBeat_5 : In cX8_thoseWhoBeat 5 (.aload_n 0) 1 6 := ⟨by decide +kernel, rfl⟩
theorem iX8_thoseWhoBeat_6 : In cX8_thoseWhoBeat 6 (.getfield 23) 3 9 := ⟨by decide +kernel, rfl⟩
theorem iX8_thoseWhoBeat_9 : In cX8_thoseWhoBeat 9 (.getfield 109) 3 12 := ⟨by decide +kernel, rfl⟩
theorem iX8_thoseWhoBeat_12 : Jn cX8_thoseWhoBeat 12 (.if_icmp .ge 26) (26) 15 38 := ⟨by decide +kernel, rfl, by decide⟩
theorem iX8_thoseWhoBeat_15 : In cX8_thoseWhoBeat 15 (.aload_n 0) 1 16 := ⟨by decide +kernel, rfl⟩
theorem iX8_thoseWhoBeat_16 : In cX8_thoseWhoBeat 16 (.getfield 20) 3 19 := ⟨by decide +kernel, rfl⟩
theorem iX8_thoseWhoBeat_19 : In cX8_thoseWhoBeat 19 (.iload_n 3) 1 20 := ⟨by decide +kernel, rfl⟩
theorem iX8_thoseWhoBeat_20 : In cX8_thoseWhoBeat 20 (.aaload) 1 21 := ⟨by decide +kernel, rfl⟩
theorem iX8_thoseWhoBeat_21 : In cX8_thoseWhoBeat 21 (.iload_n 1) 1 22 := ⟨by decide +kernel, rfl⟩
theorem iX8_thoseWhoBeat_22 : In cX8_thoseWhoBeat 22 (.iaload) 1 23 := ⟨by decide +kernel, rfl⟩
theorem iX8_thoseWhoBeat_23 : Jn cX8_thoseWhoBeat 23 (.ifCond .le 9) (9) 26 32 := ⟨by decide +kernel, rfl, by decide⟩
theorem iX8_thoseWhoBeat_26 : In cX8_thoseWhoBeat 26 (.iload_n 2) 1 27 := ⟨by decide +kernel, rfl⟩
theorem iX8_thoseWhoBeat_27 : In cX8_thoseWhoBeat 27 (.iconst 1) 1 28 := ⟨by decide +kernel, rfl⟩
theorem iX8_thoseWhoBeat_28 : In cX8_thoseWhoBeat 28 (.iload_n 3) 1 29 := ⟨by decide +kernel, rfl⟩
theorem iX8_thoseWhoBeat_29 : In cX8_thoseWhoBeat 29 (.ishl) 1 30 := ⟨by decide +kernel, rfl⟩
theorem iX8_thoseWhoBeat_30 : In cX8_thoseWhoBeat 30 (.ior) 1 31 := ⟨by decide +kernel, rfl⟩
theorem iX8_thoseWhoBeat_31 : In cX8_thoseWhoBeat 31 (.istore_n 2) 1 32 := ⟨by decide +kernel, rfl⟩
theorem iX8_thoseWhoBeat_32 : In cX8_thoseWhoBeat 32 (.iinc 3 1) 3 35 := ⟨by decide +kernel, rfl⟩
theorem iX8_thoseWhoBeat_35 : Jn cX8_thoseWhoBeat 35 (.goto (-31)) (-31) 38 4 := ⟨by decide +kernel, rfl, by decide⟩
theorem iX8_thoseWhoBeat_38 : In cX8_thoseWhoBeat 38 (.iload_n 2) 1 39 := ⟨by decide +kernel, rfl⟩
theorem iX8_thoseWhoBeat_39 : In cX8_thoseWhoBeat 39 (.ireturn) 1 40 := ⟨by decide +kernel, rfl⟩
theorem iX8_beatenByAnybody_0 : In cX8_beatenByAnybody 0 (.iconst 0) 1 1 := ⟨by decide +kernel, rfl⟩
theorem iX8_beatenByAnybody_1 : In cX8_beatenByAnybody 1 (.istore_n 1) 1 2 := ⟨by decide +kernel, rfl⟩
theorem iX8_beatenByAnybody_2 : In cX8_beatenByAnybody 2 (.iconst 0) 1 3 := ⟨by decide +kernel, rfl⟩
theorem iX8_beatenByAnybody_3 : In cX8_beatenByAnybody 3 (.istore_n 2) 1 4 := ⟨by decide +kernel, rfl⟩
theorem iX8_beatenByAnybody_4 : In cX8_beatenByAnybody 4 (.iload_n 2) 1 5 := ⟨by decide +kernel, rfl⟩
theorem iX8_beatenByAnybody_5 : In cX8_beatenByAnybody 5 (.aload_n 0) 1 6 := ⟨by decide +kernel, rfl⟩
theorem iX8_beatenByAnybody_6 : In cX8_beatenByAnybody 6 (.getfield 23) 3 9 := ⟨by decide +kernel, rfl⟩
theorem iX8_beatenByAnybody_9 : In cX8_beatenByAnybody 9 (.getfield 109) 3 12 := ⟨by decide +kernel, rfl⟩
theorem iX8_beatenByAnybody_12 : Jn cX8_beatenByAnybody 12 (.if_icmp .ge 17) (17) 15 29 := ⟨by decide +kernel, rfl, by decide⟩
theorem iX8_beatenByAnybody_15 : In cX8_beatenByAnybody 15 (.iload_n 1) 1 16 := ⟨by decide +kernel, rfl⟩
theorem iX8_beatenByAnybody_16 : In cX8_beatenByAnybody 16 (.aload_n 0) 1 17 := ⟨by decide +kernel, rfl⟩
theorem iX8_beatenByAnybody_17 : In cX8_beatenByAnybody 17 (.iload_n 2) 1 18 := ⟨by decide +kernel, rfl⟩
theorem iX8_beatenByAnybody_18 : In cX8_beatenByAnybody 18 (.invokevirtual 112) 3 21 := ⟨by decide +kernel, rfl⟩
theorem iX8_beatenByAnybody_21 : In cX8_beatenByAnybody 21 (.ior) 1 22 := ⟨by decide +kernel, rfl⟩
theorem iX8_beatenByAnybody_22 : In cX8_beatenByAnybody 22 (.istore_n 1) 1 23 := ⟨by decide +kernel, rfl⟩
theorem iX8_beatenByAnybody_23 : In cX8_beatenByAnybody 23 (.iinc 2 1) 3 26 := ⟨by decide +kernel, rfl⟩
theorem iX8_beatenByAnybody_26 : Jn cX8_beatenByAnybody 26 (.goto (-22)) (-22) 29 4 := ⟨by decide +kernel, rfl, by decide⟩
theorem iX8_beatenByAnybody_29 : In cX8_beatenByAnybody 29 (.iload_n 1) 1 30 := ⟨by decide +kernel, rfl⟩
theorem iX8_beatenByAnybody_30 : In cX8_beatenByAnybody 30 (.ireturn) 1 31 := ⟨by decide +kernel, rfl⟩
theorem iX9_init_0 : In cX9_init 0 (.aload_n 0) 1 1 := ⟨by decide +kernel, rfl⟩
theorem iX9_init_1 : In cX9_init 1 (.invokespecial 3) 3 4 := ⟨by decide +kernel, rfl⟩
theorem iX9_init_4 : In cX9_init 4 (.aload_n 0) 1 5 := ⟨by decide +kernel, rfl⟩
theorem iX9_init_5 : In cX9_init 5 (.new 9) 3 8 := ⟨by decide +kernel, rfl⟩
theorem iX9_init_8 : In cX9_init 8 (.dup) 1 9 := ⟨by decide +kernel, rfl⟩
theorem iX9_init_9 : In cX9_init 9 (.invokespecial 11) 3 12 := ⟨by decide +kernel, rfl⟩
theorem iX9_init_12 : In cX9_init 12 (.putfield 12) 3 15 := ⟨by decide +kernel, rfl⟩
theorem iX9_init_15 : In cX9_init 15 (.aload_n 0) 1 16 := ⟨by decide +kernel, rfl⟩
theorem iX9_init_16 : In cX9_init 16 (.bipush 6) 2 18 := ⟨by decide +kernel, rfl⟩
theorem iX9_init_18 : In cX9_init 18 (.newarray .int) 2 20 := ⟨by decide +kernel, rfl⟩
theorem iX9_init_20 : In cX9_init 20 (.putfield 18) 3 23 := ⟨by decide +kernel, rfl⟩
theorem iX9_init_23 : In cX9_init 23 (.aload_n 0) 1 24 := ⟨by decide +kernel, rfl⟩
theorem iX9_init_24 : In cX9_init 24 (.bipush 6) 2 26 := ⟨by decide +kernel, rfl⟩
theorem iX9_init_26 : In cX9_init 26 (.newarray .int) 2 28 := ⟨by decide +kernel, rfl⟩
theorem iX9_init_28 : In cX9_init 28 (.putfield 22) 3 31 := ⟨by decide +kernel, rfl⟩
theorem iX9_init_31 : In cX9_init 31 (.aload_n 0) 1 32 := ⟨by decide +kernel, rfl⟩
theorem iX9_init_32 : In cX9_init 32 (.aload_n 1) 1 33 := ⟨by decide +kernel, rfl⟩
theorem iX9_init_33 : In cX9_init 33 (.putfield 25) 3 36 := ⟨by decide +kernel, rfl⟩
theorem iX9_init_36 : In cX9_init 36 (.aload_n 0) 1 37 := ⟨by decide +kernel, rfl⟩
theorem iX9_init_37 : In cX9_init 37 (.getfield 12) 3 40 := ⟨by decide +kernel, rfl⟩
theorem iX9_init_40 : In cX9_init 40 (.iconst 0) 1 41 := ⟨by decide +kernel, rfl⟩
theorem iX9_init_41 : In cX9_init 41 (.putfield 29) 3 44 := ⟨by decide +kernel, rfl⟩
theorem iX9_init_44 : In cX9_init 44 (.return_) 1 45 := ⟨by decide +kernel, rfl⟩
theorem iX9_add_0 : In cX9_add 0 (.aload_n 0) 1 1 := ⟨by decide +kernel, rfl⟩
theorem iX9_add_1 : In cX9_add 1 (.getfield 33) 3 4 := ⟨by decide +kernel, rfl⟩
theorem iX9_add_4 : In cX9_add 4 (.bipush 6) 2 6 := ⟨by decide +kernel, rfl⟩
theorem iX9_add_6 : Jn cX9_add 6 (.if_icmp .ge 33) (33) 9 39 := ⟨by decide +kernel, rfl, by decide⟩
theorem iX9_add_9 : In cX9_add 9 (.aload_n 0) 1 10 := ⟨by decide +kernel, rfl⟩
theorem iX9_add_10 : In cX9_add 10 (.getfield 18) 3 13 := ⟨by decide +kernel, rfl⟩
theorem iX9_add_13 : In cX9_add 13 (.aload_n 0) 1 14 := ⟨by decide +kernel, rfl⟩
theorem iX9_add_14 : In cX9_add 14 (.getfield 33) 3 17 := ⟨by decide +kernel, rfl⟩
theorem iX9_add_17 : In cX9_add 17 (.iload_n 1) 1 18 := ⟨by decide +kernel, rfl⟩
theorem iX9_add_18 : In cX9_add 18 (.iastore) 1 19 := ⟨by decide +kernel, rfl⟩
theorem iX9_add_19 : In cX9_add 19 (.aload_n 0) 1 20 := ⟨by decide +kernel, rfl⟩
theorem iX9_add_20 : In cX9_add 20 (.getfield 22) 3 23 := ⟨by decide +kernel, rfl⟩
theorem iX9_add_23 : In cX9_add 23 (.aload_n 0) 1 24 := ⟨by decide +kernel, rfl⟩
theorem iX9_add_24 : In cX9_add 24 (.getfield 33) 3 27 := ⟨by decide +kernel, rfl⟩
theorem iX9_add_27 : In cX9_add 27 (.iload_n 2) 1 28 := ⟨by decide +kernel, rfl⟩
theorem iX9_add_28 : In cX9_add 28 (.iastore) 1 29 := ⟨by decide +kernel, rfl⟩
theorem iX9_add_29 : In cX9_add 29 (.aload_n 0) 1 30 := ⟨by decide +kernel, rfl⟩
theorem iX9_add_30 : In cX9_add 30 (.dup) 1 31 := ⟨by decide +kernel, rfl⟩
theorem iX9_add_31 : In cX9_add 31 (.getfield 33) 3 34 := ⟨by decide +kernel, rfl⟩
theorem iX9_add_34 : In cX9_add 34 (.iconst 1) 1 35 := ⟨by decide +kernel, rfl⟩
theorem iX9_add_35 : In cX9_add 35 (.iadd) 1 36 := ⟨by decide +kernel, rfl⟩
theorem iX9_add_36 : In cX9_add 36 (.putfield 33) 3 39 := ⟨by decide +kernel, rfl⟩
theorem iX9_add_39 : In cX9_add 39 (.return_) 1 40 := ⟨by decide +kernel, rfl⟩
theorem iX9_findMasks_0 : In cX9_findMasks 0 (.aload_n 0) 1 1 := ⟨by decide +kernel, rfl⟩
theorem iX9_findMasks_1 : In cX9_findMasks 1 (.iconst 0) 1 2 := ⟨by decide +kernel, rfl⟩
theorem iX9_findMasks_2 : In cX9_findMasks 2 (.putfield 36) 3 5 := ⟨by decide +kernel, rfl⟩
theorem iX9_findMasks_5 : In cX9_findMasks 5 (.aload_n 0) 1 6 := ⟨by decide +kernel, rfl⟩
theorem iX9_findMasks_6 : In cX9_findMasks 6 (.bipush (-9)) 2 8 := ⟨by decide +kernel, rfl⟩
theorem iX9_findMasks_8 : In cX9_findMasks 8 (.putfield 39) 3 11 := ⟨by decide +kernel, rfl⟩
theorem iX9_findMasks_11 : In cX9_findMasks 11 (.iconst 0) 1 12 := ⟨by decide +kernel, rfl⟩
theorem iX9_findMasks_12 : In cX9_findMasks 12 (.istore_n 1) 1 13 := ⟨by decide +kernel, rfl⟩
theorem iX9_findMasks_13 : In cX9_findMasks 13 (.iload_n 1) 1 14 := ⟨by decide +kernel, rfl⟩
theorem iX9_findMasks_14 : In cX9_findMasks 14 (.bipush 64) 2 16 := ⟨by decide +kernel, rfl⟩
theorem iX9_findMasks_16 : Jn cX9_findMasks 16 (.if_icmp .ge 96) (96) 19 112 := ⟨by decide +kernel, rfl, by decide⟩
theorem iX9_findMasks_19 : In cX9_findMasks 19 (.aload_n 0) 1 20 := ⟨by decide +kernel, rfl⟩
theorem iX9_findMasks_20 : In cX9_findMasks 20 (.getfield 12) 3 23 := ⟨by decide +kernel, rfl⟩
theorem iX9_findMasks_23 : In cX9_findMasks 23 (.getfield 42) 3 26 := ⟨by decide +kernel, rfl⟩
theorem iX9_findMasks_26 : In cX9_findMasks 26 (.iconst 0) 1 27 := ⟨by decide +kernel, rfl⟩
theorem iX9_findMasks_27 : In cX9_findMasks 27 (.iload_n 1) 1 28 := ⟨by decide +kernel, rfl⟩
theorem iX9_findMasks_28 : In cX9_findMasks 28 (.bipush 16) 2 30 := ⟨by decide +kernel, rfl⟩
theorem iX9_findMasks_30 : In cX9_findMasks 30 (.idiv) 1 31 := ⟨by decide +kernel, rfl⟩
theorem iX9_findMasks_31 : In cX9_findMasks 31 (.iconst 1) 1 32 := ⟨by decide +kernel, rfl⟩
theorem iX9_findMasks_32 : In cX9_findMasks 32 (.iadd) 1 33 := ⟨by decide +kernel, rfl⟩
theorem iX9_findMasks_33 : In cX9_findMasks 33 (.iastore) 1 34 := ⟨by decide +kernel, rfl⟩
theorem iX9_findMasks_34 : In cX9_findMasks 34 (.aload_n 0) 1 35 := ⟨by decide +kernel, rfl⟩
theorem iX9_findMasks_35 : In cX9_findMasks 35 (.getfield 12) 3 38 := ⟨by decide +kernel, rfl⟩
theorem iX9_findMasks_38 : In cX9_findMasks 38 (.getfield 42) 3 41 := ⟨by decide +kernel, rfl⟩
theorem iX9_findMasks_41 : In cX9_findMasks 41 (.iconst 1) 1 42 := ⟨by decide +kernel, rfl⟩
theorem iX9_findMasks_42 : In cX9_findMasks 42 (.iload_n 1) 1 43 := ⟨by decide +kernel, rfl⟩
theorem iX9_findMasks_43 : In cX9_findMasks 43 (.iconst 4) 1 44 := ⟨by decide +kernel, rfl⟩
theorem iX9_findMasks_44 : In cX9_findMasks 44 (.idiv) 1 45 := ⟨by decide +kernel, rfl⟩
theorem iX9_findMasks_45 : In cX9_findMasks 45 (.iconst 4) 1 46 := ⟨by decide +kernel, rfl⟩
theorem iX9_findMasks_46 : In cX9_findMasks 46 (.irem) 1 47 := ⟨by decide +kernel, rfl⟩
theorem iX9_findMasks_47 : In cX9_findMasks 47 (.iconst 1) 1 48 := ⟨by decide +kernel, rfl⟩
theorem iX9_findMasks_48 : In cX9_findMasks 48 (.iadd) 1 49 := ⟨by decide +kernel, rfl⟩
theorem iX9_findMasks_49 : In cX9_findMasks 49 (.iastore) 1 50 := ⟨by decide +kernel, rfl⟩
theorem iX9_findMasks_50 : In cX9_findMasks 50 (.aload_n 0) 1 51 := ⟨by decide +kernel, rfl⟩
theorem iX9_findMasks_51 : In cX9_findMasks 51 (.getfield 12) 3 54 := ⟨by decide +kernel, rfl⟩
theorem iX9_findMasks_54 : In cX9_findMasks 54 (.getfield 42) 3 57 := ⟨by decide +kernel, rfl⟩
theorem iX9_findMasks_57 : In cX9_findMasks 57 (.iconst 2) 1 58 := ⟨by decide +kernel, rfl⟩
theorem iX9_findMasks_58 : In cX9_findMasks 58 (.iload_n 1) 1 59 := ⟨by decide +kernel, rfl⟩
theorem iX9_findMasks_59 : In cX9_findMasks 59 (.iconst 4) 1 60 := ⟨by decide +kernel, rfl⟩
theorem iX9_findMasks_60 : In cX9_findMasks 60 (.irem) 1 61 := ⟨by decide +kernel, rfl⟩
theorem iX9_findMasks_61 : In cX9_findMasks 61 (.iconst 1) 1 62 := ⟨by decide +kernel, rfl⟩
theorem iX9_findMasks_62 : In cX9_findMasks 62 (.iadd) 1 63 := ⟨by decide +kernel, rfl⟩
theorem iX9_findMasks_63 : In cX9_findMasks 63 (.iastore) 1 64 := ⟨by decide +kernel, rfl⟩
theorem iX9_findMasks_64 : In cX9_findMasks 64 (.aload_n 0) 1 65 := ⟨by decide +kernel, rfl⟩
theorem iX9_findMasks_65 : In cX9_findMasks 65 (.invokevirtual 45) 3 68 := ⟨by decide +kernel, rfl⟩
theorem iX9_findMasks_68 : Jn cX9_findMasks 68 (.ifCond .eq 38) (38) 71 106 := ⟨by decide +kernel, rfl, by decide⟩
theorem iX9_findMasks_71 : In cX9_findMasks 71 (.aload_n 0) 1 72 := ⟨by decide +kernel, rfl⟩
theorem iX9_findMasks_72 : In cX9_findMasks 72 (.aload_n 0) 1 73 := ⟨by decide +kernel, rfl⟩
theorem iX9_findMasks_73 : In cX9_findMasks 73 (.getfield 36) 3 76 := ⟨by decide +kernel, rfl⟩
theorem iX9_findMasks_76 : Jn cX9_findMasks 76 (.ifCond .ne 13) (13) 79 89 := ⟨by decide +kernel, rfl, by decide⟩
theorem iX9_findMasks_79 : In cX9_findMasks 79 (.aload_n 0) 1 80 := ⟨by decide +kernel, rfl⟩
theorem iX9_findMasks_80 : In cX9_findMasks 80 (.getfield 12) 3 83 := ⟨by decide +kernel, rfl⟩
theorem iX9_findMasks_83 : In cX9_findMasks 83 (.invokevirtual 49) 3 86 := ⟨by decide +kernel, rfl⟩
theorem iX9_findMasks_86 : Jn cX9_findMasks 86 (.goto 7) (7) 89 93 := ⟨by decide +kernel, rfl, by decide⟩
theorem iX9_findMasks_89 : In cX9_findMasks 89 (.aload_n 0) 1 90 := ⟨by decide +kernel, rfl⟩
theorem iX9_findMasks_90 : In cX9_findMasks 90 (.getfield 39) 3 93 := ⟨by decide +kernel, rfl⟩
theorem iX9_findMasks_93 : In cX9_findMasks 93 (.putfield 39) 3 96 := ⟨by decide +kernel, rfl⟩
theorem iX9_findMasks_96 : In cX9_findMasks 96 (.aload_n 0) 1 97 := ⟨by decide +kernel, rfl⟩
theorem iX9_findMasks_97 : In cX9_findMasks 97 (.dup) 1 98 := ⟨by decide +kernel, rfl⟩
theorem iX9_findMasks_98 : In cX9_findMasks 98 (.getfield 36) 3 101 := ⟨by decide +kernel, rfl⟩
theorem iX9_findMasks_101 : In cX9_findMasks 101 (.iconst 1) 1 102 := ⟨by decide +kernel, rfl⟩
theorem iX9_findMasks_102 : In cX9_findMasks 102 (.iadd) 1 103 := ⟨by decide +kernel, rfl⟩
theorem iX9_findMasks_103 : In cX9_findMasks 103 (.putfield 36) 3 106 := ⟨by decide +kernel, rfl⟩
theorem iX9_findMasks_106 : In cX9_findMasks 106 (.iinc 1 1) 3 109 := ⟨by decide +kernel, rfl⟩
theorem iX9_findMasks_109 : Jn cX9_findMasks 109 (.goto (-96)) (-96) 112 13 := ⟨by decide +kernel, rfl, by decide⟩
theorem iX9_findMasks_112 : In cX9_findMasks 112 (.return_) 1 113 := ⟨by decide +kernel, rfl⟩
theorem iX9_fitsAll_0 : In cX9_fitsAll 0 (.iconst 0) 1 1 := ⟨by decide +kernel, rfl⟩
theorem iX9_fitsAll_1 : In cX9_fitsAll 1 (.istore_n 1) 1 2 := ⟨by decide +kernel, rfl⟩
theorem iX9_fitsAll_2 : In cX9_fitsAll 2 (.iload_n 1) 1 3 := ⟨by decide +kernel, rfl⟩
theorem iX9_fitsAll_3 : In cX9_fitsAll 3 (.aload_n 0) 1 4 := ⟨by decide +kernel, rfl⟩
theorem iX9_fitsAll_4 : In cX9_fitsAll 4 (.getfield 33) 3 7 := ⟨by decide +kernel, rfl⟩
theorem iX9_fitsAll_7 : Jn cX9_fitsAll 7 (.if_icmp .ge 93) (93) 10 100 := ⟨by decide +kernel, rfl, by decide⟩
theorem iX9_fitsAll_10 : In cX9_fitsAll 10 (.aload_n 0) 1 11 := ⟨by decide +kernel, rfl⟩
theorem iX9_fitsAll_11 : In cX9_fitsAll 11 (.getfield 18) 3 14 := ⟨by decide +kernel, rfl⟩
theorem iX9_fitsAll_14 : In cX9_fitsAll 14 (.iload_n 1) 1 15 := ⟨by decide +kernel, rfl⟩
theorem iX9_fitsAll_15 : In cX9_fitsAll 15 (.iaload) 1 16 := ⟨by decide +kernel, rfl⟩
theorem iX9_fitsAll_16 : In cX9_fitsAll 16 (.istore_n 2) 1 17 := ⟨by decide +kernel, rfl⟩
theorem iX9_fitsAll_17 : In cX9_fitsAll 17 (.aload_n 0) 1 18 := ⟨by decide +kernel, rfl⟩
theorem iX9_fitsAll_18 : In cX9_fitsAll 18 (.getfield 25) 3 21 := ⟨by decide +kernel, rfl⟩
theorem iX9_fitsAll_21 : In cX9_fitsAll 21 (.getfield 53) 3 24 := ⟨by decide +kernel, rfl⟩
theorem iX9_fitsAll_24 : In cX9_fitsAll 24 (.iload_n 2) 1 25 := ⟨by decide +kernel, rfl⟩
theorem iX9_fitsAll_25 : In cX9_fitsAll 25 (.invokevirtual 59) 3 28 := ⟨by decide +kernel, rfl⟩
theorem iX9_fitsAll_28 : Jn cX9_fitsAll 28 (.ifCond .eq 66) (66) 31 94 := ⟨by decide +kernel, rfl, by decide⟩
theorem iX9_fitsAll_31 : In cX9_fitsAll 31 (.aload_n 0) 1 32 := ⟨by decide +kernel, rfl⟩
theorem iX9_fitsAll_32 : In cX9_fitsAll 32 (.getfield 25) 3 35 := ⟨by decide +kernel, rfl⟩
theorem iX9_fitsAll_35 : In cX9_fitsAll 35 (.getfield 65) 3 38 := ⟨by decide +kernel, rfl⟩
theorem iX9_fitsAll_38 : In cX9_fitsAll 38 (.aload_n 0) 1 39 := ⟨by decide +kernel, rfl⟩
theorem iX9_fitsAll_39 : In cX9_fitsAll 39 (.getfield 12) 3 42 := ⟨by decide +kernel, rfl⟩
theorem iX9_fitsAll_42 : In cX9_fitsAll 42 (.iconst 0) 1 43 := ⟨by decide +kernel, rfl⟩
theorem iX9_fitsAll_43 : In cX9_fitsAll 43 (.aload_n 0) 1 44 := ⟨by decide +kernel, rfl⟩
theorem iX9_fitsAll_44 : In cX9_fitsAll 44 (.getfield 25) 3 47 := ⟨by decide +kernel, rfl⟩
theorem iX9_fitsAll_47 : In cX9_fitsAll 47 (.getfield 53) 3 50 := ⟨by decide +kernel, rfl⟩
theorem iX9_fitsAll_50 : In cX9_fitsAll 50 (.getfield 69) 3 53 := ⟨by decide +kernel, rfl⟩
theorem iX9_fitsAll_53 : In cX9_fitsAll 53 (.iload_n 2) 1 54 := ⟨by decide +kernel, rfl⟩
theorem iX9_fitsAll_54 : In cX9_fitsAll 54 (.aaload) 1 55 := ⟨by decide +kernel, rfl⟩
theorem iX9_fitsAll_55 : In cX9_fitsAll 55 (.aload_n 0) 1 56 := ⟨by decide +kernel, rfl⟩
theorem iX9_fitsAll_56 : In cX9_fitsAll 56 (.getfield 25) 3 59 := ⟨by decide +kernel, rfl⟩
theorem iX9_fitsAll_59 : In cX9_fitsAll 59 (.getfield 73) 3 62 := ⟨by decide +kernel, rfl⟩
theorem iX9_fitsAll_62 : In cX9_fitsAll 62 (.getfield 77) 3 65 := ⟨by decide +kernel, rfl⟩
theorem iX9_fitsAll_65 : In cX9_fitsAll 65 (.iload_n 2) 1 66 := ⟨by decide +kernel, rfl⟩
theorem iX9_fitsAll_66 : In cX9_fitsAll 66 (.iaload) 1 67 := ⟨by decide +kernel, rfl⟩
theorem iX9_fitsAll_67 : In cX9_fitsAll 67 (.bipush 9) 2 69 := ⟨by decide +kernel, rfl⟩
theorem iX9_fitsAll_69 : In cX9_fitsAll 69 (.iconst 3) 1 70 := ⟨by decide +kernel, rfl⟩
theorem iX9_fitsAll_70 : In cX9_fitsAll 70 (.invokevirtual 82) 3 73 := ⟨by decide +kernel, rfl⟩
theorem iX9_fitsAll_73 : In cX9_fitsAll 73 (.aload_n 0) 1 74 := ⟨by decide +kernel, rfl⟩
theorem iX9_fitsAll_74 : In cX9_fitsAll 74 (.getfield 25) 3 77 := ⟨by decide +kernel, rfl⟩
theorem iX9_fitsAll_77 : In cX9_fitsAll 77 (.getfield 65) 3 80 := ⟨by decide +kernel, rfl⟩
theorem iX9_fitsAll_80 : In cX9_fitsAll 80 (.getfield 88) 3 83 := ⟨by decide +kernel, rfl⟩
theorem iX9_fitsAll_83 : In cX9_fitsAll 83 (.aload_n 0) 1 84 := ⟨by decide +kernel, rfl⟩
theorem iX9_fitsAll_84 : In cX9_fitsAll 84 (.getfield 22) 3 87 := ⟨by decide +kernel, rfl⟩
theorem iX9_fitsAll_87 : In cX9_fitsAll 87 (.iload_n 1) 1 88 := ⟨by decide +kernel, rfl⟩
theorem iX9_fitsAll_88 : In cX9_fitsAll 88 (.iaload) 1 89 := ⟨by decide +kernel, rfl⟩
theorem iX9_fitsAll_89 : Jn cX9_fitsAll 89 (.if_icmp .eq 5) (5) 92 94 := ⟨by decide +kernel, rfl, by decide⟩
theorem iX9_fitsAll_92 : In cX9_fitsAll 92 (.iconst 0) 1 93 := ⟨by decide +kernel, rfl⟩
theorem iX9_fitsAll_93 : In cX9_fitsAll 93 (.ireturn) 1 94 := ⟨by decide +kernel, rfl⟩
theorem iX9_fitsAll_94 : In cX9_fitsAll 94 (.iinc 1 1) 3 97 := ⟨by decide +kernel, rfl⟩
theorem iX9_fitsAll_97 : Jn cX9_fitsAll 97 (.goto (-95)) (-95) 100 2 := ⟨by decide +kernel, rfl, by decide⟩
theorem iX9_fitsAll_100 : In cX9_fitsAll 100 (.iconst 1) 1 101 := ⟨by decide +kernel, rfl⟩
theorem iX9_fitsAll_101 : In cX9_fitsAll 101 (.ireturn) 1 102 := ⟨by decide +kernel, rfl⟩
theorem iX10_init_0 : In cX10_init 0 (.aload_n 0) 1 1 := ⟨by decide +kernel, rfl⟩
theorem iX10_init_1 : In cX10_init 1 (.invokespecial 1) 3 4 := ⟨by decide +kernel, rfl⟩
theorem iX10_init_4 : In cX10_init 4 (.aload_n 0) 1 5 := ⟨by decide +kernel, rfl⟩
theorem iX10_init_5 : In cX10_init 5 (.bipush 52) 2 7 := ⟨by decide +kernel, rfl⟩
theorem iX10_init_7 : In cX10_init 7 (.newarray .int) 2 9 := ⟨by decide +kernel, rfl⟩
theorem iX10_init_9 : In cX10_init 9 (.putfield 9) 3 12 := ⟨by decide +kernel, rfl⟩
theorem iX10_init_12 : In cX10_init 12 (.aload_n 0) 1 13 := ⟨by decide +kernel, rfl⟩
theorem iX10_init_13 : In cX10_init 13 (.new 13) 3 16 := ⟨by decide +kernel, rfl⟩
theorem iX10_init_16 : In cX10_init 16 (.dup) 1 17 := ⟨by decide +kernel, rfl⟩
theorem iX10_init_17 : In cX10_init 17 (.invokespecial 15) 3 20 := ⟨by decide +kernel, rfl⟩
theorem iX10_init_20 : In cX10_init 20 (.putfield 16) 3 23 := ⟨by decide +kernel, rfl⟩
theorem iX10_init_23 : In cX10_init 23 (.aload_n 0) 1 24 := ⟨by decide +kernel, rfl⟩
theorem iX10_init_24 : In cX10_init 24 (.new 20) 3 27 := ⟨by decide +kernel, rfl⟩
theorem iX10_init_27 : In cX10_init 27 (.dup) 1 28 := ⟨by decide +kernel, rfl⟩
theorem iX10_init_28 : In cX10_init 28 (.aload_n 0) 1 29 := ⟨by decide +kernel, rfl⟩
theorem iX10_init_29 : In cX10_init 29 (.getfield 16) 3 32 := ⟨by decide +kernel, rfl⟩
theorem iX10_init_32 : In cX10_init 32 (.invokespecial 22) 3 35 := ⟨by decide +kernel, rfl⟩
theorem iX10_init_35 : In cX10_init 35 (.putfield 25) 3 38 := ⟨by decide +kernel, rfl⟩
theorem iX10_init_38 : In cX10_init 38 (.aload_n 0) 1 39 := ⟨by decide +kernel, rfl⟩
theorem iX10_init_39 : In cX10_init 39 (.new 13) 3 42 := ⟨by decide +kernel, rfl⟩
theorem iX10_init_42 : In cX10_init 42 (.dup) 1 43 := ⟨by decide +kernel, rfl⟩
theorem iX10_init_43 : In cX10_init 43 (.invokespecial 15) 3 46 := ⟨by decide +kernel, rfl⟩
theorem iX10_init_46 : In cX10_init 46 (.putfield 29) 3 49 := ⟨by decide +kernel, rfl⟩
theorem iX10_init_49 : In cX10_init 49 (.aload_n 0) 1 50 := ⟨by decide +kernel, rfl⟩
theorem iX10_init_50 : In cX10_init 50 (.new 32) 3 53 := ⟨by decide +kernel, rfl⟩
theorem iX10_init_53 : In cX10_init 53 (.dup) 1 54 := ⟨by decide +kernel, rfl⟩
theorem iX10_init_54 : In cX10_init 54 (.invokespecial 34) 3 57 := ⟨by decide +kernel, rfl⟩
theorem iX10_init_57 : In cX10_init 57 (.putfield 35) 3 60 := ⟨by decide +kernel, rfl⟩
theorem iX10_init_60 : In cX10_init 60 (.aload_n 0) 1 61 := ⟨by decide +kernel, rfl⟩
theorem iX10_init_61 : In cX10_init 61 (.new 39) 3 64 := ⟨by decide +kernel, rfl⟩
theorem iX10_init_64 : In cX10_init 64 (.dup) 1 65 := ⟨by decide +kernel, rfl⟩
theorem iX10_init_65 : In cX10_init 65 (.aload_n 0) 1 66 := ⟨by decide +kernel, rfl⟩
theorem iX10_init_66 : In cX10_init 66 (.getfield 29) 3 69 := ⟨by decide +kernel, rfl⟩
theorem iX10_init_69 : In cX10_init 69 (.aload_n 0) 1 70 := ⟨by decide +kernel, rfl⟩
theorem iX10_init_70 : In cX10_init 70 (.getfield 35) 3 73 := ⟨by decide +kernel, rfl⟩
theorem iX10_init_73 : In cX10_init 73 (.invokespecial 41) 3 76 := ⟨by decide +kernel, rfl⟩
theorem iX10_init_76 : In cX10_init 76 (.putfield 44) 3 79 := ⟨by decide +kernel, rfl⟩
theorem iX10_init_79 : In cX10_init 79 (.aload_n 0) 1 80 := ⟨by decide +kernel, rfl⟩
theorem iX10_init_80 : In cX10_init 80 (.new 39) 3 83 := ⟨by decide +kernel, rfl⟩
theorem iX10_init_83 : In cX10_init 83 (.dup) 1 84 := ⟨by decide +kernel, rfl⟩
theorem iX10_init_84 : In cX10_init 84 (.aload_n 0) 1 85 := ⟨by decide +kernel, rfl⟩
theorem iX10_init_85 : In cX10_init 85 (.getfield 29) 3 88 := ⟨by decide +kernel, rfl⟩
theorem iX10_init_88 : In cX10_init 88 (.aload_n 0) 1 89 := ⟨by decide +kernel, rfl⟩
theorem iX10_init_89 : In cX10_init 89 (.getfield 35) 3 92 := ⟨by decide +kernel, rfl⟩
theorem iX10_init_92 : In cX10_init 92 (.invokespecial 41) 3 95 := ⟨by decide +kernel, rfl⟩
theorem iX10_init_95 : In cX10_init 95 (.putfield 48) 3 98 := ⟨by decide +kernel, rfl⟩
theorem iX10_init_98 : In cX10_init 98 (.aload_n 0) 1 99 := ⟨by decide +kernel, rfl⟩
theorem iX10_init_99 : In cX10_init 99 (.new 51) 3 102 := ⟨by decide +kernel, rfl⟩
theorem iX10_init_102 : In cX10_init 102 (.dup) 1 103 := ⟨by decide +kernel, rfl⟩
theorem iX10_init_103 : In cX10_init 103 (.invokespecial 53) 3 106 := ⟨by decide +kernel, rfl⟩
theorem iX10_init_106 : In cX10_init 106 (.putfield 54) 3 109 := ⟨by decide +kernel, rfl⟩
theorem iX10_init_109 : In cX10_init 109 (.aload_n 0) 1 110 := ⟨by decide +kernel, rfl⟩
theorem iX10_init_110 : In cX10_init 110 (.new 58) 3 113 := ⟨by decide +kernel, rfl⟩
theorem iX10_init_113 : In cX10_init 113 (.dup) 1 114 := ⟨by decide +kernel, rfl⟩
theorem iX10_init_114 : In cX10_init 114 (.aload_n 0) 1 115 := ⟨by decide +kernel, rfl⟩
theorem iX10_init_115 : In cX10_init 115 (.getfield 44) 3 118 := ⟨by decide +kernel, rfl⟩
theorem iX10_init_118 : In cX10_init 118 (.invokespecial 60) 3 121 := ⟨by decide +kernel, rfl⟩
theorem iX10_init_121 : In cX10_init 121 (.putfield 63) 3 124 := ⟨by decide +kernel, rfl⟩
theorem iX10_init_124 : In cX10_init 124 (.aload_n 0) 1 125 := ⟨by decide +kernel, rfl⟩
theorem iX10_init_125 : In cX10_init 125 (.new 67) 3 128 := ⟨by decide +kernel, rfl⟩
theorem iX10_init_128 : In cX10_init 128 (.dup) 1 129 := ⟨by decide +kernel, rfl⟩
theorem iX10_init_129 : In cX10_init 129 (.aload_n 0) 1 130 := ⟨by decide +kernel, rfl⟩
theorem iX10_init_130 : In cX10_init 130 (.getfield 44) 3 133 := ⟨by decide +kernel, rfl⟩
theorem iX10_init_133 : In cX10_init 133 (.invokespecial 69) 3 136 := ⟨by decide +kernel, rfl⟩
theorem iX10_init_136 : In cX10_init 136 (.putfield 70) 3 139 := ⟨by decide +kernel, rfl⟩
theorem iX10_init_139 : In cX10_init 139 (.aload_n 0) 1 140 := ⟨by decide +kernel, rfl⟩
theorem iX10_init_140 : In cX10_init 140 (.new 74) 3 143 := ⟨by decide +kernel, rfl⟩
theorem iX10_init_143 : In cX10_init 143 (.dup) 1 144 := ⟨by decide +kernel, rfl⟩
theorem iX10_init_144 : In cX10_init 144 (.aload_n 0) 1 145 := ⟨by decide +kernel, rfl⟩
theorem iX10_init_145 : In cX10_init 145 (.getfield 44) 3 148 := ⟨by decide +kernel, rfl⟩
theorem iX10_init_148 : In cX10_init 148 (.invokespecial 76) 3 151 := ⟨by decide +kernel, rfl⟩
theorem iX10_init_151 : In cX10_init 151 (.putfield 77) 3 154 := ⟨by decide +kernel, rfl⟩
theorem iX10_init_154 : In cX10_init 154 (.aload_n 0) 1 155 := ⟨by decide +kernel, rfl⟩
theorem iX10_init_155 : In cX10_init 155 (.iconst 2) 1 156 := ⟨by decide +kernel, rfl⟩
theorem iX10_init_156 : In cX10_init 156 (.anewarray 81) 3 159 := ⟨by decide +kernel, rfl⟩
theorem iX10_init_159 : In cX10_init 159 (.putfield 83) 3 162 := ⟨by decide +kernel, rfl⟩
theorem iX10_init_162 : In cX10_init 162 (.aload_n 0) 1 163 := ⟨by decide +kernel, rfl⟩
theorem iX10_init_163 : In cX10_init 163 (.iconst 2) 1 164 := ⟨by decide +kernel, rfl⟩
theorem iX10_init_164 : In cX10_init 164 (.newarray .boolean) 2 166 := ⟨by decide +kernel, rfl⟩
theorem iX10_init_166 : In cX10_init 166 (.putfield 87) 3 169 := ⟨by decide +kernel, rfl⟩
theorem iX10_init_169 : In cX10_init 169 (.iconst 0) 1 170 := ⟨by decide +kernel, rfl⟩
theorem iX10_init_170 : In cX10_init 170 (.istore_n 1) 1 171 := ⟨by decide +kernel, rfl⟩
theorem iX10_init_171 : In cX10_init 171 (.iload_n 1) 1 172 := ⟨by decide +kernel, rfl⟩
theorem iX10_init_172 : In cX10_init 172 (.iconst 2) 1 173 := ⟨by decide +kernel, rfl⟩
theorem iX10_init_173 : Jn cX10_init 173 (.if_icmp .ge 22) (22) 176 195 := ⟨by decide +kernel, rfl, by decide⟩
theorem iX10_init_176 : In cX10_init 176 (.aload_n 0) 1 177 := ⟨by decide +kernel, rfl⟩
theorem iX10_init_177 : In cX10_init 177 (.getfield 83) 3 180 := ⟨by decide +kernel, rfl⟩
theorem iX10_init_180 : In cX10_init 180 (.iload_n 1) 1 181 := ⟨by decide +kernel, rfl⟩
end
section
theorem iX10_init_181 : In cX10_init 181 (.new 81) 3 184 := ⟨by decide +kernel, rfl⟩
theorem iX10_init_184 : In cX10_init 184 (.dup) 1 185 := ⟨by decide +kernel, rfl⟩
theorem iX10_init_185 : In cX10_init 185 (.invokespecial 91) 3 188 := ⟨by decide +kernel, rfl⟩
theorem iX10_init_188 : In cX10_init 188 (.aastore) 1 189 := ⟨by decide +kernel, rfl⟩
theorem iX10_init_189 : In cX10_init 189 (.iinc 1 1) 3 192 := ⟨by decide +kernel, rfl⟩
theorem iX10_init_192 : Jn cX10_init 192 (.goto (-21)) (-21) 195 171 := ⟨by decide +kernel, rfl, by decide⟩
theorem iX10_init_195 : In cX10_init 195 (.return_) 1 196 := ⟨by decide +kernel, rfl⟩
theorem iX10_write_0 : In cX10_write 0 (.iload_n 1) 1 1 := ⟨by decide +kernel, rfl⟩
theorem iX10_write_1 : Jn cX10_write 1 (.ifCond .lt 10) (10) 4 11 := ⟨by decide +kernel, rfl, by decide⟩
theorem iX10_write_4 : In cX10_write 4 (.iload_n 1) 1 5 := ⟨by decide +kernel, rfl⟩
theorem iX10_write_5 : In cX10_write 5 (.sipush 255) 3 8 := ⟨by decide +kernel, rfl⟩
theorem iX10_write_8 : Jn cX10_write 8 (.if_icmp .le 6) (6) 11 14 := ⟨by decide +kernel, rfl, by decide⟩
theorem iX10_write_11 : In cX10_write 11 (.bipush (-2)) 2 13 := ⟨by decide +kernel, rfl⟩
theorem iX10_write_13 : In cX10_write 13 (.ireturn) 1 14 := ⟨by decide +kernel, rfl⟩
theorem iX10_write_14 : In cX10_write 14 (.aload_n 0) 1 15 := ⟨by decide +kernel, rfl⟩
theorem iX10_write_15 : In cX10_write 15 (.getfield 92) 3 18 := ⟨by decide +kernel, rfl⟩
theorem iX10_write_18 : In cX10_write 18 (.bipush 52) 2 20 := ⟨by decide +kernel, rfl⟩
theorem iX10_write_20 : Jn cX10_write 20 (.if_icmp .lt 6) (6) 23 26 := ⟨by decide +kernel, rfl, by decide⟩
theorem iX10_write_23 : In cX10_write 23 (.bipush (-4)) 2 25 := ⟨by decide +kernel, rfl⟩
theorem iX10_write_25 : In cX10_write 25 (.ireturn) 1 26 := ⟨by decide +kernel, rfl⟩
theorem iX10_write_26 : In cX10_write 26 (.aload_n 0) 1 27 := ⟨by decide +kernel, rfl⟩
theorem iX10_write_27 : In cX10_write 27 (.getfield 9) 3 30 := ⟨by decide +kernel, rfl⟩
theorem iX10_write_30 : In cX10_write 30 (.aload_n 0) 1 31 := ⟨by decide +kernel, rfl⟩
theorem iX10_write_31 : In cX10_write 31 (.getfield 92) 3 34 := ⟨by decide +kernel, rfl⟩
theorem iX10_write_34 : In cX10_write 34 (.iload_n 1) 1 35 := ⟨by decide +kernel, rfl⟩
theorem iX10_write_35 : In cX10_write 35 (.iastore) 1 36 := ⟨by decide +kernel, rfl⟩
theorem iX10_write_36 : In cX10_write 36 (.aload_n 0) 1 37 := ⟨by decide +kernel, rfl⟩
theorem iX10_write_37 : In cX10_write 37 (.dup) 1 38 := ⟨by decide +kernel, rfl⟩
theorem iX10_write_38 : In cX10_write 38 (.getfield 92) 3 41 := ⟨by decide +kernel, rfl⟩
theorem iX10_write_41 : In cX10_write 41 (.iconst 1) 1 42 := ⟨by decide +kernel, rfl⟩
theorem iX10_write_42 : In cX10_write 42 (.iadd) 1 43 := ⟨by decide +kernel, rfl⟩
theorem iX10_write_43 : In cX10_write 43 (.putfield 92) 3 46 := ⟨by decide +kernel, rfl⟩
theorem iX10_write_46 : In cX10_write 46 (.aload_n 0) 1 47 := ⟨by decide +kernel, rfl⟩
theorem iX10_write_47 : In cX10_write 47 (.getfield 92) 3 50 := ⟨by decide +kernel, rfl⟩
theorem iX10_write_50 : In cX10_write 50 (.ireturn) 1 51 := ⟨by decide +kernel, rfl⟩
theorem iX10_wipe_0 : In cX10_wipe 0 (.aload_n 0) 1 1 := ⟨by decide +kernel, rfl⟩
theorem iX10_wipe_1 : In cX10_wipe 1 (.getfield 92) 3 4 := ⟨by decide +kernel, rfl⟩
theorem iX10_wipe_4 : In cX10_wipe 4 (.istore_n 1) 1 5 := ⟨by decide +kernel, rfl⟩
theorem iX10_wipe_5 : In cX10_wipe 5 (.aload_n 0) 1 6 := ⟨by decide +kernel, rfl⟩
theorem iX10_wipe_6 : In cX10_wipe 6 (.iconst 0) 1 7 := ⟨by decide +kernel, rfl⟩
theorem iX10_wipe_7 : In cX10_wipe 7 (.putfield 92) 3 10 := ⟨by decide +kernel, rfl⟩
theorem iX10_wipe_10 : In cX10_wipe 10 (.iload_n 1) 1 11 := ⟨by decide +kernel, rfl⟩
theorem iX10_wipe_11 : In cX10_wipe 11 (.ireturn) 1 12 := ⟨by decide +kernel, rfl⟩
theorem iX10_fault_0 : In cX10_fault 0 (.aload_n 0) 1 1 := ⟨by decide +kernel, rfl⟩
theorem iX10_fault_1 : In cX10_fault 1 (.getfield 25) 3 4 := ⟨by decide +kernel, rfl⟩
theorem iX10_fault_4 : In cX10_fault 4 (.aload_n 0) 1 5 := ⟨by decide +kernel, rfl⟩
theorem iX10_fault_5 : In cX10_fault 5 (.getfield 9) 3 8 := ⟨by decide +kernel, rfl⟩
theorem iX10_fault_8 : In cX10_fault 8 (.aload_n 0) 1 9 := ⟨by decide +kernel, rfl⟩
theorem iX10_fault_9 : In cX10_fault 9 (.getfield 92) 3 12 := ⟨by decide +kernel, rfl⟩
theorem iX10_fault_12 : In cX10_fault 12 (.invokevirtual 96) 3 15 := ⟨by decide +kernel, rfl⟩
theorem iX10_fault_15 : In cX10_fault 15 (.ireturn) 1 16 := ⟨by decide +kernel, rfl⟩
theorem iX10_bazaar_0 : In cX10_bazaar 0 (.aload_n 0) 1 1 := ⟨by decide +kernel, rfl⟩
theorem iX10_bazaar_1 : In cX10_bazaar 1 (.getfield 25) 3 4 := ⟨by decide +kernel, rfl⟩
theorem iX10_bazaar_4 : In cX10_bazaar 4 (.aload_n 0) 1 5 := ⟨by decide +kernel, rfl⟩
theorem iX10_bazaar_5 : In cX10_bazaar 5 (.getfield 9) 3 8 := ⟨by decide +kernel, rfl⟩
theorem iX10_bazaar_8 : In cX10_bazaar 8 (.aload_n 0) 1 9 := ⟨by decide +kernel, rfl⟩
theorem iX10_bazaar_9 : In cX10_bazaar 9 (.getfield 92) 3 12 := ⟨by decide +kernel, rfl⟩
theorem iX10_bazaar_12 : In cX10_bazaar 12 (.invokevirtual 96) 3 15 := ⟨by decide +kernel, rfl⟩
theorem iX10_bazaar_15 : In cX10_bazaar 15 (.bipush (-9)) 2 17 := ⟨by decide +kernel, rfl⟩
theorem iX10_bazaar_17 : Jn cX10_bazaar 17 (.if_icmp .eq 6) (6) 20 23 := ⟨by decide +kernel, rfl, by decide⟩
theorem iX10_bazaar_20 : In cX10_bazaar 20 (.bipush (-3)) 2 22 := ⟨by decide +kernel, rfl⟩
theorem iX10_bazaar_22 : In cX10_bazaar 22 (.ireturn) 1 23 := ⟨by decide +kernel, rfl⟩
theorem iX10_bazaar_23 : In cX10_bazaar 23 (.aload_n 0) 1 24 := ⟨by decide +kernel, rfl⟩
theorem iX10_bazaar_24 : In cX10_bazaar 24 (.getfield 29) 3 27 := ⟨by decide +kernel, rfl⟩
theorem iX10_bazaar_27 : In cX10_bazaar 27 (.aload_n 0) 1 28 := ⟨by decide +kernel, rfl⟩
theorem iX10_bazaar_28 : In cX10_bazaar 28 (.getfield 16) 3 31 := ⟨by decide +kernel, rfl⟩
theorem iX10_bazaar_31 : In cX10_bazaar 31 (.invokevirtual 100) 3 34 := ⟨by decide +kernel, rfl⟩
theorem iX10_bazaar_34 : In cX10_bazaar 34 (.aload_n 0) 1 35 := ⟨by decide +kernel, rfl⟩
theorem iX10_bazaar_35 : In cX10_bazaar 35 (.getfield 44) 3 38 := ⟨by decide +kernel, rfl⟩
theorem iX10_bazaar_38 : In cX10_bazaar 38 (.getfield 103) 3 41 := ⟨by decide +kernel, rfl⟩
theorem iX10_bazaar_41 : In cX10_bazaar 41 (.aload_n 0) 1 42 := ⟨by decide +kernel, rfl⟩
theorem iX10_bazaar_42 : In cX10_bazaar 42 (.getfield 29) 3 45 := ⟨by decide +kernel, rfl⟩
theorem iX10_bazaar_45 : In cX10_bazaar 45 (.invokevirtual 107) 3 48 := ⟨by decide +kernel, rfl⟩
theorem iX10_bazaar_48 : In cX10_bazaar 48 (.aload_n 0) 1 49 := ⟨by decide +kernel, rfl⟩
theorem iX10_bazaar_49 : In cX10_bazaar 49 (.getfield 54) 3 52 := ⟨by decide +kernel, rfl⟩
theorem iX10_bazaar_52 : In cX10_bazaar 52 (.invokevirtual 110) 3 55 := ⟨by decide +kernel, rfl⟩
theorem iX10_bazaar_55 : In cX10_bazaar 55 (.iconst 0) 1 56 := ⟨by decide +kernel, rfl⟩
theorem iX10_bazaar_56 : In cX10_bazaar 56 (.istore_n 1) 1 57 := ⟨by decide +kernel, rfl⟩
theorem iX10_bazaar_57 : In cX10_bazaar 57 (.iload_n 1) 1 58 := ⟨by decide +kernel, rfl⟩
theorem iX10_bazaar_58 : In cX10_bazaar 58 (.iconst 2) 1 59 := ⟨by decide +kernel, rfl⟩
theorem iX10_bazaar_59 : Jn cX10_bazaar 59 (.if_icmp .ge 16) (16) 62 75 := ⟨by decide +kernel, rfl, by decide⟩
theorem iX10_bazaar_62 : In cX10_bazaar 62 (.aload_n 0) 1 63 := ⟨by decide +kernel, rfl⟩
theorem iX10_bazaar_63 : In cX10_bazaar 63 (.getfield 87) 3 66 := ⟨by decide +kernel, rfl⟩
theorem iX10_bazaar_66 : In cX10_bazaar 66 (.iload_n 1) 1 67 := ⟨by decide +kernel, rfl⟩
theorem iX10_bazaar_67 : In cX10_bazaar 67 (.iconst 0) 1 68 := ⟨by decide +kernel, rfl⟩
theorem iX10_bazaar_68 : In cX10_bazaar 68 (.bastore) 1 69 := ⟨by decide +kernel, rfl⟩
theorem iX10_bazaar_69 : In cX10_bazaar 69 (.iinc 1 1) 3 72 := ⟨by decide +kernel, rfl⟩
theorem iX10_bazaar_72 : Jn cX10_bazaar 72 (.goto (-15)) (-15) 75 57 := ⟨by decide +kernel, rfl, by decide⟩
theorem iX10_bazaar_75 : In cX10_bazaar 75 (.bipush 10) 2 77 := ⟨by decide +kernel, rfl⟩
theorem iX10_bazaar_77 : In cX10_bazaar 77 (.aload_n 0) 1 78 := ⟨by decide +kernel, rfl⟩
theorem iX10_bazaar_78 : In cX10_bazaar 78 (.getfield 29) 3 81 := ⟨by decide +kernel, rfl⟩
theorem iX10_bazaar_81 : In cX10_bazaar 81 (.getfield 113) 3 84 := ⟨by decide +kernel, rfl⟩
theorem iX10_bazaar_84 : In cX10_bazaar 84 (.imul) 1 85 := ⟨by decide +kernel, rfl⟩
theorem iX10_bazaar_85 : In cX10_bazaar 85 (.aload_n 0) 1 86 := ⟨by decide +kernel, rfl⟩
theorem iX10_bazaar_86 : In cX10_bazaar 86 (.getfield 29) 3 89 := ⟨by decide +kernel, rfl⟩
theorem iX10_bazaar_89 : In cX10_bazaar 89 (.getfield 116) 3 92 := ⟨by decide +kernel, rfl⟩
theorem iX10_bazaar_92 : In cX10_bazaar 92 (.iadd) 1 93 := ⟨by decide +kernel, rfl⟩
theorem iX10_bazaar_93 : In cX10_bazaar 93 (.ireturn) 1 94 := ⟨by decide +kernel, rfl⟩
theorem iX10_fencer_0 : In cX10_fencer 0 (.aload_n 0) 1 1 := ⟨by decide +kernel, rfl⟩
theorem iX10_fencer_1 : In cX10_fencer 1 (.getfield 29) 3 4 := ⟨by decide +kernel, rfl⟩
theorem iX10_fencer_4 : In cX10_fencer 4 (.iload_n 1) 1 5 := ⟨by decide +kernel, rfl⟩
theorem iX10_fencer_5 : In cX10_fencer 5 (.invokevirtual 119) 3 8 := ⟨by decide +kernel, rfl⟩
theorem iX10_fencer_8 : Jn cX10_fencer 8 (.ifCond .ne 5) (5) 11 13 := ⟨by decide +kernel, rfl, by decide⟩
theorem iX10_fencer_11 : In cX10_fencer 11 (.iconst (-1)) 1 12 := ⟨by decide +kernel, rfl⟩
theorem iX10_fencer_12 : In cX10_fencer 12 (.ireturn) 1 13 := ⟨by decide +kernel, rfl⟩
theorem iX10_fencer_13 : In cX10_fencer 13 (.iload_n 2) 1 14 := ⟨by decide +kernel, rfl⟩
theorem iX10_fencer_14 : In cX10_fencer 14 (.tableswitch 115 0 5 #[38, 51, 64, 77, 90, 99]) 38 52 := ⟨by decide +kernel, rfl⟩
theorem iX10_fencer_52 : In cX10_fencer 52 (.aload_n 0) 1 53 := ⟨by decide +kernel, rfl⟩
theorem iX10_fencer_53 : In cX10_fencer 53 (.getfield 29) 3 56 := ⟨by decide +kernel, rfl⟩
theorem iX10_fencer_56 : In cX10_fencer 56 (.getfield 123) 3 59 := ⟨by decide +kernel, rfl⟩
theorem iX10_fencer_59 : In cX10_fencer 59 (.iload_n 1) 1 60 := ⟨by decide +kernel, rfl⟩
theorem iX10_fencer_60 : In cX10_fencer 60 (.aaload) 1 61 := ⟨by decide +kernel, rfl⟩
theorem iX10_fencer_61 : In cX10_fencer 61 (.getfield 127) 3 64 := ⟨by decide +kernel, rfl⟩
theorem iX10_fencer_64 : In cX10_fencer 64 (.ireturn) 1 65 := ⟨by decide +kernel, rfl⟩
theorem iX10_fencer_65 : In cX10_fencer 65 (.aload_n 0) 1 66 := ⟨by decide +kernel, rfl⟩
theorem iX10_fencer_66 : In cX10_fencer 66 (.getfield 29) 3 69 := ⟨by decide +kernel, rfl⟩
theorem iX10_fencer_69 : In cX10_fencer 69 (.getfield 123) 3 72 := ⟨by decide +kernel, rfl⟩
theorem iX10_fencer_72 : In cX10_fencer 72 (.iload_n 1) 1 73 := ⟨by decide +kernel, rfl⟩
theorem iX10_fencer_73 : In cX10_fencer 73 (.aaload) 1 74 := ⟨by decide +kernel, rfl⟩
theorem iX10_fencer_74 : In cX10_fencer 74 (.invokevirtual 132) 3 77 := ⟨by decide +kernel, rfl⟩
theorem iX10_fencer_77 : In cX10_fencer 77 (.ireturn) 1 78 := ⟨by decide +kernel, rfl⟩
theorem iX10_fencer_78 : In cX10_fencer 78 (.aload_n 0) 1 79 := ⟨by decide +kernel, rfl⟩
theorem iX10_fencer_79 : In cX10_fencer 79 (.getfield 44) 3 82 := ⟨by decide +kernel, rfl⟩
theorem iX10_fencer_82 : In cX10_fencer 82 (.getfield 103) 3 85 := ⟨by decide +kernel, rfl⟩
theorem iX10_fencer_85 : In cX10_fencer 85 (.getfield 136) 3 88 := ⟨by decide +kernel, rfl⟩
theorem iX10_fencer_88 : In cX10_fencer 88 (.iload_n 1) 1 89 := ⟨by decide +kernel, rfl⟩
theorem iX10_fencer_89 : In cX10_fencer 89 (.iaload) 1 90 := ⟨by decide +kernel, rfl⟩
theorem iX10_fencer_90 : In cX10_fencer 90 (.ireturn) 1 91 := ⟨by decide +kernel, rfl⟩
theorem iX10_fencer_91 : In cX10_fencer 91 (.aload_n 0) 1 92 := ⟨by decide +kernel, rfl⟩
theorem iX10_fencer_92 : In cX10_fencer 92 (.getfield 44) 3 95 := ⟨by decide +kernel, rfl⟩
theorem iX10_fencer_95 : In cX10_fencer 95 (.getfield 103) 3 98 := ⟨by decide +kernel, rfl⟩
theorem iX10_fencer_98 : In cX10_fencer 98 (.getfield 139) 3 101 := ⟨by decide +kernel, rfl⟩
theorem iX10_fencer_101 : In cX10_fencer 101 (.iload_n 1) 1 102 := ⟨by decide +kernel, rfl⟩
theorem iX10_fencer_102 : In cX10_fencer 102 (.iaload) 1 103 := ⟨by decide +kernel, rfl⟩
theorem iX10_fencer_103 : In cX10_fencer 103 (.ireturn) 1 104 := ⟨by decide +kernel, rfl⟩
theorem iX10_fencer_104 : In cX10_fencer 104 (.aload_n 0) 1 105 := ⟨by decide +kernel, rfl⟩
theorem iX10_fencer_105 : In cX10_fencer 105 (.getfield 44) 3 108 := ⟨by decide +kernel, rfl⟩
theorem iX10_fencer_108 : In cX10_fencer 108 (.iload_n 1) 1 109 := ⟨by decide +kernel, rfl⟩
theorem iX10_fencer_109 : In cX10_fencer 109 (.invokevirtual 142) 3 112 := ⟨by decide +kernel, rfl⟩
theorem iX10_fencer_112 : In cX10_fencer 112 (.ireturn) 1 113 := ⟨by decide +kernel, rfl⟩
theorem iX10_fencer_113 : In cX10_fencer 113 (.aload_n 0) 1 114 := ⟨by decide +kernel, rfl⟩
theorem iX10_fencer_114 : In cX10_fencer 114 (.getfield 44) 3 117 := ⟨by decide +kernel, rfl⟩
theorem iX10_fencer_117 : In cX10_fencer 117 (.invokevirtual 146) 3 120 := ⟨by decide +kernel, rfl⟩
theorem iX10_fencer_120 : In cX10_fencer 120 (.aload_n 0) 1 121 := ⟨by decide +kernel, rfl⟩
theorem iX10_fencer_121 : In cX10_fencer 121 (.getfield 44) 3 124 := ⟨by decide +kernel, rfl⟩
theorem iX10_fencer_124 : In cX10_fencer 124 (.iload_n 1) 1 125 := ⟨by decide +kernel, rfl⟩
theorem iX10_fencer_125 : In cX10_fencer 125 (.invokevirtual 149) 3 128 := ⟨by decide +kernel, rfl⟩
theorem iX10_fencer_128 : In cX10_fencer 128 (.ireturn) 1 129 := ⟨by decide +kernel, rfl⟩
theorem iX10_fencer_129 : In cX10_fencer 129 (.bipush (-2)) 2 131 := ⟨by decide +kernel, rfl⟩
theorem iX10_fencer_131 : In cX10_fencer 131 (.ireturn) 1 132 := ⟨by decide +kernel, rfl⟩
theorem iX10_good_0 : In cX10_good 0 (.aload_n 0) 1 1 := ⟨by decide +kernel, rfl⟩
theorem iX10_good_1 : In cX10_good 1 (.getfield 29) 3 4 := ⟨by decide +kernel, rfl⟩
theorem iX10_good_4 : In cX10_good 4 (.iload_n 1) 1 5 := ⟨by decide +kernel, rfl⟩
theorem iX10_good_5 : In cX10_good 5 (.invokevirtual 152) 3 8 := ⟨by decide +kernel, rfl⟩
theorem iX10_good_8 : Jn cX10_good 8 (.ifCond .ne 5) (5) 11 13 := ⟨by decide +kernel, rfl, by decide⟩
theorem iX10_good_11 : In cX10_good 11 (.iconst (-1)) 1 12 := ⟨by decide +kernel, rfl⟩
theorem iX10_good_12 : In cX10_good 12 (.ireturn) 1 13 := ⟨by decide +kernel, rfl⟩
theorem iX10_good_13 : In cX10_good 13 (.iload_n 2) 1 14 := ⟨by decide +kernel, rfl⟩
theorem iX10_good_14 : In cX10_good 14 (.tableswitch 59 0 2 #[26, 39, 49]) 26 40 := ⟨by decide +kernel, rfl⟩
theorem iX10_good_40 : In cX10_good 40 (.aload_n 0) 1 41 := ⟨by decide +kernel, rfl⟩
theorem iX10_good_41 : In cX10_good 41 (.getfield 44) 3 44 := ⟨by decide +kernel, rfl⟩
theorem iX10_good_44 : In cX10_good 44 (.getfield 103) 3 47 := ⟨by decide +kernel, rfl⟩
theorem iX10_good_47 : In cX10_good 47 (.getfield 155) 3 50 := ⟨by decide +kernel, rfl⟩
theorem iX10_good_50 : In cX10_good 50 (.iload_n 1) 1 51 := ⟨by decide +kernel, rfl⟩
theorem iX10_good_51 : In cX10_good 51 (.iaload) 1 52 := ⟨by decide +kernel, rfl⟩
theorem iX10_good_52 : In cX10_good 52 (.ireturn) 1 53 := ⟨by decide +kernel, rfl⟩
theorem iX10_good_53 : In cX10_good 53 (.aload_n 0) 1 54 := ⟨by decide +kernel, rfl⟩
theorem iX10_good_54 : In cX10_good 54 (.getfield 29) 3 57 := ⟨by decide +kernel, rfl⟩
theorem iX10_good_57 : In cX10_good 57 (.getfield 158) 3 60 := ⟨by decide +kernel, rfl⟩
theorem iX10_good_60 : In cX10_good 60 (.iload_n 1) 1 61 := ⟨by decide +kernel, rfl⟩
theorem iX10_good_61 : In cX10_good 61 (.iaload) 1 62 := ⟨by decide +kernel, rfl⟩
theorem iX10_good_62 : In cX10_good 62 (.ireturn) 1 63 := ⟨by decide +kernel, rfl⟩
theorem iX10_good_63 : In cX10_good 63 (.aload_n 0) 1 64 := ⟨by decide +kernel, rfl⟩
theorem iX10_good_64 : In cX10_good 64 (.getfield 29) 3 67 := ⟨by decide +kernel, rfl⟩
theorem iX10_good_67 : In cX10_good 67 (.getfield 161) 3 70 := ⟨by decide +kernel, rfl⟩
theorem iX10_good_70 : In cX10_good 70 (.iload_n 1) 1 71 := ⟨by decide +kernel, rfl⟩
theorem iX10_good_71 : In cX10_good 71 (.iaload) 1 72 := ⟨by decide +kernel, rfl⟩
theorem iX10_good_72 : In cX10_good 72 (.ireturn) 1 73 := ⟨by decide +kernel, rfl⟩
theorem iX10_good_73 : In cX10_good 73 (.bipush (-2)) 2 75 := ⟨by decide +kernel, rfl⟩
theorem iX10_good_75 : In cX10_good 75 (.ireturn) 1 76 := ⟨by decide +kernel, rfl⟩
theorem iX10_bout_0 : In cX10_bout 0 (.aload_n 0) 1 1 := ⟨by decide +kernel, rfl⟩
theorem iX10_bout_1 : In cX10_bout 1 (.iload_n 1) 1 2 := ⟨by decide +kernel, rfl⟩
theorem iX10_bout_2 : In cX10_bout 2 (.iload_n 2) 1 3 := ⟨by decide +kernel, rfl⟩
theorem iX10_bout_3 : In cX10_bout 3 (.iload_n 3) 1 4 := ⟨by decide +kernel, rfl⟩
theorem iX10_bout_4 : In cX10_bout 4 (.iconst 2) 1 5 := ⟨by decide +kernel, rfl⟩
theorem iX10_bout_5 : In cX10_bout 5 (.invokevirtual 164) 3 8 := ⟨by decide +kernel, rfl⟩
theorem iX10_bout_8 : In cX10_bout 8 (.istore 4) 2 10 := ⟨by decide +kernel, rfl⟩
theorem iX10_bout_10 : In cX10_bout 10 (.iload 4) 2 12 := ⟨by decide +kernel, rfl⟩
theorem iX10_bout_12 : In cX10_bout 12 (.bipush (-9)) 2 14 := ⟨by decide +kernel, rfl⟩
theorem iX10_bout_14 : Jn cX10_bout 14 (.if_icmp .eq 6) (6) 17 20 := ⟨by decide +kernel, rfl, by decide⟩
theorem iX10_bout_17 : In cX10_bout 17 (.iload 4) 2 19 := ⟨by decide +kernel, rfl⟩
theorem iX10_bout_19 : In cX10_bout 19 (.ireturn) 1 20 := ⟨by decide +kernel, rfl⟩
theorem iX10_bout_20 : In cX10_bout 20 (.aload_n 0) 1 21 := ⟨by decide +kernel, rfl⟩
theorem iX10_bout_21 : In cX10_bout 21 (.getfield 44) 3 24 := ⟨by decide +kernel, rfl⟩
theorem iX10_bout_24 : In cX10_bout 24 (.iload_n 1) 1 25 := ⟨by decide +kernel, rfl⟩
theorem iX10_bout_25 : In cX10_bout 25 (.iload_n 2) 1 26 := ⟨by decide +kernel, rfl⟩
theorem iX10_bout_26 : In cX10_bout 26 (.invokevirtual 168) 3 29 := ⟨by decide +kernel, rfl⟩
theorem iX10_bout_29 : In cX10_bout 29 (.iload_n 3) 1 30 := ⟨by decide +kernel, rfl⟩
theorem iX10_bout_30 : In cX10_bout 30 (.lookupswitch 42 #[(0, 26), (1, 34)]) 26 56 := ⟨by decide +kernel, rfl⟩
theorem iX10_bout_56 : In cX10_bout 56 (.aload_n 0) 1 57 := ⟨by decide +kernel, rfl⟩
theorem iX10_bout_57 : In cX10_bout 57 (.getfield 35) 3 60 := ⟨by decide +kernel, rfl⟩
theorem iX10_bout_60 : In cX10_bout 60 (.getfield 172) 3 63 := ⟨by decide +kernel, rfl⟩
theorem iX10_bout_63 : In cX10_bout 63 (.ireturn) 1 64 := ⟨by decide +kernel, rfl⟩
theorem iX10_bout_64 : In cX10_bout 64 (.aload_n 0) 1 65 := ⟨by decide +kernel, rfl⟩
theorem iX10_bout_65 : In cX10_bout 65 (.getfield 35) 3 68 := ⟨by decide +kernel, rfl⟩
theorem iX10_bout_68 : In cX10_bout 68 (.getfield 175) 3 71 := ⟨by decide +kernel, rfl⟩
theorem iX10_bout_71 : In cX10_bout 71 (.ireturn) 1 72 := ⟨by decide +kernel, rfl⟩
theorem iX10_bout_72 : In cX10_bout 72 (.aload_n 0) 1 73 := ⟨by decide +kernel, rfl⟩
theorem iX10_bout_73 : In cX10_bout 73 (.getfield 35) 3 76 := ⟨by decide +kernel, rfl⟩
theorem iX10_bout_76 : In cX10_bout 76 (.getfield 178) 3 79 := ⟨by decide +kernel, rfl⟩
theorem iX10_bout_79 : In cX10_bout 79 (.ireturn) 1 80 := ⟨by decide +kernel, rfl⟩
theorem iX10_cost_0 : In cX10_cost 0 (.aload_n 0) 1 1 := ⟨by decide +kernel, rfl⟩
theorem iX10_cost_1 : In cX10_cost 1 (.iload_n 1) 1 2 := ⟨by decide +kernel, rfl⟩
theorem iX10_cost_2 : In cX10_cost 2 (.iload_n 2) 1 3 := ⟨by decide +kernel, rfl⟩
theorem iX10_cost_3 : In cX10_cost 3 (.invokevirtual 181) 3 6 := ⟨by decide +kernel, rfl⟩
theorem iX10_cost_6 : In cX10_cost 6 (.istore_n 3) 1 7 := ⟨by decide +kernel, rfl⟩
theorem iX10_cost_7 : In cX10_cost 7 (.iload_n 3) 1 8 := ⟨by decide +kernel, rfl⟩
theorem iX10_cost_8 : In cX10_cost 8 (.bipush (-9)) 2 10 := ⟨by decide +kernel, rfl⟩
theorem iX10_cost_10 : Jn cX10_cost 10 (.if_icmp .eq 7) (7) 13 17 := ⟨by decide +kernel, rfl, by decide⟩
theorem iX10_cost_13 : In cX10_cost 13 (.iload_n 3) 1 14 := ⟨by decide +kernel, rfl⟩
theorem iX10_cost_14 : Jn cX10_cost 14 (.goto 12) (12) 17 26 := ⟨by decide +kernel, rfl, by decide⟩
theorem iX10_cost_17 : In cX10_cost 17 (.aload_n 0) 1 18 := ⟨by decide +kernel, rfl⟩
theorem iX10_cost_18 : In cX10_cost 18 (.getfield 44) 3 21 := ⟨by decide +kernel, rfl⟩
theorem iX10_cost_21 : In cX10_cost 21 (.iload_n 1) 1 22 := ⟨by decide +kernel, rfl⟩
theorem iX10_cost_22 : In cX10_cost 22 (.iload_n 2) 1 23 := ⟨by decide +kernel, rfl⟩
theorem iX10_cost_23 : In cX10_cost 23 (.invokevirtual 185) 3 26 := ⟨by decide +kernel, rfl⟩
theorem iX10_cost_26 : In cX10_cost 26 (.ireturn) 1 27 := ⟨by decide +kernel, rfl⟩
theorem iX10_meet_0 : In cX10_meet 0 (.aload_n 0) 1 1 := ⟨by decide +kernel, rfl⟩
theorem iX10_meet_1 : In cX10_meet 1 (.iload_n 1) 1 2 := ⟨by decide +kernel, rfl⟩
theorem iX10_meet_2 : In cX10_meet 2 (.iload_n 2) 1 3 := ⟨by decide +kernel, rfl⟩
theorem iX10_meet_3 : In cX10_meet 3 (.invokevirtual 181) 3 6 := ⟨by decide +kernel, rfl⟩
theorem iX10_meet_6 : In cX10_meet 6 (.istore_n 3) 1 7 := ⟨by decide +kernel, rfl⟩
theorem iX10_meet_7 : In cX10_meet 7 (.iload_n 3) 1 8 := ⟨by decide +kernel, rfl⟩
theorem iX10_meet_8 : In cX10_meet 8 (.bipush (-9)) 2 10 := ⟨by decide +kernel, rfl⟩
theorem iX10_meet_10 : Jn cX10_meet 10 (.if_icmp .eq 5) (5) 13 15 := ⟨by decide +kernel, rfl, by decide⟩
theorem iX10_meet_13 : In cX10_meet 13 (.iload_n 3) 1 14 := ⟨by decide +kernel, rfl⟩
theorem iX10_meet_14 : In cX10_meet 14 (.ireturn) 1 15 := ⟨by decide +kernel, rfl⟩
theorem iX10_meet_15 : In cX10_meet 15 (.aload_n 0) 1 16 := ⟨by decide +kernel, rfl⟩
theorem iX10_meet_16 : In cX10_meet 16 (.getfield 54) 3 19 := ⟨by decide +kernel, rfl⟩
theorem iX10_meet_19 : In cX10_meet 19 (.aload_n 0) 1 20 := ⟨by decide +kernel, rfl⟩
theorem iX10_meet_20 : In cX10_meet 20 (.getfield 44) 3 23 := ⟨by decide +kernel, rfl⟩
theorem iX10_meet_23 : In cX10_meet 23 (.getfield 103) 3 26 := ⟨by decide +kernel, rfl⟩
theorem iX10_meet_26 : In cX10_meet 26 (.invokevirtual 188) 3 29 := ⟨by decide +kernel, rfl⟩
theorem iX10_meet_29 : In cX10_meet 29 (.aload_n 0) 1 30 := ⟨by decide +kernel, rfl⟩
theorem iX10_meet_30 : In cX10_meet 30 (.getfield 44) 3 33 := ⟨by decide +kernel, rfl⟩
theorem iX10_meet_33 : In cX10_meet 33 (.iload_n 1) 1 34 := ⟨by decide +kernel, rfl⟩
theorem iX10_meet_34 : In cX10_meet 34 (.iload_n 2) 1 35 := ⟨by decide +kernel, rfl⟩
theorem iX10_meet_35 : In cX10_meet 35 (.invokevirtual 192) 3 38 := ⟨by decide +kernel, rfl⟩
theorem iX10_meet_38 : In cX10_meet 38 (.aload_n 0) 1 39 := ⟨by decide +kernel, rfl⟩
theorem iX10_meet_39 : In cX10_meet 39 (.getfield 44) 3 42 := ⟨by decide +kernel, rfl⟩
theorem iX10_meet_42 : In cX10_meet 42 (.getfield 103) 3 45 := ⟨by decide +kernel, rfl⟩
theorem iX10_meet_45 : In cX10_meet 45 (.getfield 155) 3 48 := ⟨by decide +kernel, rfl⟩
theorem iX10_meet_48 : In cX10_meet 48 (.iload_n 2) 1 49 := ⟨by decide +kernel, rfl⟩
theorem iX10_meet_49 : In cX10_meet 49 (.iaload) 1 50 := ⟨by decide +kernel, rfl⟩
theorem iX10_meet_50 : In cX10_meet 50 (.ireturn) 1 51 := ⟨by decide +kernel, rfl⟩
theorem iX10_step_0 : In cX10_step 0 (.aload_n 0) 1 1 := ⟨by decide +kernel, rfl⟩
theorem iX10_step_1 : In cX10_step 1 (.getfield 29) 3 4 := ⟨by decide +kernel, rfl⟩
theorem iX10_step_4 : In cX10_step 4 (.iload_n 1) 1 5 := ⟨by decide +kernel, rfl⟩
theorem iX10_step_5 : In cX10_step 5 (.invokevirtual 119) 3 8 := ⟨by decide +kernel, rfl⟩
theorem iX10_step_8 : Jn cX10_step 8 (.ifCond .ne 5) (5) 11 13 := ⟨by decide +kernel, rfl, by decide⟩
theorem iX10_step_11 : In cX10_step 11 (.iconst (-1)) 1 12 := ⟨by decide +kernel, rfl⟩
theorem iX10_step_12 : In cX10_step 12 (.ireturn) 1 13 := ⟨by decide +kernel, rfl⟩
theorem iX10_step_13 : In cX10_step 13 (.aload_n 0) 1 14 := ⟨by decide +kernel, rfl⟩
theorem iX10_step_14 : In cX10_step 14 (.getfield 54) 3 17 := ⟨by decide +kernel, rfl⟩
theorem iX10_step_17 : In cX10_step 17 (.aload_n 0) 1 18 := ⟨by decide +kernel, rfl⟩
theorem iX10_step_18 : In cX10_step 18 (.getfield 44) 3 21 := ⟨by decide +kernel, rfl⟩
theorem iX10_step_21 : In cX10_step 21 (.getfield 103) 3 24 := ⟨by decide +kernel, rfl⟩
theorem iX10_step_24 : In cX10_step 24 (.invokevirtual 188) 3 27 := ⟨by decide +kernel, rfl⟩
theorem iX10_step_27 : In cX10_step 27 (.aload_n 0) 1 28 := ⟨by decide +kernel, rfl⟩
theorem iX10_step_28 : In cX10_step 28 (.getfield 44) 3 31 := ⟨by decide +kernel, rfl⟩
theorem iX10_step_31 : In cX10_step 31 (.iload_n 1) 1 32 := ⟨by decide +kernel, rfl⟩
theorem iX10_step_32 : In cX10_step 32 (.invokevirtual 195) 3 35 := ⟨by decide +kernel, rfl⟩
theorem iX10_step_35 : In cX10_step 35 (.aload_n 0) 1 36 := ⟨by decide +kernel, rfl⟩
theorem iX10_step_36 : In cX10_step 36 (.getfield 44) 3 39 := ⟨by decide +kernel, rfl⟩
theorem iX10_step_39 : In cX10_step 39 (.getfield 103) 3 42 := ⟨by decide +kernel, rfl⟩
theorem iX10_step_42 : In cX10_step 42 (.getfield 139) 3 45 := ⟨by decide +kernel, rfl⟩
theorem iX10_step_45 : In cX10_step 45 (.iload_n 1) 1 46 := ⟨by decide +kernel, rfl⟩
theorem iX10_step_46 : In cX10_step 46 (.iaload) 1 47 := ⟨by decide +kernel, rfl⟩
theorem iX10_step_47 : In cX10_step 47 (.ireturn) 1 48 := ⟨by decide +kernel, rfl⟩
theorem iX10_salute_0 : In cX10_salute 0 (.aload_n 0) 1 1 := ⟨by decide +kernel, rfl⟩
theorem iX10_salute_1 : In cX10_salute 1 (.getfield 29) 3 4 := ⟨by decide +kernel, rfl⟩
theorem iX10_salute_4 : In cX10_salute 4 (.iload_n 1) 1 5 := ⟨by decide +kernel, rfl⟩
theorem iX10_salute_5 : In cX10_salute 5 (.invokevirtual 119) 3 8 := ⟨by decide +kernel, rfl⟩
theorem iX10_salute_8 : Jn cX10_salute 8 (.ifCond .ne 5) (5) 11 13 := ⟨by decide +kernel, rfl, by decide⟩
theorem iX10_salute_11 : In cX10_salute 11 (.iconst (-1)) 1 12 := ⟨by decide +kernel, rfl⟩
theorem iX10_salute_12 : In cX10_salute 12 (.ireturn) 1 13 := ⟨by decide +kernel, rfl⟩
theorem iX10_salute_13 : In cX10_salute 13 (.iload_n 2) 1 14 := ⟨by decide +kernel, rfl⟩
theorem iX10_salute_14 : In cX10_salute 14 (.iconst 1) 1 15 := ⟨by decide +kernel, rfl⟩
theorem iX10_salute_15 : Jn cX10_salute 15 (.if_icmp .lt 9) (9) 18 24 := ⟨by decide +kernel, rfl, by decide⟩
theorem iX10_salute_18 : In cX10_salute 18 (.iload_n 2) 1 19 := ⟨by decide +kernel, rfl⟩
theorem iX10_salute_19 : In cX10_salute 19 (.bipush 9) 2 21 := ⟨by decide +kernel, rfl⟩
theorem iX10_salute_21 : Jn cX10_salute 21 (.if_icmp .le 6) (6) 24 27 := ⟨by decide +kernel, rfl, by decide⟩
theorem iX10_salute_24 : In cX10_salute 24 (.bipush (-2)) 2 26 := ⟨by decide +kernel, rfl⟩
theorem iX10_salute_26 : In cX10_salute 26 (.ireturn) 1 27 := ⟨by decide +kernel, rfl⟩
theorem iX10_salute_27 : In cX10_salute 27 (.aload_n 0) 1 28 := ⟨by decide +kernel, rfl⟩
theorem iX10_salute_28 : In cX10_salute 28 (.getfield 54) 3 31 := ⟨by decide +kernel, rfl⟩
theorem iX10_salute_31 : In cX10_salute 31 (.aload_n 0) 1 32 := ⟨by decide +kernel, rfl⟩
theorem iX10_salute_32 : In cX10_salute 32 (.getfield 44) 3 35 := ⟨by decide +kernel, rfl⟩
theorem iX10_salute_35 : In cX10_salute 35 (.getfield 103) 3 38 := ⟨by decide +kernel, rfl⟩
theorem iX10_salute_38 : In cX10_salute 38 (.invokevirtual 188) 3 41 := ⟨by decide +kernel, rfl⟩
theorem iX10_salute_41 : In cX10_salute 41 (.aload_n 0) 1 42 := ⟨by decide +kernel, rfl⟩
theorem iX10_salute_42 : In cX10_salute 42 (.getfield 44) 3 45 := ⟨by decide +kernel, rfl⟩
theorem iX10_salute_45 : In cX10_salute 45 (.getfield 103) 3 48 := ⟨by decide +kernel, rfl⟩
theorem iX10_salute_48 : In cX10_salute 48 (.iload_n 1) 1 49 := ⟨by decide +kernel, rfl⟩
theorem iX10_salute_49 : In cX10_salute 49 (.iload_n 2) 1 50 := ⟨by decide +kernel, rfl⟩
theorem iX10_salute_50 : In cX10_salute 50 (.invokevirtual 199) 3 53 := ⟨by decide +kernel, rfl⟩
theorem iX10_salute_53 : In cX10_salute 53 (.aload_n 0) 1 54 := ⟨by decide +kernel, rfl⟩
theorem iX10_salute_54 : In cX10_salute 54 (.getfield 44) 3 57 := ⟨by decide +kernel, rfl⟩
theorem iX10_salute_57 : In cX10_salute 57 (.getfield 103) 3 60 := ⟨by decide +kernel, rfl⟩
theorem iX10_salute_60 : In cX10_salute 60 (.getfield 136) 3 63 := ⟨by decide +kernel, rfl⟩
theorem iX10_salute_63 : In cX10_salute 63 (.iload_n 1) 1 64 := ⟨by decide +kernel, rfl⟩
theorem iX10_salute_64 : In cX10_salute 64 (.iaload) 1 65 := ⟨by decide +kernel, rfl⟩
theorem iX10_salute_65 : In cX10_salute 65 (.ireturn) 1 66 := ⟨by decide +kernel, rfl⟩
theorem iX10_undo_0 : In cX10_undo 0 (.aload_n 0) 1 1 := ⟨by decide +kernel, rfl⟩
theorem iX10_undo_1 : In cX10_undo 1 (.getfield 54) 3 4 := ⟨by decide +kernel, rfl⟩
theorem iX10_undo_4 : In cX10_undo 4 (.getfield 202) 3 7 := ⟨by decide +kernel, rfl⟩
theorem iX10_undo_7 : Jn cX10_undo 7 (.ifCond .ne 6) (6) 10 13 := ⟨by decide +kernel, rfl, by decide⟩
theorem iX10_undo_10 : In cX10_undo 10 (.bipush (-3)) 2 12 := ⟨by decide +kernel, rfl⟩
theorem iX10_undo_12 : In cX10_undo 12 (.ireturn) 1 13 := ⟨by decide +kernel, rfl⟩
theorem iX10_undo_13 : In cX10_undo 13 (.aload_n 0) 1 14 := ⟨by decide +kernel, rfl⟩
theorem iX10_undo_14 : In cX10_undo 14 (.getfield 54) 3 17 := ⟨by decide +kernel, rfl⟩
theorem iX10_undo_17 : In cX10_undo 17 (.aload_n 0) 1 18 := ⟨by decide +kernel, rfl⟩
theorem iX10_undo_18 : In cX10_undo 18 (.getfield 44) 3 21 := ⟨by decide +kernel, rfl⟩
theorem iX10_undo_21 : In cX10_undo 21 (.getfield 103) 3 24 := ⟨by decide +kernel, rfl⟩
theorem iX10_undo_24 : In cX10_undo 24 (.invokevirtual 205) 3 27 := ⟨by decide +kernel, rfl⟩
theorem iX10_undo_27 : In cX10_undo 27 (.aload_n 0) 1 28 := ⟨by decide +kernel, rfl⟩
theorem iX10_undo_28 : In cX10_undo 28 (.getfield 54) 3 31 := ⟨by decide +kernel, rfl⟩
theorem iX10_undo_31 : In cX10_undo 31 (.getfield 202) 3 34 := ⟨by decide +kernel, rfl⟩
theorem iX10_undo_34 : In cX10_undo 34 (.ireturn) 1 35 := ⟨by decide +kernel, rfl⟩
theorem iX10_chain_0 : In cX10_chain 0 (.aload_n 0) 1 1 := ⟨by decide +kernel, rfl⟩
theorem iX10_chain_1 : In cX10_chain 1 (.getfield 29) 3 4 := ⟨by decide +kernel, rfl⟩
theorem iX10_chain_4 : In cX10_chain 4 (.iload_n 1) 1 5 := ⟨by decide +kernel, rfl⟩
theorem iX10_chain_5 : In cX10_chain 5 (.invokevirtual 119) 3 8 := ⟨by decide +kernel, rfl⟩
theorem iX10_chain_8 : Jn cX10_chain 8 (.ifCond .eq 14) (14) 11 22 := ⟨by decide +kernel, rfl, by decide⟩
theorem iX10_chain_11 : In cX10_chain 11 (.aload_n 0) 1 12 := ⟨by decide +kernel, rfl⟩
theorem iX10_chain_12 : In cX10_chain 12 (.getfield 29) 3 15 := ⟨by decide +kernel, rfl⟩
theorem iX10_chain_15 : In cX10_chain 15 (.iload_n 2) 1 16 := ⟨by decide +kernel, rfl⟩
theorem iX10_chain_16 : In cX10_chain 16 (.invokevirtual 152) 3 19 := ⟨by decide +kernel, rfl⟩
theorem iX10_chain_19 : Jn cX10_chain 19 (.ifCond .ne 5) (5) 22 24 := ⟨by decide +kernel, rfl, by decide⟩
theorem iX10_chain_22 : In cX10_chain 22 (.iconst (-1)) 1 23 := ⟨by decide +kernel, rfl⟩
theorem iX10_chain_23 : In cX10_chain 23 (.ireturn) 1 24 := ⟨by decide +kernel, rfl⟩
theorem iX10_chain_24 : In cX10_chain 24 (.iload_n 3) 1 25 := ⟨by decide +kernel, rfl⟩
theorem iX10_chain_25 : Jn cX10_chain 25 (.ifCond .lt 8) (8) 28 33 := ⟨by decide +kernel, rfl, by decide⟩
theorem iX10_chain_28 : In cX10_chain 28 (.iload_n 3) 1 29 := ⟨by decide +kernel, rfl⟩
theorem iX10_chain_29 : In cX10_chain 29 (.iconst 1) 1 30 := ⟨by decide +kernel, rfl⟩
theorem iX10_chain_30 : Jn cX10_chain 30 (.if_icmp .le 6) (6) 33 36 := ⟨by decide +kernel, rfl, by decide⟩
theorem iX10_chain_33 : In cX10_chain 33 (.bipush (-2)) 2 35 := ⟨by decide +kernel, rfl⟩
theorem iX10_chain_35 : In cX10_chain 35 (.ireturn) 1 36 := ⟨by decide +kernel, rfl⟩
theorem iX10_chain_36 : In cX10_chain 36 (.aload_n 0) 1 37 := ⟨by decide +kernel, rfl⟩
theorem iX10_chain_37 : In cX10_chain 37 (.getfield 63) 3 40 := ⟨by decide +kernel, rfl⟩
theorem iX10_chain_40 : In cX10_chain 40 (.iload_n 1) 1 41 := ⟨by decide +kernel, rfl⟩
theorem iX10_chain_41 : In cX10_chain 41 (.iload_n 2) 1 42 := ⟨by decide +kernel, rfl⟩
theorem iX10_chain_42 : In cX10_chain 42 (.invokevirtual 208) 3 45 := ⟨by decide +kernel, rfl⟩
theorem iX10_chain_45 : In cX10_chain 45 (.iload_n 3) 1 46 := ⟨by decide +kernel, rfl⟩
theorem iX10_chain_46 : Jn cX10_chain 46 (.ifCond .ne 13) (13) 49 59 := ⟨by decide +kernel, rfl, by decide⟩
theorem iX10_chain_49 : In cX10_chain 49 (.aload_n 0) 1 50 := ⟨by decide +kernel, rfl⟩
theorem iX10_chain_50 : In cX10_chain 50 (.getfield 63) 3 53 := ⟨by decide +kernel, rfl⟩
theorem iX10_chain_53 : In cX10_chain 53 (.getfield 211) 3 56 := ⟨by decide +kernel, rfl⟩
theorem iX10_chain_56 : Jn cX10_chain 56 (.goto 10) (10) 59 66 := ⟨by decide +kernel, rfl, by decide⟩
theorem iX10_chain_59 : In cX10_chain 59 (.aload_n 0) 1 60 := ⟨by decide +kernel, rfl⟩
theorem iX10_chain_60 : In cX10_chain 60 (.getfield 63) 3 63 := ⟨by decide +kernel, rfl⟩
theorem iX10_chain_63 : In cX10_chain 63 (.getfield 214) 3 66 := ⟨by decide +kernel, rfl⟩
theorem iX10_chain_66 : In cX10_chain 66 (.ireturn) 1 67 := ⟨by decide +kernel, rfl⟩
theorem iX10_order_0 : In cX10_order 0 (.iload_n 1) 1 1 := ⟨by decide +kernel, rfl⟩
theorem iX10_order_1 : Jn cX10_order 1 (.ifCond .lt 8) (8) 4 9 := ⟨by decide +kernel, rfl, by decide⟩
theorem iX10_order_4 : In cX10_order 4 (.iload_n 1) 1 5 := ⟨by decide +kernel, rfl⟩
theorem iX10_order_5 : In cX10_order 5 (.iconst 1) 1 6 := ⟨by decide +kernel, rfl⟩
theorem iX10_order_6 : Jn cX10_order 6 (.if_icmp .le 6) (6) 9 12 := ⟨by decide +kernel, rfl, by decide⟩
theorem iX10_order_9 : In cX10_order 9 (.bipush (-2)) 2 11 := ⟨by decide +kernel, rfl⟩
theorem iX10_order_11 : In cX10_order 11 (.ireturn) 1 12 := ⟨by decide +kernel, rfl⟩
theorem iX10_order_12 : In cX10_order 12 (.aload_n 0) 1 13 := ⟨by decide +kernel, rfl⟩
theorem iX10_order_13 : In cX10_order 13 (.getfield 63) 3 16 := ⟨by decide +kernel, rfl⟩
theorem iX10_order_16 : In cX10_order 16 (.invokevirtual 217) 3 19 := ⟨by decide +kernel, rfl⟩
theorem iX10_order_19 : In cX10_order 19 (.iload_n 1) 1 20 := ⟨by decide +kernel, rfl⟩
theorem iX10_order_20 : Jn cX10_order 20 (.ifCond .ne 13) (13) 23 33 := ⟨by decide +kernel, rfl, by decide⟩
theorem iX10_order_23 : In cX10_order 23 (.aload_n 0) 1 24 := ⟨by decide +kernel, rfl⟩
theorem iX10_order_24 : In cX10_order 24 (.getfield 63) 3 27 := ⟨by decide +kernel, rfl⟩
theorem iX10_order_27 : In cX10_order 27 (.invokevirtual 220) 3 30 := ⟨by decide +kernel, rfl⟩
theorem iX10_order_30 : Jn cX10_order 30 (.goto 10) (10) 33 40 := ⟨by decide +kernel, rfl, by decide⟩
theorem iX10_order_33 : In cX10_order 33 (.aload_n 0) 1 34 := ⟨by decide +kernel, rfl⟩
theorem iX10_order_34 : In cX10_order 34 (.getfield 63) 3 37 := ⟨by decide +kernel, rfl⟩
theorem iX10_order_37 : In cX10_order 37 (.invokevirtual 223) 3 40 := ⟨by decide +kernel, rfl⟩
theorem iX10_order_40 : In cX10_order 40 (.ireturn) 1 41 := ⟨by decide +kernel, rfl⟩
theorem iX10_judge_0 : In cX10_judge 0 (.iload_n 1) 1 1 := ⟨by decide +kernel, rfl⟩
theorem iX10_judge_1 : In cX10_judge 1 (.iconst 1) 1 2 := ⟨by decide +kernel, rfl⟩
theorem iX10_judge_2 : Jn cX10_judge 2 (.if_icmp .lt 24) (24) 5 26 := ⟨by decide +kernel, rfl, by decide⟩
theorem iX10_judge_5 : In cX10_judge 5 (.iload_n 1) 1 6 := ⟨by decide +kernel, rfl⟩
theorem iX10_judge_6 : In cX10_judge 6 (.iconst 4) 1 7 := ⟨by decide +kernel, rfl⟩
theorem iX10_judge_7 : Jn cX10_judge 7 (.if_icmp .gt 19) (19) 10 26 := ⟨by decide +kernel, rfl, by decide⟩
theorem iX10_judge_10 : In cX10_judge 10 (.lload_n 2) 1 11 := ⟨by decide +kernel, rfl⟩
theorem iX10_judge_11 : In cX10_judge 11 (.lconst 0) 1 12 := ⟨by decide +kernel, rfl⟩
theorem iX10_judge_12 : In cX10_judge 12 (.lcmp) 1 13 := ⟨by decide +kernel, rfl⟩
theorem iX10_judge_13 : Jn cX10_judge 13 (.ifCond .lt 13) (13) 16 26 := ⟨by decide +kernel, rfl, by decide⟩
theorem iX10_judge_16 : In cX10_judge 16 (.lload_n 2) 1 17 := ⟨by decide +kernel, rfl⟩
theorem iX10_judge_17 : In cX10_judge 17 (.getstatic 226) 3 20 := ⟨by decide +kernel, rfl⟩
theorem iX10_judge_20 : In cX10_judge 20 (.iload_n 1) 1 21 := ⟨by decide +kernel, rfl⟩
theorem iX10_judge_21 : In cX10_judge 21 (.laload) 1 22 := ⟨by decide +kernel, rfl⟩
theorem iX10_judge_22 : In cX10_judge 22 (.lcmp) 1 23 := ⟨by decide +kernel, rfl⟩
theorem iX10_judge_23 : Jn cX10_judge 23 (.ifCond .lt 6) (6) 26 29 := ⟨by decide +kernel, rfl, by decide⟩
theorem iX10_judge_26 : In cX10_judge 26 (.bipush (-2)) 2 28 := ⟨by decide +kernel, rfl⟩
theorem iX10_judge_28 : In cX10_judge 28 (.ireturn) 1 29 := ⟨by decide +kernel, rfl⟩
theorem iX10_judge_29 : In cX10_judge 29 (.aload_n 0) 1 30 := ⟨by decide +kernel, rfl⟩
theorem iX10_judge_30 : In cX10_judge 30 (.getfield 48) 3 33 := ⟨by decide +kernel, rfl⟩
theorem iX10_judge_33 : In cX10_judge 33 (.getfield 103) 3 36 := ⟨by decide +kernel, rfl⟩
theorem iX10_judge_36 : In cX10_judge 36 (.aload_n 0) 1 37 := ⟨by decide +kernel, rfl⟩
theorem iX10_judge_37 : In cX10_judge 37 (.getfield 44) 3 40 := ⟨by decide +kernel, rfl⟩
theorem iX10_judge_40 : In cX10_judge 40 (.getfield 103) 3 43 := ⟨by decide +kernel, rfl⟩
theorem iX10_judge_43 : In cX10_judge 43 (.invokevirtual 230) 3 46 := ⟨by decide +kernel, rfl⟩
theorem iX10_judge_46 : In cX10_judge 46 (.iconst 0) 1 47 := ⟨by decide +kernel, rfl⟩
theorem iX10_judge_47 : In cX10_judge 47 (.istore 4) 2 49 := ⟨by decide +kernel, rfl⟩
theorem iX10_judge_49 : In cX10_judge 49 (.iload 4) 2 51 := ⟨by decide +kernel, rfl⟩
theorem iX10_judge_51 : In cX10_judge 51 (.iload_n 1) 1 52 := ⟨by decide +kernel, rfl⟩
theorem iX10_judge_52 : Jn cX10_judge 52 (.if_icmp .ge 59) (59) 55 111 := ⟨by decide +kernel, rfl, by decide⟩
theorem iX10_judge_55 : In cX10_judge 55 (.lload_n 2) 1 56 := ⟨by decide +kernel, rfl⟩
theorem iX10_judge_56 : In cX10_judge 56 (.getstatic 226) 3 59 := ⟨by decide +kernel, rfl⟩
theorem iX10_judge_59 : In cX10_judge 59 (.iload_n 1) 1 60 := ⟨by decide +kernel, rfl⟩
theorem iX10_judge_60 : In cX10_judge 60 (.iconst 1) 1 61 := ⟨by decide +kernel, rfl⟩
theorem iX10_judge_61 : In cX10_judge 61 (.isub) 1 62 := ⟨by decide +kernel, rfl⟩
theorem iX10_judge_62 : In cX10_judge 62 (.iload 4) 2 64 := ⟨by decide +kernel, rfl⟩
theorem iX10_judge_64 : In cX10_judge 64 (.isub) 1 65 := ⟨by decide +kernel, rfl⟩
theorem iX10_judge_65 : In cX10_judge 65 (.laload) 1 66 := ⟨by decide +kernel, rfl⟩
theorem iX10_judge_66 : In cX10_judge 66 (.ldiv) 1 67 := ⟨by decide +kernel, rfl⟩
theorem iX10_judge_67 : In cX10_judge 67 (.ldc2_w 232) 3 70 := ⟨by decide +kernel, rfl⟩
theorem iX10_judge_70 : In cX10_judge 70 (.lrem) 1 71 := ⟨by decide +kernel, rfl⟩
theorem iX10_judge_71 : In cX10_judge 71 (.l2i) 1 72 := ⟨by decide +kernel, rfl⟩
theorem iX10_judge_72 : In cX10_judge 72 (.istore 5) 2 74 := ⟨by decide +kernel, rfl⟩
theorem iX10_judge_74 : In cX10_judge 74 (.aload_n 0) 1 75 := ⟨by decide +kernel, rfl⟩
theorem iX10_judge_75 : In cX10_judge 75 (.getfield 48) 3 78 := ⟨by decide +kernel, rfl⟩
theorem iX10_judge_78 : In cX10_judge 78 (.iload 5) 2 80 := ⟨by decide +kernel, rfl⟩
theorem iX10_judge_80 : In cX10_judge 80 (.bipush 100) 2 82 := ⟨by decide +kernel, rfl⟩
theorem iX10_judge_82 : In cX10_judge 82 (.idiv) 1 83 := ⟨by decide +kernel, rfl⟩
theorem iX10_judge_83 : In cX10_judge 83 (.iload 5) 2 85 := ⟨by decide +kernel, rfl⟩
theorem iX10_judge_85 : In cX10_judge 85 (.bipush 10) 2 87 := ⟨by decide +kernel, rfl⟩
theorem iX10_judge_87 : In cX10_judge 87 (.idiv) 1 88 := ⟨by decide +kernel, rfl⟩
theorem iX10_judge_88 : In cX10_judge 88 (.bipush 10) 2 90 := ⟨by decide +kernel, rfl⟩
theorem iX10_judge_90 : In cX10_judge 90 (.irem) 1 91 := ⟨by decide +kernel, rfl⟩
theorem iX10_judge_91 : In cX10_judge 91 (.iload 5) 2 93 := ⟨by decide +kernel, rfl⟩
theorem iX10_judge_93 : In cX10_judge 93 (.bipush 10) 2 95 := ⟨by decide +kernel, rfl⟩
theorem iX10_judge_95 : In cX10_judge 95 (.irem) 1 96 := ⟨by decide +kernel, rfl⟩
theorem iX10_judge_96 : In cX10_judge 96 (.invokevirtual 234) 3 99 := ⟨by decide +kernel, rfl⟩
theorem iX10_judge_99 : Jn cX10_judge 99 (.ifCond .ne 6) (6) 102 105 := ⟨by decide +kernel, rfl, by decide⟩
theorem iX10_judge_102 : In cX10_judge 102 (.iload 4) 2 104 := ⟨by decide +kernel, rfl⟩
theorem iX10_judge_104 : In cX10_judge 104 (.ireturn) 1 105 := ⟨by decide +kernel, rfl⟩
theorem iX10_judge_105 : In cX10_judge 105 (.iinc 4 1) 3 108 := ⟨by decide +kernel, rfl⟩
theorem iX10_judge_108 : Jn cX10_judge 108 (.goto (-59)) (-59) 111 49 := ⟨by decide +kernel, rfl, by decide⟩
theorem iX10_judge_111 : In cX10_judge 111 (.bipush (-9)) 2 113 := ⟨by decide +kernel, rfl⟩
theorem iX10_judge_113 : In cX10_judge 113 (.ireturn) 1 114 := ⟨by decide +kernel, rfl⟩
theorem iX10_see_0 : In cX10_see 0 (.aload_n 0) 1 1 := ⟨by decide +kernel, rfl⟩
theorem iX10_see_1 : In cX10_see 1 (.getfield 29) 3 4 := ⟨by decide +kernel, rfl⟩
theorem iX10_see_4 : In cX10_see 4 (.iload_n 1) 1 5 := ⟨by decide +kernel, rfl⟩
theorem iX10_see_5 : In cX10_see 5 (.invokevirtual 119) 3 8 := ⟨by decide +kernel, rfl⟩
theorem iX10_see_8 : Jn cX10_see 8 (.ifCond .ne 5) (5) 11 13 := ⟨by decide +kernel, rfl, by decide⟩
theorem iX10_see_11 : In cX10_see 11 (.iconst (-1)) 1 12 := ⟨by decide +kernel, rfl⟩
theorem iX10_see_12 : In cX10_see 12 (.ireturn) 1 13 := ⟨by decide +kernel, rfl⟩
theorem iX10_see_13 : In cX10_see 13 (.iload_n 2) 1 14 := ⟨by decide +kernel, rfl⟩
theorem iX10_see_14 : Jn cX10_see 14 (.ifCond .lt 9) (9) 17 23 := ⟨by decide +kernel, rfl, by decide⟩
theorem iX10_see_17 : In cX10_see 17 (.iload_n 2) 1 18 := ⟨by decide +kernel, rfl⟩
theorem iX10_see_18 : In cX10_see 18 (.bipush 9) 2 20 := ⟨by decide +kernel, rfl⟩
theorem iX10_see_20 : Jn cX10_see 20 (.if_icmp .le 6) (6) 23 26 := ⟨by decide +kernel, rfl, by decide⟩
theorem iX10_see_23 : In cX10_see 23 (.bipush (-2)) 2 25 := ⟨by decide +kernel, rfl⟩
theorem iX10_see_25 : In cX10_see 25 (.ireturn) 1 26 := ⟨by decide +kernel, rfl⟩
theorem iX10_see_26 : In cX10_see 26 (.aload_n 0) 1 27 := ⟨by decide +kernel, rfl⟩
theorem iX10_see_27 : In cX10_see 27 (.getfield 77) 3 30 := ⟨by decide +kernel, rfl⟩
theorem iX10_see_30 : In cX10_see 30 (.getfield 238) 3 33 := ⟨by decide +kernel, rfl⟩
theorem iX10_see_33 : In cX10_see 33 (.bipush 6) 2 35 := ⟨by decide +kernel, rfl⟩
theorem iX10_see_35 : Jn cX10_see 35 (.if_icmp .lt 6) (6) 38 41 := ⟨by decide +kernel, rfl, by decide⟩
theorem iX10_see_38 : In cX10_see 38 (.bipush (-4)) 2 40 := ⟨by decide +kernel, rfl⟩
theorem iX10_see_40 : In cX10_see 40 (.ireturn) 1 41 := ⟨by decide +kernel, rfl⟩
theorem iX10_see_41 : In cX10_see 41 (.aload_n 0) 1 42 := ⟨by decide +kernel, rfl⟩
theorem iX10_see_42 : In cX10_see 42 (.getfield 77) 3 45 := ⟨by decide +kernel, rfl⟩
theorem iX10_see_45 : In cX10_see 45 (.iload_n 1) 1 46 := ⟨by decide +kernel, rfl⟩
theorem iX10_see_46 : In cX10_see 46 (.iload_n 2) 1 47 := ⟨by decide +kernel, rfl⟩
theorem iX10_see_47 : In cX10_see 47 (.invokevirtual 239) 3 50 := ⟨by decide +kernel, rfl⟩
theorem iX10_see_50 : In cX10_see 50 (.aload_n 0) 1 51 := ⟨by decide +kernel, rfl⟩
theorem iX10_see_51 : In cX10_see 51 (.getfield 77) 3 54 := ⟨by decide +kernel, rfl⟩
theorem iX10_see_54 : In cX10_see 54 (.getfield 238) 3 57 := ⟨by decide +kernel, rfl⟩
theorem iX10_see_57 : In cX10_see 57 (.ireturn) 1 58 := ⟨by decide +kernel, rfl⟩
theorem iX10_unsee_0 : In cX10_unsee 0 (.aload_n 0) 1 1 := ⟨by decide +kernel, rfl⟩
theorem iX10_unsee_1 : In cX10_unsee 1 (.getfield 77) 3 4 := ⟨by decide +kernel, rfl⟩
theorem iX10_unsee_4 : In cX10_unsee 4 (.getfield 238) 3 7 := ⟨by decide +kernel, rfl⟩
theorem iX10_unsee_7 : In cX10_unsee 7 (.istore_n 1) 1 8 := ⟨by decide +kernel, rfl⟩
theorem iX10_unsee_8 : In cX10_unsee 8 (.aload_n 0) 1 9 := ⟨by decide +kernel, rfl⟩
theorem iX10_unsee_9 : In cX10_unsee 9 (.getfield 77) 3 12 := ⟨by decide +kernel, rfl⟩
theorem iX10_unsee_12 : In cX10_unsee 12 (.iconst 0) 1 13 := ⟨by decide +kernel, rfl⟩
theorem iX10_unsee_13 : In cX10_unsee 13 (.putfield 238) 3 16 := ⟨by decide +kernel, rfl⟩
theorem iX10_unsee_16 : In cX10_unsee 16 (.iload_n 1) 1 17 := ⟨by decide +kernel, rfl⟩
theorem iX10_unsee_17 : In cX10_unsee 17 (.ireturn) 1 18 := ⟨by decide +kernel, rfl⟩
theorem iX10_masks_0 : In cX10_masks 0 (.iload_n 1) 1 1 := ⟨by decide +kernel, rfl⟩
theorem iX10_masks_1 : Jn cX10_masks 1 (.ifCond .lt 8) (8) 4 9 := ⟨by decide +kernel, rfl, by decide⟩
theorem iX10_masks_4 : In cX10_masks 4 (.iload_n 1) 1 5 := ⟨by decide +kernel, rfl⟩
theorem iX10_masks_5 : In cX10_masks 5 (.iconst 1) 1 6 := ⟨by decide +kernel, rfl⟩
theorem iX10_masks_6 : Jn cX10_masks 6 (.if_icmp .le 6) (6) 9 12 := ⟨by decide +kernel, rfl, by decide⟩
theorem iX10_masks_9 : In cX10_masks 9 (.bipush (-2)) 2 11 := ⟨by decide +kernel, rfl⟩
theorem iX10_masks_11 : In cX10_masks 11 (.ireturn) 1 12 := ⟨by decide +kernel, rfl⟩
theorem iX10_masks_12 : In cX10_masks 12 (.aload_n 0) 1 13 := ⟨by decide +kernel, rfl⟩
theorem iX10_masks_13 : In cX10_masks 13 (.getfield 77) 3 16 := ⟨by decide +kernel, rfl⟩
theorem iX10_masks_16 : In cX10_masks 16 (.invokevirtual 242) 3 19 := ⟨by decide +kernel, rfl⟩
theorem iX10_masks_19 : In cX10_masks 19 (.iload_n 1) 1 20 := ⟨by decide +kernel, rfl⟩
theorem iX10_masks_20 : Jn cX10_masks 20 (.ifCond .ne 13) (13) 23 33 := ⟨by decide +kernel, rfl, by decide⟩
theorem iX10_masks_23 : In cX10_masks 23 (.aload_n 0) 1 24 := ⟨by decide +kernel, rfl⟩
theorem iX10_masks_24 : In cX10_masks 24 (.getfield 77) 3 27 := ⟨by decide +kernel, rfl⟩
theorem iX10_masks_27 : In cX10_masks 27 (.getfield 245) 3 30 := ⟨by decide +kernel, rfl⟩
theorem iX10_masks_30 : Jn cX10_masks 30 (.goto 10) (10) 33 40 := ⟨by decide +kernel, rfl, by decide⟩
theorem iX10_masks_33 : In cX10_masks 33 (.aload_n 0) 1 34 := ⟨by decide +kernel, rfl⟩
theorem iX10_masks_34 : In cX10_masks 34 (.getfield 77) 3 37 := ⟨by decide +kernel, rfl⟩
theorem iX10_masks_37 : In cX10_masks 37 (.getfield 248) 3 40 := ⟨by decide +kernel, rfl⟩
theorem iX10_masks_40 : In cX10_masks 40 (.ireturn) 1 41 := ⟨by decide +kernel, rfl⟩
theorem iX10_share_0 : In cX10_share 0 (.aload_n 0) 1 1 := ⟨by decide +kernel, rfl⟩
theorem iX10_share_1 : In cX10_share 1 (.getfield 29) 3 4 := ⟨by decide +kernel, rfl⟩
theorem iX10_share_4 : In cX10_share 4 (.iload_n 1) 1 5 := ⟨by decide +kernel, rfl⟩
theorem iX10_share_5 : In cX10_share 5 (.invokevirtual 119) 3 8 := ⟨by decide +kernel, rfl⟩
theorem iX10_share_8 : Jn cX10_share 8 (.ifCond .ne 5) (5) 11 13 := ⟨by decide +kernel, rfl, by decide⟩
theorem iX10_share_11 : In cX10_share 11 (.iconst (-1)) 1 12 := ⟨by decide +kernel, rfl⟩
theorem iX10_share_12 : In cX10_share 12 (.ireturn) 1 13 := ⟨by decide +kernel, rfl⟩
theorem iX10_share_13 : In cX10_share 13 (.aload_n 0) 1 14 := ⟨by decide +kernel, rfl⟩
theorem iX10_share_14 : In cX10_share 14 (.getfield 70) 3 17 := ⟨by decide +kernel, rfl⟩
theorem iX10_share_17 : In cX10_share 17 (.iload_n 1) 1 18 := ⟨by decide +kernel, rfl⟩
theorem iX10_share_18 : In cX10_share 18 (.invokevirtual 251) 3 21 := ⟨by decide +kernel, rfl⟩
theorem iX10_share_21 : In cX10_share 21 (.aload_n 0) 1 22 := ⟨by decide +kernel, rfl⟩
theorem iX10_share_22 : In cX10_share 22 (.getfield 70) 3 25 := ⟨by decide +kernel, rfl⟩
theorem iX10_share_25 : In cX10_share 25 (.iload_n 2) 1 26 := ⟨by decide +kernel, rfl⟩
theorem iX10_share_26 : In cX10_share 26 (.invokevirtual 254) 3 29 := ⟨by decide +kernel, rfl⟩
theorem iX10_share_29 : In cX10_share 29 (.ireturn) 1 30 := ⟨by decide +kernel, rfl⟩
theorem iX10_rests_0 : In cX10_rests 0 (.aload_n 0) 1 1 := ⟨by decide +kernel, rfl⟩
theorem iX10_rests_1 : In cX10_rests 1 (.iload_n 1) 1 2 := ⟨by decide +kernel, rfl⟩
theorem iX10_rests_2 : In cX10_rests 2 (.iload_n 2) 1 3 := ⟨by decide +kernel, rfl⟩
theorem iX10_rests_3 : In cX10_rests 3 (.iload_n 3) 1 4 := ⟨by decide +kernel, rfl⟩
theorem iX10_rests_4 : In cX10_rests 4 (.iconst 1) 1 5 := ⟨by decide +kernel, rfl⟩
theorem iX10_rests_5 : In cX10_rests 5 (.invokevirtual 164) 3 8 := ⟨by decide +kernel, rfl⟩
theorem iX10_rests_8 : In cX10_rests 8 (.istore 4) 2 10 := ⟨by decide +kernel, rfl⟩
theorem iX10_rests_10 : In cX10_rests 10 (.iload 4) 2 12 := ⟨by decide +kernel, rfl⟩
theorem iX10_rests_12 : In cX10_rests 12 (.bipush (-9)) 2 14 := ⟨by decide +kernel, rfl⟩
theorem iX10_rests_14 : Jn cX10_rests 14 (.if_icmp .eq 6) (6) 17 20 := ⟨by decide +kernel, rfl, by decide⟩
theorem iX10_rests_17 : In cX10_rests 17 (.iload 4) 2 19 := ⟨by decide +kernel, rfl⟩
theorem iX10_rests_19 : In cX10_rests 19 (.ireturn) 1 20 := ⟨by decide +kernel, rfl⟩
theorem iX10_rests_20 : In cX10_rests 20 (.aload_n 0) 1 21 := ⟨by decide +kernel, rfl⟩
theorem iX10_rests_21 : In cX10_rests 21 (.getfield 70) 3 24 := ⟨by decide +kernel, rfl⟩
theorem iX10_rests_24 : In cX10_rests 24 (.iload_n 1) 1 25 := ⟨by decide +kernel, rfl⟩
theorem iX10_rests_25 : In cX10_rests 25 (.iload_n 2) 1 26 := ⟨by decide +kernel, rfl⟩
theorem iX10_rests_26 : In cX10_rests 26 (.invokevirtual 258) 3 29 := ⟨by decide +kernel, rfl⟩
theorem iX10_rests_29 : In cX10_rests 29 (.iload_n 3) 1 30 := ⟨by decide +kernel, rfl⟩
theorem iX10_rests_30 : Jn cX10_rests 30 (.ifCond .ne 13) (13) 33 43 := ⟨by decide +kernel, rfl, by decide⟩
theorem iX10_rests_33 : In cX10_rests 33 (.aload_n 0) 1 34 := ⟨by decide +kernel, rfl⟩
theorem iX10_rests_34 : In cX10_rests 34 (.getfield 70) 3 37 := ⟨by decide +kernel, rfl⟩
theorem iX10_rests_37 : In cX10_rests 37 (.getfield 261) 3 40 := ⟨by decide +kernel, rfl⟩
theorem iX10_rests_40 : Jn cX10_rests 40 (.goto 10) (10) 43 50 := ⟨by decide +kernel, rfl, by decide⟩
theorem iX10_rests_43 : In cX10_rests 43 (.aload_n 0) 1 44 := ⟨by decide +kernel, rfl⟩
theorem iX10_rests_44 : In cX10_rests 44 (.getfield 70) 3 47 := ⟨by decide +kernel, rfl⟩
theorem iX10_rests_47 : In cX10_rests 47 (.getfield 264) 3 50 := ⟨by decide +kernel, rfl⟩
theorem iX10_rests_50 : In cX10_rests 50 (.ireturn) 1 51 := ⟨by decide +kernel, rfl⟩
theorem iX10_clouded_0 : In cX10_clouded 0 (.aload_n 0) 1 1 := ⟨by decide +kernel, rfl⟩
theorem iX10_clouded_1 : In cX10_clouded 1 (.iload_n 1) 1 2 := ⟨by decide +kernel, rfl⟩
theorem iX10_clouded_2 : In cX10_clouded 2 (.iload_n 2) 1 3 := ⟨by decide +kernel, rfl⟩
theorem iX10_clouded_3 : In cX10_clouded 3 (.iload_n 3) 1 4 := ⟨by decide +kernel, rfl⟩
theorem iX10_clouded_4 : In cX10_clouded 4 (.bipush 10) 2 6 := ⟨by decide +kernel, rfl⟩
theorem iX10_clouded_6 : In cX10_clouded 6 (.invokevirtual 164) 3 9 := ⟨by decide +kernel, rfl⟩
theorem iX10_clouded_9 : In cX10_clouded 9 (.istore 5) 2 11 := ⟨by decide +kernel, rfl⟩
theorem iX10_clouded_11 : In cX10_clouded 11 (.iload 5) 2 13 := ⟨by decide +kernel, rfl⟩
theorem iX10_clouded_13 : In cX10_clouded 13 (.bipush (-9)) 2 15 := ⟨by decide +kernel, rfl⟩
theorem iX10_clouded_15 : Jn cX10_clouded 15 (.if_icmp .eq 6) (6) 18 21 := ⟨by decide +kernel, rfl, by decide⟩
theorem iX10_clouded_18 : In cX10_clouded 18 (.iload 5) 2 20 := ⟨by decide +kernel, rfl⟩
theorem iX10_clouded_20 : In cX10_clouded 20 (.ireturn) 1 21 := ⟨by decide +kernel, rfl⟩
theorem iX10_clouded_21 : In cX10_clouded 21 (.aload_n 0) 1 22 := ⟨by decide +kernel, rfl⟩
theorem iX10_clouded_22 : In cX10_clouded 22 (.getfield 70) 3 25 := ⟨by decide +kernel, rfl⟩
theorem iX10_clouded_25 : In cX10_clouded 25 (.iload_n 1) 1 26 := ⟨by decide +kernel, rfl⟩
theorem iX10_clouded_26 : In cX10_clouded 26 (.iload_n 2) 1 27 := ⟨by decide +kernel, rfl⟩
theorem iX10_clouded_27 : In cX10_clouded 27 (.iload_n 3) 1 28 := ⟨by decide +kernel, rfl⟩
theorem iX10_clouded_28 : In cX10_clouded 28 (.invokevirtual 267) 3 31 := ⟨by decide +kernel, rfl⟩
theorem iX10_clouded_31 : In cX10_clouded 31 (.aload_n 0) 1 32 := ⟨by decide +kernel, rfl⟩
theorem iX10_clouded_32 : In cX10_clouded 32 (.getfield 70) 3 35 := ⟨by decide +kernel, rfl⟩
theorem iX10_clouded_35 : In cX10_clouded 35 (.iload 4) 2 37 := ⟨by decide +kernel, rfl⟩
theorem iX10_clouded_37 : In cX10_clouded 37 (.invokevirtual 254) 3 40 := ⟨by decide +kernel, rfl⟩
theorem iX10_clouded_40 : In cX10_clouded 40 (.ireturn) 1 41 := ⟨by decide +kernel, rfl⟩
theorem iX10_seed_0 : In cX10_seed 0 (.aload_n 0) 1 1 := ⟨by decide +kernel, rfl⟩
theorem iX10_seed_1 : In cX10_seed 1 (.getfield 271) 3 4 := ⟨by decide +kernel, rfl⟩
theorem iX10_seed_4 : In cX10_seed 4 (.lstore_n 3) 1 5 := ⟨by decide +kernel, rfl⟩
theorem iX10_seed_5 : In cX10_seed 5 (.aload_n 0) 1 6 := ⟨by decide +kernel, rfl⟩
theorem iX10_seed_6 : In cX10_seed 6 (.lload_n 1) 1 7 := ⟨by decide +kernel, rfl⟩
theorem iX10_seed_7 : In cX10_seed 7 (.putfield 271) 3 10 := ⟨by decide +kernel, rfl⟩
theorem iX10_seed_10 : In cX10_seed 10 (.lload_n 3) 1 11 := ⟨by decide +kernel, rfl⟩
theorem iX10_seed_11 : In cX10_seed 11 (.lreturn) 1 12 := ⟨by decide +kernel, rfl⟩
theorem iX10_feasts_0 : In cX10_feasts 0 (.iload_n 1) 1 1 := ⟨by decide +kernel, rfl⟩
theorem iX10_feasts_1 : In cX10_feasts 1 (.iconst 1) 1 2 := ⟨by decide +kernel, rfl⟩
theorem iX10_feasts_2 : Jn cX10_feasts 2 (.if_icmp .lt 9) (9) 5 11 := ⟨by decide +kernel, rfl, by decide⟩
theorem iX10_feasts_5 : In cX10_feasts 5 (.iload_n 1) 1 6 := ⟨by decide +kernel, rfl⟩
theorem iX10_feasts_6 : In cX10_feasts 6 (.bipush 30) 2 8 := ⟨by decide +kernel, rfl⟩
theorem iX10_feasts_8 : Jn cX10_feasts 8 (.if_icmp .le 6) (6) 11 14 := ⟨by decide +kernel, rfl, by decide⟩
theorem iX10_feasts_11 : In cX10_feasts 11 (.bipush (-2)) 2 13 := ⟨by decide +kernel, rfl⟩
theorem iX10_feasts_13 : In cX10_feasts 13 (.ireturn) 1 14 := ⟨by decide +kernel, rfl⟩
theorem iX10_feasts_14 : In cX10_feasts 14 (.aload_n 0) 1 15 := ⟨by decide +kernel, rfl⟩
theorem iX10_feasts_15 : In cX10_feasts 15 (.getfield 48) 3 18 := ⟨by decide +kernel, rfl⟩
theorem iX10_feasts_18 : In cX10_feasts 18 (.getfield 103) 3 21 := ⟨by decide +kernel, rfl⟩
theorem iX10_feasts_21 : In cX10_feasts 21 (.aload_n 0) 1 22 := ⟨by decide +kernel, rfl⟩
theorem iX10_feasts_22 : In cX10_feasts 22 (.getfield 44) 3 25 := ⟨by decide +kernel, rfl⟩
theorem iX10_feasts_25 : In cX10_feasts 25 (.getfield 103) 3 28 := ⟨by decide +kernel, rfl⟩
theorem iX10_feasts_28 : In cX10_feasts 28 (.invokevirtual 230) 3 31 := ⟨by decide +kernel, rfl⟩
theorem iX10_feasts_31 : In cX10_feasts 31 (.iconst 0) 1 32 := ⟨by decide +kernel, rfl⟩
theorem iX10_feasts_32 : In cX10_feasts 32 (.istore_n 2) 1 33 := ⟨by decide +kernel, rfl⟩
theorem iX10_feasts_33 : In cX10_feasts 33 (.iconst 0) 1 34 := ⟨by decide +kernel, rfl⟩
theorem iX10_feasts_34 : In cX10_feasts 34 (.istore_n 3) 1 35 := ⟨by decide +kernel, rfl⟩
theorem iX10_feasts_35 : In cX10_feasts 35 (.iload_n 3) 1 36 := ⟨by decide +kernel, rfl⟩
theorem iX10_feasts_36 : In cX10_feasts 36 (.iload_n 1) 1 37 := ⟨by decide +kernel, rfl⟩
theorem iX10_feasts_37 : Jn cX10_feasts 37 (.if_icmp .ge 57) (57) 40 94 := ⟨by decide +kernel, rfl, by decide⟩
theorem iX10_feasts_40 : In cX10_feasts 40 (.aload_n 0) 1 41 := ⟨by decide +kernel, rfl⟩
theorem iX10_feasts_41 : In cX10_feasts 41 (.aload_n 0) 1 42 := ⟨by decide +kernel, rfl⟩
theorem iX10_feasts_42 : In cX10_feasts 42 (.getfield 271) 3 45 := ⟨by decide +kernel, rfl⟩
theorem iX10_feasts_45 : In cX10_feasts 45 (.ldc2_w 275) 3 48 := ⟨by decide +kernel, rfl⟩
theorem iX10_feasts_48 : In cX10_feasts 48 (.lmul) 1 49 := ⟨by decide +kernel, rfl⟩
theorem iX10_feasts_49 : In cX10_feasts 49 (.ldc2_w 277) 3 52 := ⟨by decide +kernel, rfl⟩
theorem iX10_feasts_52 : In cX10_feasts 52 (.ladd) 1 53 := ⟨by decide +kernel, rfl⟩
theorem iX10_feasts_53 : In cX10_feasts 53 (.putfield 271) 3 56 := ⟨by decide +kernel, rfl⟩
theorem iX10_feasts_56 : In cX10_feasts 56 (.aload_n 0) 1 57 := ⟨by decide +kernel, rfl⟩
theorem iX10_feasts_57 : In cX10_feasts 57 (.getfield 48) 3 60 := ⟨by decide +kernel, rfl⟩
theorem iX10_feasts_60 : In cX10_feasts 60 (.aload_n 0) 1 61 := ⟨by decide +kernel, rfl⟩
theorem iX10_feasts_61 : In cX10_feasts 61 (.getfield 271) 3 64 := ⟨by decide +kernel, rfl⟩
theorem iX10_feasts_64 : In cX10_feasts 64 (.bipush 33) 2 66 := ⟨by decide +kernel, rfl⟩
theorem iX10_feasts_66 : In cX10_feasts 66 (.lushr) 1 67 := ⟨by decide +kernel, rfl⟩
theorem iX10_feasts_67 : In cX10_feasts 67 (.ldc2_w 279) 3 70 := ⟨by decide +kernel, rfl⟩
theorem iX10_feasts_70 : In cX10_feasts 70 (.lrem) 1 71 := ⟨by decide +kernel, rfl⟩
theorem iX10_feasts_71 : In cX10_feasts 71 (.l2i) 1 72 := ⟨by decide +kernel, rfl⟩
theorem iX10_feasts_72 : In cX10_feasts 72 (.invokevirtual 281) 3 75 := ⟨by decide +kernel, rfl⟩
theorem iX10_feasts_75 : In cX10_feasts 75 (.iload_n 2) 1 76 := ⟨by decide +kernel, rfl⟩
theorem iX10_feasts_76 : In cX10_feasts 76 (.aload_n 0) 1 77 := ⟨by decide +kernel, rfl⟩
theorem iX10_feasts_77 : In cX10_feasts 77 (.getfield 48) 3 80 := ⟨by decide +kernel, rfl⟩
theorem iX10_feasts_80 : In cX10_feasts 80 (.invokevirtual 284) 3 83 := ⟨by decide +kernel, rfl⟩
theorem iX10_feasts_83 : In cX10_feasts 83 (.invokestatic 287) 3 86 := ⟨by decide +kernel, rfl⟩
theorem iX10_feasts_86 : In cX10_feasts 86 (.iadd) 1 87 := ⟨by decide +kernel, rfl⟩
theorem iX10_feasts_87 : In cX10_feasts 87 (.istore_n 2) 1 88 := ⟨by decide +kernel, rfl⟩
theorem iX10_feasts_88 : In cX10_feasts 88 (.iinc 3 1) 3 91 := ⟨by decide +kernel, rfl⟩
theorem iX10_feasts_91 : Jn cX10_feasts 91 (.goto (-56)) (-56) 94 35 := ⟨by decide +kernel, rfl, by decide⟩
theorem iX10_feasts_94 : In cX10_feasts 94 (.iload_n 2) 1 95 := ⟨by decide +kernel, rfl⟩
theorem iX10_feasts_95 : In cX10_feasts 95 (.ireturn) 1 96 := ⟨by decide +kernel, rfl⟩
theorem iX10_keep_0 : In cX10_keep 0 (.iload_n 1) 1 1 := ⟨by decide +kernel, rfl⟩
theorem iX10_keep_1 : Jn cX10_keep 1 (.ifCond .lt 8) (8) 4 9 := ⟨by decide +kernel, rfl, by decide⟩
theorem iX10_keep_4 : In cX10_keep 4 (.iload_n 1) 1 5 := ⟨by decide +kernel, rfl⟩
theorem iX10_keep_5 : In cX10_keep 5 (.iconst 2) 1 6 := ⟨by decide +kernel, rfl⟩
theorem iX10_keep_6 : Jn cX10_keep 6 (.if_icmp .lt 5) (5) 9 11 := ⟨by decide +kernel, rfl, by decide⟩
theorem iX10_keep_9 : In cX10_keep 9 (.iconst (-1)) 1 10 := ⟨by decide +kernel, rfl⟩
theorem iX10_keep_10 : In cX10_keep 10 (.ireturn) 1 11 := ⟨by decide +kernel, rfl⟩
theorem iX10_keep_11 : In cX10_keep 11 (.aload_n 0) 1 12 := ⟨by decide +kernel, rfl⟩
theorem iX10_keep_12 : In cX10_keep 12 (.getfield 83) 3 15 := ⟨by decide +kernel, rfl⟩
theorem iX10_keep_15 : In cX10_keep 15 (.iload_n 1) 1 16 := ⟨by decide +kernel, rfl⟩
theorem iX10_keep_16 : In cX10_keep 16 (.aaload) 1 17 := ⟨by decide +kernel, rfl⟩
theorem iX10_keep_17 : In cX10_keep 17 (.aload_n 0) 1 18 := ⟨by decide +kernel, rfl⟩
theorem iX10_keep_18 : In cX10_keep 18 (.getfield 44) 3 21 := ⟨by decide +kernel, rfl⟩
theorem iX10_keep_21 : In cX10_keep 21 (.getfield 103) 3 24 := ⟨by decide +kernel, rfl⟩
theorem iX10_keep_24 : In cX10_keep 24 (.invokevirtual 230) 3 27 := ⟨by decide +kernel, rfl⟩
theorem iX10_keep_27 : In cX10_keep 27 (.aload_n 0) 1 28 := ⟨by decide +kernel, rfl⟩
theorem iX10_keep_28 : In cX10_keep 28 (.getfield 87) 3 31 := ⟨by decide +kernel, rfl⟩
theorem iX10_keep_31 : In cX10_keep 31 (.iload_n 1) 1 32 := ⟨by decide +kernel, rfl⟩
theorem iX10_keep_32 : In cX10_keep 32 (.iconst 1) 1 33 := ⟨by decide +kernel, rfl⟩
theorem iX10_keep_33 : In cX10_keep 33 (.bastore) 1 34 := ⟨by decide +kernel, rfl⟩
theorem iX10_keep_34 : In cX10_keep 34 (.aload_n 0) 1 35 := ⟨by decide +kernel, rfl⟩
theorem iX10_keep_35 : In cX10_keep 35 (.getfield 44) 3 38 := ⟨by decide +kernel, rfl⟩
theorem iX10_keep_38 : In cX10_keep 38 (.getfield 103) 3 41 := ⟨by decide +kernel, rfl⟩
theorem iX10_keep_41 : In cX10_keep 41 (.getfield 292) 3 44 := ⟨by decide +kernel, rfl⟩
theorem iX10_keep_44 : In cX10_keep 44 (.ireturn) 1 45 := ⟨by decide +kernel, rfl⟩
theorem iX10_again_0 : In cX10_again 0 (.iload_n 1) 1 1 := ⟨by decide +kernel, rfl⟩
theorem iX10_again_1 : Jn cX10_again 1 (.ifCond .lt 8) (8) 4 9 := ⟨by decide +kernel, rfl, by decide⟩
theorem iX10_again_4 : In cX10_again 4 (.iload_n 1) 1 5 := ⟨by decide +kernel, rfl⟩
theorem iX10_again_5 : In cX10_again 5 (.iconst 2) 1 6 := ⟨by decide +kernel, rfl⟩
theorem iX10_again_6 : Jn cX10_again 6 (.if_icmp .lt 5) (5) 9 11 := ⟨by decide +kernel, rfl, by decide⟩
theorem iX10_again_9 : In cX10_again 9 (.iconst (-1)) 1 10 := ⟨by decide +kernel, rfl⟩
theorem iX10_again_10 : In cX10_again 10 (.ireturn) 1 11 := ⟨by decide +kernel, rfl⟩
theorem iX10_again_11 : In cX10_again 11 (.aload_n 0) 1 12 := ⟨by decide +kernel, rfl⟩
theorem iX10_again_12 : In cX10_again 12 (.getfield 87) 3 15 := ⟨by decide +kernel, rfl⟩
theorem iX10_again_15 : In cX10_again 15 (.iload_n 1) 1 16 := ⟨by decide +kernel, rfl⟩
theorem iX10_again_16 : In cX10_again 16 (.baload) 1 17 := ⟨by decide +kernel, rfl⟩
theorem iX10_again_17 : Jn cX10_again 17 (.ifCond .ne 6) (6) 20 23 := ⟨by decide +kernel, rfl, by decide⟩
theorem iX10_again_20 : In cX10_again 20 (.bipush (-3)) 2 22 := ⟨by decide +kernel, rfl⟩
theorem iX10_again_22 : In cX10_again 22 (.ireturn) 1 23 := ⟨by decide +kernel, rfl⟩
theorem iX10_again_23 : In cX10_again 23 (.aload_n 0) 1 24 := ⟨by decide +kernel, rfl⟩
theorem iX10_again_24 : In cX10_again 24 (.getfield 44) 3 27 := ⟨by decide +kernel, rfl⟩
theorem iX10_again_27 : In cX10_again 27 (.getfield 103) 3 30 := ⟨by decide +kernel, rfl⟩
theorem iX10_again_30 : In cX10_again 30 (.aload_n 0) 1 31 := ⟨by decide +kernel, rfl⟩
theorem iX10_again_31 : In cX10_again 31 (.getfield 83) 3 34 := ⟨by decide +kernel, rfl⟩
theorem iX10_again_34 : In cX10_again 34 (.iload_n 1) 1 35 := ⟨by decide +kernel, rfl⟩
theorem iX10_again_35 : In cX10_again 35 (.aaload) 1 36 := ⟨by decide +kernel, rfl⟩
theorem iX10_again_36 : In cX10_again 36 (.invokevirtual 230) 3 39 := ⟨by decide +kernel, rfl⟩
theorem iX10_again_39 : In cX10_again 39 (.aload_n 0) 1 40 := ⟨by decide +kernel, rfl⟩
theorem iX10_again_40 : In cX10_again 40 (.getfield 54) 3 43 := ⟨by decide +kernel, rfl⟩
theorem iX10_again_43 : In cX10_again 43 (.invokevirtual 110) 3 46 := ⟨by decide +kernel, rfl⟩
theorem iX10_again_46 : In cX10_again 46 (.aload_n 0) 1 47 := ⟨by decide +kernel, rfl⟩
theorem iX10_again_47 : In cX10_again 47 (.getfield 44) 3 50 := ⟨by decide +kernel, rfl⟩
theorem iX10_again_50 : In cX10_again 50 (.getfield 103) 3 53 := ⟨by decide +kernel, rfl⟩
theorem iX10_again_53 : In cX10_again 53 (.getfield 292) 3 56 := ⟨by decide +kernel, rfl⟩
theorem iX10_again_56 : In cX10_again 56 (.ireturn) 1 57 := ⟨by decide +kernel, rfl⟩
theorem iX10_count_0 : In cX10_count 0 (.iload_n 1) 1 1 := ⟨by decide +kernel, rfl⟩
theorem iX10_count_1 : In cX10_count 1 (.tableswitch 154 0 9 #[55, 60, 68, 76, 87, 101, 115, 123, 138, 146]) 55 56 := ⟨by decide +kernel, rfl⟩
theorem iX10_count_56 : In cX10_count 56 (.aload_n 0) 1 57 := ⟨by decide +kernel, rfl⟩
theorem iX10_count_57 : In cX10_count 57 (.getfield 92) 3 60 := ⟨by decide +kernel, rfl⟩
theorem iX10_count_60 : In cX10_count 60 (.ireturn) 1 61 := ⟨by decide +kernel, rfl⟩
theorem iX10_count_61 : In cX10_count 61 (.aload_n 0) 1 62 := ⟨by decide +kernel, rfl⟩
theorem iX10_count_62 : In cX10_count 62 (.getfield 29) 3 65 := ⟨by decide +kernel, rfl⟩
theorem iX10_count_65 : In cX10_count 65 (.getfield 113) 3 68 := ⟨by decide +kernel, rfl⟩
theorem iX10_count_68 : In cX10_count 68 (.ireturn) 1 69 := ⟨by decide +kernel, rfl⟩
theorem iX10_count_69 : In cX10_count 69 (.aload_n 0) 1 70 := ⟨by decide +kernel, rfl⟩
theorem iX10_count_70 : In cX10_count 70 (.getfield 29) 3 73 := ⟨by decide +kernel, rfl⟩
theorem iX10_count_73 : In cX10_count 73 (.getfield 116) 3 76 := ⟨by decide +kernel, rfl⟩
theorem iX10_count_76 : In cX10_count 76 (.ireturn) 1 77 := ⟨by decide +kernel, rfl⟩
theorem iX10_count_77 : In cX10_count 77 (.aload_n 0) 1 78 := ⟨by decide +kernel, rfl⟩
theorem iX10_count_78 : In cX10_count 78 (.getfield 44) 3 81 := ⟨by decide +kernel, rfl⟩
theorem iX10_count_81 : In cX10_count 81 (.getfield 103) 3 84 := ⟨by decide +kernel, rfl⟩
theorem iX10_count_84 : In cX10_count 84 (.getfield 292) 3 87 := ⟨by decide +kernel, rfl⟩
theorem iX10_count_87 : In cX10_count 87 (.ireturn) 1 88 := ⟨by decide +kernel, rfl⟩
theorem iX10_count_88 : In cX10_count 88 (.aload_n 0) 1 89 := ⟨by decide +kernel, rfl⟩
theorem iX10_count_89 : In cX10_count 89 (.getfield 44) 3 92 := ⟨by decide +kernel, rfl⟩
theorem iX10_count_92 : In cX10_count 92 (.getfield 103) 3 95 := ⟨by decide +kernel, rfl⟩
theorem iX10_count_95 : In cX10_count 95 (.getfield 136) 3 98 := ⟨by decide +kernel, rfl⟩
theorem iX10_count_98 : In cX10_count 98 (.invokestatic 295) 3 101 := ⟨by decide +kernel, rfl⟩
theorem iX10_count_101 : In cX10_count 101 (.ireturn) 1 102 := ⟨by decide +kernel, rfl⟩
theorem iX10_count_102 : In cX10_count 102 (.aload_n 0) 1 103 := ⟨by decide +kernel, rfl⟩
theorem iX10_count_103 : In cX10_count 103 (.getfield 44) 3 106 := ⟨by decide +kernel, rfl⟩
theorem iX10_count_106 : In cX10_count 106 (.getfield 103) 3 109 := ⟨by decide +kernel, rfl⟩
theorem iX10_count_109 : In cX10_count 109 (.getfield 139) 3 112 := ⟨by decide +kernel, rfl⟩
theorem iX10_count_112 : In cX10_count 112 (.invokestatic 295) 3 115 := ⟨by decide +kernel, rfl⟩
theorem iX10_count_115 : In cX10_count 115 (.ireturn) 1 116 := ⟨by decide +kernel, rfl⟩
theorem iX10_count_116 : In cX10_count 116 (.aload_n 0) 1 117 := ⟨by decide +kernel, rfl⟩
theorem iX10_count_117 : In cX10_count 117 (.getfield 44) 3 120 := ⟨by decide +kernel, rfl⟩
theorem iX10_count_120 : In cX10_count 120 (.invokevirtual 284) 3 123 := ⟨by decide +kernel, rfl⟩
theorem iX10_count_123 : In cX10_count 123 (.ireturn) 1 124 := ⟨by decide +kernel, rfl⟩
theorem iX10_count_124 : In cX10_count 124 (.aload_n 0) 1 125 := ⟨by decide +kernel, rfl⟩
theorem iX10_count_125 : In cX10_count 125 (.getfield 44) 3 128 := ⟨by decide +kernel, rfl⟩
theorem iX10_count_128 : In cX10_count 128 (.invokevirtual 146) 3 131 := ⟨by decide +kernel, rfl⟩
theorem iX10_count_131 : In cX10_count 131 (.aload_n 0) 1 132 := ⟨by decide +kernel, rfl⟩
theorem iX10_count_132 : In cX10_count 132 (.getfield 44) 3 135 := ⟨by decide +kernel, rfl⟩
theorem iX10_count_135 : In cX10_count 135 (.invokevirtual 299) 3 138 := ⟨by decide +kernel, rfl⟩
theorem iX10_count_138 : In cX10_count 138 (.ireturn) 1 139 := ⟨by decide +kernel, rfl⟩
theorem iX10_count_139 : In cX10_count 139 (.aload_n 0) 1 140 := ⟨by decide +kernel, rfl⟩
theorem iX10_count_140 : In cX10_count 140 (.getfield 54) 3 143 := ⟨by decide +kernel, rfl⟩
theorem iX10_count_143 : In cX10_count 143 (.getfield 202) 3 146 := ⟨by decide +kernel, rfl⟩
theorem iX10_count_146 : In cX10_count 146 (.ireturn) 1 147 := ⟨by decide +kernel, rfl⟩
theorem iX10_count_147 : In cX10_count 147 (.aload_n 0) 1 148 := ⟨by decide +kernel, rfl⟩
theorem iX10_count_148 : In cX10_count 148 (.getfield 77) 3 151 := ⟨by decide +kernel, rfl⟩
theorem iX10_count_151 : In cX10_count 151 (.getfield 238) 3 154 := ⟨by decide +kernel, rfl⟩
theorem iX10_count_154 : In cX10_count 154 (.ireturn) 1 155 := ⟨by decide +kernel, rfl⟩
theorem iX10_count_155 : In cX10_count 155 (.bipush (-2)) 2 157 := ⟨by decide +kernel, rfl⟩
theorem iX10_count_157 : In cX10_count 157 (.ireturn) 1 158 := ⟨by decide +kernel, rfl⟩
theorem iX10_refusalOfPair_0 : In cX10_refusalOfPair 0 (.aload_n 0) 1 1 := ⟨by decide +kernel, rfl⟩
theorem iX10_refusalOfPair_1 : In cX10_refusalOfPair 1 (.getfield 29) 3 4 := ⟨by decide +kernel, rfl⟩
theorem iX10_refusalOfPair_4 : In cX10_refusalOfPair 4 (.iload_n 1) 1 5 := ⟨by decide +kernel, rfl⟩
theorem iX10_refusalOfPair_5 : In cX10_refusalOfPair 5 (.invokevirtual 119) 3 8 := ⟨by decide +kernel, rfl⟩
theorem iX10_refusalOfPair_8 : Jn cX10_refusalOfPair 8 (.ifCond .eq 14) (14) 11 22 := ⟨by decide +kernel, rfl, by decide⟩
theorem iX10_refusalOfPair_11 : In cX10_refusalOfPair 11 (.aload_n 0) 1 12 := ⟨by decide +kernel, rfl⟩
theorem iX10_refusalOfPair_12 : In cX10_refusalOfPair 12 (.getfield 29) 3 15 := ⟨by decide +kernel, rfl⟩
theorem iX10_refusalOfPair_15 : In cX10_refusalOfPair 15 (.iload_n 2) 1 16 := ⟨by decide +kernel, rfl⟩
theorem iX10_refusalOfPair_16 : In cX10_refusalOfPair 16 (.invokevirtual 119) 3 19 := ⟨by decide +kernel, rfl⟩
theorem iX10_refusalOfPair_19 : Jn cX10_refusalOfPair 19 (.ifCond .ne 5) (5) 22 24 := ⟨by decide +kernel, rfl, by decide⟩
theorem iX10_refusalOfPair_22 : In cX10_refusalOfPair 22 (.iconst (-1)) 1 23 := ⟨by decide +kernel, rfl⟩
theorem iX10_refusalOfPair_23 : In cX10_refusalOfPair 23 (.ireturn) 1 24 := ⟨by decide +kernel, rfl⟩
theorem iX10_refusalOfPair_24 : In cX10_refusalOfPair 24 (.iload_n 1) 1 25 := ⟨by decide +kernel, rfl⟩
theorem iX10_refusalOfPair_25 : In cX10_refusalOfPair 25 (.iload_n 2) 1 26 := ⟨by decide +kernel, rfl⟩
theorem iX10_refusalOfPair_26 : Jn cX10_refusalOfPair 26 (.if_icmp .eq 13) (13) 29 39 := ⟨by decide +kernel, rfl, by decide⟩
theorem iX10_refusalOfPair_29 : In cX10_refusalOfPair 29 (.iload_n 3) 1 30 := ⟨by decide +kernel, rfl⟩
theorem iX10_refusalOfPair_30 : Jn cX10_refusalOfPair 30 (.ifCond .lt 9) (9) 33 39 := ⟨by decide +kernel, rfl, by decide⟩
theorem iX10_refusalOfPair_33 : In cX10_refusalOfPair 33 (.iload_n 3) 1 34 := ⟨by decide +kernel, rfl⟩
theorem iX10_refusalOfPair_34 : In cX10_refusalOfPair 34 (.iload 4) 2 36 := ⟨by decide +kernel, rfl⟩
theorem iX10_refusalOfPair_36 : Jn cX10_refusalOfPair 36 (.if_icmp .le 8) (8) 39 44 := ⟨by decide +kernel, rfl, by decide⟩
theorem iX10_refusalOfPair_39 : In cX10_refusalOfPair 39 (.bipush (-2)) 2 41 := ⟨by decide +kernel, rfl⟩
theorem iX10_refusalOfPair_41 : Jn cX10_refusalOfPair 41 (.goto 5) (5) 44 46 := ⟨by decide +kernel, rfl, by decide⟩
theorem iX10_refusalOfPair_44 : In cX10_refusalOfPair 44 (.bipush (-9)) 2 46 := ⟨by decide +kernel, rfl⟩
theorem iX10_refusalOfPair_46 : In cX10_refusalOfPair 46 (.ireturn) 1 47 := ⟨by decide +kernel, rfl⟩
theorem iX10_refusalOfTrade_0 : In cX10_refusalOfTrade 0 (.aload_n 0) 1 1 := ⟨by decide +kernel, rfl⟩
theorem iX10_refusalOfTrade_1 : In cX10_refusalOfTrade 1 (.getfield 29) 3 4 := ⟨by decide +kernel, rfl⟩
theorem iX10_refusalOfTrade_4 : In cX10_refusalOfTrade 4 (.iload_n 1) 1 5 := ⟨by decide +kernel, rfl⟩
theorem iX10_refusalOfTrade_5 : In cX10_refusalOfTrade 5 (.invokevirtual 119) 3 8 := ⟨by decide +kernel, rfl⟩
theorem iX10_refusalOfTrade_8 : Jn cX10_refusalOfTrade 8 (.ifCond .eq 14) (14) 11 22 := ⟨by decide +kernel, rfl, by decide⟩
theorem iX10_refusalOfTrade_11 : In cX10_refusalOfTrade 11 (.aload_n 0) 1 12 := ⟨by decide +kernel, rfl⟩
theorem iX10_refusalOfTrade_12 : In cX10_refusalOfTrade 12 (.getfield 29) 3 15 := ⟨by decide +kernel, rfl⟩
theorem iX10_refusalOfTrade_15 : In cX10_refusalOfTrade 15 (.iload_n 2) 1 16 := ⟨by decide +kernel, rfl⟩
theorem iX10_refusalOfTrade_16 : In cX10_refusalOfTrade 16 (.invokevirtual 152) 3 19 := ⟨by decide +kernel, rfl⟩
theorem iX10_refusalOfTrade_19 : Jn cX10_refusalOfTrade 19 (.ifCond .ne 5) (5) 22 24 := ⟨by decide +kernel, rfl, by decide⟩
theorem iX10_refusalOfTrade_22 : In cX10_refusalOfTrade 22 (.iconst (-1)) 1 23 := ⟨by decide +kernel, rfl⟩
theorem iX10_refusalOfTrade_23 : In cX10_refusalOfTrade 23 (.ireturn) 1 24 := ⟨by decide +kernel, rfl⟩
theorem iX10_refusalOfTrade_24 : In cX10_refusalOfTrade 24 (.aload_n 0) 1 25 := ⟨by decide +kernel, rfl⟩
theorem iX10_refusalOfTrade_25 : In cX10_refusalOfTrade 25 (.getfield 44) 3 28 := ⟨by decide +kernel, rfl⟩
theorem iX10_refusalOfTrade_28 : In cX10_refusalOfTrade 28 (.getfield 103) 3 31 := ⟨by decide +kernel, rfl⟩
theorem iX10_refusalOfTrade_31 : In cX10_refusalOfTrade 31 (.getfield 155) 3 34 := ⟨by decide +kernel, rfl⟩
theorem iX10_refusalOfTrade_34 : In cX10_refusalOfTrade 34 (.iload_n 2) 1 35 := ⟨by decide +kernel, rfl⟩
theorem iX10_refusalOfTrade_35 : In cX10_refusalOfTrade 35 (.iaload) 1 36 := ⟨by decide +kernel, rfl⟩
theorem iX10_refusalOfTrade_36 : In cX10_refusalOfTrade 36 (.iload_n 1) 1 37 := ⟨by decide +kernel, rfl⟩
theorem iX10_refusalOfTrade_37 : Jn cX10_refusalOfTrade 37 (.if_icmp .ne 8) (8) 40 45 := ⟨by decide +kernel, rfl, by decide⟩
theorem iX10_refusalOfTrade_40 : In cX10_refusalOfTrade 40 (.bipush (-3)) 2 42 := ⟨by decide +kernel, rfl⟩
theorem iX10_refusalOfTrade_42 : Jn cX10_refusalOfTrade 42 (.goto 5) (5) 45 47 := ⟨by decide +kernel, rfl, by decide⟩
theorem iX10_refusalOfTrade_45 : In cX10_refusalOfTrade 45 (.bipush (-9)) 2 47 := ⟨by decide +kernel, rfl⟩
theorem iX10_refusalOfTrade_47 : In cX10_refusalOfTrade 47 (.ireturn) 1 48 := ⟨by decide +kernel, rfl⟩
theorem iX10_sumOf_0 : In cX10_sumOf 0 (.iconst 0) 1 1 := ⟨by decide +kernel, rfl⟩
theorem iX10_sumOf_1 : In cX10_sumOf 1 (.istore_n 1) 1 2 := ⟨by decide +kernel, rfl⟩
theorem iX10_sumOf_2 : In cX10_sumOf 2 (.iconst 0) 1 3 := ⟨by decide +kernel, rfl⟩
theorem iX10_sumOf_3 : In cX10_sumOf 3 (.istore_n 2) 1 4 := ⟨by decide +kernel, rfl⟩
theorem iX10_sumOf_4 : In cX10_sumOf 4 (.iload_n 2) 1 5 := ⟨by decide +kernel, rfl⟩
theorem iX10_sumOf_5 : In cX10_sumOf 5 (.aload_n 0) 1 6 := ⟨by decide +kernel, rfl⟩
theorem iX10_sumOf_6 : In cX10_sumOf 6 (.arraylength) 1 7 := ⟨by decide +kernel, rfl⟩
theorem iX10_sumOf_7 : Jn cX10_sumOf 7 (.if_icmp .ge 15) (15) 10 22 := ⟨by decide +kernel, rfl, by decide⟩
theorem iX10_sumOf_10 : In cX10_sumOf 10 (.iload_n 1) 1 11 := ⟨by decide +kernel, rfl⟩
theorem iX10_sumOf_11 : In cX10_sumOf 11 (.aload_n 0) 1 12 := ⟨by decide +kernel, rfl⟩
theorem iX10_sumOf_12 : In cX10_sumOf 12 (.iload_n 2) 1 13 := ⟨by decide +kernel, rfl⟩
theorem iX10_sumOf_13 : In cX10_sumOf 13 (.iaload) 1 14 := ⟨by decide +kernel, rfl⟩
theorem iX10_sumOf_14 : In cX10_sumOf 14 (.iadd) 1 15 := ⟨by decide +kernel, rfl⟩
theorem iX10_sumOf_15 : In cX10_sumOf 15 (.istore_n 1) 1 16 := ⟨by decide +kernel, rfl⟩
theorem iX10_sumOf_16 : In cX10_sumOf 16 (.iinc 2 1) 3 19 := ⟨by decide +kernel, rfl⟩
theorem iX10_sumOf_19 : Jn cX10_sumOf 19 (.goto (-15)) (-15) 22 4 := ⟨by decide +kernel, rfl, by decide⟩
theorem iX10_sumOf_22 : In cX10_sumOf 22 (.iload_n 1) 1 23 := ⟨by decide +kernel, rfl⟩
theorem iX10_sumOf_23 : In cX10_sumOf 23 (.ireturn) 1 24 := ⟨by decide +kernel, rfl⟩
theorem iX11_init_0 : In cX11_init 0 (.aload_n 0) 1 1 := ⟨by decide +kernel, rfl⟩
theorem iX11_init_1 : In cX11_init 1 (.invokespecial 1) 3 4 := ⟨by decide +kernel, rfl⟩
theorem iX11_init_4 : In cX11_init 4 (.aload_n 0) 1 5 := ⟨by decide +kernel, rfl⟩
theorem iX11_init_5 : In cX11_init 5 (.bipush 7) 2 7 := ⟨by decide +kernel, rfl⟩
theorem iX11_init_7 : In cX11_init 7 (.newarray .int) 2 9 := ⟨by decide +kernel, rfl⟩
theorem iX11_init_9 : In cX11_init 9 (.putfield 7) 3 12 := ⟨by decide +kernel, rfl⟩
theorem iX11_init_12 : In cX11_init 12 (.aload_n 0) 1 13 := ⟨by decide +kernel, rfl⟩
theorem iX11_init_13 : In cX11_init 13 (.bipush 21) 2 15 := ⟨by decide +kernel, rfl⟩
theorem iX11_init_15 : In cX11_init 15 (.newarray .int) 2 17 := ⟨by decide +kernel, rfl⟩
theorem iX11_init_17 : In cX11_init 17 (.putfield 13) 3 20 := ⟨by decide +kernel, rfl⟩
theorem iX11_init_20 : In cX11_init 20 (.aload_n 0) 1 21 := ⟨by decide +kernel, rfl⟩
theorem iX11_init_21 : In cX11_init 21 (.iconst 5) 1 22 := ⟨by decide +kernel, rfl⟩
theorem iX11_init_22 : In cX11_init 22 (.newarray .int) 2 24 := ⟨by decide +kernel, rfl⟩
theorem iX11_init_24 : In cX11_init 24 (.putfield 16) 3 27 := ⟨by decide +kernel, rfl⟩
theorem iX11_init_27 : In cX11_init 27 (.aload_n 0) 1 28 := ⟨by decide +kernel, rfl⟩
theorem iX11_init_28 : In cX11_init 28 (.iconst 5) 1 29 := ⟨by decide +kernel, rfl⟩
theorem iX11_init_29 : In cX11_init 29 (.newarray .int) 2 31 := ⟨by decide +kernel, rfl⟩
theorem iX11_init_31 : In cX11_init 31 (.putfield 19) 3 34 := ⟨by decide +kernel, rfl⟩
theorem iX11_init_34 : In cX11_init 34 (.aload_n 0) 1 35 := ⟨by decide +kernel, rfl⟩
theorem iX11_init_35 : In cX11_init 35 (.bipush 36) 2 37 := ⟨by decide +kernel, rfl⟩
theorem iX11_init_37 : In cX11_init 37 (.newarray .int) 2 39 := ⟨by decide +kernel, rfl⟩
theorem iX11_init_39 : In cX11_init 39 (.putfield 22) 3 42 := ⟨by decide +kernel, rfl⟩
theorem iX11_init_42 : In cX11_init 42 (.aload_n 0) 1 43 := ⟨by decide +kernel, rfl⟩
theorem iX11_init_43 : In cX11_init 43 (.bipush 24) 2 45 := ⟨by decide +kernel, rfl⟩
theorem iX11_init_45 : In cX11_init 45 (.newarray .int) 2 47 := ⟨by decide +kernel, rfl⟩
theorem iX11_init_47 : In cX11_init 47 (.putfield 25) 3 50 := ⟨by decide +kernel, rfl⟩
theorem iX11_init_50 : In cX11_init 50 (.aload_n 0) 1 51 := ⟨by decide +kernel, rfl⟩
theorem iX11_init_51 : In cX11_init 51 (.bipush 10) 2 53 := ⟨by decide +kernel, rfl⟩
theorem iX11_init_53 : In cX11_init 53 (.newarray .int) 2 55 := ⟨by decide +kernel, rfl⟩
theorem iX11_init_55 : In cX11_init 55 (.putfield 28) 3 58 := ⟨by decide +kernel, rfl⟩
theorem iX11_init_58 : In cX11_init 58 (.aload_n 0) 1 59 := ⟨by decide +kernel, rfl⟩
theorem iX11_init_59 : In cX11_init 59 (.bipush 52) 2 61 := ⟨by decide +kernel, rfl⟩
theorem iX11_init_61 : In cX11_init 61 (.newarray .int) 2 63 := ⟨by decide +kernel, rfl⟩
theorem iX11_init_63 : In cX11_init 63 (.putfield 31) 3 66 := ⟨by decide +kernel, rfl⟩
theorem iX11_init_66 : In cX11_init 66 (.aload_n 0) 1 67 := ⟨by decide +kernel, rfl⟩
theorem iX11_init_67 : In cX11_init 67 (.sipush 252) 3 70 := ⟨by decide +kernel, rfl⟩
theorem iX11_init_70 : In cX11_init 70 (.newarray .int) 2 72 := ⟨by decide +kernel, rfl⟩
theorem iX11_init_72 : In cX11_init 72 (.putfield 34) 3 75 := ⟨by decide +kernel, rfl⟩
theorem iX11_init_75 : In cX11_init 75 (.aload_n 0) 1 76 := ⟨by decide +kernel, rfl⟩
theorem iX11_init_76 : In cX11_init 76 (.bipush 6) 2 78 := ⟨by decide +kernel, rfl⟩
theorem iX11_init_78 : In cX11_init 78 (.newarray .int) 2 80 := ⟨by decide +kernel, rfl⟩
theorem iX11_init_80 : In cX11_init 80 (.putfield 37) 3 83 := ⟨by decide +kernel, rfl⟩
theorem iX11_init_83 : In cX11_init 83 (.aload_n 0) 1 84 := ⟨by decide +kernel, rfl⟩
theorem iX11_init_84 : In cX11_init 84 (.bipush 6) 2 86 := ⟨by decide +kernel, rfl⟩
theorem iX11_init_86 : In cX11_init 86 (.newarray .int) 2 88 := ⟨by decide +kernel, rfl⟩
theorem iX11_init_88 : In cX11_init 88 (.putfield 40) 3 91 := ⟨by decide +kernel, rfl⟩
theorem iX11_init_91 : In cX11_init 91 (.aload_n 0) 1 92 := ⟨by decide +kernel, rfl⟩
theorem iX11_init_92 : In cX11_init 92 (.bipush 6) 2 94 := ⟨by decide +kernel, rfl⟩
theorem iX11_init_94 : In cX11_init 94 (.newarray .int) 2 96 := ⟨by decide +kernel, rfl⟩
theorem iX11_init_96 : In cX11_init 96 (.putfield 43) 3 99 := ⟨by decide +kernel, rfl⟩
theorem iX11_init_99 : In cX11_init 99 (.aload_n 0) 1 100 := ⟨by decide +kernel, rfl⟩
theorem iX11_init_100 : In cX11_init 100 (.bipush 6) 2 102 := ⟨by decide +kernel, rfl⟩
theorem iX11_init_102 : In cX11_init 102 (.newarray .int) 2 104 := ⟨by decide +kernel, rfl⟩
theorem iX11_init_104 : In cX11_init 104 (.putfield 46) 3 107 := ⟨by decide +kernel, rfl⟩
theorem iX11_init_107 : In cX11_init 107 (.aload_n 0) 1 108 := ⟨by decide +kernel, rfl⟩
theorem iX11_init_108 : In cX11_init 108 (.bipush 6) 2 110 := ⟨by decide +kernel, rfl⟩
theorem iX11_init_110 : In cX11_init 110 (.newarray .int) 2 112 := ⟨by decide +kernel, rfl⟩
theorem iX11_init_112 : In cX11_init 112 (.putfield 49) 3 115 := ⟨by decide +kernel, rfl⟩
theorem iX11_init_115 : In cX11_init 115 (.aload_n 0) 1 116 := ⟨by decide +kernel, rfl⟩
theorem iX11_init_116 : In cX11_init 116 (.iconst 2) 1 117 := ⟨by decide +kernel, rfl⟩
theorem iX11_init_117 : In cX11_init 117 (.newarray .boolean) 2 119 := ⟨by decide +kernel, rfl⟩
theorem iX11_init_119 : In cX11_init 119 (.putfield 52) 3 122 := ⟨by decide +kernel, rfl⟩
theorem iX11_init_122 : In cX11_init 122 (.aload_n 0) 1 123 := ⟨by decide +kernel, rfl⟩
theorem iX11_init_123 : In cX11_init 123 (.bipush 36) 2 125 := ⟨by decide +kernel, rfl⟩
theorem iX11_init_125 : In cX11_init 125 (.newarray .int) 2 127 := ⟨by decide +kernel, rfl⟩
theorem iX11_init_127 : In cX11_init 127 (.putfield 56) 3 130 := ⟨by decide +kernel, rfl⟩
theorem iX11_init_130 : In cX11_init 130 (.return_) 1 131 := ⟨by decide +kernel, rfl⟩
theorem iX11_in_0 : In cX11_in 0 (.lload_n 0) 1 1 := ⟨by decide +kernel, rfl⟩
theorem iX11_in_1 : In cX11_in 1 (.lload_n 2) 1 2 := ⟨by decide +kernel, rfl⟩
theorem iX11_in_2 : In cX11_in 2 (.lcmp) 1 3 := ⟨by decide +kernel, rfl⟩
theorem iX11_in_3 : Jn cX11_in 3 (.ifCond .lt 14) (14) 6 17 := ⟨by decide +kernel, rfl, by decide⟩
theorem iX11_in_6 : In cX11_in 6 (.lload_n 0) 1 7 := ⟨by decide +kernel, rfl⟩
theorem iX11_in_7 : In cX11_in 7 (.lload 4) 2 9 := ⟨by decide +kernel, rfl⟩
theorem iX11_in_9 : In cX11_in 9 (.lcmp) 1 10 := ⟨by decide +kernel, rfl⟩
theorem iX11_in_10 : Jn cX11_in 10 (.ifCond .gt 7) (7) 13 17 := ⟨by decide +kernel, rfl, by decide⟩
theorem iX11_in_13 : In cX11_in 13 (.iconst 1) 1 14 := ⟨by decide +kernel, rfl⟩
theorem iX11_in_14 : Jn cX11_in 14 (.goto 4) (4) 17 18 := ⟨by decide +kernel, rfl, by decide⟩
theorem iX11_in_17 : In cX11_in 17 (.iconst 0) 1 18 := ⟨by decide +kernel, rfl⟩
theorem iX11_in_18 : In cX11_in 18 (.ireturn) 1 19 := ⟨by decide +kernel, rfl⟩
theorem iX11_has_0 : In cX11_has 0 (.iload_n 0) 1 1 := ⟨by decide +kernel, rfl⟩
theorem iX11_has_1 : In cX11_has 1 (.iload_n 1) 1 2 := ⟨by decide +kernel, rfl⟩
theorem iX11_has_2 : In cX11_has 2 (.ishr) 1 3 := ⟨by decide +kernel, rfl⟩
theorem iX11_has_3 : In cX11_has 3 (.iconst 1) 1 4 := ⟨by decide +kernel, rfl⟩
theorem iX11_has_4 : In cX11_has 4 (.iand) 1 5 := ⟨by decide +kernel, rfl⟩
theorem iX11_has_5 : In cX11_has 5 (.iconst 1) 1 6 := ⟨by decide +kernel, rfl⟩
theorem iX11_has_6 : Jn cX11_has 6 (.if_icmp .ne 7) (7) 9 13 := ⟨by decide +kernel, rfl, by decide⟩
theorem iX11_has_9 : In cX11_has 9 (.iconst 1) 1 10 := ⟨by decide +kernel, rfl⟩
theorem iX11_has_10 : Jn cX11_has 10 (.goto 4) (4) 13 14 := ⟨by decide +kernel, rfl, by decide⟩
theorem iX11_has_13 : In cX11_has 13 (.iconst 0) 1 14 := ⟨by decide +kernel, rfl⟩
theorem iX11_has_14 : In cX11_has 14 (.ireturn) 1 15 := ⟨by decide +kernel, rfl⟩
theorem iX11_ones_0 : In cX11_ones 0 (.iconst 0) 1 1 := ⟨by decide +kernel, rfl⟩
theorem iX11_ones_1 : In cX11_ones 1 (.istore_n 1) 1 2 := ⟨by decide +kernel, rfl⟩
theorem iX11_ones_2 : In cX11_ones 2 (.iconst 0) 1 3 := ⟨by decide +kernel, rfl⟩
theorem iX11_ones_3 : In cX11_ones 3 (.istore_n 2) 1 4 := ⟨by decide +kernel, rfl⟩
theorem iX11_ones_4 : In cX11_ones 4 (.iload_n 2) 1 5 := ⟨by decide +kernel, rfl⟩
theorem iX11_ones_5 : In cX11_ones 5 (.bipush 6) 2 7 := ⟨by decide +kernel, rfl⟩
theorem iX11_ones_7 : Jn cX11_ones 7 (.if_icmp .ge 17) (17) 10 24 := ⟨by decide +kernel, rfl, by decide⟩
theorem iX11_ones_10 : In cX11_ones 10 (.iload_n 1) 1 11 := ⟨by decide +kernel, rfl⟩
theorem iX11_ones_11 : In cX11_ones 11 (.iload_n 0) 1 12 := ⟨by decide +kernel, rfl⟩
theorem iX11_ones_12 : In cX11_ones 12 (.iload_n 2) 1 13 := ⟨by decide +kernel, rfl⟩
theorem iX11_ones_13 : In cX11_ones 13 (.ishr) 1 14 := ⟨by decide +kernel, rfl⟩
theorem iX11_ones_14 : In cX11_ones 14 (.iconst 1) 1 15 := ⟨by decide +kernel, rfl⟩
theorem iX11_ones_15 : In cX11_ones 15 (.iand) 1 16 := ⟨by decide +kernel, rfl⟩
theorem iX11_ones_16 : In cX11_ones 16 (.iadd) 1 17 := ⟨by decide +kernel, rfl⟩
theorem iX11_ones_17 : In cX11_ones 17 (.istore_n 1) 1 18 := ⟨by decide +kernel, rfl⟩
theorem iX11_ones_18 : In cX11_ones 18 (.iinc 2 1) 3 21 := ⟨by decide +kernel, rfl⟩
theorem iX11_ones_21 : Jn cX11_ones 21 (.goto (-17)) (-17) 24 4 := ⟨by decide +kernel, rfl, by decide⟩
theorem iX11_ones_24 : In cX11_ones 24 (.iload_n 1) 1 25 := ⟨by decide +kernel, rfl⟩
theorem iX11_ones_25 : In cX11_ones 25 (.ireturn) 1 26 := ⟨by decide +kernel, rfl⟩
theorem iX11_write_0 : In cX11_write 0 (.iload_n 1) 1 1 := ⟨by decide +kernel, rfl⟩
theorem iX11_write_1 : In cX11_write 1 (.i2l) 1 2 := ⟨by decide +kernel, rfl⟩
theorem iX11_write_2 : In cX11_write 2 (.lconst 0) 1 3 := ⟨by decide +kernel, rfl⟩
theorem iX11_write_3 : In cX11_write 3 (.ldc2_w 59) 3 6 := ⟨by decide +kernel, rfl⟩
theorem iX11_write_6 : In cX11_write 6 (.invokestatic 61) 3 9 := ⟨by decide +kernel, rfl⟩
theorem iX11_write_9 : Jn cX11_write 9 (.ifCond .ne 6) (6) 12 15 := ⟨by decide +kernel, rfl, by decide⟩
theorem iX11_write_12 : In cX11_write 12 (.bipush (-2)) 2 14 := ⟨by decide +kernel, rfl⟩
theorem iX11_write_14 : In cX11_write 14 (.ireturn) 1 15 := ⟨by decide +kernel, rfl⟩
theorem iX11_write_15 : In cX11_write 15 (.aload_n 0) 1 16 := ⟨by decide +kernel, rfl⟩
theorem iX11_write_16 : In cX11_write 16 (.getfield 65) 3 19 := ⟨by decide +kernel, rfl⟩
theorem iX11_write_19 : In cX11_write 19 (.bipush 52) 2 21 := ⟨by decide +kernel, rfl⟩
theorem iX11_write_21 : Jn cX11_write 21 (.if_icmp .ne 6) (6) 24 27 := ⟨by decide +kernel, rfl, by decide⟩
theorem iX11_write_24 : In cX11_write 24 (.bipush (-4)) 2 26 := ⟨by decide +kernel, rfl⟩
theorem iX11_write_26 : In cX11_write 26 (.ireturn) 1 27 := ⟨by decide +kernel, rfl⟩
theorem iX11_write_27 : In cX11_write 27 (.aload_n 0) 1 28 := ⟨by decide +kernel, rfl⟩
theorem iX11_write_28 : In cX11_write 28 (.getfield 31) 3 31 := ⟨by decide +kernel, rfl⟩
theorem iX11_write_31 : In cX11_write 31 (.aload_n 0) 1 32 := ⟨by decide +kernel, rfl⟩
theorem iX11_write_32 : In cX11_write 32 (.getfield 65) 3 35 := ⟨by decide +kernel, rfl⟩
theorem iX11_write_35 : In cX11_write 35 (.iload_n 1) 1 36 := ⟨by decide +kernel, rfl⟩
theorem iX11_write_36 : In cX11_write 36 (.iastore) 1 37 := ⟨by decide +kernel, rfl⟩
theorem iX11_write_37 : In cX11_write 37 (.aload_n 0) 1 38 := ⟨by decide +kernel, rfl⟩
theorem iX11_write_38 : In cX11_write 38 (.dup) 1 39 := ⟨by decide +kernel, rfl⟩
theorem iX11_write_39 : In cX11_write 39 (.getfield 65) 3 42 := ⟨by decide +kernel, rfl⟩
theorem iX11_write_42 : In cX11_write 42 (.iconst 1) 1 43 := ⟨by decide +kernel, rfl⟩
theorem iX11_write_43 : In cX11_write 43 (.iadd) 1 44 := ⟨by decide +kernel, rfl⟩
theorem iX11_write_44 : In cX11_write 44 (.putfield 65) 3 47 := ⟨by decide +kernel, rfl⟩
theorem iX11_write_47 : In cX11_write 47 (.aload_n 0) 1 48 := ⟨by decide +kernel, rfl⟩
theorem iX11_write_48 : In cX11_write 48 (.getfield 65) 3 51 := ⟨by decide +kernel, rfl⟩
theorem iX11_write_51 : In cX11_write 51 (.ireturn) 1 52 := ⟨by decide +kernel, rfl⟩
theorem iX11_wipe_0 : In cX11_wipe 0 (.aload_n 0) 1 1 := ⟨by decide +kernel, rfl⟩
theorem iX11_wipe_1 : In cX11_wipe 1 (.getfield 65) 3 4 := ⟨by decide +kernel, rfl⟩
theorem iX11_wipe_4 : In cX11_wipe 4 (.istore_n 1) 1 5 := ⟨by decide +kernel, rfl⟩
theorem iX11_wipe_5 : In cX11_wipe 5 (.aload_n 0) 1 6 := ⟨by decide +kernel, rfl⟩
theorem iX11_wipe_6 : In cX11_wipe 6 (.iconst 0) 1 7 := ⟨by decide +kernel, rfl⟩
theorem iX11_wipe_7 : In cX11_wipe 7 (.putfield 65) 3 10 := ⟨by decide +kernel, rfl⟩
theorem iX11_wipe_10 : In cX11_wipe 10 (.iload_n 1) 1 11 := ⟨by decide +kernel, rfl⟩
theorem iX11_wipe_11 : In cX11_wipe 11 (.ireturn) 1 12 := ⟨by decide +kernel, rfl⟩
theorem iX11_figureOf_0 : In cX11_figureOf 0 (.aload_n 0) 1 1 := ⟨by decide +kernel, rfl⟩
theorem iX11_figureOf_1 : In cX11_figureOf 1 (.getfield 69) 3 4 := ⟨by decide +kernel, rfl⟩
theorem iX11_figureOf_4 : In cX11_figureOf 4 (.bipush (-9)) 2 6 := ⟨by decide +kernel, rfl⟩
theorem iX11_figureOf_6 : Jn cX11_figureOf 6 (.if_icmp .ne 18) (18) 9 24 := ⟨by decide +kernel, rfl, by decide⟩
theorem iX11_figureOf_9 : In cX11_figureOf 9 (.aload_n 0) 1 10 := ⟨by decide +kernel, rfl⟩
theorem iX11_figureOf_10 : In cX11_figureOf 10 (.getfield 72) 3 13 := ⟨by decide +kernel, rfl⟩
theorem iX11_figureOf_13 : In cX11_figureOf 13 (.aload_n 0) 1 14 := ⟨by decide +kernel, rfl⟩
theorem iX11_figureOf_14 : In cX11_figureOf 14 (.getfield 65) 3 17 := ⟨by decide +kernel, rfl⟩
theorem iX11_figureOf_17 : Jn cX11_figureOf 17 (.if_icmp .ge 7) (7) 20 24 := ⟨by decide +kernel, rfl, by decide⟩
theorem iX11_figureOf_20 : In cX11_figureOf 20 (.iconst 1) 1 21 := ⟨by decide +kernel, rfl⟩
theorem iX11_figureOf_21 : Jn cX11_figureOf 21 (.goto 4) (4) 24 25 := ⟨by decide +kernel, rfl, by decide⟩
theorem iX11_figureOf_24 : In cX11_figureOf 24 (.iconst 0) 1 25 := ⟨by decide +kernel, rfl⟩
theorem iX11_figureOf_25 : In cX11_figureOf 25 (.istore_n 2) 1 26 := ⟨by decide +kernel, rfl⟩
theorem iX11_figureOf_26 : In cX11_figureOf 26 (.iload_n 2) 1 27 := ⟨by decide +kernel, rfl⟩
theorem iX11_figureOf_27 : Jn cX11_figureOf 27 (.ifCond .eq 18) (18) 30 45 := ⟨by decide +kernel, rfl, by decide⟩
theorem iX11_figureOf_30 : In cX11_figureOf 30 (.aload_n 0) 1 31 := ⟨by decide +kernel, rfl⟩
theorem iX11_figureOf_31 : In cX11_figureOf 31 (.getfield 31) 3 34 := ⟨by decide +kernel, rfl⟩
theorem iX11_figureOf_34 : In cX11_figureOf 34 (.aload_n 0) 1 35 := ⟨by decide +kernel, rfl⟩
theorem iX11_figureOf_35 : In cX11_figureOf 35 (.getfield 72) 3 38 := ⟨by decide +kernel, rfl⟩
theorem iX11_figureOf_38 : In cX11_figureOf 38 (.iaload) 1 39 := ⟨by decide +kernel, rfl⟩
theorem iX11_figureOf_39 : In cX11_figureOf 39 (.bipush 48) 2 41 := ⟨by decide +kernel, rfl⟩
theorem iX11_figureOf_41 : In cX11_figureOf 41 (.isub) 1 42 := ⟨by decide +kernel, rfl⟩
theorem iX11_figureOf_42 : Jn cX11_figureOf 42 (.goto 4) (4) 45 46 := ⟨by decide +kernel, rfl, by decide⟩
theorem iX11_figureOf_45 : In cX11_figureOf 45 (.iconst 0) 1 46 := ⟨by decide +kernel, rfl⟩
theorem iX11_figureOf_46 : In cX11_figureOf 46 (.istore_n 3) 1 47 := ⟨by decide +kernel, rfl⟩
theorem iX11_figureOf_47 : In cX11_figureOf 47 (.iload_n 2) 1 48 := ⟨by decide +kernel, rfl⟩
theorem iX11_figureOf_48 : Jn cX11_figureOf 48 (.ifCond .eq 14) (14) 51 62 := ⟨by decide +kernel, rfl, by decide⟩
theorem iX11_figureOf_51 : In cX11_figureOf 51 (.iload_n 3) 1 52 := ⟨by decide +kernel, rfl⟩
theorem iX11_figureOf_52 : In cX11_figureOf 52 (.i2l) 1 53 := ⟨by decide +kernel, rfl⟩
theorem iX11_figureOf_53 : In cX11_figureOf 53 (.lconst 0) 1 54 := ⟨by decide +kernel, rfl⟩
theorem iX11_figureOf_54 : In cX11_figureOf 54 (.iload_n 1) 1 55 := ⟨by decide +kernel, rfl⟩
theorem iX11_figureOf_55 : In cX11_figureOf 55 (.i2l) 1 56 := ⟨by decide +kernel, rfl⟩
theorem iX11_figureOf_56 : In cX11_figureOf 56 (.invokestatic 61) 3 59 := ⟨by decide +kernel, rfl⟩
theorem iX11_figureOf_59 : Jn cX11_figureOf 59 (.ifCond .ne 29) (29) 62 88 := ⟨by decide +kernel, rfl, by decide⟩
theorem iX11_figureOf_62 : In cX11_figureOf 62 (.aload_n 0) 1 63 := ⟨by decide +kernel, rfl⟩
theorem iX11_figureOf_63 : In cX11_figureOf 63 (.aload_n 0) 1 64 := ⟨by decide +kernel, rfl⟩
theorem iX11_figureOf_64 : In cX11_figureOf 64 (.getfield 69) 3 67 := ⟨by decide +kernel, rfl⟩
theorem iX11_figureOf_67 : In cX11_figureOf 67 (.bipush (-9)) 2 69 := ⟨by decide +kernel, rfl⟩
theorem iX11_figureOf_69 : Jn cX11_figureOf 69 (.if_icmp .ne 10) (10) 72 79 := ⟨by decide +kernel, rfl, by decide⟩
theorem iX11_figureOf_72 : In cX11_figureOf 72 (.aload_n 0) 1 73 := ⟨by decide +kernel, rfl⟩
theorem iX11_figureOf_73 : In cX11_figureOf 73 (.getfield 72) 3 76 := ⟨by decide +kernel, rfl⟩
theorem iX11_figureOf_76 : Jn cX11_figureOf 76 (.goto 7) (7) 79 83 := ⟨by decide +kernel, rfl, by decide⟩
theorem iX11_figureOf_79 : In cX11_figureOf 79 (.aload_n 0) 1 80 := ⟨by decide +kernel, rfl⟩
theorem iX11_figureOf_80 : In cX11_figureOf 80 (.getfield 69) 3 83 := ⟨by decide +kernel, rfl⟩
theorem iX11_figureOf_83 : In cX11_figureOf 83 (.putfield 69) 3 86 := ⟨by decide +kernel, rfl⟩
theorem iX11_figureOf_86 : In cX11_figureOf 86 (.iconst 0) 1 87 := ⟨by decide +kernel, rfl⟩
theorem iX11_figureOf_87 : In cX11_figureOf 87 (.ireturn) 1 88 := ⟨by decide +kernel, rfl⟩
theorem iX11_figureOf_88 : In cX11_figureOf 88 (.aload_n 0) 1 89 := ⟨by decide +kernel, rfl⟩
theorem iX11_figureOf_89 : In cX11_figureOf 89 (.dup) 1 90 := ⟨by decide +kernel, rfl⟩
theorem iX11_figureOf_90 : In cX11_figureOf 90 (.getfield 72) 3 93 := ⟨by decide +kernel, rfl⟩
theorem iX11_figureOf_93 : In cX11_figureOf 93 (.iconst 1) 1 94 := ⟨by decide +kernel, rfl⟩
theorem iX11_figureOf_94 : In cX11_figureOf 94 (.iadd) 1 95 := ⟨by decide +kernel, rfl⟩
theorem iX11_figureOf_95 : In cX11_figureOf 95 (.putfield 72) 3 98 := ⟨by decide +kernel, rfl⟩
theorem iX11_figureOf_98 : In cX11_figureOf 98 (.iload_n 3) 1 99 := ⟨by decide +kernel, rfl⟩
theorem iX11_figureOf_99 : In cX11_figureOf 99 (.ireturn) 1 100 := ⟨by decide +kernel, rfl⟩
theorem iX11_moveBy_0 : In cX11_moveBy 0 (.iload_n 0) 1 1 := ⟨by decide +kernel, rfl⟩
theorem iX11_moveBy_1 : In cX11_moveBy 1 (.bipush 108) 2 3 := ⟨by decide +kernel, rfl⟩
theorem iX11_moveBy_3 : Jn cX11_moveBy 3 (.if_icmp .ne 7) (7) 6 10 := ⟨by decide +kernel, rfl, by decide⟩
theorem iX11_moveBy_6 : In cX11_moveBy 6 (.iconst 1) 1 7 := ⟨by decide +kernel, rfl⟩
theorem iX11_moveBy_7 : Jn cX11_moveBy 7 (.goto 34) (34) 10 41 := ⟨by decide +kernel, rfl, by decide⟩
theorem iX11_moveBy_10 : In cX11_moveBy 10 (.iload_n 0) 1 11 := ⟨by decide +kernel, rfl⟩
theorem iX11_moveBy_11 : In cX11_moveBy 11 (.bipush 112) 2 13 := ⟨by decide +kernel, rfl⟩
theorem iX11_moveBy_13 : Jn cX11_moveBy 13 (.if_icmp .ne 7) (7) 16 20 := ⟨by decide +kernel, rfl, by decide⟩
theorem iX11_moveBy_16 : In cX11_moveBy 16 (.iconst 2) 1 17 := ⟨by decide +kernel, rfl⟩
theorem iX11_moveBy_17 : Jn cX11_moveBy 17 (.goto 24) (24) 20 41 := ⟨by decide +kernel, rfl, by decide⟩
theorem iX11_moveBy_20 : In cX11_moveBy 20 (.iload_n 0) 1 21 := ⟨by decide +kernel, rfl⟩
theorem iX11_moveBy_21 : In cX11_moveBy 21 (.bipush 102) 2 23 := ⟨by decide +kernel, rfl⟩
theorem iX11_moveBy_23 : Jn cX11_moveBy 23 (.if_icmp .ne 7) (7) 26 30 := ⟨by decide +kernel, rfl, by decide⟩
theorem iX11_moveBy_26 : In cX11_moveBy 26 (.iconst 3) 1 27 := ⟨by decide +kernel, rfl⟩
theorem iX11_moveBy_27 : Jn cX11_moveBy 27 (.goto 14) (14) 30 41 := ⟨by decide +kernel, rfl, by decide⟩
theorem iX11_moveBy_30 : In cX11_moveBy 30 (.iload_n 0) 1 31 := ⟨by decide +kernel, rfl⟩
theorem iX11_moveBy_31 : In cX11_moveBy 31 (.bipush 119) 2 33 := ⟨by decide +kernel, rfl⟩
theorem iX11_moveBy_33 : Jn cX11_moveBy 33 (.if_icmp .ne 7) (7) 36 40 := ⟨by decide +kernel, rfl, by decide⟩
theorem iX11_moveBy_36 : In cX11_moveBy 36 (.iconst 4) 1 37 := ⟨by decide +kernel, rfl⟩
theorem iX11_moveBy_37 : Jn cX11_moveBy 37 (.goto 4) (4) 40 41 := ⟨by decide +kernel, rfl, by decide⟩
theorem iX11_moveBy_40 : In cX11_moveBy 40 (.iconst 0) 1 41 := ⟨by decide +kernel, rfl⟩
theorem iX11_moveBy_41 : In cX11_moveBy 41 (.ireturn) 1 42 := ⟨by decide +kernel, rfl⟩
theorem iX11_moveOf_0 : In cX11_moveOf 0 (.aload_n 0) 1 1 := ⟨by decide +kernel, rfl⟩
theorem iX11_moveOf_1 : In cX11_moveOf 1 (.getfield 69) 3 4 := ⟨by decide +kernel, rfl⟩
theorem iX11_moveOf_4 : In cX11_moveOf 4 (.bipush (-9)) 2 6 := ⟨by decide +kernel, rfl⟩
theorem iX11_moveOf_6 : Jn cX11_moveOf 6 (.if_icmp .ne 18) (18) 9 24 := ⟨by decide +kernel, rfl, by decide⟩
theorem iX11_moveOf_9 : In cX11_moveOf 9 (.aload_n 0) 1 10 := ⟨by decide +kernel, rfl⟩
theorem iX11_moveOf_10 : In cX11_moveOf 10 (.getfield 72) 3 13 := ⟨by decide +kernel, rfl⟩
theorem iX11_moveOf_13 : In cX11_moveOf 13 (.aload_n 0) 1 14 := ⟨by decide +kernel, rfl⟩
theorem iX11_moveOf_14 : In cX11_moveOf 14 (.getfield 65) 3 17 := ⟨by decide +kernel, rfl⟩
theorem iX11_moveOf_17 : Jn cX11_moveOf 17 (.if_icmp .ge 7) (7) 20 24 := ⟨by decide +kernel, rfl, by decide⟩
theorem iX11_moveOf_20 : In cX11_moveOf 20 (.iconst 1) 1 21 := ⟨by decide +kernel, rfl⟩
theorem iX11_moveOf_21 : Jn cX11_moveOf 21 (.goto 4) (4) 24 25 := ⟨by decide +kernel, rfl, by decide⟩
theorem iX11_moveOf_24 : In cX11_moveOf 24 (.iconst 0) 1 25 := ⟨by decide +kernel, rfl⟩
theorem iX11_moveOf_25 : In cX11_moveOf 25 (.istore_n 1) 1 26 := ⟨by decide +kernel, rfl⟩
theorem iX11_moveOf_26 : In cX11_moveOf 26 (.iload_n 1) 1 27 := ⟨by decide +kernel, rfl⟩
theorem iX11_moveOf_27 : Jn cX11_moveOf 27 (.ifCond .eq 18) (18) 30 45 := ⟨by decide +kernel, rfl, by decide⟩
theorem iX11_moveOf_30 : In cX11_moveOf 30 (.aload_n 0) 1 31 := ⟨by decide +kernel, rfl⟩
theorem iX11_moveOf_31 : In cX11_moveOf 31 (.getfield 31) 3 34 := ⟨by decide +kernel, rfl⟩
theorem iX11_moveOf_34 : In cX11_moveOf 34 (.aload_n 0) 1 35 := ⟨by decide +kernel, rfl⟩
theorem iX11_moveOf_35 : In cX11_moveOf 35 (.getfield 72) 3 38 := ⟨by decide +kernel, rfl⟩
theorem iX11_moveOf_38 : In cX11_moveOf 38 (.iaload) 1 39 := ⟨by decide +kernel, rfl⟩
theorem iX11_moveOf_39 : In cX11_moveOf 39 (.invokestatic 75) 3 42 := ⟨by decide +kernel, rfl⟩
theorem iX11_moveOf_42 : Jn cX11_moveOf 42 (.goto 4) (4) 45 46 := ⟨by decide +kernel, rfl, by decide⟩
theorem iX11_moveOf_45 : In cX11_moveOf 45 (.iconst 0) 1 46 := ⟨by decide +kernel, rfl⟩
theorem iX11_moveOf_46 : In cX11_moveOf 46 (.istore_n 2) 1 47 := ⟨by decide +kernel, rfl⟩
theorem iX11_moveOf_47 : In cX11_moveOf 47 (.iload_n 2) 1 48 := ⟨by decide +kernel, rfl⟩
theorem iX11_moveOf_48 : Jn cX11_moveOf 48 (.ifCond .ne 29) (29) 51 77 := ⟨by decide +kernel, rfl, by decide⟩
theorem iX11_moveOf_51 : In cX11_moveOf 51 (.aload_n 0) 1 52 := ⟨by decide +kernel, rfl⟩
theorem iX11_moveOf_52 : In cX11_moveOf 52 (.aload_n 0) 1 53 := ⟨by decide +kernel, rfl⟩
theorem iX11_moveOf_53 : In cX11_moveOf 53 (.getfield 69) 3 56 := ⟨by decide +kernel, rfl⟩
theorem iX11_moveOf_56 : In cX11_moveOf 56 (.bipush (-9)) 2 58 := ⟨by decide +kernel, rfl⟩
theorem iX11_moveOf_58 : Jn cX11_moveOf 58 (.if_icmp .ne 10) (10) 61 68 := ⟨by decide +kernel, rfl, by decide⟩
theorem iX11_moveOf_61 : In cX11_moveOf 61 (.aload_n 0) 1 62 := ⟨by decide +kernel, rfl⟩
theorem iX11_moveOf_62 : In cX11_moveOf 62 (.getfield 72) 3 65 := ⟨by decide +kernel, rfl⟩
theorem iX11_moveOf_65 : Jn cX11_moveOf 65 (.goto 7) (7) 68 72 := ⟨by decide +kernel, rfl, by decide⟩
theorem iX11_moveOf_68 : In cX11_moveOf 68 (.aload_n 0) 1 69 := ⟨by decide +kernel, rfl⟩
theorem iX11_moveOf_69 : In cX11_moveOf 69 (.getfield 69) 3 72 := ⟨by decide +kernel, rfl⟩
theorem iX11_moveOf_72 : In cX11_moveOf 72 (.putfield 69) 3 75 := ⟨by decide +kernel, rfl⟩
theorem iX11_moveOf_75 : In cX11_moveOf 75 (.iconst 0) 1 76 := ⟨by decide +kernel, rfl⟩
theorem iX11_moveOf_76 : In cX11_moveOf 76 (.ireturn) 1 77 := ⟨by decide +kernel, rfl⟩
theorem iX11_moveOf_77 : In cX11_moveOf 77 (.aload_n 0) 1 78 := ⟨by decide +kernel, rfl⟩
theorem iX11_moveOf_78 : In cX11_moveOf 78 (.dup) 1 79 := ⟨by decide +kernel, rfl⟩
theorem iX11_moveOf_79 : In cX11_moveOf 79 (.getfield 72) 3 82 := ⟨by decide +kernel, rfl⟩
theorem iX11_moveOf_82 : In cX11_moveOf 82 (.iconst 1) 1 83 := ⟨by decide +kernel, rfl⟩
theorem iX11_moveOf_83 : In cX11_moveOf 83 (.iadd) 1 84 := ⟨by decide +kernel, rfl⟩
theorem iX11_moveOf_84 : In cX11_moveOf 84 (.putfield 72) 3 87 := ⟨by decide +kernel, rfl⟩
theorem iX11_moveOf_87 : In cX11_moveOf 87 (.iload_n 2) 1 88 := ⟨by decide +kernel, rfl⟩
theorem iX11_moveOf_88 : In cX11_moveOf 88 (.ireturn) 1 89 := ⟨by decide +kernel, rfl⟩
theorem iX11_readText_0 : In cX11_readText 0 (.aload_n 0) 1 1 := ⟨by decide +kernel, rfl⟩
theorem iX11_readText_1 : In cX11_readText 1 (.iconst 0) 1 2 := ⟨by decide +kernel, rfl⟩
theorem iX11_readText_2 : In cX11_readText 2 (.putfield 72) 3 5 := ⟨by decide +kernel, rfl⟩
theorem iX11_readText_5 : In cX11_readText 5 (.aload_n 0) 1 6 := ⟨by decide +kernel, rfl⟩
theorem iX11_readText_6 : In cX11_readText 6 (.bipush (-9)) 2 8 := ⟨by decide +kernel, rfl⟩
theorem iX11_readText_8 : In cX11_readText 8 (.putfield 69) 3 11 := ⟨by decide +kernel, rfl⟩
theorem iX11_readText_11 : In cX11_readText 11 (.aload_n 0) 1 12 := ⟨by decide +kernel, rfl⟩
theorem iX11_readText_12 : In cX11_readText 12 (.iconst 0) 1 13 := ⟨by decide +kernel, rfl⟩
theorem iX11_readText_13 : In cX11_readText 13 (.putfield 79) 3 16 := ⟨by decide +kernel, rfl⟩
theorem iX11_readText_16 : In cX11_readText 16 (.aload_n 0) 1 17 := ⟨by decide +kernel, rfl⟩
theorem iX11_readText_17 : In cX11_readText 17 (.iconst 0) 1 18 := ⟨by decide +kernel, rfl⟩
theorem iX11_readText_18 : In cX11_readText 18 (.putfield 82) 3 21 := ⟨by decide +kernel, rfl⟩
theorem iX11_readText_21 : In cX11_readText 21 (.aload_n 0) 1 22 := ⟨by decide +kernel, rfl⟩
theorem iX11_readText_22 : In cX11_readText 22 (.getfield 65) 3 25 := ⟨by decide +kernel, rfl⟩
theorem iX11_readText_25 : Jn cX11_readText 25 (.ifCond .eq 14) (14) 28 39 := ⟨by decide +kernel, rfl, by decide⟩
theorem iX11_readText_28 : In cX11_readText 28 (.aload_n 0) 1 29 := ⟨by decide +kernel, rfl⟩
theorem iX11_readText_29 : In cX11_readText 29 (.getfield 31) 3 32 := ⟨by decide +kernel, rfl⟩
theorem iX11_readText_32 : In cX11_readText 32 (.iconst 0) 1 33 := ⟨by decide +kernel, rfl⟩
theorem iX11_readText_33 : In cX11_readText 33 (.iaload) 1 34 := ⟨by decide +kernel, rfl⟩
theorem iX11_readText_34 : In cX11_readText 34 (.bipush 66) 2 36 := ⟨by decide +kernel, rfl⟩
theorem iX11_readText_36 : Jn cX11_readText 36 (.if_icmp .eq 5) (5) 39 41 := ⟨by decide +kernel, rfl, by decide⟩
theorem iX11_readText_39 : In cX11_readText 39 (.iconst 0) 1 40 := ⟨by decide +kernel, rfl⟩
theorem iX11_readText_40 : In cX11_readText 40 (.ireturn) 1 41 := ⟨by decide +kernel, rfl⟩
theorem iX11_readText_41 : In cX11_readText 41 (.aload_n 0) 1 42 := ⟨by decide +kernel, rfl⟩
theorem iX11_readText_42 : In cX11_readText 42 (.iconst 1) 1 43 := ⟨by decide +kernel, rfl⟩
theorem iX11_readText_43 : In cX11_readText 43 (.putfield 72) 3 46 := ⟨by decide +kernel, rfl⟩
end
section
theorem iX11_readText_46 : In cX11_readText 46 (.aload_n 0) 1 47 := ⟨by decide +kernel, rfl⟩
theorem iX11_readText_47 : In cX11_readText 47 (.getfield 69) 3 50 := ⟨by decide +kernel, rfl⟩
theorem iX11_readText_50 : In cX11_readText 50 (.bipush (-9)) 2 52 := ⟨by decide +kernel, rfl⟩
theorem iX11_readText_52 : Jn cX11_readText 52 (.if_icmp .ne 30) (30) 55 82 := ⟨by decide +kernel, rfl, by decide⟩
theorem iX11_readText_55 : In cX11_readText 55 (.aload_n 0) 1 56 := ⟨by decide +kernel, rfl⟩
theorem iX11_readText_56 : In cX11_readText 56 (.getfield 72) 3 59 := ⟨by decide +kernel, rfl⟩
theorem iX11_readText_59 : In cX11_readText 59 (.aload_n 0) 1 60 := ⟨by decide +kernel, rfl⟩
theorem iX11_readText_60 : In cX11_readText 60 (.getfield 65) 3 63 := ⟨by decide +kernel, rfl⟩
theorem iX11_readText_63 : Jn cX11_readText 63 (.if_icmp .ge 19) (19) 66 82 := ⟨by decide +kernel, rfl, by decide⟩
theorem iX11_readText_66 : In cX11_readText 66 (.aload_n 0) 1 67 := ⟨by decide +kernel, rfl⟩
theorem iX11_readText_67 : In cX11_readText 67 (.aload_n 0) 1 68 := ⟨by decide +kernel, rfl⟩
theorem iX11_readText_68 : In cX11_readText 68 (.getfield 31) 3 71 := ⟨by decide +kernel, rfl⟩
theorem iX11_readText_71 : In cX11_readText 71 (.aload_n 0) 1 72 := ⟨by decide +kernel, rfl⟩
theorem iX11_readText_72 : In cX11_readText 72 (.getfield 72) 3 75 := ⟨by decide +kernel, rfl⟩
theorem iX11_readText_75 : In cX11_readText 75 (.iaload) 1 76 := ⟨by decide +kernel, rfl⟩
theorem iX11_readText_76 : In cX11_readText 76 (.invokevirtual 85) 3 79 := ⟨by decide +kernel, rfl⟩
theorem iX11_readText_79 : Jn cX11_readText 79 (.goto (-33)) (-33) 82 46 := ⟨by decide +kernel, rfl, by decide⟩
theorem iX11_readText_82 : In cX11_readText 82 (.aload_n 0) 1 83 := ⟨by decide +kernel, rfl⟩
theorem iX11_readText_83 : In cX11_readText 83 (.getfield 69) 3 86 := ⟨by decide +kernel, rfl⟩
theorem iX11_readText_86 : In cX11_readText 86 (.ireturn) 1 87 := ⟨by decide +kernel, rfl⟩
theorem iX11_readPart_0 : In cX11_readPart 0 (.iload_n 1) 1 1 := ⟨by decide +kernel, rfl⟩
theorem iX11_readPart_1 : In cX11_readPart 1 (.bipush 70) 2 3 := ⟨by decide +kernel, rfl⟩
theorem iX11_readPart_3 : Jn cX11_readPart 3 (.if_icmp .ne 81) (81) 6 84 := ⟨by decide +kernel, rfl, by decide⟩
theorem iX11_readPart_6 : In cX11_readPart 6 (.aload_n 0) 1 7 := ⟨by decide +kernel, rfl⟩
theorem iX11_readPart_7 : In cX11_readPart 7 (.getfield 79) 3 10 := ⟨by decide +kernel, rfl⟩
theorem iX11_readPart_10 : In cX11_readPart 10 (.bipush 6) 2 12 := ⟨by decide +kernel, rfl⟩
theorem iX11_readPart_12 : Jn cX11_readPart 12 (.if_icmp .ge 72) (72) 15 84 := ⟨by decide +kernel, rfl, by decide⟩
theorem iX11_readPart_15 : In cX11_readPart 15 (.aload_n 0) 1 16 := ⟨by decide +kernel, rfl⟩
theorem iX11_readPart_16 : In cX11_readPart 16 (.dup) 1 17 := ⟨by decide +kernel, rfl⟩
theorem iX11_readPart_17 : In cX11_readPart 17 (.getfield 72) 3 20 := ⟨by decide +kernel, rfl⟩
theorem iX11_readPart_20 : In cX11_readPart 20 (.iconst 1) 1 21 := ⟨by decide +kernel, rfl⟩
theorem iX11_readPart_21 : In cX11_readPart 21 (.iadd) 1 22 := ⟨by decide +kernel, rfl⟩
theorem iX11_readPart_22 : In cX11_readPart 22 (.putfield 72) 3 25 := ⟨by decide +kernel, rfl⟩
theorem iX11_readPart_25 : In cX11_readPart 25 (.aload_n 0) 1 26 := ⟨by decide +kernel, rfl⟩
theorem iX11_readPart_26 : In cX11_readPart 26 (.getfield 25) 3 29 := ⟨by decide +kernel, rfl⟩
theorem iX11_readPart_29 : In cX11_readPart 29 (.iconst 4) 1 30 := ⟨by decide +kernel, rfl⟩
theorem iX11_readPart_30 : In cX11_readPart 30 (.aload_n 0) 1 31 := ⟨by decide +kernel, rfl⟩
theorem iX11_readPart_31 : In cX11_readPart 31 (.getfield 79) 3 34 := ⟨by decide +kernel, rfl⟩
theorem iX11_readPart_34 : In cX11_readPart 34 (.imul) 1 35 := ⟨by decide +kernel, rfl⟩
theorem iX11_readPart_35 : In cX11_readPart 35 (.aload_n 0) 1 36 := ⟨by decide +kernel, rfl⟩
theorem iX11_readPart_36 : In cX11_readPart 36 (.iconst 3) 1 37 := ⟨by decide +kernel, rfl⟩
theorem iX11_readPart_37 : In cX11_readPart 37 (.invokevirtual 89) 3 40 := ⟨by decide +kernel, rfl⟩
theorem iX11_readPart_40 : In cX11_readPart 40 (.iastore) 1 41 := ⟨by decide +kernel, rfl⟩
theorem iX11_readPart_41 : In cX11_readPart 41 (.iconst 1) 1 42 := ⟨by decide +kernel, rfl⟩
theorem iX11_readPart_42 : In cX11_readPart 42 (.istore_n 2) 1 43 := ⟨by decide +kernel, rfl⟩
theorem iX11_readPart_43 : In cX11_readPart 43 (.iload_n 2) 1 44 := ⟨by decide +kernel, rfl⟩
theorem iX11_readPart_44 : In cX11_readPart 44 (.iconst 4) 1 45 := ⟨by decide +kernel, rfl⟩
theorem iX11_readPart_45 : Jn cX11_readPart 45 (.if_icmp .ge 26) (26) 48 71 := ⟨by decide +kernel, rfl, by decide⟩
theorem iX11_readPart_48 : In cX11_readPart 48 (.aload_n 0) 1 49 := ⟨by decide +kernel, rfl⟩
theorem iX11_readPart_49 : In cX11_readPart 49 (.getfield 25) 3 52 := ⟨by decide +kernel, rfl⟩
theorem iX11_readPart_52 : In cX11_readPart 52 (.iconst 4) 1 53 := ⟨by decide +kernel, rfl⟩
theorem iX11_readPart_53 : In cX11_readPart 53 (.aload_n 0) 1 54 := ⟨by decide +kernel, rfl⟩
theorem iX11_readPart_54 : In cX11_readPart 54 (.getfield 79) 3 57 := ⟨by decide +kernel, rfl⟩
theorem iX11_readPart_57 : In cX11_readPart 57 (.imul) 1 58 := ⟨by decide +kernel, rfl⟩
theorem iX11_readPart_58 : In cX11_readPart 58 (.iload_n 2) 1 59 := ⟨by decide +kernel, rfl⟩
theorem iX11_readPart_59 : In cX11_readPart 59 (.iadd) 1 60 := ⟨by decide +kernel, rfl⟩
theorem iX11_readPart_60 : In cX11_readPart 60 (.aload_n 0) 1 61 := ⟨by decide +kernel, rfl⟩
theorem iX11_readPart_61 : In cX11_readPart 61 (.invokevirtual 92) 3 64 := ⟨by decide +kernel, rfl⟩
theorem iX11_readPart_64 : In cX11_readPart 64 (.iastore) 1 65 := ⟨by decide +kernel, rfl⟩
theorem iX11_readPart_65 : In cX11_readPart 65 (.iinc 2 1) 3 68 := ⟨by decide +kernel, rfl⟩
theorem iX11_readPart_68 : Jn cX11_readPart 68 (.goto (-25)) (-25) 71 43 := ⟨by decide +kernel, rfl, by decide⟩
theorem iX11_readPart_71 : In cX11_readPart 71 (.aload_n 0) 1 72 := ⟨by decide +kernel, rfl⟩
theorem iX11_readPart_72 : In cX11_readPart 72 (.dup) 1 73 := ⟨by decide +kernel, rfl⟩
theorem iX11_readPart_73 : In cX11_readPart 73 (.getfield 79) 3 76 := ⟨by decide +kernel, rfl⟩
theorem iX11_readPart_76 : In cX11_readPart 76 (.iconst 1) 1 77 := ⟨by decide +kernel, rfl⟩
theorem iX11_readPart_77 : In cX11_readPart 77 (.iadd) 1 78 := ⟨by decide +kernel, rfl⟩
theorem iX11_readPart_78 : In cX11_readPart 78 (.putfield 79) 3 81 := ⟨by decide +kernel, rfl⟩
theorem iX11_readPart_81 : Jn cX11_readPart 81 (.goto 95) (95) 84 176 := ⟨by decide +kernel, rfl, by decide⟩
theorem iX11_readPart_84 : In cX11_readPart 84 (.iload_n 1) 1 85 := ⟨by decide +kernel, rfl⟩
theorem iX11_readPart_85 : In cX11_readPart 85 (.bipush 71) 2 87 := ⟨by decide +kernel, rfl⟩
theorem iX11_readPart_87 : Jn cX11_readPart 87 (.if_icmp .ne 81) (81) 90 168 := ⟨by decide +kernel, rfl, by decide⟩
theorem iX11_readPart_90 : In cX11_readPart 90 (.aload_n 0) 1 91 := ⟨by decide +kernel, rfl⟩
theorem iX11_readPart_91 : In cX11_readPart 91 (.getfield 82) 3 94 := ⟨by decide +kernel, rfl⟩
theorem iX11_readPart_94 : In cX11_readPart 94 (.iconst 5) 1 95 := ⟨by decide +kernel, rfl⟩
theorem iX11_readPart_95 : Jn cX11_readPart 95 (.if_icmp .ge 73) (73) 98 168 := ⟨by decide +kernel, rfl, by decide⟩
theorem iX11_readPart_98 : In cX11_readPart 98 (.aload_n 0) 1 99 := ⟨by decide +kernel, rfl⟩
theorem iX11_readPart_99 : In cX11_readPart 99 (.getfield 79) 3 102 := ⟨by decide +kernel, rfl⟩
theorem iX11_readPart_102 : Jn cX11_readPart 102 (.ifCond .le 66) (66) 105 168 := ⟨by decide +kernel, rfl, by decide⟩
theorem iX11_readPart_105 : In cX11_readPart 105 (.aload_n 0) 1 106 := ⟨by decide +kernel, rfl⟩
theorem iX11_readPart_106 : In cX11_readPart 106 (.dup) 1 107 := ⟨by decide +kernel, rfl⟩
theorem iX11_readPart_107 : In cX11_readPart 107 (.getfield 72) 3 110 := ⟨by decide +kernel, rfl⟩
theorem iX11_readPart_110 : In cX11_readPart 110 (.iconst 1) 1 111 := ⟨by decide +kernel, rfl⟩
theorem iX11_readPart_111 : In cX11_readPart 111 (.iadd) 1 112 := ⟨by decide +kernel, rfl⟩
theorem iX11_readPart_112 : In cX11_readPart 112 (.putfield 72) 3 115 := ⟨by decide +kernel, rfl⟩
theorem iX11_readPart_115 : In cX11_readPart 115 (.aload_n 0) 1 116 := ⟨by decide +kernel, rfl⟩
theorem iX11_readPart_116 : In cX11_readPart 116 (.getfield 28) 3 119 := ⟨by decide +kernel, rfl⟩
theorem iX11_readPart_119 : In cX11_readPart 119 (.iconst 2) 1 120 := ⟨by decide +kernel, rfl⟩
theorem iX11_readPart_120 : In cX11_readPart 120 (.aload_n 0) 1 121 := ⟨by decide +kernel, rfl⟩
theorem iX11_readPart_121 : In cX11_readPart 121 (.getfield 82) 3 124 := ⟨by decide +kernel, rfl⟩
theorem iX11_readPart_124 : In cX11_readPart 124 (.imul) 1 125 := ⟨by decide +kernel, rfl⟩
theorem iX11_readPart_125 : In cX11_readPart 125 (.aload_n 0) 1 126 := ⟨by decide +kernel, rfl⟩
theorem iX11_readPart_126 : In cX11_readPart 126 (.aload_n 0) 1 127 := ⟨by decide +kernel, rfl⟩
theorem iX11_readPart_127 : In cX11_readPart 127 (.getfield 79) 3 130 := ⟨by decide +kernel, rfl⟩
theorem iX11_readPart_130 : In cX11_readPart 130 (.iconst 1) 1 131 := ⟨by decide +kernel, rfl⟩
theorem iX11_readPart_131 : In cX11_readPart 131 (.isub) 1 132 := ⟨by decide +kernel, rfl⟩
theorem iX11_readPart_132 : In cX11_readPart 132 (.invokevirtual 89) 3 135 := ⟨by decide +kernel, rfl⟩
theorem iX11_readPart_135 : In cX11_readPart 135 (.iastore) 1 136 := ⟨by decide +kernel, rfl⟩
theorem iX11_readPart_136 : In cX11_readPart 136 (.aload_n 0) 1 137 := ⟨by decide +kernel, rfl⟩
theorem iX11_readPart_137 : In cX11_readPart 137 (.getfield 28) 3 140 := ⟨by decide +kernel, rfl⟩
theorem iX11_readPart_140 : In cX11_readPart 140 (.iconst 2) 1 141 := ⟨by decide +kernel, rfl⟩
theorem iX11_readPart_141 : In cX11_readPart 141 (.aload_n 0) 1 142 := ⟨by decide +kernel, rfl⟩
theorem iX11_readPart_142 : In cX11_readPart 142 (.getfield 82) 3 145 := ⟨by decide +kernel, rfl⟩
theorem iX11_readPart_145 : In cX11_readPart 145 (.imul) 1 146 := ⟨by decide +kernel, rfl⟩
theorem iX11_readPart_146 : In cX11_readPart 146 (.iconst 1) 1 147 := ⟨by decide +kernel, rfl⟩
theorem iX11_readPart_147 : In cX11_readPart 147 (.iadd) 1 148 := ⟨by decide +kernel, rfl⟩
theorem iX11_readPart_148 : In cX11_readPart 148 (.aload_n 0) 1 149 := ⟨by decide +kernel, rfl⟩
theorem iX11_readPart_149 : In cX11_readPart 149 (.bipush 9) 2 151 := ⟨by decide +kernel, rfl⟩
theorem iX11_readPart_151 : In cX11_readPart 151 (.invokevirtual 89) 3 154 := ⟨by decide +kernel, rfl⟩
theorem iX11_readPart_154 : In cX11_readPart 154 (.iastore) 1 155 := ⟨by decide +kernel, rfl⟩
theorem iX11_readPart_155 : In cX11_readPart 155 (.aload_n 0) 1 156 := ⟨by decide +kernel, rfl⟩
theorem iX11_readPart_156 : In cX11_readPart 156 (.dup) 1 157 := ⟨by decide +kernel, rfl⟩
theorem iX11_readPart_157 : In cX11_readPart 157 (.getfield 82) 3 160 := ⟨by decide +kernel, rfl⟩
theorem iX11_readPart_160 : In cX11_readPart 160 (.iconst 1) 1 161 := ⟨by decide +kernel, rfl⟩
theorem iX11_readPart_161 : In cX11_readPart 161 (.iadd) 1 162 := ⟨by decide +kernel, rfl⟩
theorem iX11_readPart_162 : In cX11_readPart 162 (.putfield 82) 3 165 := ⟨by decide +kernel, rfl⟩
theorem iX11_readPart_165 : Jn cX11_readPart 165 (.goto 11) (11) 168 176 := ⟨by decide +kernel, rfl, by decide⟩
theorem iX11_readPart_168 : In cX11_readPart 168 (.aload_n 0) 1 169 := ⟨by decide +kernel, rfl⟩
theorem iX11_readPart_169 : In cX11_readPart 169 (.aload_n 0) 1 170 := ⟨by decide +kernel, rfl⟩
theorem iX11_readPart_170 : In cX11_readPart 170 (.getfield 72) 3 173 := ⟨by decide +kernel, rfl⟩
theorem iX11_readPart_173 : In cX11_readPart 173 (.putfield 69) 3 176 := ⟨by decide +kernel, rfl⟩
theorem iX11_readPart_176 : In cX11_readPart 176 (.return_) 1 177 := ⟨by decide +kernel, rfl⟩
theorem iX11_fault_0 : In cX11_fault 0 (.aload_n 0) 1 1 := ⟨by decide +kernel, rfl⟩
theorem iX11_fault_1 : In cX11_fault 1 (.invokevirtual 96) 3 4 := ⟨by decide +kernel, rfl⟩
theorem iX11_fault_4 : In cX11_fault 4 (.ireturn) 1 5 := ⟨by decide +kernel, rfl⟩
theorem iX11_bazaar_0 : In cX11_bazaar 0 (.aload_n 0) 1 1 := ⟨by decide +kernel, rfl⟩
theorem iX11_bazaar_1 : In cX11_bazaar 1 (.invokevirtual 96) 3 4 := ⟨by decide +kernel, rfl⟩
theorem iX11_bazaar_4 : In cX11_bazaar 4 (.bipush (-9)) 2 6 := ⟨by decide +kernel, rfl⟩
theorem iX11_bazaar_6 : Jn cX11_bazaar 6 (.if_icmp .eq 6) (6) 9 12 := ⟨by decide +kernel, rfl, by decide⟩
theorem iX11_bazaar_9 : In cX11_bazaar 9 (.bipush (-3)) 2 11 := ⟨by decide +kernel, rfl⟩
theorem iX11_bazaar_11 : In cX11_bazaar 11 (.ireturn) 1 12 := ⟨by decide +kernel, rfl⟩
theorem iX11_bazaar_12 : In cX11_bazaar 12 (.aload_n 0) 1 13 := ⟨by decide +kernel, rfl⟩
theorem iX11_bazaar_13 : In cX11_bazaar 13 (.aload_n 0) 1 14 := ⟨by decide +kernel, rfl⟩
theorem iX11_bazaar_14 : In cX11_bazaar 14 (.getfield 79) 3 17 := ⟨by decide +kernel, rfl⟩
theorem iX11_bazaar_17 : In cX11_bazaar 17 (.putfield 99) 3 20 := ⟨by decide +kernel, rfl⟩
theorem iX11_bazaar_20 : In cX11_bazaar 20 (.aload_n 0) 1 21 := ⟨by decide +kernel, rfl⟩
theorem iX11_bazaar_21 : In cX11_bazaar 21 (.aload_n 0) 1 22 := ⟨by decide +kernel, rfl⟩
theorem iX11_bazaar_22 : In cX11_bazaar 22 (.getfield 82) 3 25 := ⟨by decide +kernel, rfl⟩
theorem iX11_bazaar_25 : In cX11_bazaar 25 (.putfield 102) 3 28 := ⟨by decide +kernel, rfl⟩
theorem iX11_bazaar_28 : In cX11_bazaar 28 (.iconst 0) 1 29 := ⟨by decide +kernel, rfl⟩
theorem iX11_bazaar_29 : In cX11_bazaar 29 (.istore_n 1) 1 30 := ⟨by decide +kernel, rfl⟩
theorem iX11_bazaar_30 : In cX11_bazaar 30 (.iload_n 1) 1 31 := ⟨by decide +kernel, rfl⟩
theorem iX11_bazaar_31 : In cX11_bazaar 31 (.bipush 18) 2 33 := ⟨by decide +kernel, rfl⟩
theorem iX11_bazaar_33 : Jn cX11_bazaar 33 (.if_icmp .ge 16) (16) 36 49 := ⟨by decide +kernel, rfl, by decide⟩
theorem iX11_bazaar_36 : In cX11_bazaar 36 (.aload_n 0) 1 37 := ⟨by decide +kernel, rfl⟩
theorem iX11_bazaar_37 : In cX11_bazaar 37 (.getfield 22) 3 40 := ⟨by decide +kernel, rfl⟩
theorem iX11_bazaar_40 : In cX11_bazaar 40 (.iload_n 1) 1 41 := ⟨by decide +kernel, rfl⟩
theorem iX11_bazaar_41 : In cX11_bazaar 41 (.iconst 0) 1 42 := ⟨by decide +kernel, rfl⟩
theorem iX11_bazaar_42 : In cX11_bazaar 42 (.iastore) 1 43 := ⟨by decide +kernel, rfl⟩
theorem iX11_bazaar_43 : In cX11_bazaar 43 (.iinc 1 1) 3 46 := ⟨by decide +kernel, rfl⟩
theorem iX11_bazaar_46 : Jn cX11_bazaar 46 (.goto (-16)) (-16) 49 30 := ⟨by decide +kernel, rfl, by decide⟩
theorem iX11_bazaar_49 : In cX11_bazaar 49 (.iconst 0) 1 50 := ⟨by decide +kernel, rfl⟩
theorem iX11_bazaar_50 : In cX11_bazaar 50 (.istore_n 1) 1 51 := ⟨by decide +kernel, rfl⟩
theorem iX11_bazaar_51 : In cX11_bazaar 51 (.iload_n 1) 1 52 := ⟨by decide +kernel, rfl⟩
theorem iX11_bazaar_52 : In cX11_bazaar 52 (.aload_n 0) 1 53 := ⟨by decide +kernel, rfl⟩
theorem iX11_bazaar_53 : In cX11_bazaar 53 (.getfield 99) 3 56 := ⟨by decide +kernel, rfl⟩
theorem iX11_bazaar_56 : Jn cX11_bazaar 56 (.if_icmp .ge 68) (68) 59 124 := ⟨by decide +kernel, rfl, by decide⟩
theorem iX11_bazaar_59 : In cX11_bazaar 59 (.aload_n 0) 1 60 := ⟨by decide +kernel, rfl⟩
theorem iX11_bazaar_60 : In cX11_bazaar 60 (.getfield 7) 3 63 := ⟨by decide +kernel, rfl⟩
theorem iX11_bazaar_63 : In cX11_bazaar 63 (.iload_n 1) 1 64 := ⟨by decide +kernel, rfl⟩
theorem iX11_bazaar_64 : In cX11_bazaar 64 (.aload_n 0) 1 65 := ⟨by decide +kernel, rfl⟩
theorem iX11_bazaar_65 : In cX11_bazaar 65 (.getfield 25) 3 68 := ⟨by decide +kernel, rfl⟩
theorem iX11_bazaar_68 : In cX11_bazaar 68 (.iconst 4) 1 69 := ⟨by decide +kernel, rfl⟩
theorem iX11_bazaar_69 : In cX11_bazaar 69 (.iload_n 1) 1 70 := ⟨by decide +kernel, rfl⟩
theorem iX11_bazaar_70 : In cX11_bazaar 70 (.imul) 1 71 := ⟨by decide +kernel, rfl⟩
theorem iX11_bazaar_71 : In cX11_bazaar 71 (.iaload) 1 72 := ⟨by decide +kernel, rfl⟩
theorem iX11_bazaar_72 : In cX11_bazaar 72 (.iastore) 1 73 := ⟨by decide +kernel, rfl⟩
theorem iX11_bazaar_73 : In cX11_bazaar 73 (.iconst 0) 1 74 := ⟨by decide +kernel, rfl⟩
theorem iX11_bazaar_74 : In cX11_bazaar 74 (.istore_n 2) 1 75 := ⟨by decide +kernel, rfl⟩
theorem iX11_bazaar_75 : In cX11_bazaar 75 (.iload_n 2) 1 76 := ⟨by decide +kernel, rfl⟩
theorem iX11_bazaar_76 : In cX11_bazaar 76 (.iconst 3) 1 77 := ⟨by decide +kernel, rfl⟩
theorem iX11_bazaar_77 : Jn cX11_bazaar 77 (.if_icmp .ge 31) (31) 80 108 := ⟨by decide +kernel, rfl, by decide⟩
theorem iX11_bazaar_80 : In cX11_bazaar 80 (.aload_n 0) 1 81 := ⟨by decide +kernel, rfl⟩
theorem iX11_bazaar_81 : In cX11_bazaar 81 (.getfield 13) 3 84 := ⟨by decide +kernel, rfl⟩
theorem iX11_bazaar_84 : In cX11_bazaar 84 (.iconst 3) 1 85 := ⟨by decide +kernel, rfl⟩
theorem iX11_bazaar_85 : In cX11_bazaar 85 (.iload_n 1) 1 86 := ⟨by decide +kernel, rfl⟩
theorem iX11_bazaar_86 : In cX11_bazaar 86 (.imul) 1 87 := ⟨by decide +kernel, rfl⟩
theorem iX11_bazaar_87 : In cX11_bazaar 87 (.iload_n 2) 1 88 := ⟨by decide +kernel, rfl⟩
theorem iX11_bazaar_88 : In cX11_bazaar 88 (.iadd) 1 89 := ⟨by decide +kernel, rfl⟩
theorem iX11_bazaar_89 : In cX11_bazaar 89 (.aload_n 0) 1 90 := ⟨by decide +kernel, rfl⟩
theorem iX11_bazaar_90 : In cX11_bazaar 90 (.getfield 25) 3 93 := ⟨by decide +kernel, rfl⟩
theorem iX11_bazaar_93 : In cX11_bazaar 93 (.iconst 4) 1 94 := ⟨by decide +kernel, rfl⟩
theorem iX11_bazaar_94 : In cX11_bazaar 94 (.iload_n 1) 1 95 := ⟨by decide +kernel, rfl⟩
theorem iX11_bazaar_95 : In cX11_bazaar 95 (.imul) 1 96 := ⟨by decide +kernel, rfl⟩
theorem iX11_bazaar_96 : In cX11_bazaar 96 (.iconst 1) 1 97 := ⟨by decide +kernel, rfl⟩
theorem iX11_bazaar_97 : In cX11_bazaar 97 (.iadd) 1 98 := ⟨by decide +kernel, rfl⟩
theorem iX11_bazaar_98 : In cX11_bazaar 98 (.iload_n 2) 1 99 := ⟨by decide +kernel, rfl⟩
theorem iX11_bazaar_99 : In cX11_bazaar 99 (.iadd) 1 100 := ⟨by decide +kernel, rfl⟩
theorem iX11_bazaar_100 : In cX11_bazaar 100 (.iaload) 1 101 := ⟨by decide +kernel, rfl⟩
theorem iX11_bazaar_101 : In cX11_bazaar 101 (.iastore) 1 102 := ⟨by decide +kernel, rfl⟩
theorem iX11_bazaar_102 : In cX11_bazaar 102 (.iinc 2 1) 3 105 := ⟨by decide +kernel, rfl⟩
theorem iX11_bazaar_105 : Jn cX11_bazaar 105 (.goto (-30)) (-30) 108 75 := ⟨by decide +kernel, rfl, by decide⟩
theorem iX11_bazaar_108 : In cX11_bazaar 108 (.aload_n 0) 1 109 := ⟨by decide +kernel, rfl⟩
theorem iX11_bazaar_109 : In cX11_bazaar 109 (.getfield 22) 3 112 := ⟨by decide +kernel, rfl⟩
theorem iX11_bazaar_112 : In cX11_bazaar 112 (.iconst 5) 1 113 := ⟨by decide +kernel, rfl⟩
theorem iX11_bazaar_113 : In cX11_bazaar 113 (.iload_n 1) 1 114 := ⟨by decide +kernel, rfl⟩
theorem iX11_bazaar_114 : In cX11_bazaar 114 (.iadd) 1 115 := ⟨by decide +kernel, rfl⟩
theorem iX11_bazaar_115 : In cX11_bazaar 115 (.bipush 9) 2 117 := ⟨by decide +kernel, rfl⟩
theorem iX11_bazaar_117 : In cX11_bazaar 117 (.iastore) 1 118 := ⟨by decide +kernel, rfl⟩
theorem iX11_bazaar_118 : In cX11_bazaar 118 (.iinc 1 1) 3 121 := ⟨by decide +kernel, rfl⟩
theorem iX11_bazaar_121 : Jn cX11_bazaar 121 (.goto (-70)) (-70) 124 51 := ⟨by decide +kernel, rfl, by decide⟩
theorem iX11_bazaar_124 : In cX11_bazaar 124 (.iconst 0) 1 125 := ⟨by decide +kernel, rfl⟩
theorem iX11_bazaar_125 : In cX11_bazaar 125 (.istore_n 1) 1 126 := ⟨by decide +kernel, rfl⟩
theorem iX11_bazaar_126 : In cX11_bazaar 126 (.iload_n 1) 1 127 := ⟨by decide +kernel, rfl⟩
theorem iX11_bazaar_127 : In cX11_bazaar 127 (.aload_n 0) 1 128 := ⟨by decide +kernel, rfl⟩
theorem iX11_bazaar_128 : In cX11_bazaar 128 (.getfield 102) 3 131 := ⟨by decide +kernel, rfl⟩
theorem iX11_bazaar_131 : Jn cX11_bazaar 131 (.if_icmp .ge 51) (51) 134 182 := ⟨by decide +kernel, rfl, by decide⟩
theorem iX11_bazaar_134 : In cX11_bazaar 134 (.aload_n 0) 1 135 := ⟨by decide +kernel, rfl⟩
theorem iX11_bazaar_135 : In cX11_bazaar 135 (.getfield 16) 3 138 := ⟨by decide +kernel, rfl⟩
theorem iX11_bazaar_138 : In cX11_bazaar 138 (.iload_n 1) 1 139 := ⟨by decide +kernel, rfl⟩
theorem iX11_bazaar_139 : In cX11_bazaar 139 (.aload_n 0) 1 140 := ⟨by decide +kernel, rfl⟩
theorem iX11_bazaar_140 : In cX11_bazaar 140 (.getfield 28) 3 143 := ⟨by decide +kernel, rfl⟩
theorem iX11_bazaar_143 : In cX11_bazaar 143 (.iconst 2) 1 144 := ⟨by decide +kernel, rfl⟩
theorem iX11_bazaar_144 : In cX11_bazaar 144 (.iload_n 1) 1 145 := ⟨by decide +kernel, rfl⟩
theorem iX11_bazaar_145 : In cX11_bazaar 145 (.imul) 1 146 := ⟨by decide +kernel, rfl⟩
theorem iX11_bazaar_146 : In cX11_bazaar 146 (.iaload) 1 147 := ⟨by decide +kernel, rfl⟩
theorem iX11_bazaar_147 : In cX11_bazaar 147 (.iastore) 1 148 := ⟨by decide +kernel, rfl⟩
theorem iX11_bazaar_148 : In cX11_bazaar 148 (.aload_n 0) 1 149 := ⟨by decide +kernel, rfl⟩
theorem iX11_bazaar_149 : In cX11_bazaar 149 (.getfield 19) 3 152 := ⟨by decide +kernel, rfl⟩
theorem iX11_bazaar_152 : In cX11_bazaar 152 (.iload_n 1) 1 153 := ⟨by decide +kernel, rfl⟩
theorem iX11_bazaar_153 : In cX11_bazaar 153 (.aload_n 0) 1 154 := ⟨by decide +kernel, rfl⟩
theorem iX11_bazaar_154 : In cX11_bazaar 154 (.getfield 28) 3 157 := ⟨by decide +kernel, rfl⟩
theorem iX11_bazaar_157 : In cX11_bazaar 157 (.iconst 2) 1 158 := ⟨by decide +kernel, rfl⟩
theorem iX11_bazaar_158 : In cX11_bazaar 158 (.iload_n 1) 1 159 := ⟨by decide +kernel, rfl⟩
theorem iX11_bazaar_159 : In cX11_bazaar 159 (.imul) 1 160 := ⟨by decide +kernel, rfl⟩
theorem iX11_bazaar_160 : In cX11_bazaar 160 (.iconst 1) 1 161 := ⟨by decide +kernel, rfl⟩
theorem iX11_bazaar_161 : In cX11_bazaar 161 (.iadd) 1 162 := ⟨by decide +kernel, rfl⟩
theorem iX11_bazaar_162 : In cX11_bazaar 162 (.iaload) 1 163 := ⟨by decide +kernel, rfl⟩
theorem iX11_bazaar_163 : In cX11_bazaar 163 (.iastore) 1 164 := ⟨by decide +kernel, rfl⟩
theorem iX11_bazaar_164 : In cX11_bazaar 164 (.aload_n 0) 1 165 := ⟨by decide +kernel, rfl⟩
theorem iX11_bazaar_165 : In cX11_bazaar 165 (.getfield 22) 3 168 := ⟨by decide +kernel, rfl⟩
theorem iX11_bazaar_168 : In cX11_bazaar 168 (.iload_n 1) 1 169 := ⟨by decide +kernel, rfl⟩
theorem iX11_bazaar_169 : In cX11_bazaar 169 (.aload_n 0) 1 170 := ⟨by decide +kernel, rfl⟩
theorem iX11_bazaar_170 : In cX11_bazaar 170 (.getfield 16) 3 173 := ⟨by decide +kernel, rfl⟩
theorem iX11_bazaar_173 : In cX11_bazaar 173 (.iload_n 1) 1 174 := ⟨by decide +kernel, rfl⟩
theorem iX11_bazaar_174 : In cX11_bazaar 174 (.iaload) 1 175 := ⟨by decide +kernel, rfl⟩
theorem iX11_bazaar_175 : In cX11_bazaar 175 (.iastore) 1 176 := ⟨by decide +kernel, rfl⟩
theorem iX11_bazaar_176 : In cX11_bazaar 176 (.iinc 1 1) 3 179 := ⟨by decide +kernel, rfl⟩
theorem iX11_bazaar_179 : Jn cX11_bazaar 179 (.goto (-53)) (-53) 182 126 := ⟨by decide +kernel, rfl, by decide⟩
theorem iX11_bazaar_182 : In cX11_bazaar 182 (.aload_n 0) 1 183 := ⟨by decide +kernel, rfl⟩
theorem iX11_bazaar_183 : In cX11_bazaar 183 (.iconst 0) 1 184 := ⟨by decide +kernel, rfl⟩
theorem iX11_bazaar_184 : In cX11_bazaar 184 (.putfield 105) 3 187 := ⟨by decide +kernel, rfl⟩
theorem iX11_bazaar_187 : In cX11_bazaar 187 (.aload_n 0) 1 188 := ⟨by decide +kernel, rfl⟩
theorem iX11_bazaar_188 : In cX11_bazaar 188 (.getfield 52) 3 191 := ⟨by decide +kernel, rfl⟩
theorem iX11_bazaar_191 : In cX11_bazaar 191 (.iconst 0) 1 192 := ⟨by decide +kernel, rfl⟩
theorem iX11_bazaar_192 : In cX11_bazaar 192 (.iconst 0) 1 193 := ⟨by decide +kernel, rfl⟩
theorem iX11_bazaar_193 : In cX11_bazaar 193 (.bastore) 1 194 := ⟨by decide +kernel, rfl⟩
theorem iX11_bazaar_194 : In cX11_bazaar 194 (.aload_n 0) 1 195 := ⟨by decide +kernel, rfl⟩
theorem iX11_bazaar_195 : In cX11_bazaar 195 (.getfield 52) 3 198 := ⟨by decide +kernel, rfl⟩
theorem iX11_bazaar_198 : In cX11_bazaar 198 (.iconst 1) 1 199 := ⟨by decide +kernel, rfl⟩
theorem iX11_bazaar_199 : In cX11_bazaar 199 (.iconst 0) 1 200 := ⟨by decide +kernel, rfl⟩
theorem iX11_bazaar_200 : In cX11_bazaar 200 (.bastore) 1 201 := ⟨by decide +kernel, rfl⟩
theorem iX11_bazaar_201 : In cX11_bazaar 201 (.bipush 10) 2 203 := ⟨by decide +kernel, rfl⟩
theorem iX11_bazaar_203 : In cX11_bazaar 203 (.aload_n 0) 1 204 := ⟨by decide +kernel, rfl⟩
theorem iX11_bazaar_204 : In cX11_bazaar 204 (.getfield 99) 3 207 := ⟨by decide +kernel, rfl⟩
theorem iX11_bazaar_207 : In cX11_bazaar 207 (.imul) 1 208 := ⟨by decide +kernel, rfl⟩
theorem iX11_bazaar_208 : In cX11_bazaar 208 (.aload_n 0) 1 209 := ⟨by decide +kernel, rfl⟩
theorem iX11_bazaar_209 : In cX11_bazaar 209 (.getfield 102) 3 212 := ⟨by decide +kernel, rfl⟩
theorem iX11_bazaar_212 : In cX11_bazaar 212 (.iadd) 1 213 := ⟨by decide +kernel, rfl⟩
theorem iX11_bazaar_213 : In cX11_bazaar 213 (.ireturn) 1 214 := ⟨by decide +kernel, rfl⟩
theorem iX11_isFencer_0 : In cX11_isFencer 0 (.iload_n 1) 1 1 := ⟨by decide +kernel, rfl⟩
theorem iX11_isFencer_1 : In cX11_isFencer 1 (.i2l) 1 2 := ⟨by decide +kernel, rfl⟩
theorem iX11_isFencer_2 : In cX11_isFencer 2 (.lconst 0) 1 3 := ⟨by decide +kernel, rfl⟩
theorem iX11_isFencer_3 : In cX11_isFencer 3 (.aload_n 0) 1 4 := ⟨by decide +kernel, rfl⟩
theorem iX11_isFencer_4 : In cX11_isFencer 4 (.getfield 99) 3 7 := ⟨by decide +kernel, rfl⟩
theorem iX11_isFencer_7 : In cX11_isFencer 7 (.iconst 1) 1 8 := ⟨by decide +kernel, rfl⟩
theorem iX11_isFencer_8 : In cX11_isFencer 8 (.isub) 1 9 := ⟨by decide +kernel, rfl⟩
theorem iX11_isFencer_9 : In cX11_isFencer 9 (.i2l) 1 10 := ⟨by decide +kernel, rfl⟩
theorem iX11_isFencer_10 : In cX11_isFencer 10 (.invokestatic 61) 3 13 := ⟨by decide +kernel, rfl⟩
theorem iX11_isFencer_13 : In cX11_isFencer 13 (.ireturn) 1 14 := ⟨by decide +kernel, rfl⟩
theorem iX11_isGood_0 : In cX11_isGood 0 (.iload_n 1) 1 1 := ⟨by decide +kernel, rfl⟩
theorem iX11_isGood_1 : In cX11_isGood 1 (.i2l) 1 2 := ⟨by decide +kernel, rfl⟩
theorem iX11_isGood_2 : In cX11_isGood 2 (.lconst 0) 1 3 := ⟨by decide +kernel, rfl⟩
theorem iX11_isGood_3 : In cX11_isGood 3 (.aload_n 0) 1 4 := ⟨by decide +kernel, rfl⟩
theorem iX11_isGood_4 : In cX11_isGood 4 (.getfield 102) 3 7 := ⟨by decide +kernel, rfl⟩
theorem iX11_isGood_7 : In cX11_isGood 7 (.iconst 1) 1 8 := ⟨by decide +kernel, rfl⟩
theorem iX11_isGood_8 : In cX11_isGood 8 (.isub) 1 9 := ⟨by decide +kernel, rfl⟩
theorem iX11_isGood_9 : In cX11_isGood 9 (.i2l) 1 10 := ⟨by decide +kernel, rfl⟩
theorem iX11_isGood_10 : In cX11_isGood 10 (.invokestatic 61) 3 13 := ⟨by decide +kernel, rfl⟩
theorem iX11_isGood_13 : In cX11_isGood 13 (.ireturn) 1 14 := ⟨by decide +kernel, rfl⟩
theorem iX11_answer_0 : In cX11_answer 0 (.iload_n 0) 1 1 := ⟨by decide +kernel, rfl⟩
theorem iX11_answer_1 : In cX11_answer 1 (.iconst 1) 1 2 := ⟨by decide +kernel, rfl⟩
theorem iX11_answer_2 : Jn cX11_answer 2 (.if_icmp .ne 7) (7) 5 9 := ⟨by decide +kernel, rfl, by decide⟩
theorem iX11_answer_5 : In cX11_answer 5 (.iconst 2) 1 6 := ⟨by decide +kernel, rfl⟩
theorem iX11_answer_6 : Jn cX11_answer 6 (.goto 13) (13) 9 19 := ⟨by decide +kernel, rfl, by decide⟩
theorem iX11_answer_9 : In cX11_answer 9 (.iload_n 0) 1 10 := ⟨by decide +kernel, rfl⟩
theorem iX11_answer_10 : In cX11_answer 10 (.iconst 2) 1 11 := ⟨by decide +kernel, rfl⟩
theorem iX11_answer_11 : Jn cX11_answer 11 (.if_icmp .ne 7) (7) 14 18 := ⟨by decide +kernel, rfl, by decide⟩
theorem iX11_answer_14 : In cX11_answer 14 (.iconst 3) 1 15 := ⟨by decide +kernel, rfl⟩
theorem iX11_answer_15 : Jn cX11_answer 15 (.goto 4) (4) 18 19 := ⟨by decide +kernel, rfl, by decide⟩
theorem iX11_answer_18 : In cX11_answer 18 (.iconst 1) 1 19 := ⟨by decide +kernel, rfl⟩
theorem iX11_answer_19 : In cX11_answer 19 (.ireturn) 1 20 := ⟨by decide +kernel, rfl⟩
theorem iX11_moveIn_0 : In cX11_moveIn 0 (.aload_n 0) 1 1 := ⟨by decide +kernel, rfl⟩
theorem iX11_moveIn_1 : In cX11_moveIn 1 (.getfield 7) 3 4 := ⟨by decide +kernel, rfl⟩
theorem iX11_moveIn_4 : In cX11_moveIn 4 (.iload_n 1) 1 5 := ⟨by decide +kernel, rfl⟩
theorem iX11_moveIn_5 : In cX11_moveIn 5 (.iaload) 1 6 := ⟨by decide +kernel, rfl⟩
theorem iX11_moveIn_6 : In cX11_moveIn 6 (.iconst 2) 1 7 := ⟨by decide +kernel, rfl⟩
theorem iX11_moveIn_7 : Jn cX11_moveIn 7 (.if_icmp .ne 17) (17) 10 24 := ⟨by decide +kernel, rfl, by decide⟩
theorem iX11_moveIn_10 : In cX11_moveIn 10 (.iload_n 3) 1 11 := ⟨by decide +kernel, rfl⟩
theorem iX11_moveIn_11 : Jn cX11_moveIn 11 (.ifCond .ne 7) (7) 14 18 := ⟨by decide +kernel, rfl, by decide⟩
theorem iX11_moveIn_14 : In cX11_moveIn 14 (.iconst 4) 1 15 := ⟨by decide +kernel, rfl⟩
theorem iX11_moveIn_15 : Jn cX11_moveIn 15 (.goto 8) (8) 18 23 := ⟨by decide +kernel, rfl, by decide⟩
theorem iX11_moveIn_18 : In cX11_moveIn 18 (.iload 4) 2 20 := ⟨by decide +kernel, rfl⟩
theorem iX11_moveIn_20 : In cX11_moveIn 20 (.invokestatic 108) 3 23 := ⟨by decide +kernel, rfl⟩
theorem iX11_moveIn_23 : In cX11_moveIn 23 (.ireturn) 1 24 := ⟨by decide +kernel, rfl⟩
theorem iX11_moveIn_24 : In cX11_moveIn 24 (.aload_n 0) 1 25 := ⟨by decide +kernel, rfl⟩
theorem iX11_moveIn_25 : In cX11_moveIn 25 (.getfield 7) 3 28 := ⟨by decide +kernel, rfl⟩
theorem iX11_moveIn_28 : In cX11_moveIn 28 (.iload_n 1) 1 29 := ⟨by decide +kernel, rfl⟩
theorem iX11_moveIn_29 : In cX11_moveIn 29 (.iaload) 1 30 := ⟨by decide +kernel, rfl⟩
theorem iX11_moveIn_30 : In cX11_moveIn 30 (.iconst 3) 1 31 := ⟨by decide +kernel, rfl⟩
theorem iX11_moveIn_31 : Jn cX11_moveIn 31 (.if_icmp .ne 7) (7) 34 38 := ⟨by decide +kernel, rfl, by decide⟩
theorem iX11_moveIn_34 : In cX11_moveIn 34 (.iconst 0) 1 35 := ⟨by decide +kernel, rfl⟩
theorem iX11_moveIn_35 : Jn cX11_moveIn 35 (.goto 4) (4) 38 39 := ⟨by decide +kernel, rfl, by decide⟩
theorem iX11_moveIn_38 : In cX11_moveIn 38 (.iload_n 2) 1 39 := ⟨by decide +kernel, rfl⟩
theorem iX11_moveIn_39 : In cX11_moveIn 39 (.istore 5) 2 41 := ⟨by decide +kernel, rfl⟩
theorem iX11_moveIn_41 : In cX11_moveIn 41 (.aload_n 0) 1 42 := ⟨by decide +kernel, rfl⟩
theorem iX11_moveIn_42 : In cX11_moveIn 42 (.getfield 13) 3 45 := ⟨by decide +kernel, rfl⟩
theorem iX11_moveIn_45 : In cX11_moveIn 45 (.iconst 3) 1 46 := ⟨by decide +kernel, rfl⟩
theorem iX11_moveIn_46 : In cX11_moveIn 46 (.iload_n 1) 1 47 := ⟨by decide +kernel, rfl⟩
theorem iX11_moveIn_47 : In cX11_moveIn 47 (.imul) 1 48 := ⟨by decide +kernel, rfl⟩
theorem iX11_moveIn_48 : In cX11_moveIn 48 (.iload 5) 2 50 := ⟨by decide +kernel, rfl⟩
theorem iX11_moveIn_50 : In cX11_moveIn 50 (.iload_n 3) 1 51 := ⟨by decide +kernel, rfl⟩
theorem iX11_moveIn_51 : In cX11_moveIn 51 (.iadd) 1 52 := ⟨by decide +kernel, rfl⟩
theorem iX11_moveIn_52 : In cX11_moveIn 52 (.iconst 3) 1 53 := ⟨by decide +kernel, rfl⟩
theorem iX11_moveIn_53 : In cX11_moveIn 53 (.irem) 1 54 := ⟨by decide +kernel, rfl⟩
theorem iX11_moveIn_54 : In cX11_moveIn 54 (.iadd) 1 55 := ⟨by decide +kernel, rfl⟩
theorem iX11_moveIn_55 : In cX11_moveIn 55 (.iaload) 1 56 := ⟨by decide +kernel, rfl⟩
theorem iX11_moveIn_56 : In cX11_moveIn 56 (.ireturn) 1 57 := ⟨by decide +kernel, rfl⟩
theorem iX11_hits_0 : In cX11_hits 0 (.iload_n 0) 1 1 := ⟨by decide +kernel, rfl⟩
theorem iX11_hits_1 : In cX11_hits 1 (.iconst 1) 1 2 := ⟨by decide +kernel, rfl⟩
theorem iX11_hits_2 : Jn cX11_hits 2 (.if_icmp .ne 13) (13) 5 15 := ⟨by decide +kernel, rfl, by decide⟩
theorem iX11_hits_5 : In cX11_hits 5 (.iload_n 1) 1 6 := ⟨by decide +kernel, rfl⟩
theorem iX11_hits_6 : In cX11_hits 6 (.iconst 3) 1 7 := ⟨by decide +kernel, rfl⟩
theorem iX11_hits_7 : Jn cX11_hits 7 (.if_icmp .eq 28) (28) 10 35 := ⟨by decide +kernel, rfl, by decide⟩
theorem iX11_hits_10 : In cX11_hits 10 (.iload_n 1) 1 11 := ⟨by decide +kernel, rfl⟩
theorem iX11_hits_11 : In cX11_hits 11 (.iconst 4) 1 12 := ⟨by decide +kernel, rfl⟩
theorem iX11_hits_12 : Jn cX11_hits 12 (.if_icmp .eq 23) (23) 15 35 := ⟨by decide +kernel, rfl, by decide⟩
theorem iX11_hits_15 : In cX11_hits 15 (.iload_n 0) 1 16 := ⟨by decide +kernel, rfl⟩
theorem iX11_hits_16 : In cX11_hits 16 (.iconst 2) 1 17 := ⟨by decide +kernel, rfl⟩
theorem iX11_hits_17 : Jn cX11_hits 17 (.if_icmp .ne 8) (8) 20 25 := ⟨by decide +kernel, rfl, by decide⟩
theorem iX11_hits_20 : In cX11_hits 20 (.iload_n 1) 1 21 := ⟨by decide +kernel, rfl⟩
theorem iX11_hits_21 : In cX11_hits 21 (.iconst 1) 1 22 := ⟨by decide +kernel, rfl⟩
theorem iX11_hits_22 : Jn cX11_hits 22 (.if_icmp .eq 13) (13) 25 35 := ⟨by decide +kernel, rfl, by decide⟩
theorem iX11_hits_25 : In cX11_hits 25 (.iload_n 0) 1 26 := ⟨by decide +kernel, rfl⟩
theorem iX11_hits_26 : In cX11_hits 26 (.iconst 3) 1 27 := ⟨by decide +kernel, rfl⟩
theorem iX11_hits_27 : Jn cX11_hits 27 (.if_icmp .ne 12) (12) 30 39 := ⟨by decide +kernel, rfl, by decide⟩
theorem iX11_hits_30 : In cX11_hits 30 (.iload_n 1) 1 31 := ⟨by decide +kernel, rfl⟩
theorem iX11_hits_31 : In cX11_hits 31 (.iconst 2) 1 32 := ⟨by decide +kernel, rfl⟩
theorem iX11_hits_32 : Jn cX11_hits 32 (.if_icmp .ne 7) (7) 35 39 := ⟨by decide +kernel, rfl, by decide⟩
theorem iX11_hits_35 : In cX11_hits 35 (.iconst 1) 1 36 := ⟨by decide +kernel, rfl⟩
theorem iX11_hits_36 : Jn cX11_hits 36 (.goto 4) (4) 39 40 := ⟨by decide +kernel, rfl, by decide⟩
theorem iX11_hits_39 : In cX11_hits 39 (.iconst 0) 1 40 := ⟨by decide +kernel, rfl⟩
theorem iX11_hits_40 : In cX11_hits 40 (.ireturn) 1 41 := ⟨by decide +kernel, rfl⟩
theorem iX11_pass_0 : In cX11_pass 0 (.aload_n 0) 1 1 := ⟨by decide +kernel, rfl⟩
theorem iX11_pass_1 : In cX11_pass 1 (.iload_n 1) 1 2 := ⟨by decide +kernel, rfl⟩
theorem iX11_pass_2 : In cX11_pass 2 (.iload_n 3) 1 3 := ⟨by decide +kernel, rfl⟩
theorem iX11_pass_3 : In cX11_pass 3 (.aload_n 0) 1 4 := ⟨by decide +kernel, rfl⟩
theorem iX11_pass_4 : In cX11_pass 4 (.getfield 111) 3 7 := ⟨by decide +kernel, rfl⟩
theorem iX11_pass_7 : In cX11_pass 7 (.aload_n 0) 1 8 := ⟨by decide +kernel, rfl⟩
theorem iX11_pass_8 : In cX11_pass 8 (.getfield 114) 3 11 := ⟨by decide +kernel, rfl⟩
theorem iX11_pass_11 : In cX11_pass 11 (.invokevirtual 117) 3 14 := ⟨by decide +kernel, rfl⟩
theorem iX11_pass_14 : In cX11_pass 14 (.istore 6) 2 16 := ⟨by decide +kernel, rfl⟩
theorem iX11_pass_16 : In cX11_pass 16 (.aload_n 0) 1 17 := ⟨by decide +kernel, rfl⟩
theorem iX11_pass_17 : In cX11_pass 17 (.iload_n 2) 1 18 := ⟨by decide +kernel, rfl⟩
theorem iX11_pass_18 : In cX11_pass 18 (.iload 4) 2 20 := ⟨by decide +kernel, rfl⟩
theorem iX11_pass_20 : In cX11_pass 20 (.aload_n 0) 1 21 := ⟨by decide +kernel, rfl⟩
theorem iX11_pass_21 : In cX11_pass 21 (.getfield 111) 3 24 := ⟨by decide +kernel, rfl⟩
theorem iX11_pass_24 : In cX11_pass 24 (.aload_n 0) 1 25 := ⟨by decide +kernel, rfl⟩
theorem iX11_pass_25 : In cX11_pass 25 (.getfield 121) 3 28 := ⟨by decide +kernel, rfl⟩
theorem iX11_pass_28 : In cX11_pass 28 (.invokevirtual 117) 3 31 := ⟨by decide +kernel, rfl⟩
theorem iX11_pass_31 : In cX11_pass 31 (.istore 7) 2 33 := ⟨by decide +kernel, rfl⟩
theorem iX11_pass_33 : In cX11_pass 33 (.aload_n 0) 1 34 := ⟨by decide +kernel, rfl⟩
theorem iX11_pass_34 : In cX11_pass 34 (.iload 6) 2 36 := ⟨by decide +kernel, rfl⟩
theorem iX11_pass_36 : In cX11_pass 36 (.putfield 121) 3 39 := ⟨by decide +kernel, rfl⟩
theorem iX11_pass_39 : In cX11_pass 39 (.aload_n 0) 1 40 := ⟨by decide +kernel, rfl⟩
theorem iX11_pass_40 : In cX11_pass 40 (.iload 7) 2 42 := ⟨by decide +kernel, rfl⟩
theorem iX11_pass_42 : In cX11_pass 42 (.putfield 114) 3 45 := ⟨by decide +kernel, rfl⟩
theorem iX11_pass_45 : In cX11_pass 45 (.aload_n 0) 1 46 := ⟨by decide +kernel, rfl⟩
theorem iX11_pass_46 : In cX11_pass 46 (.dup) 1 47 := ⟨by decide +kernel, rfl⟩
theorem iX11_pass_47 : In cX11_pass 47 (.getfield 111) 3 50 := ⟨by decide +kernel, rfl⟩
theorem iX11_pass_50 : In cX11_pass 50 (.iconst 1) 1 51 := ⟨by decide +kernel, rfl⟩
theorem iX11_pass_51 : In cX11_pass 51 (.iadd) 1 52 := ⟨by decide +kernel, rfl⟩
theorem iX11_pass_52 : In cX11_pass 52 (.putfield 111) 3 55 := ⟨by decide +kernel, rfl⟩
theorem iX11_pass_55 : In cX11_pass 55 (.iload 6) 2 57 := ⟨by decide +kernel, rfl⟩
theorem iX11_pass_57 : In cX11_pass 57 (.iconst 1) 1 58 := ⟨by decide +kernel, rfl⟩
theorem iX11_pass_58 : Jn cX11_pass 58 (.if_icmp .ne 13) (13) 61 71 := ⟨by decide +kernel, rfl, by decide⟩
theorem iX11_pass_61 : In cX11_pass 61 (.iload 7) 2 63 := ⟨by decide +kernel, rfl⟩
theorem iX11_pass_63 : In cX11_pass 63 (.iconst 1) 1 64 := ⟨by decide +kernel, rfl⟩
theorem iX11_pass_64 : Jn cX11_pass 64 (.if_icmp .ne 7) (7) 67 71 := ⟨by decide +kernel, rfl, by decide⟩
theorem iX11_pass_67 : In cX11_pass 67 (.iconst 1) 1 68 := ⟨by decide +kernel, rfl⟩
theorem iX11_pass_68 : Jn cX11_pass 68 (.goto 4) (4) 71 72 := ⟨by decide +kernel, rfl, by decide⟩
theorem iX11_pass_71 : In cX11_pass 71 (.iconst 0) 1 72 := ⟨by decide +kernel, rfl⟩
theorem iX11_pass_72 : In cX11_pass 72 (.istore 8) 2 74 := ⟨by decide +kernel, rfl⟩
theorem iX11_pass_74 : In cX11_pass 74 (.iload 6) 2 76 := ⟨by decide +kernel, rfl⟩
theorem iX11_pass_76 : In cX11_pass 76 (.iload 7) 2 78 := ⟨by decide +kernel, rfl⟩
theorem iX11_pass_78 : In cX11_pass 78 (.invokestatic 124) 3 81 := ⟨by decide +kernel, rfl⟩
theorem iX11_pass_81 : Jn cX11_pass 81 (.ifCond .ne 18) (18) 84 99 := ⟨by decide +kernel, rfl, by decide⟩
theorem iX11_pass_84 : In cX11_pass 84 (.iload 8) 2 86 := ⟨by decide +kernel, rfl⟩
theorem iX11_pass_86 : Jn cX11_pass 86 (.ifCond .eq 17) (17) 89 103 := ⟨by decide +kernel, rfl, by decide⟩
theorem iX11_pass_89 : In cX11_pass 89 (.aload_n 0) 1 90 := ⟨by decide +kernel, rfl⟩
theorem iX11_pass_90 : In cX11_pass 90 (.getfield 7) 3 93 := ⟨by decide +kernel, rfl⟩
theorem iX11_pass_93 : In cX11_pass 93 (.iload_n 2) 1 94 := ⟨by decide +kernel, rfl⟩
theorem iX11_pass_94 : In cX11_pass 94 (.iaload) 1 95 := ⟨by decide +kernel, rfl⟩
theorem iX11_pass_95 : In cX11_pass 95 (.iconst 1) 1 96 := ⟨by decide +kernel, rfl⟩
theorem iX11_pass_96 : Jn cX11_pass 96 (.if_icmp .eq 7) (7) 99 103 := ⟨by decide +kernel, rfl, by decide⟩
theorem iX11_pass_99 : In cX11_pass 99 (.iconst 1) 1 100 := ⟨by decide +kernel, rfl⟩
theorem iX11_pass_100 : Jn cX11_pass 100 (.goto 4) (4) 103 104 := ⟨by decide +kernel, rfl, by decide⟩
theorem iX11_pass_103 : In cX11_pass 103 (.iconst 0) 1 104 := ⟨by decide +kernel, rfl⟩
theorem iX11_pass_104 : In cX11_pass 104 (.istore 9) 2 106 := ⟨by decide +kernel, rfl⟩
theorem iX11_pass_106 : In cX11_pass 106 (.iload 7) 2 108 := ⟨by decide +kernel, rfl⟩
theorem iX11_pass_108 : In cX11_pass 108 (.iload 6) 2 110 := ⟨by decide +kernel, rfl⟩
theorem iX11_pass_110 : In cX11_pass 110 (.invokestatic 124) 3 113 := ⟨by decide +kernel, rfl⟩
theorem iX11_pass_113 : Jn cX11_pass 113 (.ifCond .ne 18) (18) 116 131 := ⟨by decide +kernel, rfl, by decide⟩
theorem iX11_pass_116 : In cX11_pass 116 (.iload 8) 2 118 := ⟨by decide +kernel, rfl⟩
theorem iX11_pass_118 : Jn cX11_pass 118 (.ifCond .eq 17) (17) 121 135 := ⟨by decide +kernel, rfl, by decide⟩
theorem iX11_pass_121 : In cX11_pass 121 (.aload_n 0) 1 122 := ⟨by decide +kernel, rfl⟩
theorem iX11_pass_122 : In cX11_pass 122 (.getfield 7) 3 125 := ⟨by decide +kernel, rfl⟩
theorem iX11_pass_125 : In cX11_pass 125 (.iload_n 1) 1 126 := ⟨by decide +kernel, rfl⟩
theorem iX11_pass_126 : In cX11_pass 126 (.iaload) 1 127 := ⟨by decide +kernel, rfl⟩
theorem iX11_pass_127 : In cX11_pass 127 (.iconst 1) 1 128 := ⟨by decide +kernel, rfl⟩
theorem iX11_pass_128 : Jn cX11_pass 128 (.if_icmp .eq 7) (7) 131 135 := ⟨by decide +kernel, rfl, by decide⟩
theorem iX11_pass_131 : In cX11_pass 131 (.iconst 1) 1 132 := ⟨by decide +kernel, rfl⟩
theorem iX11_pass_132 : Jn cX11_pass 132 (.goto 4) (4) 135 136 := ⟨by decide +kernel, rfl, by decide⟩
theorem iX11_pass_135 : In cX11_pass 135 (.iconst 0) 1 136 := ⟨by decide +kernel, rfl⟩
theorem iX11_pass_136 : In cX11_pass 136 (.istore 10) 2 138 := ⟨by decide +kernel, rfl⟩
theorem iX11_pass_138 : In cX11_pass 138 (.aload_n 0) 1 139 := ⟨by decide +kernel, rfl⟩
theorem iX11_pass_139 : In cX11_pass 139 (.dup) 1 140 := ⟨by decide +kernel, rfl⟩
theorem iX11_pass_140 : In cX11_pass 140 (.getfield 128) 3 143 := ⟨by decide +kernel, rfl⟩
theorem iX11_pass_143 : In cX11_pass 143 (.iload 5) 2 145 := ⟨by decide +kernel, rfl⟩
theorem iX11_pass_145 : Jn cX11_pass 145 (.ifCond .eq 12) (12) 148 157 := ⟨by decide +kernel, rfl, by decide⟩
theorem iX11_pass_148 : In cX11_pass 148 (.iload 9) 2 150 := ⟨by decide +kernel, rfl⟩
theorem iX11_pass_150 : Jn cX11_pass 150 (.ifCond .eq 7) (7) 153 157 := ⟨by decide +kernel, rfl, by decide⟩
theorem iX11_pass_153 : In cX11_pass 153 (.iconst 1) 1 154 := ⟨by decide +kernel, rfl⟩
theorem iX11_pass_154 : Jn cX11_pass 154 (.goto 4) (4) 157 158 := ⟨by decide +kernel, rfl, by decide⟩
theorem iX11_pass_157 : In cX11_pass 157 (.iconst 0) 1 158 := ⟨by decide +kernel, rfl⟩
theorem iX11_pass_158 : In cX11_pass 158 (.iadd) 1 159 := ⟨by decide +kernel, rfl⟩
theorem iX11_pass_159 : In cX11_pass 159 (.putfield 128) 3 162 := ⟨by decide +kernel, rfl⟩
theorem iX11_pass_162 : In cX11_pass 162 (.aload_n 0) 1 163 := ⟨by decide +kernel, rfl⟩
theorem iX11_pass_163 : In cX11_pass 163 (.dup) 1 164 := ⟨by decide +kernel, rfl⟩
theorem iX11_pass_164 : In cX11_pass 164 (.getfield 131) 3 167 := ⟨by decide +kernel, rfl⟩
theorem iX11_pass_167 : In cX11_pass 167 (.iload 5) 2 169 := ⟨by decide +kernel, rfl⟩
theorem iX11_pass_169 : Jn cX11_pass 169 (.ifCond .eq 12) (12) 172 181 := ⟨by decide +kernel, rfl, by decide⟩
theorem iX11_pass_172 : In cX11_pass 172 (.iload 10) 2 174 := ⟨by decide +kernel, rfl⟩
theorem iX11_pass_174 : Jn cX11_pass 174 (.ifCond .eq 7) (7) 177 181 := ⟨by decide +kernel, rfl, by decide⟩
theorem iX11_pass_177 : In cX11_pass 177 (.iconst 1) 1 178 := ⟨by decide +kernel, rfl⟩
theorem iX11_pass_178 : Jn cX11_pass 178 (.goto 4) (4) 181 182 := ⟨by decide +kernel, rfl, by decide⟩
theorem iX11_pass_181 : In cX11_pass 181 (.iconst 0) 1 182 := ⟨by decide +kernel, rfl⟩
theorem iX11_pass_182 : In cX11_pass 182 (.iadd) 1 183 := ⟨by decide +kernel, rfl⟩
theorem iX11_pass_183 : In cX11_pass 183 (.putfield 131) 3 186 := ⟨by decide +kernel, rfl⟩
theorem iX11_pass_186 : In cX11_pass 186 (.return_) 1 187 := ⟨by decide +kernel, rfl⟩
theorem iX11_begin_0 : In cX11_begin 0 (.aload_n 0) 1 1 := ⟨by decide +kernel, rfl⟩
theorem iX11_begin_1 : In cX11_begin 1 (.iconst 0) 1 2 := ⟨by decide +kernel, rfl⟩
theorem iX11_begin_2 : In cX11_begin 2 (.putfield 128) 3 5 := ⟨by decide +kernel, rfl⟩
theorem iX11_begin_5 : In cX11_begin 5 (.aload_n 0) 1 6 := ⟨by decide +kernel, rfl⟩
theorem iX11_begin_6 : In cX11_begin 6 (.iconst 0) 1 7 := ⟨by decide +kernel, rfl⟩
theorem iX11_begin_7 : In cX11_begin 7 (.putfield 131) 3 10 := ⟨by decide +kernel, rfl⟩
theorem iX11_begin_10 : In cX11_begin 10 (.aload_n 0) 1 11 := ⟨by decide +kernel, rfl⟩
theorem iX11_begin_11 : In cX11_begin 11 (.iconst 0) 1 12 := ⟨by decide +kernel, rfl⟩
theorem iX11_begin_12 : In cX11_begin 12 (.putfield 111) 3 15 := ⟨by decide +kernel, rfl⟩
theorem iX11_begin_15 : In cX11_begin 15 (.aload_n 0) 1 16 := ⟨by decide +kernel, rfl⟩
theorem iX11_begin_16 : In cX11_begin 16 (.iconst 0) 1 17 := ⟨by decide +kernel, rfl⟩
theorem iX11_begin_17 : In cX11_begin 17 (.putfield 121) 3 20 := ⟨by decide +kernel, rfl⟩
theorem iX11_begin_20 : In cX11_begin 20 (.aload_n 0) 1 21 := ⟨by decide +kernel, rfl⟩
theorem iX11_begin_21 : In cX11_begin 21 (.iconst 0) 1 22 := ⟨by decide +kernel, rfl⟩
theorem iX11_begin_22 : In cX11_begin 22 (.putfield 114) 3 25 := ⟨by decide +kernel, rfl⟩
theorem iX11_begin_25 : In cX11_begin 25 (.return_) 1 26 := ⟨by decide +kernel, rfl⟩
theorem iX11_fight_0 : In cX11_fight 0 (.aload_n 0) 1 1 := ⟨by decide +kernel, rfl⟩
theorem iX11_fight_1 : In cX11_fight 1 (.invokevirtual 134) 3 4 := ⟨by decide +kernel, rfl⟩
theorem iX11_fight_4 : In cX11_fight 4 (.aload_n 0) 1 5 := ⟨by decide +kernel, rfl⟩
theorem iX11_fight_5 : In cX11_fight 5 (.getfield 111) 3 8 := ⟨by decide +kernel, rfl⟩
theorem iX11_fight_8 : In cX11_fight 8 (.bipush 9) 2 10 := ⟨by decide +kernel, rfl⟩
theorem iX11_fight_10 : Jn cX11_fight 10 (.if_icmp .ge 32) (32) 13 42 := ⟨by decide +kernel, rfl, by decide⟩
theorem iX11_fight_13 : In cX11_fight 13 (.aload_n 0) 1 14 := ⟨by decide +kernel, rfl⟩
theorem iX11_fight_14 : In cX11_fight 14 (.getfield 128) 3 17 := ⟨by decide +kernel, rfl⟩
theorem iX11_fight_17 : In cX11_fight 17 (.iconst 3) 1 18 := ⟨by decide +kernel, rfl⟩
theorem iX11_fight_18 : Jn cX11_fight 18 (.if_icmp .ge 24) (24) 21 42 := ⟨by decide +kernel, rfl, by decide⟩
theorem iX11_fight_21 : In cX11_fight 21 (.aload_n 0) 1 22 := ⟨by decide +kernel, rfl⟩
theorem iX11_fight_22 : In cX11_fight 22 (.getfield 131) 3 25 := ⟨by decide +kernel, rfl⟩
theorem iX11_fight_25 : In cX11_fight 25 (.iconst 3) 1 26 := ⟨by decide +kernel, rfl⟩
theorem iX11_fight_26 : Jn cX11_fight 26 (.if_icmp .ge 16) (16) 29 42 := ⟨by decide +kernel, rfl, by decide⟩
theorem iX11_fight_29 : In cX11_fight 29 (.aload_n 0) 1 30 := ⟨by decide +kernel, rfl⟩
theorem iX11_fight_30 : In cX11_fight 30 (.iload_n 1) 1 31 := ⟨by decide +kernel, rfl⟩
theorem iX11_fight_31 : In cX11_fight 31 (.iload_n 2) 1 32 := ⟨by decide +kernel, rfl⟩
theorem iX11_fight_32 : In cX11_fight 32 (.iload_n 3) 1 33 := ⟨by decide +kernel, rfl⟩
theorem iX11_fight_33 : In cX11_fight 33 (.iload 4) 2 35 := ⟨by decide +kernel, rfl⟩
theorem iX11_fight_35 : In cX11_fight 35 (.iconst 1) 1 36 := ⟨by decide +kernel, rfl⟩
theorem iX11_fight_36 : In cX11_fight 36 (.invokevirtual 137) 3 39 := ⟨by decide +kernel, rfl⟩
theorem iX11_fight_39 : Jn cX11_fight 39 (.goto (-35)) (-35) 42 4 := ⟨by decide +kernel, rfl, by decide⟩
theorem iX11_fight_42 : In cX11_fight 42 (.return_) 1 43 := ⟨by decide +kernel, rfl⟩
theorem iX11_fightOn_0 : In cX11_fightOn 0 (.aload_n 0) 1 1 := ⟨by decide +kernel, rfl⟩
theorem iX11_fightOn_1 : In cX11_fightOn 1 (.iload_n 2) 1 2 := ⟨by decide +kernel, rfl⟩
theorem iX11_fightOn_2 : In cX11_fightOn 2 (.iload_n 3) 1 3 := ⟨by decide +kernel, rfl⟩
theorem iX11_fightOn_3 : In cX11_fightOn 3 (.aload_n 0) 1 4 := ⟨by decide +kernel, rfl⟩
theorem iX11_fightOn_4 : In cX11_fightOn 4 (.getfield 22) 3 7 := ⟨by decide +kernel, rfl⟩
theorem iX11_fightOn_7 : In cX11_fightOn 7 (.bipush 18) 2 9 := ⟨by decide +kernel, rfl⟩
theorem iX11_fightOn_9 : In cX11_fightOn 9 (.iload_n 1) 1 10 := ⟨by decide +kernel, rfl⟩
theorem iX11_fightOn_10 : In cX11_fightOn 10 (.imul) 1 11 := ⟨by decide +kernel, rfl⟩
theorem iX11_fightOn_11 : In cX11_fightOn 11 (.bipush 11) 2 13 := ⟨by decide +kernel, rfl⟩
theorem iX11_fightOn_13 : In cX11_fightOn 13 (.iadd) 1 14 := ⟨by decide +kernel, rfl⟩
theorem iX11_fightOn_14 : In cX11_fightOn 14 (.iload_n 2) 1 15 := ⟨by decide +kernel, rfl⟩
theorem iX11_fightOn_15 : In cX11_fightOn 15 (.iadd) 1 16 := ⟨by decide +kernel, rfl⟩
theorem iX11_fightOn_16 : In cX11_fightOn 16 (.iaload) 1 17 := ⟨by decide +kernel, rfl⟩
theorem iX11_fightOn_17 : In cX11_fightOn 17 (.aload_n 0) 1 18 := ⟨by decide +kernel, rfl⟩
theorem iX11_fightOn_18 : In cX11_fightOn 18 (.getfield 22) 3 21 := ⟨by decide +kernel, rfl⟩
theorem iX11_fightOn_21 : In cX11_fightOn 21 (.bipush 18) 2 23 := ⟨by decide +kernel, rfl⟩
theorem iX11_fightOn_23 : In cX11_fightOn 23 (.iload_n 1) 1 24 := ⟨by decide +kernel, rfl⟩
theorem iX11_fightOn_24 : In cX11_fightOn 24 (.imul) 1 25 := ⟨by decide +kernel, rfl⟩
theorem iX11_fightOn_25 : In cX11_fightOn 25 (.bipush 11) 2 27 := ⟨by decide +kernel, rfl⟩
theorem iX11_fightOn_27 : In cX11_fightOn 27 (.iadd) 1 28 := ⟨by decide +kernel, rfl⟩
theorem iX11_fightOn_28 : In cX11_fightOn 28 (.iload_n 3) 1 29 := ⟨by decide +kernel, rfl⟩
theorem iX11_fightOn_29 : In cX11_fightOn 29 (.iadd) 1 30 := ⟨by decide +kernel, rfl⟩
theorem iX11_fightOn_30 : In cX11_fightOn 30 (.iaload) 1 31 := ⟨by decide +kernel, rfl⟩
theorem iX11_fightOn_31 : In cX11_fightOn 31 (.invokevirtual 141) 3 34 := ⟨by decide +kernel, rfl⟩
theorem iX11_fightOn_34 : In cX11_fightOn 34 (.return_) 1 35 := ⟨by decide +kernel, rfl⟩
theorem iX11_beats_0 : In cX11_beats 0 (.iload_n 2) 1 1 := ⟨by decide +kernel, rfl⟩
theorem iX11_beats_1 : In cX11_beats 1 (.iload_n 3) 1 2 := ⟨by decide +kernel, rfl⟩
theorem iX11_beats_2 : Jn cX11_beats 2 (.if_icmp .ne 5) (5) 5 7 := ⟨by decide +kernel, rfl, by decide⟩
theorem iX11_beats_5 : In cX11_beats 5 (.iconst 0) 1 6 := ⟨by decide +kernel, rfl⟩
theorem iX11_beats_6 : In cX11_beats 6 (.ireturn) 1 7 := ⟨by decide +kernel, rfl⟩
theorem iX11_beats_7 : In cX11_beats 7 (.aload_n 0) 1 8 := ⟨by decide +kernel, rfl⟩
theorem iX11_beats_8 : In cX11_beats 8 (.iload_n 1) 1 9 := ⟨by decide +kernel, rfl⟩
theorem iX11_beats_9 : In cX11_beats 9 (.iload_n 2) 1 10 := ⟨by decide +kernel, rfl⟩
theorem iX11_beats_10 : In cX11_beats 10 (.iload_n 3) 1 11 := ⟨by decide +kernel, rfl⟩
theorem iX11_beats_11 : In cX11_beats 11 (.invokevirtual 145) 3 14 := ⟨by decide +kernel, rfl⟩
theorem iX11_beats_14 : In cX11_beats 14 (.aload_n 0) 1 15 := ⟨by decide +kernel, rfl⟩
theorem iX11_beats_15 : In cX11_beats 15 (.getfield 128) 3 18 := ⟨by decide +kernel, rfl⟩
theorem iX11_beats_18 : In cX11_beats 18 (.aload_n 0) 1 19 := ⟨by decide +kernel, rfl⟩
theorem iX11_beats_19 : In cX11_beats 19 (.getfield 131) 3 22 := ⟨by decide +kernel, rfl⟩
theorem iX11_beats_22 : Jn cX11_beats 22 (.if_icmp .le 7) (7) 25 29 := ⟨by decide +kernel, rfl, by decide⟩
theorem iX11_beats_25 : In cX11_beats 25 (.iconst 1) 1 26 := ⟨by decide +kernel, rfl⟩
theorem iX11_beats_26 : Jn cX11_beats 26 (.goto 4) (4) 29 30 := ⟨by decide +kernel, rfl, by decide⟩
theorem iX11_beats_29 : In cX11_beats 29 (.iconst 0) 1 30 := ⟨by decide +kernel, rfl⟩
theorem iX11_beats_30 : In cX11_beats 30 (.ireturn) 1 31 := ⟨by decide +kernel, rfl⟩
theorem iX11_beatenBy_0 : In cX11_beatenBy 0 (.iconst 0) 1 1 := ⟨by decide +kernel, rfl⟩
theorem iX11_beatenBy_1 : In cX11_beatenBy 1 (.istore_n 2) 1 2 := ⟨by decide +kernel, rfl⟩
theorem iX11_beatenBy_2 : In cX11_beatenBy 2 (.iconst 0) 1 3 := ⟨by decide +kernel, rfl⟩
theorem iX11_beatenBy_3 : In cX11_beatenBy 3 (.istore_n 3) 1 4 := ⟨by decide +kernel, rfl⟩
theorem iX11_beatenBy_4 : In cX11_beatenBy 4 (.iload_n 3) 1 5 := ⟨by decide +kernel, rfl⟩
theorem iX11_beatenBy_5 : In cX11_beatenBy 5 (.aload_n 0) 1 6 := ⟨by decide +kernel, rfl⟩
theorem iX11_beatenBy_6 : In cX11_beatenBy 6 (.getfield 99) 3 9 := ⟨by decide +kernel, rfl⟩
theorem iX11_beatenBy_9 : Jn cX11_beatenBy 9 (.if_icmp .ge 29) (29) 12 38 := ⟨by decide +kernel, rfl, by decide⟩
theorem iX11_beatenBy_12 : In cX11_beatenBy 12 (.iload_n 2) 1 13 := ⟨by decide +kernel, rfl⟩
theorem iX11_beatenBy_13 : In cX11_beatenBy 13 (.aload_n 0) 1 14 := ⟨by decide +kernel, rfl⟩
theorem iX11_beatenBy_14 : In cX11_beatenBy 14 (.iconst 0) 1 15 := ⟨by decide +kernel, rfl⟩
theorem iX11_beatenBy_15 : In cX11_beatenBy 15 (.iload_n 1) 1 16 := ⟨by decide +kernel, rfl⟩
theorem iX11_beatenBy_16 : In cX11_beatenBy 16 (.iload_n 3) 1 17 := ⟨by decide +kernel, rfl⟩
theorem iX11_beatenBy_17 : In cX11_beatenBy 17 (.invokevirtual 149) 3 20 := ⟨by decide +kernel, rfl⟩
theorem iX11_beatenBy_20 : Jn cX11_beatenBy 20 (.ifCond .eq 9) (9) 23 29 := ⟨by decide +kernel, rfl, by decide⟩
theorem iX11_beatenBy_23 : In cX11_beatenBy 23 (.iconst 1) 1 24 := ⟨by decide +kernel, rfl⟩
theorem iX11_beatenBy_24 : In cX11_beatenBy 24 (.iload_n 3) 1 25 := ⟨by decide +kernel, rfl⟩
theorem iX11_beatenBy_25 : In cX11_beatenBy 25 (.ishl) 1 26 := ⟨by decide +kernel, rfl⟩
theorem iX11_beatenBy_26 : Jn cX11_beatenBy 26 (.goto 4) (4) 29 30 := ⟨by decide +kernel, rfl, by decide⟩
theorem iX11_beatenBy_29 : In cX11_beatenBy 29 (.iconst 0) 1 30 := ⟨by decide +kernel, rfl⟩
theorem iX11_beatenBy_30 : In cX11_beatenBy 30 (.ior) 1 31 := ⟨by decide +kernel, rfl⟩
theorem iX11_beatenBy_31 : In cX11_beatenBy 31 (.istore_n 2) 1 32 := ⟨by decide +kernel, rfl⟩
theorem iX11_beatenBy_32 : In cX11_beatenBy 32 (.iinc 3 1) 3 35 := ⟨by decide +kernel, rfl⟩
theorem iX11_beatenBy_35 : Jn cX11_beatenBy 35 (.goto (-31)) (-31) 38 4 := ⟨by decide +kernel, rfl, by decide⟩
theorem iX11_beatenBy_38 : In cX11_beatenBy 38 (.iload_n 2) 1 39 := ⟨by decide +kernel, rfl⟩
theorem iX11_beatenBy_39 : In cX11_beatenBy 39 (.ireturn) 1 40 := ⟨by decide +kernel, rfl⟩
theorem iX11_ownedBy_0 : In cX11_ownedBy 0 (.iconst 0) 1 1 := ⟨by decide +kernel, rfl⟩
theorem iX11_ownedBy_1 : In cX11_ownedBy 1 (.istore_n 2) 1 2 := ⟨by decide +kernel, rfl⟩
theorem iX11_ownedBy_2 : In cX11_ownedBy 2 (.iconst 0) 1 3 := ⟨by decide +kernel, rfl⟩
theorem iX11_ownedBy_3 : In cX11_ownedBy 3 (.istore_n 3) 1 4 := ⟨by decide +kernel, rfl⟩
theorem iX11_ownedBy_4 : In cX11_ownedBy 4 (.iload_n 3) 1 5 := ⟨by decide +kernel, rfl⟩
theorem iX11_ownedBy_5 : In cX11_ownedBy 5 (.aload_n 0) 1 6 := ⟨by decide +kernel, rfl⟩
theorem iX11_ownedBy_6 : In cX11_ownedBy 6 (.getfield 102) 3 9 := ⟨by decide +kernel, rfl⟩
theorem iX11_ownedBy_9 : Jn cX11_ownedBy 9 (.if_icmp .ge 29) (29) 12 38 := ⟨by decide +kernel, rfl, by decide⟩
theorem iX11_ownedBy_12 : In cX11_ownedBy 12 (.iload_n 2) 1 13 := ⟨by decide +kernel, rfl⟩
theorem iX11_ownedBy_13 : In cX11_ownedBy 13 (.aload_n 0) 1 14 := ⟨by decide +kernel, rfl⟩
theorem iX11_ownedBy_14 : In cX11_ownedBy 14 (.getfield 22) 3 17 := ⟨by decide +kernel, rfl⟩
theorem iX11_ownedBy_17 : In cX11_ownedBy 17 (.iload_n 3) 1 18 := ⟨by decide +kernel, rfl⟩
theorem iX11_ownedBy_18 : In cX11_ownedBy 18 (.iaload) 1 19 := ⟨by decide +kernel, rfl⟩
theorem iX11_ownedBy_19 : In cX11_ownedBy 19 (.iload_n 1) 1 20 := ⟨by decide +kernel, rfl⟩
theorem iX11_ownedBy_20 : Jn cX11_ownedBy 20 (.if_icmp .ne 9) (9) 23 29 := ⟨by decide +kernel, rfl, by decide⟩
theorem iX11_ownedBy_23 : In cX11_ownedBy 23 (.iconst 1) 1 24 := ⟨by decide +kernel, rfl⟩
theorem iX11_ownedBy_24 : In cX11_ownedBy 24 (.iload_n 3) 1 25 := ⟨by decide +kernel, rfl⟩
theorem iX11_ownedBy_25 : In cX11_ownedBy 25 (.ishl) 1 26 := ⟨by decide +kernel, rfl⟩
theorem iX11_ownedBy_26 : Jn cX11_ownedBy 26 (.goto 4) (4) 29 30 := ⟨by decide +kernel, rfl, by decide⟩
theorem iX11_ownedBy_29 : In cX11_ownedBy 29 (.iconst 0) 1 30 := ⟨by decide +kernel, rfl⟩
theorem iX11_ownedBy_30 : In cX11_ownedBy 30 (.ior) 1 31 := ⟨by decide +kernel, rfl⟩
theorem iX11_ownedBy_31 : In cX11_ownedBy 31 (.istore_n 2) 1 32 := ⟨by decide +kernel, rfl⟩
theorem iX11_ownedBy_32 : In cX11_ownedBy 32 (.iinc 3 1) 3 35 := ⟨by decide +kernel, rfl⟩
theorem iX11_ownedBy_35 : Jn cX11_ownedBy 35 (.goto (-31)) (-31) 38 4 := ⟨by decide +kernel, rfl, by decide⟩
theorem iX11_ownedBy_38 : In cX11_ownedBy 38 (.iload_n 2) 1 39 := ⟨by decide +kernel, rfl⟩
theorem iX11_ownedBy_39 : In cX11_ownedBy 39 (.ireturn) 1 40 := ⟨by decide +kernel, rfl⟩
theorem iX11_fencer_0 : In cX11_fencer 0 (.aload_n 0) 1 1 := ⟨by decide +kernel, rfl⟩
theorem iX11_fencer_1 : In cX11_fencer 1 (.iload_n 1) 1 2 := ⟨by decide +kernel, rfl⟩
theorem iX11_fencer_2 : In cX11_fencer 2 (.invokevirtual 153) 3 5 := ⟨by decide +kernel, rfl⟩
theorem iX11_fencer_5 : Jn cX11_fencer 5 (.ifCond .ne 5) (5) 8 10 := ⟨by decide +kernel, rfl, by decide⟩
theorem iX11_fencer_8 : In cX11_fencer 8 (.iconst (-1)) 1 9 := ⟨by decide +kernel, rfl⟩
theorem iX11_fencer_9 : In cX11_fencer 9 (.ireturn) 1 10 := ⟨by decide +kernel, rfl⟩
theorem iX11_fencer_10 : In cX11_fencer 10 (.iload_n 2) 1 11 := ⟨by decide +kernel, rfl⟩
theorem iX11_fencer_11 : In cX11_fencer 11 (.tableswitch 112 0 5 #[37, 44, 81, 90, 100, 106]) 37 48 := ⟨by decide +kernel, rfl⟩
theorem iX11_fencer_48 : In cX11_fencer 48 (.aload_n 0) 1 49 := ⟨by decide +kernel, rfl⟩
theorem iX11_fencer_49 : In cX11_fencer 49 (.getfield 7) 3 52 := ⟨by decide +kernel, rfl⟩
theorem iX11_fencer_52 : In cX11_fencer 52 (.iload_n 1) 1 53 := ⟨by decide +kernel, rfl⟩
theorem iX11_fencer_53 : In cX11_fencer 53 (.iaload) 1 54 := ⟨by decide +kernel, rfl⟩
theorem iX11_fencer_54 : In cX11_fencer 54 (.ireturn) 1 55 := ⟨by decide +kernel, rfl⟩
theorem iX11_fencer_55 : In cX11_fencer 55 (.bipush 100) 2 57 := ⟨by decide +kernel, rfl⟩
theorem iX11_fencer_57 : In cX11_fencer 57 (.aload_n 0) 1 58 := ⟨by decide +kernel, rfl⟩
theorem iX11_fencer_58 : In cX11_fencer 58 (.getfield 13) 3 61 := ⟨by decide +kernel, rfl⟩
theorem iX11_fencer_61 : In cX11_fencer 61 (.iconst 3) 1 62 := ⟨by decide +kernel, rfl⟩
theorem iX11_fencer_62 : In cX11_fencer 62 (.iload_n 1) 1 63 := ⟨by decide +kernel, rfl⟩
theorem iX11_fencer_63 : In cX11_fencer 63 (.imul) 1 64 := ⟨by decide +kernel, rfl⟩
theorem iX11_fencer_64 : In cX11_fencer 64 (.iaload) 1 65 := ⟨by decide +kernel, rfl⟩
theorem iX11_fencer_65 : In cX11_fencer 65 (.imul) 1 66 := ⟨by decide +kernel, rfl⟩
theorem iX11_fencer_66 : In cX11_fencer 66 (.bipush 10) 2 68 := ⟨by decide +kernel, rfl⟩
theorem iX11_fencer_68 : In cX11_fencer 68 (.aload_n 0) 1 69 := ⟨by decide +kernel, rfl⟩
theorem iX11_fencer_69 : In cX11_fencer 69 (.getfield 13) 3 72 := ⟨by decide +kernel, rfl⟩
theorem iX11_fencer_72 : In cX11_fencer 72 (.iconst 3) 1 73 := ⟨by decide +kernel, rfl⟩
theorem iX11_fencer_73 : In cX11_fencer 73 (.iload_n 1) 1 74 := ⟨by decide +kernel, rfl⟩
theorem iX11_fencer_74 : In cX11_fencer 74 (.imul) 1 75 := ⟨by decide +kernel, rfl⟩
theorem iX11_fencer_75 : In cX11_fencer 75 (.iconst 1) 1 76 := ⟨by decide +kernel, rfl⟩
theorem iX11_fencer_76 : In cX11_fencer 76 (.iadd) 1 77 := ⟨by decide +kernel, rfl⟩
theorem iX11_fencer_77 : In cX11_fencer 77 (.iaload) 1 78 := ⟨by decide +kernel, rfl⟩
theorem iX11_fencer_78 : In cX11_fencer 78 (.imul) 1 79 := ⟨by decide +kernel, rfl⟩
theorem iX11_fencer_79 : In cX11_fencer 79 (.iadd) 1 80 := ⟨by decide +kernel, rfl⟩
theorem iX11_fencer_80 : In cX11_fencer 80 (.aload_n 0) 1 81 := ⟨by decide +kernel, rfl⟩
theorem iX11_fencer_81 : In cX11_fencer 81 (.getfield 13) 3 84 := ⟨by decide +kernel, rfl⟩
theorem iX11_fencer_84 : In cX11_fencer 84 (.iconst 3) 1 85 := ⟨by decide +kernel, rfl⟩
theorem iX11_fencer_85 : In cX11_fencer 85 (.iload_n 1) 1 86 := ⟨by decide +kernel, rfl⟩
theorem iX11_fencer_86 : In cX11_fencer 86 (.imul) 1 87 := ⟨by decide +kernel, rfl⟩
theorem iX11_fencer_87 : In cX11_fencer 87 (.iconst 2) 1 88 := ⟨by decide +kernel, rfl⟩
theorem iX11_fencer_88 : In cX11_fencer 88 (.iadd) 1 89 := ⟨by decide +kernel, rfl⟩
theorem iX11_fencer_89 : In cX11_fencer 89 (.iaload) 1 90 := ⟨by decide +kernel, rfl⟩
theorem iX11_fencer_90 : In cX11_fencer 90 (.iadd) 1 91 := ⟨by decide +kernel, rfl⟩
theorem iX11_fencer_91 : In cX11_fencer 91 (.ireturn) 1 92 := ⟨by decide +kernel, rfl⟩
theorem iX11_fencer_92 : In cX11_fencer 92 (.aload_n 0) 1 93 := ⟨by decide +kernel, rfl⟩
theorem iX11_fencer_93 : In cX11_fencer 93 (.getfield 22) 3 96 := ⟨by decide +kernel, rfl⟩
theorem iX11_fencer_96 : In cX11_fencer 96 (.iconst 5) 1 97 := ⟨by decide +kernel, rfl⟩
theorem iX11_fencer_97 : In cX11_fencer 97 (.iload_n 1) 1 98 := ⟨by decide +kernel, rfl⟩
theorem iX11_fencer_98 : In cX11_fencer 98 (.iadd) 1 99 := ⟨by decide +kernel, rfl⟩
theorem iX11_fencer_99 : In cX11_fencer 99 (.iaload) 1 100 := ⟨by decide +kernel, rfl⟩
theorem iX11_fencer_100 : In cX11_fencer 100 (.ireturn) 1 101 := ⟨by decide +kernel, rfl⟩
theorem iX11_fencer_101 : In cX11_fencer 101 (.aload_n 0) 1 102 := ⟨by decide +kernel, rfl⟩
theorem iX11_fencer_102 : In cX11_fencer 102 (.getfield 22) 3 105 := ⟨by decide +kernel, rfl⟩
theorem iX11_fencer_105 : In cX11_fencer 105 (.bipush 11) 2 107 := ⟨by decide +kernel, rfl⟩
theorem iX11_fencer_107 : In cX11_fencer 107 (.iload_n 1) 1 108 := ⟨by decide +kernel, rfl⟩
theorem iX11_fencer_108 : In cX11_fencer 108 (.iadd) 1 109 := ⟨by decide +kernel, rfl⟩
theorem iX11_fencer_109 : In cX11_fencer 109 (.iaload) 1 110 := ⟨by decide +kernel, rfl⟩
theorem iX11_fencer_110 : In cX11_fencer 110 (.ireturn) 1 111 := ⟨by decide +kernel, rfl⟩
theorem iX11_fencer_111 : In cX11_fencer 111 (.aload_n 0) 1 112 := ⟨by decide +kernel, rfl⟩
theorem iX11_fencer_112 : In cX11_fencer 112 (.iload_n 1) 1 113 := ⟨by decide +kernel, rfl⟩
theorem iX11_fencer_113 : In cX11_fencer 113 (.invokevirtual 157) 3 116 := ⟨by decide +kernel, rfl⟩
theorem iX11_fencer_116 : In cX11_fencer 116 (.ireturn) 1 117 := ⟨by decide +kernel, rfl⟩
theorem iX11_fencer_117 : In cX11_fencer 117 (.aload_n 0) 1 118 := ⟨by decide +kernel, rfl⟩
theorem iX11_fencer_118 : In cX11_fencer 118 (.iload_n 1) 1 119 := ⟨by decide +kernel, rfl⟩
theorem iX11_fencer_119 : In cX11_fencer 119 (.invokevirtual 160) 3 122 := ⟨by decide +kernel, rfl⟩
theorem iX11_fencer_122 : In cX11_fencer 122 (.ireturn) 1 123 := ⟨by decide +kernel, rfl⟩
theorem iX11_fencer_123 : In cX11_fencer 123 (.bipush (-2)) 2 125 := ⟨by decide +kernel, rfl⟩
theorem iX11_fencer_125 : In cX11_fencer 125 (.ireturn) 1 126 := ⟨by decide +kernel, rfl⟩
theorem iX11_good_0 : In cX11_good 0 (.aload_n 0) 1 1 := ⟨by decide +kernel, rfl⟩
theorem iX11_good_1 : In cX11_good 1 (.iload_n 1) 1 2 := ⟨by decide +kernel, rfl⟩
theorem iX11_good_2 : In cX11_good 2 (.invokevirtual 163) 3 5 := ⟨by decide +kernel, rfl⟩
theorem iX11_good_5 : Jn cX11_good 5 (.ifCond .ne 5) (5) 8 10 := ⟨by decide +kernel, rfl, by decide⟩
theorem iX11_good_8 : In cX11_good 8 (.iconst (-1)) 1 9 := ⟨by decide +kernel, rfl⟩
theorem iX11_good_9 : In cX11_good 9 (.ireturn) 1 10 := ⟨by decide +kernel, rfl⟩
theorem iX11_good_10 : In cX11_good 10 (.iload_n 2) 1 11 := ⟨by decide +kernel, rfl⟩
theorem iX11_good_11 : Jn cX11_good 11 (.ifCond .ne 12) (12) 14 23 := ⟨by decide +kernel, rfl, by decide⟩
theorem iX11_good_14 : In cX11_good 14 (.aload_n 0) 1 15 := ⟨by decide +kernel, rfl⟩
theorem iX11_good_15 : In cX11_good 15 (.getfield 22) 3 18 := ⟨by decide +kernel, rfl⟩
theorem iX11_good_18 : In cX11_good 18 (.iload_n 1) 1 19 := ⟨by decide +kernel, rfl⟩
theorem iX11_good_19 : In cX11_good 19 (.iaload) 1 20 := ⟨by decide +kernel, rfl⟩
theorem iX11_good_20 : Jn cX11_good 20 (.goto 33) (33) 23 53 := ⟨by decide +kernel, rfl, by decide⟩
theorem iX11_good_23 : In cX11_good 23 (.iload_n 2) 1 24 := ⟨by decide +kernel, rfl⟩
theorem iX11_good_24 : In cX11_good 24 (.iconst 1) 1 25 := ⟨by decide +kernel, rfl⟩
theorem iX11_good_25 : Jn cX11_good 25 (.if_icmp .ne 12) (12) 28 37 := ⟨by decide +kernel, rfl, by decide⟩
theorem iX11_good_28 : In cX11_good 28 (.aload_n 0) 1 29 := ⟨by decide +kernel, rfl⟩
theorem iX11_good_29 : In cX11_good 29 (.getfield 19) 3 32 := ⟨by decide +kernel, rfl⟩
theorem iX11_good_32 : In cX11_good 32 (.iload_n 1) 1 33 := ⟨by decide +kernel, rfl⟩
theorem iX11_good_33 : In cX11_good 33 (.iaload) 1 34 := ⟨by decide +kernel, rfl⟩
theorem iX11_good_34 : Jn cX11_good 34 (.goto 19) (19) 37 53 := ⟨by decide +kernel, rfl, by decide⟩
theorem iX11_good_37 : In cX11_good 37 (.iload_n 2) 1 38 := ⟨by decide +kernel, rfl⟩
theorem iX11_good_38 : In cX11_good 38 (.iconst 2) 1 39 := ⟨by decide +kernel, rfl⟩
theorem iX11_good_39 : Jn cX11_good 39 (.if_icmp .ne 12) (12) 42 51 := ⟨by decide +kernel, rfl, by decide⟩
theorem iX11_good_42 : In cX11_good 42 (.aload_n 0) 1 43 := ⟨by decide +kernel, rfl⟩
theorem iX11_good_43 : In cX11_good 43 (.getfield 16) 3 46 := ⟨by decide +kernel, rfl⟩
theorem iX11_good_46 : In cX11_good 46 (.iload_n 1) 1 47 := ⟨by decide +kernel, rfl⟩
theorem iX11_good_47 : In cX11_good 47 (.iaload) 1 48 := ⟨by decide +kernel, rfl⟩
theorem iX11_good_48 : Jn cX11_good 48 (.goto 5) (5) 51 53 := ⟨by decide +kernel, rfl, by decide⟩
theorem iX11_good_51 : In cX11_good 51 (.bipush (-2)) 2 53 := ⟨by decide +kernel, rfl⟩
theorem iX11_good_53 : In cX11_good 53 (.ireturn) 1 54 := ⟨by decide +kernel, rfl⟩
theorem iX11_bout_0 : In cX11_bout 0 (.aload_n 0) 1 1 := ⟨by decide +kernel, rfl⟩
theorem iX11_bout_1 : In cX11_bout 1 (.iload_n 1) 1 2 := ⟨by decide +kernel, rfl⟩
theorem iX11_bout_2 : In cX11_bout 2 (.invokevirtual 153) 3 5 := ⟨by decide +kernel, rfl⟩
theorem iX11_bout_5 : Jn cX11_bout 5 (.ifCond .eq 11) (11) 8 16 := ⟨by decide +kernel, rfl, by decide⟩
theorem iX11_bout_8 : In cX11_bout 8 (.aload_n 0) 1 9 := ⟨by decide +kernel, rfl⟩
theorem iX11_bout_9 : In cX11_bout 9 (.iload_n 2) 1 10 := ⟨by decide +kernel, rfl⟩
theorem iX11_bout_10 : In cX11_bout 10 (.invokevirtual 153) 3 13 := ⟨by decide +kernel, rfl⟩
theorem iX11_bout_13 : Jn cX11_bout 13 (.ifCond .ne 5) (5) 16 18 := ⟨by decide +kernel, rfl, by decide⟩
theorem iX11_bout_16 : In cX11_bout 16 (.iconst (-1)) 1 17 := ⟨by decide +kernel, rfl⟩
theorem iX11_bout_17 : In cX11_bout 17 (.ireturn) 1 18 := ⟨by decide +kernel, rfl⟩
theorem iX11_bout_18 : In cX11_bout 18 (.iload_n 1) 1 19 := ⟨by decide +kernel, rfl⟩
theorem iX11_bout_19 : In cX11_bout 19 (.iload_n 2) 1 20 := ⟨by decide +kernel, rfl⟩
theorem iX11_bout_20 : Jn cX11_bout 20 (.if_icmp .eq 15) (15) 23 35 := ⟨by decide +kernel, rfl, by decide⟩
theorem iX11_bout_23 : In cX11_bout 23 (.iload_n 3) 1 24 := ⟨by decide +kernel, rfl⟩
theorem iX11_bout_24 : In cX11_bout 24 (.i2l) 1 25 := ⟨by decide +kernel, rfl⟩
theorem iX11_bout_25 : In cX11_bout 25 (.lconst 0) 1 26 := ⟨by decide +kernel, rfl⟩
theorem iX11_bout_26 : In cX11_bout 26 (.ldc2_w 166) 3 29 := ⟨by decide +kernel, rfl⟩
theorem iX11_bout_29 : In cX11_bout 29 (.invokestatic 61) 3 32 := ⟨by decide +kernel, rfl⟩
theorem iX11_bout_32 : Jn cX11_bout 32 (.ifCond .ne 6) (6) 35 38 := ⟨by decide +kernel, rfl, by decide⟩
theorem iX11_bout_35 : In cX11_bout 35 (.bipush (-2)) 2 37 := ⟨by decide +kernel, rfl⟩
theorem iX11_bout_37 : In cX11_bout 37 (.ireturn) 1 38 := ⟨by decide +kernel, rfl⟩
theorem iX11_bout_38 : In cX11_bout 38 (.aload_n 0) 1 39 := ⟨by decide +kernel, rfl⟩
theorem iX11_bout_39 : In cX11_bout 39 (.iconst 0) 1 40 := ⟨by decide +kernel, rfl⟩
theorem iX11_bout_40 : In cX11_bout 40 (.iload_n 1) 1 41 := ⟨by decide +kernel, rfl⟩
theorem iX11_bout_41 : In cX11_bout 41 (.iload_n 2) 1 42 := ⟨by decide +kernel, rfl⟩
theorem iX11_bout_42 : In cX11_bout 42 (.invokevirtual 145) 3 45 := ⟨by decide +kernel, rfl⟩
theorem iX11_bout_45 : In cX11_bout 45 (.iload_n 3) 1 46 := ⟨by decide +kernel, rfl⟩
theorem iX11_bout_46 : Jn cX11_bout 46 (.ifCond .ne 10) (10) 49 56 := ⟨by decide +kernel, rfl, by decide⟩
theorem iX11_bout_49 : In cX11_bout 49 (.aload_n 0) 1 50 := ⟨by decide +kernel, rfl⟩
theorem iX11_bout_50 : In cX11_bout 50 (.getfield 128) 3 53 := ⟨by decide +kernel, rfl⟩
theorem iX11_bout_53 : Jn cX11_bout 53 (.goto 19) (19) 56 72 := ⟨by decide +kernel, rfl, by decide⟩
theorem iX11_bout_56 : In cX11_bout 56 (.iload_n 3) 1 57 := ⟨by decide +kernel, rfl⟩
theorem iX11_bout_57 : In cX11_bout 57 (.iconst 1) 1 58 := ⟨by decide +kernel, rfl⟩
theorem iX11_bout_58 : Jn cX11_bout 58 (.if_icmp .ne 10) (10) 61 68 := ⟨by decide +kernel, rfl, by decide⟩
theorem iX11_bout_61 : In cX11_bout 61 (.aload_n 0) 1 62 := ⟨by decide +kernel, rfl⟩
theorem iX11_bout_62 : In cX11_bout 62 (.getfield 131) 3 65 := ⟨by decide +kernel, rfl⟩
theorem iX11_bout_65 : Jn cX11_bout 65 (.goto 7) (7) 68 72 := ⟨by decide +kernel, rfl, by decide⟩
theorem iX11_bout_68 : In cX11_bout 68 (.aload_n 0) 1 69 := ⟨by decide +kernel, rfl⟩
theorem iX11_bout_69 : In cX11_bout 69 (.getfield 111) 3 72 := ⟨by decide +kernel, rfl⟩
theorem iX11_bout_72 : In cX11_bout 72 (.ireturn) 1 73 := ⟨by decide +kernel, rfl⟩
theorem iX11_costFrom_0 : In cX11_costFrom 0 (.aload_n 0) 1 1 := ⟨by decide +kernel, rfl⟩
theorem iX11_costFrom_1 : In cX11_costFrom 1 (.iload_n 1) 1 2 := ⟨by decide +kernel, rfl⟩
theorem iX11_costFrom_2 : In cX11_costFrom 2 (.iload_n 2) 1 3 := ⟨by decide +kernel, rfl⟩
theorem iX11_costFrom_3 : In cX11_costFrom 3 (.iload_n 3) 1 4 := ⟨by decide +kernel, rfl⟩
theorem iX11_costFrom_4 : In cX11_costFrom 4 (.invokevirtual 145) 3 7 := ⟨by decide +kernel, rfl⟩
theorem iX11_costFrom_7 : In cX11_costFrom 7 (.aload_n 0) 1 8 := ⟨by decide +kernel, rfl⟩
theorem iX11_costFrom_8 : In cX11_costFrom 8 (.getfield 19) 3 11 := ⟨by decide +kernel, rfl⟩
theorem iX11_costFrom_11 : In cX11_costFrom 11 (.iload 4) 2 13 := ⟨by decide +kernel, rfl⟩
theorem iX11_costFrom_13 : In cX11_costFrom 13 (.iaload) 1 14 := ⟨by decide +kernel, rfl⟩
theorem iX11_costFrom_14 : In cX11_costFrom 14 (.aload_n 0) 1 15 := ⟨by decide +kernel, rfl⟩
theorem iX11_costFrom_15 : In cX11_costFrom 15 (.getfield 131) 3 18 := ⟨by decide +kernel, rfl⟩
theorem iX11_costFrom_18 : In cX11_costFrom 18 (.iadd) 1 19 := ⟨by decide +kernel, rfl⟩
theorem iX11_costFrom_19 : In cX11_costFrom 19 (.aload_n 0) 1 20 := ⟨by decide +kernel, rfl⟩
theorem iX11_costFrom_20 : In cX11_costFrom 20 (.getfield 128) 3 23 := ⟨by decide +kernel, rfl⟩
theorem iX11_costFrom_23 : In cX11_costFrom 23 (.isub) 1 24 := ⟨by decide +kernel, rfl⟩
theorem iX11_costFrom_24 : In cX11_costFrom 24 (.istore 5) 2 26 := ⟨by decide +kernel, rfl⟩
theorem iX11_costFrom_26 : In cX11_costFrom 26 (.iload 5) 2 28 := ⟨by decide +kernel, rfl⟩
theorem iX11_costFrom_28 : Jn cX11_costFrom 28 (.ifCond .ge 7) (7) 31 35 := ⟨by decide +kernel, rfl, by decide⟩
theorem iX11_costFrom_31 : In cX11_costFrom 31 (.iconst 0) 1 32 := ⟨by decide +kernel, rfl⟩
theorem iX11_costFrom_32 : Jn cX11_costFrom 32 (.goto 5) (5) 35 37 := ⟨by decide +kernel, rfl, by decide⟩
theorem iX11_costFrom_35 : In cX11_costFrom 35 (.iload 5) 2 37 := ⟨by decide +kernel, rfl⟩
theorem iX11_costFrom_37 : In cX11_costFrom 37 (.ireturn) 1 38 := ⟨by decide +kernel, rfl⟩
theorem iX11_cost_0 : In cX11_cost 0 (.aload_n 0) 1 1 := ⟨by decide +kernel, rfl⟩
theorem iX11_cost_1 : In cX11_cost 1 (.iload_n 1) 1 2 := ⟨by decide +kernel, rfl⟩
theorem iX11_cost_2 : In cX11_cost 2 (.invokevirtual 153) 3 5 := ⟨by decide +kernel, rfl⟩
theorem iX11_cost_5 : Jn cX11_cost 5 (.ifCond .eq 11) (11) 8 16 := ⟨by decide +kernel, rfl, by decide⟩
theorem iX11_cost_8 : In cX11_cost 8 (.aload_n 0) 1 9 := ⟨by decide +kernel, rfl⟩
theorem iX11_cost_9 : In cX11_cost 9 (.iload_n 2) 1 10 := ⟨by decide +kernel, rfl⟩
theorem iX11_cost_10 : In cX11_cost 10 (.invokevirtual 163) 3 13 := ⟨by decide +kernel, rfl⟩
theorem iX11_cost_13 : Jn cX11_cost 13 (.ifCond .ne 5) (5) 16 18 := ⟨by decide +kernel, rfl, by decide⟩
theorem iX11_cost_16 : In cX11_cost 16 (.iconst (-1)) 1 17 := ⟨by decide +kernel, rfl⟩
theorem iX11_cost_17 : In cX11_cost 17 (.ireturn) 1 18 := ⟨by decide +kernel, rfl⟩
theorem iX11_cost_18 : In cX11_cost 18 (.aload_n 0) 1 19 := ⟨by decide +kernel, rfl⟩
theorem iX11_cost_19 : In cX11_cost 19 (.getfield 22) 3 22 := ⟨by decide +kernel, rfl⟩
theorem iX11_cost_22 : In cX11_cost 22 (.iload_n 2) 1 23 := ⟨by decide +kernel, rfl⟩
theorem iX11_cost_23 : In cX11_cost 23 (.iaload) 1 24 := ⟨by decide +kernel, rfl⟩
theorem iX11_cost_24 : In cX11_cost 24 (.iload_n 1) 1 25 := ⟨by decide +kernel, rfl⟩
theorem iX11_cost_25 : Jn cX11_cost 25 (.if_icmp .ne 8) (8) 28 33 := ⟨by decide +kernel, rfl, by decide⟩
theorem iX11_cost_28 : In cX11_cost 28 (.bipush (-3)) 2 30 := ⟨by decide +kernel, rfl⟩
theorem iX11_cost_30 : Jn cX11_cost 30 (.goto 16) (16) 33 46 := ⟨by decide +kernel, rfl, by decide⟩
theorem iX11_cost_33 : In cX11_cost 33 (.aload_n 0) 1 34 := ⟨by decide +kernel, rfl⟩
theorem iX11_cost_34 : In cX11_cost 34 (.iconst 0) 1 35 := ⟨by decide +kernel, rfl⟩
theorem iX11_cost_35 : In cX11_cost 35 (.iload_n 1) 1 36 := ⟨by decide +kernel, rfl⟩
theorem iX11_cost_36 : In cX11_cost 36 (.aload_n 0) 1 37 := ⟨by decide +kernel, rfl⟩
theorem iX11_cost_37 : In cX11_cost 37 (.getfield 22) 3 40 := ⟨by decide +kernel, rfl⟩
theorem iX11_cost_40 : In cX11_cost 40 (.iload_n 2) 1 41 := ⟨by decide +kernel, rfl⟩
theorem iX11_cost_41 : In cX11_cost 41 (.iaload) 1 42 := ⟨by decide +kernel, rfl⟩
theorem iX11_cost_42 : In cX11_cost 42 (.iload_n 2) 1 43 := ⟨by decide +kernel, rfl⟩
theorem iX11_cost_43 : In cX11_cost 43 (.invokevirtual 168) 3 46 := ⟨by decide +kernel, rfl⟩
theorem iX11_cost_46 : In cX11_cost 46 (.ireturn) 1 47 := ⟨by decide +kernel, rfl⟩
theorem iX11_keepAct_0 : In cX11_keepAct 0 (.iconst 0) 1 1 := ⟨by decide +kernel, rfl⟩
theorem iX11_keepAct_1 : In cX11_keepAct 1 (.istore_n 1) 1 2 := ⟨by decide +kernel, rfl⟩
theorem iX11_keepAct_2 : In cX11_keepAct 2 (.iload_n 1) 1 3 := ⟨by decide +kernel, rfl⟩
theorem iX11_keepAct_3 : In cX11_keepAct 3 (.bipush 18) 2 5 := ⟨by decide +kernel, rfl⟩
theorem iX11_keepAct_5 : Jn cX11_keepAct 5 (.if_icmp .ge 29) (29) 8 34 := ⟨by decide +kernel, rfl, by decide⟩
theorem iX11_keepAct_8 : In cX11_keepAct 8 (.aload_n 0) 1 9 := ⟨by decide +kernel, rfl⟩
theorem iX11_keepAct_9 : In cX11_keepAct 9 (.getfield 34) 3 12 := ⟨by decide +kernel, rfl⟩
theorem iX11_keepAct_12 : In cX11_keepAct 12 (.bipush 18) 2 14 := ⟨by decide +kernel, rfl⟩
theorem iX11_keepAct_14 : In cX11_keepAct 14 (.aload_n 0) 1 15 := ⟨by decide +kernel, rfl⟩
theorem iX11_keepAct_15 : In cX11_keepAct 15 (.getfield 171) 3 18 := ⟨by decide +kernel, rfl⟩
theorem iX11_keepAct_18 : In cX11_keepAct 18 (.imul) 1 19 := ⟨by decide +kernel, rfl⟩
theorem iX11_keepAct_19 : In cX11_keepAct 19 (.iload_n 1) 1 20 := ⟨by decide +kernel, rfl⟩
theorem iX11_keepAct_20 : In cX11_keepAct 20 (.iadd) 1 21 := ⟨by decide +kernel, rfl⟩
theorem iX11_keepAct_21 : In cX11_keepAct 21 (.aload_n 0) 1 22 := ⟨by decide +kernel, rfl⟩
theorem iX11_keepAct_22 : In cX11_keepAct 22 (.getfield 22) 3 25 := ⟨by decide +kernel, rfl⟩
theorem iX11_keepAct_25 : In cX11_keepAct 25 (.iload_n 1) 1 26 := ⟨by decide +kernel, rfl⟩
theorem iX11_keepAct_26 : In cX11_keepAct 26 (.iaload) 1 27 := ⟨by decide +kernel, rfl⟩
theorem iX11_keepAct_27 : In cX11_keepAct 27 (.iastore) 1 28 := ⟨by decide +kernel, rfl⟩
theorem iX11_keepAct_28 : In cX11_keepAct 28 (.iinc 1 1) 3 31 := ⟨by decide +kernel, rfl⟩
theorem iX11_keepAct_31 : Jn cX11_keepAct 31 (.goto (-29)) (-29) 34 2 := ⟨by decide +kernel, rfl, by decide⟩
theorem iX11_keepAct_34 : In cX11_keepAct 34 (.aload_n 0) 1 35 := ⟨by decide +kernel, rfl⟩
theorem iX11_keepAct_35 : In cX11_keepAct 35 (.aload_n 0) 1 36 := ⟨by decide +kernel, rfl⟩
theorem iX11_keepAct_36 : In cX11_keepAct 36 (.getfield 171) 3 39 := ⟨by decide +kernel, rfl⟩
theorem iX11_keepAct_39 : In cX11_keepAct 39 (.iconst 1) 1 40 := ⟨by decide +kernel, rfl⟩
theorem iX11_keepAct_40 : In cX11_keepAct 40 (.iadd) 1 41 := ⟨by decide +kernel, rfl⟩
theorem iX11_keepAct_41 : In cX11_keepAct 41 (.bipush 14) 2 43 := ⟨by decide +kernel, rfl⟩
theorem iX11_keepAct_43 : In cX11_keepAct 43 (.irem) 1 44 := ⟨by decide +kernel, rfl⟩
theorem iX11_keepAct_44 : In cX11_keepAct 44 (.putfield 171) 3 47 := ⟨by decide +kernel, rfl⟩
theorem iX11_keepAct_47 : In cX11_keepAct 47 (.aload_n 0) 1 48 := ⟨by decide +kernel, rfl⟩
theorem iX11_keepAct_48 : In cX11_keepAct 48 (.aload_n 0) 1 49 := ⟨by decide +kernel, rfl⟩
theorem iX11_keepAct_49 : In cX11_keepAct 49 (.getfield 105) 3 52 := ⟨by decide +kernel, rfl⟩
theorem iX11_keepAct_52 : In cX11_keepAct 52 (.bipush 14) 2 54 := ⟨by decide +kernel, rfl⟩
theorem iX11_keepAct_54 : Jn cX11_keepAct 54 (.if_icmp .ge 12) (12) 57 66 := ⟨by decide +kernel, rfl, by decide⟩
theorem iX11_keepAct_57 : In cX11_keepAct 57 (.aload_n 0) 1 58 := ⟨by decide +kernel, rfl⟩
theorem iX11_keepAct_58 : In cX11_keepAct 58 (.getfield 105) 3 61 := ⟨by decide +kernel, rfl⟩
theorem iX11_keepAct_61 : In cX11_keepAct 61 (.iconst 1) 1 62 := ⟨by decide +kernel, rfl⟩
theorem iX11_keepAct_62 : In cX11_keepAct 62 (.iadd) 1 63 := ⟨by decide +kernel, rfl⟩
theorem iX11_keepAct_63 : Jn cX11_keepAct 63 (.goto 5) (5) 66 68 := ⟨by decide +kernel, rfl, by decide⟩
theorem iX11_keepAct_66 : In cX11_keepAct 66 (.bipush 14) 2 68 := ⟨by decide +kernel, rfl⟩
theorem iX11_keepAct_68 : In cX11_keepAct 68 (.putfield 105) 3 71 := ⟨by decide +kernel, rfl⟩
theorem iX11_keepAct_71 : In cX11_keepAct 71 (.return_) 1 72 := ⟨by decide +kernel, rfl⟩
theorem iX11_stepOn_0 : In cX11_stepOn 0 (.bipush 18) 2 2 := ⟨by decide +kernel, rfl⟩
theorem iX11_stepOn_2 : In cX11_stepOn 2 (.iload_n 1) 1 3 := ⟨by decide +kernel, rfl⟩
theorem iX11_stepOn_3 : In cX11_stepOn 3 (.imul) 1 4 := ⟨by decide +kernel, rfl⟩
theorem iX11_stepOn_4 : In cX11_stepOn 4 (.bipush 11) 2 6 := ⟨by decide +kernel, rfl⟩
theorem iX11_stepOn_6 : In cX11_stepOn 6 (.iadd) 1 7 := ⟨by decide +kernel, rfl⟩
theorem iX11_stepOn_7 : In cX11_stepOn 7 (.iload_n 2) 1 8 := ⟨by decide +kernel, rfl⟩
theorem iX11_stepOn_8 : In cX11_stepOn 8 (.iadd) 1 9 := ⟨by decide +kernel, rfl⟩
theorem iX11_stepOn_9 : In cX11_stepOn 9 (.istore_n 3) 1 10 := ⟨by decide +kernel, rfl⟩
theorem iX11_stepOn_10 : In cX11_stepOn 10 (.aload_n 0) 1 11 := ⟨by decide +kernel, rfl⟩
theorem iX11_stepOn_11 : In cX11_stepOn 11 (.getfield 22) 3 14 := ⟨by decide +kernel, rfl⟩
theorem iX11_stepOn_14 : In cX11_stepOn 14 (.iload_n 3) 1 15 := ⟨by decide +kernel, rfl⟩
theorem iX11_stepOn_15 : In cX11_stepOn 15 (.aload_n 0) 1 16 := ⟨by decide +kernel, rfl⟩
theorem iX11_stepOn_16 : In cX11_stepOn 16 (.getfield 7) 3 19 := ⟨by decide +kernel, rfl⟩
theorem iX11_stepOn_19 : In cX11_stepOn 19 (.iload_n 2) 1 20 := ⟨by decide +kernel, rfl⟩
theorem iX11_stepOn_20 : In cX11_stepOn 20 (.iaload) 1 21 := ⟨by decide +kernel, rfl⟩
theorem iX11_stepOn_21 : In cX11_stepOn 21 (.iconst 3) 1 22 := ⟨by decide +kernel, rfl⟩
theorem iX11_stepOn_22 : Jn cX11_stepOn 22 (.if_icmp .ne 7) (7) 25 29 := ⟨by decide +kernel, rfl, by decide⟩
theorem iX11_stepOn_25 : In cX11_stepOn 25 (.iconst 0) 1 26 := ⟨by decide +kernel, rfl⟩
theorem iX11_stepOn_26 : Jn cX11_stepOn 26 (.goto 13) (13) 29 39 := ⟨by decide +kernel, rfl, by decide⟩
theorem iX11_stepOn_29 : In cX11_stepOn 29 (.aload_n 0) 1 30 := ⟨by decide +kernel, rfl⟩
theorem iX11_stepOn_30 : In cX11_stepOn 30 (.getfield 22) 3 33 := ⟨by decide +kernel, rfl⟩
theorem iX11_stepOn_33 : In cX11_stepOn 33 (.iload_n 3) 1 34 := ⟨by decide +kernel, rfl⟩
theorem iX11_stepOn_34 : In cX11_stepOn 34 (.iaload) 1 35 := ⟨by decide +kernel, rfl⟩
theorem iX11_stepOn_35 : In cX11_stepOn 35 (.iconst 1) 1 36 := ⟨by decide +kernel, rfl⟩
theorem iX11_stepOn_36 : In cX11_stepOn 36 (.iadd) 1 37 := ⟨by decide +kernel, rfl⟩
theorem iX11_stepOn_37 : In cX11_stepOn 37 (.iconst 3) 1 38 := ⟨by decide +kernel, rfl⟩
theorem iX11_stepOn_38 : In cX11_stepOn 38 (.irem) 1 39 := ⟨by decide +kernel, rfl⟩
theorem iX11_stepOn_39 : In cX11_stepOn 39 (.iastore) 1 40 := ⟨by decide +kernel, rfl⟩
theorem iX11_stepOn_40 : In cX11_stepOn 40 (.return_) 1 41 := ⟨by decide +kernel, rfl⟩
theorem iX11_giveOn_0 : In cX11_giveOn 0 (.bipush 18) 2 2 := ⟨by decide +kernel, rfl⟩
theorem iX11_giveOn_2 : In cX11_giveOn 2 (.iload_n 1) 1 3 := ⟨by decide +kernel, rfl⟩
theorem iX11_giveOn_3 : In cX11_giveOn 3 (.imul) 1 4 := ⟨by decide +kernel, rfl⟩
theorem iX11_giveOn_4 : In cX11_giveOn 4 (.iconst 5) 1 5 := ⟨by decide +kernel, rfl⟩
theorem iX11_giveOn_5 : In cX11_giveOn 5 (.iadd) 1 6 := ⟨by decide +kernel, rfl⟩
theorem iX11_giveOn_6 : In cX11_giveOn 6 (.iload_n 2) 1 7 := ⟨by decide +kernel, rfl⟩
theorem iX11_giveOn_7 : In cX11_giveOn 7 (.iadd) 1 8 := ⟨by decide +kernel, rfl⟩
theorem iX11_giveOn_8 : In cX11_giveOn 8 (.istore 4) 2 10 := ⟨by decide +kernel, rfl⟩
theorem iX11_giveOn_10 : In cX11_giveOn 10 (.aload_n 0) 1 11 := ⟨by decide +kernel, rfl⟩
theorem iX11_giveOn_11 : In cX11_giveOn 11 (.getfield 22) 3 14 := ⟨by decide +kernel, rfl⟩
theorem iX11_giveOn_14 : In cX11_giveOn 14 (.iload 4) 2 16 := ⟨by decide +kernel, rfl⟩
theorem iX11_giveOn_16 : In cX11_giveOn 16 (.aload_n 0) 1 17 := ⟨by decide +kernel, rfl⟩
theorem iX11_giveOn_17 : In cX11_giveOn 17 (.getfield 22) 3 20 := ⟨by decide +kernel, rfl⟩
theorem iX11_giveOn_20 : In cX11_giveOn 20 (.iload 4) 2 22 := ⟨by decide +kernel, rfl⟩
theorem iX11_giveOn_22 : In cX11_giveOn 22 (.iaload) 1 23 := ⟨by decide +kernel, rfl⟩
theorem iX11_giveOn_23 : In cX11_giveOn 23 (.iload_n 3) 1 24 := ⟨by decide +kernel, rfl⟩
theorem iX11_giveOn_24 : In cX11_giveOn 24 (.iadd) 1 25 := ⟨by decide +kernel, rfl⟩
theorem iX11_giveOn_25 : In cX11_giveOn 25 (.bipush 99) 2 27 := ⟨by decide +kernel, rfl⟩
theorem iX11_giveOn_27 : Jn cX11_giveOn 27 (.if_icmp .le 8) (8) 30 35 := ⟨by decide +kernel, rfl, by decide⟩
theorem iX11_giveOn_30 : In cX11_giveOn 30 (.bipush 99) 2 32 := ⟨by decide +kernel, rfl⟩
theorem iX11_giveOn_32 : Jn cX11_giveOn 32 (.goto 12) (12) 35 44 := ⟨by decide +kernel, rfl, by decide⟩
theorem iX11_giveOn_35 : In cX11_giveOn 35 (.aload_n 0) 1 36 := ⟨by decide +kernel, rfl⟩
theorem iX11_giveOn_36 : In cX11_giveOn 36 (.getfield 22) 3 39 := ⟨by decide +kernel, rfl⟩
theorem iX11_giveOn_39 : In cX11_giveOn 39 (.iload 4) 2 41 := ⟨by decide +kernel, rfl⟩
theorem iX11_giveOn_41 : In cX11_giveOn 41 (.iaload) 1 42 := ⟨by decide +kernel, rfl⟩
theorem iX11_giveOn_42 : In cX11_giveOn 42 (.iload_n 3) 1 43 := ⟨by decide +kernel, rfl⟩
theorem iX11_giveOn_43 : In cX11_giveOn 43 (.iadd) 1 44 := ⟨by decide +kernel, rfl⟩
theorem iX11_giveOn_44 : In cX11_giveOn 44 (.iastore) 1 45 := ⟨by decide +kernel, rfl⟩
theorem iX11_giveOn_45 : In cX11_giveOn 45 (.return_) 1 46 := ⟨by decide +kernel, rfl⟩
theorem iX11_meetOn_0 : In cX11_meetOn 0 (.bipush 18) 2 2 := ⟨by decide +kernel, rfl⟩
theorem iX11_meetOn_2 : In cX11_meetOn 2 (.iload_n 1) 1 3 := ⟨by decide +kernel, rfl⟩
theorem iX11_meetOn_3 : In cX11_meetOn 3 (.imul) 1 4 := ⟨by decide +kernel, rfl⟩
theorem iX11_meetOn_4 : In cX11_meetOn 4 (.istore 4) 2 6 := ⟨by decide +kernel, rfl⟩
theorem iX11_meetOn_6 : In cX11_meetOn 6 (.aload_n 0) 1 7 := ⟨by decide +kernel, rfl⟩
theorem iX11_meetOn_7 : In cX11_meetOn 7 (.getfield 22) 3 10 := ⟨by decide +kernel, rfl⟩
theorem iX11_meetOn_10 : In cX11_meetOn 10 (.iload 4) 2 12 := ⟨by decide +kernel, rfl⟩
theorem iX11_meetOn_12 : In cX11_meetOn 12 (.iload_n 3) 1 13 := ⟨by decide +kernel, rfl⟩
theorem iX11_meetOn_13 : In cX11_meetOn 13 (.iadd) 1 14 := ⟨by decide +kernel, rfl⟩
theorem iX11_meetOn_14 : In cX11_meetOn 14 (.iaload) 1 15 := ⟨by decide +kernel, rfl⟩
theorem iX11_meetOn_15 : In cX11_meetOn 15 (.istore 5) 2 17 := ⟨by decide +kernel, rfl⟩
theorem iX11_meetOn_17 : In cX11_meetOn 17 (.aload_n 0) 1 18 := ⟨by decide +kernel, rfl⟩
theorem iX11_meetOn_18 : In cX11_meetOn 18 (.iload_n 1) 1 19 := ⟨by decide +kernel, rfl⟩
theorem iX11_meetOn_19 : In cX11_meetOn 19 (.iload_n 2) 1 20 := ⟨by decide +kernel, rfl⟩
theorem iX11_meetOn_20 : In cX11_meetOn 20 (.iload 5) 2 22 := ⟨by decide +kernel, rfl⟩
theorem iX11_meetOn_22 : In cX11_meetOn 22 (.iload_n 3) 1 23 := ⟨by decide +kernel, rfl⟩
theorem iX11_meetOn_23 : In cX11_meetOn 23 (.invokevirtual 168) 3 26 := ⟨by decide +kernel, rfl⟩
theorem iX11_meetOn_26 : In cX11_meetOn 26 (.istore 6) 2 28 := ⟨by decide +kernel, rfl⟩
theorem iX11_meetOn_28 : In cX11_meetOn 28 (.aload_n 0) 1 29 := ⟨by decide +kernel, rfl⟩
theorem iX11_meetOn_29 : In cX11_meetOn 29 (.getfield 22) 3 32 := ⟨by decide +kernel, rfl⟩
theorem iX11_meetOn_32 : In cX11_meetOn 32 (.iload 4) 2 34 := ⟨by decide +kernel, rfl⟩
theorem iX11_meetOn_34 : In cX11_meetOn 34 (.iconst 5) 1 35 := ⟨by decide +kernel, rfl⟩
theorem iX11_meetOn_35 : In cX11_meetOn 35 (.iadd) 1 36 := ⟨by decide +kernel, rfl⟩
theorem iX11_meetOn_36 : In cX11_meetOn 36 (.iload_n 2) 1 37 := ⟨by decide +kernel, rfl⟩
theorem iX11_meetOn_37 : In cX11_meetOn 37 (.iadd) 1 38 := ⟨by decide +kernel, rfl⟩
theorem iX11_meetOn_38 : In cX11_meetOn 38 (.iaload) 1 39 := ⟨by decide +kernel, rfl⟩
theorem iX11_meetOn_39 : In cX11_meetOn 39 (.iload 6) 2 41 := ⟨by decide +kernel, rfl⟩
theorem iX11_meetOn_41 : Jn cX11_meetOn 41 (.if_icmp .lt 7) (7) 44 48 := ⟨by decide +kernel, rfl, by decide⟩
theorem iX11_meetOn_44 : In cX11_meetOn 44 (.iconst 1) 1 45 := ⟨by decide +kernel, rfl⟩
theorem iX11_meetOn_45 : Jn cX11_meetOn 45 (.goto 4) (4) 48 49 := ⟨by decide +kernel, rfl, by decide⟩
theorem iX11_meetOn_48 : In cX11_meetOn 48 (.iconst 0) 1 49 := ⟨by decide +kernel, rfl⟩
theorem iX11_meetOn_49 : In cX11_meetOn 49 (.istore 7) 2 51 := ⟨by decide +kernel, rfl⟩
theorem iX11_meetOn_51 : In cX11_meetOn 51 (.iload 7) 2 53 := ⟨by decide +kernel, rfl⟩
theorem iX11_meetOn_53 : Jn cX11_meetOn 53 (.ifCond .eq 38) (38) 56 91 := ⟨by decide +kernel, rfl, by decide⟩
theorem iX11_meetOn_56 : In cX11_meetOn 56 (.aload_n 0) 1 57 := ⟨by decide +kernel, rfl⟩
theorem iX11_meetOn_57 : In cX11_meetOn 57 (.getfield 22) 3 60 := ⟨by decide +kernel, rfl⟩
theorem iX11_meetOn_60 : In cX11_meetOn 60 (.iload 4) 2 62 := ⟨by decide +kernel, rfl⟩
theorem iX11_meetOn_62 : In cX11_meetOn 62 (.iconst 5) 1 63 := ⟨by decide +kernel, rfl⟩
theorem iX11_meetOn_63 : In cX11_meetOn 63 (.iadd) 1 64 := ⟨by decide +kernel, rfl⟩
theorem iX11_meetOn_64 : In cX11_meetOn 64 (.iload_n 2) 1 65 := ⟨by decide +kernel, rfl⟩
theorem iX11_meetOn_65 : In cX11_meetOn 65 (.iadd) 1 66 := ⟨by decide +kernel, rfl⟩
theorem iX11_meetOn_66 : In cX11_meetOn 66 (.dup2) 1 67 := ⟨by decide +kernel, rfl⟩
theorem iX11_meetOn_67 : In cX11_meetOn 67 (.iaload) 1 68 := ⟨by decide +kernel, rfl⟩
theorem iX11_meetOn_68 : In cX11_meetOn 68 (.iload 6) 2 70 := ⟨by decide +kernel, rfl⟩
theorem iX11_meetOn_70 : In cX11_meetOn 70 (.isub) 1 71 := ⟨by decide +kernel, rfl⟩
theorem iX11_meetOn_71 : In cX11_meetOn 71 (.iastore) 1 72 := ⟨by decide +kernel, rfl⟩
theorem iX11_meetOn_72 : In cX11_meetOn 72 (.aload_n 0) 1 73 := ⟨by decide +kernel, rfl⟩
theorem iX11_meetOn_73 : In cX11_meetOn 73 (.iload_n 1) 1 74 := ⟨by decide +kernel, rfl⟩
theorem iX11_meetOn_74 : In cX11_meetOn 74 (.iload 5) 2 76 := ⟨by decide +kernel, rfl⟩
theorem iX11_meetOn_76 : In cX11_meetOn 76 (.iload 6) 2 78 := ⟨by decide +kernel, rfl⟩
theorem iX11_meetOn_78 : In cX11_meetOn 78 (.invokevirtual 174) 3 81 := ⟨by decide +kernel, rfl⟩
theorem iX11_meetOn_81 : In cX11_meetOn 81 (.aload_n 0) 1 82 := ⟨by decide +kernel, rfl⟩
theorem iX11_meetOn_82 : In cX11_meetOn 82 (.getfield 22) 3 85 := ⟨by decide +kernel, rfl⟩
theorem iX11_meetOn_85 : In cX11_meetOn 85 (.iload 4) 2 87 := ⟨by decide +kernel, rfl⟩
theorem iX11_meetOn_87 : In cX11_meetOn 87 (.iload_n 3) 1 88 := ⟨by decide +kernel, rfl⟩
theorem iX11_meetOn_88 : In cX11_meetOn 88 (.iadd) 1 89 := ⟨by decide +kernel, rfl⟩
theorem iX11_meetOn_89 : In cX11_meetOn 89 (.iload_n 2) 1 90 := ⟨by decide +kernel, rfl⟩
theorem iX11_meetOn_90 : In cX11_meetOn 90 (.iastore) 1 91 := ⟨by decide +kernel, rfl⟩
theorem iX11_meetOn_91 : In cX11_meetOn 91 (.aload_n 0) 1 92 := ⟨by decide +kernel, rfl⟩
theorem iX11_meetOn_92 : In cX11_meetOn 92 (.iload_n 1) 1 93 := ⟨by decide +kernel, rfl⟩
theorem iX11_meetOn_93 : In cX11_meetOn 93 (.iload_n 2) 1 94 := ⟨by decide +kernel, rfl⟩
theorem iX11_meetOn_94 : In cX11_meetOn 94 (.invokevirtual 177) 3 97 := ⟨by decide +kernel, rfl⟩
theorem iX11_meetOn_97 : In cX11_meetOn 97 (.aload_n 0) 1 98 := ⟨by decide +kernel, rfl⟩
theorem iX11_meetOn_98 : In cX11_meetOn 98 (.iload_n 1) 1 99 := ⟨by decide +kernel, rfl⟩
theorem iX11_meetOn_99 : In cX11_meetOn 99 (.iload 5) 2 101 := ⟨by decide +kernel, rfl⟩
theorem iX11_meetOn_101 : In cX11_meetOn 101 (.invokevirtual 177) 3 104 := ⟨by decide +kernel, rfl⟩
theorem iX11_meetOn_104 : In cX11_meetOn 104 (.aload_n 0) 1 105 := ⟨by decide +kernel, rfl⟩
theorem iX11_meetOn_105 : In cX11_meetOn 105 (.getfield 22) 3 108 := ⟨by decide +kernel, rfl⟩
theorem iX11_meetOn_108 : In cX11_meetOn 108 (.iload 4) 2 110 := ⟨by decide +kernel, rfl⟩
theorem iX11_meetOn_110 : In cX11_meetOn 110 (.bipush 17) 2 112 := ⟨by decide +kernel, rfl⟩
theorem iX11_meetOn_112 : In cX11_meetOn 112 (.iadd) 1 113 := ⟨by decide +kernel, rfl⟩
theorem iX11_meetOn_113 : In cX11_meetOn 113 (.dup2) 1 114 := ⟨by decide +kernel, rfl⟩
theorem iX11_meetOn_114 : In cX11_meetOn 114 (.iaload) 1 115 := ⟨by decide +kernel, rfl⟩
theorem iX11_meetOn_115 : In cX11_meetOn 115 (.iconst 1) 1 116 := ⟨by decide +kernel, rfl⟩
theorem iX11_meetOn_116 : In cX11_meetOn 116 (.iadd) 1 117 := ⟨by decide +kernel, rfl⟩
theorem iX11_meetOn_117 : In cX11_meetOn 117 (.iastore) 1 118 := ⟨by decide +kernel, rfl⟩
theorem iX11_meetOn_118 : In cX11_meetOn 118 (.iload 7) 2 120 := ⟨by decide +kernel, rfl⟩
theorem iX11_meetOn_120 : In cX11_meetOn 120 (.ireturn) 1 121 := ⟨by decide +kernel, rfl⟩
theorem iX11_meet_0 : In cX11_meet 0 (.aload_n 0) 1 1 := ⟨by decide +kernel, rfl⟩
theorem iX11_meet_1 : In cX11_meet 1 (.iload_n 1) 1 2 := ⟨by decide +kernel, rfl⟩
theorem iX11_meet_2 : In cX11_meet 2 (.invokevirtual 153) 3 5 := ⟨by decide +kernel, rfl⟩
theorem iX11_meet_5 : Jn cX11_meet 5 (.ifCond .eq 11) (11) 8 16 := ⟨by decide +kernel, rfl, by decide⟩
theorem iX11_meet_8 : In cX11_meet 8 (.aload_n 0) 1 9 := ⟨by decide +kernel, rfl⟩
theorem iX11_meet_9 : In cX11_meet 9 (.iload_n 2) 1 10 := ⟨by decide +kernel, rfl⟩
theorem iX11_meet_10 : In cX11_meet 10 (.invokevirtual 163) 3 13 := ⟨by decide +kernel, rfl⟩
theorem iX11_meet_13 : Jn cX11_meet 13 (.ifCond .ne 5) (5) 16 18 := ⟨by decide +kernel, rfl, by decide⟩
theorem iX11_meet_16 : In cX11_meet 16 (.iconst (-1)) 1 17 := ⟨by decide +kernel, rfl⟩
theorem iX11_meet_17 : In cX11_meet 17 (.ireturn) 1 18 := ⟨by decide +kernel, rfl⟩
theorem iX11_meet_18 : In cX11_meet 18 (.aload_n 0) 1 19 := ⟨by decide +kernel, rfl⟩
theorem iX11_meet_19 : In cX11_meet 19 (.getfield 22) 3 22 := ⟨by decide +kernel, rfl⟩
theorem iX11_meet_22 : In cX11_meet 22 (.iload_n 2) 1 23 := ⟨by decide +kernel, rfl⟩
theorem iX11_meet_23 : In cX11_meet 23 (.iaload) 1 24 := ⟨by decide +kernel, rfl⟩
theorem iX11_meet_24 : In cX11_meet 24 (.iload_n 1) 1 25 := ⟨by decide +kernel, rfl⟩
theorem iX11_meet_25 : Jn cX11_meet 25 (.if_icmp .ne 6) (6) 28 31 := ⟨by decide +kernel, rfl, by decide⟩
theorem iX11_meet_28 : In cX11_meet 28 (.bipush (-3)) 2 30 := ⟨by decide +kernel, rfl⟩
theorem iX11_meet_30 : In cX11_meet 30 (.ireturn) 1 31 := ⟨by decide +kernel, rfl⟩
theorem iX11_meet_31 : In cX11_meet 31 (.aload_n 0) 1 32 := ⟨by decide +kernel, rfl⟩
theorem iX11_meet_32 : In cX11_meet 32 (.invokevirtual 181) 3 35 := ⟨by decide +kernel, rfl⟩
theorem iX11_meet_35 : In cX11_meet 35 (.aload_n 0) 1 36 := ⟨by decide +kernel, rfl⟩
theorem iX11_meet_36 : In cX11_meet 36 (.iconst 0) 1 37 := ⟨by decide +kernel, rfl⟩
theorem iX11_meet_37 : In cX11_meet 37 (.iload_n 1) 1 38 := ⟨by decide +kernel, rfl⟩
theorem iX11_meet_38 : In cX11_meet 38 (.iload_n 2) 1 39 := ⟨by decide +kernel, rfl⟩
theorem iX11_meet_39 : In cX11_meet 39 (.invokevirtual 184) 3 42 := ⟨by decide +kernel, rfl⟩
theorem iX11_meet_42 : In cX11_meet 42 (.pop) 1 43 := ⟨by decide +kernel, rfl⟩
theorem iX11_meet_43 : In cX11_meet 43 (.aload_n 0) 1 44 := ⟨by decide +kernel, rfl⟩
theorem iX11_meet_44 : In cX11_meet 44 (.getfield 22) 3 47 := ⟨by decide +kernel, rfl⟩
theorem iX11_meet_47 : In cX11_meet 47 (.iload_n 2) 1 48 := ⟨by decide +kernel, rfl⟩
theorem iX11_meet_48 : In cX11_meet 48 (.iaload) 1 49 := ⟨by decide +kernel, rfl⟩
theorem iX11_meet_49 : In cX11_meet 49 (.ireturn) 1 50 := ⟨by decide +kernel, rfl⟩
theorem iX11_step_0 : In cX11_step 0 (.aload_n 0) 1 1 := ⟨by decide +kernel, rfl⟩
theorem iX11_step_1 : In cX11_step 1 (.iload_n 1) 1 2 := ⟨by decide +kernel, rfl⟩
theorem iX11_step_2 : In cX11_step 2 (.invokevirtual 153) 3 5 := ⟨by decide +kernel, rfl⟩
theorem iX11_step_5 : Jn cX11_step 5 (.ifCond .ne 5) (5) 8 10 := ⟨by decide +kernel, rfl, by decide⟩
theorem iX11_step_8 : In cX11_step 8 (.iconst (-1)) 1 9 := ⟨by decide +kernel, rfl⟩
theorem iX11_step_9 : In cX11_step 9 (.ireturn) 1 10 := ⟨by decide +kernel, rfl⟩
theorem iX11_step_10 : In cX11_step 10 (.aload_n 0) 1 11 := ⟨by decide +kernel, rfl⟩
theorem iX11_step_11 : In cX11_step 11 (.invokevirtual 181) 3 14 := ⟨by decide +kernel, rfl⟩
theorem iX11_step_14 : In cX11_step 14 (.aload_n 0) 1 15 := ⟨by decide +kernel, rfl⟩
theorem iX11_step_15 : In cX11_step 15 (.iconst 0) 1 16 := ⟨by decide +kernel, rfl⟩
theorem iX11_step_16 : In cX11_step 16 (.iload_n 1) 1 17 := ⟨by decide +kernel, rfl⟩
theorem iX11_step_17 : In cX11_step 17 (.invokevirtual 177) 3 20 := ⟨by decide +kernel, rfl⟩
theorem iX11_step_20 : In cX11_step 20 (.aload_n 0) 1 21 := ⟨by decide +kernel, rfl⟩
theorem iX11_step_21 : In cX11_step 21 (.getfield 22) 3 24 := ⟨by decide +kernel, rfl⟩
theorem iX11_step_24 : In cX11_step 24 (.bipush 11) 2 26 := ⟨by decide +kernel, rfl⟩
theorem iX11_step_26 : In cX11_step 26 (.iload_n 1) 1 27 := ⟨by decide +kernel, rfl⟩
theorem iX11_step_27 : In cX11_step 27 (.iadd) 1 28 := ⟨by decide +kernel, rfl⟩
theorem iX11_step_28 : In cX11_step 28 (.iaload) 1 29 := ⟨by decide +kernel, rfl⟩
theorem iX11_step_29 : In cX11_step 29 (.ireturn) 1 30 := ⟨by decide +kernel, rfl⟩
theorem iX11_salute_0 : In cX11_salute 0 (.aload_n 0) 1 1 := ⟨by decide +kernel, rfl⟩
theorem iX11_salute_1 : In cX11_salute 1 (.iload_n 1) 1 2 := ⟨by decide +kernel, rfl⟩
theorem iX11_salute_2 : In cX11_salute 2 (.invokevirtual 153) 3 5 := ⟨by decide +kernel, rfl⟩
theorem iX11_salute_5 : Jn cX11_salute 5 (.ifCond .ne 5) (5) 8 10 := ⟨by decide +kernel, rfl, by decide⟩
theorem iX11_salute_8 : In cX11_salute 8 (.iconst (-1)) 1 9 := ⟨by decide +kernel, rfl⟩
theorem iX11_salute_9 : In cX11_salute 9 (.ireturn) 1 10 := ⟨by decide +kernel, rfl⟩
theorem iX11_salute_10 : In cX11_salute 10 (.iload_n 2) 1 11 := ⟨by decide +kernel, rfl⟩
theorem iX11_salute_11 : In cX11_salute 11 (.i2l) 1 12 := ⟨by decide +kernel, rfl⟩
theorem iX11_salute_12 : In cX11_salute 12 (.lconst 1) 1 13 := ⟨by decide +kernel, rfl⟩
theorem iX11_salute_13 : In cX11_salute 13 (.ldc2_w 187) 3 16 := ⟨by decide +kernel, rfl⟩
theorem iX11_salute_16 : In cX11_salute 16 (.invokestatic 61) 3 19 := ⟨by decide +kernel, rfl⟩
theorem iX11_salute_19 : Jn cX11_salute 19 (.ifCond .ne 6) (6) 22 25 := ⟨by decide +kernel, rfl, by decide⟩
theorem iX11_salute_22 : In cX11_salute 22 (.bipush (-2)) 2 24 := ⟨by decide +kernel, rfl⟩
theorem iX11_salute_24 : In cX11_salute 24 (.ireturn) 1 25 := ⟨by decide +kernel, rfl⟩
theorem iX11_salute_25 : In cX11_salute 25 (.aload_n 0) 1 26 := ⟨by decide +kernel, rfl⟩
theorem iX11_salute_26 : In cX11_salute 26 (.invokevirtual 181) 3 29 := ⟨by decide +kernel, rfl⟩
theorem iX11_salute_29 : In cX11_salute 29 (.aload_n 0) 1 30 := ⟨by decide +kernel, rfl⟩
theorem iX11_salute_30 : In cX11_salute 30 (.iconst 0) 1 31 := ⟨by decide +kernel, rfl⟩
theorem iX11_salute_31 : In cX11_salute 31 (.iload_n 1) 1 32 := ⟨by decide +kernel, rfl⟩
theorem iX11_salute_32 : In cX11_salute 32 (.iload_n 2) 1 33 := ⟨by decide +kernel, rfl⟩
theorem iX11_salute_33 : In cX11_salute 33 (.invokevirtual 174) 3 36 := ⟨by decide +kernel, rfl⟩
theorem iX11_salute_36 : In cX11_salute 36 (.aload_n 0) 1 37 := ⟨by decide +kernel, rfl⟩
theorem iX11_salute_37 : In cX11_salute 37 (.getfield 22) 3 40 := ⟨by decide +kernel, rfl⟩
theorem iX11_salute_40 : In cX11_salute 40 (.iconst 5) 1 41 := ⟨by decide +kernel, rfl⟩
theorem iX11_salute_41 : In cX11_salute 41 (.iload_n 1) 1 42 := ⟨by decide +kernel, rfl⟩
theorem iX11_salute_42 : In cX11_salute 42 (.iadd) 1 43 := ⟨by decide +kernel, rfl⟩
theorem iX11_salute_43 : In cX11_salute 43 (.iaload) 1 44 := ⟨by decide +kernel, rfl⟩
theorem iX11_salute_44 : In cX11_salute 44 (.ireturn) 1 45 := ⟨by decide +kernel, rfl⟩
theorem iX11_undo_0 : In cX11_undo 0 (.aload_n 0) 1 1 := ⟨by decide +kernel, rfl⟩
theorem iX11_undo_1 : In cX11_undo 1 (.getfield 105) 3 4 := ⟨by decide +kernel, rfl⟩
theorem iX11_undo_4 : Jn cX11_undo 4 (.ifCond .ne 6) (6) 7 10 := ⟨by decide +kernel, rfl, by decide⟩
theorem iX11_undo_7 : In cX11_undo 7 (.bipush (-3)) 2 9 := ⟨by decide +kernel, rfl⟩
theorem iX11_undo_9 : In cX11_undo 9 (.ireturn) 1 10 := ⟨by decide +kernel, rfl⟩
theorem iX11_undo_10 : In cX11_undo 10 (.aload_n 0) 1 11 := ⟨by decide +kernel, rfl⟩
theorem iX11_undo_11 : In cX11_undo 11 (.dup) 1 12 := ⟨by decide +kernel, rfl⟩
theorem iX11_undo_12 : In cX11_undo 12 (.getfield 105) 3 15 := ⟨by decide +kernel, rfl⟩
theorem iX11_undo_15 : In cX11_undo 15 (.iconst 1) 1 16 := ⟨by decide +kernel, rfl⟩
theorem iX11_undo_16 : In cX11_undo 16 (.isub) 1 17 := ⟨by decide +kernel, rfl⟩
theorem iX11_undo_17 : In cX11_undo 17 (.putfield 105) 3 20 := ⟨by decide +kernel, rfl⟩
theorem iX11_undo_20 : In cX11_undo 20 (.aload_n 0) 1 21 := ⟨by decide +kernel, rfl⟩
theorem iX11_undo_21 : In cX11_undo 21 (.aload_n 0) 1 22 := ⟨by decide +kernel, rfl⟩
theorem iX11_undo_22 : In cX11_undo 22 (.getfield 171) 3 25 := ⟨by decide +kernel, rfl⟩
theorem iX11_undo_25 : In cX11_undo 25 (.bipush 13) 2 27 := ⟨by decide +kernel, rfl⟩
theorem iX11_undo_27 : In cX11_undo 27 (.iadd) 1 28 := ⟨by decide +kernel, rfl⟩
theorem iX11_undo_28 : In cX11_undo 28 (.bipush 14) 2 30 := ⟨by decide +kernel, rfl⟩
theorem iX11_undo_30 : In cX11_undo 30 (.irem) 1 31 := ⟨by decide +kernel, rfl⟩
theorem iX11_undo_31 : In cX11_undo 31 (.putfield 171) 3 34 := ⟨by decide +kernel, rfl⟩
theorem iX11_undo_34 : In cX11_undo 34 (.iconst 0) 1 35 := ⟨by decide +kernel, rfl⟩
theorem iX11_undo_35 : In cX11_undo 35 (.istore_n 1) 1 36 := ⟨by decide +kernel, rfl⟩
theorem iX11_undo_36 : In cX11_undo 36 (.iload_n 1) 1 37 := ⟨by decide +kernel, rfl⟩
theorem iX11_undo_37 : In cX11_undo 37 (.bipush 18) 2 39 := ⟨by decide +kernel, rfl⟩
theorem iX11_undo_39 : Jn cX11_undo 39 (.if_icmp .ge 29) (29) 42 68 := ⟨by decide +kernel, rfl, by decide⟩
theorem iX11_undo_42 : In cX11_undo 42 (.aload_n 0) 1 43 := ⟨by decide +kernel, rfl⟩
theorem iX11_undo_43 : In cX11_undo 43 (.getfield 22) 3 46 := ⟨by decide +kernel, rfl⟩
theorem iX11_undo_46 : In cX11_undo 46 (.iload_n 1) 1 47 := ⟨by decide +kernel, rfl⟩
theorem iX11_undo_47 : In cX11_undo 47 (.aload_n 0) 1 48 := ⟨by decide +kernel, rfl⟩
theorem iX11_undo_48 : In cX11_undo 48 (.getfield 34) 3 51 := ⟨by decide +kernel, rfl⟩
theorem iX11_undo_51 : In cX11_undo 51 (.bipush 18) 2 53 := ⟨by decide +kernel, rfl⟩
theorem iX11_undo_53 : In cX11_undo 53 (.aload_n 0) 1 54 := ⟨by decide +kernel, rfl⟩
theorem iX11_undo_54 : In cX11_undo 54 (.getfield 171) 3 57 := ⟨by decide +kernel, rfl⟩
theorem iX11_undo_57 : In cX11_undo 57 (.imul) 1 58 := ⟨by decide +kernel, rfl⟩
theorem iX11_undo_58 : In cX11_undo 58 (.iload_n 1) 1 59 := ⟨by decide +kernel, rfl⟩
theorem iX11_undo_59 : In cX11_undo 59 (.iadd) 1 60 := ⟨by decide +kernel, rfl⟩
theorem iX11_undo_60 : In cX11_undo 60 (.iaload) 1 61 := ⟨by decide +kernel, rfl⟩
theorem iX11_undo_61 : In cX11_undo 61 (.iastore) 1 62 := ⟨by decide +kernel, rfl⟩
theorem iX11_undo_62 : In cX11_undo 62 (.iinc 1 1) 3 65 := ⟨by decide +kernel, rfl⟩
theorem iX11_undo_65 : Jn cX11_undo 65 (.goto (-29)) (-29) 68 36 := ⟨by decide +kernel, rfl, by decide⟩
theorem iX11_undo_68 : In cX11_undo 68 (.aload_n 0) 1 69 := ⟨by decide +kernel, rfl⟩
theorem iX11_undo_69 : In cX11_undo 69 (.getfield 105) 3 72 := ⟨by decide +kernel, rfl⟩
theorem iX11_undo_72 : In cX11_undo 72 (.ireturn) 1 73 := ⟨by decide +kernel, rfl⟩
theorem iX11_sumsTo_0 : In cX11_sumsTo 0 (.iconst 0) 1 1 := ⟨by decide +kernel, rfl⟩
theorem iX11_sumsTo_1 : In cX11_sumsTo 1 (.istore_n 3) 1 2 := ⟨by decide +kernel, rfl⟩
theorem iX11_sumsTo_2 : In cX11_sumsTo 2 (.iload_n 3) 1 3 := ⟨by decide +kernel, rfl⟩
theorem iX11_sumsTo_3 : In cX11_sumsTo 3 (.aload_n 0) 1 4 := ⟨by decide +kernel, rfl⟩
theorem iX11_sumsTo_4 : In cX11_sumsTo 4 (.getfield 99) 3 7 := ⟨by decide +kernel, rfl⟩
theorem iX11_sumsTo_7 : Jn cX11_sumsTo 7 (.if_icmp .ge 27) (27) 10 34 := ⟨by decide +kernel, rfl, by decide⟩
theorem iX11_sumsTo_10 : In cX11_sumsTo 10 (.aload_n 0) 1 11 := ⟨by decide +kernel, rfl⟩
theorem iX11_sumsTo_11 : In cX11_sumsTo 11 (.getfield 37) 3 14 := ⟨by decide +kernel, rfl⟩
theorem iX11_sumsTo_14 : In cX11_sumsTo 14 (.iload_n 3) 1 15 := ⟨by decide +kernel, rfl⟩
theorem iX11_sumsTo_15 : In cX11_sumsTo 15 (.iload_n 3) 1 16 := ⟨by decide +kernel, rfl⟩
theorem iX11_sumsTo_16 : In cX11_sumsTo 16 (.iload_n 1) 1 17 := ⟨by decide +kernel, rfl⟩
theorem iX11_sumsTo_17 : Jn cX11_sumsTo 17 (.if_icmp .ne 7) (7) 20 24 := ⟨by decide +kernel, rfl, by decide⟩
theorem iX11_sumsTo_20 : In cX11_sumsTo 20 (.iconst 0) 1 21 := ⟨by decide +kernel, rfl⟩
theorem iX11_sumsTo_21 : Jn cX11_sumsTo 21 (.goto 6) (6) 24 27 := ⟨by decide +kernel, rfl, by decide⟩
theorem iX11_sumsTo_24 : In cX11_sumsTo 24 (.sipush 9999) 3 27 := ⟨by decide +kernel, rfl⟩
theorem iX11_sumsTo_27 : In cX11_sumsTo 27 (.iastore) 1 28 := ⟨by decide +kernel, rfl⟩
theorem iX11_sumsTo_28 : In cX11_sumsTo 28 (.iinc 3 1) 3 31 := ⟨by decide +kernel, rfl⟩
theorem iX11_sumsTo_31 : Jn cX11_sumsTo 31 (.goto (-29)) (-29) 34 2 := ⟨by decide +kernel, rfl, by decide⟩
theorem iX11_sumsTo_34 : In cX11_sumsTo 34 (.iconst 0) 1 35 := ⟨by decide +kernel, rfl⟩
theorem iX11_sumsTo_35 : In cX11_sumsTo 35 (.istore_n 3) 1 36 := ⟨by decide +kernel, rfl⟩
theorem iX11_sumsTo_36 : In cX11_sumsTo 36 (.iload_n 3) 1 37 := ⟨by decide +kernel, rfl⟩
theorem iX11_sumsTo_37 : In cX11_sumsTo 37 (.aload_n 0) 1 38 := ⟨by decide +kernel, rfl⟩
theorem iX11_sumsTo_38 : In cX11_sumsTo 38 (.getfield 99) 3 41 := ⟨by decide +kernel, rfl⟩
theorem iX11_sumsTo_41 : Jn cX11_sumsTo 41 (.if_icmp .ge 138) (138) 44 179 := ⟨by decide +kernel, rfl, by decide⟩
theorem iX11_sumsTo_44 : In cX11_sumsTo 44 (.iconst 0) 1 45 := ⟨by decide +kernel, rfl⟩
theorem iX11_sumsTo_45 : In cX11_sumsTo 45 (.istore 4) 2 47 := ⟨by decide +kernel, rfl⟩
theorem iX11_sumsTo_47 : In cX11_sumsTo 47 (.iload 4) 2 49 := ⟨by decide +kernel, rfl⟩
theorem iX11_sumsTo_49 : In cX11_sumsTo 49 (.aload_n 0) 1 50 := ⟨by decide +kernel, rfl⟩
theorem iX11_sumsTo_50 : In cX11_sumsTo 50 (.getfield 99) 3 53 := ⟨by decide +kernel, rfl⟩
theorem iX11_sumsTo_53 : Jn cX11_sumsTo 53 (.if_icmp .ge 120) (120) 56 173 := ⟨by decide +kernel, rfl, by decide⟩
theorem iX11_sumsTo_56 : In cX11_sumsTo 56 (.iconst 0) 1 57 := ⟨by decide +kernel, rfl⟩
theorem iX11_sumsTo_57 : In cX11_sumsTo 57 (.istore 5) 2 59 := ⟨by decide +kernel, rfl⟩
end
section
theorem iX11_sumsTo_59 : In cX11_sumsTo 59 (.iload 5) 2 61 := ⟨by decide +kernel, rfl⟩
theorem iX11_sumsTo_61 : In cX11_sumsTo 61 (.aload_n 0) 1 62 := ⟨by decide +kernel, rfl⟩
theorem iX11_sumsTo_62 : In cX11_sumsTo 62 (.getfield 99) 3 65 := ⟨by decide +kernel, rfl⟩
theorem iX11_sumsTo_65 : Jn cX11_sumsTo 65 (.if_icmp .ge 102) (102) 68 167 := ⟨by decide +kernel, rfl, by decide⟩
theorem iX11_sumsTo_68 : In cX11_sumsTo 68 (.iload 4) 2 70 := ⟨by decide +kernel, rfl⟩
theorem iX11_sumsTo_70 : In cX11_sumsTo 70 (.iload 5) 2 72 := ⟨by decide +kernel, rfl⟩
theorem iX11_sumsTo_72 : Jn cX11_sumsTo 72 (.if_icmp .eq 89) (89) 75 161 := ⟨by decide +kernel, rfl, by decide⟩
theorem iX11_sumsTo_75 : In cX11_sumsTo 75 (.iload 4) 2 77 := ⟨by decide +kernel, rfl⟩
theorem iX11_sumsTo_77 : In cX11_sumsTo 77 (.aload_n 0) 1 78 := ⟨by decide +kernel, rfl⟩
theorem iX11_sumsTo_78 : In cX11_sumsTo 78 (.getfield 22) 3 81 := ⟨by decide +kernel, rfl⟩
theorem iX11_sumsTo_81 : In cX11_sumsTo 81 (.iload_n 2) 1 82 := ⟨by decide +kernel, rfl⟩
theorem iX11_sumsTo_82 : In cX11_sumsTo 82 (.iaload) 1 83 := ⟨by decide +kernel, rfl⟩
theorem iX11_sumsTo_83 : Jn cX11_sumsTo 83 (.if_icmp .eq 78) (78) 86 161 := ⟨by decide +kernel, rfl, by decide⟩
theorem iX11_sumsTo_86 : In cX11_sumsTo 86 (.iload 5) 2 88 := ⟨by decide +kernel, rfl⟩
theorem iX11_sumsTo_88 : In cX11_sumsTo 88 (.aload_n 0) 1 89 := ⟨by decide +kernel, rfl⟩
theorem iX11_sumsTo_89 : In cX11_sumsTo 89 (.getfield 22) 3 92 := ⟨by decide +kernel, rfl⟩
theorem iX11_sumsTo_92 : In cX11_sumsTo 92 (.iload_n 2) 1 93 := ⟨by decide +kernel, rfl⟩
theorem iX11_sumsTo_93 : In cX11_sumsTo 93 (.iaload) 1 94 := ⟨by decide +kernel, rfl⟩
theorem iX11_sumsTo_94 : Jn cX11_sumsTo 94 (.if_icmp .eq 67) (67) 97 161 := ⟨by decide +kernel, rfl, by decide⟩
theorem iX11_sumsTo_97 : In cX11_sumsTo 97 (.aload_n 0) 1 98 := ⟨by decide +kernel, rfl⟩
theorem iX11_sumsTo_98 : In cX11_sumsTo 98 (.getfield 37) 3 101 := ⟨by decide +kernel, rfl⟩
theorem iX11_sumsTo_101 : In cX11_sumsTo 101 (.iload 5) 2 103 := ⟨by decide +kernel, rfl⟩
theorem iX11_sumsTo_103 : In cX11_sumsTo 103 (.iaload) 1 104 := ⟨by decide +kernel, rfl⟩
theorem iX11_sumsTo_104 : In cX11_sumsTo 104 (.sipush 9999) 3 107 := ⟨by decide +kernel, rfl⟩
theorem iX11_sumsTo_107 : Jn cX11_sumsTo 107 (.if_icmp .ge 54) (54) 110 161 := ⟨by decide +kernel, rfl, by decide⟩
theorem iX11_sumsTo_110 : In cX11_sumsTo 110 (.aload_n 0) 1 111 := ⟨by decide +kernel, rfl⟩
theorem iX11_sumsTo_111 : In cX11_sumsTo 111 (.getfield 37) 3 114 := ⟨by decide +kernel, rfl⟩
theorem iX11_sumsTo_114 : In cX11_sumsTo 114 (.iload 5) 2 116 := ⟨by decide +kernel, rfl⟩
theorem iX11_sumsTo_116 : In cX11_sumsTo 116 (.iaload) 1 117 := ⟨by decide +kernel, rfl⟩
theorem iX11_sumsTo_117 : In cX11_sumsTo 117 (.aload_n 0) 1 118 := ⟨by decide +kernel, rfl⟩
theorem iX11_sumsTo_118 : In cX11_sumsTo 118 (.iconst 0) 1 119 := ⟨by decide +kernel, rfl⟩
theorem iX11_sumsTo_119 : In cX11_sumsTo 119 (.iload 5) 2 121 := ⟨by decide +kernel, rfl⟩
theorem iX11_sumsTo_121 : In cX11_sumsTo 121 (.iload 4) 2 123 := ⟨by decide +kernel, rfl⟩
theorem iX11_sumsTo_123 : In cX11_sumsTo 123 (.iload_n 2) 1 124 := ⟨by decide +kernel, rfl⟩
theorem iX11_sumsTo_124 : In cX11_sumsTo 124 (.invokevirtual 168) 3 127 := ⟨by decide +kernel, rfl⟩
theorem iX11_sumsTo_127 : In cX11_sumsTo 127 (.iadd) 1 128 := ⟨by decide +kernel, rfl⟩
theorem iX11_sumsTo_128 : In cX11_sumsTo 128 (.istore 6) 2 130 := ⟨by decide +kernel, rfl⟩
theorem iX11_sumsTo_130 : In cX11_sumsTo 130 (.aload_n 0) 1 131 := ⟨by decide +kernel, rfl⟩
theorem iX11_sumsTo_131 : In cX11_sumsTo 131 (.getfield 37) 3 134 := ⟨by decide +kernel, rfl⟩
theorem iX11_sumsTo_134 : In cX11_sumsTo 134 (.iload 4) 2 136 := ⟨by decide +kernel, rfl⟩
theorem iX11_sumsTo_136 : In cX11_sumsTo 136 (.iload 6) 2 138 := ⟨by decide +kernel, rfl⟩
theorem iX11_sumsTo_138 : In cX11_sumsTo 138 (.aload_n 0) 1 139 := ⟨by decide +kernel, rfl⟩
theorem iX11_sumsTo_139 : In cX11_sumsTo 139 (.getfield 37) 3 142 := ⟨by decide +kernel, rfl⟩
theorem iX11_sumsTo_142 : In cX11_sumsTo 142 (.iload 4) 2 144 := ⟨by decide +kernel, rfl⟩
theorem iX11_sumsTo_144 : In cX11_sumsTo 144 (.iaload) 1 145 := ⟨by decide +kernel, rfl⟩
theorem iX11_sumsTo_145 : Jn cX11_sumsTo 145 (.if_icmp .ge 8) (8) 148 153 := ⟨by decide +kernel, rfl, by decide⟩
theorem iX11_sumsTo_148 : In cX11_sumsTo 148 (.iload 6) 2 150 := ⟨by decide +kernel, rfl⟩
theorem iX11_sumsTo_150 : Jn cX11_sumsTo 150 (.goto 10) (10) 153 160 := ⟨by decide +kernel, rfl, by decide⟩
theorem iX11_sumsTo_153 : In cX11_sumsTo 153 (.aload_n 0) 1 154 := ⟨by decide +kernel, rfl⟩
theorem iX11_sumsTo_154 : In cX11_sumsTo 154 (.getfield 37) 3 157 := ⟨by decide +kernel, rfl⟩
theorem iX11_sumsTo_157 : In cX11_sumsTo 157 (.iload 4) 2 159 := ⟨by decide +kernel, rfl⟩
theorem iX11_sumsTo_159 : In cX11_sumsTo 159 (.iaload) 1 160 := ⟨by decide +kernel, rfl⟩
theorem iX11_sumsTo_160 : In cX11_sumsTo 160 (.iastore) 1 161 := ⟨by decide +kernel, rfl⟩
theorem iX11_sumsTo_161 : In cX11_sumsTo 161 (.iinc 5 1) 3 164 := ⟨by decide +kernel, rfl⟩
theorem iX11_sumsTo_164 : Jn cX11_sumsTo 164 (.goto (-105)) (-105) 167 59 := ⟨by decide +kernel, rfl, by decide⟩
theorem iX11_sumsTo_167 : In cX11_sumsTo 167 (.iinc 4 1) 3 170 := ⟨by decide +kernel, rfl⟩
theorem iX11_sumsTo_170 : Jn cX11_sumsTo 170 (.goto (-123)) (-123) 173 47 := ⟨by decide +kernel, rfl, by decide⟩
theorem iX11_sumsTo_173 : In cX11_sumsTo 173 (.iinc 3 1) 3 176 := ⟨by decide +kernel, rfl⟩
theorem iX11_sumsTo_176 : Jn cX11_sumsTo 176 (.goto (-140)) (-140) 179 36 := ⟨by decide +kernel, rfl, by decide⟩
theorem iX11_sumsTo_179 : In cX11_sumsTo 179 (.return_) 1 180 := ⟨by decide +kernel, rfl⟩
theorem iX11_chain_0 : In cX11_chain 0 (.aload_n 0) 1 1 := ⟨by decide +kernel, rfl⟩
theorem iX11_chain_1 : In cX11_chain 1 (.iload_n 1) 1 2 := ⟨by decide +kernel, rfl⟩
theorem iX11_chain_2 : In cX11_chain 2 (.invokevirtual 153) 3 5 := ⟨by decide +kernel, rfl⟩
theorem iX11_chain_5 : Jn cX11_chain 5 (.ifCond .eq 11) (11) 8 16 := ⟨by decide +kernel, rfl, by decide⟩
theorem iX11_chain_8 : In cX11_chain 8 (.aload_n 0) 1 9 := ⟨by decide +kernel, rfl⟩
theorem iX11_chain_9 : In cX11_chain 9 (.iload_n 2) 1 10 := ⟨by decide +kernel, rfl⟩
theorem iX11_chain_10 : In cX11_chain 10 (.invokevirtual 163) 3 13 := ⟨by decide +kernel, rfl⟩
theorem iX11_chain_13 : Jn cX11_chain 13 (.ifCond .ne 5) (5) 16 18 := ⟨by decide +kernel, rfl, by decide⟩
theorem iX11_chain_16 : In cX11_chain 16 (.iconst (-1)) 1 17 := ⟨by decide +kernel, rfl⟩
theorem iX11_chain_17 : In cX11_chain 17 (.ireturn) 1 18 := ⟨by decide +kernel, rfl⟩
theorem iX11_chain_18 : In cX11_chain 18 (.iload_n 3) 1 19 := ⟨by decide +kernel, rfl⟩
theorem iX11_chain_19 : In cX11_chain 19 (.i2l) 1 20 := ⟨by decide +kernel, rfl⟩
theorem iX11_chain_20 : In cX11_chain 20 (.lconst 0) 1 21 := ⟨by decide +kernel, rfl⟩
theorem iX11_chain_21 : In cX11_chain 21 (.lconst 1) 1 22 := ⟨by decide +kernel, rfl⟩
theorem iX11_chain_22 : In cX11_chain 22 (.invokestatic 61) 3 25 := ⟨by decide +kernel, rfl⟩
theorem iX11_chain_25 : Jn cX11_chain 25 (.ifCond .ne 6) (6) 28 31 := ⟨by decide +kernel, rfl, by decide⟩
theorem iX11_chain_28 : In cX11_chain 28 (.bipush (-2)) 2 30 := ⟨by decide +kernel, rfl⟩
theorem iX11_chain_30 : In cX11_chain 30 (.ireturn) 1 31 := ⟨by decide +kernel, rfl⟩
theorem iX11_chain_31 : In cX11_chain 31 (.aload_n 0) 1 32 := ⟨by decide +kernel, rfl⟩
theorem iX11_chain_32 : In cX11_chain 32 (.getfield 22) 3 35 := ⟨by decide +kernel, rfl⟩
theorem iX11_chain_35 : In cX11_chain 35 (.iload_n 2) 1 36 := ⟨by decide +kernel, rfl⟩
theorem iX11_chain_36 : In cX11_chain 36 (.iaload) 1 37 := ⟨by decide +kernel, rfl⟩
theorem iX11_chain_37 : In cX11_chain 37 (.iload_n 1) 1 38 := ⟨by decide +kernel, rfl⟩
theorem iX11_chain_38 : Jn cX11_chain 38 (.if_icmp .ne 14) (14) 41 52 := ⟨by decide +kernel, rfl, by decide⟩
theorem iX11_chain_41 : In cX11_chain 41 (.iload_n 3) 1 42 := ⟨by decide +kernel, rfl⟩
theorem iX11_chain_42 : Jn cX11_chain 42 (.ifCond .ne 7) (7) 45 49 := ⟨by decide +kernel, rfl, by decide⟩
theorem iX11_chain_45 : In cX11_chain 45 (.iconst 0) 1 46 := ⟨by decide +kernel, rfl⟩
theorem iX11_chain_46 : Jn cX11_chain 46 (.goto 5) (5) 49 51 := ⟨by decide +kernel, rfl, by decide⟩
theorem iX11_chain_49 : In cX11_chain 49 (.bipush (-9)) 2 51 := ⟨by decide +kernel, rfl⟩
theorem iX11_chain_51 : In cX11_chain 51 (.ireturn) 1 52 := ⟨by decide +kernel, rfl⟩
theorem iX11_chain_52 : In cX11_chain 52 (.aload_n 0) 1 53 := ⟨by decide +kernel, rfl⟩
theorem iX11_chain_53 : In cX11_chain 53 (.iload_n 1) 1 54 := ⟨by decide +kernel, rfl⟩
theorem iX11_chain_54 : In cX11_chain 54 (.iload_n 2) 1 55 := ⟨by decide +kernel, rfl⟩
theorem iX11_chain_55 : In cX11_chain 55 (.invokevirtual 189) 3 58 := ⟨by decide +kernel, rfl⟩
theorem iX11_chain_58 : In cX11_chain 58 (.sipush 9999) 3 61 := ⟨by decide +kernel, rfl⟩
theorem iX11_chain_61 : In cX11_chain 61 (.istore 4) 2 63 := ⟨by decide +kernel, rfl⟩
theorem iX11_chain_63 : In cX11_chain 63 (.bipush (-9)) 2 65 := ⟨by decide +kernel, rfl⟩
theorem iX11_chain_65 : In cX11_chain 65 (.istore 5) 2 67 := ⟨by decide +kernel, rfl⟩
theorem iX11_chain_67 : In cX11_chain 67 (.iconst 0) 1 68 := ⟨by decide +kernel, rfl⟩
theorem iX11_chain_68 : In cX11_chain 68 (.istore 6) 2 70 := ⟨by decide +kernel, rfl⟩
theorem iX11_chain_70 : In cX11_chain 70 (.iload 6) 2 72 := ⟨by decide +kernel, rfl⟩
theorem iX11_chain_72 : In cX11_chain 72 (.aload_n 0) 1 73 := ⟨by decide +kernel, rfl⟩
theorem iX11_chain_73 : In cX11_chain 73 (.getfield 99) 3 76 := ⟨by decide +kernel, rfl⟩
theorem iX11_chain_76 : Jn cX11_chain 76 (.if_icmp .ge 95) (95) 79 171 := ⟨by decide +kernel, rfl, by decide⟩
theorem iX11_chain_79 : In cX11_chain 79 (.iload 6) 2 81 := ⟨by decide +kernel, rfl⟩
theorem iX11_chain_81 : In cX11_chain 81 (.aload_n 0) 1 82 := ⟨by decide +kernel, rfl⟩
theorem iX11_chain_82 : In cX11_chain 82 (.getfield 22) 3 85 := ⟨by decide +kernel, rfl⟩
theorem iX11_chain_85 : In cX11_chain 85 (.iload_n 2) 1 86 := ⟨by decide +kernel, rfl⟩
theorem iX11_chain_86 : In cX11_chain 86 (.iaload) 1 87 := ⟨by decide +kernel, rfl⟩
theorem iX11_chain_87 : Jn cX11_chain 87 (.if_icmp .eq 16) (16) 90 103 := ⟨by decide +kernel, rfl, by decide⟩
theorem iX11_chain_90 : In cX11_chain 90 (.aload_n 0) 1 91 := ⟨by decide +kernel, rfl⟩
theorem iX11_chain_91 : In cX11_chain 91 (.getfield 37) 3 94 := ⟨by decide +kernel, rfl⟩
theorem iX11_chain_94 : In cX11_chain 94 (.iload 6) 2 96 := ⟨by decide +kernel, rfl⟩
theorem iX11_chain_96 : In cX11_chain 96 (.iaload) 1 97 := ⟨by decide +kernel, rfl⟩
theorem iX11_chain_97 : In cX11_chain 97 (.sipush 9999) 3 100 := ⟨by decide +kernel, rfl⟩
theorem iX11_chain_100 : Jn cX11_chain 100 (.if_icmp .ne 9) (9) 103 109 := ⟨by decide +kernel, rfl, by decide⟩
theorem iX11_chain_103 : In cX11_chain 103 (.sipush 9999) 3 106 := ⟨by decide +kernel, rfl⟩
theorem iX11_chain_106 : Jn cX11_chain 106 (.goto 25) (25) 109 131 := ⟨by decide +kernel, rfl, by decide⟩
theorem iX11_chain_109 : In cX11_chain 109 (.aload_n 0) 1 110 := ⟨by decide +kernel, rfl⟩
theorem iX11_chain_110 : In cX11_chain 110 (.getfield 37) 3 113 := ⟨by decide +kernel, rfl⟩
theorem iX11_chain_113 : In cX11_chain 113 (.iload 6) 2 115 := ⟨by decide +kernel, rfl⟩
theorem iX11_chain_115 : In cX11_chain 115 (.iaload) 1 116 := ⟨by decide +kernel, rfl⟩
theorem iX11_chain_116 : In cX11_chain 116 (.aload_n 0) 1 117 := ⟨by decide +kernel, rfl⟩
theorem iX11_chain_117 : In cX11_chain 117 (.iconst 0) 1 118 := ⟨by decide +kernel, rfl⟩
theorem iX11_chain_118 : In cX11_chain 118 (.iload 6) 2 120 := ⟨by decide +kernel, rfl⟩
theorem iX11_chain_120 : In cX11_chain 120 (.aload_n 0) 1 121 := ⟨by decide +kernel, rfl⟩
theorem iX11_chain_121 : In cX11_chain 121 (.getfield 22) 3 124 := ⟨by decide +kernel, rfl⟩
theorem iX11_chain_124 : In cX11_chain 124 (.iload_n 2) 1 125 := ⟨by decide +kernel, rfl⟩
theorem iX11_chain_125 : In cX11_chain 125 (.iaload) 1 126 := ⟨by decide +kernel, rfl⟩
theorem iX11_chain_126 : In cX11_chain 126 (.iload_n 2) 1 127 := ⟨by decide +kernel, rfl⟩
theorem iX11_chain_127 : In cX11_chain 127 (.invokevirtual 168) 3 130 := ⟨by decide +kernel, rfl⟩
theorem iX11_chain_130 : In cX11_chain 130 (.iadd) 1 131 := ⟨by decide +kernel, rfl⟩
theorem iX11_chain_131 : In cX11_chain 131 (.istore 7) 2 133 := ⟨by decide +kernel, rfl⟩
theorem iX11_chain_133 : In cX11_chain 133 (.iload 7) 2 135 := ⟨by decide +kernel, rfl⟩
theorem iX11_chain_135 : In cX11_chain 135 (.iload 4) 2 137 := ⟨by decide +kernel, rfl⟩
theorem iX11_chain_137 : Jn cX11_chain 137 (.if_icmp .ge 8) (8) 140 145 := ⟨by decide +kernel, rfl, by decide⟩
theorem iX11_chain_140 : In cX11_chain 140 (.iload 6) 2 142 := ⟨by decide +kernel, rfl⟩
theorem iX11_chain_142 : Jn cX11_chain 142 (.goto 5) (5) 145 147 := ⟨by decide +kernel, rfl, by decide⟩
theorem iX11_chain_145 : In cX11_chain 145 (.iload 5) 2 147 := ⟨by decide +kernel, rfl⟩
theorem iX11_chain_147 : In cX11_chain 147 (.istore 5) 2 149 := ⟨by decide +kernel, rfl⟩
theorem iX11_chain_149 : In cX11_chain 149 (.iload 7) 2 151 := ⟨by decide +kernel, rfl⟩
theorem iX11_chain_151 : In cX11_chain 151 (.iload 4) 2 153 := ⟨by decide +kernel, rfl⟩
theorem iX11_chain_153 : Jn cX11_chain 153 (.if_icmp .ge 8) (8) 156 161 := ⟨by decide +kernel, rfl, by decide⟩
theorem iX11_chain_156 : In cX11_chain 156 (.iload 7) 2 158 := ⟨by decide +kernel, rfl⟩
theorem iX11_chain_158 : Jn cX11_chain 158 (.goto 5) (5) 161 163 := ⟨by decide +kernel, rfl, by decide⟩
theorem iX11_chain_161 : In cX11_chain 161 (.iload 4) 2 163 := ⟨by decide +kernel, rfl⟩
theorem iX11_chain_163 : In cX11_chain 163 (.istore 4) 2 165 := ⟨by decide +kernel, rfl⟩
theorem iX11_chain_165 : In cX11_chain 165 (.iinc 6 1) 3 168 := ⟨by decide +kernel, rfl⟩
theorem iX11_chain_168 : Jn cX11_chain 168 (.goto (-98)) (-98) 171 70 := ⟨by decide +kernel, rfl, by decide⟩
theorem iX11_chain_171 : In cX11_chain 171 (.iload_n 3) 1 172 := ⟨by decide +kernel, rfl⟩
theorem iX11_chain_172 : Jn cX11_chain 172 (.ifCond .ne 8) (8) 175 180 := ⟨by decide +kernel, rfl, by decide⟩
theorem iX11_chain_175 : In cX11_chain 175 (.iload 4) 2 177 := ⟨by decide +kernel, rfl⟩
theorem iX11_chain_177 : Jn cX11_chain 177 (.goto 5) (5) 180 182 := ⟨by decide +kernel, rfl, by decide⟩
theorem iX11_chain_180 : In cX11_chain 180 (.iload 5) 2 182 := ⟨by decide +kernel, rfl⟩
theorem iX11_chain_182 : In cX11_chain 182 (.ireturn) 1 183 := ⟨by decide +kernel, rfl⟩
theorem iX11_nextOrder_0 : In cX11_nextOrder 0 (.aload_n 0) 1 1 := ⟨by decide +kernel, rfl⟩
theorem iX11_nextOrder_1 : In cX11_nextOrder 1 (.getfield 99) 3 4 := ⟨by decide +kernel, rfl⟩
theorem iX11_nextOrder_4 : In cX11_nextOrder 4 (.iconst 2) 1 5 := ⟨by decide +kernel, rfl⟩
theorem iX11_nextOrder_5 : In cX11_nextOrder 5 (.isub) 1 6 := ⟨by decide +kernel, rfl⟩
theorem iX11_nextOrder_6 : In cX11_nextOrder 6 (.istore_n 1) 1 7 := ⟨by decide +kernel, rfl⟩
theorem iX11_nextOrder_7 : In cX11_nextOrder 7 (.iload_n 1) 1 8 := ⟨by decide +kernel, rfl⟩
theorem iX11_nextOrder_8 : Jn cX11_nextOrder 8 (.ifCond .lt 26) (26) 11 34 := ⟨by decide +kernel, rfl, by decide⟩
theorem iX11_nextOrder_11 : In cX11_nextOrder 11 (.aload_n 0) 1 12 := ⟨by decide +kernel, rfl⟩
theorem iX11_nextOrder_12 : In cX11_nextOrder 12 (.getfield 40) 3 15 := ⟨by decide +kernel, rfl⟩
theorem iX11_nextOrder_15 : In cX11_nextOrder 15 (.iload_n 1) 1 16 := ⟨by decide +kernel, rfl⟩
theorem iX11_nextOrder_16 : In cX11_nextOrder 16 (.iaload) 1 17 := ⟨by decide +kernel, rfl⟩
theorem iX11_nextOrder_17 : In cX11_nextOrder 17 (.aload_n 0) 1 18 := ⟨by decide +kernel, rfl⟩
theorem iX11_nextOrder_18 : In cX11_nextOrder 18 (.getfield 40) 3 21 := ⟨by decide +kernel, rfl⟩
theorem iX11_nextOrder_21 : In cX11_nextOrder 21 (.iload_n 1) 1 22 := ⟨by decide +kernel, rfl⟩
theorem iX11_nextOrder_22 : In cX11_nextOrder 22 (.iconst 1) 1 23 := ⟨by decide +kernel, rfl⟩
theorem iX11_nextOrder_23 : In cX11_nextOrder 23 (.iadd) 1 24 := ⟨by decide +kernel, rfl⟩
theorem iX11_nextOrder_24 : In cX11_nextOrder 24 (.iaload) 1 25 := ⟨by decide +kernel, rfl⟩
theorem iX11_nextOrder_25 : Jn cX11_nextOrder 25 (.if_icmp .le 9) (9) 28 34 := ⟨by decide +kernel, rfl, by decide⟩
theorem iX11_nextOrder_28 : In cX11_nextOrder 28 (.iinc 1 (-1)) 3 31 := ⟨by decide +kernel, rfl⟩
theorem iX11_nextOrder_31 : Jn cX11_nextOrder 31 (.goto (-24)) (-24) 34 7 := ⟨by decide +kernel, rfl, by decide⟩
theorem iX11_nextOrder_34 : In cX11_nextOrder 34 (.iload_n 1) 1 35 := ⟨by decide +kernel, rfl⟩
theorem iX11_nextOrder_35 : Jn cX11_nextOrder 35 (.ifCond .ge 5) (5) 38 40 := ⟨by decide +kernel, rfl, by decide⟩
theorem iX11_nextOrder_38 : In cX11_nextOrder 38 (.iconst 0) 1 39 := ⟨by decide +kernel, rfl⟩
theorem iX11_nextOrder_39 : In cX11_nextOrder 39 (.ireturn) 1 40 := ⟨by decide +kernel, rfl⟩
theorem iX11_nextOrder_40 : In cX11_nextOrder 40 (.aload_n 0) 1 41 := ⟨by decide +kernel, rfl⟩
theorem iX11_nextOrder_41 : In cX11_nextOrder 41 (.getfield 99) 3 44 := ⟨by decide +kernel, rfl⟩
theorem iX11_nextOrder_44 : In cX11_nextOrder 44 (.iconst 1) 1 45 := ⟨by decide +kernel, rfl⟩
theorem iX11_nextOrder_45 : In cX11_nextOrder 45 (.isub) 1 46 := ⟨by decide +kernel, rfl⟩
theorem iX11_nextOrder_46 : In cX11_nextOrder 46 (.istore_n 2) 1 47 := ⟨by decide +kernel, rfl⟩
theorem iX11_nextOrder_47 : In cX11_nextOrder 47 (.aload_n 0) 1 48 := ⟨by decide +kernel, rfl⟩
theorem iX11_nextOrder_48 : In cX11_nextOrder 48 (.getfield 40) 3 51 := ⟨by decide +kernel, rfl⟩
theorem iX11_nextOrder_51 : In cX11_nextOrder 51 (.iload_n 2) 1 52 := ⟨by decide +kernel, rfl⟩
theorem iX11_nextOrder_52 : In cX11_nextOrder 52 (.iaload) 1 53 := ⟨by decide +kernel, rfl⟩
theorem iX11_nextOrder_53 : In cX11_nextOrder 53 (.aload_n 0) 1 54 := ⟨by decide +kernel, rfl⟩
theorem iX11_nextOrder_54 : In cX11_nextOrder 54 (.getfield 40) 3 57 := ⟨by decide +kernel, rfl⟩
theorem iX11_nextOrder_57 : In cX11_nextOrder 57 (.iload_n 1) 1 58 := ⟨by decide +kernel, rfl⟩
theorem iX11_nextOrder_58 : In cX11_nextOrder 58 (.iaload) 1 59 := ⟨by decide +kernel, rfl⟩
theorem iX11_nextOrder_59 : Jn cX11_nextOrder 59 (.if_icmp .ge 9) (9) 62 68 := ⟨by decide +kernel, rfl, by decide⟩
theorem iX11_nextOrder_62 : In cX11_nextOrder 62 (.iinc 2 (-1)) 3 65 := ⟨by decide +kernel, rfl⟩
theorem iX11_nextOrder_65 : Jn cX11_nextOrder 65 (.goto (-18)) (-18) 68 47 := ⟨by decide +kernel, rfl, by decide⟩
theorem iX11_nextOrder_68 : In cX11_nextOrder 68 (.aload_n 0) 1 69 := ⟨by decide +kernel, rfl⟩
theorem iX11_nextOrder_69 : In cX11_nextOrder 69 (.iload_n 1) 1 70 := ⟨by decide +kernel, rfl⟩
theorem iX11_nextOrder_70 : In cX11_nextOrder 70 (.iload_n 2) 1 71 := ⟨by decide +kernel, rfl⟩
theorem iX11_nextOrder_71 : In cX11_nextOrder 71 (.invokevirtual 192) 3 74 := ⟨by decide +kernel, rfl⟩
theorem iX11_nextOrder_74 : In cX11_nextOrder 74 (.iload_n 1) 1 75 := ⟨by decide +kernel, rfl⟩
theorem iX11_nextOrder_75 : In cX11_nextOrder 75 (.iconst 1) 1 76 := ⟨by decide +kernel, rfl⟩
theorem iX11_nextOrder_76 : In cX11_nextOrder 76 (.iadd) 1 77 := ⟨by decide +kernel, rfl⟩
theorem iX11_nextOrder_77 : In cX11_nextOrder 77 (.istore_n 3) 1 78 := ⟨by decide +kernel, rfl⟩
theorem iX11_nextOrder_78 : In cX11_nextOrder 78 (.aload_n 0) 1 79 := ⟨by decide +kernel, rfl⟩
theorem iX11_nextOrder_79 : In cX11_nextOrder 79 (.getfield 99) 3 82 := ⟨by decide +kernel, rfl⟩
theorem iX11_nextOrder_82 : In cX11_nextOrder 82 (.iconst 1) 1 83 := ⟨by decide +kernel, rfl⟩
theorem iX11_nextOrder_83 : In cX11_nextOrder 83 (.isub) 1 84 := ⟨by decide +kernel, rfl⟩
theorem iX11_nextOrder_84 : In cX11_nextOrder 84 (.istore 4) 2 86 := ⟨by decide +kernel, rfl⟩
theorem iX11_nextOrder_86 : In cX11_nextOrder 86 (.iload_n 3) 1 87 := ⟨by decide +kernel, rfl⟩
theorem iX11_nextOrder_87 : In cX11_nextOrder 87 (.iload 4) 2 89 := ⟨by decide +kernel, rfl⟩
theorem iX11_nextOrder_89 : Jn cX11_nextOrder 89 (.if_icmp .ge 19) (19) 92 108 := ⟨by decide +kernel, rfl, by decide⟩
theorem iX11_nextOrder_92 : In cX11_nextOrder 92 (.aload_n 0) 1 93 := ⟨by decide +kernel, rfl⟩
theorem iX11_nextOrder_93 : In cX11_nextOrder 93 (.iload_n 3) 1 94 := ⟨by decide +kernel, rfl⟩
theorem iX11_nextOrder_94 : In cX11_nextOrder 94 (.iload 4) 2 96 := ⟨by decide +kernel, rfl⟩
theorem iX11_nextOrder_96 : In cX11_nextOrder 96 (.invokevirtual 192) 3 99 := ⟨by decide +kernel, rfl⟩
theorem iX11_nextOrder_99 : In cX11_nextOrder 99 (.iinc 3 1) 3 102 := ⟨by decide +kernel, rfl⟩
theorem iX11_nextOrder_102 : In cX11_nextOrder 102 (.iinc 4 (-1)) 3 105 := ⟨by decide +kernel, rfl⟩
theorem iX11_nextOrder_105 : Jn cX11_nextOrder 105 (.goto (-19)) (-19) 108 86 := ⟨by decide +kernel, rfl, by decide⟩
theorem iX11_nextOrder_108 : In cX11_nextOrder 108 (.iconst 1) 1 109 := ⟨by decide +kernel, rfl⟩
theorem iX11_nextOrder_109 : In cX11_nextOrder 109 (.ireturn) 1 110 := ⟨by decide +kernel, rfl⟩
theorem iX11_swap_0 : In cX11_swap 0 (.aload_n 0) 1 1 := ⟨by decide +kernel, rfl⟩
theorem iX11_swap_1 : In cX11_swap 1 (.getfield 40) 3 4 := ⟨by decide +kernel, rfl⟩
theorem iX11_swap_4 : In cX11_swap 4 (.iload_n 1) 1 5 := ⟨by decide +kernel, rfl⟩
theorem iX11_swap_5 : In cX11_swap 5 (.iaload) 1 6 := ⟨by decide +kernel, rfl⟩
theorem iX11_swap_6 : In cX11_swap 6 (.istore_n 3) 1 7 := ⟨by decide +kernel, rfl⟩
theorem iX11_swap_7 : In cX11_swap 7 (.aload_n 0) 1 8 := ⟨by decide +kernel, rfl⟩
theorem iX11_swap_8 : In cX11_swap 8 (.getfield 40) 3 11 := ⟨by decide +kernel, rfl⟩
theorem iX11_swap_11 : In cX11_swap 11 (.iload_n 1) 1 12 := ⟨by decide +kernel, rfl⟩
theorem iX11_swap_12 : In cX11_swap 12 (.aload_n 0) 1 13 := ⟨by decide +kernel, rfl⟩
theorem iX11_swap_13 : In cX11_swap 13 (.getfield 40) 3 16 := ⟨by decide +kernel, rfl⟩
theorem iX11_swap_16 : In cX11_swap 16 (.iload_n 2) 1 17 := ⟨by decide +kernel, rfl⟩
theorem iX11_swap_17 : In cX11_swap 17 (.iaload) 1 18 := ⟨by decide +kernel, rfl⟩
theorem iX11_swap_18 : In cX11_swap 18 (.iastore) 1 19 := ⟨by decide +kernel, rfl⟩
theorem iX11_swap_19 : In cX11_swap 19 (.aload_n 0) 1 20 := ⟨by decide +kernel, rfl⟩
theorem iX11_swap_20 : In cX11_swap 20 (.getfield 40) 3 23 := ⟨by decide +kernel, rfl⟩
theorem iX11_swap_23 : In cX11_swap 23 (.iload_n 2) 1 24 := ⟨by decide +kernel, rfl⟩
theorem iX11_swap_24 : In cX11_swap 24 (.iload_n 3) 1 25 := ⟨by decide +kernel, rfl⟩
theorem iX11_swap_25 : In cX11_swap 25 (.iastore) 1 26 := ⟨by decide +kernel, rfl⟩
theorem iX11_swap_26 : In cX11_swap 26 (.return_) 1 27 := ⟨by decide +kernel, rfl⟩
theorem iX11_against_0 : In cX11_against 0 (.iconst 0) 1 1 := ⟨by decide +kernel, rfl⟩
theorem iX11_against_1 : In cX11_against 1 (.istore_n 1) 1 2 := ⟨by decide +kernel, rfl⟩
theorem iX11_against_2 : In cX11_against 2 (.iconst 0) 1 3 := ⟨by decide +kernel, rfl⟩
theorem iX11_against_3 : In cX11_against 3 (.istore_n 2) 1 4 := ⟨by decide +kernel, rfl⟩
theorem iX11_against_4 : In cX11_against 4 (.iload_n 2) 1 5 := ⟨by decide +kernel, rfl⟩
theorem iX11_against_5 : In cX11_against 5 (.aload_n 0) 1 6 := ⟨by decide +kernel, rfl⟩
theorem iX11_against_6 : In cX11_against 6 (.getfield 99) 3 9 := ⟨by decide +kernel, rfl⟩
theorem iX11_against_9 : Jn cX11_against 9 (.if_icmp .ge 58) (58) 12 67 := ⟨by decide +kernel, rfl, by decide⟩
theorem iX11_against_12 : In cX11_against 12 (.iload_n 2) 1 13 := ⟨by decide +kernel, rfl⟩
theorem iX11_against_13 : In cX11_against 13 (.iconst 1) 1 14 := ⟨by decide +kernel, rfl⟩
theorem iX11_against_14 : In cX11_against 14 (.iadd) 1 15 := ⟨by decide +kernel, rfl⟩
theorem iX11_against_15 : In cX11_against 15 (.istore_n 3) 1 16 := ⟨by decide +kernel, rfl⟩
theorem iX11_against_16 : In cX11_against 16 (.iload_n 3) 1 17 := ⟨by decide +kernel, rfl⟩
theorem iX11_against_17 : In cX11_against 17 (.aload_n 0) 1 18 := ⟨by decide +kernel, rfl⟩
theorem iX11_against_18 : In cX11_against 18 (.getfield 99) 3 21 := ⟨by decide +kernel, rfl⟩
theorem iX11_against_21 : Jn cX11_against 21 (.if_icmp .ge 40) (40) 24 61 := ⟨by decide +kernel, rfl, by decide⟩
theorem iX11_against_24 : In cX11_against 24 (.iload_n 1) 1 25 := ⟨by decide +kernel, rfl⟩
theorem iX11_against_25 : In cX11_against 25 (.aload_n 0) 1 26 := ⟨by decide +kernel, rfl⟩
theorem iX11_against_26 : In cX11_against 26 (.getfield 43) 3 29 := ⟨by decide +kernel, rfl⟩
theorem iX11_against_29 : In cX11_against 29 (.aload_n 0) 1 30 := ⟨by decide +kernel, rfl⟩
theorem iX11_against_30 : In cX11_against 30 (.getfield 40) 3 33 := ⟨by decide +kernel, rfl⟩
theorem iX11_against_33 : In cX11_against 33 (.iload_n 3) 1 34 := ⟨by decide +kernel, rfl⟩
theorem iX11_against_34 : In cX11_against 34 (.iaload) 1 35 := ⟨by decide +kernel, rfl⟩
theorem iX11_against_35 : In cX11_against 35 (.iaload) 1 36 := ⟨by decide +kernel, rfl⟩
theorem iX11_against_36 : In cX11_against 36 (.aload_n 0) 1 37 := ⟨by decide +kernel, rfl⟩
theorem iX11_against_37 : In cX11_against 37 (.getfield 40) 3 40 := ⟨by decide +kernel, rfl⟩
theorem iX11_against_40 : In cX11_against 40 (.iload_n 2) 1 41 := ⟨by decide +kernel, rfl⟩
theorem iX11_against_41 : In cX11_against 41 (.iaload) 1 42 := ⟨by decide +kernel, rfl⟩
theorem iX11_against_42 : In cX11_against 42 (.invokestatic 195) 3 45 := ⟨by decide +kernel, rfl⟩
theorem iX11_against_45 : Jn cX11_against 45 (.ifCond .eq 7) (7) 48 52 := ⟨by decide +kernel, rfl, by decide⟩
theorem iX11_against_48 : In cX11_against 48 (.iconst 1) 1 49 := ⟨by decide +kernel, rfl⟩
theorem iX11_against_49 : Jn cX11_against 49 (.goto 4) (4) 52 53 := ⟨by decide +kernel, rfl, by decide⟩
theorem iX11_against_52 : In cX11_against 52 (.iconst 0) 1 53 := ⟨by decide +kernel, rfl⟩
theorem iX11_against_53 : In cX11_against 53 (.iadd) 1 54 := ⟨by decide +kernel, rfl⟩
theorem iX11_against_54 : In cX11_against 54 (.istore_n 1) 1 55 := ⟨by decide +kernel, rfl⟩
theorem iX11_against_55 : In cX11_against 55 (.iinc 3 1) 3 58 := ⟨by decide +kernel, rfl⟩
theorem iX11_against_58 : Jn cX11_against 58 (.goto (-42)) (-42) 61 16 := ⟨by decide +kernel, rfl, by decide⟩
theorem iX11_against_61 : In cX11_against 61 (.iinc 2 1) 3 64 := ⟨by decide +kernel, rfl⟩
theorem iX11_against_64 : Jn cX11_against 64 (.goto (-60)) (-60) 67 4 := ⟨by decide +kernel, rfl, by decide⟩
theorem iX11_against_67 : In cX11_against 67 (.iload_n 1) 1 68 := ⟨by decide +kernel, rfl⟩
theorem iX11_against_68 : In cX11_against 68 (.ireturn) 1 69 := ⟨by decide +kernel, rfl⟩
theorem iX11_figures_0 : In cX11_figures 0 (.iconst 0) 1 1 := ⟨by decide +kernel, rfl⟩
theorem iX11_figures_1 : In cX11_figures 1 (.istore_n 1) 1 2 := ⟨by decide +kernel, rfl⟩
theorem iX11_figures_2 : In cX11_figures 2 (.iconst 0) 1 3 := ⟨by decide +kernel, rfl⟩
theorem iX11_figures_3 : In cX11_figures 3 (.istore_n 2) 1 4 := ⟨by decide +kernel, rfl⟩
theorem iX11_figures_4 : In cX11_figures 4 (.iload_n 2) 1 5 := ⟨by decide +kernel, rfl⟩
theorem iX11_figures_5 : In cX11_figures 5 (.aload_n 0) 1 6 := ⟨by decide +kernel, rfl⟩
theorem iX11_figures_6 : In cX11_figures 6 (.getfield 99) 3 9 := ⟨by decide +kernel, rfl⟩
theorem iX11_figures_9 : Jn cX11_figures 9 (.if_icmp .ge 23) (23) 12 32 := ⟨by decide +kernel, rfl, by decide⟩
theorem iX11_figures_12 : In cX11_figures 12 (.bipush 10) 2 14 := ⟨by decide +kernel, rfl⟩
theorem iX11_figures_14 : In cX11_figures 14 (.iload_n 1) 1 15 := ⟨by decide +kernel, rfl⟩
theorem iX11_figures_15 : In cX11_figures 15 (.imul) 1 16 := ⟨by decide +kernel, rfl⟩
theorem iX11_figures_16 : In cX11_figures 16 (.aload_n 0) 1 17 := ⟨by decide +kernel, rfl⟩
theorem iX11_figures_17 : In cX11_figures 17 (.getfield 40) 3 20 := ⟨by decide +kernel, rfl⟩
theorem iX11_figures_20 : In cX11_figures 20 (.iload_n 2) 1 21 := ⟨by decide +kernel, rfl⟩
theorem iX11_figures_21 : In cX11_figures 21 (.iaload) 1 22 := ⟨by decide +kernel, rfl⟩
theorem iX11_figures_22 : In cX11_figures 22 (.iadd) 1 23 := ⟨by decide +kernel, rfl⟩
theorem iX11_figures_23 : In cX11_figures 23 (.iconst 1) 1 24 := ⟨by decide +kernel, rfl⟩
theorem iX11_figures_24 : In cX11_figures 24 (.iadd) 1 25 := ⟨by decide +kernel, rfl⟩
theorem iX11_figures_25 : In cX11_figures 25 (.istore_n 1) 1 26 := ⟨by decide +kernel, rfl⟩
theorem iX11_figures_26 : In cX11_figures 26 (.iinc 2 1) 3 29 := ⟨by decide +kernel, rfl⟩
theorem iX11_figures_29 : Jn cX11_figures 29 (.goto (-25)) (-25) 32 4 := ⟨by decide +kernel, rfl, by decide⟩
theorem iX11_figures_32 : In cX11_figures 32 (.iload_n 1) 1 33 := ⟨by decide +kernel, rfl⟩
theorem iX11_figures_33 : In cX11_figures 33 (.ireturn) 1 34 := ⟨by decide +kernel, rfl⟩
theorem iX11_order_0 : In cX11_order 0 (.iload_n 1) 1 1 := ⟨by decide +kernel, rfl⟩
theorem iX11_order_1 : In cX11_order 1 (.i2l) 1 2 := ⟨by decide +kernel, rfl⟩
theorem iX11_order_2 : In cX11_order 2 (.lconst 0) 1 3 := ⟨by decide +kernel, rfl⟩
theorem iX11_order_3 : In cX11_order 3 (.lconst 1) 1 4 := ⟨by decide +kernel, rfl⟩
theorem iX11_order_4 : In cX11_order 4 (.invokestatic 61) 3 7 := ⟨by decide +kernel, rfl⟩
theorem iX11_order_7 : Jn cX11_order 7 (.ifCond .ne 6) (6) 10 13 := ⟨by decide +kernel, rfl, by decide⟩
theorem iX11_order_10 : In cX11_order 10 (.bipush (-2)) 2 12 := ⟨by decide +kernel, rfl⟩
theorem iX11_order_12 : In cX11_order 12 (.ireturn) 1 13 := ⟨by decide +kernel, rfl⟩
theorem iX11_order_13 : In cX11_order 13 (.iconst 0) 1 14 := ⟨by decide +kernel, rfl⟩
theorem iX11_order_14 : In cX11_order 14 (.istore_n 2) 1 15 := ⟨by decide +kernel, rfl⟩
theorem iX11_order_15 : In cX11_order 15 (.iload_n 2) 1 16 := ⟨by decide +kernel, rfl⟩
theorem iX11_order_16 : In cX11_order 16 (.aload_n 0) 1 17 := ⟨by decide +kernel, rfl⟩
theorem iX11_order_17 : In cX11_order 17 (.getfield 99) 3 20 := ⟨by decide +kernel, rfl⟩
theorem iX11_order_20 : Jn cX11_order 20 (.if_icmp .ge 27) (27) 23 47 := ⟨by decide +kernel, rfl, by decide⟩
theorem iX11_order_23 : In cX11_order 23 (.aload_n 0) 1 24 := ⟨by decide +kernel, rfl⟩
theorem iX11_order_24 : In cX11_order 24 (.getfield 40) 3 27 := ⟨by decide +kernel, rfl⟩
theorem iX11_order_27 : In cX11_order 27 (.iload_n 2) 1 28 := ⟨by decide +kernel, rfl⟩
theorem iX11_order_28 : In cX11_order 28 (.iload_n 2) 1 29 := ⟨by decide +kernel, rfl⟩
theorem iX11_order_29 : In cX11_order 29 (.iastore) 1 30 := ⟨by decide +kernel, rfl⟩
theorem iX11_order_30 : In cX11_order 30 (.aload_n 0) 1 31 := ⟨by decide +kernel, rfl⟩
theorem iX11_order_31 : In cX11_order 31 (.getfield 43) 3 34 := ⟨by decide +kernel, rfl⟩
theorem iX11_order_34 : In cX11_order 34 (.iload_n 2) 1 35 := ⟨by decide +kernel, rfl⟩
theorem iX11_order_35 : In cX11_order 35 (.aload_n 0) 1 36 := ⟨by decide +kernel, rfl⟩
theorem iX11_order_36 : In cX11_order 36 (.iload_n 2) 1 37 := ⟨by decide +kernel, rfl⟩
theorem iX11_order_37 : In cX11_order 37 (.invokevirtual 160) 3 40 := ⟨by decide +kernel, rfl⟩
theorem iX11_order_40 : In cX11_order 40 (.iastore) 1 41 := ⟨by decide +kernel, rfl⟩
theorem iX11_order_41 : In cX11_order 41 (.iinc 2 1) 3 44 := ⟨by decide +kernel, rfl⟩
theorem iX11_order_44 : Jn cX11_order 44 (.goto (-29)) (-29) 47 15 := ⟨by decide +kernel, rfl, by decide⟩
theorem iX11_order_47 : In cX11_order 47 (.aload_n 0) 1 48 := ⟨by decide +kernel, rfl⟩
theorem iX11_order_48 : In cX11_order 48 (.invokevirtual 198) 3 51 := ⟨by decide +kernel, rfl⟩
theorem iX11_order_51 : In cX11_order 51 (.istore_n 2) 1 52 := ⟨by decide +kernel, rfl⟩
theorem iX11_order_52 : In cX11_order 52 (.aload_n 0) 1 53 := ⟨by decide +kernel, rfl⟩
theorem iX11_order_53 : In cX11_order 53 (.invokevirtual 201) 3 56 := ⟨by decide +kernel, rfl⟩
theorem iX11_order_56 : In cX11_order 56 (.istore_n 3) 1 57 := ⟨by decide +kernel, rfl⟩
theorem iX11_order_57 : In cX11_order 57 (.aload_n 0) 1 58 := ⟨by decide +kernel, rfl⟩
theorem iX11_order_58 : In cX11_order 58 (.invokevirtual 204) 3 61 := ⟨by decide +kernel, rfl⟩
theorem iX11_order_61 : Jn cX11_order 61 (.ifCond .eq 40) (40) 64 101 := ⟨by decide +kernel, rfl, by decide⟩
theorem iX11_order_64 : In cX11_order 64 (.aload_n 0) 1 65 := ⟨by decide +kernel, rfl⟩
theorem iX11_order_65 : In cX11_order 65 (.invokevirtual 198) 3 68 := ⟨by decide +kernel, rfl⟩
theorem iX11_order_68 : In cX11_order 68 (.istore 4) 2 70 := ⟨by decide +kernel, rfl⟩
theorem iX11_order_70 : In cX11_order 70 (.iload 4) 2 72 := ⟨by decide +kernel, rfl⟩
theorem iX11_order_72 : In cX11_order 72 (.iload_n 2) 1 73 := ⟨by decide +kernel, rfl⟩
theorem iX11_order_73 : Jn cX11_order 73 (.if_icmp .ge 10) (10) 76 83 := ⟨by decide +kernel, rfl, by decide⟩
theorem iX11_order_76 : In cX11_order 76 (.aload_n 0) 1 77 := ⟨by decide +kernel, rfl⟩
theorem iX11_order_77 : In cX11_order 77 (.invokevirtual 201) 3 80 := ⟨by decide +kernel, rfl⟩
theorem iX11_order_80 : Jn cX11_order 80 (.goto 4) (4) 83 84 := ⟨by decide +kernel, rfl, by decide⟩
theorem iX11_order_83 : In cX11_order 83 (.iload_n 3) 1 84 := ⟨by decide +kernel, rfl⟩
theorem iX11_order_84 : In cX11_order 84 (.istore_n 3) 1 85 := ⟨by decide +kernel, rfl⟩
theorem iX11_order_85 : In cX11_order 85 (.iload 4) 2 87 := ⟨by decide +kernel, rfl⟩
theorem iX11_order_87 : In cX11_order 87 (.iload_n 2) 1 88 := ⟨by decide +kernel, rfl⟩
theorem iX11_order_88 : Jn cX11_order 88 (.if_icmp .ge 8) (8) 91 96 := ⟨by decide +kernel, rfl, by decide⟩
theorem iX11_order_91 : In cX11_order 91 (.iload 4) 2 93 := ⟨by decide +kernel, rfl⟩
theorem iX11_order_93 : Jn cX11_order 93 (.goto 4) (4) 96 97 := ⟨by decide +kernel, rfl, by decide⟩
theorem iX11_order_96 : In cX11_order 96 (.iload_n 2) 1 97 := ⟨by decide +kernel, rfl⟩
theorem iX11_order_97 : In cX11_order 97 (.istore_n 2) 1 98 := ⟨by decide +kernel, rfl⟩
theorem iX11_order_98 : Jn cX11_order 98 (.goto (-41)) (-41) 101 57 := ⟨by decide +kernel, rfl, by decide⟩
theorem iX11_order_101 : In cX11_order 101 (.iload_n 1) 1 102 := ⟨by decide +kernel, rfl⟩
theorem iX11_order_102 : Jn cX11_order 102 (.ifCond .ne 7) (7) 105 109 := ⟨by decide +kernel, rfl, by decide⟩
theorem iX11_order_105 : In cX11_order 105 (.iload_n 2) 1 106 := ⟨by decide +kernel, rfl⟩
theorem iX11_order_106 : Jn cX11_order 106 (.goto 4) (4) 109 110 := ⟨by decide +kernel, rfl, by decide⟩
theorem iX11_order_109 : In cX11_order 109 (.iload_n 3) 1 110 := ⟨by decide +kernel, rfl⟩
theorem iX11_order_110 : In cX11_order 110 (.ireturn) 1 111 := ⟨by decide +kernel, rfl⟩
theorem iX11_layTrial_0 : In cX11_layTrial 0 (.iconst 0) 1 1 := ⟨by decide +kernel, rfl⟩
theorem iX11_layTrial_1 : In cX11_layTrial 1 (.istore_n 1) 1 2 := ⟨by decide +kernel, rfl⟩
theorem iX11_layTrial_2 : In cX11_layTrial 2 (.iload_n 1) 1 3 := ⟨by decide +kernel, rfl⟩
theorem iX11_layTrial_3 : In cX11_layTrial 3 (.bipush 18) 2 5 := ⟨by decide +kernel, rfl⟩
theorem iX11_layTrial_5 : Jn cX11_layTrial 5 (.if_icmp .ge 24) (24) 8 29 := ⟨by decide +kernel, rfl, by decide⟩
theorem iX11_layTrial_8 : In cX11_layTrial 8 (.aload_n 0) 1 9 := ⟨by decide +kernel, rfl⟩
theorem iX11_layTrial_9 : In cX11_layTrial 9 (.getfield 22) 3 12 := ⟨by decide +kernel, rfl⟩
theorem iX11_layTrial_12 : In cX11_layTrial 12 (.bipush 18) 2 14 := ⟨by decide +kernel, rfl⟩
theorem iX11_layTrial_14 : In cX11_layTrial 14 (.iload_n 1) 1 15 := ⟨by decide +kernel, rfl⟩
theorem iX11_layTrial_15 : In cX11_layTrial 15 (.iadd) 1 16 := ⟨by decide +kernel, rfl⟩
theorem iX11_layTrial_16 : In cX11_layTrial 16 (.aload_n 0) 1 17 := ⟨by decide +kernel, rfl⟩
theorem iX11_layTrial_17 : In cX11_layTrial 17 (.getfield 22) 3 20 := ⟨by decide +kernel, rfl⟩
theorem iX11_layTrial_20 : In cX11_layTrial 20 (.iload_n 1) 1 21 := ⟨by decide +kernel, rfl⟩
theorem iX11_layTrial_21 : In cX11_layTrial 21 (.iaload) 1 22 := ⟨by decide +kernel, rfl⟩
theorem iX11_layTrial_22 : In cX11_layTrial 22 (.iastore) 1 23 := ⟨by decide +kernel, rfl⟩
theorem iX11_layTrial_23 : In cX11_layTrial 23 (.iinc 1 1) 3 26 := ⟨by decide +kernel, rfl⟩
theorem iX11_layTrial_26 : Jn cX11_layTrial 26 (.goto (-24)) (-24) 29 2 := ⟨by decide +kernel, rfl, by decide⟩
theorem iX11_layTrial_29 : In cX11_layTrial 29 (.return_) 1 30 := ⟨by decide +kernel, rfl⟩
theorem iX11_tryThing_0 : In cX11_tryThing 0 (.iload_n 1) 1 1 := ⟨by decide +kernel, rfl⟩
theorem iX11_tryThing_1 : In cX11_tryThing 1 (.tableswitch 214 1 5 #[35, 80, 113, 147, 179]) 35 36 := ⟨by decide +kernel, rfl⟩
theorem iX11_tryThing_36 : In cX11_tryThing 36 (.aload_n 0) 1 37 := ⟨by decide +kernel, rfl⟩
theorem iX11_tryThing_37 : In cX11_tryThing 37 (.iload_n 2) 1 38 := ⟨by decide +kernel, rfl⟩
theorem iX11_tryThing_38 : In cX11_tryThing 38 (.invokevirtual 153) 3 41 := ⟨by decide +kernel, rfl⟩
theorem iX11_tryThing_41 : Jn cX11_tryThing 41 (.ifCond .eq 38) (38) 44 79 := ⟨by decide +kernel, rfl, by decide⟩
theorem iX11_tryThing_44 : In cX11_tryThing 44 (.aload_n 0) 1 45 := ⟨by decide +kernel, rfl⟩
theorem iX11_tryThing_45 : In cX11_tryThing 45 (.iload_n 3) 1 46 := ⟨by decide +kernel, rfl⟩
theorem iX11_tryThing_46 : In cX11_tryThing 46 (.invokevirtual 163) 3 49 := ⟨by decide +kernel, rfl⟩
theorem iX11_tryThing_49 : Jn cX11_tryThing 49 (.ifCond .eq 30) (30) 52 79 := ⟨by decide +kernel, rfl, by decide⟩
theorem iX11_tryThing_52 : In cX11_tryThing 52 (.aload_n 0) 1 53 := ⟨by decide +kernel, rfl⟩
theorem iX11_tryThing_53 : In cX11_tryThing 53 (.getfield 22) 3 56 := ⟨by decide +kernel, rfl⟩
theorem iX11_tryThing_56 : In cX11_tryThing 56 (.bipush 18) 2 58 := ⟨by decide +kernel, rfl⟩
theorem iX11_tryThing_58 : In cX11_tryThing 58 (.iload_n 3) 1 59 := ⟨by decide +kernel, rfl⟩
theorem iX11_tryThing_59 : In cX11_tryThing 59 (.iadd) 1 60 := ⟨by decide +kernel, rfl⟩
theorem iX11_tryThing_60 : In cX11_tryThing 60 (.iaload) 1 61 := ⟨by decide +kernel, rfl⟩
theorem iX11_tryThing_61 : In cX11_tryThing 61 (.iload_n 2) 1 62 := ⟨by decide +kernel, rfl⟩
theorem iX11_tryThing_62 : Jn cX11_tryThing 62 (.if_icmp .eq 17) (17) 65 79 := ⟨by decide +kernel, rfl, by decide⟩
theorem iX11_tryThing_65 : In cX11_tryThing 65 (.aload_n 0) 1 66 := ⟨by decide +kernel, rfl⟩
theorem iX11_tryThing_66 : In cX11_tryThing 66 (.iconst 1) 1 67 := ⟨by decide +kernel, rfl⟩
theorem iX11_tryThing_67 : In cX11_tryThing 67 (.iload_n 2) 1 68 := ⟨by decide +kernel, rfl⟩
theorem iX11_tryThing_68 : In cX11_tryThing 68 (.iload_n 3) 1 69 := ⟨by decide +kernel, rfl⟩
theorem iX11_tryThing_69 : In cX11_tryThing 69 (.invokevirtual 184) 3 72 := ⟨by decide +kernel, rfl⟩
theorem iX11_tryThing_72 : Jn cX11_tryThing 72 (.ifCond .eq 7) (7) 75 79 := ⟨by decide +kernel, rfl, by decide⟩
theorem iX11_tryThing_75 : In cX11_tryThing 75 (.iconst 1) 1 76 := ⟨by decide +kernel, rfl⟩
theorem iX11_tryThing_76 : Jn cX11_tryThing 76 (.goto 4) (4) 79 80 := ⟨by decide +kernel, rfl, by decide⟩
theorem iX11_tryThing_79 : In cX11_tryThing 79 (.iconst 0) 1 80 := ⟨by decide +kernel, rfl⟩
theorem iX11_tryThing_80 : In cX11_tryThing 80 (.ireturn) 1 81 := ⟨by decide +kernel, rfl⟩
theorem iX11_tryThing_81 : In cX11_tryThing 81 (.iload_n 2) 1 82 := ⟨by decide +kernel, rfl⟩
theorem iX11_tryThing_82 : Jn cX11_tryThing 82 (.ifCond .ne 15) (15) 85 97 := ⟨by decide +kernel, rfl, by decide⟩
theorem iX11_tryThing_85 : In cX11_tryThing 85 (.aload_n 0) 1 86 := ⟨by decide +kernel, rfl⟩
theorem iX11_tryThing_86 : In cX11_tryThing 86 (.iload_n 3) 1 87 := ⟨by decide +kernel, rfl⟩
theorem iX11_tryThing_87 : In cX11_tryThing 87 (.invokevirtual 153) 3 90 := ⟨by decide +kernel, rfl⟩
theorem iX11_tryThing_90 : Jn cX11_tryThing 90 (.ifCond .eq 7) (7) 93 97 := ⟨by decide +kernel, rfl, by decide⟩
theorem iX11_tryThing_93 : In cX11_tryThing 93 (.iconst 1) 1 94 := ⟨by decide +kernel, rfl⟩
theorem iX11_tryThing_94 : Jn cX11_tryThing 94 (.goto 4) (4) 97 98 := ⟨by decide +kernel, rfl, by decide⟩
theorem iX11_tryThing_97 : In cX11_tryThing 97 (.iconst 0) 1 98 := ⟨by decide +kernel, rfl⟩
theorem iX11_tryThing_98 : In cX11_tryThing 98 (.istore 4) 2 100 := ⟨by decide +kernel, rfl⟩
theorem iX11_tryThing_100 : In cX11_tryThing 100 (.iload 4) 2 102 := ⟨by decide +kernel, rfl⟩
theorem iX11_tryThing_102 : Jn cX11_tryThing 102 (.ifCond .eq 9) (9) 105 111 := ⟨by decide +kernel, rfl, by decide⟩
theorem iX11_tryThing_105 : In cX11_tryThing 105 (.aload_n 0) 1 106 := ⟨by decide +kernel, rfl⟩
theorem iX11_tryThing_106 : In cX11_tryThing 106 (.iconst 1) 1 107 := ⟨by decide +kernel, rfl⟩
theorem iX11_tryThing_107 : In cX11_tryThing 107 (.iload_n 3) 1 108 := ⟨by decide +kernel, rfl⟩
theorem iX11_tryThing_108 : In cX11_tryThing 108 (.invokevirtual 177) 3 111 := ⟨by decide +kernel, rfl⟩
theorem iX11_tryThing_111 : In cX11_tryThing 111 (.iload 4) 2 113 := ⟨by decide +kernel, rfl⟩
theorem iX11_tryThing_113 : In cX11_tryThing 113 (.ireturn) 1 114 := ⟨by decide +kernel, rfl⟩
theorem iX11_tryThing_114 : In cX11_tryThing 114 (.aload_n 0) 1 115 := ⟨by decide +kernel, rfl⟩
theorem iX11_tryThing_115 : In cX11_tryThing 115 (.iload_n 2) 1 116 := ⟨by decide +kernel, rfl⟩
theorem iX11_tryThing_116 : In cX11_tryThing 116 (.invokevirtual 153) 3 119 := ⟨by decide +kernel, rfl⟩
theorem iX11_tryThing_119 : Jn cX11_tryThing 119 (.ifCond .eq 11) (11) 122 130 := ⟨by decide +kernel, rfl, by decide⟩
theorem iX11_tryThing_122 : In cX11_tryThing 122 (.iload_n 3) 1 123 := ⟨by decide +kernel, rfl⟩
theorem iX11_tryThing_123 : Jn cX11_tryThing 123 (.ifCond .le 7) (7) 126 130 := ⟨by decide +kernel, rfl, by decide⟩
theorem iX11_tryThing_126 : In cX11_tryThing 126 (.iconst 1) 1 127 := ⟨by decide +kernel, rfl⟩
theorem iX11_tryThing_127 : Jn cX11_tryThing 127 (.goto 4) (4) 130 131 := ⟨by decide +kernel, rfl, by decide⟩
theorem iX11_tryThing_130 : In cX11_tryThing 130 (.iconst 0) 1 131 := ⟨by decide +kernel, rfl⟩
theorem iX11_tryThing_131 : In cX11_tryThing 131 (.istore 5) 2 133 := ⟨by decide +kernel, rfl⟩
theorem iX11_tryThing_133 : In cX11_tryThing 133 (.iload 5) 2 135 := ⟨by decide +kernel, rfl⟩
theorem iX11_tryThing_135 : Jn cX11_tryThing 135 (.ifCond .eq 10) (10) 138 145 := ⟨by decide +kernel, rfl, by decide⟩
theorem iX11_tryThing_138 : In cX11_tryThing 138 (.aload_n 0) 1 139 := ⟨by decide +kernel, rfl⟩
theorem iX11_tryThing_139 : In cX11_tryThing 139 (.iconst 1) 1 140 := ⟨by decide +kernel, rfl⟩
theorem iX11_tryThing_140 : In cX11_tryThing 140 (.iload_n 2) 1 141 := ⟨by decide +kernel, rfl⟩
theorem iX11_tryThing_141 : In cX11_tryThing 141 (.iload_n 3) 1 142 := ⟨by decide +kernel, rfl⟩
theorem iX11_tryThing_142 : In cX11_tryThing 142 (.invokevirtual 174) 3 145 := ⟨by decide +kernel, rfl⟩
theorem iX11_tryThing_145 : In cX11_tryThing 145 (.iload 5) 2 147 := ⟨by decide +kernel, rfl⟩
theorem iX11_tryThing_147 : In cX11_tryThing 147 (.ireturn) 1 148 := ⟨by decide +kernel, rfl⟩
theorem iX11_tryThing_148 : In cX11_tryThing 148 (.aload_n 0) 1 149 := ⟨by decide +kernel, rfl⟩
theorem iX11_tryThing_149 : In cX11_tryThing 149 (.iload_n 2) 1 150 := ⟨by decide +kernel, rfl⟩
theorem iX11_tryThing_150 : In cX11_tryThing 150 (.invokevirtual 153) 3 153 := ⟨by decide +kernel, rfl⟩
theorem iX11_tryThing_153 : Jn cX11_tryThing 153 (.ifCond .eq 25) (25) 156 178 := ⟨by decide +kernel, rfl, by decide⟩
theorem iX11_tryThing_156 : In cX11_tryThing 156 (.aload_n 0) 1 157 := ⟨by decide +kernel, rfl⟩
theorem iX11_tryThing_157 : In cX11_tryThing 157 (.iload_n 3) 1 158 := ⟨by decide +kernel, rfl⟩
theorem iX11_tryThing_158 : In cX11_tryThing 158 (.invokevirtual 153) 3 161 := ⟨by decide +kernel, rfl⟩
theorem iX11_tryThing_161 : Jn cX11_tryThing 161 (.ifCond .eq 17) (17) 164 178 := ⟨by decide +kernel, rfl, by decide⟩
theorem iX11_tryThing_164 : In cX11_tryThing 164 (.aload_n 0) 1 165 := ⟨by decide +kernel, rfl⟩
theorem iX11_tryThing_165 : In cX11_tryThing 165 (.iconst 1) 1 166 := ⟨by decide +kernel, rfl⟩
theorem iX11_tryThing_166 : In cX11_tryThing 166 (.iload_n 2) 1 167 := ⟨by decide +kernel, rfl⟩
theorem iX11_tryThing_167 : In cX11_tryThing 167 (.iload_n 3) 1 168 := ⟨by decide +kernel, rfl⟩
theorem iX11_tryThing_168 : In cX11_tryThing 168 (.invokevirtual 149) 3 171 := ⟨by decide +kernel, rfl⟩
theorem iX11_tryThing_171 : Jn cX11_tryThing 171 (.ifCond .eq 7) (7) 174 178 := ⟨by decide +kernel, rfl, by decide⟩
theorem iX11_tryThing_174 : In cX11_tryThing 174 (.iconst 1) 1 175 := ⟨by decide +kernel, rfl⟩
theorem iX11_tryThing_175 : Jn cX11_tryThing 175 (.goto 4) (4) 178 179 := ⟨by decide +kernel, rfl, by decide⟩
theorem iX11_tryThing_178 : In cX11_tryThing 178 (.iconst 0) 1 179 := ⟨by decide +kernel, rfl⟩
theorem iX11_tryThing_179 : In cX11_tryThing 179 (.ireturn) 1 180 := ⟨by decide +kernel, rfl⟩
theorem iX11_tryThing_180 : In cX11_tryThing 180 (.aload_n 0) 1 181 := ⟨by decide +kernel, rfl⟩
theorem iX11_tryThing_181 : In cX11_tryThing 181 (.iload_n 2) 1 182 := ⟨by decide +kernel, rfl⟩
theorem iX11_tryThing_182 : In cX11_tryThing 182 (.invokevirtual 153) 3 185 := ⟨by decide +kernel, rfl⟩
theorem iX11_tryThing_185 : Jn cX11_tryThing 185 (.ifCond .eq 28) (28) 188 213 := ⟨by decide +kernel, rfl, by decide⟩
theorem iX11_tryThing_188 : In cX11_tryThing 188 (.aload_n 0) 1 189 := ⟨by decide +kernel, rfl⟩
theorem iX11_tryThing_189 : In cX11_tryThing 189 (.iload_n 3) 1 190 := ⟨by decide +kernel, rfl⟩
theorem iX11_tryThing_190 : In cX11_tryThing 190 (.invokevirtual 163) 3 193 := ⟨by decide +kernel, rfl⟩
theorem iX11_tryThing_193 : Jn cX11_tryThing 193 (.ifCond .eq 20) (20) 196 213 := ⟨by decide +kernel, rfl, by decide⟩
theorem iX11_tryThing_196 : In cX11_tryThing 196 (.aload_n 0) 1 197 := ⟨by decide +kernel, rfl⟩
theorem iX11_tryThing_197 : In cX11_tryThing 197 (.getfield 22) 3 200 := ⟨by decide +kernel, rfl⟩
theorem iX11_tryThing_200 : In cX11_tryThing 200 (.bipush 18) 2 202 := ⟨by decide +kernel, rfl⟩
theorem iX11_tryThing_202 : In cX11_tryThing 202 (.iload_n 3) 1 203 := ⟨by decide +kernel, rfl⟩
theorem iX11_tryThing_203 : In cX11_tryThing 203 (.iadd) 1 204 := ⟨by decide +kernel, rfl⟩
theorem iX11_tryThing_204 : In cX11_tryThing 204 (.iaload) 1 205 := ⟨by decide +kernel, rfl⟩
theorem iX11_tryThing_205 : In cX11_tryThing 205 (.iload_n 2) 1 206 := ⟨by decide +kernel, rfl⟩
theorem iX11_tryThing_206 : Jn cX11_tryThing 206 (.if_icmp .ne 7) (7) 209 213 := ⟨by decide +kernel, rfl, by decide⟩
theorem iX11_tryThing_209 : In cX11_tryThing 209 (.iconst 1) 1 210 := ⟨by decide +kernel, rfl⟩
theorem iX11_tryThing_210 : Jn cX11_tryThing 210 (.goto 4) (4) 213 214 := ⟨by decide +kernel, rfl, by decide⟩
theorem iX11_tryThing_213 : In cX11_tryThing 213 (.iconst 0) 1 214 := ⟨by decide +kernel, rfl⟩
theorem iX11_tryThing_214 : In cX11_tryThing 214 (.ireturn) 1 215 := ⟨by decide +kernel, rfl⟩
theorem iX11_tryThing_215 : In cX11_tryThing 215 (.iconst 0) 1 216 := ⟨by decide +kernel, rfl⟩
theorem iX11_tryThing_216 : In cX11_tryThing 216 (.ireturn) 1 217 := ⟨by decide +kernel, rfl⟩
theorem iX11_thousandTo_0 : In cX11_thousandTo 0 (.lconst 1) 1 1 := ⟨by decide +kernel, rfl⟩
theorem iX11_thousandTo_1 : In cX11_thousandTo 1 (.lstore_n 1) 1 2 := ⟨by decide +kernel, rfl⟩
theorem iX11_thousandTo_2 : In cX11_thousandTo 2 (.iconst 0) 1 3 := ⟨by decide +kernel, rfl⟩
theorem iX11_thousandTo_3 : In cX11_thousandTo 3 (.istore_n 3) 1 4 := ⟨by decide +kernel, rfl⟩
theorem iX11_thousandTo_4 : In cX11_thousandTo 4 (.iload_n 3) 1 5 := ⟨by decide +kernel, rfl⟩
theorem iX11_thousandTo_5 : In cX11_thousandTo 5 (.iload_n 0) 1 6 := ⟨by decide +kernel, rfl⟩
theorem iX11_thousandTo_6 : Jn cX11_thousandTo 6 (.if_icmp .ge 15) (15) 9 21 := ⟨by decide +kernel, rfl, by decide⟩
theorem iX11_thousandTo_9 : In cX11_thousandTo 9 (.lload_n 1) 1 10 := ⟨by decide +kernel, rfl⟩
theorem iX11_thousandTo_10 : In cX11_thousandTo 10 (.ldc2_w 208) 3 13 := ⟨by decide +kernel, rfl⟩
theorem iX11_thousandTo_13 : In cX11_thousandTo 13 (.lmul) 1 14 := ⟨by decide +kernel, rfl⟩
theorem iX11_thousandTo_14 : In cX11_thousandTo 14 (.lstore_n 1) 1 15 := ⟨by decide +kernel, rfl⟩
theorem iX11_thousandTo_15 : In cX11_thousandTo 15 (.iinc 3 1) 3 18 := ⟨by decide +kernel, rfl⟩
theorem iX11_thousandTo_18 : Jn cX11_thousandTo 18 (.goto (-14)) (-14) 21 4 := ⟨by decide +kernel, rfl, by decide⟩
theorem iX11_thousandTo_21 : In cX11_thousandTo 21 (.lload_n 1) 1 22 := ⟨by decide +kernel, rfl⟩
theorem iX11_thousandTo_22 : In cX11_thousandTo 22 (.lreturn) 1 23 := ⟨by decide +kernel, rfl⟩
theorem iX11_judge_0 : In cX11_judge 0 (.iload_n 1) 1 1 := ⟨by decide +kernel, rfl⟩
theorem iX11_judge_1 : In cX11_judge 1 (.i2l) 1 2 := ⟨by decide +kernel, rfl⟩
theorem iX11_judge_2 : In cX11_judge 2 (.lconst 1) 1 3 := ⟨by decide +kernel, rfl⟩
theorem iX11_judge_3 : In cX11_judge 3 (.ldc2_w 210) 3 6 := ⟨by decide +kernel, rfl⟩
theorem iX11_judge_6 : In cX11_judge 6 (.invokestatic 61) 3 9 := ⟨by decide +kernel, rfl⟩
theorem iX11_judge_9 : Jn cX11_judge 9 (.ifCond .eq 17) (17) 12 26 := ⟨by decide +kernel, rfl, by decide⟩
theorem iX11_judge_12 : In cX11_judge 12 (.lload_n 2) 1 13 := ⟨by decide +kernel, rfl⟩
theorem iX11_judge_13 : In cX11_judge 13 (.lconst 0) 1 14 := ⟨by decide +kernel, rfl⟩
theorem iX11_judge_14 : In cX11_judge 14 (.iload_n 1) 1 15 := ⟨by decide +kernel, rfl⟩
theorem iX11_judge_15 : In cX11_judge 15 (.invokestatic 212) 3 18 := ⟨by decide +kernel, rfl⟩
theorem iX11_judge_18 : In cX11_judge 18 (.lconst 1) 1 19 := ⟨by decide +kernel, rfl⟩
theorem iX11_judge_19 : In cX11_judge 19 (.lsub) 1 20 := ⟨by decide +kernel, rfl⟩
theorem iX11_judge_20 : In cX11_judge 20 (.invokestatic 61) 3 23 := ⟨by decide +kernel, rfl⟩
theorem iX11_judge_23 : Jn cX11_judge 23 (.ifCond .ne 6) (6) 26 29 := ⟨by decide +kernel, rfl, by decide⟩
theorem iX11_judge_26 : In cX11_judge 26 (.bipush (-2)) 2 28 := ⟨by decide +kernel, rfl⟩
theorem iX11_judge_28 : In cX11_judge 28 (.ireturn) 1 29 := ⟨by decide +kernel, rfl⟩
theorem iX11_judge_29 : In cX11_judge 29 (.aload_n 0) 1 30 := ⟨by decide +kernel, rfl⟩
theorem iX11_judge_30 : In cX11_judge 30 (.invokevirtual 216) 3 33 := ⟨by decide +kernel, rfl⟩
theorem iX11_judge_33 : In cX11_judge 33 (.iconst 0) 1 34 := ⟨by decide +kernel, rfl⟩
theorem iX11_judge_34 : In cX11_judge 34 (.istore 4) 2 36 := ⟨by decide +kernel, rfl⟩
theorem iX11_judge_36 : In cX11_judge 36 (.iload 4) 2 38 := ⟨by decide +kernel, rfl⟩
theorem iX11_judge_38 : In cX11_judge 38 (.iload_n 1) 1 39 := ⟨by decide +kernel, rfl⟩
theorem iX11_judge_39 : Jn cX11_judge 39 (.if_icmp .ge 55) (55) 42 94 := ⟨by decide +kernel, rfl, by decide⟩
theorem iX11_judge_42 : In cX11_judge 42 (.lload_n 2) 1 43 := ⟨by decide +kernel, rfl⟩
theorem iX11_judge_43 : In cX11_judge 43 (.iload_n 1) 1 44 := ⟨by decide +kernel, rfl⟩
theorem iX11_judge_44 : In cX11_judge 44 (.iconst 1) 1 45 := ⟨by decide +kernel, rfl⟩
theorem iX11_judge_45 : In cX11_judge 45 (.isub) 1 46 := ⟨by decide +kernel, rfl⟩
theorem iX11_judge_46 : In cX11_judge 46 (.iload 4) 2 48 := ⟨by decide +kernel, rfl⟩
theorem iX11_judge_48 : In cX11_judge 48 (.isub) 1 49 := ⟨by decide +kernel, rfl⟩
theorem iX11_judge_49 : In cX11_judge 49 (.invokestatic 212) 3 52 := ⟨by decide +kernel, rfl⟩
theorem iX11_judge_52 : In cX11_judge 52 (.ldiv) 1 53 := ⟨by decide +kernel, rfl⟩
theorem iX11_judge_53 : In cX11_judge 53 (.ldc2_w 208) 3 56 := ⟨by decide +kernel, rfl⟩
theorem iX11_judge_56 : In cX11_judge 56 (.lrem) 1 57 := ⟨by decide +kernel, rfl⟩
theorem iX11_judge_57 : In cX11_judge 57 (.l2i) 1 58 := ⟨by decide +kernel, rfl⟩
theorem iX11_judge_58 : In cX11_judge 58 (.istore 5) 2 60 := ⟨by decide +kernel, rfl⟩
theorem iX11_judge_60 : In cX11_judge 60 (.aload_n 0) 1 61 := ⟨by decide +kernel, rfl⟩
theorem iX11_judge_61 : In cX11_judge 61 (.iload 5) 2 63 := ⟨by decide +kernel, rfl⟩
theorem iX11_judge_63 : In cX11_judge 63 (.bipush 100) 2 65 := ⟨by decide +kernel, rfl⟩
theorem iX11_judge_65 : In cX11_judge 65 (.idiv) 1 66 := ⟨by decide +kernel, rfl⟩
theorem iX11_judge_66 : In cX11_judge 66 (.iload 5) 2 68 := ⟨by decide +kernel, rfl⟩
theorem iX11_judge_68 : In cX11_judge 68 (.bipush 10) 2 70 := ⟨by decide +kernel, rfl⟩
theorem iX11_judge_70 : In cX11_judge 70 (.idiv) 1 71 := ⟨by decide +kernel, rfl⟩
theorem iX11_judge_71 : In cX11_judge 71 (.bipush 10) 2 73 := ⟨by decide +kernel, rfl⟩
theorem iX11_judge_73 : In cX11_judge 73 (.irem) 1 74 := ⟨by decide +kernel, rfl⟩
theorem iX11_judge_74 : In cX11_judge 74 (.iload 5) 2 76 := ⟨by decide +kernel, rfl⟩
theorem iX11_judge_76 : In cX11_judge 76 (.bipush 10) 2 78 := ⟨by decide +kernel, rfl⟩
theorem iX11_judge_78 : In cX11_judge 78 (.irem) 1 79 := ⟨by decide +kernel, rfl⟩
theorem iX11_judge_79 : In cX11_judge 79 (.invokevirtual 219) 3 82 := ⟨by decide +kernel, rfl⟩
theorem iX11_judge_82 : Jn cX11_judge 82 (.ifCond .ne 6) (6) 85 88 := ⟨by decide +kernel, rfl, by decide⟩
theorem iX11_judge_85 : In cX11_judge 85 (.iload 4) 2 87 := ⟨by decide +kernel, rfl⟩
theorem iX11_judge_87 : In cX11_judge 87 (.ireturn) 1 88 := ⟨by decide +kernel, rfl⟩
theorem iX11_judge_88 : In cX11_judge 88 (.iinc 4 1) 3 91 := ⟨by decide +kernel, rfl⟩
theorem iX11_judge_91 : Jn cX11_judge 91 (.goto (-55)) (-55) 94 36 := ⟨by decide +kernel, rfl, by decide⟩
theorem iX11_judge_94 : In cX11_judge 94 (.bipush (-9)) 2 96 := ⟨by decide +kernel, rfl⟩
theorem iX11_judge_96 : In cX11_judge 96 (.ireturn) 1 97 := ⟨by decide +kernel, rfl⟩
theorem iX11_see_0 : In cX11_see 0 (.aload_n 0) 1 1 := ⟨by decide +kernel, rfl⟩
theorem iX11_see_1 : In cX11_see 1 (.iload_n 1) 1 2 := ⟨by decide +kernel, rfl⟩
theorem iX11_see_2 : In cX11_see 2 (.invokevirtual 153) 3 5 := ⟨by decide +kernel, rfl⟩
theorem iX11_see_5 : Jn cX11_see 5 (.ifCond .ne 5) (5) 8 10 := ⟨by decide +kernel, rfl, by decide⟩
theorem iX11_see_8 : In cX11_see 8 (.iconst (-1)) 1 9 := ⟨by decide +kernel, rfl⟩
theorem iX11_see_9 : In cX11_see 9 (.ireturn) 1 10 := ⟨by decide +kernel, rfl⟩
theorem iX11_see_10 : In cX11_see 10 (.iload_n 2) 1 11 := ⟨by decide +kernel, rfl⟩
theorem iX11_see_11 : In cX11_see 11 (.i2l) 1 12 := ⟨by decide +kernel, rfl⟩
theorem iX11_see_12 : In cX11_see 12 (.lconst 0) 1 13 := ⟨by decide +kernel, rfl⟩
theorem iX11_see_13 : In cX11_see 13 (.ldc2_w 187) 3 16 := ⟨by decide +kernel, rfl⟩
theorem iX11_see_16 : In cX11_see 16 (.invokestatic 61) 3 19 := ⟨by decide +kernel, rfl⟩
theorem iX11_see_19 : Jn cX11_see 19 (.ifCond .ne 6) (6) 22 25 := ⟨by decide +kernel, rfl, by decide⟩
theorem iX11_see_22 : In cX11_see 22 (.bipush (-2)) 2 24 := ⟨by decide +kernel, rfl⟩
theorem iX11_see_24 : In cX11_see 24 (.ireturn) 1 25 := ⟨by decide +kernel, rfl⟩
theorem iX11_see_25 : In cX11_see 25 (.aload_n 0) 1 26 := ⟨by decide +kernel, rfl⟩
theorem iX11_see_26 : In cX11_see 26 (.getfield 222) 3 29 := ⟨by decide +kernel, rfl⟩
theorem iX11_see_29 : In cX11_see 29 (.bipush 6) 2 31 := ⟨by decide +kernel, rfl⟩
theorem iX11_see_31 : Jn cX11_see 31 (.if_icmp .ne 6) (6) 34 37 := ⟨by decide +kernel, rfl, by decide⟩
theorem iX11_see_34 : In cX11_see 34 (.bipush (-4)) 2 36 := ⟨by decide +kernel, rfl⟩
theorem iX11_see_36 : In cX11_see 36 (.ireturn) 1 37 := ⟨by decide +kernel, rfl⟩
theorem iX11_see_37 : In cX11_see 37 (.aload_n 0) 1 38 := ⟨by decide +kernel, rfl⟩
theorem iX11_see_38 : In cX11_see 38 (.getfield 46) 3 41 := ⟨by decide +kernel, rfl⟩
theorem iX11_see_41 : In cX11_see 41 (.aload_n 0) 1 42 := ⟨by decide +kernel, rfl⟩
theorem iX11_see_42 : In cX11_see 42 (.getfield 222) 3 45 := ⟨by decide +kernel, rfl⟩
theorem iX11_see_45 : In cX11_see 45 (.iload_n 1) 1 46 := ⟨by decide +kernel, rfl⟩
theorem iX11_see_46 : In cX11_see 46 (.iastore) 1 47 := ⟨by decide +kernel, rfl⟩
theorem iX11_see_47 : In cX11_see 47 (.aload_n 0) 1 48 := ⟨by decide +kernel, rfl⟩
theorem iX11_see_48 : In cX11_see 48 (.getfield 49) 3 51 := ⟨by decide +kernel, rfl⟩
theorem iX11_see_51 : In cX11_see 51 (.aload_n 0) 1 52 := ⟨by decide +kernel, rfl⟩
theorem iX11_see_52 : In cX11_see 52 (.getfield 222) 3 55 := ⟨by decide +kernel, rfl⟩
theorem iX11_see_55 : In cX11_see 55 (.iload_n 2) 1 56 := ⟨by decide +kernel, rfl⟩
theorem iX11_see_56 : In cX11_see 56 (.iastore) 1 57 := ⟨by decide +kernel, rfl⟩
theorem iX11_see_57 : In cX11_see 57 (.aload_n 0) 1 58 := ⟨by decide +kernel, rfl⟩
theorem iX11_see_58 : In cX11_see 58 (.dup) 1 59 := ⟨by decide +kernel, rfl⟩
theorem iX11_see_59 : In cX11_see 59 (.getfield 222) 3 62 := ⟨by decide +kernel, rfl⟩
theorem iX11_see_62 : In cX11_see 62 (.iconst 1) 1 63 := ⟨by decide +kernel, rfl⟩
theorem iX11_see_63 : In cX11_see 63 (.iadd) 1 64 := ⟨by decide +kernel, rfl⟩
theorem iX11_see_64 : In cX11_see 64 (.putfield 222) 3 67 := ⟨by decide +kernel, rfl⟩
theorem iX11_see_67 : In cX11_see 67 (.aload_n 0) 1 68 := ⟨by decide +kernel, rfl⟩
theorem iX11_see_68 : In cX11_see 68 (.getfield 222) 3 71 := ⟨by decide +kernel, rfl⟩
theorem iX11_see_71 : In cX11_see 71 (.ireturn) 1 72 := ⟨by decide +kernel, rfl⟩
theorem iX11_unsee_0 : In cX11_unsee 0 (.aload_n 0) 1 1 := ⟨by decide +kernel, rfl⟩
theorem iX11_unsee_1 : In cX11_unsee 1 (.getfield 222) 3 4 := ⟨by decide +kernel, rfl⟩
theorem iX11_unsee_4 : In cX11_unsee 4 (.istore_n 1) 1 5 := ⟨by decide +kernel, rfl⟩
theorem iX11_unsee_5 : In cX11_unsee 5 (.aload_n 0) 1 6 := ⟨by decide +kernel, rfl⟩
theorem iX11_unsee_6 : In cX11_unsee 6 (.iconst 0) 1 7 := ⟨by decide +kernel, rfl⟩
theorem iX11_unsee_7 : In cX11_unsee 7 (.putfield 222) 3 10 := ⟨by decide +kernel, rfl⟩
theorem iX11_unsee_10 : In cX11_unsee 10 (.iload_n 1) 1 11 := ⟨by decide +kernel, rfl⟩
theorem iX11_unsee_11 : In cX11_unsee 11 (.ireturn) 1 12 := ⟨by decide +kernel, rfl⟩
theorem iX11_mayBeMask_0 : In cX11_mayBeMask 0 (.aload_n 0) 1 1 := ⟨by decide +kernel, rfl⟩
theorem iX11_mayBeMask_1 : In cX11_mayBeMask 1 (.getfield 13) 3 4 := ⟨by decide +kernel, rfl⟩
theorem iX11_mayBeMask_4 : In cX11_mayBeMask 4 (.bipush 18) 2 6 := ⟨by decide +kernel, rfl⟩
theorem iX11_mayBeMask_6 : In cX11_mayBeMask 6 (.iload_n 1) 1 7 := ⟨by decide +kernel, rfl⟩
theorem iX11_mayBeMask_7 : In cX11_mayBeMask 7 (.iastore) 1 8 := ⟨by decide +kernel, rfl⟩
theorem iX11_mayBeMask_8 : In cX11_mayBeMask 8 (.aload_n 0) 1 9 := ⟨by decide +kernel, rfl⟩
theorem iX11_mayBeMask_9 : In cX11_mayBeMask 9 (.getfield 13) 3 12 := ⟨by decide +kernel, rfl⟩
theorem iX11_mayBeMask_12 : In cX11_mayBeMask 12 (.bipush 19) 2 14 := ⟨by decide +kernel, rfl⟩
theorem iX11_mayBeMask_14 : In cX11_mayBeMask 14 (.iload_n 2) 1 15 := ⟨by decide +kernel, rfl⟩
theorem iX11_mayBeMask_15 : In cX11_mayBeMask 15 (.iastore) 1 16 := ⟨by decide +kernel, rfl⟩
theorem iX11_mayBeMask_16 : In cX11_mayBeMask 16 (.aload_n 0) 1 17 := ⟨by decide +kernel, rfl⟩
theorem iX11_mayBeMask_17 : In cX11_mayBeMask 17 (.getfield 13) 3 20 := ⟨by decide +kernel, rfl⟩
theorem iX11_mayBeMask_20 : In cX11_mayBeMask 20 (.bipush 20) 2 22 := ⟨by decide +kernel, rfl⟩
theorem iX11_mayBeMask_22 : In cX11_mayBeMask 22 (.iload_n 3) 1 23 := ⟨by decide +kernel, rfl⟩
theorem iX11_mayBeMask_23 : In cX11_mayBeMask 23 (.iastore) 1 24 := ⟨by decide +kernel, rfl⟩
theorem iX11_mayBeMask_24 : In cX11_mayBeMask 24 (.iconst 1) 1 25 := ⟨by decide +kernel, rfl⟩
theorem iX11_mayBeMask_25 : In cX11_mayBeMask 25 (.istore 4) 2 27 := ⟨by decide +kernel, rfl⟩
theorem iX11_mayBeMask_27 : In cX11_mayBeMask 27 (.iconst 0) 1 28 := ⟨by decide +kernel, rfl⟩
theorem iX11_mayBeMask_28 : In cX11_mayBeMask 28 (.istore 5) 2 30 := ⟨by decide +kernel, rfl⟩
theorem iX11_mayBeMask_30 : In cX11_mayBeMask 30 (.iload 5) 2 32 := ⟨by decide +kernel, rfl⟩
theorem iX11_mayBeMask_32 : In cX11_mayBeMask 32 (.aload_n 0) 1 33 := ⟨by decide +kernel, rfl⟩
theorem iX11_mayBeMask_33 : In cX11_mayBeMask 33 (.getfield 222) 3 36 := ⟨by decide +kernel, rfl⟩
theorem iX11_mayBeMask_36 : Jn cX11_mayBeMask 36 (.if_icmp .ge 78) (78) 39 114 := ⟨by decide +kernel, rfl, by decide⟩
theorem iX11_mayBeMask_39 : In cX11_mayBeMask 39 (.aload_n 0) 1 40 := ⟨by decide +kernel, rfl⟩
theorem iX11_mayBeMask_40 : In cX11_mayBeMask 40 (.aload_n 0) 1 41 := ⟨by decide +kernel, rfl⟩
theorem iX11_mayBeMask_41 : In cX11_mayBeMask 41 (.getfield 46) 3 44 := ⟨by decide +kernel, rfl⟩
theorem iX11_mayBeMask_44 : In cX11_mayBeMask 44 (.iload 5) 2 46 := ⟨by decide +kernel, rfl⟩
theorem iX11_mayBeMask_46 : In cX11_mayBeMask 46 (.iaload) 1 47 := ⟨by decide +kernel, rfl⟩
theorem iX11_mayBeMask_47 : In cX11_mayBeMask 47 (.invokevirtual 153) 3 50 := ⟨by decide +kernel, rfl⟩
theorem iX11_mayBeMask_50 : Jn cX11_mayBeMask 50 (.ifCond .eq 58) (58) 53 108 := ⟨by decide +kernel, rfl, by decide⟩
theorem iX11_mayBeMask_53 : In cX11_mayBeMask 53 (.aload_n 0) 1 54 := ⟨by decide +kernel, rfl⟩
theorem iX11_mayBeMask_54 : In cX11_mayBeMask 54 (.bipush 6) 2 56 := ⟨by decide +kernel, rfl⟩
theorem iX11_mayBeMask_56 : In cX11_mayBeMask 56 (.aload_n 0) 1 57 := ⟨by decide +kernel, rfl⟩
theorem iX11_mayBeMask_57 : In cX11_mayBeMask 57 (.getfield 46) 3 60 := ⟨by decide +kernel, rfl⟩
theorem iX11_mayBeMask_60 : In cX11_mayBeMask 60 (.iload 5) 2 62 := ⟨by decide +kernel, rfl⟩
theorem iX11_mayBeMask_62 : In cX11_mayBeMask 62 (.iaload) 1 63 := ⟨by decide +kernel, rfl⟩
theorem iX11_mayBeMask_63 : In cX11_mayBeMask 63 (.iconst 0) 1 64 := ⟨by decide +kernel, rfl⟩
theorem iX11_mayBeMask_64 : In cX11_mayBeMask 64 (.aload_n 0) 1 65 := ⟨by decide +kernel, rfl⟩
theorem iX11_mayBeMask_65 : In cX11_mayBeMask 65 (.getfield 22) 3 68 := ⟨by decide +kernel, rfl⟩
theorem iX11_mayBeMask_68 : In cX11_mayBeMask 68 (.bipush 11) 2 70 := ⟨by decide +kernel, rfl⟩
theorem iX11_mayBeMask_70 : In cX11_mayBeMask 70 (.aload_n 0) 1 71 := ⟨by decide +kernel, rfl⟩
theorem iX11_mayBeMask_71 : In cX11_mayBeMask 71 (.getfield 46) 3 74 := ⟨by decide +kernel, rfl⟩
theorem iX11_mayBeMask_74 : In cX11_mayBeMask 74 (.iload 5) 2 76 := ⟨by decide +kernel, rfl⟩
theorem iX11_mayBeMask_76 : In cX11_mayBeMask 76 (.iaload) 1 77 := ⟨by decide +kernel, rfl⟩
theorem iX11_mayBeMask_77 : In cX11_mayBeMask 77 (.iadd) 1 78 := ⟨by decide +kernel, rfl⟩
theorem iX11_mayBeMask_78 : In cX11_mayBeMask 78 (.iaload) 1 79 := ⟨by decide +kernel, rfl⟩
theorem iX11_mayBeMask_79 : In cX11_mayBeMask 79 (.invokevirtual 141) 3 82 := ⟨by decide +kernel, rfl⟩
theorem iX11_mayBeMask_82 : In cX11_mayBeMask 82 (.iload 4) 2 84 := ⟨by decide +kernel, rfl⟩
theorem iX11_mayBeMask_84 : Jn cX11_mayBeMask 84 (.ifCond .eq 21) (21) 87 105 := ⟨by decide +kernel, rfl, by decide⟩
theorem iX11_mayBeMask_87 : In cX11_mayBeMask 87 (.aload_n 0) 1 88 := ⟨by decide +kernel, rfl⟩
theorem iX11_mayBeMask_88 : In cX11_mayBeMask 88 (.getfield 128) 3 91 := ⟨by decide +kernel, rfl⟩
theorem iX11_mayBeMask_91 : In cX11_mayBeMask 91 (.aload_n 0) 1 92 := ⟨by decide +kernel, rfl⟩
theorem iX11_mayBeMask_92 : In cX11_mayBeMask 92 (.getfield 49) 3 95 := ⟨by decide +kernel, rfl⟩
theorem iX11_mayBeMask_95 : In cX11_mayBeMask 95 (.iload 5) 2 97 := ⟨by decide +kernel, rfl⟩
theorem iX11_mayBeMask_97 : In cX11_mayBeMask 97 (.iaload) 1 98 := ⟨by decide +kernel, rfl⟩
theorem iX11_mayBeMask_98 : Jn cX11_mayBeMask 98 (.if_icmp .ne 7) (7) 101 105 := ⟨by decide +kernel, rfl, by decide⟩
theorem iX11_mayBeMask_101 : In cX11_mayBeMask 101 (.iconst 1) 1 102 := ⟨by decide +kernel, rfl⟩
theorem iX11_mayBeMask_102 : Jn cX11_mayBeMask 102 (.goto 4) (4) 105 106 := ⟨by decide +kernel, rfl, by decide⟩
theorem iX11_mayBeMask_105 : In cX11_mayBeMask 105 (.iconst 0) 1 106 := ⟨by decide +kernel, rfl⟩
theorem iX11_mayBeMask_106 : In cX11_mayBeMask 106 (.istore 4) 2 108 := ⟨by decide +kernel, rfl⟩
theorem iX11_mayBeMask_108 : In cX11_mayBeMask 108 (.iinc 5 1) 3 111 := ⟨by decide +kernel, rfl⟩
theorem iX11_mayBeMask_111 : Jn cX11_mayBeMask 111 (.goto (-81)) (-81) 114 30 := ⟨by decide +kernel, rfl, by decide⟩
theorem iX11_mayBeMask_114 : In cX11_mayBeMask 114 (.iload 4) 2 116 := ⟨by decide +kernel, rfl⟩
theorem iX11_mayBeMask_116 : In cX11_mayBeMask 116 (.ireturn) 1 117 := ⟨by decide +kernel, rfl⟩
theorem iX11_masks_0 : In cX11_masks 0 (.iload_n 1) 1 1 := ⟨by decide +kernel, rfl⟩
theorem iX11_masks_1 : In cX11_masks 1 (.i2l) 1 2 := ⟨by decide +kernel, rfl⟩
theorem iX11_masks_2 : In cX11_masks 2 (.lconst 0) 1 3 := ⟨by decide +kernel, rfl⟩
theorem iX11_masks_3 : In cX11_masks 3 (.lconst 1) 1 4 := ⟨by decide +kernel, rfl⟩
theorem iX11_masks_4 : In cX11_masks 4 (.invokestatic 61) 3 7 := ⟨by decide +kernel, rfl⟩
theorem iX11_masks_7 : Jn cX11_masks 7 (.ifCond .ne 6) (6) 10 13 := ⟨by decide +kernel, rfl, by decide⟩
theorem iX11_masks_10 : In cX11_masks 10 (.bipush (-2)) 2 12 := ⟨by decide +kernel, rfl⟩
theorem iX11_masks_12 : In cX11_masks 12 (.ireturn) 1 13 := ⟨by decide +kernel, rfl⟩
theorem iX11_masks_13 : In cX11_masks 13 (.iconst 0) 1 14 := ⟨by decide +kernel, rfl⟩
theorem iX11_masks_14 : In cX11_masks 14 (.istore_n 2) 1 15 := ⟨by decide +kernel, rfl⟩
theorem iX11_masks_15 : In cX11_masks 15 (.bipush (-9)) 2 17 := ⟨by decide +kernel, rfl⟩
theorem iX11_masks_17 : In cX11_masks 17 (.istore_n 3) 1 18 := ⟨by decide +kernel, rfl⟩
theorem iX11_masks_18 : In cX11_masks 18 (.iconst 0) 1 19 := ⟨by decide +kernel, rfl⟩
theorem iX11_masks_19 : In cX11_masks 19 (.istore 4) 2 21 := ⟨by decide +kernel, rfl⟩
theorem iX11_masks_21 : In cX11_masks 21 (.iload 4) 2 23 := ⟨by decide +kernel, rfl⟩
theorem iX11_masks_23 : In cX11_masks 23 (.bipush 64) 2 25 := ⟨by decide +kernel, rfl⟩
theorem iX11_masks_25 : Jn cX11_masks 25 (.if_icmp .ge 75) (75) 28 100 := ⟨by decide +kernel, rfl, by decide⟩
theorem iX11_masks_28 : In cX11_masks 28 (.iconst 1) 1 29 := ⟨by decide +kernel, rfl⟩
theorem iX11_masks_29 : In cX11_masks 29 (.iload 4) 2 31 := ⟨by decide +kernel, rfl⟩
theorem iX11_masks_31 : In cX11_masks 31 (.bipush 16) 2 33 := ⟨by decide +kernel, rfl⟩
theorem iX11_masks_33 : In cX11_masks 33 (.idiv) 1 34 := ⟨by decide +kernel, rfl⟩
theorem iX11_masks_34 : In cX11_masks 34 (.iadd) 1 35 := ⟨by decide +kernel, rfl⟩
theorem iX11_masks_35 : In cX11_masks 35 (.istore 5) 2 37 := ⟨by decide +kernel, rfl⟩
theorem iX11_masks_37 : In cX11_masks 37 (.iconst 1) 1 38 := ⟨by decide +kernel, rfl⟩
theorem iX11_masks_38 : In cX11_masks 38 (.iload 4) 2 40 := ⟨by decide +kernel, rfl⟩
theorem iX11_masks_40 : In cX11_masks 40 (.iconst 4) 1 41 := ⟨by decide +kernel, rfl⟩
theorem iX11_masks_41 : In cX11_masks 41 (.idiv) 1 42 := ⟨by decide +kernel, rfl⟩
theorem iX11_masks_42 : In cX11_masks 42 (.iconst 4) 1 43 := ⟨by decide +kernel, rfl⟩
theorem iX11_masks_43 : In cX11_masks 43 (.irem) 1 44 := ⟨by decide +kernel, rfl⟩
theorem iX11_masks_44 : In cX11_masks 44 (.iadd) 1 45 := ⟨by decide +kernel, rfl⟩
theorem iX11_masks_45 : In cX11_masks 45 (.istore 6) 2 47 := ⟨by decide +kernel, rfl⟩
theorem iX11_masks_47 : In cX11_masks 47 (.iconst 1) 1 48 := ⟨by decide +kernel, rfl⟩
theorem iX11_masks_48 : In cX11_masks 48 (.iload 4) 2 50 := ⟨by decide +kernel, rfl⟩
theorem iX11_masks_50 : In cX11_masks 50 (.iconst 4) 1 51 := ⟨by decide +kernel, rfl⟩
theorem iX11_masks_51 : In cX11_masks 51 (.irem) 1 52 := ⟨by decide +kernel, rfl⟩
theorem iX11_masks_52 : In cX11_masks 52 (.iadd) 1 53 := ⟨by decide +kernel, rfl⟩
theorem iX11_masks_53 : In cX11_masks 53 (.istore 7) 2 55 := ⟨by decide +kernel, rfl⟩
theorem iX11_masks_55 : In cX11_masks 55 (.aload_n 0) 1 56 := ⟨by decide +kernel, rfl⟩
theorem iX11_masks_56 : In cX11_masks 56 (.iload 5) 2 58 := ⟨by decide +kernel, rfl⟩
theorem iX11_masks_58 : In cX11_masks 58 (.iload 6) 2 60 := ⟨by decide +kernel, rfl⟩
theorem iX11_masks_60 : In cX11_masks 60 (.iload 7) 2 62 := ⟨by decide +kernel, rfl⟩
theorem iX11_masks_62 : In cX11_masks 62 (.invokevirtual 225) 3 65 := ⟨by decide +kernel, rfl⟩
theorem iX11_masks_65 : Jn cX11_masks 65 (.ifCond .eq 29) (29) 68 94 := ⟨by decide +kernel, rfl, by decide⟩
theorem iX11_masks_68 : In cX11_masks 68 (.iload_n 2) 1 69 := ⟨by decide +kernel, rfl⟩
theorem iX11_masks_69 : Jn cX11_masks 69 (.ifCond .ne 20) (20) 72 89 := ⟨by decide +kernel, rfl, by decide⟩
theorem iX11_masks_72 : In cX11_masks 72 (.bipush 100) 2 74 := ⟨by decide +kernel, rfl⟩
theorem iX11_masks_74 : In cX11_masks 74 (.iload 5) 2 76 := ⟨by decide +kernel, rfl⟩
theorem iX11_masks_76 : In cX11_masks 76 (.imul) 1 77 := ⟨by decide +kernel, rfl⟩
theorem iX11_masks_77 : In cX11_masks 77 (.bipush 10) 2 79 := ⟨by decide +kernel, rfl⟩
theorem iX11_masks_79 : In cX11_masks 79 (.iload 6) 2 81 := ⟨by decide +kernel, rfl⟩
theorem iX11_masks_81 : In cX11_masks 81 (.imul) 1 82 := ⟨by decide +kernel, rfl⟩
theorem iX11_masks_82 : In cX11_masks 82 (.iadd) 1 83 := ⟨by decide +kernel, rfl⟩
theorem iX11_masks_83 : In cX11_masks 83 (.iload 7) 2 85 := ⟨by decide +kernel, rfl⟩
theorem iX11_masks_85 : In cX11_masks 85 (.iadd) 1 86 := ⟨by decide +kernel, rfl⟩
theorem iX11_masks_86 : Jn cX11_masks 86 (.goto 4) (4) 89 90 := ⟨by decide +kernel, rfl, by decide⟩
theorem iX11_masks_89 : In cX11_masks 89 (.iload_n 3) 1 90 := ⟨by decide +kernel, rfl⟩
theorem iX11_masks_90 : In cX11_masks 90 (.istore_n 3) 1 91 := ⟨by decide +kernel, rfl⟩
theorem iX11_masks_91 : In cX11_masks 91 (.iinc 2 1) 3 94 := ⟨by decide +kernel, rfl⟩
theorem iX11_masks_94 : In cX11_masks 94 (.iinc 4 1) 3 97 := ⟨by decide +kernel, rfl⟩
theorem iX11_masks_97 : Jn cX11_masks 97 (.goto (-76)) (-76) 100 21 := ⟨by decide +kernel, rfl, by decide⟩
theorem iX11_masks_100 : In cX11_masks 100 (.iload_n 1) 1 101 := ⟨by decide +kernel, rfl⟩
theorem iX11_masks_101 : Jn cX11_masks 101 (.ifCond .ne 7) (7) 104 108 := ⟨by decide +kernel, rfl, by decide⟩
theorem iX11_masks_104 : In cX11_masks 104 (.iload_n 2) 1 105 := ⟨by decide +kernel, rfl⟩
theorem iX11_masks_105 : Jn cX11_masks 105 (.goto 4) (4) 108 109 := ⟨by decide +kernel, rfl, by decide⟩
theorem iX11_masks_108 : In cX11_masks 108 (.iload_n 3) 1 109 := ⟨by decide +kernel, rfl⟩
theorem iX11_masks_109 : In cX11_masks 109 (.ireturn) 1 110 := ⟨by decide +kernel, rfl⟩
theorem iX11_factorial_0 : In cX11_factorial 0 (.iconst 1) 1 1 := ⟨by decide +kernel, rfl⟩
theorem iX11_factorial_1 : In cX11_factorial 1 (.istore_n 1) 1 2 := ⟨by decide +kernel, rfl⟩
theorem iX11_factorial_2 : In cX11_factorial 2 (.iconst 2) 1 3 := ⟨by decide +kernel, rfl⟩
theorem iX11_factorial_3 : In cX11_factorial 3 (.istore_n 2) 1 4 := ⟨by decide +kernel, rfl⟩
theorem iX11_factorial_4 : In cX11_factorial 4 (.iload_n 2) 1 5 := ⟨by decide +kernel, rfl⟩
theorem iX11_factorial_5 : In cX11_factorial 5 (.iload_n 0) 1 6 := ⟨by decide +kernel, rfl⟩
theorem iX11_factorial_6 : Jn cX11_factorial 6 (.if_icmp .gt 13) (13) 9 19 := ⟨by decide +kernel, rfl, by decide⟩
theorem iX11_factorial_9 : In cX11_factorial 9 (.iload_n 1) 1 10 := ⟨by decide +kernel, rfl⟩
theorem iX11_factorial_10 : In cX11_factorial 10 (.iload_n 2) 1 11 := ⟨by decide +kernel, rfl⟩
theorem iX11_factorial_11 : In cX11_factorial 11 (.imul) 1 12 := ⟨by decide +kernel, rfl⟩
theorem iX11_factorial_12 : In cX11_factorial 12 (.istore_n 1) 1 13 := ⟨by decide +kernel, rfl⟩
theorem iX11_factorial_13 : In cX11_factorial 13 (.iinc 2 1) 3 16 := ⟨by decide +kernel, rfl⟩
theorem iX11_factorial_16 : Jn cX11_factorial 16 (.goto (-12)) (-12) 19 4 := ⟨by decide +kernel, rfl, by decide⟩
theorem iX11_factorial_19 : In cX11_factorial 19 (.iload_n 1) 1 20 := ⟨by decide +kernel, rfl⟩
theorem iX11_factorial_20 : In cX11_factorial 20 (.ireturn) 1 21 := ⟨by decide +kernel, rfl⟩
theorem iX11_common_0 : In cX11_common 0 (.iload_n 0) 1 1 := ⟨by decide +kernel, rfl⟩
theorem iX11_common_1 : Jn cX11_common 1 (.ifCond .ge 8) (8) 4 9 := ⟨by decide +kernel, rfl, by decide⟩
theorem iX11_common_4 : In cX11_common 4 (.iload_n 0) 1 5 := ⟨by decide +kernel, rfl⟩
theorem iX11_common_5 : In cX11_common 5 (.ineg) 1 6 := ⟨by decide +kernel, rfl⟩
theorem iX11_common_6 : Jn cX11_common 6 (.goto 4) (4) 9 10 := ⟨by decide +kernel, rfl, by decide⟩
theorem iX11_common_9 : In cX11_common 9 (.iload_n 0) 1 10 := ⟨by decide +kernel, rfl⟩
theorem iX11_common_10 : In cX11_common 10 (.istore_n 2) 1 11 := ⟨by decide +kernel, rfl⟩
theorem iX11_common_11 : In cX11_common 11 (.iload_n 1) 1 12 := ⟨by decide +kernel, rfl⟩
theorem iX11_common_12 : In cX11_common 12 (.istore_n 3) 1 13 := ⟨by decide +kernel, rfl⟩
theorem iX11_common_13 : In cX11_common 13 (.iload_n 3) 1 14 := ⟨by decide +kernel, rfl⟩
theorem iX11_common_14 : Jn cX11_common 14 (.ifCond .eq 16) (16) 17 30 := ⟨by decide +kernel, rfl, by decide⟩
theorem iX11_common_17 : In cX11_common 17 (.iload_n 2) 1 18 := ⟨by decide +kernel, rfl⟩
theorem iX11_common_18 : In cX11_common 18 (.iload_n 3) 1 19 := ⟨by decide +kernel, rfl⟩
theorem iX11_common_19 : In cX11_common 19 (.irem) 1 20 := ⟨by decide +kernel, rfl⟩
theorem iX11_common_20 : In cX11_common 20 (.istore 4) 2 22 := ⟨by decide +kernel, rfl⟩
theorem iX11_common_22 : In cX11_common 22 (.iload_n 3) 1 23 := ⟨by decide +kernel, rfl⟩
theorem iX11_common_23 : In cX11_common 23 (.istore_n 2) 1 24 := ⟨by decide +kernel, rfl⟩
theorem iX11_common_24 : In cX11_common 24 (.iload 4) 2 26 := ⟨by decide +kernel, rfl⟩
theorem iX11_common_26 : In cX11_common 26 (.istore_n 3) 1 27 := ⟨by decide +kernel, rfl⟩
theorem iX11_common_27 : Jn cX11_common 27 (.goto (-14)) (-14) 30 13 := ⟨by decide +kernel, rfl, by decide⟩
theorem iX11_common_30 : In cX11_common 30 (.iload_n 2) 1 31 := ⟨by decide +kernel, rfl⟩
theorem iX11_common_31 : In cX11_common 31 (.ireturn) 1 32 := ⟨by decide +kernel, rfl⟩
theorem iX11_beatenBySome_0 : In cX11_beatenBySome 0 (.iconst 0) 1 1 := ⟨by decide +kernel, rfl⟩
theorem iX11_beatenBySome_1 : In cX11_beatenBySome 1 (.istore_n 2) 1 2 := ⟨by decide +kernel, rfl⟩
theorem iX11_beatenBySome_2 : In cX11_beatenBySome 2 (.iconst 0) 1 3 := ⟨by decide +kernel, rfl⟩
theorem iX11_beatenBySome_3 : In cX11_beatenBySome 3 (.istore_n 3) 1 4 := ⟨by decide +kernel, rfl⟩
theorem iX11_beatenBySome_4 : In cX11_beatenBySome 4 (.iload_n 3) 1 5 := ⟨by decide +kernel, rfl⟩
theorem iX11_beatenBySome_5 : In cX11_beatenBySome 5 (.aload_n 0) 1 6 := ⟨by decide +kernel, rfl⟩
theorem iX11_beatenBySome_6 : In cX11_beatenBySome 6 (.getfield 99) 3 9 := ⟨by decide +kernel, rfl⟩
theorem iX11_beatenBySome_9 : Jn cX11_beatenBySome 9 (.if_icmp .ge 30) (30) 12 39 := ⟨by decide +kernel, rfl, by decide⟩
theorem iX11_beatenBySome_12 : In cX11_beatenBySome 12 (.iload_n 2) 1 13 := ⟨by decide +kernel, rfl⟩
theorem iX11_beatenBySome_13 : In cX11_beatenBySome 13 (.iload_n 1) 1 14 := ⟨by decide +kernel, rfl⟩
theorem iX11_beatenBySome_14 : In cX11_beatenBySome 14 (.iload_n 3) 1 15 := ⟨by decide +kernel, rfl⟩
theorem iX11_beatenBySome_15 : In cX11_beatenBySome 15 (.invokestatic 195) 3 18 := ⟨by decide +kernel, rfl⟩
theorem iX11_beatenBySome_18 : Jn cX11_beatenBySome 18 (.ifCond .eq 12) (12) 21 30 := ⟨by decide +kernel, rfl, by decide⟩
theorem iX11_beatenBySome_21 : In cX11_beatenBySome 21 (.aload_n 0) 1 22 := ⟨by decide +kernel, rfl⟩
theorem iX11_beatenBySome_22 : In cX11_beatenBySome 22 (.getfield 43) 3 25 := ⟨by decide +kernel, rfl⟩
theorem iX11_beatenBySome_25 : In cX11_beatenBySome 25 (.iload_n 3) 1 26 := ⟨by decide +kernel, rfl⟩
theorem iX11_beatenBySome_26 : In cX11_beatenBySome 26 (.iaload) 1 27 := ⟨by decide +kernel, rfl⟩
theorem iX11_beatenBySome_27 : Jn cX11_beatenBySome 27 (.goto 4) (4) 30 31 := ⟨by decide +kernel, rfl, by decide⟩
theorem iX11_beatenBySome_30 : In cX11_beatenBySome 30 (.iconst 0) 1 31 := ⟨by decide +kernel, rfl⟩
theorem iX11_beatenBySome_31 : In cX11_beatenBySome 31 (.ior) 1 32 := ⟨by decide +kernel, rfl⟩
theorem iX11_beatenBySome_32 : In cX11_beatenBySome 32 (.istore_n 2) 1 33 := ⟨by decide +kernel, rfl⟩
theorem iX11_beatenBySome_33 : In cX11_beatenBySome 33 (.iinc 3 1) 3 36 := ⟨by decide +kernel, rfl⟩
theorem iX11_beatenBySome_36 : Jn cX11_beatenBySome 36 (.goto (-32)) (-32) 39 4 := ⟨by decide +kernel, rfl, by decide⟩
theorem iX11_beatenBySome_39 : In cX11_beatenBySome 39 (.iload_n 2) 1 40 := ⟨by decide +kernel, rfl⟩
theorem iX11_beatenBySome_40 : In cX11_beatenBySome 40 (.invokestatic 228) 3 43 := ⟨by decide +kernel, rfl⟩
theorem iX11_beatenBySome_43 : In cX11_beatenBySome 43 (.ireturn) 1 44 := ⟨by decide +kernel, rfl⟩
theorem iX11_share_0 : In cX11_share 0 (.aload_n 0) 1 1 := ⟨by decide +kernel, rfl⟩
theorem iX11_share_1 : In cX11_share 1 (.iload_n 1) 1 2 := ⟨by decide +kernel, rfl⟩
theorem iX11_share_2 : In cX11_share 2 (.invokevirtual 153) 3 5 := ⟨by decide +kernel, rfl⟩
theorem iX11_share_5 : Jn cX11_share 5 (.ifCond .ne 5) (5) 8 10 := ⟨by decide +kernel, rfl, by decide⟩
theorem iX11_share_8 : In cX11_share 8 (.iconst (-1)) 1 9 := ⟨by decide +kernel, rfl⟩
theorem iX11_share_9 : In cX11_share 9 (.ireturn) 1 10 := ⟨by decide +kernel, rfl⟩
theorem iX11_share_10 : In cX11_share 10 (.iconst 0) 1 11 := ⟨by decide +kernel, rfl⟩
theorem iX11_share_11 : In cX11_share 11 (.istore_n 3) 1 12 := ⟨by decide +kernel, rfl⟩
theorem iX11_share_12 : In cX11_share 12 (.iload_n 3) 1 13 := ⟨by decide +kernel, rfl⟩
theorem iX11_share_13 : In cX11_share 13 (.aload_n 0) 1 14 := ⟨by decide +kernel, rfl⟩
theorem iX11_share_14 : In cX11_share 14 (.getfield 99) 3 17 := ⟨by decide +kernel, rfl⟩
theorem iX11_share_17 : Jn cX11_share 17 (.if_icmp .ge 20) (20) 20 37 := ⟨by decide +kernel, rfl, by decide⟩
theorem iX11_share_20 : In cX11_share 20 (.aload_n 0) 1 21 := ⟨by decide +kernel, rfl⟩
theorem iX11_share_21 : In cX11_share 21 (.getfield 43) 3 24 := ⟨by decide +kernel, rfl⟩
theorem iX11_share_24 : In cX11_share 24 (.iload_n 3) 1 25 := ⟨by decide +kernel, rfl⟩
theorem iX11_share_25 : In cX11_share 25 (.aload_n 0) 1 26 := ⟨by decide +kernel, rfl⟩
theorem iX11_share_26 : In cX11_share 26 (.iload_n 3) 1 27 := ⟨by decide +kernel, rfl⟩
theorem iX11_share_27 : In cX11_share 27 (.invokevirtual 160) 3 30 := ⟨by decide +kernel, rfl⟩
theorem iX11_share_30 : In cX11_share 30 (.iastore) 1 31 := ⟨by decide +kernel, rfl⟩
theorem iX11_share_31 : In cX11_share 31 (.iinc 3 1) 3 34 := ⟨by decide +kernel, rfl⟩
theorem iX11_share_34 : Jn cX11_share 34 (.goto (-22)) (-22) 37 12 := ⟨by decide +kernel, rfl, by decide⟩
theorem iX11_share_37 : In cX11_share 37 (.iconst 0) 1 38 := ⟨by decide +kernel, rfl⟩
theorem iX11_share_38 : In cX11_share 38 (.istore_n 3) 1 39 := ⟨by decide +kernel, rfl⟩
theorem iX11_share_39 : In cX11_share 39 (.iconst 0) 1 40 := ⟨by decide +kernel, rfl⟩
theorem iX11_share_40 : In cX11_share 40 (.istore 4) 2 42 := ⟨by decide +kernel, rfl⟩
theorem iX11_share_42 : In cX11_share 42 (.iload 4) 2 44 := ⟨by decide +kernel, rfl⟩
theorem iX11_share_44 : In cX11_share 44 (.iconst 1) 1 45 := ⟨by decide +kernel, rfl⟩
theorem iX11_share_45 : In cX11_share 45 (.aload_n 0) 1 46 := ⟨by decide +kernel, rfl⟩
theorem iX11_share_46 : In cX11_share 46 (.getfield 99) 3 49 := ⟨by decide +kernel, rfl⟩
theorem iX11_share_49 : In cX11_share 49 (.ishl) 1 50 := ⟨by decide +kernel, rfl⟩
theorem iX11_share_50 : Jn cX11_share 50 (.if_icmp .ge 67) (67) 53 117 := ⟨by decide +kernel, rfl, by decide⟩
theorem iX11_share_53 : In cX11_share 53 (.iload 4) 2 55 := ⟨by decide +kernel, rfl⟩
theorem iX11_share_55 : In cX11_share 55 (.iload_n 1) 1 56 := ⟨by decide +kernel, rfl⟩
theorem iX11_share_56 : In cX11_share 56 (.invokestatic 195) 3 59 := ⟨by decide +kernel, rfl⟩
theorem iX11_share_59 : Jn cX11_share 59 (.ifCond .ne 52) (52) 62 111 := ⟨by decide +kernel, rfl, by decide⟩
theorem iX11_share_62 : In cX11_share 62 (.iload 4) 2 64 := ⟨by decide +kernel, rfl⟩
theorem iX11_share_64 : In cX11_share 64 (.invokestatic 228) 3 67 := ⟨by decide +kernel, rfl⟩
theorem iX11_share_67 : In cX11_share 67 (.invokestatic 231) 3 70 := ⟨by decide +kernel, rfl⟩
theorem iX11_share_70 : In cX11_share 70 (.aload_n 0) 1 71 := ⟨by decide +kernel, rfl⟩
theorem iX11_share_71 : In cX11_share 71 (.getfield 99) 3 74 := ⟨by decide +kernel, rfl⟩
theorem iX11_share_74 : In cX11_share 74 (.iconst 1) 1 75 := ⟨by decide +kernel, rfl⟩
theorem iX11_share_75 : In cX11_share 75 (.isub) 1 76 := ⟨by decide +kernel, rfl⟩
theorem iX11_share_76 : In cX11_share 76 (.iload 4) 2 78 := ⟨by decide +kernel, rfl⟩
theorem iX11_share_78 : In cX11_share 78 (.invokestatic 228) 3 81 := ⟨by decide +kernel, rfl⟩
theorem iX11_share_81 : In cX11_share 81 (.isub) 1 82 := ⟨by decide +kernel, rfl⟩
theorem iX11_share_82 : In cX11_share 82 (.invokestatic 231) 3 85 := ⟨by decide +kernel, rfl⟩
theorem iX11_share_85 : In cX11_share 85 (.imul) 1 86 := ⟨by decide +kernel, rfl⟩
theorem iX11_share_86 : In cX11_share 86 (.istore 5) 2 88 := ⟨by decide +kernel, rfl⟩
theorem iX11_share_88 : In cX11_share 88 (.iload_n 3) 1 89 := ⟨by decide +kernel, rfl⟩
theorem iX11_share_89 : In cX11_share 89 (.iload 5) 2 91 := ⟨by decide +kernel, rfl⟩
theorem iX11_share_91 : In cX11_share 91 (.aload_n 0) 1 92 := ⟨by decide +kernel, rfl⟩
theorem iX11_share_92 : In cX11_share 92 (.iload 4) 2 94 := ⟨by decide +kernel, rfl⟩
theorem iX11_share_94 : In cX11_share 94 (.iconst 1) 1 95 := ⟨by decide +kernel, rfl⟩
theorem iX11_share_95 : In cX11_share 95 (.iload_n 1) 1 96 := ⟨by decide +kernel, rfl⟩
theorem iX11_share_96 : In cX11_share 96 (.ishl) 1 97 := ⟨by decide +kernel, rfl⟩
theorem iX11_share_97 : In cX11_share 97 (.ior) 1 98 := ⟨by decide +kernel, rfl⟩
theorem iX11_share_98 : In cX11_share 98 (.invokevirtual 234) 3 101 := ⟨by decide +kernel, rfl⟩
theorem iX11_share_101 : In cX11_share 101 (.aload_n 0) 1 102 := ⟨by decide +kernel, rfl⟩
theorem iX11_share_102 : In cX11_share 102 (.iload 4) 2 104 := ⟨by decide +kernel, rfl⟩
theorem iX11_share_104 : In cX11_share 104 (.invokevirtual 234) 3 107 := ⟨by decide +kernel, rfl⟩
theorem iX11_share_107 : In cX11_share 107 (.isub) 1 108 := ⟨by decide +kernel, rfl⟩
theorem iX11_share_108 : In cX11_share 108 (.imul) 1 109 := ⟨by decide +kernel, rfl⟩
theorem iX11_share_109 : In cX11_share 109 (.iadd) 1 110 := ⟨by decide +kernel, rfl⟩
theorem iX11_share_110 : In cX11_share 110 (.istore_n 3) 1 111 := ⟨by decide +kernel, rfl⟩
theorem iX11_share_111 : In cX11_share 111 (.iinc 4 1) 3 114 := ⟨by decide +kernel, rfl⟩
theorem iX11_share_114 : Jn cX11_share 114 (.goto (-72)) (-72) 117 42 := ⟨by decide +kernel, rfl, by decide⟩
theorem iX11_share_117 : In cX11_share 117 (.iload_n 3) 1 118 := ⟨by decide +kernel, rfl⟩
theorem iX11_share_118 : In cX11_share 118 (.aload_n 0) 1 119 := ⟨by decide +kernel, rfl⟩
theorem iX11_share_119 : In cX11_share 119 (.getfield 99) 3 122 := ⟨by decide +kernel, rfl⟩
theorem iX11_share_122 : In cX11_share 122 (.invokestatic 231) 3 125 := ⟨by decide +kernel, rfl⟩
theorem iX11_share_125 : In cX11_share 125 (.invokestatic 237) 3 128 := ⟨by decide +kernel, rfl⟩
theorem iX11_share_128 : In cX11_share 128 (.istore 4) 2 130 := ⟨by decide +kernel, rfl⟩
theorem iX11_share_130 : In cX11_share 130 (.iload_n 2) 1 131 := ⟨by decide +kernel, rfl⟩
theorem iX11_share_131 : Jn cX11_share 131 (.ifCond .eq 10) (10) 134 141 := ⟨by decide +kernel, rfl, by decide⟩
theorem iX11_share_134 : In cX11_share 134 (.iload_n 3) 1 135 := ⟨by decide +kernel, rfl⟩
theorem iX11_share_135 : In cX11_share 135 (.iload 4) 2 137 := ⟨by decide +kernel, rfl⟩
theorem iX11_share_137 : In cX11_share 137 (.idiv) 1 138 := ⟨by decide +kernel, rfl⟩
theorem iX11_share_138 : Jn cX11_share 138 (.goto 13) (13) 141 151 := ⟨by decide +kernel, rfl, by decide⟩
theorem iX11_share_141 : In cX11_share 141 (.aload_n 0) 1 142 := ⟨by decide +kernel, rfl⟩
theorem iX11_share_142 : In cX11_share 142 (.getfield 99) 3 145 := ⟨by decide +kernel, rfl⟩
theorem iX11_share_145 : In cX11_share 145 (.invokestatic 231) 3 148 := ⟨by decide +kernel, rfl⟩
theorem iX11_share_148 : In cX11_share 148 (.iload 4) 2 150 := ⟨by decide +kernel, rfl⟩
theorem iX11_share_150 : In cX11_share 150 (.idiv) 1 151 := ⟨by decide +kernel, rfl⟩
theorem iX11_share_151 : In cX11_share 151 (.ireturn) 1 152 := ⟨by decide +kernel, rfl⟩
theorem iX11_more_0 : In cX11_more 0 (.aload_n 0) 1 1 := ⟨by decide +kernel, rfl⟩
theorem iX11_more_1 : In cX11_more 1 (.iload_n 1) 1 2 := ⟨by decide +kernel, rfl⟩
theorem iX11_more_2 : In cX11_more 2 (.iload_n 2) 1 3 := ⟨by decide +kernel, rfl⟩
theorem iX11_more_3 : In cX11_more 3 (.iload_n 3) 1 4 := ⟨by decide +kernel, rfl⟩
theorem iX11_more_4 : In cX11_more 4 (.iload 4) 2 6 := ⟨by decide +kernel, rfl⟩
theorem iX11_more_6 : In cX11_more 6 (.invokevirtual 141) 3 9 := ⟨by decide +kernel, rfl⟩
theorem iX11_more_9 : In cX11_more 9 (.aload_n 0) 1 10 := ⟨by decide +kernel, rfl⟩
theorem iX11_more_10 : In cX11_more 10 (.getfield 128) 3 13 := ⟨by decide +kernel, rfl⟩
theorem iX11_more_13 : In cX11_more 13 (.aload_n 0) 1 14 := ⟨by decide +kernel, rfl⟩
theorem iX11_more_14 : In cX11_more 14 (.getfield 131) 3 17 := ⟨by decide +kernel, rfl⟩
theorem iX11_more_17 : In cX11_more 17 (.isub) 1 18 := ⟨by decide +kernel, rfl⟩
theorem iX11_more_18 : In cX11_more 18 (.ireturn) 1 19 := ⟨by decide +kernel, rfl⟩
theorem iX11_isRest_0 : In cX11_isRest 0 (.iconst 1) 1 1 := ⟨by decide +kernel, rfl⟩
theorem iX11_isRest_1 : In cX11_isRest 1 (.istore 5) 2 3 := ⟨by decide +kernel, rfl⟩
theorem iX11_isRest_3 : In cX11_isRest 3 (.iconst 0) 1 4 := ⟨by decide +kernel, rfl⟩
theorem iX11_isRest_4 : In cX11_isRest 4 (.istore 6) 2 6 := ⟨by decide +kernel, rfl⟩
theorem iX11_isRest_6 : In cX11_isRest 6 (.iload 6) 2 8 := ⟨by decide +kernel, rfl⟩
theorem iX11_isRest_8 : In cX11_isRest 8 (.iconst 3) 1 9 := ⟨by decide +kernel, rfl⟩
theorem iX11_isRest_9 : Jn cX11_isRest 9 (.if_icmp .ge 64) (64) 12 73 := ⟨by decide +kernel, rfl, by decide⟩
theorem iX11_isRest_12 : In cX11_isRest 12 (.iload 5) 2 14 := ⟨by decide +kernel, rfl⟩
theorem iX11_isRest_14 : Jn cX11_isRest 14 (.ifCond .eq 50) (50) 17 64 := ⟨by decide +kernel, rfl, by decide⟩
theorem iX11_isRest_17 : In cX11_isRest 17 (.aload_n 0) 1 18 := ⟨by decide +kernel, rfl⟩
theorem iX11_isRest_18 : In cX11_isRest 18 (.iload_n 1) 1 19 := ⟨by decide +kernel, rfl⟩
theorem iX11_isRest_19 : In cX11_isRest 19 (.iload_n 2) 1 20 := ⟨by decide +kernel, rfl⟩
theorem iX11_isRest_20 : In cX11_isRest 20 (.iload 6) 2 22 := ⟨by decide +kernel, rfl⟩
theorem iX11_isRest_22 : In cX11_isRest 22 (.iload 4) 2 24 := ⟨by decide +kernel, rfl⟩
theorem iX11_isRest_24 : In cX11_isRest 24 (.invokevirtual 241) 3 27 := ⟨by decide +kernel, rfl⟩
theorem iX11_isRest_27 : In cX11_isRest 27 (.aload_n 0) 1 28 := ⟨by decide +kernel, rfl⟩
theorem iX11_isRest_28 : In cX11_isRest 28 (.iload_n 1) 1 29 := ⟨by decide +kernel, rfl⟩
theorem iX11_isRest_29 : In cX11_isRest 29 (.iload_n 2) 1 30 := ⟨by decide +kernel, rfl⟩
theorem iX11_isRest_30 : In cX11_isRest 30 (.iload_n 3) 1 31 := ⟨by decide +kernel, rfl⟩
theorem iX11_isRest_31 : In cX11_isRest 31 (.iload 4) 2 33 := ⟨by decide +kernel, rfl⟩
theorem iX11_isRest_33 : In cX11_isRest 33 (.invokevirtual 241) 3 36 := ⟨by decide +kernel, rfl⟩
theorem iX11_isRest_36 : Jn cX11_isRest 36 (.if_icmp .gt 28) (28) 39 64 := ⟨by decide +kernel, rfl, by decide⟩
theorem iX11_isRest_39 : In cX11_isRest 39 (.aload_n 0) 1 40 := ⟨by decide +kernel, rfl⟩
theorem iX11_isRest_40 : In cX11_isRest 40 (.iload_n 1) 1 41 := ⟨by decide +kernel, rfl⟩
theorem iX11_isRest_41 : In cX11_isRest 41 (.iload_n 2) 1 42 := ⟨by decide +kernel, rfl⟩
theorem iX11_isRest_42 : In cX11_isRest 42 (.iload_n 3) 1 43 := ⟨by decide +kernel, rfl⟩
theorem iX11_isRest_43 : In cX11_isRest 43 (.iload 6) 2 45 := ⟨by decide +kernel, rfl⟩
theorem iX11_isRest_45 : In cX11_isRest 45 (.invokevirtual 241) 3 48 := ⟨by decide +kernel, rfl⟩
theorem iX11_isRest_48 : In cX11_isRest 48 (.aload_n 0) 1 49 := ⟨by decide +kernel, rfl⟩
theorem iX11_isRest_49 : In cX11_isRest 49 (.iload_n 1) 1 50 := ⟨by decide +kernel, rfl⟩
theorem iX11_isRest_50 : In cX11_isRest 50 (.iload_n 2) 1 51 := ⟨by decide +kernel, rfl⟩
theorem iX11_isRest_51 : In cX11_isRest 51 (.iload_n 3) 1 52 := ⟨by decide +kernel, rfl⟩
theorem iX11_isRest_52 : In cX11_isRest 52 (.iload 4) 2 54 := ⟨by decide +kernel, rfl⟩
theorem iX11_isRest_54 : In cX11_isRest 54 (.invokevirtual 241) 3 57 := ⟨by decide +kernel, rfl⟩
theorem iX11_isRest_57 : Jn cX11_isRest 57 (.if_icmp .lt 7) (7) 60 64 := ⟨by decide +kernel, rfl, by decide⟩
theorem iX11_isRest_60 : In cX11_isRest 60 (.iconst 1) 1 61 := ⟨by decide +kernel, rfl⟩
theorem iX11_isRest_61 : Jn cX11_isRest 61 (.goto 4) (4) 64 65 := ⟨by decide +kernel, rfl, by decide⟩
theorem iX11_isRest_64 : In cX11_isRest 64 (.iconst 0) 1 65 := ⟨by decide +kernel, rfl⟩
theorem iX11_isRest_65 : In cX11_isRest 65 (.istore 5) 2 67 := ⟨by decide +kernel, rfl⟩
theorem iX11_isRest_67 : In cX11_isRest 67 (.iinc 6 1) 3 70 := ⟨by decide +kernel, rfl⟩
theorem iX11_isRest_70 : Jn cX11_isRest 70 (.goto (-64)) (-64) 73 6 := ⟨by decide +kernel, rfl, by decide⟩
theorem iX11_isRest_73 : In cX11_isRest 73 (.iload 5) 2 75 := ⟨by decide +kernel, rfl⟩
theorem iX11_isRest_75 : In cX11_isRest 75 (.ireturn) 1 76 := ⟨by decide +kernel, rfl⟩
theorem iX11_rests_0 : In cX11_rests 0 (.aload_n 0) 1 1 := ⟨by decide +kernel, rfl⟩
theorem iX11_rests_1 : In cX11_rests 1 (.iload_n 1) 1 2 := ⟨by decide +kernel, rfl⟩
theorem iX11_rests_2 : In cX11_rests 2 (.invokevirtual 153) 3 5 := ⟨by decide +kernel, rfl⟩
theorem iX11_rests_5 : Jn cX11_rests 5 (.ifCond .eq 11) (11) 8 16 := ⟨by decide +kernel, rfl, by decide⟩
theorem iX11_rests_8 : In cX11_rests 8 (.aload_n 0) 1 9 := ⟨by decide +kernel, rfl⟩
theorem iX11_rests_9 : In cX11_rests 9 (.iload_n 2) 1 10 := ⟨by decide +kernel, rfl⟩
theorem iX11_rests_10 : In cX11_rests 10 (.invokevirtual 153) 3 13 := ⟨by decide +kernel, rfl⟩
theorem iX11_rests_13 : Jn cX11_rests 13 (.ifCond .ne 5) (5) 16 18 := ⟨by decide +kernel, rfl, by decide⟩
theorem iX11_rests_16 : In cX11_rests 16 (.iconst (-1)) 1 17 := ⟨by decide +kernel, rfl⟩
theorem iX11_rests_17 : In cX11_rests 17 (.ireturn) 1 18 := ⟨by decide +kernel, rfl⟩
theorem iX11_rests_18 : In cX11_rests 18 (.iload_n 1) 1 19 := ⟨by decide +kernel, rfl⟩
theorem iX11_rests_19 : In cX11_rests 19 (.iload_n 2) 1 20 := ⟨by decide +kernel, rfl⟩
theorem iX11_rests_20 : Jn cX11_rests 20 (.if_icmp .eq 13) (13) 23 33 := ⟨by decide +kernel, rfl, by decide⟩
theorem iX11_rests_23 : In cX11_rests 23 (.iload_n 3) 1 24 := ⟨by decide +kernel, rfl⟩
theorem iX11_rests_24 : In cX11_rests 24 (.i2l) 1 25 := ⟨by decide +kernel, rfl⟩
theorem iX11_rests_25 : In cX11_rests 25 (.lconst 0) 1 26 := ⟨by decide +kernel, rfl⟩
theorem iX11_rests_26 : In cX11_rests 26 (.lconst 1) 1 27 := ⟨by decide +kernel, rfl⟩
theorem iX11_rests_27 : In cX11_rests 27 (.invokestatic 61) 3 30 := ⟨by decide +kernel, rfl⟩
theorem iX11_rests_30 : Jn cX11_rests 30 (.ifCond .ne 6) (6) 33 36 := ⟨by decide +kernel, rfl, by decide⟩
theorem iX11_rests_33 : In cX11_rests 33 (.bipush (-2)) 2 35 := ⟨by decide +kernel, rfl⟩
theorem iX11_rests_35 : In cX11_rests 35 (.ireturn) 1 36 := ⟨by decide +kernel, rfl⟩
theorem iX11_rests_36 : In cX11_rests 36 (.iconst 0) 1 37 := ⟨by decide +kernel, rfl⟩
theorem iX11_rests_37 : In cX11_rests 37 (.istore 4) 2 39 := ⟨by decide +kernel, rfl⟩
theorem iX11_rests_39 : In cX11_rests 39 (.bipush (-9)) 2 41 := ⟨by decide +kernel, rfl⟩
theorem iX11_rests_41 : In cX11_rests 41 (.istore 5) 2 43 := ⟨by decide +kernel, rfl⟩
theorem iX11_rests_43 : In cX11_rests 43 (.iconst 0) 1 44 := ⟨by decide +kernel, rfl⟩
theorem iX11_rests_44 : In cX11_rests 44 (.istore 6) 2 46 := ⟨by decide +kernel, rfl⟩
theorem iX11_rests_46 : In cX11_rests 46 (.iload 6) 2 48 := ⟨by decide +kernel, rfl⟩
theorem iX11_rests_48 : In cX11_rests 48 (.bipush 9) 2 50 := ⟨by decide +kernel, rfl⟩
theorem iX11_rests_50 : Jn cX11_rests 50 (.if_icmp .ge 53) (53) 53 103 := ⟨by decide +kernel, rfl, by decide⟩
theorem iX11_rests_53 : In cX11_rests 53 (.aload_n 0) 1 54 := ⟨by decide +kernel, rfl⟩
theorem iX11_rests_54 : In cX11_rests 54 (.iload_n 1) 1 55 := ⟨by decide +kernel, rfl⟩
theorem iX11_rests_55 : In cX11_rests 55 (.iload_n 2) 1 56 := ⟨by decide +kernel, rfl⟩
theorem iX11_rests_56 : In cX11_rests 56 (.iload 6) 2 58 := ⟨by decide +kernel, rfl⟩
theorem iX11_rests_58 : In cX11_rests 58 (.iconst 3) 1 59 := ⟨by decide +kernel, rfl⟩
theorem iX11_rests_59 : In cX11_rests 59 (.idiv) 1 60 := ⟨by decide +kernel, rfl⟩
theorem iX11_rests_60 : In cX11_rests 60 (.iload 6) 2 62 := ⟨by decide +kernel, rfl⟩
theorem iX11_rests_62 : In cX11_rests 62 (.iconst 3) 1 63 := ⟨by decide +kernel, rfl⟩
theorem iX11_rests_63 : In cX11_rests 63 (.irem) 1 64 := ⟨by decide +kernel, rfl⟩
theorem iX11_rests_64 : In cX11_rests 64 (.invokevirtual 244) 3 67 := ⟨by decide +kernel, rfl⟩
theorem iX11_rests_67 : Jn cX11_rests 67 (.ifCond .eq 30) (30) 70 97 := ⟨by decide +kernel, rfl, by decide⟩
theorem iX11_rests_70 : In cX11_rests 70 (.iload 4) 2 72 := ⟨by decide +kernel, rfl⟩
theorem iX11_rests_72 : Jn cX11_rests 72 (.ifCond .ne 18) (18) 75 90 := ⟨by decide +kernel, rfl, by decide⟩
theorem iX11_rests_75 : In cX11_rests 75 (.bipush 10) 2 77 := ⟨by decide +kernel, rfl⟩
theorem iX11_rests_77 : In cX11_rests 77 (.iload 6) 2 79 := ⟨by decide +kernel, rfl⟩
theorem iX11_rests_79 : In cX11_rests 79 (.iconst 3) 1 80 := ⟨by decide +kernel, rfl⟩
theorem iX11_rests_80 : In cX11_rests 80 (.idiv) 1 81 := ⟨by decide +kernel, rfl⟩
theorem iX11_rests_81 : In cX11_rests 81 (.imul) 1 82 := ⟨by decide +kernel, rfl⟩
theorem iX11_rests_82 : In cX11_rests 82 (.iload 6) 2 84 := ⟨by decide +kernel, rfl⟩
theorem iX11_rests_84 : In cX11_rests 84 (.iconst 3) 1 85 := ⟨by decide +kernel, rfl⟩
theorem iX11_rests_85 : In cX11_rests 85 (.irem) 1 86 := ⟨by decide +kernel, rfl⟩
theorem iX11_rests_86 : In cX11_rests 86 (.iadd) 1 87 := ⟨by decide +kernel, rfl⟩
theorem iX11_rests_87 : Jn cX11_rests 87 (.goto 5) (5) 90 92 := ⟨by decide +kernel, rfl, by decide⟩
theorem iX11_rests_90 : In cX11_rests 90 (.iload 5) 2 92 := ⟨by decide +kernel, rfl⟩
theorem iX11_rests_92 : In cX11_rests 92 (.istore 5) 2 94 := ⟨by decide +kernel, rfl⟩
theorem iX11_rests_94 : In cX11_rests 94 (.iinc 4 1) 3 97 := ⟨by decide +kernel, rfl⟩
theorem iX11_rests_97 : In cX11_rests 97 (.iinc 6 1) 3 100 := ⟨by decide +kernel, rfl⟩
theorem iX11_rests_100 : Jn cX11_rests 100 (.goto (-54)) (-54) 103 46 := ⟨by decide +kernel, rfl, by decide⟩
theorem iX11_rests_103 : In cX11_rests 103 (.iload_n 3) 1 104 := ⟨by decide +kernel, rfl⟩
theorem iX11_rests_104 : Jn cX11_rests 104 (.ifCond .ne 8) (8) 107 112 := ⟨by decide +kernel, rfl, by decide⟩
theorem iX11_rests_107 : In cX11_rests 107 (.iload 4) 2 109 := ⟨by decide +kernel, rfl⟩
theorem iX11_rests_109 : Jn cX11_rests 109 (.goto 5) (5) 112 114 := ⟨by decide +kernel, rfl, by decide⟩
theorem iX11_rests_112 : In cX11_rests 112 (.iload 5) 2 114 := ⟨by decide +kernel, rfl⟩
theorem iX11_rests_114 : In cX11_rests 114 (.ireturn) 1 115 := ⟨by decide +kernel, rfl⟩
theorem iX11_power_0 : In cX11_power 0 (.iconst 1) 1 1 := ⟨by decide +kernel, rfl⟩
theorem iX11_power_1 : In cX11_power 1 (.istore_n 2) 1 2 := ⟨by decide +kernel, rfl⟩
theorem iX11_power_2 : In cX11_power 2 (.iconst 0) 1 3 := ⟨by decide +kernel, rfl⟩
theorem iX11_power_3 : In cX11_power 3 (.istore_n 3) 1 4 := ⟨by decide +kernel, rfl⟩
theorem iX11_power_4 : In cX11_power 4 (.iload_n 3) 1 5 := ⟨by decide +kernel, rfl⟩
theorem iX11_power_5 : In cX11_power 5 (.iload_n 1) 1 6 := ⟨by decide +kernel, rfl⟩
theorem iX11_power_6 : Jn cX11_power 6 (.if_icmp .ge 13) (13) 9 19 := ⟨by decide +kernel, rfl, by decide⟩
theorem iX11_power_9 : In cX11_power 9 (.iload_n 2) 1 10 := ⟨by decide +kernel, rfl⟩
theorem iX11_power_10 : In cX11_power 10 (.iload_n 0) 1 11 := ⟨by decide +kernel, rfl⟩
theorem iX11_power_11 : In cX11_power 11 (.imul) 1 12 := ⟨by decide +kernel, rfl⟩
theorem iX11_power_12 : In cX11_power 12 (.istore_n 2) 1 13 := ⟨by decide +kernel, rfl⟩
theorem iX11_power_13 : In cX11_power 13 (.iinc 3 1) 3 16 := ⟨by decide +kernel, rfl⟩
theorem iX11_power_16 : Jn cX11_power 16 (.goto (-12)) (-12) 19 4 := ⟨by decide +kernel, rfl, by decide⟩
theorem iX11_power_19 : In cX11_power 19 (.iload_n 2) 1 20 := ⟨by decide +kernel, rfl⟩
theorem iX11_power_20 : In cX11_power 20 (.ireturn) 1 21 := ⟨by decide +kernel, rfl⟩
theorem iX11_clouded_0 : In cX11_clouded 0 (.aload_n 0) 1 1 := ⟨by decide +kernel, rfl⟩
theorem iX11_clouded_1 : In cX11_clouded 1 (.iload_n 1) 1 2 := ⟨by decide +kernel, rfl⟩
theorem iX11_clouded_2 : In cX11_clouded 2 (.invokevirtual 153) 3 5 := ⟨by decide +kernel, rfl⟩
theorem iX11_clouded_5 : Jn cX11_clouded 5 (.ifCond .eq 11) (11) 8 16 := ⟨by decide +kernel, rfl, by decide⟩
theorem iX11_clouded_8 : In cX11_clouded 8 (.aload_n 0) 1 9 := ⟨by decide +kernel, rfl⟩
theorem iX11_clouded_9 : In cX11_clouded 9 (.iload_n 2) 1 10 := ⟨by decide +kernel, rfl⟩
theorem iX11_clouded_10 : In cX11_clouded 10 (.invokevirtual 153) 3 13 := ⟨by decide +kernel, rfl⟩
theorem iX11_clouded_13 : Jn cX11_clouded 13 (.ifCond .ne 5) (5) 16 18 := ⟨by decide +kernel, rfl, by decide⟩
theorem iX11_clouded_16 : In cX11_clouded 16 (.iconst (-1)) 1 17 := ⟨by decide +kernel, rfl⟩
theorem iX11_clouded_17 : In cX11_clouded 17 (.ireturn) 1 18 := ⟨by decide +kernel, rfl⟩
theorem iX11_clouded_18 : In cX11_clouded 18 (.iload_n 1) 1 19 := ⟨by decide +kernel, rfl⟩
theorem iX11_clouded_19 : In cX11_clouded 19 (.iload_n 2) 1 20 := ⟨by decide +kernel, rfl⟩
theorem iX11_clouded_20 : Jn cX11_clouded 20 (.if_icmp .eq 15) (15) 23 35 := ⟨by decide +kernel, rfl, by decide⟩
theorem iX11_clouded_23 : In cX11_clouded 23 (.iload_n 3) 1 24 := ⟨by decide +kernel, rfl⟩
theorem iX11_clouded_24 : In cX11_clouded 24 (.i2l) 1 25 := ⟨by decide +kernel, rfl⟩
theorem iX11_clouded_25 : In cX11_clouded 25 (.lconst 0) 1 26 := ⟨by decide +kernel, rfl⟩
theorem iX11_clouded_26 : In cX11_clouded 26 (.ldc2_w 248) 3 29 := ⟨by decide +kernel, rfl⟩
theorem iX11_clouded_29 : In cX11_clouded 29 (.invokestatic 61) 3 32 := ⟨by decide +kernel, rfl⟩
theorem iX11_clouded_32 : Jn cX11_clouded 32 (.ifCond .ne 6) (6) 35 38 := ⟨by decide +kernel, rfl, by decide⟩
theorem iX11_clouded_35 : In cX11_clouded 35 (.bipush (-2)) 2 37 := ⟨by decide +kernel, rfl⟩
theorem iX11_clouded_37 : In cX11_clouded 37 (.ireturn) 1 38 := ⟨by decide +kernel, rfl⟩
theorem iX11_clouded_38 : In cX11_clouded 38 (.iconst 0) 1 39 := ⟨by decide +kernel, rfl⟩
theorem iX11_clouded_39 : In cX11_clouded 39 (.istore 5) 2 41 := ⟨by decide +kernel, rfl⟩
theorem iX11_clouded_41 : In cX11_clouded 41 (.iconst 0) 1 42 := ⟨by decide +kernel, rfl⟩
theorem iX11_clouded_42 : In cX11_clouded 42 (.istore 6) 2 44 := ⟨by decide +kernel, rfl⟩
theorem iX11_clouded_44 : In cX11_clouded 44 (.iconst 0) 1 45 := ⟨by decide +kernel, rfl⟩
theorem iX11_clouded_45 : In cX11_clouded 45 (.istore 7) 2 47 := ⟨by decide +kernel, rfl⟩
theorem iX11_clouded_47 : In cX11_clouded 47 (.iload 7) 2 49 := ⟨by decide +kernel, rfl⟩
theorem iX11_clouded_49 : In cX11_clouded 49 (.bipush 64) 2 51 := ⟨by decide +kernel, rfl⟩
theorem iX11_clouded_51 : Jn cX11_clouded 51 (.if_icmp .ge 124) (124) 54 175 := ⟨by decide +kernel, rfl, by decide⟩
theorem iX11_clouded_54 : In cX11_clouded 54 (.iload_n 3) 1 55 := ⟨by decide +kernel, rfl⟩
theorem iX11_clouded_55 : In cX11_clouded 55 (.iload 7) 2 57 := ⟨by decide +kernel, rfl⟩
theorem iX11_clouded_57 : In cX11_clouded 57 (.invokestatic 228) 3 60 := ⟨by decide +kernel, rfl⟩
theorem iX11_clouded_60 : In cX11_clouded 60 (.invokestatic 250) 3 63 := ⟨by decide +kernel, rfl⟩
theorem iX11_clouded_63 : In cX11_clouded 63 (.bipush 10) 2 65 := ⟨by decide +kernel, rfl⟩
theorem iX11_clouded_65 : In cX11_clouded 65 (.iload_n 3) 1 66 := ⟨by decide +kernel, rfl⟩
theorem iX11_clouded_66 : In cX11_clouded 66 (.isub) 1 67 := ⟨by decide +kernel, rfl⟩
theorem iX11_clouded_67 : In cX11_clouded 67 (.bipush 6) 2 69 := ⟨by decide +kernel, rfl⟩
theorem iX11_clouded_69 : In cX11_clouded 69 (.iload 7) 2 71 := ⟨by decide +kernel, rfl⟩
theorem iX11_clouded_71 : In cX11_clouded 71 (.invokestatic 228) 3 74 := ⟨by decide +kernel, rfl⟩
theorem iX11_clouded_74 : In cX11_clouded 74 (.isub) 1 75 := ⟨by decide +kernel, rfl⟩
theorem iX11_clouded_75 : In cX11_clouded 75 (.invokestatic 250) 3 78 := ⟨by decide +kernel, rfl⟩
theorem iX11_clouded_78 : In cX11_clouded 78 (.imul) 1 79 := ⟨by decide +kernel, rfl⟩
theorem iX11_clouded_79 : In cX11_clouded 79 (.istore 8) 2 81 := ⟨by decide +kernel, rfl⟩
theorem iX11_clouded_81 : In cX11_clouded 81 (.aload_n 0) 1 82 := ⟨by decide +kernel, rfl⟩
theorem iX11_clouded_82 : In cX11_clouded 82 (.invokevirtual 134) 3 85 := ⟨by decide +kernel, rfl⟩
theorem iX11_clouded_85 : In cX11_clouded 85 (.iconst 0) 1 86 := ⟨by decide +kernel, rfl⟩
theorem iX11_clouded_86 : In cX11_clouded 86 (.istore 9) 2 88 := ⟨by decide +kernel, rfl⟩
theorem iX11_clouded_88 : In cX11_clouded 88 (.iload 9) 2 90 := ⟨by decide +kernel, rfl⟩
theorem iX11_clouded_90 : In cX11_clouded 90 (.bipush 6) 2 92 := ⟨by decide +kernel, rfl⟩
theorem iX11_clouded_92 : Jn cX11_clouded 92 (.if_icmp .ge 48) (48) 95 140 := ⟨by decide +kernel, rfl, by decide⟩
theorem iX11_clouded_95 : In cX11_clouded 95 (.aload_n 0) 1 96 := ⟨by decide +kernel, rfl⟩
theorem iX11_clouded_96 : In cX11_clouded 96 (.iload_n 1) 1 97 := ⟨by decide +kernel, rfl⟩
theorem iX11_clouded_97 : In cX11_clouded 97 (.iload_n 2) 1 98 := ⟨by decide +kernel, rfl⟩
theorem iX11_clouded_98 : In cX11_clouded 98 (.aload_n 0) 1 99 := ⟨by decide +kernel, rfl⟩
theorem iX11_clouded_99 : In cX11_clouded 99 (.getfield 22) 3 102 := ⟨by decide +kernel, rfl⟩
theorem iX11_clouded_102 : In cX11_clouded 102 (.bipush 11) 2 104 := ⟨by decide +kernel, rfl⟩
theorem iX11_clouded_104 : In cX11_clouded 104 (.iload_n 1) 1 105 := ⟨by decide +kernel, rfl⟩
theorem iX11_clouded_105 : In cX11_clouded 105 (.iadd) 1 106 := ⟨by decide +kernel, rfl⟩
theorem iX11_clouded_106 : In cX11_clouded 106 (.iaload) 1 107 := ⟨by decide +kernel, rfl⟩
theorem iX11_clouded_107 : In cX11_clouded 107 (.aload_n 0) 1 108 := ⟨by decide +kernel, rfl⟩
theorem iX11_clouded_108 : In cX11_clouded 108 (.getfield 22) 3 111 := ⟨by decide +kernel, rfl⟩
theorem iX11_clouded_111 : In cX11_clouded 111 (.bipush 11) 2 113 := ⟨by decide +kernel, rfl⟩
theorem iX11_clouded_113 : In cX11_clouded 113 (.iload_n 2) 1 114 := ⟨by decide +kernel, rfl⟩
theorem iX11_clouded_114 : In cX11_clouded 114 (.iadd) 1 115 := ⟨by decide +kernel, rfl⟩
theorem iX11_clouded_115 : In cX11_clouded 115 (.iaload) 1 116 := ⟨by decide +kernel, rfl⟩
theorem iX11_clouded_116 : In cX11_clouded 116 (.iload 7) 2 118 := ⟨by decide +kernel, rfl⟩
theorem iX11_clouded_118 : In cX11_clouded 118 (.iload 9) 2 120 := ⟨by decide +kernel, rfl⟩
theorem iX11_clouded_120 : In cX11_clouded 120 (.invokestatic 195) 3 123 := ⟨by decide +kernel, rfl⟩
theorem iX11_clouded_123 : Jn cX11_clouded 123 (.ifCond .ne 7) (7) 126 130 := ⟨by decide +kernel, rfl, by decide⟩
theorem iX11_clouded_126 : In cX11_clouded 126 (.iconst 1) 1 127 := ⟨by decide +kernel, rfl⟩
theorem iX11_clouded_127 : Jn cX11_clouded 127 (.goto 4) (4) 130 131 := ⟨by decide +kernel, rfl, by decide⟩
theorem iX11_clouded_130 : In cX11_clouded 130 (.iconst 0) 1 131 := ⟨by decide +kernel, rfl⟩
theorem iX11_clouded_131 : In cX11_clouded 131 (.invokevirtual 137) 3 134 := ⟨by decide +kernel, rfl⟩
theorem iX11_clouded_134 : In cX11_clouded 134 (.iinc 9 1) 3 137 := ⟨by decide +kernel, rfl⟩
theorem iX11_clouded_137 : Jn cX11_clouded 137 (.goto (-49)) (-49) 140 88 := ⟨by decide +kernel, rfl, by decide⟩
theorem iX11_clouded_140 : In cX11_clouded 140 (.iload 6) 2 142 := ⟨by decide +kernel, rfl⟩
theorem iX11_clouded_142 : In cX11_clouded 142 (.iload 8) 2 144 := ⟨by decide +kernel, rfl⟩
theorem iX11_clouded_144 : In cX11_clouded 144 (.iadd) 1 145 := ⟨by decide +kernel, rfl⟩
theorem iX11_clouded_145 : In cX11_clouded 145 (.istore 6) 2 147 := ⟨by decide +kernel, rfl⟩
theorem iX11_clouded_147 : In cX11_clouded 147 (.iload 5) 2 149 := ⟨by decide +kernel, rfl⟩
theorem iX11_clouded_149 : In cX11_clouded 149 (.aload_n 0) 1 150 := ⟨by decide +kernel, rfl⟩
end
section
theorem iX11_clouded_150 : In cX11_clouded 150 (.getfield 128) 3 153 := ⟨by decide +kernel, rfl⟩
theorem iX11_clouded_153 : In cX11_clouded 153 (.aload_n 0) 1 154 := ⟨by decide +kernel, rfl⟩
theorem iX11_clouded_154 : In cX11_clouded 154 (.getfield 131) 3 157 := ⟨by decide +kernel, rfl⟩
theorem iX11_clouded_157 : Jn cX11_clouded 157 (.if_icmp .le 8) (8) 160 165 := ⟨by decide +kernel, rfl, by decide⟩
theorem iX11_clouded_160 : In cX11_clouded 160 (.iload 8) 2 162 := ⟨by decide +kernel, rfl⟩
theorem iX11_clouded_162 : Jn cX11_clouded 162 (.goto 4) (4) 165 166 := ⟨by decide +kernel, rfl, by decide⟩
theorem iX11_clouded_165 : In cX11_clouded 165 (.iconst 0) 1 166 := ⟨by decide +kernel, rfl⟩
theorem iX11_clouded_166 : In cX11_clouded 166 (.iadd) 1 167 := ⟨by decide +kernel, rfl⟩
theorem iX11_clouded_167 : In cX11_clouded 167 (.istore 5) 2 169 := ⟨by decide +kernel, rfl⟩
theorem iX11_clouded_169 : In cX11_clouded 169 (.iinc 7 1) 3 172 := ⟨by decide +kernel, rfl⟩
theorem iX11_clouded_172 : Jn cX11_clouded 172 (.goto (-125)) (-125) 175 47 := ⟨by decide +kernel, rfl, by decide⟩
theorem iX11_clouded_175 : In cX11_clouded 175 (.iload 5) 2 177 := ⟨by decide +kernel, rfl⟩
theorem iX11_clouded_177 : In cX11_clouded 177 (.iload 6) 2 179 := ⟨by decide +kernel, rfl⟩
theorem iX11_clouded_179 : In cX11_clouded 179 (.invokestatic 237) 3 182 := ⟨by decide +kernel, rfl⟩
theorem iX11_clouded_182 : In cX11_clouded 182 (.istore 7) 2 184 := ⟨by decide +kernel, rfl⟩
theorem iX11_clouded_184 : In cX11_clouded 184 (.iload 4) 2 186 := ⟨by decide +kernel, rfl⟩
theorem iX11_clouded_186 : Jn cX11_clouded 186 (.ifCond .eq 11) (11) 189 197 := ⟨by decide +kernel, rfl, by decide⟩
theorem iX11_clouded_189 : In cX11_clouded 189 (.iload 5) 2 191 := ⟨by decide +kernel, rfl⟩
theorem iX11_clouded_191 : In cX11_clouded 191 (.iload 7) 2 193 := ⟨by decide +kernel, rfl⟩
theorem iX11_clouded_193 : In cX11_clouded 193 (.idiv) 1 194 := ⟨by decide +kernel, rfl⟩
theorem iX11_clouded_194 : Jn cX11_clouded 194 (.goto 8) (8) 197 202 := ⟨by decide +kernel, rfl, by decide⟩
theorem iX11_clouded_197 : In cX11_clouded 197 (.iload 6) 2 199 := ⟨by decide +kernel, rfl⟩
theorem iX11_clouded_199 : In cX11_clouded 199 (.iload 7) 2 201 := ⟨by decide +kernel, rfl⟩
theorem iX11_clouded_201 : In cX11_clouded 201 (.idiv) 1 202 := ⟨by decide +kernel, rfl⟩
theorem iX11_clouded_202 : In cX11_clouded 202 (.ireturn) 1 203 := ⟨by decide +kernel, rfl⟩
theorem iX11_seed_0 : In cX11_seed 0 (.aload_n 0) 1 1 := ⟨by decide +kernel, rfl⟩
theorem iX11_seed_1 : In cX11_seed 1 (.getfield 253) 3 4 := ⟨by decide +kernel, rfl⟩
theorem iX11_seed_4 : In cX11_seed 4 (.lstore_n 3) 1 5 := ⟨by decide +kernel, rfl⟩
theorem iX11_seed_5 : In cX11_seed 5 (.aload_n 0) 1 6 := ⟨by decide +kernel, rfl⟩
theorem iX11_seed_6 : In cX11_seed 6 (.lload_n 1) 1 7 := ⟨by decide +kernel, rfl⟩
theorem iX11_seed_7 : In cX11_seed 7 (.putfield 253) 3 10 := ⟨by decide +kernel, rfl⟩
theorem iX11_seed_10 : In cX11_seed 10 (.lload_n 3) 1 11 := ⟨by decide +kernel, rfl⟩
theorem iX11_seed_11 : In cX11_seed 11 (.lreturn) 1 12 := ⟨by decide +kernel, rfl⟩
theorem iX11_strayed_0 : In cX11_strayed 0 (.iconst 0) 1 1 := ⟨by decide +kernel, rfl⟩
theorem iX11_strayed_1 : In cX11_strayed 1 (.istore_n 2) 1 2 := ⟨by decide +kernel, rfl⟩
theorem iX11_strayed_2 : In cX11_strayed 2 (.iconst 0) 1 3 := ⟨by decide +kernel, rfl⟩
theorem iX11_strayed_3 : In cX11_strayed 3 (.istore_n 3) 1 4 := ⟨by decide +kernel, rfl⟩
theorem iX11_strayed_4 : In cX11_strayed 4 (.iload_n 3) 1 5 := ⟨by decide +kernel, rfl⟩
theorem iX11_strayed_5 : In cX11_strayed 5 (.aload_n 0) 1 6 := ⟨by decide +kernel, rfl⟩
theorem iX11_strayed_6 : In cX11_strayed 6 (.getfield 102) 3 9 := ⟨by decide +kernel, rfl⟩
theorem iX11_strayed_9 : Jn cX11_strayed 9 (.if_icmp .ge 39) (39) 12 48 := ⟨by decide +kernel, rfl, by decide⟩
theorem iX11_strayed_12 : In cX11_strayed 12 (.iload_n 2) 1 13 := ⟨by decide +kernel, rfl⟩
theorem iX11_strayed_13 : In cX11_strayed 13 (.aload_n 0) 1 14 := ⟨by decide +kernel, rfl⟩
theorem iX11_strayed_14 : In cX11_strayed 14 (.getfield 22) 3 17 := ⟨by decide +kernel, rfl⟩
theorem iX11_strayed_17 : In cX11_strayed 17 (.bipush 18) 2 19 := ⟨by decide +kernel, rfl⟩
theorem iX11_strayed_19 : In cX11_strayed 19 (.iload_n 1) 1 20 := ⟨by decide +kernel, rfl⟩
theorem iX11_strayed_20 : In cX11_strayed 20 (.imul) 1 21 := ⟨by decide +kernel, rfl⟩
theorem iX11_strayed_21 : In cX11_strayed 21 (.iload_n 3) 1 22 := ⟨by decide +kernel, rfl⟩
theorem iX11_strayed_22 : In cX11_strayed 22 (.iadd) 1 23 := ⟨by decide +kernel, rfl⟩
theorem iX11_strayed_23 : In cX11_strayed 23 (.iaload) 1 24 := ⟨by decide +kernel, rfl⟩
theorem iX11_strayed_24 : In cX11_strayed 24 (.aload_n 0) 1 25 := ⟨by decide +kernel, rfl⟩
theorem iX11_strayed_25 : In cX11_strayed 25 (.getfield 16) 3 28 := ⟨by decide +kernel, rfl⟩
theorem iX11_strayed_28 : In cX11_strayed 28 (.iload_n 3) 1 29 := ⟨by decide +kernel, rfl⟩
theorem iX11_strayed_29 : In cX11_strayed 29 (.iaload) 1 30 := ⟨by decide +kernel, rfl⟩
theorem iX11_strayed_30 : Jn cX11_strayed 30 (.if_icmp .ne 7) (7) 33 37 := ⟨by decide +kernel, rfl, by decide⟩
theorem iX11_strayed_33 : In cX11_strayed 33 (.iconst 0) 1 34 := ⟨by decide +kernel, rfl⟩
theorem iX11_strayed_34 : Jn cX11_strayed 34 (.goto 6) (6) 37 40 := ⟨by decide +kernel, rfl, by decide⟩
theorem iX11_strayed_37 : In cX11_strayed 37 (.iconst 1) 1 38 := ⟨by decide +kernel, rfl⟩
theorem iX11_strayed_38 : In cX11_strayed 38 (.iload_n 3) 1 39 := ⟨by decide +kernel, rfl⟩
theorem iX11_strayed_39 : In cX11_strayed 39 (.ishl) 1 40 := ⟨by decide +kernel, rfl⟩
theorem iX11_strayed_40 : In cX11_strayed 40 (.ior) 1 41 := ⟨by decide +kernel, rfl⟩
theorem iX11_strayed_41 : In cX11_strayed 41 (.istore_n 2) 1 42 := ⟨by decide +kernel, rfl⟩
theorem iX11_strayed_42 : In cX11_strayed 42 (.iinc 3 1) 3 45 := ⟨by decide +kernel, rfl⟩
theorem iX11_strayed_45 : Jn cX11_strayed 45 (.goto (-41)) (-41) 48 4 := ⟨by decide +kernel, rfl, by decide⟩
theorem iX11_strayed_48 : In cX11_strayed 48 (.iload_n 2) 1 49 := ⟨by decide +kernel, rfl⟩
theorem iX11_strayed_49 : In cX11_strayed 49 (.ireturn) 1 50 := ⟨by decide +kernel, rfl⟩
theorem iX11_feasts_0 : In cX11_feasts 0 (.iload_n 1) 1 1 := ⟨by decide +kernel, rfl⟩
theorem iX11_feasts_1 : In cX11_feasts 1 (.i2l) 1 2 := ⟨by decide +kernel, rfl⟩
theorem iX11_feasts_2 : In cX11_feasts 2 (.lconst 1) 1 3 := ⟨by decide +kernel, rfl⟩
theorem iX11_feasts_3 : In cX11_feasts 3 (.ldc2_w 257) 3 6 := ⟨by decide +kernel, rfl⟩
theorem iX11_feasts_6 : In cX11_feasts 6 (.invokestatic 61) 3 9 := ⟨by decide +kernel, rfl⟩
theorem iX11_feasts_9 : Jn cX11_feasts 9 (.ifCond .ne 6) (6) 12 15 := ⟨by decide +kernel, rfl, by decide⟩
theorem iX11_feasts_12 : In cX11_feasts 12 (.bipush (-2)) 2 14 := ⟨by decide +kernel, rfl⟩
theorem iX11_feasts_14 : In cX11_feasts 14 (.ireturn) 1 15 := ⟨by decide +kernel, rfl⟩
theorem iX11_feasts_15 : In cX11_feasts 15 (.aload_n 0) 1 16 := ⟨by decide +kernel, rfl⟩
theorem iX11_feasts_16 : In cX11_feasts 16 (.invokevirtual 216) 3 19 := ⟨by decide +kernel, rfl⟩
theorem iX11_feasts_19 : In cX11_feasts 19 (.iconst 0) 1 20 := ⟨by decide +kernel, rfl⟩
theorem iX11_feasts_20 : In cX11_feasts 20 (.istore_n 2) 1 21 := ⟨by decide +kernel, rfl⟩
theorem iX11_feasts_21 : In cX11_feasts 21 (.iconst 0) 1 22 := ⟨by decide +kernel, rfl⟩
theorem iX11_feasts_22 : In cX11_feasts 22 (.istore_n 3) 1 23 := ⟨by decide +kernel, rfl⟩
theorem iX11_feasts_23 : In cX11_feasts 23 (.iload_n 3) 1 24 := ⟨by decide +kernel, rfl⟩
theorem iX11_feasts_24 : In cX11_feasts 24 (.iload_n 1) 1 25 := ⟨by decide +kernel, rfl⟩
theorem iX11_feasts_25 : Jn cX11_feasts 25 (.if_icmp .ge 108) (108) 28 133 := ⟨by decide +kernel, rfl, by decide⟩
theorem iX11_feasts_28 : In cX11_feasts 28 (.aload_n 0) 1 29 := ⟨by decide +kernel, rfl⟩
theorem iX11_feasts_29 : In cX11_feasts 29 (.aload_n 0) 1 30 := ⟨by decide +kernel, rfl⟩
theorem iX11_feasts_30 : In cX11_feasts 30 (.getfield 253) 3 33 := ⟨by decide +kernel, rfl⟩
theorem iX11_feasts_33 : In cX11_feasts 33 (.ldc2_w 259) 3 36 := ⟨by decide +kernel, rfl⟩
theorem iX11_feasts_36 : In cX11_feasts 36 (.lmul) 1 37 := ⟨by decide +kernel, rfl⟩
theorem iX11_feasts_37 : In cX11_feasts 37 (.ldc2_w 261) 3 40 := ⟨by decide +kernel, rfl⟩
theorem iX11_feasts_40 : In cX11_feasts 40 (.ladd) 1 41 := ⟨by decide +kernel, rfl⟩
theorem iX11_feasts_41 : In cX11_feasts 41 (.putfield 253) 3 44 := ⟨by decide +kernel, rfl⟩
theorem iX11_feasts_44 : In cX11_feasts 44 (.aload_n 0) 1 45 := ⟨by decide +kernel, rfl⟩
theorem iX11_feasts_45 : In cX11_feasts 45 (.getfield 253) 3 48 := ⟨by decide +kernel, rfl⟩
theorem iX11_feasts_48 : In cX11_feasts 48 (.bipush 33) 2 50 := ⟨by decide +kernel, rfl⟩
theorem iX11_feasts_50 : In cX11_feasts 50 (.lushr) 1 51 := ⟨by decide +kernel, rfl⟩
theorem iX11_feasts_51 : In cX11_feasts 51 (.ldc2_w 263) 3 54 := ⟨by decide +kernel, rfl⟩
theorem iX11_feasts_54 : In cX11_feasts 54 (.lrem) 1 55 := ⟨by decide +kernel, rfl⟩
theorem iX11_feasts_55 : In cX11_feasts 55 (.l2i) 1 56 := ⟨by decide +kernel, rfl⟩
theorem iX11_feasts_56 : In cX11_feasts 56 (.istore 4) 2 58 := ⟨by decide +kernel, rfl⟩
theorem iX11_feasts_58 : In cX11_feasts 58 (.iload 4) 2 60 := ⟨by decide +kernel, rfl⟩
theorem iX11_feasts_60 : In cX11_feasts 60 (.bipush 30) 2 62 := ⟨by decide +kernel, rfl⟩
theorem iX11_feasts_62 : Jn cX11_feasts 62 (.if_icmp .ge 20) (20) 65 82 := ⟨by decide +kernel, rfl, by decide⟩
theorem iX11_feasts_65 : In cX11_feasts 65 (.aload_n 0) 1 66 := ⟨by decide +kernel, rfl⟩
theorem iX11_feasts_66 : In cX11_feasts 66 (.iconst 1) 1 67 := ⟨by decide +kernel, rfl⟩
theorem iX11_feasts_67 : In cX11_feasts 67 (.iload 4) 2 69 := ⟨by decide +kernel, rfl⟩
theorem iX11_feasts_69 : In cX11_feasts 69 (.iconst 5) 1 70 := ⟨by decide +kernel, rfl⟩
theorem iX11_feasts_70 : In cX11_feasts 70 (.idiv) 1 71 := ⟨by decide +kernel, rfl⟩
theorem iX11_feasts_71 : In cX11_feasts 71 (.iload 4) 2 73 := ⟨by decide +kernel, rfl⟩
theorem iX11_feasts_73 : In cX11_feasts 73 (.iconst 5) 1 74 := ⟨by decide +kernel, rfl⟩
theorem iX11_feasts_74 : In cX11_feasts 74 (.irem) 1 75 := ⟨by decide +kernel, rfl⟩
theorem iX11_feasts_75 : In cX11_feasts 75 (.invokevirtual 219) 3 78 := ⟨by decide +kernel, rfl⟩
theorem iX11_feasts_78 : In cX11_feasts 78 (.pop) 1 79 := ⟨by decide +kernel, rfl⟩
theorem iX11_feasts_79 : Jn cX11_feasts 79 (.goto 37) (37) 82 116 := ⟨by decide +kernel, rfl, by decide⟩
theorem iX11_feasts_82 : In cX11_feasts 82 (.iload 4) 2 84 := ⟨by decide +kernel, rfl⟩
theorem iX11_feasts_84 : In cX11_feasts 84 (.bipush 36) 2 86 := ⟨by decide +kernel, rfl⟩
theorem iX11_feasts_86 : Jn cX11_feasts 86 (.if_icmp .ge 18) (18) 89 104 := ⟨by decide +kernel, rfl, by decide⟩
theorem iX11_feasts_89 : In cX11_feasts 89 (.aload_n 0) 1 90 := ⟨by decide +kernel, rfl⟩
theorem iX11_feasts_90 : In cX11_feasts 90 (.iconst 2) 1 91 := ⟨by decide +kernel, rfl⟩
theorem iX11_feasts_91 : In cX11_feasts 91 (.iconst 0) 1 92 := ⟨by decide +kernel, rfl⟩
theorem iX11_feasts_92 : In cX11_feasts 92 (.iload 4) 2 94 := ⟨by decide +kernel, rfl⟩
theorem iX11_feasts_94 : In cX11_feasts 94 (.bipush 30) 2 96 := ⟨by decide +kernel, rfl⟩
theorem iX11_feasts_96 : In cX11_feasts 96 (.isub) 1 97 := ⟨by decide +kernel, rfl⟩
theorem iX11_feasts_97 : In cX11_feasts 97 (.invokevirtual 219) 3 100 := ⟨by decide +kernel, rfl⟩
theorem iX11_feasts_100 : In cX11_feasts 100 (.pop) 1 101 := ⟨by decide +kernel, rfl⟩
theorem iX11_feasts_101 : Jn cX11_feasts 101 (.goto 15) (15) 104 116 := ⟨by decide +kernel, rfl, by decide⟩
theorem iX11_feasts_104 : In cX11_feasts 104 (.aload_n 0) 1 105 := ⟨by decide +kernel, rfl⟩
theorem iX11_feasts_105 : In cX11_feasts 105 (.iconst 3) 1 106 := ⟨by decide +kernel, rfl⟩
theorem iX11_feasts_106 : In cX11_feasts 106 (.iload 4) 2 108 := ⟨by decide +kernel, rfl⟩
theorem iX11_feasts_108 : In cX11_feasts 108 (.bipush 36) 2 110 := ⟨by decide +kernel, rfl⟩
theorem iX11_feasts_110 : In cX11_feasts 110 (.isub) 1 111 := ⟨by decide +kernel, rfl⟩
theorem iX11_feasts_111 : In cX11_feasts 111 (.iconst 2) 1 112 := ⟨by decide +kernel, rfl⟩
theorem iX11_feasts_112 : In cX11_feasts 112 (.invokevirtual 219) 3 115 := ⟨by decide +kernel, rfl⟩
theorem iX11_feasts_115 : In cX11_feasts 115 (.pop) 1 116 := ⟨by decide +kernel, rfl⟩
theorem iX11_feasts_116 : In cX11_feasts 116 (.iload_n 2) 1 117 := ⟨by decide +kernel, rfl⟩
theorem iX11_feasts_117 : In cX11_feasts 117 (.aload_n 0) 1 118 := ⟨by decide +kernel, rfl⟩
theorem iX11_feasts_118 : In cX11_feasts 118 (.iconst 1) 1 119 := ⟨by decide +kernel, rfl⟩
theorem iX11_feasts_119 : In cX11_feasts 119 (.invokevirtual 265) 3 122 := ⟨by decide +kernel, rfl⟩
theorem iX11_feasts_122 : In cX11_feasts 122 (.invokestatic 228) 3 125 := ⟨by decide +kernel, rfl⟩
theorem iX11_feasts_125 : In cX11_feasts 125 (.iadd) 1 126 := ⟨by decide +kernel, rfl⟩
theorem iX11_feasts_126 : In cX11_feasts 126 (.istore_n 2) 1 127 := ⟨by decide +kernel, rfl⟩
theorem iX11_feasts_127 : In cX11_feasts 127 (.iinc 3 1) 3 130 := ⟨by decide +kernel, rfl⟩
theorem iX11_feasts_130 : Jn cX11_feasts 130 (.goto (-107)) (-107) 133 23 := ⟨by decide +kernel, rfl, by decide⟩
theorem iX11_feasts_133 : In cX11_feasts 133 (.iload_n 2) 1 134 := ⟨by decide +kernel, rfl⟩
theorem iX11_feasts_134 : In cX11_feasts 134 (.ireturn) 1 135 := ⟨by decide +kernel, rfl⟩
theorem iX11_keep_0 : In cX11_keep 0 (.iload_n 1) 1 1 := ⟨by decide +kernel, rfl⟩
theorem iX11_keep_1 : In cX11_keep 1 (.i2l) 1 2 := ⟨by decide +kernel, rfl⟩
theorem iX11_keep_2 : In cX11_keep 2 (.lconst 0) 1 3 := ⟨by decide +kernel, rfl⟩
theorem iX11_keep_3 : In cX11_keep 3 (.lconst 1) 1 4 := ⟨by decide +kernel, rfl⟩
theorem iX11_keep_4 : In cX11_keep 4 (.invokestatic 61) 3 7 := ⟨by decide +kernel, rfl⟩
theorem iX11_keep_7 : Jn cX11_keep 7 (.ifCond .ne 5) (5) 10 12 := ⟨by decide +kernel, rfl, by decide⟩
theorem iX11_keep_10 : In cX11_keep 10 (.iconst (-1)) 1 11 := ⟨by decide +kernel, rfl⟩
theorem iX11_keep_11 : In cX11_keep 11 (.ireturn) 1 12 := ⟨by decide +kernel, rfl⟩
theorem iX11_keep_12 : In cX11_keep 12 (.aload_n 0) 1 13 := ⟨by decide +kernel, rfl⟩
theorem iX11_keep_13 : In cX11_keep 13 (.getfield 52) 3 16 := ⟨by decide +kernel, rfl⟩
theorem iX11_keep_16 : In cX11_keep 16 (.iload_n 1) 1 17 := ⟨by decide +kernel, rfl⟩
theorem iX11_keep_17 : In cX11_keep 17 (.iconst 1) 1 18 := ⟨by decide +kernel, rfl⟩
theorem iX11_keep_18 : In cX11_keep 18 (.bastore) 1 19 := ⟨by decide +kernel, rfl⟩
theorem iX11_keep_19 : In cX11_keep 19 (.iconst 0) 1 20 := ⟨by decide +kernel, rfl⟩
theorem iX11_keep_20 : In cX11_keep 20 (.istore_n 2) 1 21 := ⟨by decide +kernel, rfl⟩
theorem iX11_keep_21 : In cX11_keep 21 (.iload_n 2) 1 22 := ⟨by decide +kernel, rfl⟩
theorem iX11_keep_22 : In cX11_keep 22 (.bipush 18) 2 24 := ⟨by decide +kernel, rfl⟩
theorem iX11_keep_24 : Jn cX11_keep 24 (.if_icmp .ge 26) (26) 27 50 := ⟨by decide +kernel, rfl, by decide⟩
theorem iX11_keep_27 : In cX11_keep 27 (.aload_n 0) 1 28 := ⟨by decide +kernel, rfl⟩
theorem iX11_keep_28 : In cX11_keep 28 (.getfield 56) 3 31 := ⟨by decide +kernel, rfl⟩
theorem iX11_keep_31 : In cX11_keep 31 (.bipush 18) 2 33 := ⟨by decide +kernel, rfl⟩
theorem iX11_keep_33 : In cX11_keep 33 (.iload_n 1) 1 34 := ⟨by decide +kernel, rfl⟩
theorem iX11_keep_34 : In cX11_keep 34 (.imul) 1 35 := ⟨by decide +kernel, rfl⟩
theorem iX11_keep_35 : In cX11_keep 35 (.iload_n 2) 1 36 := ⟨by decide +kernel, rfl⟩
theorem iX11_keep_36 : In cX11_keep 36 (.iadd) 1 37 := ⟨by decide +kernel, rfl⟩
theorem iX11_keep_37 : In cX11_keep 37 (.aload_n 0) 1 38 := ⟨by decide +kernel, rfl⟩
theorem iX11_keep_38 : In cX11_keep 38 (.getfield 22) 3 41 := ⟨by decide +kernel, rfl⟩
theorem iX11_keep_41 : In cX11_keep 41 (.iload_n 2) 1 42 := ⟨by decide +kernel, rfl⟩
theorem iX11_keep_42 : In cX11_keep 42 (.iaload) 1 43 := ⟨by decide +kernel, rfl⟩
theorem iX11_keep_43 : In cX11_keep 43 (.iastore) 1 44 := ⟨by decide +kernel, rfl⟩
theorem iX11_keep_44 : In cX11_keep 44 (.iinc 2 1) 3 47 := ⟨by decide +kernel, rfl⟩
theorem iX11_keep_47 : Jn cX11_keep 47 (.goto (-26)) (-26) 50 21 := ⟨by decide +kernel, rfl, by decide⟩
theorem iX11_keep_50 : In cX11_keep 50 (.aload_n 0) 1 51 := ⟨by decide +kernel, rfl⟩
theorem iX11_keep_51 : In cX11_keep 51 (.getfield 22) 3 54 := ⟨by decide +kernel, rfl⟩
theorem iX11_keep_54 : In cX11_keep 54 (.bipush 17) 2 56 := ⟨by decide +kernel, rfl⟩
theorem iX11_keep_56 : In cX11_keep 56 (.iaload) 1 57 := ⟨by decide +kernel, rfl⟩
theorem iX11_keep_57 : In cX11_keep 57 (.ireturn) 1 58 := ⟨by decide +kernel, rfl⟩
theorem iX11_again_0 : In cX11_again 0 (.iload_n 1) 1 1 := ⟨by decide +kernel, rfl⟩
theorem iX11_again_1 : In cX11_again 1 (.i2l) 1 2 := ⟨by decide +kernel, rfl⟩
theorem iX11_again_2 : In cX11_again 2 (.lconst 0) 1 3 := ⟨by decide +kernel, rfl⟩
theorem iX11_again_3 : In cX11_again 3 (.lconst 1) 1 4 := ⟨by decide +kernel, rfl⟩
theorem iX11_again_4 : In cX11_again 4 (.invokestatic 61) 3 7 := ⟨by decide +kernel, rfl⟩
theorem iX11_again_7 : Jn cX11_again 7 (.ifCond .ne 5) (5) 10 12 := ⟨by decide +kernel, rfl, by decide⟩
theorem iX11_again_10 : In cX11_again 10 (.iconst (-1)) 1 11 := ⟨by decide +kernel, rfl⟩
theorem iX11_again_11 : In cX11_again 11 (.ireturn) 1 12 := ⟨by decide +kernel, rfl⟩
theorem iX11_again_12 : In cX11_again 12 (.aload_n 0) 1 13 := ⟨by decide +kernel, rfl⟩
theorem iX11_again_13 : In cX11_again 13 (.getfield 52) 3 16 := ⟨by decide +kernel, rfl⟩
theorem iX11_again_16 : In cX11_again 16 (.iload_n 1) 1 17 := ⟨by decide +kernel, rfl⟩
theorem iX11_again_17 : In cX11_again 17 (.baload) 1 18 := ⟨by decide +kernel, rfl⟩
theorem iX11_again_18 : Jn cX11_again 18 (.ifCond .ne 6) (6) 21 24 := ⟨by decide +kernel, rfl, by decide⟩
theorem iX11_again_21 : In cX11_again 21 (.bipush (-3)) 2 23 := ⟨by decide +kernel, rfl⟩
theorem iX11_again_23 : In cX11_again 23 (.ireturn) 1 24 := ⟨by decide +kernel, rfl⟩
theorem iX11_again_24 : In cX11_again 24 (.iconst 0) 1 25 := ⟨by decide +kernel, rfl⟩
theorem iX11_again_25 : In cX11_again 25 (.istore_n 2) 1 26 := ⟨by decide +kernel, rfl⟩
theorem iX11_again_26 : In cX11_again 26 (.iload_n 2) 1 27 := ⟨by decide +kernel, rfl⟩
theorem iX11_again_27 : In cX11_again 27 (.bipush 18) 2 29 := ⟨by decide +kernel, rfl⟩
theorem iX11_again_29 : Jn cX11_again 29 (.if_icmp .ge 26) (26) 32 55 := ⟨by decide +kernel, rfl, by decide⟩
theorem iX11_again_32 : In cX11_again 32 (.aload_n 0) 1 33 := ⟨by decide +kernel, rfl⟩
theorem iX11_again_33 : In cX11_again 33 (.getfield 22) 3 36 := ⟨by decide +kernel, rfl⟩
theorem iX11_again_36 : In cX11_again 36 (.iload_n 2) 1 37 := ⟨by decide +kernel, rfl⟩
theorem iX11_again_37 : In cX11_again 37 (.aload_n 0) 1 38 := ⟨by decide +kernel, rfl⟩
theorem iX11_again_38 : In cX11_again 38 (.getfield 56) 3 41 := ⟨by decide +kernel, rfl⟩
theorem iX11_again_41 : In cX11_again 41 (.bipush 18) 2 43 := ⟨by decide +kernel, rfl⟩
theorem iX11_again_43 : In cX11_again 43 (.iload_n 1) 1 44 := ⟨by decide +kernel, rfl⟩
theorem iX11_again_44 : In cX11_again 44 (.imul) 1 45 := ⟨by decide +kernel, rfl⟩
theorem iX11_again_45 : In cX11_again 45 (.iload_n 2) 1 46 := ⟨by decide +kernel, rfl⟩
theorem iX11_again_46 : In cX11_again 46 (.iadd) 1 47 := ⟨by decide +kernel, rfl⟩
theorem iX11_again_47 : In cX11_again 47 (.iaload) 1 48 := ⟨by decide +kernel, rfl⟩
theorem iX11_again_48 : In cX11_again 48 (.iastore) 1 49 := ⟨by decide +kernel, rfl⟩
theorem iX11_again_49 : In cX11_again 49 (.iinc 2 1) 3 52 := ⟨by decide +kernel, rfl⟩
theorem iX11_again_52 : Jn cX11_again 52 (.goto (-26)) (-26) 55 26 := ⟨by decide +kernel, rfl, by decide⟩
theorem iX11_again_55 : In cX11_again 55 (.aload_n 0) 1 56 := ⟨by decide +kernel, rfl⟩
theorem iX11_again_56 : In cX11_again 56 (.iconst 0) 1 57 := ⟨by decide +kernel, rfl⟩
theorem iX11_again_57 : In cX11_again 57 (.putfield 105) 3 60 := ⟨by decide +kernel, rfl⟩
theorem iX11_again_60 : In cX11_again 60 (.aload_n 0) 1 61 := ⟨by decide +kernel, rfl⟩
theorem iX11_again_61 : In cX11_again 61 (.getfield 22) 3 64 := ⟨by decide +kernel, rfl⟩
theorem iX11_again_64 : In cX11_again 64 (.bipush 17) 2 66 := ⟨by decide +kernel, rfl⟩
theorem iX11_again_66 : In cX11_again 66 (.iaload) 1 67 := ⟨by decide +kernel, rfl⟩
theorem iX11_again_67 : In cX11_again 67 (.ireturn) 1 68 := ⟨by decide +kernel, rfl⟩
theorem iX11_together_0 : In cX11_together 0 (.iconst 0) 1 1 := ⟨by decide +kernel, rfl⟩
theorem iX11_together_1 : In cX11_together 1 (.istore_n 2) 1 2 := ⟨by decide +kernel, rfl⟩
theorem iX11_together_2 : In cX11_together 2 (.iconst 0) 1 3 := ⟨by decide +kernel, rfl⟩
theorem iX11_together_3 : In cX11_together 3 (.istore_n 3) 1 4 := ⟨by decide +kernel, rfl⟩
theorem iX11_together_4 : In cX11_together 4 (.iload_n 3) 1 5 := ⟨by decide +kernel, rfl⟩
theorem iX11_together_5 : In cX11_together 5 (.aload_n 0) 1 6 := ⟨by decide +kernel, rfl⟩
theorem iX11_together_6 : In cX11_together 6 (.getfield 99) 3 9 := ⟨by decide +kernel, rfl⟩
theorem iX11_together_9 : Jn cX11_together 9 (.if_icmp .ge 20) (20) 12 29 := ⟨by decide +kernel, rfl, by decide⟩
theorem iX11_together_12 : In cX11_together 12 (.iload_n 2) 1 13 := ⟨by decide +kernel, rfl⟩
theorem iX11_together_13 : In cX11_together 13 (.aload_n 0) 1 14 := ⟨by decide +kernel, rfl⟩
theorem iX11_together_14 : In cX11_together 14 (.getfield 22) 3 17 := ⟨by decide +kernel, rfl⟩
theorem iX11_together_17 : In cX11_together 17 (.iload_n 1) 1 18 := ⟨by decide +kernel, rfl⟩
theorem iX11_together_18 : In cX11_together 18 (.iload_n 3) 1 19 := ⟨by decide +kernel, rfl⟩
theorem iX11_together_19 : In cX11_together 19 (.iadd) 1 20 := ⟨by decide +kernel, rfl⟩
theorem iX11_together_20 : In cX11_together 20 (.iaload) 1 21 := ⟨by decide +kernel, rfl⟩
theorem iX11_together_21 : In cX11_together 21 (.iadd) 1 22 := ⟨by decide +kernel, rfl⟩
theorem iX11_together_22 : In cX11_together 22 (.istore_n 2) 1 23 := ⟨by decide +kernel, rfl⟩
theorem iX11_together_23 : In cX11_together 23 (.iinc 3 1) 3 26 := ⟨by decide +kernel, rfl⟩
theorem iX11_together_26 : Jn cX11_together 26 (.goto (-22)) (-22) 29 4 := ⟨by decide +kernel, rfl, by decide⟩
theorem iX11_together_29 : In cX11_together 29 (.iload_n 2) 1 30 := ⟨by decide +kernel, rfl⟩
theorem iX11_together_30 : In cX11_together 30 (.ireturn) 1 31 := ⟨by decide +kernel, rfl⟩
theorem iX11_beaten_0 : In cX11_beaten 0 (.iconst 0) 1 1 := ⟨by decide +kernel, rfl⟩
theorem iX11_beaten_1 : In cX11_beaten 1 (.istore_n 1) 1 2 := ⟨by decide +kernel, rfl⟩
theorem iX11_beaten_2 : In cX11_beaten 2 (.iconst 0) 1 3 := ⟨by decide +kernel, rfl⟩
theorem iX11_beaten_3 : In cX11_beaten 3 (.istore_n 2) 1 4 := ⟨by decide +kernel, rfl⟩
theorem iX11_beaten_4 : In cX11_beaten 4 (.iload_n 2) 1 5 := ⟨by decide +kernel, rfl⟩
theorem iX11_beaten_5 : In cX11_beaten 5 (.aload_n 0) 1 6 := ⟨by decide +kernel, rfl⟩
theorem iX11_beaten_6 : In cX11_beaten 6 (.getfield 99) 3 9 := ⟨by decide +kernel, rfl⟩
theorem iX11_beaten_9 : Jn cX11_beaten 9 (.if_icmp .ge 17) (17) 12 26 := ⟨by decide +kernel, rfl, by decide⟩
theorem iX11_beaten_12 : In cX11_beaten 12 (.iload_n 1) 1 13 := ⟨by decide +kernel, rfl⟩
theorem iX11_beaten_13 : In cX11_beaten 13 (.aload_n 0) 1 14 := ⟨by decide +kernel, rfl⟩
theorem iX11_beaten_14 : In cX11_beaten 14 (.iload_n 2) 1 15 := ⟨by decide +kernel, rfl⟩
theorem iX11_beaten_15 : In cX11_beaten 15 (.invokevirtual 160) 3 18 := ⟨by decide +kernel, rfl⟩
theorem iX11_beaten_18 : In cX11_beaten 18 (.ior) 1 19 := ⟨by decide +kernel, rfl⟩
theorem iX11_beaten_19 : In cX11_beaten 19 (.istore_n 1) 1 20 := ⟨by decide +kernel, rfl⟩
theorem iX11_beaten_20 : In cX11_beaten 20 (.iinc 2 1) 3 23 := ⟨by decide +kernel, rfl⟩
theorem iX11_beaten_23 : Jn cX11_beaten 23 (.goto (-19)) (-19) 26 4 := ⟨by decide +kernel, rfl, by decide⟩
theorem iX11_beaten_26 : In cX11_beaten 26 (.iload_n 1) 1 27 := ⟨by decide +kernel, rfl⟩
theorem iX11_beaten_27 : In cX11_beaten 27 (.ireturn) 1 28 := ⟨by decide +kernel, rfl⟩
theorem iX11_count_0 : In cX11_count 0 (.iload_n 1) 1 1 := ⟨by decide +kernel, rfl⟩
theorem iX11_count_1 : In cX11_count 1 (.tableswitch 112 0 9 #[55, 60, 65, 70, 78, 84, 91, 97, 102, 107]) 55 56 := ⟨by decide +kernel, rfl⟩
theorem iX11_count_56 : In cX11_count 56 (.aload_n 0) 1 57 := ⟨by decide +kernel, rfl⟩
theorem iX11_count_57 : In cX11_count 57 (.getfield 65) 3 60 := ⟨by decide +kernel, rfl⟩
theorem iX11_count_60 : In cX11_count 60 (.ireturn) 1 61 := ⟨by decide +kernel, rfl⟩
theorem iX11_count_61 : In cX11_count 61 (.aload_n 0) 1 62 := ⟨by decide +kernel, rfl⟩
theorem iX11_count_62 : In cX11_count 62 (.getfield 99) 3 65 := ⟨by decide +kernel, rfl⟩
theorem iX11_count_65 : In cX11_count 65 (.ireturn) 1 66 := ⟨by decide +kernel, rfl⟩
theorem iX11_count_66 : In cX11_count 66 (.aload_n 0) 1 67 := ⟨by decide +kernel, rfl⟩
theorem iX11_count_67 : In cX11_count 67 (.getfield 102) 3 70 := ⟨by decide +kernel, rfl⟩
theorem iX11_count_70 : In cX11_count 70 (.ireturn) 1 71 := ⟨by decide +kernel, rfl⟩
theorem iX11_count_71 : In cX11_count 71 (.aload_n 0) 1 72 := ⟨by decide +kernel, rfl⟩
theorem iX11_count_72 : In cX11_count 72 (.getfield 22) 3 75 := ⟨by decide +kernel, rfl⟩
theorem iX11_count_75 : In cX11_count 75 (.bipush 17) 2 77 := ⟨by decide +kernel, rfl⟩
theorem iX11_count_77 : In cX11_count 77 (.iaload) 1 78 := ⟨by decide +kernel, rfl⟩
theorem iX11_count_78 : In cX11_count 78 (.ireturn) 1 79 := ⟨by decide +kernel, rfl⟩
theorem iX11_count_79 : In cX11_count 79 (.aload_n 0) 1 80 := ⟨by decide +kernel, rfl⟩
theorem iX11_count_80 : In cX11_count 80 (.iconst 5) 1 81 := ⟨by decide +kernel, rfl⟩
theorem iX11_count_81 : In cX11_count 81 (.invokevirtual 268) 3 84 := ⟨by decide +kernel, rfl⟩
theorem iX11_count_84 : In cX11_count 84 (.ireturn) 1 85 := ⟨by decide +kernel, rfl⟩
theorem iX11_count_85 : In cX11_count 85 (.aload_n 0) 1 86 := ⟨by decide +kernel, rfl⟩
theorem iX11_count_86 : In cX11_count 86 (.bipush 11) 2 88 := ⟨by decide +kernel, rfl⟩
theorem iX11_count_88 : In cX11_count 88 (.invokevirtual 268) 3 91 := ⟨by decide +kernel, rfl⟩
theorem iX11_count_91 : In cX11_count 91 (.ireturn) 1 92 := ⟨by decide +kernel, rfl⟩
theorem iX11_count_92 : In cX11_count 92 (.aload_n 0) 1 93 := ⟨by decide +kernel, rfl⟩
theorem iX11_count_93 : In cX11_count 93 (.iconst 0) 1 94 := ⟨by decide +kernel, rfl⟩
theorem iX11_count_94 : In cX11_count 94 (.invokevirtual 265) 3 97 := ⟨by decide +kernel, rfl⟩
theorem iX11_count_97 : In cX11_count 97 (.ireturn) 1 98 := ⟨by decide +kernel, rfl⟩
theorem iX11_count_98 : In cX11_count 98 (.aload_n 0) 1 99 := ⟨by decide +kernel, rfl⟩
theorem iX11_count_99 : In cX11_count 99 (.invokevirtual 271) 3 102 := ⟨by decide +kernel, rfl⟩
theorem iX11_count_102 : In cX11_count 102 (.ireturn) 1 103 := ⟨by decide +kernel, rfl⟩
theorem iX11_count_103 : In cX11_count 103 (.aload_n 0) 1 104 := ⟨by decide +kernel, rfl⟩
theorem iX11_count_104 : In cX11_count 104 (.getfield 105) 3 107 := ⟨by decide +kernel, rfl⟩
theorem iX11_count_107 : In cX11_count 107 (.ireturn) 1 108 := ⟨by decide +kernel, rfl⟩
theorem iX11_count_108 : In cX11_count 108 (.aload_n 0) 1 109 := ⟨by decide +kernel, rfl⟩
theorem iX11_count_109 : In cX11_count 109 (.getfield 222) 3 112 := ⟨by decide +kernel, rfl⟩
theorem iX11_count_112 : In cX11_count 112 (.ireturn) 1 113 := ⟨by decide +kernel, rfl⟩
theorem iX11_count_113 : In cX11_count 113 (.bipush (-2)) 2 115 := ⟨by decide +kernel, rfl⟩
theorem iX11_count_115 : In cX11_count 115 (.ireturn) 1 116 := ⟨by decide +kernel, rfl⟩
theorem iJ6_bitCount_0f7a4_0 : In cJ6_bitCount_0f7a4 0 (.iload_n 0) 1 1 := ⟨by decide +kernel, rfl⟩
theorem iJ6_bitCount_0f7a4_1 : In cJ6_bitCount_0f7a4 1 (.iload_n 0) 1 2 := ⟨by decide +kernel, rfl⟩
theorem iJ6_bitCount_0f7a4_2 : In cJ6_bitCount_0f7a4 2 (.iconst 1) 1 3 := ⟨by decide +kernel, rfl⟩
theorem iJ6_bitCount_0f7a4_3 : In cJ6_bitCount_0f7a4 3 (.iushr) 1 4 := ⟨by decide +kernel, rfl⟩
theorem iJ6_bitCount_0f7a4_4 : In cJ6_bitCount_0f7a4 4 (.ldc_w 265) 3 7 := ⟨by decide +kernel, rfl⟩
theorem iJ6_bitCount_0f7a4_7 : In cJ6_bitCount_0f7a4 7 (.iand) 1 8 := ⟨by decide +kernel, rfl⟩
theorem iJ6_bitCount_0f7a4_8 : In cJ6_bitCount_0f7a4 8 (.isub) 1 9 := ⟨by decide +kernel, rfl⟩
theorem iJ6_bitCount_0f7a4_9 : In cJ6_bitCount_0f7a4 9 (.istore_n 0) 1 10 := ⟨by decide +kernel, rfl⟩
theorem iJ6_bitCount_0f7a4_10 : In cJ6_bitCount_0f7a4 10 (.iload_n 0) 1 11 := ⟨by decide +kernel, rfl⟩
theorem iJ6_bitCount_0f7a4_11 : In cJ6_bitCount_0f7a4 11 (.ldc_w 266) 3 14 := ⟨by decide +kernel, rfl⟩
theorem iJ6_bitCount_0f7a4_14 : In cJ6_bitCount_0f7a4 14 (.iand) 1 15 := ⟨by decide +kernel, rfl⟩
theorem iJ6_bitCount_0f7a4_15 : In cJ6_bitCount_0f7a4 15 (.iload_n 0) 1 16 := ⟨by decide +kernel, rfl⟩
theorem iJ6_bitCount_0f7a4_16 : In cJ6_bitCount_0f7a4 16 (.iconst 2) 1 17 := ⟨by decide +kernel, rfl⟩
theorem iJ6_bitCount_0f7a4_17 : In cJ6_bitCount_0f7a4 17 (.iushr) 1 18 := ⟨by decide +kernel, rfl⟩
theorem iJ6_bitCount_0f7a4_18 : In cJ6_bitCount_0f7a4 18 (.ldc_w 266) 3 21 := ⟨by decide +kernel, rfl⟩
theorem iJ6_bitCount_0f7a4_21 : In cJ6_bitCount_0f7a4 21 (.iand) 1 22 := ⟨by decide +kernel, rfl⟩
theorem iJ6_bitCount_0f7a4_22 : In cJ6_bitCount_0f7a4 22 (.iadd) 1 23 := ⟨by decide +kernel, rfl⟩
theorem iJ6_bitCount_0f7a4_23 : In cJ6_bitCount_0f7a4 23 (.istore_n 0) 1 24 := ⟨by decide +kernel, rfl⟩
theorem iJ6_bitCount_0f7a4_24 : In cJ6_bitCount_0f7a4 24 (.iload_n 0) 1 25 := ⟨by decide +kernel, rfl⟩
theorem iJ6_bitCount_0f7a4_25 : In cJ6_bitCount_0f7a4 25 (.iload_n 0) 1 26 := ⟨by decide +kernel, rfl⟩
theorem iJ6_bitCount_0f7a4_26 : In cJ6_bitCount_0f7a4 26 (.iconst 4) 1 27 := ⟨by decide +kernel, rfl⟩
theorem iJ6_bitCount_0f7a4_27 : In cJ6_bitCount_0f7a4 27 (.iushr) 1 28 := ⟨by decide +kernel, rfl⟩
theorem iJ6_bitCount_0f7a4_28 : In cJ6_bitCount_0f7a4 28 (.iadd) 1 29 := ⟨by decide +kernel, rfl⟩
theorem iJ6_bitCount_0f7a4_29 : In cJ6_bitCount_0f7a4 29 (.ldc_w 267) 3 32 := ⟨by decide +kernel, rfl⟩
theorem iJ6_bitCount_0f7a4_32 : In cJ6_bitCount_0f7a4 32 (.iand) 1 33 := ⟨by decide +kernel, rfl⟩
theorem iJ6_bitCount_0f7a4_33 : In cJ6_bitCount_0f7a4 33 (.istore_n 0) 1 34 := ⟨by decide +kernel, rfl⟩
theorem iJ6_bitCount_0f7a4_34 : In cJ6_bitCount_0f7a4 34 (.iload_n 0) 1 35 := ⟨by decide +kernel, rfl⟩
theorem iJ6_bitCount_0f7a4_35 : In cJ6_bitCount_0f7a4 35 (.iload_n 0) 1 36 := ⟨by decide +kernel, rfl⟩
theorem iJ6_bitCount_0f7a4_36 : In cJ6_bitCount_0f7a4 36 (.bipush 8) 2 38 := ⟨by decide +kernel, rfl⟩
theorem iJ6_bitCount_0f7a4_38 : In cJ6_bitCount_0f7a4 38 (.iushr) 1 39 := ⟨by decide +kernel, rfl⟩
theorem iJ6_bitCount_0f7a4_39 : In cJ6_bitCount_0f7a4 39 (.iadd) 1 40 := ⟨by decide +kernel, rfl⟩
theorem iJ6_bitCount_0f7a4_40 : In cJ6_bitCount_0f7a4 40 (.istore_n 0) 1 41 := ⟨by decide +kernel, rfl⟩
theorem iJ6_bitCount_0f7a4_41 : In cJ6_bitCount_0f7a4 41 (.iload_n 0) 1 42 := ⟨by decide +kernel, rfl⟩
theorem iJ6_bitCount_0f7a4_42 : In cJ6_bitCount_0f7a4 42 (.iload_n 0) 1 43 := ⟨by decide +kernel, rfl⟩
theorem iJ6_bitCount_0f7a4_43 : In cJ6_bitCount_0f7a4 43 (.bipush 16) 2 45 := ⟨by decide +kernel, rfl⟩
theorem iJ6_bitCount_0f7a4_45 : In cJ6_bitCount_0f7a4 45 (.iushr) 1 46 := ⟨by decide +kernel, rfl⟩
theorem iJ6_bitCount_0f7a4_46 : In cJ6_bitCount_0f7a4 46 (.iadd) 1 47 := ⟨by decide +kernel, rfl⟩
theorem iJ6_bitCount_0f7a4_47 : In cJ6_bitCount_0f7a4 47 (.istore_n 0) 1 48 := ⟨by decide +kernel, rfl⟩
theorem iJ6_bitCount_0f7a4_48 : In cJ6_bitCount_0f7a4 48 (.iload_n 0) 1 49 := ⟨by decide +kernel, rfl⟩
theorem iJ6_bitCount_0f7a4_49 : In cJ6_bitCount_0f7a4 49 (.bipush 63) 2 51 := ⟨by decide +kernel, rfl⟩
theorem iJ6_bitCount_0f7a4_51 : In cJ6_bitCount_0f7a4 51 (.iand) 1 52 := ⟨by decide +kernel, rfl⟩
theorem iJ6_bitCount_0f7a4_52 : In cJ6_bitCount_0f7a4 52 (.ireturn) 1 53 := ⟨by decide +kernel, rfl⟩
theorem iJ9_max_7cf53_0 : In cJ9_max_7cf53 0 (.iload_n 0) 1 1 := ⟨by decide +kernel, rfl⟩
theorem iJ9_max_7cf53_1 : In cJ9_max_7cf53 1 (.iload_n 1) 1 2 := ⟨by decide +kernel, rfl⟩
theorem iJ9_max_7cf53_2 : Jn cJ9_max_7cf53 2 (.if_icmp .lt 7) (7) 5 9 := ⟨by decide +kernel, rfl, by decide⟩
theorem iJ9_max_7cf53_5 : In cJ9_max_7cf53 5 (.iload_n 0) 1 6 := ⟨by decide +kernel, rfl⟩
theorem iJ9_max_7cf53_6 : Jn cJ9_max_7cf53 6 (.goto 4) (4) 9 10 := ⟨by decide +kernel, rfl, by decide⟩
theorem iJ9_max_7cf53_9 : In cJ9_max_7cf53 9 (.iload_n 1) 1 10 := ⟨by decide +kernel, rfl⟩
theorem iJ9_max_7cf53_10 : In cJ9_max_7cf53 10 (.ireturn) 1 11 := ⟨by decide +kernel, rfl⟩
theorem iJ9_min_7cf53_0 : In cJ9_min_7cf53 0 (.iload_n 0) 1 1 := ⟨by decide +kernel, rfl⟩
theorem iJ9_min_7cf53_1 : In cJ9_min_7cf53 1 (.iload_n 1) 1 2 := ⟨by decide +kernel, rfl⟩
theorem iJ9_min_7cf53_2 : Jn cJ9_min_7cf53 2 (.if_icmp .gt 7) (7) 5 9 := ⟨by decide +kernel, rfl, by decide⟩
theorem iJ9_min_7cf53_5 : In cJ9_min_7cf53 5 (.iload_n 0) 1 6 := ⟨by decide +kernel, rfl⟩
theorem iJ9_min_7cf53_6 : Jn cJ9_min_7cf53 6 (.goto 4) (4) 9 10 := ⟨by decide +kernel, rfl, by decide⟩
theorem iJ9_min_7cf53_9 : In cJ9_min_7cf53 9 (.iload_n 1) 1 10 := ⟨by decide +kernel, rfl⟩
theorem iJ9_min_7cf53_10 : In cJ9_min_7cf53 10 (.ireturn) 1 11 := ⟨by decide +kernel, rfl⟩
theorem iJ7_fill_53178_0 : In cJ7_fill_53178 0 (.iconst 0) 1 1 := ⟨by decide +kernel, rfl⟩
theorem iJ7_fill_53178_1 : In cJ7_fill_53178 1 (.istore_n 2) 1 2 := ⟨by decide +kernel, rfl⟩
theorem iJ7_fill_53178_2 : In cJ7_fill_53178 2 (.aload_n 0) 1 3 := ⟨by decide +kernel, rfl⟩
theorem iJ7_fill_53178_3 : In cJ7_fill_53178 3 (.arraylength) 1 4 := ⟨by decide +kernel, rfl⟩
theorem iJ7_fill_53178_4 : In cJ7_fill_53178 4 (.istore_n 3) 1 5 := ⟨by decide +kernel, rfl⟩
theorem iJ7_fill_53178_5 : In cJ7_fill_53178 5 (.iload_n 2) 1 6 := ⟨by decide +kernel, rfl⟩
theorem iJ7_fill_53178_6 : In cJ7_fill_53178 6 (.iload_n 3) 1 7 := ⟨by decide +kernel, rfl⟩
theorem iJ7_fill_53178_7 : Jn cJ7_fill_53178 7 (.if_icmp .ge 13) (13) 10 20 := ⟨by decide +kernel, rfl, by decide⟩
theorem iJ7_fill_53178_10 : In cJ7_fill_53178 10 (.aload_n 0) 1 11 := ⟨by decide +kernel, rfl⟩
theorem iJ7_fill_53178_11 : In cJ7_fill_53178 11 (.iload_n 2) 1 12 := ⟨by decide +kernel, rfl⟩
theorem iJ7_fill_53178_12 : In cJ7_fill_53178 12 (.iload_n 1) 1 13 := ⟨by decide +kernel, rfl⟩
theorem iJ7_fill_53178_13 : In cJ7_fill_53178 13 (.iastore) 1 14 := ⟨by decide +kernel, rfl⟩
theorem iJ7_fill_53178_14 : In cJ7_fill_53178 14 (.iinc 2 1) 3 17 := ⟨by decide +kernel, rfl⟩
theorem iJ7_fill_53178_17 : Jn cJ7_fill_53178 17 (.goto (-12)) (-12) 20 5 := ⟨by decide +kernel, rfl, by decide⟩
theorem iJ7_fill_53178_20 : In cJ7_fill_53178 20 (.return_) 1 21 := ⟨by decide +kernel, rfl⟩
theorem iL_law_0 : In cL_law 0 (.new 7) 3 3 := ⟨by decide +kernel, rfl⟩
theorem iL_law_3 : In cL_law 3 (.dup) 1 4 := ⟨by decide +kernel, rfl⟩
theorem iL_law_4 : In cL_law 4 (.invokespecial 9) 3 7 := ⟨by decide +kernel, rfl⟩
theorem iL_law_7 : In cL_law 7 (.astore_n 1) 1 8 := ⟨by decide +kernel, rfl⟩
theorem iL_law_8 : In cL_law 8 (.new 10) 3 11 := ⟨by decide +kernel, rfl⟩
theorem iL_law_11 : In cL_law 11 (.dup) 1 12 := ⟨by decide +kernel, rfl⟩
theorem iL_law_12 : In cL_law 12 (.invokespecial 12) 3 15 := ⟨by decide +kernel, rfl⟩
theorem iL_law_15 : In cL_law 15 (.astore_n 2) 1 16 := ⟨by decide +kernel, rfl⟩
theorem iL_law_16 : In cL_law 16 (.iconst 0) 1 17 := ⟨by decide +kernel, rfl⟩
theorem iL_law_17 : In cL_law 17 (.istore_n 3) 1 18 := ⟨by decide +kernel, rfl⟩
theorem iL_law_18 : In cL_law 18 (.iload_n 3) 1 19 := ⟨by decide +kernel, rfl⟩
theorem iL_law_19 : In cL_law 19 (.aload_n 0) 1 20 := ⟨by decide +kernel, rfl⟩
theorem iL_law_20 : In cL_law 20 (.arraylength) 1 21 := ⟨by decide +kernel, rfl⟩
theorem iL_law_21 : In cL_law 21 (.iconst 5) 1 22 := ⟨by decide +kernel, rfl⟩
theorem iL_law_22 : In cL_law 22 (.isub) 1 23 := ⟨by decide +kernel, rfl⟩
theorem iL_law_23 : Jn cL_law 23 (.if_icmp .gt 946) (946) 26 969 := ⟨by decide +kernel, rfl, by decide⟩
theorem iL_law_26 : In cL_law 26 (.aload_n 0) 1 27 := ⟨by decide +kernel, rfl⟩
theorem iL_law_27 : In cL_law 27 (.iload_n 3) 1 28 := ⟨by decide +kernel, rfl⟩
theorem iL_law_28 : In cL_law 28 (.iaload) 1 29 := ⟨by decide +kernel, rfl⟩
theorem iL_law_29 : In cL_law 29 (.bipush 31) 2 31 := ⟨by decide +kernel, rfl⟩
theorem iL_law_31 : In cL_law 31 (.iand) 1 32 := ⟨by decide +kernel, rfl⟩
theorem iL_law_32 : In cL_law 32 (.tableswitch 931 0 25 #[120, 143, 156, 169, 182, 215, 248, 291, 324, 357, 380, 413, 426, 469, 492, 555, 588, 601, 624, 673, 716, 785, 839, 862, 885, 908]) 120 152 := ⟨by decide +kernel, rfl⟩
theorem iL_law_152 : In cL_law 152 (.aload_n 1) 1 153 := ⟨by decide +kernel, rfl⟩
theorem iL_law_153 : In cL_law 153 (.aload_n 0) 1 154 := ⟨by decide +kernel, rfl⟩
theorem iL_law_154 : In cL_law 154 (.iload_n 3) 1 155 := ⟨by decide +kernel, rfl⟩
theorem iL_law_155 : In cL_law 155 (.iconst 1) 1 156 := ⟨by decide +kernel, rfl⟩
theorem iL_law_156 : In cL_law 156 (.iadd) 1 157 := ⟨by decide +kernel, rfl⟩
theorem iL_law_157 : In cL_law 157 (.iaload) 1 158 := ⟨by decide +kernel, rfl⟩
theorem iL_law_158 : In cL_law 158 (.invokevirtual 13) 3 161 := ⟨by decide +kernel, rfl⟩
theorem iL_law_161 : In cL_law 161 (.aload_n 2) 1 162 := ⟨by decide +kernel, rfl⟩
theorem iL_law_162 : In cL_law 162 (.aload_n 0) 1 163 := ⟨by decide +kernel, rfl⟩
theorem iL_law_163 : In cL_law 163 (.iload_n 3) 1 164 := ⟨by decide +kernel, rfl⟩
theorem iL_law_164 : In cL_law 164 (.iconst 1) 1 165 := ⟨by decide +kernel, rfl⟩
theorem iL_law_165 : In cL_law 165 (.iadd) 1 166 := ⟨by decide +kernel, rfl⟩
theorem iL_law_166 : In cL_law 166 (.iaload) 1 167 := ⟨by decide +kernel, rfl⟩
theorem iL_law_167 : In cL_law 167 (.invokevirtual 17) 3 170 := ⟨by decide +kernel, rfl⟩
theorem iL_law_170 : Jn cL_law 170 (.if_icmp .eq 793) (793) 173 963 := ⟨by decide +kernel, rfl, by decide⟩
theorem iL_law_173 : In cL_law 173 (.iconst 0) 1 174 := ⟨by decide +kernel, rfl⟩
theorem iL_law_174 : In cL_law 174 (.ireturn) 1 175 := ⟨by decide +kernel, rfl⟩
theorem iL_law_175 : In cL_law 175 (.aload_n 1) 1 176 := ⟨by decide +kernel, rfl⟩
theorem iL_law_176 : In cL_law 176 (.invokevirtual 18) 3 179 := ⟨by decide +kernel, rfl⟩
theorem iL_law_179 : In cL_law 179 (.aload_n 2) 1 180 := ⟨by decide +kernel, rfl⟩
theorem iL_law_180 : In cL_law 180 (.invokevirtual 22) 3 183 := ⟨by decide +kernel, rfl⟩
theorem iL_law_183 : Jn cL_law 183 (.if_icmp .eq 780) (780) 186 963 := ⟨by decide +kernel, rfl, by decide⟩
theorem iL_law_186 : In cL_law 186 (.iconst 0) 1 187 := ⟨by decide +kernel, rfl⟩
theorem iL_law_187 : In cL_law 187 (.ireturn) 1 188 := ⟨by decide +kernel, rfl⟩
theorem iL_law_188 : In cL_law 188 (.aload_n 1) 1 189 := ⟨by decide +kernel, rfl⟩
theorem iL_law_189 : In cL_law 189 (.invokevirtual 23) 3 192 := ⟨by decide +kernel, rfl⟩
theorem iL_law_192 : In cL_law 192 (.aload_n 2) 1 193 := ⟨by decide +kernel, rfl⟩
theorem iL_law_193 : In cL_law 193 (.invokevirtual 26) 3 196 := ⟨by decide +kernel, rfl⟩
theorem iL_law_196 : Jn cL_law 196 (.if_icmp .eq 767) (767) 199 963 := ⟨by decide +kernel, rfl, by decide⟩
theorem iL_law_199 : In cL_law 199 (.iconst 0) 1 200 := ⟨by decide +kernel, rfl⟩
theorem iL_law_200 : In cL_law 200 (.ireturn) 1 201 := ⟨by decide +kernel, rfl⟩
theorem iL_law_201 : In cL_law 201 (.aload_n 1) 1 202 := ⟨by decide +kernel, rfl⟩
theorem iL_law_202 : In cL_law 202 (.invokevirtual 27) 3 205 := ⟨by decide +kernel, rfl⟩
theorem iL_law_205 : In cL_law 205 (.aload_n 2) 1 206 := ⟨by decide +kernel, rfl⟩
theorem iL_law_206 : In cL_law 206 (.invokevirtual 30) 3 209 := ⟨by decide +kernel, rfl⟩
theorem iL_law_209 : Jn cL_law 209 (.if_icmp .eq 754) (754) 212 963 := ⟨by decide +kernel, rfl, by decide⟩
theorem iL_law_212 : In cL_law 212 (.iconst 0) 1 213 := ⟨by decide +kernel, rfl⟩
theorem iL_law_213 : In cL_law 213 (.ireturn) 1 214 := ⟨by decide +kernel, rfl⟩
theorem iL_law_214 : In cL_law 214 (.aload_n 1) 1 215 := ⟨by decide +kernel, rfl⟩
theorem iL_law_215 : In cL_law 215 (.aload_n 0) 1 216 := ⟨by decide +kernel, rfl⟩
theorem iL_law_216 : In cL_law 216 (.iload_n 3) 1 217 := ⟨by decide +kernel, rfl⟩
theorem iL_law_217 : In cL_law 217 (.iconst 1) 1 218 := ⟨by decide +kernel, rfl⟩
theorem iL_law_218 : In cL_law 218 (.iadd) 1 219 := ⟨by decide +kernel, rfl⟩
theorem iL_law_219 : In cL_law 219 (.iaload) 1 220 := ⟨by decide +kernel, rfl⟩
theorem iL_law_220 : In cL_law 220 (.aload_n 0) 1 221 := ⟨by decide +kernel, rfl⟩
theorem iL_law_221 : In cL_law 221 (.iload_n 3) 1 222 := ⟨by decide +kernel, rfl⟩
theorem iL_law_222 : In cL_law 222 (.iconst 2) 1 223 := ⟨by decide +kernel, rfl⟩
theorem iL_law_223 : In cL_law 223 (.iadd) 1 224 := ⟨by decide +kernel, rfl⟩
theorem iL_law_224 : In cL_law 224 (.iaload) 1 225 := ⟨by decide +kernel, rfl⟩
theorem iL_law_225 : In cL_law 225 (.invokevirtual 31) 3 228 := ⟨by decide +kernel, rfl⟩
theorem iL_law_228 : In cL_law 228 (.aload_n 2) 1 229 := ⟨by decide +kernel, rfl⟩
theorem iL_law_229 : In cL_law 229 (.aload_n 0) 1 230 := ⟨by decide +kernel, rfl⟩
theorem iL_law_230 : In cL_law 230 (.iload_n 3) 1 231 := ⟨by decide +kernel, rfl⟩
theorem iL_law_231 : In cL_law 231 (.iconst 1) 1 232 := ⟨by decide +kernel, rfl⟩
theorem iL_law_232 : In cL_law 232 (.iadd) 1 233 := ⟨by decide +kernel, rfl⟩
theorem iL_law_233 : In cL_law 233 (.iaload) 1 234 := ⟨by decide +kernel, rfl⟩
theorem iL_law_234 : In cL_law 234 (.aload_n 0) 1 235 := ⟨by decide +kernel, rfl⟩
theorem iL_law_235 : In cL_law 235 (.iload_n 3) 1 236 := ⟨by decide +kernel, rfl⟩
theorem iL_law_236 : In cL_law 236 (.iconst 2) 1 237 := ⟨by decide +kernel, rfl⟩
theorem iL_law_237 : In cL_law 237 (.iadd) 1 238 := ⟨by decide +kernel, rfl⟩
theorem iL_law_238 : In cL_law 238 (.iaload) 1 239 := ⟨by decide +kernel, rfl⟩
theorem iL_law_239 : In cL_law 239 (.invokevirtual 35) 3 242 := ⟨by decide +kernel, rfl⟩
theorem iL_law_242 : Jn cL_law 242 (.if_icmp .eq 721) (721) 245 963 := ⟨by decide +kernel, rfl, by decide⟩
theorem iL_law_245 : In cL_law 245 (.iconst 0) 1 246 := ⟨by decide +kernel, rfl⟩
theorem iL_law_246 : In cL_law 246 (.ireturn) 1 247 := ⟨by decide +kernel, rfl⟩
theorem iL_law_247 : In cL_law 247 (.aload_n 1) 1 248 := ⟨by decide +kernel, rfl⟩
theorem iL_law_248 : In cL_law 248 (.aload_n 0) 1 249 := ⟨by decide +kernel, rfl⟩
theorem iL_law_249 : In cL_law 249 (.iload_n 3) 1 250 := ⟨by decide +kernel, rfl⟩
theorem iL_law_250 : In cL_law 250 (.iconst 1) 1 251 := ⟨by decide +kernel, rfl⟩
theorem iL_law_251 : In cL_law 251 (.iadd) 1 252 := ⟨by decide +kernel, rfl⟩
theorem iL_law_252 : In cL_law 252 (.iaload) 1 253 := ⟨by decide +kernel, rfl⟩
theorem iL_law_253 : In cL_law 253 (.aload_n 0) 1 254 := ⟨by decide +kernel, rfl⟩
theorem iL_law_254 : In cL_law 254 (.iload_n 3) 1 255 := ⟨by decide +kernel, rfl⟩
theorem iL_law_255 : In cL_law 255 (.iconst 2) 1 256 := ⟨by decide +kernel, rfl⟩
theorem iL_law_256 : In cL_law 256 (.iadd) 1 257 := ⟨by decide +kernel, rfl⟩
theorem iL_law_257 : In cL_law 257 (.iaload) 1 258 := ⟨by decide +kernel, rfl⟩
theorem iL_law_258 : In cL_law 258 (.invokevirtual 36) 3 261 := ⟨by decide +kernel, rfl⟩
theorem iL_law_261 : In cL_law 261 (.aload_n 2) 1 262 := ⟨by decide +kernel, rfl⟩
theorem iL_law_262 : In cL_law 262 (.aload_n 0) 1 263 := ⟨by decide +kernel, rfl⟩
theorem iL_law_263 : In cL_law 263 (.iload_n 3) 1 264 := ⟨by decide +kernel, rfl⟩
theorem iL_law_264 : In cL_law 264 (.iconst 1) 1 265 := ⟨by decide +kernel, rfl⟩
theorem iL_law_265 : In cL_law 265 (.iadd) 1 266 := ⟨by decide +kernel, rfl⟩
theorem iL_law_266 : In cL_law 266 (.iaload) 1 267 := ⟨by decide +kernel, rfl⟩
theorem iL_law_267 : In cL_law 267 (.aload_n 0) 1 268 := ⟨by decide +kernel, rfl⟩
theorem iL_law_268 : In cL_law 268 (.iload_n 3) 1 269 := ⟨by decide +kernel, rfl⟩
theorem iL_law_269 : In cL_law 269 (.iconst 2) 1 270 := ⟨by decide +kernel, rfl⟩
theorem iL_law_270 : In cL_law 270 (.iadd) 1 271 := ⟨by decide +kernel, rfl⟩
theorem iL_law_271 : In cL_law 271 (.iaload) 1 272 := ⟨by decide +kernel, rfl⟩
theorem iL_law_272 : In cL_law 272 (.invokevirtual 39) 3 275 := ⟨by decide +kernel, rfl⟩
theorem iL_law_275 : Jn cL_law 275 (.if_icmp .eq 688) (688) 278 963 := ⟨by decide +kernel, rfl, by decide⟩
theorem iL_law_278 : In cL_law 278 (.iconst 0) 1 279 := ⟨by decide +kernel, rfl⟩
theorem iL_law_279 : In cL_law 279 (.ireturn) 1 280 := ⟨by decide +kernel, rfl⟩
theorem iL_law_280 : In cL_law 280 (.aload_n 1) 1 281 := ⟨by decide +kernel, rfl⟩
theorem iL_law_281 : In cL_law 281 (.aload_n 0) 1 282 := ⟨by decide +kernel, rfl⟩
theorem iL_law_282 : In cL_law 282 (.iload_n 3) 1 283 := ⟨by decide +kernel, rfl⟩
theorem iL_law_283 : In cL_law 283 (.iconst 1) 1 284 := ⟨by decide +kernel, rfl⟩
theorem iL_law_284 : In cL_law 284 (.iadd) 1 285 := ⟨by decide +kernel, rfl⟩
theorem iL_law_285 : In cL_law 285 (.iaload) 1 286 := ⟨by decide +kernel, rfl⟩
theorem iL_law_286 : In cL_law 286 (.aload_n 0) 1 287 := ⟨by decide +kernel, rfl⟩
theorem iL_law_287 : In cL_law 287 (.iload_n 3) 1 288 := ⟨by decide +kernel, rfl⟩
theorem iL_law_288 : In cL_law 288 (.iconst 2) 1 289 := ⟨by decide +kernel, rfl⟩
theorem iL_law_289 : In cL_law 289 (.iadd) 1 290 := ⟨by decide +kernel, rfl⟩
theorem iL_law_290 : In cL_law 290 (.iaload) 1 291 := ⟨by decide +kernel, rfl⟩
theorem iL_law_291 : In cL_law 291 (.aload_n 0) 1 292 := ⟨by decide +kernel, rfl⟩
theorem iL_law_292 : In cL_law 292 (.iload_n 3) 1 293 := ⟨by decide +kernel, rfl⟩
theorem iL_law_293 : In cL_law 293 (.iconst 3) 1 294 := ⟨by decide +kernel, rfl⟩
theorem iL_law_294 : In cL_law 294 (.iadd) 1 295 := ⟨by decide +kernel, rfl⟩
theorem iL_law_295 : In cL_law 295 (.iaload) 1 296 := ⟨by decide +kernel, rfl⟩
theorem iL_law_296 : In cL_law 296 (.invokevirtual 40) 3 299 := ⟨by decide +kernel, rfl⟩
theorem iL_law_299 : In cL_law 299 (.aload_n 2) 1 300 := ⟨by decide +kernel, rfl⟩
theorem iL_law_300 : In cL_law 300 (.aload_n 0) 1 301 := ⟨by decide +kernel, rfl⟩
theorem iL_law_301 : In cL_law 301 (.iload_n 3) 1 302 := ⟨by decide +kernel, rfl⟩
theorem iL_law_302 : In cL_law 302 (.iconst 1) 1 303 := ⟨by decide +kernel, rfl⟩
theorem iL_law_303 : In cL_law 303 (.iadd) 1 304 := ⟨by decide +kernel, rfl⟩
theorem iL_law_304 : In cL_law 304 (.iaload) 1 305 := ⟨by decide +kernel, rfl⟩
theorem iL_law_305 : In cL_law 305 (.aload_n 0) 1 306 := ⟨by decide +kernel, rfl⟩
theorem iL_law_306 : In cL_law 306 (.iload_n 3) 1 307 := ⟨by decide +kernel, rfl⟩
theorem iL_law_307 : In cL_law 307 (.iconst 2) 1 308 := ⟨by decide +kernel, rfl⟩
theorem iL_law_308 : In cL_law 308 (.iadd) 1 309 := ⟨by decide +kernel, rfl⟩
theorem iL_law_309 : In cL_law 309 (.iaload) 1 310 := ⟨by decide +kernel, rfl⟩
theorem iL_law_310 : In cL_law 310 (.aload_n 0) 1 311 := ⟨by decide +kernel, rfl⟩
theorem iL_law_311 : In cL_law 311 (.iload_n 3) 1 312 := ⟨by decide +kernel, rfl⟩
theorem iL_law_312 : In cL_law 312 (.iconst 3) 1 313 := ⟨by decide +kernel, rfl⟩
theorem iL_law_313 : In cL_law 313 (.iadd) 1 314 := ⟨by decide +kernel, rfl⟩
theorem iL_law_314 : In cL_law 314 (.iaload) 1 315 := ⟨by decide +kernel, rfl⟩
theorem iL_law_315 : In cL_law 315 (.invokevirtual 44) 3 318 := ⟨by decide +kernel, rfl⟩
theorem iL_law_318 : Jn cL_law 318 (.if_icmp .eq 645) (645) 321 963 := ⟨by decide +kernel, rfl, by decide⟩
theorem iL_law_321 : In cL_law 321 (.iconst 0) 1 322 := ⟨by decide +kernel, rfl⟩
theorem iL_law_322 : In cL_law 322 (.ireturn) 1 323 := ⟨by decide +kernel, rfl⟩
theorem iL_law_323 : In cL_law 323 (.aload_n 1) 1 324 := ⟨by decide +kernel, rfl⟩
theorem iL_law_324 : In cL_law 324 (.aload_n 0) 1 325 := ⟨by decide +kernel, rfl⟩
theorem iL_law_325 : In cL_law 325 (.iload_n 3) 1 326 := ⟨by decide +kernel, rfl⟩
theorem iL_law_326 : In cL_law 326 (.iconst 1) 1 327 := ⟨by decide +kernel, rfl⟩
theorem iL_law_327 : In cL_law 327 (.iadd) 1 328 := ⟨by decide +kernel, rfl⟩
theorem iL_law_328 : In cL_law 328 (.iaload) 1 329 := ⟨by decide +kernel, rfl⟩
theorem iL_law_329 : In cL_law 329 (.aload_n 0) 1 330 := ⟨by decide +kernel, rfl⟩
theorem iL_law_330 : In cL_law 330 (.iload_n 3) 1 331 := ⟨by decide +kernel, rfl⟩
theorem iL_law_331 : In cL_law 331 (.iconst 2) 1 332 := ⟨by decide +kernel, rfl⟩
theorem iL_law_332 : In cL_law 332 (.iadd) 1 333 := ⟨by decide +kernel, rfl⟩
theorem iL_law_333 : In cL_law 333 (.iaload) 1 334 := ⟨by decide +kernel, rfl⟩
theorem iL_law_334 : In cL_law 334 (.invokevirtual 45) 3 337 := ⟨by decide +kernel, rfl⟩
theorem iL_law_337 : In cL_law 337 (.aload_n 2) 1 338 := ⟨by decide +kernel, rfl⟩
theorem iL_law_338 : In cL_law 338 (.aload_n 0) 1 339 := ⟨by decide +kernel, rfl⟩
theorem iL_law_339 : In cL_law 339 (.iload_n 3) 1 340 := ⟨by decide +kernel, rfl⟩
theorem iL_law_340 : In cL_law 340 (.iconst 1) 1 341 := ⟨by decide +kernel, rfl⟩
theorem iL_law_341 : In cL_law 341 (.iadd) 1 342 := ⟨by decide +kernel, rfl⟩
theorem iL_law_342 : In cL_law 342 (.iaload) 1 343 := ⟨by decide +kernel, rfl⟩
theorem iL_law_343 : In cL_law 343 (.aload_n 0) 1 344 := ⟨by decide +kernel, rfl⟩
theorem iL_law_344 : In cL_law 344 (.iload_n 3) 1 345 := ⟨by decide +kernel, rfl⟩
theorem iL_law_345 : In cL_law 345 (.iconst 2) 1 346 := ⟨by decide +kernel, rfl⟩
theorem iL_law_346 : In cL_law 346 (.iadd) 1 347 := ⟨by decide +kernel, rfl⟩
theorem iL_law_347 : In cL_law 347 (.iaload) 1 348 := ⟨by decide +kernel, rfl⟩
theorem iL_law_348 : In cL_law 348 (.invokevirtual 48) 3 351 := ⟨by decide +kernel, rfl⟩
theorem iL_law_351 : Jn cL_law 351 (.if_icmp .eq 612) (612) 354 963 := ⟨by decide +kernel, rfl, by decide⟩
theorem iL_law_354 : In cL_law 354 (.iconst 0) 1 355 := ⟨by decide +kernel, rfl⟩
theorem iL_law_355 : In cL_law 355 (.ireturn) 1 356 := ⟨by decide +kernel, rfl⟩
theorem iL_law_356 : In cL_law 356 (.aload_n 1) 1 357 := ⟨by decide +kernel, rfl⟩
theorem iL_law_357 : In cL_law 357 (.aload_n 0) 1 358 := ⟨by decide +kernel, rfl⟩
theorem iL_law_358 : In cL_law 358 (.iload_n 3) 1 359 := ⟨by decide +kernel, rfl⟩
theorem iL_law_359 : In cL_law 359 (.iconst 1) 1 360 := ⟨by decide +kernel, rfl⟩
theorem iL_law_360 : In cL_law 360 (.iadd) 1 361 := ⟨by decide +kernel, rfl⟩
theorem iL_law_361 : In cL_law 361 (.iaload) 1 362 := ⟨by decide +kernel, rfl⟩
theorem iL_law_362 : In cL_law 362 (.aload_n 0) 1 363 := ⟨by decide +kernel, rfl⟩
theorem iL_law_363 : In cL_law 363 (.iload_n 3) 1 364 := ⟨by decide +kernel, rfl⟩
theorem iL_law_364 : In cL_law 364 (.iconst 2) 1 365 := ⟨by decide +kernel, rfl⟩
theorem iL_law_365 : In cL_law 365 (.iadd) 1 366 := ⟨by decide +kernel, rfl⟩
theorem iL_law_366 : In cL_law 366 (.iaload) 1 367 := ⟨by decide +kernel, rfl⟩
theorem iL_law_367 : In cL_law 367 (.invokevirtual 49) 3 370 := ⟨by decide +kernel, rfl⟩
theorem iL_law_370 : In cL_law 370 (.aload_n 2) 1 371 := ⟨by decide +kernel, rfl⟩
theorem iL_law_371 : In cL_law 371 (.aload_n 0) 1 372 := ⟨by decide +kernel, rfl⟩
theorem iL_law_372 : In cL_law 372 (.iload_n 3) 1 373 := ⟨by decide +kernel, rfl⟩
theorem iL_law_373 : In cL_law 373 (.iconst 1) 1 374 := ⟨by decide +kernel, rfl⟩
theorem iL_law_374 : In cL_law 374 (.iadd) 1 375 := ⟨by decide +kernel, rfl⟩
theorem iL_law_375 : In cL_law 375 (.iaload) 1 376 := ⟨by decide +kernel, rfl⟩
theorem iL_law_376 : In cL_law 376 (.aload_n 0) 1 377 := ⟨by decide +kernel, rfl⟩
theorem iL_law_377 : In cL_law 377 (.iload_n 3) 1 378 := ⟨by decide +kernel, rfl⟩
theorem iL_law_378 : In cL_law 378 (.iconst 2) 1 379 := ⟨by decide +kernel, rfl⟩
theorem iL_law_379 : In cL_law 379 (.iadd) 1 380 := ⟨by decide +kernel, rfl⟩
theorem iL_law_380 : In cL_law 380 (.iaload) 1 381 := ⟨by decide +kernel, rfl⟩
theorem iL_law_381 : In cL_law 381 (.invokevirtual 52) 3 384 := ⟨by decide +kernel, rfl⟩
theorem iL_law_384 : Jn cL_law 384 (.if_icmp .eq 579) (579) 387 963 := ⟨by decide +kernel, rfl, by decide⟩
theorem iL_law_387 : In cL_law 387 (.iconst 0) 1 388 := ⟨by decide +kernel, rfl⟩
theorem iL_law_388 : In cL_law 388 (.ireturn) 1 389 := ⟨by decide +kernel, rfl⟩
theorem iL_law_389 : In cL_law 389 (.aload_n 1) 1 390 := ⟨by decide +kernel, rfl⟩
theorem iL_law_390 : In cL_law 390 (.aload_n 0) 1 391 := ⟨by decide +kernel, rfl⟩
theorem iL_law_391 : In cL_law 391 (.iload_n 3) 1 392 := ⟨by decide +kernel, rfl⟩
theorem iL_law_392 : In cL_law 392 (.iconst 1) 1 393 := ⟨by decide +kernel, rfl⟩
theorem iL_law_393 : In cL_law 393 (.iadd) 1 394 := ⟨by decide +kernel, rfl⟩
theorem iL_law_394 : In cL_law 394 (.iaload) 1 395 := ⟨by decide +kernel, rfl⟩
theorem iL_law_395 : In cL_law 395 (.invokevirtual 53) 3 398 := ⟨by decide +kernel, rfl⟩
theorem iL_law_398 : In cL_law 398 (.aload_n 2) 1 399 := ⟨by decide +kernel, rfl⟩
theorem iL_law_399 : In cL_law 399 (.aload_n 0) 1 400 := ⟨by decide +kernel, rfl⟩
theorem iL_law_400 : In cL_law 400 (.iload_n 3) 1 401 := ⟨by decide +kernel, rfl⟩
theorem iL_law_401 : In cL_law 401 (.iconst 1) 1 402 := ⟨by decide +kernel, rfl⟩
theorem iL_law_402 : In cL_law 402 (.iadd) 1 403 := ⟨by decide +kernel, rfl⟩
theorem iL_law_403 : In cL_law 403 (.iaload) 1 404 := ⟨by decide +kernel, rfl⟩
theorem iL_law_404 : In cL_law 404 (.invokevirtual 56) 3 407 := ⟨by decide +kernel, rfl⟩
theorem iL_law_407 : Jn cL_law 407 (.if_icmp .eq 556) (556) 410 963 := ⟨by decide +kernel, rfl, by decide⟩
theorem iL_law_410 : In cL_law 410 (.iconst 0) 1 411 := ⟨by decide +kernel, rfl⟩
theorem iL_law_411 : In cL_law 411 (.ireturn) 1 412 := ⟨by decide +kernel, rfl⟩
theorem iL_law_412 : In cL_law 412 (.aload_n 1) 1 413 := ⟨by decide +kernel, rfl⟩
theorem iL_law_413 : In cL_law 413 (.aload_n 0) 1 414 := ⟨by decide +kernel, rfl⟩
theorem iL_law_414 : In cL_law 414 (.iload_n 3) 1 415 := ⟨by decide +kernel, rfl⟩
theorem iL_law_415 : In cL_law 415 (.iconst 1) 1 416 := ⟨by decide +kernel, rfl⟩
theorem iL_law_416 : In cL_law 416 (.iadd) 1 417 := ⟨by decide +kernel, rfl⟩
theorem iL_law_417 : In cL_law 417 (.iaload) 1 418 := ⟨by decide +kernel, rfl⟩
theorem iL_law_418 : In cL_law 418 (.aload_n 0) 1 419 := ⟨by decide +kernel, rfl⟩
theorem iL_law_419 : In cL_law 419 (.iload_n 3) 1 420 := ⟨by decide +kernel, rfl⟩
theorem iL_law_420 : In cL_law 420 (.iconst 2) 1 421 := ⟨by decide +kernel, rfl⟩
theorem iL_law_421 : In cL_law 421 (.iadd) 1 422 := ⟨by decide +kernel, rfl⟩
theorem iL_law_422 : In cL_law 422 (.iaload) 1 423 := ⟨by decide +kernel, rfl⟩
theorem iL_law_423 : In cL_law 423 (.invokevirtual 57) 3 426 := ⟨by decide +kernel, rfl⟩
theorem iL_law_426 : In cL_law 426 (.aload_n 2) 1 427 := ⟨by decide +kernel, rfl⟩
theorem iL_law_427 : In cL_law 427 (.aload_n 0) 1 428 := ⟨by decide +kernel, rfl⟩
theorem iL_law_428 : In cL_law 428 (.iload_n 3) 1 429 := ⟨by decide +kernel, rfl⟩
theorem iL_law_429 : In cL_law 429 (.iconst 1) 1 430 := ⟨by decide +kernel, rfl⟩
theorem iL_law_430 : In cL_law 430 (.iadd) 1 431 := ⟨by decide +kernel, rfl⟩
theorem iL_law_431 : In cL_law 431 (.iaload) 1 432 := ⟨by decide +kernel, rfl⟩
theorem iL_law_432 : In cL_law 432 (.aload_n 0) 1 433 := ⟨by decide +kernel, rfl⟩
theorem iL_law_433 : In cL_law 433 (.iload_n 3) 1 434 := ⟨by decide +kernel, rfl⟩
theorem iL_law_434 : In cL_law 434 (.iconst 2) 1 435 := ⟨by decide +kernel, rfl⟩
theorem iL_law_435 : In cL_law 435 (.iadd) 1 436 := ⟨by decide +kernel, rfl⟩
theorem iL_law_436 : In cL_law 436 (.iaload) 1 437 := ⟨by decide +kernel, rfl⟩
theorem iL_law_437 : In cL_law 437 (.invokevirtual 60) 3 440 := ⟨by decide +kernel, rfl⟩
theorem iL_law_440 : Jn cL_law 440 (.if_icmp .eq 523) (523) 443 963 := ⟨by decide +kernel, rfl, by decide⟩
theorem iL_law_443 : In cL_law 443 (.iconst 0) 1 444 := ⟨by decide +kernel, rfl⟩
theorem iL_law_444 : In cL_law 444 (.ireturn) 1 445 := ⟨by decide +kernel, rfl⟩
theorem iL_law_445 : In cL_law 445 (.aload_n 1) 1 446 := ⟨by decide +kernel, rfl⟩
theorem iL_law_446 : In cL_law 446 (.invokevirtual 61) 3 449 := ⟨by decide +kernel, rfl⟩
theorem iL_law_449 : In cL_law 449 (.aload_n 2) 1 450 := ⟨by decide +kernel, rfl⟩
theorem iL_law_450 : In cL_law 450 (.invokevirtual 64) 3 453 := ⟨by decide +kernel, rfl⟩
theorem iL_law_453 : Jn cL_law 453 (.if_icmp .eq 510) (510) 456 963 := ⟨by decide +kernel, rfl, by decide⟩
theorem iL_law_456 : In cL_law 456 (.iconst 0) 1 457 := ⟨by decide +kernel, rfl⟩
theorem iL_law_457 : In cL_law 457 (.ireturn) 1 458 := ⟨by decide +kernel, rfl⟩
theorem iL_law_458 : In cL_law 458 (.aload_n 1) 1 459 := ⟨by decide +kernel, rfl⟩
theorem iL_law_459 : In cL_law 459 (.aload_n 0) 1 460 := ⟨by decide +kernel, rfl⟩
theorem iL_law_460 : In cL_law 460 (.iload_n 3) 1 461 := ⟨by decide +kernel, rfl⟩
theorem iL_law_461 : In cL_law 461 (.iconst 1) 1 462 := ⟨by decide +kernel, rfl⟩
theorem iL_law_462 : In cL_law 462 (.iadd) 1 463 := ⟨by decide +kernel, rfl⟩
theorem iL_law_463 : In cL_law 463 (.iaload) 1 464 := ⟨by decide +kernel, rfl⟩
theorem iL_law_464 : In cL_law 464 (.aload_n 0) 1 465 := ⟨by decide +kernel, rfl⟩
theorem iL_law_465 : In cL_law 465 (.iload_n 3) 1 466 := ⟨by decide +kernel, rfl⟩
theorem iL_law_466 : In cL_law 466 (.iconst 2) 1 467 := ⟨by decide +kernel, rfl⟩
theorem iL_law_467 : In cL_law 467 (.iadd) 1 468 := ⟨by decide +kernel, rfl⟩
theorem iL_law_468 : In cL_law 468 (.iaload) 1 469 := ⟨by decide +kernel, rfl⟩
theorem iL_law_469 : In cL_law 469 (.aload_n 0) 1 470 := ⟨by decide +kernel, rfl⟩
theorem iL_law_470 : In cL_law 470 (.iload_n 3) 1 471 := ⟨by decide +kernel, rfl⟩
theorem iL_law_471 : In cL_law 471 (.iconst 3) 1 472 := ⟨by decide +kernel, rfl⟩
theorem iL_law_472 : In cL_law 472 (.iadd) 1 473 := ⟨by decide +kernel, rfl⟩
theorem iL_law_473 : In cL_law 473 (.iaload) 1 474 := ⟨by decide +kernel, rfl⟩
theorem iL_law_474 : In cL_law 474 (.invokevirtual 65) 3 477 := ⟨by decide +kernel, rfl⟩
theorem iL_law_477 : In cL_law 477 (.aload_n 2) 1 478 := ⟨by decide +kernel, rfl⟩
theorem iL_law_478 : In cL_law 478 (.aload_n 0) 1 479 := ⟨by decide +kernel, rfl⟩
theorem iL_law_479 : In cL_law 479 (.iload_n 3) 1 480 := ⟨by decide +kernel, rfl⟩
theorem iL_law_480 : In cL_law 480 (.iconst 1) 1 481 := ⟨by decide +kernel, rfl⟩
theorem iL_law_481 : In cL_law 481 (.iadd) 1 482 := ⟨by decide +kernel, rfl⟩
theorem iL_law_482 : In cL_law 482 (.iaload) 1 483 := ⟨by decide +kernel, rfl⟩
theorem iL_law_483 : In cL_law 483 (.aload_n 0) 1 484 := ⟨by decide +kernel, rfl⟩
theorem iL_law_484 : In cL_law 484 (.iload_n 3) 1 485 := ⟨by decide +kernel, rfl⟩
theorem iL_law_485 : In cL_law 485 (.iconst 2) 1 486 := ⟨by decide +kernel, rfl⟩
theorem iL_law_486 : In cL_law 486 (.iadd) 1 487 := ⟨by decide +kernel, rfl⟩
theorem iL_law_487 : In cL_law 487 (.iaload) 1 488 := ⟨by decide +kernel, rfl⟩
theorem iL_law_488 : In cL_law 488 (.aload_n 0) 1 489 := ⟨by decide +kernel, rfl⟩
theorem iL_law_489 : In cL_law 489 (.iload_n 3) 1 490 := ⟨by decide +kernel, rfl⟩
theorem iL_law_490 : In cL_law 490 (.iconst 3) 1 491 := ⟨by decide +kernel, rfl⟩
theorem iL_law_491 : In cL_law 491 (.iadd) 1 492 := ⟨by decide +kernel, rfl⟩
theorem iL_law_492 : In cL_law 492 (.iaload) 1 493 := ⟨by decide +kernel, rfl⟩
theorem iL_law_493 : In cL_law 493 (.invokevirtual 68) 3 496 := ⟨by decide +kernel, rfl⟩
theorem iL_law_496 : Jn cL_law 496 (.if_icmp .eq 467) (467) 499 963 := ⟨by decide +kernel, rfl, by decide⟩
theorem iL_law_499 : In cL_law 499 (.iconst 0) 1 500 := ⟨by decide +kernel, rfl⟩
theorem iL_law_500 : In cL_law 500 (.ireturn) 1 501 := ⟨by decide +kernel, rfl⟩
theorem iL_law_501 : In cL_law 501 (.aload_n 1) 1 502 := ⟨by decide +kernel, rfl⟩
theorem iL_law_502 : In cL_law 502 (.aload_n 0) 1 503 := ⟨by decide +kernel, rfl⟩
theorem iL_law_503 : In cL_law 503 (.iload_n 3) 1 504 := ⟨by decide +kernel, rfl⟩
theorem iL_law_504 : In cL_law 504 (.iconst 1) 1 505 := ⟨by decide +kernel, rfl⟩
theorem iL_law_505 : In cL_law 505 (.iadd) 1 506 := ⟨by decide +kernel, rfl⟩
theorem iL_law_506 : In cL_law 506 (.iaload) 1 507 := ⟨by decide +kernel, rfl⟩
theorem iL_law_507 : In cL_law 507 (.invokevirtual 69) 3 510 := ⟨by decide +kernel, rfl⟩
theorem iL_law_510 : In cL_law 510 (.aload_n 2) 1 511 := ⟨by decide +kernel, rfl⟩
theorem iL_law_511 : In cL_law 511 (.aload_n 0) 1 512 := ⟨by decide +kernel, rfl⟩
theorem iL_law_512 : In cL_law 512 (.iload_n 3) 1 513 := ⟨by decide +kernel, rfl⟩
theorem iL_law_513 : In cL_law 513 (.iconst 1) 1 514 := ⟨by decide +kernel, rfl⟩
theorem iL_law_514 : In cL_law 514 (.iadd) 1 515 := ⟨by decide +kernel, rfl⟩
theorem iL_law_515 : In cL_law 515 (.iaload) 1 516 := ⟨by decide +kernel, rfl⟩
theorem iL_law_516 : In cL_law 516 (.invokevirtual 72) 3 519 := ⟨by decide +kernel, rfl⟩
theorem iL_law_519 : Jn cL_law 519 (.if_icmp .eq 444) (444) 522 963 := ⟨by decide +kernel, rfl, by decide⟩
theorem iL_law_522 : In cL_law 522 (.iconst 0) 1 523 := ⟨by decide +kernel, rfl⟩
theorem iL_law_523 : In cL_law 523 (.ireturn) 1 524 := ⟨by decide +kernel, rfl⟩
theorem iL_law_524 : In cL_law 524 (.aload_n 1) 1 525 := ⟨by decide +kernel, rfl⟩
theorem iL_law_525 : In cL_law 525 (.aload_n 0) 1 526 := ⟨by decide +kernel, rfl⟩
theorem iL_law_526 : In cL_law 526 (.iload_n 3) 1 527 := ⟨by decide +kernel, rfl⟩
theorem iL_law_527 : In cL_law 527 (.iconst 1) 1 528 := ⟨by decide +kernel, rfl⟩
theorem iL_law_528 : In cL_law 528 (.iadd) 1 529 := ⟨by decide +kernel, rfl⟩
theorem iL_law_529 : In cL_law 529 (.iaload) 1 530 := ⟨by decide +kernel, rfl⟩
theorem iL_law_530 : In cL_law 530 (.aload_n 0) 1 531 := ⟨by decide +kernel, rfl⟩
theorem iL_law_531 : In cL_law 531 (.iload_n 3) 1 532 := ⟨by decide +kernel, rfl⟩
theorem iL_law_532 : In cL_law 532 (.iconst 2) 1 533 := ⟨by decide +kernel, rfl⟩
theorem iL_law_533 : In cL_law 533 (.iadd) 1 534 := ⟨by decide +kernel, rfl⟩
theorem iL_law_534 : In cL_law 534 (.iaload) 1 535 := ⟨by decide +kernel, rfl⟩
theorem iL_law_535 : In cL_law 535 (.i2l) 1 536 := ⟨by decide +kernel, rfl⟩
theorem iL_law_536 : In cL_law 536 (.bipush 32) 2 538 := ⟨by decide +kernel, rfl⟩
theorem iL_law_538 : In cL_law 538 (.lshl) 1 539 := ⟨by decide +kernel, rfl⟩
theorem iL_law_539 : In cL_law 539 (.aload_n 0) 1 540 := ⟨by decide +kernel, rfl⟩
theorem iL_law_540 : In cL_law 540 (.iload_n 3) 1 541 := ⟨by decide +kernel, rfl⟩
theorem iL_law_541 : In cL_law 541 (.iconst 3) 1 542 := ⟨by decide +kernel, rfl⟩
theorem iL_law_542 : In cL_law 542 (.iadd) 1 543 := ⟨by decide +kernel, rfl⟩
theorem iL_law_543 : In cL_law 543 (.iaload) 1 544 := ⟨by decide +kernel, rfl⟩
theorem iL_law_544 : In cL_law 544 (.i2l) 1 545 := ⟨by decide +kernel, rfl⟩
theorem iL_law_545 : In cL_law 545 (.ldc2_w 73) 3 548 := ⟨by decide +kernel, rfl⟩
theorem iL_law_548 : In cL_law 548 (.land) 1 549 := ⟨by decide +kernel, rfl⟩
theorem iL_law_549 : In cL_law 549 (.lor) 1 550 := ⟨by decide +kernel, rfl⟩
theorem iL_law_550 : In cL_law 550 (.invokevirtual 75) 3 553 := ⟨by decide +kernel, rfl⟩
theorem iL_law_553 : In cL_law 553 (.aload_n 2) 1 554 := ⟨by decide +kernel, rfl⟩
theorem iL_law_554 : In cL_law 554 (.aload_n 0) 1 555 := ⟨by decide +kernel, rfl⟩
theorem iL_law_555 : In cL_law 555 (.iload_n 3) 1 556 := ⟨by decide +kernel, rfl⟩
theorem iL_law_556 : In cL_law 556 (.iconst 1) 1 557 := ⟨by decide +kernel, rfl⟩
theorem iL_law_557 : In cL_law 557 (.iadd) 1 558 := ⟨by decide +kernel, rfl⟩
theorem iL_law_558 : In cL_law 558 (.iaload) 1 559 := ⟨by decide +kernel, rfl⟩
theorem iL_law_559 : In cL_law 559 (.aload_n 0) 1 560 := ⟨by decide +kernel, rfl⟩
theorem iL_law_560 : In cL_law 560 (.iload_n 3) 1 561 := ⟨by decide +kernel, rfl⟩
theorem iL_law_561 : In cL_law 561 (.iconst 2) 1 562 := ⟨by decide +kernel, rfl⟩
theorem iL_law_562 : In cL_law 562 (.iadd) 1 563 := ⟨by decide +kernel, rfl⟩
theorem iL_law_563 : In cL_law 563 (.iaload) 1 564 := ⟨by decide +kernel, rfl⟩
theorem iL_law_564 : In cL_law 564 (.i2l) 1 565 := ⟨by decide +kernel, rfl⟩
theorem iL_law_565 : In cL_law 565 (.bipush 32) 2 567 := ⟨by decide +kernel, rfl⟩
theorem iL_law_567 : In cL_law 567 (.lshl) 1 568 := ⟨by decide +kernel, rfl⟩
theorem iL_law_568 : In cL_law 568 (.aload_n 0) 1 569 := ⟨by decide +kernel, rfl⟩
theorem iL_law_569 : In cL_law 569 (.iload_n 3) 1 570 := ⟨by decide +kernel, rfl⟩
theorem iL_law_570 : In cL_law 570 (.iconst 3) 1 571 := ⟨by decide +kernel, rfl⟩
theorem iL_law_571 : In cL_law 571 (.iadd) 1 572 := ⟨by decide +kernel, rfl⟩
theorem iL_law_572 : In cL_law 572 (.iaload) 1 573 := ⟨by decide +kernel, rfl⟩
theorem iL_law_573 : In cL_law 573 (.i2l) 1 574 := ⟨by decide +kernel, rfl⟩
theorem iL_law_574 : In cL_law 574 (.ldc2_w 73) 3 577 := ⟨by decide +kernel, rfl⟩
theorem iL_law_577 : In cL_law 577 (.land) 1 578 := ⟨by decide +kernel, rfl⟩
theorem iL_law_578 : In cL_law 578 (.lor) 1 579 := ⟨by decide +kernel, rfl⟩
theorem iL_law_579 : In cL_law 579 (.invokevirtual 79) 3 582 := ⟨by decide +kernel, rfl⟩
theorem iL_law_582 : Jn cL_law 582 (.if_icmp .eq 381) (381) 585 963 := ⟨by decide +kernel, rfl, by decide⟩
theorem iL_law_585 : In cL_law 585 (.iconst 0) 1 586 := ⟨by decide +kernel, rfl⟩
theorem iL_law_586 : In cL_law 586 (.ireturn) 1 587 := ⟨by decide +kernel, rfl⟩
theorem iL_law_587 : In cL_law 587 (.aload_n 1) 1 588 := ⟨by decide +kernel, rfl⟩
theorem iL_law_588 : In cL_law 588 (.aload_n 0) 1 589 := ⟨by decide +kernel, rfl⟩
theorem iL_law_589 : In cL_law 589 (.iload_n 3) 1 590 := ⟨by decide +kernel, rfl⟩
theorem iL_law_590 : In cL_law 590 (.iconst 1) 1 591 := ⟨by decide +kernel, rfl⟩
theorem iL_law_591 : In cL_law 591 (.iadd) 1 592 := ⟨by decide +kernel, rfl⟩
theorem iL_law_592 : In cL_law 592 (.iaload) 1 593 := ⟨by decide +kernel, rfl⟩
theorem iL_law_593 : In cL_law 593 (.aload_n 0) 1 594 := ⟨by decide +kernel, rfl⟩
theorem iL_law_594 : In cL_law 594 (.iload_n 3) 1 595 := ⟨by decide +kernel, rfl⟩
theorem iL_law_595 : In cL_law 595 (.iconst 2) 1 596 := ⟨by decide +kernel, rfl⟩
theorem iL_law_596 : In cL_law 596 (.iadd) 1 597 := ⟨by decide +kernel, rfl⟩
theorem iL_law_597 : In cL_law 597 (.iaload) 1 598 := ⟨by decide +kernel, rfl⟩
theorem iL_law_598 : In cL_law 598 (.invokevirtual 80) 3 601 := ⟨by decide +kernel, rfl⟩
theorem iL_law_601 : In cL_law 601 (.aload_n 2) 1 602 := ⟨by decide +kernel, rfl⟩
theorem iL_law_602 : In cL_law 602 (.aload_n 0) 1 603 := ⟨by decide +kernel, rfl⟩
theorem iL_law_603 : In cL_law 603 (.iload_n 3) 1 604 := ⟨by decide +kernel, rfl⟩
theorem iL_law_604 : In cL_law 604 (.iconst 1) 1 605 := ⟨by decide +kernel, rfl⟩
theorem iL_law_605 : In cL_law 605 (.iadd) 1 606 := ⟨by decide +kernel, rfl⟩
theorem iL_law_606 : In cL_law 606 (.iaload) 1 607 := ⟨by decide +kernel, rfl⟩
theorem iL_law_607 : In cL_law 607 (.aload_n 0) 1 608 := ⟨by decide +kernel, rfl⟩
theorem iL_law_608 : In cL_law 608 (.iload_n 3) 1 609 := ⟨by decide +kernel, rfl⟩
theorem iL_law_609 : In cL_law 609 (.iconst 2) 1 610 := ⟨by decide +kernel, rfl⟩
theorem iL_law_610 : In cL_law 610 (.iadd) 1 611 := ⟨by decide +kernel, rfl⟩
theorem iL_law_611 : In cL_law 611 (.iaload) 1 612 := ⟨by decide +kernel, rfl⟩
theorem iL_law_612 : In cL_law 612 (.invokevirtual 83) 3 615 := ⟨by decide +kernel, rfl⟩
theorem iL_law_615 : Jn cL_law 615 (.if_icmp .eq 348) (348) 618 963 := ⟨by decide +kernel, rfl, by decide⟩
theorem iL_law_618 : In cL_law 618 (.iconst 0) 1 619 := ⟨by decide +kernel, rfl⟩
theorem iL_law_619 : In cL_law 619 (.ireturn) 1 620 := ⟨by decide +kernel, rfl⟩
theorem iL_law_620 : In cL_law 620 (.aload_n 1) 1 621 := ⟨by decide +kernel, rfl⟩
theorem iL_law_621 : In cL_law 621 (.invokevirtual 84) 3 624 := ⟨by decide +kernel, rfl⟩
theorem iL_law_624 : In cL_law 624 (.aload_n 2) 1 625 := ⟨by decide +kernel, rfl⟩
theorem iL_law_625 : In cL_law 625 (.invokevirtual 87) 3 628 := ⟨by decide +kernel, rfl⟩
theorem iL_law_628 : Jn cL_law 628 (.if_icmp .eq 335) (335) 631 963 := ⟨by decide +kernel, rfl, by decide⟩
theorem iL_law_631 : In cL_law 631 (.iconst 0) 1 632 := ⟨by decide +kernel, rfl⟩
theorem iL_law_632 : In cL_law 632 (.ireturn) 1 633 := ⟨by decide +kernel, rfl⟩
theorem iL_law_633 : In cL_law 633 (.aload_n 1) 1 634 := ⟨by decide +kernel, rfl⟩
theorem iL_law_634 : In cL_law 634 (.aload_n 0) 1 635 := ⟨by decide +kernel, rfl⟩
theorem iL_law_635 : In cL_law 635 (.iload_n 3) 1 636 := ⟨by decide +kernel, rfl⟩
theorem iL_law_636 : In cL_law 636 (.iconst 1) 1 637 := ⟨by decide +kernel, rfl⟩
theorem iL_law_637 : In cL_law 637 (.iadd) 1 638 := ⟨by decide +kernel, rfl⟩
theorem iL_law_638 : In cL_law 638 (.iaload) 1 639 := ⟨by decide +kernel, rfl⟩
theorem iL_law_639 : In cL_law 639 (.invokevirtual 88) 3 642 := ⟨by decide +kernel, rfl⟩
theorem iL_law_642 : In cL_law 642 (.aload_n 2) 1 643 := ⟨by decide +kernel, rfl⟩
theorem iL_law_643 : In cL_law 643 (.aload_n 0) 1 644 := ⟨by decide +kernel, rfl⟩
theorem iL_law_644 : In cL_law 644 (.iload_n 3) 1 645 := ⟨by decide +kernel, rfl⟩
theorem iL_law_645 : In cL_law 645 (.iconst 1) 1 646 := ⟨by decide +kernel, rfl⟩
theorem iL_law_646 : In cL_law 646 (.iadd) 1 647 := ⟨by decide +kernel, rfl⟩
theorem iL_law_647 : In cL_law 647 (.iaload) 1 648 := ⟨by decide +kernel, rfl⟩
theorem iL_law_648 : In cL_law 648 (.invokevirtual 91) 3 651 := ⟨by decide +kernel, rfl⟩
theorem iL_law_651 : Jn cL_law 651 (.if_icmp .eq 312) (312) 654 963 := ⟨by decide +kernel, rfl, by decide⟩
theorem iL_law_654 : In cL_law 654 (.iconst 0) 1 655 := ⟨by decide +kernel, rfl⟩
theorem iL_law_655 : In cL_law 655 (.ireturn) 1 656 := ⟨by decide +kernel, rfl⟩
theorem iL_law_656 : In cL_law 656 (.aload_n 1) 1 657 := ⟨by decide +kernel, rfl⟩
theorem iL_law_657 : In cL_law 657 (.aload_n 0) 1 658 := ⟨by decide +kernel, rfl⟩
theorem iL_law_658 : In cL_law 658 (.iload_n 3) 1 659 := ⟨by decide +kernel, rfl⟩
theorem iL_law_659 : In cL_law 659 (.iconst 1) 1 660 := ⟨by decide +kernel, rfl⟩
theorem iL_law_660 : In cL_law 660 (.iadd) 1 661 := ⟨by decide +kernel, rfl⟩
theorem iL_law_661 : In cL_law 661 (.iaload) 1 662 := ⟨by decide +kernel, rfl⟩
theorem iL_law_662 : In cL_law 662 (.aload_n 0) 1 663 := ⟨by decide +kernel, rfl⟩
theorem iL_law_663 : In cL_law 663 (.iload_n 3) 1 664 := ⟨by decide +kernel, rfl⟩
theorem iL_law_664 : In cL_law 664 (.iconst 2) 1 665 := ⟨by decide +kernel, rfl⟩
theorem iL_law_665 : In cL_law 665 (.iadd) 1 666 := ⟨by decide +kernel, rfl⟩
theorem iL_law_666 : In cL_law 666 (.iaload) 1 667 := ⟨by decide +kernel, rfl⟩
theorem iL_law_667 : Jn cL_law 667 (.ifCond .eq 7) (7) 670 674 := ⟨by decide +kernel, rfl, by decide⟩
theorem iL_law_670 : In cL_law 670 (.iconst 1) 1 671 := ⟨by decide +kernel, rfl⟩
theorem iL_law_671 : Jn cL_law 671 (.goto 4) (4) 674 675 := ⟨by decide +kernel, rfl, by decide⟩
theorem iL_law_674 : In cL_law 674 (.iconst 0) 1 675 := ⟨by decide +kernel, rfl⟩
theorem iL_law_675 : In cL_law 675 (.invokevirtual 92) 3 678 := ⟨by decide +kernel, rfl⟩
theorem iL_law_678 : In cL_law 678 (.aload_n 2) 1 679 := ⟨by decide +kernel, rfl⟩
theorem iL_law_679 : In cL_law 679 (.aload_n 0) 1 680 := ⟨by decide +kernel, rfl⟩
theorem iL_law_680 : In cL_law 680 (.iload_n 3) 1 681 := ⟨by decide +kernel, rfl⟩
theorem iL_law_681 : In cL_law 681 (.iconst 1) 1 682 := ⟨by decide +kernel, rfl⟩
theorem iL_law_682 : In cL_law 682 (.iadd) 1 683 := ⟨by decide +kernel, rfl⟩
theorem iL_law_683 : In cL_law 683 (.iaload) 1 684 := ⟨by decide +kernel, rfl⟩
theorem iL_law_684 : In cL_law 684 (.aload_n 0) 1 685 := ⟨by decide +kernel, rfl⟩
theorem iL_law_685 : In cL_law 685 (.iload_n 3) 1 686 := ⟨by decide +kernel, rfl⟩
theorem iL_law_686 : In cL_law 686 (.iconst 2) 1 687 := ⟨by decide +kernel, rfl⟩
theorem iL_law_687 : In cL_law 687 (.iadd) 1 688 := ⟨by decide +kernel, rfl⟩
theorem iL_law_688 : In cL_law 688 (.iaload) 1 689 := ⟨by decide +kernel, rfl⟩
theorem iL_law_689 : Jn cL_law 689 (.ifCond .eq 7) (7) 692 696 := ⟨by decide +kernel, rfl, by decide⟩
theorem iL_law_692 : In cL_law 692 (.iconst 1) 1 693 := ⟨by decide +kernel, rfl⟩
theorem iL_law_693 : Jn cL_law 693 (.goto 4) (4) 696 697 := ⟨by decide +kernel, rfl, by decide⟩
theorem iL_law_696 : In cL_law 696 (.iconst 0) 1 697 := ⟨by decide +kernel, rfl⟩
theorem iL_law_697 : In cL_law 697 (.invokevirtual 96) 3 700 := ⟨by decide +kernel, rfl⟩
theorem iL_law_700 : Jn cL_law 700 (.if_icmp .eq 263) (263) 703 963 := ⟨by decide +kernel, rfl, by decide⟩
theorem iL_law_703 : In cL_law 703 (.iconst 0) 1 704 := ⟨by decide +kernel, rfl⟩
theorem iL_law_704 : In cL_law 704 (.ireturn) 1 705 := ⟨by decide +kernel, rfl⟩
theorem iL_law_705 : In cL_law 705 (.aload_n 1) 1 706 := ⟨by decide +kernel, rfl⟩
theorem iL_law_706 : In cL_law 706 (.aload_n 0) 1 707 := ⟨by decide +kernel, rfl⟩
theorem iL_law_707 : In cL_law 707 (.iload_n 3) 1 708 := ⟨by decide +kernel, rfl⟩
theorem iL_law_708 : In cL_law 708 (.iconst 1) 1 709 := ⟨by decide +kernel, rfl⟩
theorem iL_law_709 : In cL_law 709 (.iadd) 1 710 := ⟨by decide +kernel, rfl⟩
theorem iL_law_710 : In cL_law 710 (.iaload) 1 711 := ⟨by decide +kernel, rfl⟩
theorem iL_law_711 : In cL_law 711 (.aload_n 0) 1 712 := ⟨by decide +kernel, rfl⟩
theorem iL_law_712 : In cL_law 712 (.iload_n 3) 1 713 := ⟨by decide +kernel, rfl⟩
theorem iL_law_713 : In cL_law 713 (.iconst 2) 1 714 := ⟨by decide +kernel, rfl⟩
theorem iL_law_714 : In cL_law 714 (.iadd) 1 715 := ⟨by decide +kernel, rfl⟩
theorem iL_law_715 : In cL_law 715 (.iaload) 1 716 := ⟨by decide +kernel, rfl⟩
theorem iL_law_716 : In cL_law 716 (.aload_n 0) 1 717 := ⟨by decide +kernel, rfl⟩
theorem iL_law_717 : In cL_law 717 (.iload_n 3) 1 718 := ⟨by decide +kernel, rfl⟩
theorem iL_law_718 : In cL_law 718 (.iconst 3) 1 719 := ⟨by decide +kernel, rfl⟩
theorem iL_law_719 : In cL_law 719 (.iadd) 1 720 := ⟨by decide +kernel, rfl⟩
theorem iL_law_720 : In cL_law 720 (.iaload) 1 721 := ⟨by decide +kernel, rfl⟩
theorem iL_law_721 : In cL_law 721 (.invokevirtual 97) 3 724 := ⟨by decide +kernel, rfl⟩
theorem iL_law_724 : In cL_law 724 (.aload_n 2) 1 725 := ⟨by decide +kernel, rfl⟩
theorem iL_law_725 : In cL_law 725 (.aload_n 0) 1 726 := ⟨by decide +kernel, rfl⟩
theorem iL_law_726 : In cL_law 726 (.iload_n 3) 1 727 := ⟨by decide +kernel, rfl⟩
theorem iL_law_727 : In cL_law 727 (.iconst 1) 1 728 := ⟨by decide +kernel, rfl⟩
theorem iL_law_728 : In cL_law 728 (.iadd) 1 729 := ⟨by decide +kernel, rfl⟩
theorem iL_law_729 : In cL_law 729 (.iaload) 1 730 := ⟨by decide +kernel, rfl⟩
theorem iL_law_730 : In cL_law 730 (.aload_n 0) 1 731 := ⟨by decide +kernel, rfl⟩
theorem iL_law_731 : In cL_law 731 (.iload_n 3) 1 732 := ⟨by decide +kernel, rfl⟩
theorem iL_law_732 : In cL_law 732 (.iconst 2) 1 733 := ⟨by decide +kernel, rfl⟩
theorem iL_law_733 : In cL_law 733 (.iadd) 1 734 := ⟨by decide +kernel, rfl⟩
theorem iL_law_734 : In cL_law 734 (.iaload) 1 735 := ⟨by decide +kernel, rfl⟩
theorem iL_law_735 : In cL_law 735 (.aload_n 0) 1 736 := ⟨by decide +kernel, rfl⟩
theorem iL_law_736 : In cL_law 736 (.iload_n 3) 1 737 := ⟨by decide +kernel, rfl⟩
theorem iL_law_737 : In cL_law 737 (.iconst 3) 1 738 := ⟨by decide +kernel, rfl⟩
theorem iL_law_738 : In cL_law 738 (.iadd) 1 739 := ⟨by decide +kernel, rfl⟩
theorem iL_law_739 : In cL_law 739 (.iaload) 1 740 := ⟨by decide +kernel, rfl⟩
theorem iL_law_740 : In cL_law 740 (.invokevirtual 100) 3 743 := ⟨by decide +kernel, rfl⟩
theorem iL_law_743 : Jn cL_law 743 (.if_icmp .eq 220) (220) 746 963 := ⟨by decide +kernel, rfl, by decide⟩
theorem iL_law_746 : In cL_law 746 (.iconst 0) 1 747 := ⟨by decide +kernel, rfl⟩
theorem iL_law_747 : In cL_law 747 (.ireturn) 1 748 := ⟨by decide +kernel, rfl⟩
theorem iL_law_748 : In cL_law 748 (.aload_n 1) 1 749 := ⟨by decide +kernel, rfl⟩
theorem iL_law_749 : In cL_law 749 (.aload_n 0) 1 750 := ⟨by decide +kernel, rfl⟩
theorem iL_law_750 : In cL_law 750 (.iload_n 3) 1 751 := ⟨by decide +kernel, rfl⟩
theorem iL_law_751 : In cL_law 751 (.iconst 1) 1 752 := ⟨by decide +kernel, rfl⟩
theorem iL_law_752 : In cL_law 752 (.iadd) 1 753 := ⟨by decide +kernel, rfl⟩
theorem iL_law_753 : In cL_law 753 (.iaload) 1 754 := ⟨by decide +kernel, rfl⟩
theorem iL_law_754 : In cL_law 754 (.aload_n 0) 1 755 := ⟨by decide +kernel, rfl⟩
theorem iL_law_755 : In cL_law 755 (.iload_n 3) 1 756 := ⟨by decide +kernel, rfl⟩
theorem iL_law_756 : In cL_law 756 (.iconst 2) 1 757 := ⟨by decide +kernel, rfl⟩
theorem iL_law_757 : In cL_law 757 (.iadd) 1 758 := ⟨by decide +kernel, rfl⟩
theorem iL_law_758 : In cL_law 758 (.iaload) 1 759 := ⟨by decide +kernel, rfl⟩
theorem iL_law_759 : In cL_law 759 (.aload_n 0) 1 760 := ⟨by decide +kernel, rfl⟩
theorem iL_law_760 : In cL_law 760 (.iload_n 3) 1 761 := ⟨by decide +kernel, rfl⟩
theorem iL_law_761 : In cL_law 761 (.iconst 3) 1 762 := ⟨by decide +kernel, rfl⟩
theorem iL_law_762 : In cL_law 762 (.iadd) 1 763 := ⟨by decide +kernel, rfl⟩
theorem iL_law_763 : In cL_law 763 (.iaload) 1 764 := ⟨by decide +kernel, rfl⟩
theorem iL_law_764 : In cL_law 764 (.aload_n 0) 1 765 := ⟨by decide +kernel, rfl⟩
theorem iL_law_765 : In cL_law 765 (.iload_n 3) 1 766 := ⟨by decide +kernel, rfl⟩
theorem iL_law_766 : In cL_law 766 (.iconst 4) 1 767 := ⟨by decide +kernel, rfl⟩
theorem iL_law_767 : In cL_law 767 (.iadd) 1 768 := ⟨by decide +kernel, rfl⟩
theorem iL_law_768 : In cL_law 768 (.iaload) 1 769 := ⟨by decide +kernel, rfl⟩
theorem iL_law_769 : Jn cL_law 769 (.ifCond .eq 7) (7) 772 776 := ⟨by decide +kernel, rfl, by decide⟩
theorem iL_law_772 : In cL_law 772 (.iconst 1) 1 773 := ⟨by decide +kernel, rfl⟩
theorem iL_law_773 : Jn cL_law 773 (.goto 4) (4) 776 777 := ⟨by decide +kernel, rfl, by decide⟩
theorem iL_law_776 : In cL_law 776 (.iconst 0) 1 777 := ⟨by decide +kernel, rfl⟩
theorem iL_law_777 : In cL_law 777 (.invokevirtual 101) 3 780 := ⟨by decide +kernel, rfl⟩
theorem iL_law_780 : In cL_law 780 (.aload_n 2) 1 781 := ⟨by decide +kernel, rfl⟩
theorem iL_law_781 : In cL_law 781 (.aload_n 0) 1 782 := ⟨by decide +kernel, rfl⟩
theorem iL_law_782 : In cL_law 782 (.iload_n 3) 1 783 := ⟨by decide +kernel, rfl⟩
theorem iL_law_783 : In cL_law 783 (.iconst 1) 1 784 := ⟨by decide +kernel, rfl⟩
theorem iL_law_784 : In cL_law 784 (.iadd) 1 785 := ⟨by decide +kernel, rfl⟩
theorem iL_law_785 : In cL_law 785 (.iaload) 1 786 := ⟨by decide +kernel, rfl⟩
theorem iL_law_786 : In cL_law 786 (.aload_n 0) 1 787 := ⟨by decide +kernel, rfl⟩
theorem iL_law_787 : In cL_law 787 (.iload_n 3) 1 788 := ⟨by decide +kernel, rfl⟩
theorem iL_law_788 : In cL_law 788 (.iconst 2) 1 789 := ⟨by decide +kernel, rfl⟩
theorem iL_law_789 : In cL_law 789 (.iadd) 1 790 := ⟨by decide +kernel, rfl⟩
theorem iL_law_790 : In cL_law 790 (.iaload) 1 791 := ⟨by decide +kernel, rfl⟩
theorem iL_law_791 : In cL_law 791 (.aload_n 0) 1 792 := ⟨by decide +kernel, rfl⟩
theorem iL_law_792 : In cL_law 792 (.iload_n 3) 1 793 := ⟨by decide +kernel, rfl⟩
theorem iL_law_793 : In cL_law 793 (.iconst 3) 1 794 := ⟨by decide +kernel, rfl⟩
theorem iL_law_794 : In cL_law 794 (.iadd) 1 795 := ⟨by decide +kernel, rfl⟩
theorem iL_law_795 : In cL_law 795 (.iaload) 1 796 := ⟨by decide +kernel, rfl⟩
theorem iL_law_796 : In cL_law 796 (.aload_n 0) 1 797 := ⟨by decide +kernel, rfl⟩
theorem iL_law_797 : In cL_law 797 (.iload_n 3) 1 798 := ⟨by decide +kernel, rfl⟩
theorem iL_law_798 : In cL_law 798 (.iconst 4) 1 799 := ⟨by decide +kernel, rfl⟩
theorem iL_law_799 : In cL_law 799 (.iadd) 1 800 := ⟨by decide +kernel, rfl⟩
theorem iL_law_800 : In cL_law 800 (.iaload) 1 801 := ⟨by decide +kernel, rfl⟩
theorem iL_law_801 : Jn cL_law 801 (.ifCond .eq 7) (7) 804 808 := ⟨by decide +kernel, rfl, by decide⟩
theorem iL_law_804 : In cL_law 804 (.iconst 1) 1 805 := ⟨by decide +kernel, rfl⟩
theorem iL_law_805 : Jn cL_law 805 (.goto 4) (4) 808 809 := ⟨by decide +kernel, rfl, by decide⟩
theorem iL_law_808 : In cL_law 808 (.iconst 0) 1 809 := ⟨by decide +kernel, rfl⟩
theorem iL_law_809 : In cL_law 809 (.invokevirtual 105) 3 812 := ⟨by decide +kernel, rfl⟩
theorem iL_law_812 : Jn cL_law 812 (.if_icmp .eq 151) (151) 815 963 := ⟨by decide +kernel, rfl, by decide⟩
theorem iL_law_815 : In cL_law 815 (.iconst 0) 1 816 := ⟨by decide +kernel, rfl⟩
theorem iL_law_816 : In cL_law 816 (.ireturn) 1 817 := ⟨by decide +kernel, rfl⟩
theorem iL_law_817 : In cL_law 817 (.aload_n 1) 1 818 := ⟨by decide +kernel, rfl⟩
theorem iL_law_818 : In cL_law 818 (.aload_n 0) 1 819 := ⟨by decide +kernel, rfl⟩
theorem iL_law_819 : In cL_law 819 (.iload_n 3) 1 820 := ⟨by decide +kernel, rfl⟩
theorem iL_law_820 : In cL_law 820 (.iconst 1) 1 821 := ⟨by decide +kernel, rfl⟩
theorem iL_law_821 : In cL_law 821 (.iadd) 1 822 := ⟨by decide +kernel, rfl⟩
theorem iL_law_822 : In cL_law 822 (.iaload) 1 823 := ⟨by decide +kernel, rfl⟩
theorem iL_law_823 : In cL_law 823 (.i2l) 1 824 := ⟨by decide +kernel, rfl⟩
theorem iL_law_824 : In cL_law 824 (.bipush 32) 2 826 := ⟨by decide +kernel, rfl⟩
theorem iL_law_826 : In cL_law 826 (.lshl) 1 827 := ⟨by decide +kernel, rfl⟩
theorem iL_law_827 : In cL_law 827 (.aload_n 0) 1 828 := ⟨by decide +kernel, rfl⟩
theorem iL_law_828 : In cL_law 828 (.iload_n 3) 1 829 := ⟨by decide +kernel, rfl⟩
theorem iL_law_829 : In cL_law 829 (.iconst 2) 1 830 := ⟨by decide +kernel, rfl⟩
theorem iL_law_830 : In cL_law 830 (.iadd) 1 831 := ⟨by decide +kernel, rfl⟩
theorem iL_law_831 : In cL_law 831 (.iaload) 1 832 := ⟨by decide +kernel, rfl⟩
theorem iL_law_832 : In cL_law 832 (.i2l) 1 833 := ⟨by decide +kernel, rfl⟩
theorem iL_law_833 : In cL_law 833 (.ldc2_w 73) 3 836 := ⟨by decide +kernel, rfl⟩
theorem iL_law_836 : In cL_law 836 (.land) 1 837 := ⟨by decide +kernel, rfl⟩
theorem iL_law_837 : In cL_law 837 (.lor) 1 838 := ⟨by decide +kernel, rfl⟩
theorem iL_law_838 : In cL_law 838 (.invokevirtual 106) 3 841 := ⟨by decide +kernel, rfl⟩
theorem iL_law_841 : In cL_law 841 (.aload_n 2) 1 842 := ⟨by decide +kernel, rfl⟩
theorem iL_law_842 : In cL_law 842 (.aload_n 0) 1 843 := ⟨by decide +kernel, rfl⟩
theorem iL_law_843 : In cL_law 843 (.iload_n 3) 1 844 := ⟨by decide +kernel, rfl⟩
theorem iL_law_844 : In cL_law 844 (.iconst 1) 1 845 := ⟨by decide +kernel, rfl⟩
theorem iL_law_845 : In cL_law 845 (.iadd) 1 846 := ⟨by decide +kernel, rfl⟩
theorem iL_law_846 : In cL_law 846 (.iaload) 1 847 := ⟨by decide +kernel, rfl⟩
theorem iL_law_847 : In cL_law 847 (.i2l) 1 848 := ⟨by decide +kernel, rfl⟩
theorem iL_law_848 : In cL_law 848 (.bipush 32) 2 850 := ⟨by decide +kernel, rfl⟩
theorem iL_law_850 : In cL_law 850 (.lshl) 1 851 := ⟨by decide +kernel, rfl⟩
theorem iL_law_851 : In cL_law 851 (.aload_n 0) 1 852 := ⟨by decide +kernel, rfl⟩
theorem iL_law_852 : In cL_law 852 (.iload_n 3) 1 853 := ⟨by decide +kernel, rfl⟩
theorem iL_law_853 : In cL_law 853 (.iconst 2) 1 854 := ⟨by decide +kernel, rfl⟩
theorem iL_law_854 : In cL_law 854 (.iadd) 1 855 := ⟨by decide +kernel, rfl⟩
theorem iL_law_855 : In cL_law 855 (.iaload) 1 856 := ⟨by decide +kernel, rfl⟩
theorem iL_law_856 : In cL_law 856 (.i2l) 1 857 := ⟨by decide +kernel, rfl⟩
theorem iL_law_857 : In cL_law 857 (.ldc2_w 73) 3 860 := ⟨by decide +kernel, rfl⟩
theorem iL_law_860 : In cL_law 860 (.land) 1 861 := ⟨by decide +kernel, rfl⟩
theorem iL_law_861 : In cL_law 861 (.lor) 1 862 := ⟨by decide +kernel, rfl⟩
theorem iL_law_862 : In cL_law 862 (.invokevirtual 110) 3 865 := ⟨by decide +kernel, rfl⟩
theorem iL_law_865 : In cL_law 865 (.lcmp) 1 866 := ⟨by decide +kernel, rfl⟩
theorem iL_law_866 : Jn cL_law 866 (.ifCond .eq 97) (97) 869 963 := ⟨by decide +kernel, rfl, by decide⟩
theorem iL_law_869 : In cL_law 869 (.iconst 0) 1 870 := ⟨by decide +kernel, rfl⟩
theorem iL_law_870 : In cL_law 870 (.ireturn) 1 871 := ⟨by decide +kernel, rfl⟩
theorem iL_law_871 : In cL_law 871 (.aload_n 1) 1 872 := ⟨by decide +kernel, rfl⟩
theorem iL_law_872 : In cL_law 872 (.aload_n 0) 1 873 := ⟨by decide +kernel, rfl⟩
theorem iL_law_873 : In cL_law 873 (.iload_n 3) 1 874 := ⟨by decide +kernel, rfl⟩
theorem iL_law_874 : In cL_law 874 (.iconst 1) 1 875 := ⟨by decide +kernel, rfl⟩
theorem iL_law_875 : In cL_law 875 (.iadd) 1 876 := ⟨by decide +kernel, rfl⟩
theorem iL_law_876 : In cL_law 876 (.iaload) 1 877 := ⟨by decide +kernel, rfl⟩
theorem iL_law_877 : In cL_law 877 (.invokevirtual 111) 3 880 := ⟨by decide +kernel, rfl⟩
theorem iL_law_880 : In cL_law 880 (.aload_n 2) 1 881 := ⟨by decide +kernel, rfl⟩
theorem iL_law_881 : In cL_law 881 (.aload_n 0) 1 882 := ⟨by decide +kernel, rfl⟩
theorem iL_law_882 : In cL_law 882 (.iload_n 3) 1 883 := ⟨by decide +kernel, rfl⟩
theorem iL_law_883 : In cL_law 883 (.iconst 1) 1 884 := ⟨by decide +kernel, rfl⟩
theorem iL_law_884 : In cL_law 884 (.iadd) 1 885 := ⟨by decide +kernel, rfl⟩
theorem iL_law_885 : In cL_law 885 (.iaload) 1 886 := ⟨by decide +kernel, rfl⟩
theorem iL_law_886 : In cL_law 886 (.invokevirtual 114) 3 889 := ⟨by decide +kernel, rfl⟩
theorem iL_law_889 : Jn cL_law 889 (.if_icmp .eq 74) (74) 892 963 := ⟨by decide +kernel, rfl, by decide⟩
theorem iL_law_892 : In cL_law 892 (.iconst 0) 1 893 := ⟨by decide +kernel, rfl⟩
theorem iL_law_893 : In cL_law 893 (.ireturn) 1 894 := ⟨by decide +kernel, rfl⟩
theorem iL_law_894 : In cL_law 894 (.aload_n 1) 1 895 := ⟨by decide +kernel, rfl⟩
theorem iL_law_895 : In cL_law 895 (.aload_n 0) 1 896 := ⟨by decide +kernel, rfl⟩
theorem iL_law_896 : In cL_law 896 (.iload_n 3) 1 897 := ⟨by decide +kernel, rfl⟩
theorem iL_law_897 : In cL_law 897 (.iconst 1) 1 898 := ⟨by decide +kernel, rfl⟩
theorem iL_law_898 : In cL_law 898 (.iadd) 1 899 := ⟨by decide +kernel, rfl⟩
theorem iL_law_899 : In cL_law 899 (.iaload) 1 900 := ⟨by decide +kernel, rfl⟩
theorem iL_law_900 : In cL_law 900 (.invokevirtual 115) 3 903 := ⟨by decide +kernel, rfl⟩
theorem iL_law_903 : In cL_law 903 (.aload_n 2) 1 904 := ⟨by decide +kernel, rfl⟩
theorem iL_law_904 : In cL_law 904 (.aload_n 0) 1 905 := ⟨by decide +kernel, rfl⟩
theorem iL_law_905 : In cL_law 905 (.iload_n 3) 1 906 := ⟨by decide +kernel, rfl⟩
theorem iL_law_906 : In cL_law 906 (.iconst 1) 1 907 := ⟨by decide +kernel, rfl⟩
theorem iL_law_907 : In cL_law 907 (.iadd) 1 908 := ⟨by decide +kernel, rfl⟩
theorem iL_law_908 : In cL_law 908 (.iaload) 1 909 := ⟨by decide +kernel, rfl⟩
theorem iL_law_909 : In cL_law 909 (.invokevirtual 118) 3 912 := ⟨by decide +kernel, rfl⟩
theorem iL_law_912 : Jn cL_law 912 (.if_icmp .eq 51) (51) 915 963 := ⟨by decide +kernel, rfl, by decide⟩
theorem iL_law_915 : In cL_law 915 (.iconst 0) 1 916 := ⟨by decide +kernel, rfl⟩
theorem iL_law_916 : In cL_law 916 (.ireturn) 1 917 := ⟨by decide +kernel, rfl⟩
theorem iL_law_917 : In cL_law 917 (.aload_n 1) 1 918 := ⟨by decide +kernel, rfl⟩
theorem iL_law_918 : In cL_law 918 (.aload_n 0) 1 919 := ⟨by decide +kernel, rfl⟩
theorem iL_law_919 : In cL_law 919 (.iload_n 3) 1 920 := ⟨by decide +kernel, rfl⟩
theorem iL_law_920 : In cL_law 920 (.iconst 1) 1 921 := ⟨by decide +kernel, rfl⟩
theorem iL_law_921 : In cL_law 921 (.iadd) 1 922 := ⟨by decide +kernel, rfl⟩
theorem iL_law_922 : In cL_law 922 (.iaload) 1 923 := ⟨by decide +kernel, rfl⟩
theorem iL_law_923 : In cL_law 923 (.invokevirtual 119) 3 926 := ⟨by decide +kernel, rfl⟩
theorem iL_law_926 : In cL_law 926 (.aload_n 2) 1 927 := ⟨by decide +kernel, rfl⟩
theorem iL_law_927 : In cL_law 927 (.aload_n 0) 1 928 := ⟨by decide +kernel, rfl⟩
theorem iL_law_928 : In cL_law 928 (.iload_n 3) 1 929 := ⟨by decide +kernel, rfl⟩
theorem iL_law_929 : In cL_law 929 (.iconst 1) 1 930 := ⟨by decide +kernel, rfl⟩
theorem iL_law_930 : In cL_law 930 (.iadd) 1 931 := ⟨by decide +kernel, rfl⟩
theorem iL_law_931 : In cL_law 931 (.iaload) 1 932 := ⟨by decide +kernel, rfl⟩
theorem iL_law_932 : In cL_law 932 (.invokevirtual 122) 3 935 := ⟨by decide +kernel, rfl⟩
theorem iL_law_935 : Jn cL_law 935 (.if_icmp .eq 28) (28) 938 963 := ⟨by decide +kernel, rfl, by decide⟩
theorem iL_law_938 : In cL_law 938 (.iconst 0) 1 939 := ⟨by decide +kernel, rfl⟩
theorem iL_law_939 : In cL_law 939 (.ireturn) 1 940 := ⟨by decide +kernel, rfl⟩
theorem iL_law_940 : In cL_law 940 (.aload_n 1) 1 941 := ⟨by decide +kernel, rfl⟩
theorem iL_law_941 : In cL_law 941 (.aload_n 0) 1 942 := ⟨by decide +kernel, rfl⟩
theorem iL_law_942 : In cL_law 942 (.iload_n 3) 1 943 := ⟨by decide +kernel, rfl⟩
theorem iL_law_943 : In cL_law 943 (.iconst 1) 1 944 := ⟨by decide +kernel, rfl⟩
theorem iL_law_944 : In cL_law 944 (.iadd) 1 945 := ⟨by decide +kernel, rfl⟩
theorem iL_law_945 : In cL_law 945 (.iaload) 1 946 := ⟨by decide +kernel, rfl⟩
theorem iL_law_946 : In cL_law 946 (.invokevirtual 123) 3 949 := ⟨by decide +kernel, rfl⟩
theorem iL_law_949 : In cL_law 949 (.aload_n 2) 1 950 := ⟨by decide +kernel, rfl⟩
theorem iL_law_950 : In cL_law 950 (.aload_n 0) 1 951 := ⟨by decide +kernel, rfl⟩
theorem iL_law_951 : In cL_law 951 (.iload_n 3) 1 952 := ⟨by decide +kernel, rfl⟩
theorem iL_law_952 : In cL_law 952 (.iconst 1) 1 953 := ⟨by decide +kernel, rfl⟩
theorem iL_law_953 : In cL_law 953 (.iadd) 1 954 := ⟨by decide +kernel, rfl⟩
theorem iL_law_954 : In cL_law 954 (.iaload) 1 955 := ⟨by decide +kernel, rfl⟩
theorem iL_law_955 : In cL_law 955 (.invokevirtual 126) 3 958 := ⟨by decide +kernel, rfl⟩
theorem iL_law_958 : Jn cL_law 958 (.if_icmp .eq 5) (5) 961 963 := ⟨by decide +kernel, rfl, by decide⟩
theorem iL_law_961 : In cL_law 961 (.iconst 0) 1 962 := ⟨by decide +kernel, rfl⟩
theorem iL_law_962 : In cL_law 962 (.ireturn) 1 963 := ⟨by decide +kernel, rfl⟩
theorem iL_law_963 : In cL_law 963 (.iinc 3 5) 3 966 := ⟨by decide +kernel, rfl⟩
theorem iL_law_966 : Jn cL_law 966 (.goto (-948)) (-948) 969 18 := ⟨by decide +kernel, rfl, by decide⟩
theorem iL_law_969 : In cL_law 969 (.iconst 1) 1 970 := ⟨by decide +kernel, rfl⟩
theorem iL_law_970 : In cL_law 970 (.ireturn) 1 971 := ⟨by decide +kernel, rfl⟩
end
section
/-! THE FRAME: one judgement Z for every method, over a functional heap -/
/-- the tables' words that stay good on every road -/
def lw_gd : List Cond := lw_tbl.filter goodWord
theorem lw_good : lw_gd.all goodWord = true := List.all_eq_true.mpr (fun _ h => (List.mem_filter.mp h).2)
/-- the ground: the law's start, the classes' numbers and slots, the array classes (0 int, 1 boolean, 2 Fencer, 3 Holdings, 4 int[]) -/
abbrev qG : Type := State × (Nat → ClassId) × (Nat → Nat → Nat) × (Nat → ClassId)
def qB (G : qG) : Nat := G.1.heap.size
def qD (G : qG) : va_G := (G.2.1, G.2.2.1)
def qc (G : qG) : Nat → ClassId := G.2.2.2
def qTy (G : qG) : List (ClassId × FieldType) := [(qc G 0, .int), (qc G 1, .boolean), (qc G 2, .object RX4), (qc G 3, .object RX5), (qc G 4, .array .int)]
def qA (G : qG) : Nat → Prop := fun q => qB G ≤ q
def qUnits : Nat → Int64 := fun j => match j with
  | 0 => 1
  | 1 => 1000
  | 2 => 1000000
  | 3 => 1000000000
  | _ => 1000000000000
/-- what is known of the start -/
def qOK (G : qG) : Prop := va_K (qD G) vwCl (qTy G) G.1 ∧ (∃ t : Nat, va_Z RX10 "DOING_UNITS" "[J" (.ref t) (qA G) G.1 G.1.heap ∧ va_T .long t 5 (fun j => .long (qUnits j)) (qA G) G.1 G.1.heap) ∧ ∀ ty : FieldType, Cond.arrayOver ty ∈ lw_tbl → (Cond.arrayOver ty).before #[] G.1 = true
/-- the links to nest mates' constructors -/
def qNw (U : State) : Prop := ∀ (a : String) (i : Nat) (y : MethodName) (hs : String), Cond.methodLinkNest a i y hs ∈ lw_tbl → va_Nw (.methodLinkNest a i y hs) U
/-- the heap: as at the start, then n cells that hold h -/
def HP (G : qG) (n : Nat) (h : Nat → va_E) (H : Heap) : Prop := H.size = qB G + n ∧ (∀ i, i < n → va_at (qD G) vwCl (qB G + i, h i) H) ∧ ∀ q, q < qB G → H[q]? = G.1.heap[q]?
/-- the state of a call's start and end -/
def qSt (G : qG) (n : Nat) (h : Nat → va_E) (U : State) : Prop := qOK G ∧ HP G n h U.heap ∧ G.1.vm.Alike U.vm ∧ qNw U
/-- a context: what is fixed in a method's walk -/
abbrev qX : Type := Program × Launch × Env × Room × State × MethodId × Array Value × List Frame × Method × Code × (State → Prop)
def qW (X : qX) (H : Heap) (locs : List Loc) (k1 k2 pc : Nat) (ls : Array Slot) (st : List Value) : Prop := match X with
  | (p, l, e, R, s, m, args, below, meth, c, Q) => W p l e R s m args below meth c H locs k1 k2 Q (F0 m pc ls st)
def qS (X : qX) : State := X.2.2.2.2.1
def qR (X : qX) : Room := X.2.2.2.1
def qL (X : qX) : Launch := X.2.1
def qC (G : qG) (X : qX) (cc : ByteArray) (own : String) (nL : Nat) : Prop := match X with
  | (p, _, _, _, s, m, args, _, _, c, _) => p.tables.exec = Jvm.exec ∧ c.code = cc ∧ c.maxLocals = nL ∧ s.vm.findClass own = some m.cls ∧ (∀ w ∈ lw_gd, w.before args s = true) ∧ G.1.vm.Alike s.vm ∧ qOK G ∧ qB G ≤ s.heap.size ∧ qNw s
/-- the locals hold vs -/
def LV (ls : Array Slot) (vs : List (Option Value)) : Prop := ls.size = vs.length ∧ lv_wf ls ∧ ∀ (i : Nat) (v : Value), vs[i]? = some (some v) → ls[i]? = some (.val v)
/-- THE JUDGEMENT: at pc with locals vs, stack st, n cells h, (k1, k2) made so far, the walk comes to its end -/
def Z (G : qG) (X : qX) (cc : ByteArray) (own : String) (n : Nat) (h : Nat → va_E) (k1 k2 pc : Nat) (vs : List (Option Value)) (st : List Value) : Prop :=
  qC G X cc own vs.length → ∀ (H : Heap) (locs : List Loc) (ls : Array Slot), HP G n h H → va_S (qA G) (qS X).heap H locs → LV ls vs → qW X H locs k1 k2 pc ls st
def qP (vs : List (Option Value)) : List (Nat × Value) := (List.range vs.length).filterMap fun i => match vs[i]? with
  | some (some v) => some (i, v)
  | _ => none
theorem qP_mem {vs : List (Option Value)} {i : Nat} {v : Value} : (i, v) ∈ qP vs ↔ vs[i]? = some (some v) := by
  unfold qP
  rw [List.mem_filterMap]
  constructor
  · rintro ⟨j, -, hj⟩
    split at hj
    · next w hw => cases hj; exact hw
    · cases hj
  · intro h
    refine ⟨i, List.mem_range.mpr ?_, ?_⟩
    · exact (List.getElem?_eq_some_iff.mp h).1
    · rw [h]
theorem LV.has {ls : Array Slot} {vs : List (Option Value)} (h : LV ls vs) : lv_has ls vs.length (qP vs) := ⟨h.1, h.2.1, fun q hq => h.2.2 q.1 q.2 (qP_mem.mp (by cases q; exact hq))⟩
theorem LV.of {ls : Array Slot} {vs : List (Option Value)} {l : List (Nat × Value)} (h : lv_has ls vs.length l) (hm : ∀ (i : Nat) (v : Value), vs[i]? = some (some v) → (i, v) ∈ l) : LV ls vs := ⟨h.1, h.2.1, fun i v hv => h.2.2 (i, v) (hm i v hv)⟩
/-- nothing of two words lies ahead of place i -/
def ok1 (vs : List (Option Value)) (i : Nat) : Bool := match i with
  | 0 => true
  | i + 1 => match vs[i]? with
    | some (some v) => v.category == 1
    | _ => true
theorem LV.set1 {ls : Array Slot} {vs : List (Option Value)} {i : Nat} {v : Value} (hi : i < vs.length) (ho : ok1 vs i = true) (h : lv_has ls vs.length ((i, v) :: (qP vs).filter (fun q => !(q.1 == i) && !(q.1 + 1 == i && q.2.category == 2)))) : LV ls (vs.set i (some v)) := by
  refine LV.of (l := (i, v) :: (qP vs).filter (fun q => !(q.1 == i) && !(q.1 + 1 == i && q.2.category == 2))) (by rw [List.length_set]; exact h) ?_
  intro j w hw
  rw [List.getElem?_set] at hw
  by_cases hj : i = j
  · subst hj
    rw [if_pos rfl, if_pos hi] at hw
    cases hw
    exact List.mem_cons_self
  · rw [if_neg hj] at hw
    refine List.mem_cons_of_mem _ (List.mem_filter.mpr ⟨qP_mem.mpr hw, ?_⟩)
    have h1 : (j == i) = false := by simp; exact fun q => hj q.symm
    have h2 : (j + 1 == i && w.category == 2) = false := by
      cases i with
      | zero => simp
      | succ i' =>
        by_cases h3 : j = i'
        · subst h3
          simp only [ok1, hw] at ho
          have : w.category = 1 := by simpa using ho
          simp [this]
        · simp [h3]
    simp [h1, h2]
theorem LV.set2 {ls : Array Slot} {vs : List (Option Value)} {i : Nat} {v : Value} (hi : i + 1 < vs.length) (ho : ok1 vs i = true) (h : lv_has ls vs.length ((i, v) :: (qP vs).filter (fun q => !(q.1 == i) && (!(q.1 == i + 1) && !(q.1 + 1 == i && q.2.category == 2))))) : LV ls ((vs.set i (some v)).set (i + 1) none) := by
  refine LV.of (l := (i, v) :: (qP vs).filter (fun q => !(q.1 == i) && (!(q.1 == i + 1) && !(q.1 + 1 == i && q.2.category == 2)))) (by rw [List.length_set, List.length_set]; exact h) ?_
  intro j w hw
  rw [List.getElem?_set, List.length_set] at hw
  by_cases hj2 : i + 1 = j
  · subst hj2
    rw [if_pos rfl, if_pos hi] at hw
    cases hw
  · rw [if_neg hj2, List.getElem?_set] at hw
    by_cases hj : i = j
    · subst hj
      rw [if_pos rfl, if_pos (by omega)] at hw
      cases hw
      exact List.mem_cons_self
    · rw [if_neg hj] at hw
      refine List.mem_cons_of_mem _ (List.mem_filter.mpr ⟨qP_mem.mpr hw, ?_⟩)
      have h1 : (j == i) = false := by simp; exact fun q => hj q.symm
      have h0 : (j == i + 1) = false := by simp; exact fun q => hj2 q.symm
      have h2 : (j + 1 == i && w.category == 2) = false := by
        cases i with
        | zero => simp
        | succ i' =>
          by_cases h3 : j = i'
          · subst h3
            simp only [ok1, hw] at ho
            have : w.category = 1 := by simpa using ho
            simp [this]
          · simp [h3]
      simp [h1, h2, h0]
section ZR
variable {G : qG} {X : qX} {cc : ByteArray} {own : String} {n : Nat} {h : Nat → va_E} {k1 k2 pc pc' : Nat} {vs : List (Option Value)} {st : List Value}
/-- a row that only moves pc, stack: out of the kit's -/
theorem Z.row {st' : List Value} (f : ∀ (p : Program) (l : Launch) (e : Env) (R : Room) (s : State) (m : MethodId) (args : Array Value) (below : List Frame) (meth : Method) (c : Code) (Q : State → Prop) (H : Heap) (locs : List Loc) (ls : Array Slot), p.tables.exec = Jvm.exec → c.code = cc → LV ls vs → W p l e R s m args below meth c H locs k1 k2 Q (F0 m pc' ls st') → W p l e R s m args below meth c H locs k1 k2 Q (F0 m pc ls st)) (kk : Z G X cc own n h k1 k2 pc' vs st') : Z G X cc own n h k1 k2 pc vs st := by
  intro hC H locs ls hH hS hL
  have k := kk hC H locs ls hH hS hL
  obtain ⟨p, l, e, R, s, m, args, below, meth, c, Q⟩ := X
  exact f p l e R s m args below meth c Q H locs ls hC.1 hC.2.1 hL k
/-- a row that needs the tables too -/
theorem Z.rowT {st' : List Value} (f : ∀ (p : Program) (l : Launch) (e : Env) (R : Room) (s : State) (m : MethodId) (args : Array Value) (below : List Frame) (meth : Method) (c : Code) (Q : State → Prop) (H : Heap) (locs : List Loc) (ls : Array Slot), p.tables.exec = Jvm.exec → c.code = cc → s.vm.findClass own = some m.cls → (∀ w ∈ lw_gd, w.before args s = true) → W p l e R s m args below meth c H locs k1 k2 Q (F0 m pc' ls st') → W p l e R s m args below meth c H locs k1 k2 Q (F0 m pc ls st)) (kk : Z G X cc own n h k1 k2 pc' vs st') : Z G X cc own n h k1 k2 pc vs st := by
  intro hC H locs ls hH hS hL
  have k := kk hC H locs ls hH hS hL
  obtain ⟨p, l, e, R, s, m, args, below, meth, c, Q⟩ := X
  exact f p l e R s m args below meth c Q H locs ls hC.1 hC.2.1 hC.2.2.2.1 hC.2.2.2.2.1 k
theorem z_iconst {v : Int} {x : Int32} (hd : In cc pc (.iconst v) 1 pc') (hx : Int32.ofInt v = x) (kk : Z G X cc own n h k1 k2 pc' vs (.int x :: st)) : Z G X cc own n h k1 k2 pc vs st := by
  obtain ⟨hd, rfl⟩ := hd
  exact Z.row (fun _ _ _ _ _ _ _ _ _ _ _ _ _ _ h1 h2 _ k => lv_iconst h1 h2 hd hx k) kk
theorem z_bipush {v : Int} {x : Int32} (hd : In cc pc (.bipush v) 2 pc') (hx : (Int8.ofInt v).toInt32 = x) (kk : Z G X cc own n h k1 k2 pc' vs (.int x :: st)) : Z G X cc own n h k1 k2 pc vs st := by
  obtain ⟨hd, rfl⟩ := hd
  exact Z.row (fun _ _ _ _ _ _ _ _ _ _ _ _ _ _ h1 h2 _ k => lv_bipush h1 h2 hd hx k) kk
theorem z_sipush {v : Int} {x : Int32} (hd : In cc pc (.sipush v) 3 pc') (hx : (Int16.ofInt v).toInt32 = x) (kk : Z G X cc own n h k1 k2 pc' vs (.int x :: st)) : Z G X cc own n h k1 k2 pc vs st := by
  obtain ⟨hd, rfl⟩ := hd
  exact Z.row (fun _ _ _ _ _ _ _ _ _ _ _ _ _ _ h1 h2 _ k => lv_sipush h1 h2 hd hx k) kk
theorem z_lconst {v : Fin 2} {x : Int64} (hd : In cc pc (.lconst v) 1 pc') (hx : Int64.ofNat (v : Nat) = x) (kk : Z G X cc own n h k1 k2 pc' vs (.long x :: st)) : Z G X cc own n h k1 k2 pc vs st := by
  obtain ⟨hd, rfl⟩ := hd
  exact Z.row (fun _ _ _ _ _ _ _ _ _ _ _ _ _ _ h1 h2 _ k => lv_lconst h1 h2 hd hx k) kk
theorem z_ldc {i : Nat} {x : Int32} (hd : In cc pc (.ldc i) 2 pc') (hw : Cond.constant own i x ∈ lw_gd) (kk : Z G X cc own n h k1 k2 pc' vs (.int x :: st)) : Z G X cc own n h k1 k2 pc vs st := by
  obtain ⟨hd, rfl⟩ := hd
  exact Z.rowT (fun _ _ _ _ _ _ _ _ _ _ _ _ _ _ h1 h2 h3 h4 k => lv_ldc h1 h2 h3 (h4 _ hw) hd k) kk
theorem z_ldcw {i : Nat} {x : Int32} (hd : In cc pc (.ldc_w i) 3 pc') (hw : Cond.constant own i x ∈ lw_gd) (kk : Z G X cc own n h k1 k2 pc' vs (.int x :: st)) : Z G X cc own n h k1 k2 pc vs st := by
  obtain ⟨hd, rfl⟩ := hd
  exact Z.rowT (fun _ _ _ _ _ _ _ _ _ _ _ _ _ _ h1 h2 h3 h4 k => lv_ldcw h1 h2 h3 (h4 _ hw) hd k) kk
theorem z_ldc2 {i : Nat} {x : Int64} (hd : In cc pc (.ldc2_w i) 3 pc') (hw : Cond.constantLong own i x ∈ lw_gd) (kk : Z G X cc own n h k1 k2 pc' vs (.long x :: st)) : Z G X cc own n h k1 k2 pc vs st := by
  obtain ⟨hd, rfl⟩ := hd
  exact Z.rowT (fun _ _ _ _ _ _ _ _ _ _ _ _ _ _ h1 h2 h3 h4 k => lv_ldc2 h1 h2 h3 (h4 _ hw) hd k) kk
theorem z_iloadG (k : Fin 4) {x : Int32} (hd : In cc pc (.iload_n k) 1 pc') (hv : vs[(k : Nat)]? = some (some (.int x))) (kk : Z G X cc own n h k1 k2 pc' vs (.int x :: st)) : Z G X cc own n h k1 k2 pc vs st := by
  obtain ⟨hd, rfl⟩ := hd
  exact Z.row (fun _ _ _ _ _ _ _ _ _ _ _ _ _ _ h1 h2 hL k => lv_iload_n h1 h2 hd rfl (hL.2.2 _ _ hv) k) kk
theorem z_iloadH (i : Nat) {x : Int32} (hd : In cc pc (.iload i) 2 pc') (hv : vs[i]? = some (some (.int x))) (kk : Z G X cc own n h k1 k2 pc' vs (.int x :: st)) : Z G X cc own n h k1 k2 pc vs st := by
  obtain ⟨hd, rfl⟩ := hd
  exact Z.row (fun _ _ _ _ _ _ _ _ _ _ _ _ _ _ h1 h2 hL k => lv_iload h1 h2 hd (hL.2.2 _ _ hv) k) kk
theorem z_lloadG (k : Fin 4) {x : Int64} (hd : In cc pc (.lload_n k) 1 pc') (hv : vs[(k : Nat)]? = some (some (.long x))) (kk : Z G X cc own n h k1 k2 pc' vs (.long x :: st)) : Z G X cc own n h k1 k2 pc vs st := by
  obtain ⟨hd, rfl⟩ := hd
  exact Z.row (fun _ _ _ _ _ _ _ _ _ _ _ _ _ _ h1 h2 hL k => lv_lload_n h1 h2 hd rfl (hL.2.2 _ _ hv) k) kk
theorem z_lloadH (i : Nat) {x : Int64} (hd : In cc pc (.lload i) 2 pc') (hv : vs[i]? = some (some (.long x))) (kk : Z G X cc own n h k1 k2 pc' vs (.long x :: st)) : Z G X cc own n h k1 k2 pc vs st := by
  obtain ⟨hd, rfl⟩ := hd
  exact Z.row (fun _ _ _ _ _ _ _ _ _ _ _ _ _ _ h1 h2 hL k => lv_lload h1 h2 hd (hL.2.2 _ _ hv) k) kk
theorem z_aloadG (k : Fin 4) {x : Nat} (hd : In cc pc (.aload_n k) 1 pc') (hv : vs[(k : Nat)]? = some (some (.ref x))) (kk : Z G X cc own n h k1 k2 pc' vs (.ref x :: st)) : Z G X cc own n h k1 k2 pc vs st := by
  obtain ⟨hd, rfl⟩ := hd
  exact Z.row (fun _ _ _ _ _ _ _ _ _ _ _ _ _ _ h1 h2 hL k => lv_aload_n h1 h2 hd rfl (hL.2.2 _ _ hv) k) kk
/-- a store into the locals -/
theorem Z.store {vs' : List (Option Value)} {st' : List Value} (hlen : vs'.length = vs.length) (f : ∀ (p : Program) (l : Launch) (e : Env) (R : Room) (s : State) (m : MethodId) (args : Array Value) (below : List Frame) (meth : Method) (c : Code) (Q : State → Prop) (H : Heap) (locs : List Loc) (ls : Array Slot), p.tables.exec = Jvm.exec → c.code = cc → LV ls vs → (∀ ls', LV ls' vs' → W p l e R s m args below meth c H locs k1 k2 Q (F0 m pc' ls' st')) → W p l e R s m args below meth c H locs k1 k2 Q (F0 m pc ls st)) (kk : Z G X cc own n h k1 k2 pc' vs' st') : Z G X cc own n h k1 k2 pc vs st := by
  intro hC H locs ls hH hS hL
  have k := fun ls' h' => kk (by rw [hlen]; exact hC) H locs ls' hH hS h'
  obtain ⟨p, l, e, R, s, m, args, below, meth, c, Q⟩ := X
  exact f p l e R s m args below meth c Q H locs ls hC.1 hC.2.1 hL k
theorem z_istoreG (k : Fin 4) {x : Int32} {vs' : List (Option Value)} (hd : In cc pc (.istore_n k) 1 pc') (hs : vs.set (k : Nat) (some (.int x)) = vs') (hi : (k : Nat) < vs.length) (ho : ok1 vs k = true) (kk : Z G X cc own n h k1 k2 pc' vs' st) : Z G X cc own n h k1 k2 pc vs (.int x :: st) := by
  obtain ⟨hd, rfl⟩ := hd
  subst hs
  exact Z.store (List.length_set ..) (fun _ _ _ _ _ _ _ _ _ _ _ _ _ _ h1 h2 hL k => lv_istore_n h1 h2 hd rfl hL.has hi rfl (fun ls' h' => k ls' (LV.set1 hi ho h'))) kk
theorem z_istoreH (i : Nat) {x : Int32} {vs' : List (Option Value)} (hd : In cc pc (.istore i) 2 pc') (hs : vs.set i (some (.int x)) = vs') (hi : i < vs.length) (ho : ok1 vs i = true) (kk : Z G X cc own n h k1 k2 pc' vs' st) : Z G X cc own n h k1 k2 pc vs (.int x :: st) := by
  obtain ⟨hd, rfl⟩ := hd
  subst hs
  exact Z.store (List.length_set ..) (fun _ _ _ _ _ _ _ _ _ _ _ _ _ _ h1 h2 hL k => lv_istore h1 h2 hd hL.has hi rfl (fun ls' h' => k ls' (LV.set1 hi ho h'))) kk
theorem z_astoreG (k : Fin 4) {x : Nat} {vs' : List (Option Value)} (hd : In cc pc (.astore_n k) 1 pc') (hs : vs.set (k : Nat) (some (.ref x)) = vs') (hi : (k : Nat) < vs.length) (ho : ok1 vs k = true) (kk : Z G X cc own n h k1 k2 pc' vs' st) : Z G X cc own n h k1 k2 pc vs (.ref x :: st) := by
  obtain ⟨hd, rfl⟩ := hd
  subst hs
  exact Z.store (List.length_set ..) (fun _ _ _ _ _ _ _ _ _ _ _ _ _ _ h1 h2 hL k => lv_astore_n h1 h2 hd rfl hL.has hi rfl (fun ls' h' => k ls' (LV.set1 hi ho h'))) kk
theorem z_lstoreG (k : Fin 4) {x : Int64} {vs' : List (Option Value)} (hd : In cc pc (.lstore_n k) 1 pc') (hs : (vs.set (k : Nat) (some (.long x))).set ((k : Nat) + 1) none = vs') (hi : (k : Nat) + 1 < vs.length) (ho : ok1 vs k = true) (kk : Z G X cc own n h k1 k2 pc' vs' st) : Z G X cc own n h k1 k2 pc vs (.long x :: st) := by
  obtain ⟨hd, rfl⟩ := hd
  subst hs
  exact Z.store (by rw [List.length_set, List.length_set]) (fun _ _ _ _ _ _ _ _ _ _ _ _ _ _ h1 h2 hL k => lv_lstore_n h1 h2 hd rfl hL.has hi rfl (fun ls' h' => k ls' (LV.set2 hi ho h'))) kk
theorem z_iincG (i : Nat) {d : Int} {x y : Int32} {vs' : List (Option Value)} (hd : In cc pc (.iinc i d) 3 pc') (hv : vs[i]? = some (some (.int x))) (hy : x + Int32.ofInt d = y) (hs : vs.set i (some (.int y)) = vs') (ho : ok1 vs i = true) (kk : Z G X cc own n h k1 k2 pc' vs' st) : Z G X cc own n h k1 k2 pc vs st := by
  obtain ⟨hd, rfl⟩ := hd
  subst hs
  have hi : i < vs.length := (List.getElem?_eq_some_iff.mp hv).1
  obtain ⟨k9, hk9⟩ := List.getElem?_of_mem (qP_mem.mpr hv)
  exact Z.store (List.length_set ..) (fun _ _ _ _ _ _ _ _ _ _ _ _ _ _ h1 h2 hL k => lv_iinc h1 h2 hd hL.has hk9 hy hi rfl (fun ls' h' => k ls' (LV.set1 hi ho h'))) kk
theorem z_iadd {x y : Int32} (hd : In cc pc (.iadd) 1 pc') (kk : Z G X cc own n h k1 k2 pc' vs (.int (x + y) :: st)) : Z G X cc own n h k1 k2 pc vs (.int y :: .int x :: st) := by
  obtain ⟨hd, rfl⟩ := hd
  exact Z.row (fun _ _ _ _ _ _ _ _ _ _ _ _ _ _ h1 h2 _ k => lv_iadd h1 h2 hd k) kk
theorem z_isub {x y : Int32} (hd : In cc pc (.isub) 1 pc') (kk : Z G X cc own n h k1 k2 pc' vs (.int (x - y) :: st)) : Z G X cc own n h k1 k2 pc vs (.int y :: .int x :: st) := by
  obtain ⟨hd, rfl⟩ := hd
  exact Z.row (fun _ _ _ _ _ _ _ _ _ _ _ _ _ _ h1 h2 _ k => lv_isub h1 h2 hd k) kk
theorem z_imul {x y : Int32} (hd : In cc pc (.imul) 1 pc') (kk : Z G X cc own n h k1 k2 pc' vs (.int (x * y) :: st)) : Z G X cc own n h k1 k2 pc vs (.int y :: .int x :: st) := by
  obtain ⟨hd, rfl⟩ := hd
  exact Z.row (fun _ _ _ _ _ _ _ _ _ _ _ _ _ _ h1 h2 _ k => lv_imul h1 h2 hd k) kk
theorem z_iand {x y : Int32} (hd : In cc pc (.iand) 1 pc') (kk : Z G X cc own n h k1 k2 pc' vs (.int (x &&& y) :: st)) : Z G X cc own n h k1 k2 pc vs (.int y :: .int x :: st) := by
  obtain ⟨hd, rfl⟩ := hd
  exact Z.row (fun _ _ _ _ _ _ _ _ _ _ _ _ _ _ h1 h2 _ k => lv_iand h1 h2 hd k) kk
theorem z_ior {x y : Int32} (hd : In cc pc (.ior) 1 pc') (kk : Z G X cc own n h k1 k2 pc' vs (.int (x ||| y) :: st)) : Z G X cc own n h k1 k2 pc vs (.int y :: .int x :: st) := by
  obtain ⟨hd, rfl⟩ := hd
  exact Z.row (fun _ _ _ _ _ _ _ _ _ _ _ _ _ _ h1 h2 _ k => lv_ior h1 h2 hd k) kk
theorem z_ixor {x y : Int32} (hd : In cc pc (.ixor) 1 pc') (kk : Z G X cc own n h k1 k2 pc' vs (.int (x ^^^ y) :: st)) : Z G X cc own n h k1 k2 pc vs (.int y :: .int x :: st) := by
  obtain ⟨hd, rfl⟩ := hd
  exact Z.row (fun _ _ _ _ _ _ _ _ _ _ _ _ _ _ h1 h2 _ k => lv_ixor h1 h2 hd k) kk
theorem z_ladd {x y : Int64} (hd : In cc pc (.ladd) 1 pc') (kk : Z G X cc own n h k1 k2 pc' vs (.long (x + y) :: st)) : Z G X cc own n h k1 k2 pc vs (.long y :: .long x :: st) := by
  obtain ⟨hd, rfl⟩ := hd
  exact Z.row (fun _ _ _ _ _ _ _ _ _ _ _ _ _ _ h1 h2 _ k => lv_ladd h1 h2 hd k) kk
theorem z_lsub {x y : Int64} (hd : In cc pc (.lsub) 1 pc') (kk : Z G X cc own n h k1 k2 pc' vs (.long (x - y) :: st)) : Z G X cc own n h k1 k2 pc vs (.long y :: .long x :: st) := by
  obtain ⟨hd, rfl⟩ := hd
  exact Z.row (fun _ _ _ _ _ _ _ _ _ _ _ _ _ _ h1 h2 _ k => lv_lsub h1 h2 hd k) kk
theorem z_lmul {x y : Int64} (hd : In cc pc (.lmul) 1 pc') (kk : Z G X cc own n h k1 k2 pc' vs (.long (x * y) :: st)) : Z G X cc own n h k1 k2 pc vs (.long y :: .long x :: st) := by
  obtain ⟨hd, rfl⟩ := hd
  exact Z.row (fun _ _ _ _ _ _ _ _ _ _ _ _ _ _ h1 h2 _ k => lv_lmul h1 h2 hd k) kk
theorem z_land {x y : Int64} (hd : In cc pc (.land) 1 pc') (kk : Z G X cc own n h k1 k2 pc' vs (.long (x &&& y) :: st)) : Z G X cc own n h k1 k2 pc vs (.long y :: .long x :: st) := by
  obtain ⟨hd, rfl⟩ := hd
  exact Z.row (fun _ _ _ _ _ _ _ _ _ _ _ _ _ _ h1 h2 _ k => lv_land h1 h2 hd k) kk
theorem z_lor {x y : Int64} (hd : In cc pc (.lor) 1 pc') (kk : Z G X cc own n h k1 k2 pc' vs (.long (x ||| y) :: st)) : Z G X cc own n h k1 k2 pc vs (.long y :: .long x :: st) := by
  obtain ⟨hd, rfl⟩ := hd
  exact Z.row (fun _ _ _ _ _ _ _ _ _ _ _ _ _ _ h1 h2 _ k => lv_lor h1 h2 hd k) kk

theorem z_idiv {x y : Int32} (hd : In cc pc (.idiv) 1 pc') (hne : ¬ y = 0) (kk : Z G X cc own n h k1 k2 pc' vs (.int (x / y) :: st)) : Z G X cc own n h k1 k2 pc vs (.int y :: .int x :: st) := by
  obtain ⟨hd, rfl⟩ := hd
  exact Z.row (fun _ _ _ _ _ _ _ _ _ _ _ _ _ _ h1 h2 _ k => lv_idiv h1 h2 hd hne k) kk
theorem z_irem {x y : Int32} (hd : In cc pc (.irem) 1 pc') (hne : ¬ y = 0) (kk : Z G X cc own n h k1 k2 pc' vs (.int (x - x / y * y) :: st)) : Z G X cc own n h k1 k2 pc vs (.int y :: .int x :: st) := by
  obtain ⟨hd, rfl⟩ := hd
  exact Z.row (fun _ _ _ _ _ _ _ _ _ _ _ _ _ _ h1 h2 _ k => lv_irem h1 h2 hd hne k) kk
theorem z_ldiv {x y : Int64} (hd : In cc pc (.ldiv) 1 pc') (hne : ¬ y = 0) (kk : Z G X cc own n h k1 k2 pc' vs (.long (x / y) :: st)) : Z G X cc own n h k1 k2 pc vs (.long y :: .long x :: st) := by
  obtain ⟨hd, rfl⟩ := hd
  exact Z.row (fun _ _ _ _ _ _ _ _ _ _ _ _ _ _ h1 h2 _ k => lv_ldiv h1 h2 hd hne k) kk
theorem z_lrem {x y : Int64} (hd : In cc pc (.lrem) 1 pc') (hne : ¬ y = 0) (kk : Z G X cc own n h k1 k2 pc' vs (.long (x - x / y * y) :: st)) : Z G X cc own n h k1 k2 pc vs (.long y :: .long x :: st) := by
  obtain ⟨hd, rfl⟩ := hd
  exact Z.row (fun _ _ _ _ _ _ _ _ _ _ _ _ _ _ h1 h2 _ k => lv_lrem h1 h2 hd hne k) kk
theorem z_ineg {x : Int32} (hd : In cc pc (.ineg) 1 pc') (kk : Z G X cc own n h k1 k2 pc' vs (.int (-x) :: st)) : Z G X cc own n h k1 k2 pc vs (.int x :: st) := by
  obtain ⟨hd, rfl⟩ := hd
  exact Z.row (fun _ _ _ _ _ _ _ _ _ _ _ _ _ _ h1 h2 _ k => lv_ineg h1 h2 hd k) kk
theorem z_ishl {x y : Int32} (hd : In cc pc (.ishl) 1 pc') (kk : Z G X cc own n h k1 k2 pc' vs (.int (x <<< (y &&& 31)) :: st)) : Z G X cc own n h k1 k2 pc vs (.int y :: .int x :: st) := by
  obtain ⟨hd, rfl⟩ := hd
  exact Z.row (fun _ _ _ _ _ _ _ _ _ _ _ _ _ _ h1 h2 _ k => lv_ishl h1 h2 hd k) kk
theorem z_ishr {x y : Int32} (hd : In cc pc (.ishr) 1 pc') (kk : Z G X cc own n h k1 k2 pc' vs (.int (x >>> (y &&& 31)) :: st)) : Z G X cc own n h k1 k2 pc vs (.int y :: .int x :: st) := by
  obtain ⟨hd, rfl⟩ := hd
  exact Z.row (fun _ _ _ _ _ _ _ _ _ _ _ _ _ _ h1 h2 _ k => lv_ishr h1 h2 hd k) kk
theorem z_iushr {x y : Int32} (hd : In cc pc (.iushr) 1 pc') (kk : Z G X cc own n h k1 k2 pc' vs (.int ((x.toUInt32 >>> (y.toUInt32 &&& Int32.toUInt32 31)).toInt32) :: st)) : Z G X cc own n h k1 k2 pc vs (.int y :: .int x :: st) := by
  obtain ⟨hd, rfl⟩ := hd
  exact Z.row (fun _ _ _ _ _ _ _ _ _ _ _ _ _ _ h1 h2 _ k => lv_iushr h1 h2 hd rfl k) kk
theorem z_lushr {x : Int64} {y : Int32} (hd : In cc pc (.lushr) 1 pc') (kk : Z G X cc own n h k1 k2 pc' vs (.long ((x.toUInt64 >>> (y.toInt64.toUInt64 &&& Int64.toUInt64 63)).toInt64) :: st)) : Z G X cc own n h k1 k2 pc vs (.int y :: .long x :: st) := by
  obtain ⟨hd, rfl⟩ := hd
  exact Z.row (fun _ _ _ _ _ _ _ _ _ _ _ _ _ _ h1 h2 _ k => lv_lushr h1 h2 hd rfl k) kk
theorem z_lshl {x : Int64} {y : Int32} (hd : In cc pc (.lshl) 1 pc') (kk : Z G X cc own n h k1 k2 pc' vs (.long (x <<< (y.toInt64 &&& 63)) :: st)) : Z G X cc own n h k1 k2 pc vs (.int y :: .long x :: st) := by
  obtain ⟨hd, rfl⟩ := hd
  exact Z.row (fun _ _ _ _ _ _ _ _ _ _ _ _ _ _ h1 h2 _ k => lv_lshl h1 h2 hd rfl k) kk
theorem z_i2l {x : Int32} (hd : In cc pc (.i2l) 1 pc') (kk : Z G X cc own n h k1 k2 pc' vs (.long x.toInt64 :: st)) : Z G X cc own n h k1 k2 pc vs (.int x :: st) := by
  obtain ⟨hd, rfl⟩ := hd
  exact Z.row (fun _ _ _ _ _ _ _ _ _ _ _ _ _ _ h1 h2 _ k => lv_i2l h1 h2 hd rfl k) kk
theorem z_l2i {x : Int64} (hd : In cc pc (.l2i) 1 pc') (kk : Z G X cc own n h k1 k2 pc' vs (.int x.toInt32 :: st)) : Z G X cc own n h k1 k2 pc vs (.long x :: st) := by
  obtain ⟨hd, rfl⟩ := hd
  exact Z.row (fun _ _ _ _ _ _ _ _ _ _ _ _ _ _ h1 h2 _ k => lv_l2i h1 h2 hd rfl k) kk
theorem z_dup {v : Value} (hd : In cc pc (.dup) 1 pc') (hv : v.category = 1) (kk : Z G X cc own n h k1 k2 pc' vs (v :: v :: st)) : Z G X cc own n h k1 k2 pc vs (v :: st) := by
  obtain ⟨hd, rfl⟩ := hd
  exact Z.row (fun _ _ _ _ _ _ _ _ _ _ _ _ _ _ h1 h2 _ k => lv_dup h1 h2 hd hv k) kk
theorem z_pop {v : Value} (hd : In cc pc (.pop) 1 pc') (hv : v.category = 1) (kk : Z G X cc own n h k1 k2 pc' vs (st)) : Z G X cc own n h k1 k2 pc vs (v :: st) := by
  obtain ⟨hd, rfl⟩ := hd
  exact Z.row (fun _ _ _ _ _ _ _ _ _ _ _ _ _ _ h1 h2 _ k => lv_pop h1 h2 hd hv k) kk
theorem z_dup2 {v w : Value} (hd : In cc pc (.dup2) 1 pc') (hv : v.category = 1) (hw : w.category = 1) (kk : Z G X cc own n h k1 k2 pc' vs (v :: w :: v :: w :: st)) : Z G X cc own n h k1 k2 pc vs (v :: w :: st) := by
  obtain ⟨hd, rfl⟩ := hd
  exact Z.row (fun _ _ _ _ _ _ _ _ _ _ _ _ _ _ h1 h2 _ k => lv_dup2_11 h1 h2 hd hv hw k) kk
theorem z_lcmp {x y : Int64} (hd : In cc pc (.lcmp) 1 pc') (kk : Z G X cc own n h k1 k2 pc' vs (.int (lg_cmp x y) :: st)) : Z G X cc own n h k1 k2 pc vs (.long y :: .long x :: st) := by
  obtain ⟨hd, rfl⟩ := hd
  exact Z.row (fun _ _ _ _ _ _ _ _ _ _ _ _ _ _ h1 h2 _ k => W.lcmp h1 h2 hd k) kk
/-- a row with two ways on -/
theorem Z.row2 {tgt : Nat} {st' : List Value} {A B : Prop} (f : ∀ (p : Program) (l : Launch) (e : Env) (R : Room) (s : State) (m : MethodId) (args : Array Value) (below : List Frame) (meth : Method) (c : Code) (Q : State → Prop) (H : Heap) (locs : List Loc) (ls : Array Slot), p.tables.exec = Jvm.exec → c.code = cc → (A → W p l e R s m args below meth c H locs k1 k2 Q (F0 m tgt ls st')) → (B → W p l e R s m args below meth c H locs k1 k2 Q (F0 m pc' ls st')) → W p l e R s m args below meth c H locs k1 k2 Q (F0 m pc ls st)) (kt : A → Z G X cc own n h k1 k2 tgt vs st') (kf : B → Z G X cc own n h k1 k2 pc' vs st') : Z G X cc own n h k1 k2 pc vs st := by
  intro hC H locs ls hH hS hL
  have k := fun a => kt a hC H locs ls hH hS hL
  have k' := fun a => kf a hC H locs ls hH hS hL
  obtain ⟨p, l, e, R, s, m, args, below, meth, c, Q⟩ := X
  exact f p l e R s m args below meth c Q H locs ls hC.1 hC.2.1 k k'
theorem z_goto {off : Int} {tgt : Nat} (hd : Jn cc pc (.goto off) off pc' tgt) (kk : Z G X cc own n h k1 k2 tgt vs st) : Z G X cc own n h k1 k2 pc vs st := by
  obtain ⟨hd, rfl, ht⟩ := hd
  exact Z.row (pc' := tgt) (fun _ _ _ _ _ _ _ _ _ _ _ _ _ _ h1 h2 _ k => lv_goto h1 h2 hd ht k) kk
theorem z_if_eq {off : Int} {tgt : Nat} {x : Int32} (hd : Jn cc pc (.ifCond .eq off) off pc' tgt) (kt : x = 0 → Z G X cc own n h k1 k2 tgt vs (st)) (kf : ¬ x = 0 → Z G X cc own n h k1 k2 pc' vs (st)) : Z G X cc own n h k1 k2 pc vs (.int x :: st) := by
  obtain ⟨hd, rfl, ht⟩ := hd
  exact Z.row2 (fun _ _ _ _ _ _ _ _ _ _ _ _ _ _ h1 h2 k k' => lv_if_eq h1 h2 hd ht k k') kt kf
theorem z_icmp_eq {off : Int} {tgt : Nat} {x y : Int32} (hd : Jn cc pc (.if_icmp .eq off) off pc' tgt) (kt : x = y → Z G X cc own n h k1 k2 tgt vs (st)) (kf : ¬ x = y → Z G X cc own n h k1 k2 pc' vs (st)) : Z G X cc own n h k1 k2 pc vs (.int y :: .int x :: st) := by
  obtain ⟨hd, rfl, ht⟩ := hd
  exact Z.row2 (fun _ _ _ _ _ _ _ _ _ _ _ _ _ _ h1 h2 k k' => lv_icmp_eq h1 h2 hd ht k k') kt kf
theorem z_if_ne {off : Int} {tgt : Nat} {x : Int32} (hd : Jn cc pc (.ifCond .ne off) off pc' tgt) (kt : ¬ x = 0 → Z G X cc own n h k1 k2 tgt vs (st)) (kf : x = 0 → Z G X cc own n h k1 k2 pc' vs (st)) : Z G X cc own n h k1 k2 pc vs (.int x :: st) := by
  obtain ⟨hd, rfl, ht⟩ := hd
  exact Z.row2 (fun _ _ _ _ _ _ _ _ _ _ _ _ _ _ h1 h2 k k' => lv_if_ne h1 h2 hd ht k k') kt kf
theorem z_icmp_ne {off : Int} {tgt : Nat} {x y : Int32} (hd : Jn cc pc (.if_icmp .ne off) off pc' tgt) (kt : ¬ x = y → Z G X cc own n h k1 k2 tgt vs (st)) (kf : x = y → Z G X cc own n h k1 k2 pc' vs (st)) : Z G X cc own n h k1 k2 pc vs (.int y :: .int x :: st) := by
  obtain ⟨hd, rfl, ht⟩ := hd
  exact Z.row2 (fun _ _ _ _ _ _ _ _ _ _ _ _ _ _ h1 h2 k k' => lv_icmp_ne h1 h2 hd ht k k') kt kf
theorem z_if_lt {off : Int} {tgt : Nat} {x : Int32} (hd : Jn cc pc (.ifCond .lt off) off pc' tgt) (kt : x < 0 → Z G X cc own n h k1 k2 tgt vs (st)) (kf : ¬ x < 0 → Z G X cc own n h k1 k2 pc' vs (st)) : Z G X cc own n h k1 k2 pc vs (.int x :: st) := by
  obtain ⟨hd, rfl, ht⟩ := hd
  exact Z.row2 (fun _ _ _ _ _ _ _ _ _ _ _ _ _ _ h1 h2 k k' => lv_if_lt h1 h2 hd ht k k') kt kf
theorem z_icmp_lt {off : Int} {tgt : Nat} {x y : Int32} (hd : Jn cc pc (.if_icmp .lt off) off pc' tgt) (kt : x < y → Z G X cc own n h k1 k2 tgt vs (st)) (kf : ¬ x < y → Z G X cc own n h k1 k2 pc' vs (st)) : Z G X cc own n h k1 k2 pc vs (.int y :: .int x :: st) := by
  obtain ⟨hd, rfl, ht⟩ := hd
  exact Z.row2 (fun _ _ _ _ _ _ _ _ _ _ _ _ _ _ h1 h2 k k' => lv_icmp_lt h1 h2 hd ht k k') kt kf
theorem z_if_ge {off : Int} {tgt : Nat} {x : Int32} (hd : Jn cc pc (.ifCond .ge off) off pc' tgt) (kt : 0 ≤ x → Z G X cc own n h k1 k2 tgt vs (st)) (kf : ¬ 0 ≤ x → Z G X cc own n h k1 k2 pc' vs (st)) : Z G X cc own n h k1 k2 pc vs (.int x :: st) := by
  obtain ⟨hd, rfl, ht⟩ := hd
  exact Z.row2 (fun _ _ _ _ _ _ _ _ _ _ _ _ _ _ h1 h2 k k' => lv_if_ge h1 h2 hd ht k k') kt kf
theorem z_icmp_ge {off : Int} {tgt : Nat} {x y : Int32} (hd : Jn cc pc (.if_icmp .ge off) off pc' tgt) (kt : y ≤ x → Z G X cc own n h k1 k2 tgt vs (st)) (kf : ¬ y ≤ x → Z G X cc own n h k1 k2 pc' vs (st)) : Z G X cc own n h k1 k2 pc vs (.int y :: .int x :: st) := by
  obtain ⟨hd, rfl, ht⟩ := hd
  exact Z.row2 (fun _ _ _ _ _ _ _ _ _ _ _ _ _ _ h1 h2 k k' => lv_icmp_ge h1 h2 hd ht k k') kt kf
theorem z_if_gt {off : Int} {tgt : Nat} {x : Int32} (hd : Jn cc pc (.ifCond .gt off) off pc' tgt) (kt : 0 < x → Z G X cc own n h k1 k2 tgt vs (st)) (kf : ¬ 0 < x → Z G X cc own n h k1 k2 pc' vs (st)) : Z G X cc own n h k1 k2 pc vs (.int x :: st) := by
  obtain ⟨hd, rfl, ht⟩ := hd
  exact Z.row2 (fun _ _ _ _ _ _ _ _ _ _ _ _ _ _ h1 h2 k k' => lv_if_gt h1 h2 hd ht k k') kt kf
theorem z_icmp_gt {off : Int} {tgt : Nat} {x y : Int32} (hd : Jn cc pc (.if_icmp .gt off) off pc' tgt) (kt : y < x → Z G X cc own n h k1 k2 tgt vs (st)) (kf : ¬ y < x → Z G X cc own n h k1 k2 pc' vs (st)) : Z G X cc own n h k1 k2 pc vs (.int y :: .int x :: st) := by
  obtain ⟨hd, rfl, ht⟩ := hd
  exact Z.row2 (fun _ _ _ _ _ _ _ _ _ _ _ _ _ _ h1 h2 k k' => lv_icmp_gt h1 h2 hd ht k k') kt kf
theorem z_if_le {off : Int} {tgt : Nat} {x : Int32} (hd : Jn cc pc (.ifCond .le off) off pc' tgt) (kt : x ≤ 0 → Z G X cc own n h k1 k2 tgt vs (st)) (kf : ¬ x ≤ 0 → Z G X cc own n h k1 k2 pc' vs (st)) : Z G X cc own n h k1 k2 pc vs (.int x :: st) := by
  obtain ⟨hd, rfl, ht⟩ := hd
  exact Z.row2 (fun _ _ _ _ _ _ _ _ _ _ _ _ _ _ h1 h2 k k' => lv_if_le h1 h2 hd ht k k') kt kf
theorem z_icmp_le {off : Int} {tgt : Nat} {x y : Int32} (hd : Jn cc pc (.if_icmp .le off) off pc' tgt) (kt : x ≤ y → Z G X cc own n h k1 k2 tgt vs (st)) (kf : ¬ x ≤ y → Z G X cc own n h k1 k2 pc' vs (st)) : Z G X cc own n h k1 k2 pc vs (.int y :: .int x :: st) := by
  obtain ⟨hd, rfl, ht⟩ := hd
  exact Z.row2 (fun _ _ _ _ _ _ _ _ _ _ _ _ _ _ h1 h2 k k' => lv_icmp_le h1 h2 hd ht k k') kt kf
theorem z_icmp_eqN {off : Int} {tgt a b : Nat} (hd : Jn cc pc (.if_icmp .eq off) off pc' tgt) (ha : a < 2 ^ 31) (hb : b < 2 ^ 31) (kt : a = b → Z G X cc own n h k1 k2 tgt vs (st)) (kf : a ≠ b → Z G X cc own n h k1 k2 pc' vs (st)) : Z G X cc own n h k1 k2 pc vs (.int (nI b) :: .int (nI a) :: st) := z_icmp_eq hd (fun q => kt ((nI_eq ha hb).mp q)) (fun q => kf (fun z => q ((nI_eq ha hb).mpr z)))
theorem z_icmp_neN {off : Int} {tgt a b : Nat} (hd : Jn cc pc (.if_icmp .ne off) off pc' tgt) (ha : a < 2 ^ 31) (hb : b < 2 ^ 31) (kt : a ≠ b → Z G X cc own n h k1 k2 tgt vs (st)) (kf : a = b → Z G X cc own n h k1 k2 pc' vs (st)) : Z G X cc own n h k1 k2 pc vs (.int (nI b) :: .int (nI a) :: st) := z_icmp_ne hd (fun q => kt (fun z => q ((nI_eq ha hb).mpr z))) (fun q => kf ((nI_eq ha hb).mp q))
theorem z_icmp_ltN {off : Int} {tgt a b : Nat} (hd : Jn cc pc (.if_icmp .lt off) off pc' tgt) (ha : a < 2 ^ 31) (hb : b < 2 ^ 31) (kt : a < b → Z G X cc own n h k1 k2 tgt vs (st)) (kf : b ≤ a → Z G X cc own n h k1 k2 pc' vs (st)) : Z G X cc own n h k1 k2 pc vs (.int (nI b) :: .int (nI a) :: st) := z_icmp_lt hd (fun q => kt ((nI_ltI ha hb).mp q)) (fun q => kf (Nat.not_lt.mp (fun z => q ((nI_ltI ha hb).mpr z))))
theorem z_icmp_geN {off : Int} {tgt a b : Nat} (hd : Jn cc pc (.if_icmp .ge off) off pc' tgt) (ha : a < 2 ^ 31) (hb : b < 2 ^ 31) (kt : b ≤ a → Z G X cc own n h k1 k2 tgt vs (st)) (kf : a < b → Z G X cc own n h k1 k2 pc' vs (st)) : Z G X cc own n h k1 k2 pc vs (.int (nI b) :: .int (nI a) :: st) := z_icmp_ge hd (fun q => kt ((nI_leI hb ha).mp q)) (fun q => kf (Nat.not_le.mp (fun z => q ((nI_leI hb ha).mpr z))))
theorem z_icmp_gtN {off : Int} {tgt a b : Nat} (hd : Jn cc pc (.if_icmp .gt off) off pc' tgt) (ha : a < 2 ^ 31) (hb : b < 2 ^ 31) (kt : b < a → Z G X cc own n h k1 k2 tgt vs (st)) (kf : a ≤ b → Z G X cc own n h k1 k2 pc' vs (st)) : Z G X cc own n h k1 k2 pc vs (.int (nI b) :: .int (nI a) :: st) := z_icmp_gt hd (fun q => kt ((nI_ltI hb ha).mp q)) (fun q => kf (Nat.not_lt.mp (fun z => q ((nI_ltI hb ha).mpr z))))
theorem z_icmp_leN {off : Int} {tgt a b : Nat} (hd : Jn cc pc (.if_icmp .le off) off pc' tgt) (ha : a < 2 ^ 31) (hb : b < 2 ^ 31) (kt : a ≤ b → Z G X cc own n h k1 k2 tgt vs (st)) (kf : b < a → Z G X cc own n h k1 k2 pc' vs (st)) : Z G X cc own n h k1 k2 pc vs (.int (nI b) :: .int (nI a) :: st) := z_icmp_le hd (fun q => kt ((nI_leI ha hb).mp q)) (fun q => kf (Nat.not_le.mp (fun z => q ((nI_leI ha hb).mpr z))))
theorem z_if_eqN {off : Int} {tgt a : Nat} (hd : Jn cc pc (.ifCond .eq off) off pc' tgt) (ha : a < 2 ^ 31) (kt : a = 0 → Z G X cc own n h k1 k2 tgt vs (st)) (kf : a ≠ 0 → Z G X cc own n h k1 k2 pc' vs (st)) : Z G X cc own n h k1 k2 pc vs (.int (nI a) :: st) := z_if_eq hd (fun q => kt ((nI_eq ha (by decide)).mp (q.trans nI_0.symm))) (fun q => kf (fun z => q (by rw [z]; exact nI_0)))
theorem z_if_neN {off : Int} {tgt a : Nat} (hd : Jn cc pc (.ifCond .ne off) off pc' tgt) (ha : a < 2 ^ 31) (kt : a ≠ 0 → Z G X cc own n h k1 k2 tgt vs (st)) (kf : a = 0 → Z G X cc own n h k1 k2 pc' vs (st)) : Z G X cc own n h k1 k2 pc vs (.int (nI a) :: st) := z_if_ne hd (fun q => kt (fun z => q (by rw [z]; exact nI_0))) (fun q => kf ((nI_eq ha (by decide)).mp (q.trans nI_0.symm)))
theorem z_if_leN {off : Int} {tgt a : Nat} (hd : Jn cc pc (.ifCond .le off) off pc' tgt) (ha : a < 2 ^ 31) (kt : a = 0 → Z G X cc own n h k1 k2 tgt vs (st)) (kf : 0 < a → Z G X cc own n h k1 k2 pc' vs (st)) : Z G X cc own n h k1 k2 pc vs (.int (nI a) :: st) := z_if_le hd (fun q => kt ((Nat.eq_zero_or_pos a).elim id (fun z => absurd q (nI_nle z ha)))) (fun q => kf ((Nat.eq_zero_or_pos a).elim (fun z => absurd (by rw [z]; decide) q) id))
theorem z_if_ltN {off : Int} {tgt a : Nat} (hd : Jn cc pc (.ifCond .lt off) off pc' tgt) (ha : a < 2 ^ 31) (kf : Z G X cc own n h k1 k2 pc' vs (st)) : Z G X cc own n h k1 k2 pc vs (.int (nI a) :: st) := z_if_lt hd (fun q => absurd q (nI_pos ha)) (fun _ => kf)
theorem z_iaddN {a b : Nat} (hd : In cc pc (.iadd) 1 pc') (kk : Z G X cc own n h k1 k2 pc' vs (.int (nI (a + b)) :: st)) : Z G X cc own n h k1 k2 pc vs (.int (nI b) :: .int (nI a) :: st) := z_iadd hd (by rw [nI_add]; exact kk)
theorem z_imulN {a b : Nat} (hd : In cc pc (.imul) 1 pc') (kk : Z G X cc own n h k1 k2 pc' vs (.int (nI (a * b)) :: st)) : Z G X cc own n h k1 k2 pc vs (.int (nI b) :: .int (nI a) :: st) := z_imul hd (by rw [pk_mul]; exact kk)
theorem z_isubN {a b : Nat} (hd : In cc pc (.isub) 1 pc') (hb : b ≤ a) (kk : Z G X cc own n h k1 k2 pc' vs (.int (nI (a - b)) :: st)) : Z G X cc own n h k1 k2 pc vs (.int (nI b) :: .int (nI a) :: st) := z_isub hd (by rw [pk_sub hb]; exact kk)
theorem z_idivN {a b : Nat} (hd : In cc pc (.idiv) 1 pc') (ha : a < 2 ^ 31) (h0 : 0 < b) (hb : b < 2 ^ 31) (kk : Z G X cc own n h k1 k2 pc' vs (.int (nI (a / b)) :: st)) : Z G X cc own n h k1 k2 pc vs (.int (nI b) :: .int (nI a) :: st) := z_idiv hd (nI_ne0 h0 hb) (by rw [pk_div ha h0 hb]; exact kk)
theorem z_iremN {a b : Nat} (hd : In cc pc (.irem) 1 pc') (ha : a < 2 ^ 31) (h0 : 0 < b) (hb : b < 2 ^ 31) (kk : Z G X cc own n h k1 k2 pc' vs (.int (nI (a % b)) :: st)) : Z G X cc own n h k1 k2 pc vs (.int (nI b) :: .int (nI a) :: st) := z_irem hd (nI_ne0 h0 hb) (by rw [pk_rem ha h0 hb]; exact kk)
theorem z_top {x y : Int32} (e : x = y) (kk : Z G X cc own n h k1 k2 pc vs (.int y :: st)) : Z G X cc own n h k1 k2 pc vs (.int x :: st) := by rw [e]; exact kk
theorem z_topl {x y : Int64} (e : x = y) (kk : Z G X cc own n h k1 k2 pc vs (.long y :: st)) : Z G X cc own n h k1 k2 pc vs (.long x :: st) := by rw [e]; exact kk
theorem z_tableIn {dflt lo hi : Int} {offs : Array Int} {len tgt : Nat} {x : Int32} {off : Int} (hd : In cc pc (.tableswitch dflt lo hi offs) len pc') (h1 : ¬ x.toInt < lo) (h2 : ¬ hi < x.toInt) (ho : offs[(x.toInt - lo).toNat]? = some off) (ht : (pc : Int) + off = (tgt : Int)) (kk : Z G X cc own n h k1 k2 tgt vs (st)) : Z G X cc own n h k1 k2 pc vs (.int x :: st) := by
  obtain ⟨hd, -⟩ := hd
  exact Z.row (pc' := tgt) (fun _ _ _ _ _ _ _ _ _ _ _ _ _ _ e1 e2 _ k => lv_tableIn e1 e2 hd h1 h2 ho ht k) kk
theorem z_tableOut {dflt lo hi : Int} {offs : Array Int} {len tgt : Nat} {x : Int32} (hd : In cc pc (.tableswitch dflt lo hi offs) len pc') (h1 : x.toInt < lo ∨ hi < x.toInt) (ht : (pc : Int) + dflt = (tgt : Int)) (kk : Z G X cc own n h k1 k2 tgt vs (st)) : Z G X cc own n h k1 k2 pc vs (.int x :: st) := by
  obtain ⟨hd, -⟩ := hd
  exact Z.row (pc' := tgt) (fun _ _ _ _ _ _ _ _ _ _ _ _ _ _ e1 e2 _ k => lv_tableOut e1 e2 hd h1 ht k) kk
theorem z_lookup {dflt : Int} {ps : Array (Int × Int)} {len tgt : Nat} {x : Int32} {off : Int} (hd : In cc pc (.lookupswitch dflt ps) len pc') (hp : (ps.toList.zip (ps.toList.drop 1)).all (fun (a, next) => a.1 < next.1) = true) (ho : Op.lookupswitch.offset ps.toList dflt x.toInt = off) (ht : (pc : Int) + off = (tgt : Int)) (kk : Z G X cc own n h k1 k2 tgt vs (st)) : Z G X cc own n h k1 k2 pc vs (.int x :: st) := by
  obtain ⟨hd, -⟩ := hd
  exact Z.row (pc' := tgt) (fun _ _ _ _ _ _ _ _ _ _ _ _ _ _ e1 e2 _ k => lv_lookup e1 e2 hd hp ho ht k) kk
theorem z_iload_0 {r : List (Option Value)} {x : Int32} (hd : In cc pc (.iload_n 0) 1 pc') (kk : Z G X cc own n h k1 k2 pc' (some (.int x) :: r) (.int x :: st)) : Z G X cc own n h k1 k2 pc (some (.int x) :: r) (st) := z_iloadG 0 hd rfl kk
theorem z_aload_0 {r : List (Option Value)} {x : Nat} (hd : In cc pc (.aload_n 0) 1 pc') (kk : Z G X cc own n h k1 k2 pc' (some (.ref x) :: r) (.ref x :: st)) : Z G X cc own n h k1 k2 pc (some (.ref x) :: r) (st) := z_aloadG 0 hd rfl kk
theorem z_lload_0 {r : List (Option Value)} {x : Int64} (hd : In cc pc (.lload_n 0) 1 pc') (kk : Z G X cc own n h k1 k2 pc' (some (.long x) :: r) (.long x :: st)) : Z G X cc own n h k1 k2 pc (some (.long x) :: r) (st) := z_lloadG 0 hd rfl kk
theorem z_istore_0 {w : Option Value} {r : List (Option Value)} {x : Int32} (hd : In cc pc (.istore_n 0) 1 pc') (kk : Z G X cc own n h k1 k2 pc' (some (.int x) :: r) (st)) : Z G X cc own n h k1 k2 pc (w :: r) (.int x :: st) := z_istoreG 0 hd rfl (by simp only [List.length_cons]; omega) rfl kk
theorem z_astore_0 {w : Option Value} {r : List (Option Value)} {x : Nat} (hd : In cc pc (.astore_n 0) 1 pc') (kk : Z G X cc own n h k1 k2 pc' (some (.ref x) :: r) (st)) : Z G X cc own n h k1 k2 pc (w :: r) (.ref x :: st) := z_astoreG 0 hd rfl (by simp only [List.length_cons]; omega) rfl kk
theorem z_lstore_0 {w w2 : Option Value} {r : List (Option Value)} {x : Int64} (hd : In cc pc (.lstore_n 0) 1 pc') (kk : Z G X cc own n h k1 k2 pc' (some (.long x) :: none :: r) (st)) : Z G X cc own n h k1 k2 pc (w :: w2 :: r) (.long x :: st) := z_lstoreG 0 hd rfl (by simp only [List.length_cons]; omega) rfl kk
theorem z_iinc_0 {r : List (Option Value)} {x : Int32} {d : Int} (hd : In cc pc (.iinc 0 d) 3 pc') (kk : Z G X cc own n h k1 k2 pc' (some (.int (x + Int32.ofInt d)) :: r) (st)) : Z G X cc own n h k1 k2 pc (some (.int x) :: r) (st) := z_iincG 0 hd rfl rfl rfl rfl kk
theorem z_iinc_0N {r : List (Option Value)} {a : Nat} (hd : In cc pc (.iinc 0 1) 3 pc') (kk : Z G X cc own n h k1 k2 pc' (some (.int (nI (a + 1))) :: r) (st)) : Z G X cc own n h k1 k2 pc (some (.int (nI a)) :: r) (st) := z_iincG 0 hd rfl (nI_1 a) rfl rfl kk
theorem z_iload_1 {v0 : Option Value} {r : List (Option Value)} {x : Int32} (hd : In cc pc (.iload_n 1) 1 pc') (kk : Z G X cc own n h k1 k2 pc' (v0 :: some (.int x) :: r) (.int x :: st)) : Z G X cc own n h k1 k2 pc (v0 :: some (.int x) :: r) (st) := z_iloadG 1 hd rfl kk
theorem z_aload_1 {v0 : Option Value} {r : List (Option Value)} {x : Nat} (hd : In cc pc (.aload_n 1) 1 pc') (kk : Z G X cc own n h k1 k2 pc' (v0 :: some (.ref x) :: r) (.ref x :: st)) : Z G X cc own n h k1 k2 pc (v0 :: some (.ref x) :: r) (st) := z_aloadG 1 hd rfl kk
theorem z_lload_1 {v0 : Option Value} {r : List (Option Value)} {x : Int64} (hd : In cc pc (.lload_n 1) 1 pc') (kk : Z G X cc own n h k1 k2 pc' (v0 :: some (.long x) :: r) (.long x :: st)) : Z G X cc own n h k1 k2 pc (v0 :: some (.long x) :: r) (st) := z_lloadG 1 hd rfl kk
theorem z_istore_1 {v0 : Option Value} {w : Option Value} {r : List (Option Value)} {x : Int32} (hd : In cc pc (.istore_n 1) 1 pc') (ho : ok1 [v0] 1 = true) (kk : Z G X cc own n h k1 k2 pc' (v0 :: some (.int x) :: r) (st)) : Z G X cc own n h k1 k2 pc (v0 :: w :: r) (.int x :: st) := z_istoreG 1 hd rfl (by simp only [List.length_cons]; omega) ho kk
theorem z_astore_1 {v0 : Option Value} {w : Option Value} {r : List (Option Value)} {x : Nat} (hd : In cc pc (.astore_n 1) 1 pc') (ho : ok1 [v0] 1 = true) (kk : Z G X cc own n h k1 k2 pc' (v0 :: some (.ref x) :: r) (st)) : Z G X cc own n h k1 k2 pc (v0 :: w :: r) (.ref x :: st) := z_astoreG 1 hd rfl (by simp only [List.length_cons]; omega) ho kk
theorem z_lstore_1 {v0 : Option Value} {w w2 : Option Value} {r : List (Option Value)} {x : Int64} (hd : In cc pc (.lstore_n 1) 1 pc') (ho : ok1 [v0] 1 = true) (kk : Z G X cc own n h k1 k2 pc' (v0 :: some (.long x) :: none :: r) (st)) : Z G X cc own n h k1 k2 pc (v0 :: w :: w2 :: r) (.long x :: st) := z_lstoreG 1 hd rfl (by simp only [List.length_cons]; omega) ho kk
theorem z_iinc_1 {v0 : Option Value} {r : List (Option Value)} {x : Int32} {d : Int} (hd : In cc pc (.iinc 1 d) 3 pc') (ho : ok1 [v0] 1 = true) (kk : Z G X cc own n h k1 k2 pc' (v0 :: some (.int (x + Int32.ofInt d)) :: r) (st)) : Z G X cc own n h k1 k2 pc (v0 :: some (.int x) :: r) (st) := z_iincG 1 hd rfl rfl rfl ho kk
theorem z_iinc_1N {v0 : Option Value} {r : List (Option Value)} {a : Nat} (hd : In cc pc (.iinc 1 1) 3 pc') (ho : ok1 [v0] 1 = true) (kk : Z G X cc own n h k1 k2 pc' (v0 :: some (.int (nI (a + 1))) :: r) (st)) : Z G X cc own n h k1 k2 pc (v0 :: some (.int (nI a)) :: r) (st) := z_iincG 1 hd rfl (nI_1 a) rfl ho kk
theorem z_iload_2 {v0 v1 : Option Value} {r : List (Option Value)} {x : Int32} (hd : In cc pc (.iload_n 2) 1 pc') (kk : Z G X cc own n h k1 k2 pc' (v0 :: v1 :: some (.int x) :: r) (.int x :: st)) : Z G X cc own n h k1 k2 pc (v0 :: v1 :: some (.int x) :: r) (st) := z_iloadG 2 hd rfl kk
theorem z_aload_2 {v0 v1 : Option Value} {r : List (Option Value)} {x : Nat} (hd : In cc pc (.aload_n 2) 1 pc') (kk : Z G X cc own n h k1 k2 pc' (v0 :: v1 :: some (.ref x) :: r) (.ref x :: st)) : Z G X cc own n h k1 k2 pc (v0 :: v1 :: some (.ref x) :: r) (st) := z_aloadG 2 hd rfl kk
theorem z_lload_2 {v0 v1 : Option Value} {r : List (Option Value)} {x : Int64} (hd : In cc pc (.lload_n 2) 1 pc') (kk : Z G X cc own n h k1 k2 pc' (v0 :: v1 :: some (.long x) :: r) (.long x :: st)) : Z G X cc own n h k1 k2 pc (v0 :: v1 :: some (.long x) :: r) (st) := z_lloadG 2 hd rfl kk
theorem z_istore_2 {v0 v1 : Option Value} {w : Option Value} {r : List (Option Value)} {x : Int32} (hd : In cc pc (.istore_n 2) 1 pc') (ho : ok1 [v1] 1 = true) (kk : Z G X cc own n h k1 k2 pc' (v0 :: v1 :: some (.int x) :: r) (st)) : Z G X cc own n h k1 k2 pc (v0 :: v1 :: w :: r) (.int x :: st) := z_istoreG 2 hd rfl (by simp only [List.length_cons]; omega) ho kk
theorem z_astore_2 {v0 v1 : Option Value} {w : Option Value} {r : List (Option Value)} {x : Nat} (hd : In cc pc (.astore_n 2) 1 pc') (ho : ok1 [v1] 1 = true) (kk : Z G X cc own n h k1 k2 pc' (v0 :: v1 :: some (.ref x) :: r) (st)) : Z G X cc own n h k1 k2 pc (v0 :: v1 :: w :: r) (.ref x :: st) := z_astoreG 2 hd rfl (by simp only [List.length_cons]; omega) ho kk
theorem z_lstore_2 {v0 v1 : Option Value} {w w2 : Option Value} {r : List (Option Value)} {x : Int64} (hd : In cc pc (.lstore_n 2) 1 pc') (ho : ok1 [v1] 1 = true) (kk : Z G X cc own n h k1 k2 pc' (v0 :: v1 :: some (.long x) :: none :: r) (st)) : Z G X cc own n h k1 k2 pc (v0 :: v1 :: w :: w2 :: r) (.long x :: st) := z_lstoreG 2 hd rfl (by simp only [List.length_cons]; omega) ho kk
theorem z_iinc_2 {v0 v1 : Option Value} {r : List (Option Value)} {x : Int32} {d : Int} (hd : In cc pc (.iinc 2 d) 3 pc') (ho : ok1 [v1] 1 = true) (kk : Z G X cc own n h k1 k2 pc' (v0 :: v1 :: some (.int (x + Int32.ofInt d)) :: r) (st)) : Z G X cc own n h k1 k2 pc (v0 :: v1 :: some (.int x) :: r) (st) := z_iincG 2 hd rfl rfl rfl ho kk
theorem z_iinc_2N {v0 v1 : Option Value} {r : List (Option Value)} {a : Nat} (hd : In cc pc (.iinc 2 1) 3 pc') (ho : ok1 [v1] 1 = true) (kk : Z G X cc own n h k1 k2 pc' (v0 :: v1 :: some (.int (nI (a + 1))) :: r) (st)) : Z G X cc own n h k1 k2 pc (v0 :: v1 :: some (.int (nI a)) :: r) (st) := z_iincG 2 hd rfl (nI_1 a) rfl ho kk
theorem z_iload_3 {v0 v1 v2 : Option Value} {r : List (Option Value)} {x : Int32} (hd : In cc pc (.iload_n 3) 1 pc') (kk : Z G X cc own n h k1 k2 pc' (v0 :: v1 :: v2 :: some (.int x) :: r) (.int x :: st)) : Z G X cc own n h k1 k2 pc (v0 :: v1 :: v2 :: some (.int x) :: r) (st) := z_iloadG 3 hd rfl kk
theorem z_aload_3 {v0 v1 v2 : Option Value} {r : List (Option Value)} {x : Nat} (hd : In cc pc (.aload_n 3) 1 pc') (kk : Z G X cc own n h k1 k2 pc' (v0 :: v1 :: v2 :: some (.ref x) :: r) (.ref x :: st)) : Z G X cc own n h k1 k2 pc (v0 :: v1 :: v2 :: some (.ref x) :: r) (st) := z_aloadG 3 hd rfl kk
theorem z_lload_3 {v0 v1 v2 : Option Value} {r : List (Option Value)} {x : Int64} (hd : In cc pc (.lload_n 3) 1 pc') (kk : Z G X cc own n h k1 k2 pc' (v0 :: v1 :: v2 :: some (.long x) :: r) (.long x :: st)) : Z G X cc own n h k1 k2 pc (v0 :: v1 :: v2 :: some (.long x) :: r) (st) := z_lloadG 3 hd rfl kk
theorem z_istore_3 {v0 v1 v2 : Option Value} {w : Option Value} {r : List (Option Value)} {x : Int32} (hd : In cc pc (.istore_n 3) 1 pc') (ho : ok1 [v2] 1 = true) (kk : Z G X cc own n h k1 k2 pc' (v0 :: v1 :: v2 :: some (.int x) :: r) (st)) : Z G X cc own n h k1 k2 pc (v0 :: v1 :: v2 :: w :: r) (.int x :: st) := z_istoreG 3 hd rfl (by simp only [List.length_cons]; omega) ho kk
theorem z_astore_3 {v0 v1 v2 : Option Value} {w : Option Value} {r : List (Option Value)} {x : Nat} (hd : In cc pc (.astore_n 3) 1 pc') (ho : ok1 [v2] 1 = true) (kk : Z G X cc own n h k1 k2 pc' (v0 :: v1 :: v2 :: some (.ref x) :: r) (st)) : Z G X cc own n h k1 k2 pc (v0 :: v1 :: v2 :: w :: r) (.ref x :: st) := z_astoreG 3 hd rfl (by simp only [List.length_cons]; omega) ho kk
theorem z_lstore_3 {v0 v1 v2 : Option Value} {w w2 : Option Value} {r : List (Option Value)} {x : Int64} (hd : In cc pc (.lstore_n 3) 1 pc') (ho : ok1 [v2] 1 = true) (kk : Z G X cc own n h k1 k2 pc' (v0 :: v1 :: v2 :: some (.long x) :: none :: r) (st)) : Z G X cc own n h k1 k2 pc (v0 :: v1 :: v2 :: w :: w2 :: r) (.long x :: st) := z_lstoreG 3 hd rfl (by simp only [List.length_cons]; omega) ho kk
theorem z_iinc_3 {v0 v1 v2 : Option Value} {r : List (Option Value)} {x : Int32} {d : Int} (hd : In cc pc (.iinc 3 d) 3 pc') (ho : ok1 [v2] 1 = true) (kk : Z G X cc own n h k1 k2 pc' (v0 :: v1 :: v2 :: some (.int (x + Int32.ofInt d)) :: r) (st)) : Z G X cc own n h k1 k2 pc (v0 :: v1 :: v2 :: some (.int x) :: r) (st) := z_iincG 3 hd rfl rfl rfl ho kk
theorem z_iinc_3N {v0 v1 v2 : Option Value} {r : List (Option Value)} {a : Nat} (hd : In cc pc (.iinc 3 1) 3 pc') (ho : ok1 [v2] 1 = true) (kk : Z G X cc own n h k1 k2 pc' (v0 :: v1 :: v2 :: some (.int (nI (a + 1))) :: r) (st)) : Z G X cc own n h k1 k2 pc (v0 :: v1 :: v2 :: some (.int (nI a)) :: r) (st) := z_iincG 3 hd rfl (nI_1 a) rfl ho kk
theorem z_iload_4 {v0 v1 v2 v3 : Option Value} {r : List (Option Value)} {x : Int32} (hd : In cc pc (.iload 4) 2 pc') (kk : Z G X cc own n h k1 k2 pc' (v0 :: v1 :: v2 :: v3 :: some (.int x) :: r) (.int x :: st)) : Z G X cc own n h k1 k2 pc (v0 :: v1 :: v2 :: v3 :: some (.int x) :: r) (st) := z_iloadH 4 hd rfl kk
theorem z_lload_4 {v0 v1 v2 v3 : Option Value} {r : List (Option Value)} {x : Int64} (hd : In cc pc (.lload 4) 2 pc') (kk : Z G X cc own n h k1 k2 pc' (v0 :: v1 :: v2 :: v3 :: some (.long x) :: r) (.long x :: st)) : Z G X cc own n h k1 k2 pc (v0 :: v1 :: v2 :: v3 :: some (.long x) :: r) (st) := z_lloadH 4 hd rfl kk
theorem z_istore_4 {v0 v1 v2 v3 : Option Value} {w : Option Value} {r : List (Option Value)} {x : Int32} (hd : In cc pc (.istore 4) 2 pc') (ho : ok1 [v3] 1 = true) (kk : Z G X cc own n h k1 k2 pc' (v0 :: v1 :: v2 :: v3 :: some (.int x) :: r) (st)) : Z G X cc own n h k1 k2 pc (v0 :: v1 :: v2 :: v3 :: w :: r) (.int x :: st) := z_istoreH 4 hd rfl (by simp only [List.length_cons]; omega) ho kk
theorem z_iinc_4 {v0 v1 v2 v3 : Option Value} {r : List (Option Value)} {x : Int32} {d : Int} (hd : In cc pc (.iinc 4 d) 3 pc') (ho : ok1 [v3] 1 = true) (kk : Z G X cc own n h k1 k2 pc' (v0 :: v1 :: v2 :: v3 :: some (.int (x + Int32.ofInt d)) :: r) (st)) : Z G X cc own n h k1 k2 pc (v0 :: v1 :: v2 :: v3 :: some (.int x) :: r) (st) := z_iincG 4 hd rfl rfl rfl ho kk
theorem z_iinc_4N {v0 v1 v2 v3 : Option Value} {r : List (Option Value)} {a : Nat} (hd : In cc pc (.iinc 4 1) 3 pc') (ho : ok1 [v3] 1 = true) (kk : Z G X cc own n h k1 k2 pc' (v0 :: v1 :: v2 :: v3 :: some (.int (nI (a + 1))) :: r) (st)) : Z G X cc own n h k1 k2 pc (v0 :: v1 :: v2 :: v3 :: some (.int (nI a)) :: r) (st) := z_iincG 4 hd rfl (nI_1 a) rfl ho kk
theorem z_iload_5 {v0 v1 v2 v3 v4 : Option Value} {r : List (Option Value)} {x : Int32} (hd : In cc pc (.iload 5) 2 pc') (kk : Z G X cc own n h k1 k2 pc' (v0 :: v1 :: v2 :: v3 :: v4 :: some (.int x) :: r) (.int x :: st)) : Z G X cc own n h k1 k2 pc (v0 :: v1 :: v2 :: v3 :: v4 :: some (.int x) :: r) (st) := z_iloadH 5 hd rfl kk
theorem z_lload_5 {v0 v1 v2 v3 v4 : Option Value} {r : List (Option Value)} {x : Int64} (hd : In cc pc (.lload 5) 2 pc') (kk : Z G X cc own n h k1 k2 pc' (v0 :: v1 :: v2 :: v3 :: v4 :: some (.long x) :: r) (.long x :: st)) : Z G X cc own n h k1 k2 pc (v0 :: v1 :: v2 :: v3 :: v4 :: some (.long x) :: r) (st) := z_lloadH 5 hd rfl kk
theorem z_istore_5 {v0 v1 v2 v3 v4 : Option Value} {w : Option Value} {r : List (Option Value)} {x : Int32} (hd : In cc pc (.istore 5) 2 pc') (ho : ok1 [v4] 1 = true) (kk : Z G X cc own n h k1 k2 pc' (v0 :: v1 :: v2 :: v3 :: v4 :: some (.int x) :: r) (st)) : Z G X cc own n h k1 k2 pc (v0 :: v1 :: v2 :: v3 :: v4 :: w :: r) (.int x :: st) := z_istoreH 5 hd rfl (by simp only [List.length_cons]; omega) ho kk
theorem z_iinc_5 {v0 v1 v2 v3 v4 : Option Value} {r : List (Option Value)} {x : Int32} {d : Int} (hd : In cc pc (.iinc 5 d) 3 pc') (ho : ok1 [v4] 1 = true) (kk : Z G X cc own n h k1 k2 pc' (v0 :: v1 :: v2 :: v3 :: v4 :: some (.int (x + Int32.ofInt d)) :: r) (st)) : Z G X cc own n h k1 k2 pc (v0 :: v1 :: v2 :: v3 :: v4 :: some (.int x) :: r) (st) := z_iincG 5 hd rfl rfl rfl ho kk
theorem z_iinc_5N {v0 v1 v2 v3 v4 : Option Value} {r : List (Option Value)} {a : Nat} (hd : In cc pc (.iinc 5 1) 3 pc') (ho : ok1 [v4] 1 = true) (kk : Z G X cc own n h k1 k2 pc' (v0 :: v1 :: v2 :: v3 :: v4 :: some (.int (nI (a + 1))) :: r) (st)) : Z G X cc own n h k1 k2 pc (v0 :: v1 :: v2 :: v3 :: v4 :: some (.int (nI a)) :: r) (st) := z_iincG 5 hd rfl (nI_1 a) rfl ho kk
theorem z_iload_6 {v0 v1 v2 v3 v4 v5 : Option Value} {r : List (Option Value)} {x : Int32} (hd : In cc pc (.iload 6) 2 pc') (kk : Z G X cc own n h k1 k2 pc' (v0 :: v1 :: v2 :: v3 :: v4 :: v5 :: some (.int x) :: r) (.int x :: st)) : Z G X cc own n h k1 k2 pc (v0 :: v1 :: v2 :: v3 :: v4 :: v5 :: some (.int x) :: r) (st) := z_iloadH 6 hd rfl kk
theorem z_lload_6 {v0 v1 v2 v3 v4 v5 : Option Value} {r : List (Option Value)} {x : Int64} (hd : In cc pc (.lload 6) 2 pc') (kk : Z G X cc own n h k1 k2 pc' (v0 :: v1 :: v2 :: v3 :: v4 :: v5 :: some (.long x) :: r) (.long x :: st)) : Z G X cc own n h k1 k2 pc (v0 :: v1 :: v2 :: v3 :: v4 :: v5 :: some (.long x) :: r) (st) := z_lloadH 6 hd rfl kk
theorem z_istore_6 {v0 v1 v2 v3 v4 v5 : Option Value} {w : Option Value} {r : List (Option Value)} {x : Int32} (hd : In cc pc (.istore 6) 2 pc') (ho : ok1 [v5] 1 = true) (kk : Z G X cc own n h k1 k2 pc' (v0 :: v1 :: v2 :: v3 :: v4 :: v5 :: some (.int x) :: r) (st)) : Z G X cc own n h k1 k2 pc (v0 :: v1 :: v2 :: v3 :: v4 :: v5 :: w :: r) (.int x :: st) := z_istoreH 6 hd rfl (by simp only [List.length_cons]; omega) ho kk
theorem z_iinc_6 {v0 v1 v2 v3 v4 v5 : Option Value} {r : List (Option Value)} {x : Int32} {d : Int} (hd : In cc pc (.iinc 6 d) 3 pc') (ho : ok1 [v5] 1 = true) (kk : Z G X cc own n h k1 k2 pc' (v0 :: v1 :: v2 :: v3 :: v4 :: v5 :: some (.int (x + Int32.ofInt d)) :: r) (st)) : Z G X cc own n h k1 k2 pc (v0 :: v1 :: v2 :: v3 :: v4 :: v5 :: some (.int x) :: r) (st) := z_iincG 6 hd rfl rfl rfl ho kk
theorem z_iinc_6N {v0 v1 v2 v3 v4 v5 : Option Value} {r : List (Option Value)} {a : Nat} (hd : In cc pc (.iinc 6 1) 3 pc') (ho : ok1 [v5] 1 = true) (kk : Z G X cc own n h k1 k2 pc' (v0 :: v1 :: v2 :: v3 :: v4 :: v5 :: some (.int (nI (a + 1))) :: r) (st)) : Z G X cc own n h k1 k2 pc (v0 :: v1 :: v2 :: v3 :: v4 :: v5 :: some (.int (nI a)) :: r) (st) := z_iincG 6 hd rfl (nI_1 a) rfl ho kk
theorem z_iload_7 {v0 v1 v2 v3 v4 v5 v6 : Option Value} {r : List (Option Value)} {x : Int32} (hd : In cc pc (.iload 7) 2 pc') (kk : Z G X cc own n h k1 k2 pc' (v0 :: v1 :: v2 :: v3 :: v4 :: v5 :: v6 :: some (.int x) :: r) (.int x :: st)) : Z G X cc own n h k1 k2 pc (v0 :: v1 :: v2 :: v3 :: v4 :: v5 :: v6 :: some (.int x) :: r) (st) := z_iloadH 7 hd rfl kk
theorem z_lload_7 {v0 v1 v2 v3 v4 v5 v6 : Option Value} {r : List (Option Value)} {x : Int64} (hd : In cc pc (.lload 7) 2 pc') (kk : Z G X cc own n h k1 k2 pc' (v0 :: v1 :: v2 :: v3 :: v4 :: v5 :: v6 :: some (.long x) :: r) (.long x :: st)) : Z G X cc own n h k1 k2 pc (v0 :: v1 :: v2 :: v3 :: v4 :: v5 :: v6 :: some (.long x) :: r) (st) := z_lloadH 7 hd rfl kk
theorem z_istore_7 {v0 v1 v2 v3 v4 v5 v6 : Option Value} {w : Option Value} {r : List (Option Value)} {x : Int32} (hd : In cc pc (.istore 7) 2 pc') (ho : ok1 [v6] 1 = true) (kk : Z G X cc own n h k1 k2 pc' (v0 :: v1 :: v2 :: v3 :: v4 :: v5 :: v6 :: some (.int x) :: r) (st)) : Z G X cc own n h k1 k2 pc (v0 :: v1 :: v2 :: v3 :: v4 :: v5 :: v6 :: w :: r) (.int x :: st) := z_istoreH 7 hd rfl (by simp only [List.length_cons]; omega) ho kk
theorem z_iinc_7 {v0 v1 v2 v3 v4 v5 v6 : Option Value} {r : List (Option Value)} {x : Int32} {d : Int} (hd : In cc pc (.iinc 7 d) 3 pc') (ho : ok1 [v6] 1 = true) (kk : Z G X cc own n h k1 k2 pc' (v0 :: v1 :: v2 :: v3 :: v4 :: v5 :: v6 :: some (.int (x + Int32.ofInt d)) :: r) (st)) : Z G X cc own n h k1 k2 pc (v0 :: v1 :: v2 :: v3 :: v4 :: v5 :: v6 :: some (.int x) :: r) (st) := z_iincG 7 hd rfl rfl rfl ho kk
theorem z_iinc_7N {v0 v1 v2 v3 v4 v5 v6 : Option Value} {r : List (Option Value)} {a : Nat} (hd : In cc pc (.iinc 7 1) 3 pc') (ho : ok1 [v6] 1 = true) (kk : Z G X cc own n h k1 k2 pc' (v0 :: v1 :: v2 :: v3 :: v4 :: v5 :: v6 :: some (.int (nI (a + 1))) :: r) (st)) : Z G X cc own n h k1 k2 pc (v0 :: v1 :: v2 :: v3 :: v4 :: v5 :: v6 :: some (.int (nI a)) :: r) (st) := z_iincG 7 hd rfl (nI_1 a) rfl ho kk
theorem z_iload_8 {v0 v1 v2 v3 v4 v5 v6 v7 : Option Value} {r : List (Option Value)} {x : Int32} (hd : In cc pc (.iload 8) 2 pc') (kk : Z G X cc own n h k1 k2 pc' (v0 :: v1 :: v2 :: v3 :: v4 :: v5 :: v6 :: v7 :: some (.int x) :: r) (.int x :: st)) : Z G X cc own n h k1 k2 pc (v0 :: v1 :: v2 :: v3 :: v4 :: v5 :: v6 :: v7 :: some (.int x) :: r) (st) := z_iloadH 8 hd rfl kk
theorem z_lload_8 {v0 v1 v2 v3 v4 v5 v6 v7 : Option Value} {r : List (Option Value)} {x : Int64} (hd : In cc pc (.lload 8) 2 pc') (kk : Z G X cc own n h k1 k2 pc' (v0 :: v1 :: v2 :: v3 :: v4 :: v5 :: v6 :: v7 :: some (.long x) :: r) (.long x :: st)) : Z G X cc own n h k1 k2 pc (v0 :: v1 :: v2 :: v3 :: v4 :: v5 :: v6 :: v7 :: some (.long x) :: r) (st) := z_lloadH 8 hd rfl kk
theorem z_istore_8 {v0 v1 v2 v3 v4 v5 v6 v7 : Option Value} {w : Option Value} {r : List (Option Value)} {x : Int32} (hd : In cc pc (.istore 8) 2 pc') (ho : ok1 [v7] 1 = true) (kk : Z G X cc own n h k1 k2 pc' (v0 :: v1 :: v2 :: v3 :: v4 :: v5 :: v6 :: v7 :: some (.int x) :: r) (st)) : Z G X cc own n h k1 k2 pc (v0 :: v1 :: v2 :: v3 :: v4 :: v5 :: v6 :: v7 :: w :: r) (.int x :: st) := z_istoreH 8 hd rfl (by simp only [List.length_cons]; omega) ho kk
theorem z_iinc_8 {v0 v1 v2 v3 v4 v5 v6 v7 : Option Value} {r : List (Option Value)} {x : Int32} {d : Int} (hd : In cc pc (.iinc 8 d) 3 pc') (ho : ok1 [v7] 1 = true) (kk : Z G X cc own n h k1 k2 pc' (v0 :: v1 :: v2 :: v3 :: v4 :: v5 :: v6 :: v7 :: some (.int (x + Int32.ofInt d)) :: r) (st)) : Z G X cc own n h k1 k2 pc (v0 :: v1 :: v2 :: v3 :: v4 :: v5 :: v6 :: v7 :: some (.int x) :: r) (st) := z_iincG 8 hd rfl rfl rfl ho kk
theorem z_iinc_8N {v0 v1 v2 v3 v4 v5 v6 v7 : Option Value} {r : List (Option Value)} {a : Nat} (hd : In cc pc (.iinc 8 1) 3 pc') (ho : ok1 [v7] 1 = true) (kk : Z G X cc own n h k1 k2 pc' (v0 :: v1 :: v2 :: v3 :: v4 :: v5 :: v6 :: v7 :: some (.int (nI (a + 1))) :: r) (st)) : Z G X cc own n h k1 k2 pc (v0 :: v1 :: v2 :: v3 :: v4 :: v5 :: v6 :: v7 :: some (.int (nI a)) :: r) (st) := z_iincG 8 hd rfl (nI_1 a) rfl ho kk
theorem z_iload_9 {v0 v1 v2 v3 v4 v5 v6 v7 v8 : Option Value} {r : List (Option Value)} {x : Int32} (hd : In cc pc (.iload 9) 2 pc') (kk : Z G X cc own n h k1 k2 pc' (v0 :: v1 :: v2 :: v3 :: v4 :: v5 :: v6 :: v7 :: v8 :: some (.int x) :: r) (.int x :: st)) : Z G X cc own n h k1 k2 pc (v0 :: v1 :: v2 :: v3 :: v4 :: v5 :: v6 :: v7 :: v8 :: some (.int x) :: r) (st) := z_iloadH 9 hd rfl kk
theorem z_lload_9 {v0 v1 v2 v3 v4 v5 v6 v7 v8 : Option Value} {r : List (Option Value)} {x : Int64} (hd : In cc pc (.lload 9) 2 pc') (kk : Z G X cc own n h k1 k2 pc' (v0 :: v1 :: v2 :: v3 :: v4 :: v5 :: v6 :: v7 :: v8 :: some (.long x) :: r) (.long x :: st)) : Z G X cc own n h k1 k2 pc (v0 :: v1 :: v2 :: v3 :: v4 :: v5 :: v6 :: v7 :: v8 :: some (.long x) :: r) (st) := z_lloadH 9 hd rfl kk
theorem z_istore_9 {v0 v1 v2 v3 v4 v5 v6 v7 v8 : Option Value} {w : Option Value} {r : List (Option Value)} {x : Int32} (hd : In cc pc (.istore 9) 2 pc') (ho : ok1 [v8] 1 = true) (kk : Z G X cc own n h k1 k2 pc' (v0 :: v1 :: v2 :: v3 :: v4 :: v5 :: v6 :: v7 :: v8 :: some (.int x) :: r) (st)) : Z G X cc own n h k1 k2 pc (v0 :: v1 :: v2 :: v3 :: v4 :: v5 :: v6 :: v7 :: v8 :: w :: r) (.int x :: st) := z_istoreH 9 hd rfl (by simp only [List.length_cons]; omega) ho kk
theorem z_iinc_9 {v0 v1 v2 v3 v4 v5 v6 v7 v8 : Option Value} {r : List (Option Value)} {x : Int32} {d : Int} (hd : In cc pc (.iinc 9 d) 3 pc') (ho : ok1 [v8] 1 = true) (kk : Z G X cc own n h k1 k2 pc' (v0 :: v1 :: v2 :: v3 :: v4 :: v5 :: v6 :: v7 :: v8 :: some (.int (x + Int32.ofInt d)) :: r) (st)) : Z G X cc own n h k1 k2 pc (v0 :: v1 :: v2 :: v3 :: v4 :: v5 :: v6 :: v7 :: v8 :: some (.int x) :: r) (st) := z_iincG 9 hd rfl rfl rfl ho kk
theorem z_iinc_9N {v0 v1 v2 v3 v4 v5 v6 v7 v8 : Option Value} {r : List (Option Value)} {a : Nat} (hd : In cc pc (.iinc 9 1) 3 pc') (ho : ok1 [v8] 1 = true) (kk : Z G X cc own n h k1 k2 pc' (v0 :: v1 :: v2 :: v3 :: v4 :: v5 :: v6 :: v7 :: v8 :: some (.int (nI (a + 1))) :: r) (st)) : Z G X cc own n h k1 k2 pc (v0 :: v1 :: v2 :: v3 :: v4 :: v5 :: v6 :: v7 :: v8 :: some (.int (nI a)) :: r) (st) := z_iincG 9 hd rfl (nI_1 a) rfl ho kk
theorem z_iload_10 {v0 v1 v2 v3 v4 v5 v6 v7 v8 v9 : Option Value} {r : List (Option Value)} {x : Int32} (hd : In cc pc (.iload 10) 2 pc') (kk : Z G X cc own n h k1 k2 pc' (v0 :: v1 :: v2 :: v3 :: v4 :: v5 :: v6 :: v7 :: v8 :: v9 :: some (.int x) :: r) (.int x :: st)) : Z G X cc own n h k1 k2 pc (v0 :: v1 :: v2 :: v3 :: v4 :: v5 :: v6 :: v7 :: v8 :: v9 :: some (.int x) :: r) (st) := z_iloadH 10 hd rfl kk
theorem z_lload_10 {v0 v1 v2 v3 v4 v5 v6 v7 v8 v9 : Option Value} {r : List (Option Value)} {x : Int64} (hd : In cc pc (.lload 10) 2 pc') (kk : Z G X cc own n h k1 k2 pc' (v0 :: v1 :: v2 :: v3 :: v4 :: v5 :: v6 :: v7 :: v8 :: v9 :: some (.long x) :: r) (.long x :: st)) : Z G X cc own n h k1 k2 pc (v0 :: v1 :: v2 :: v3 :: v4 :: v5 :: v6 :: v7 :: v8 :: v9 :: some (.long x) :: r) (st) := z_lloadH 10 hd rfl kk
theorem z_istore_10 {v0 v1 v2 v3 v4 v5 v6 v7 v8 v9 : Option Value} {w : Option Value} {r : List (Option Value)} {x : Int32} (hd : In cc pc (.istore 10) 2 pc') (ho : ok1 [v9] 1 = true) (kk : Z G X cc own n h k1 k2 pc' (v0 :: v1 :: v2 :: v3 :: v4 :: v5 :: v6 :: v7 :: v8 :: v9 :: some (.int x) :: r) (st)) : Z G X cc own n h k1 k2 pc (v0 :: v1 :: v2 :: v3 :: v4 :: v5 :: v6 :: v7 :: v8 :: v9 :: w :: r) (.int x :: st) := z_istoreH 10 hd rfl (by simp only [List.length_cons]; omega) ho kk
theorem z_iinc_10 {v0 v1 v2 v3 v4 v5 v6 v7 v8 v9 : Option Value} {r : List (Option Value)} {x : Int32} {d : Int} (hd : In cc pc (.iinc 10 d) 3 pc') (ho : ok1 [v9] 1 = true) (kk : Z G X cc own n h k1 k2 pc' (v0 :: v1 :: v2 :: v3 :: v4 :: v5 :: v6 :: v7 :: v8 :: v9 :: some (.int (x + Int32.ofInt d)) :: r) (st)) : Z G X cc own n h k1 k2 pc (v0 :: v1 :: v2 :: v3 :: v4 :: v5 :: v6 :: v7 :: v8 :: v9 :: some (.int x) :: r) (st) := z_iincG 10 hd rfl rfl rfl ho kk
theorem z_iinc_10N {v0 v1 v2 v3 v4 v5 v6 v7 v8 v9 : Option Value} {r : List (Option Value)} {a : Nat} (hd : In cc pc (.iinc 10 1) 3 pc') (ho : ok1 [v9] 1 = true) (kk : Z G X cc own n h k1 k2 pc' (v0 :: v1 :: v2 :: v3 :: v4 :: v5 :: v6 :: v7 :: v8 :: v9 :: some (.int (nI (a + 1))) :: r) (st)) : Z G X cc own n h k1 k2 pc (v0 :: v1 :: v2 :: v3 :: v4 :: v5 :: v6 :: v7 :: v8 :: v9 :: some (.int (nI a)) :: r) (st) := z_iincG 10 hd rfl (nI_1 a) rfl ho kk
theorem z_iload_11 {v0 v1 v2 v3 v4 v5 v6 v7 v8 v9 v10 : Option Value} {r : List (Option Value)} {x : Int32} (hd : In cc pc (.iload 11) 2 pc') (kk : Z G X cc own n h k1 k2 pc' (v0 :: v1 :: v2 :: v3 :: v4 :: v5 :: v6 :: v7 :: v8 :: v9 :: v10 :: some (.int x) :: r) (.int x :: st)) : Z G X cc own n h k1 k2 pc (v0 :: v1 :: v2 :: v3 :: v4 :: v5 :: v6 :: v7 :: v8 :: v9 :: v10 :: some (.int x) :: r) (st) := z_iloadH 11 hd rfl kk
theorem z_lload_11 {v0 v1 v2 v3 v4 v5 v6 v7 v8 v9 v10 : Option Value} {r : List (Option Value)} {x : Int64} (hd : In cc pc (.lload 11) 2 pc') (kk : Z G X cc own n h k1 k2 pc' (v0 :: v1 :: v2 :: v3 :: v4 :: v5 :: v6 :: v7 :: v8 :: v9 :: v10 :: some (.long x) :: r) (.long x :: st)) : Z G X cc own n h k1 k2 pc (v0 :: v1 :: v2 :: v3 :: v4 :: v5 :: v6 :: v7 :: v8 :: v9 :: v10 :: some (.long x) :: r) (st) := z_lloadH 11 hd rfl kk
theorem z_istore_11 {v0 v1 v2 v3 v4 v5 v6 v7 v8 v9 v10 : Option Value} {w : Option Value} {r : List (Option Value)} {x : Int32} (hd : In cc pc (.istore 11) 2 pc') (ho : ok1 [v10] 1 = true) (kk : Z G X cc own n h k1 k2 pc' (v0 :: v1 :: v2 :: v3 :: v4 :: v5 :: v6 :: v7 :: v8 :: v9 :: v10 :: some (.int x) :: r) (st)) : Z G X cc own n h k1 k2 pc (v0 :: v1 :: v2 :: v3 :: v4 :: v5 :: v6 :: v7 :: v8 :: v9 :: v10 :: w :: r) (.int x :: st) := z_istoreH 11 hd rfl (by simp only [List.length_cons]; omega) ho kk
theorem z_iinc_11 {v0 v1 v2 v3 v4 v5 v6 v7 v8 v9 v10 : Option Value} {r : List (Option Value)} {x : Int32} {d : Int} (hd : In cc pc (.iinc 11 d) 3 pc') (ho : ok1 [v10] 1 = true) (kk : Z G X cc own n h k1 k2 pc' (v0 :: v1 :: v2 :: v3 :: v4 :: v5 :: v6 :: v7 :: v8 :: v9 :: v10 :: some (.int (x + Int32.ofInt d)) :: r) (st)) : Z G X cc own n h k1 k2 pc (v0 :: v1 :: v2 :: v3 :: v4 :: v5 :: v6 :: v7 :: v8 :: v9 :: v10 :: some (.int x) :: r) (st) := z_iincG 11 hd rfl rfl rfl ho kk
theorem z_iinc_11N {v0 v1 v2 v3 v4 v5 v6 v7 v8 v9 v10 : Option Value} {r : List (Option Value)} {a : Nat} (hd : In cc pc (.iinc 11 1) 3 pc') (ho : ok1 [v10] 1 = true) (kk : Z G X cc own n h k1 k2 pc' (v0 :: v1 :: v2 :: v3 :: v4 :: v5 :: v6 :: v7 :: v8 :: v9 :: v10 :: some (.int (nI (a + 1))) :: r) (st)) : Z G X cc own n h k1 k2 pc (v0 :: v1 :: v2 :: v3 :: v4 :: v5 :: v6 :: v7 :: v8 :: v9 :: v10 :: some (.int (nI a)) :: r) (st) := z_iincG 11 hd rfl (nI_1 a) rfl ho kk
theorem z_iload_12 {v0 v1 v2 v3 v4 v5 v6 v7 v8 v9 v10 v11 : Option Value} {r : List (Option Value)} {x : Int32} (hd : In cc pc (.iload 12) 2 pc') (kk : Z G X cc own n h k1 k2 pc' (v0 :: v1 :: v2 :: v3 :: v4 :: v5 :: v6 :: v7 :: v8 :: v9 :: v10 :: v11 :: some (.int x) :: r) (.int x :: st)) : Z G X cc own n h k1 k2 pc (v0 :: v1 :: v2 :: v3 :: v4 :: v5 :: v6 :: v7 :: v8 :: v9 :: v10 :: v11 :: some (.int x) :: r) (st) := z_iloadH 12 hd rfl kk
theorem z_lload_12 {v0 v1 v2 v3 v4 v5 v6 v7 v8 v9 v10 v11 : Option Value} {r : List (Option Value)} {x : Int64} (hd : In cc pc (.lload 12) 2 pc') (kk : Z G X cc own n h k1 k2 pc' (v0 :: v1 :: v2 :: v3 :: v4 :: v5 :: v6 :: v7 :: v8 :: v9 :: v10 :: v11 :: some (.long x) :: r) (.long x :: st)) : Z G X cc own n h k1 k2 pc (v0 :: v1 :: v2 :: v3 :: v4 :: v5 :: v6 :: v7 :: v8 :: v9 :: v10 :: v11 :: some (.long x) :: r) (st) := z_lloadH 12 hd rfl kk
theorem z_istore_12 {v0 v1 v2 v3 v4 v5 v6 v7 v8 v9 v10 v11 : Option Value} {w : Option Value} {r : List (Option Value)} {x : Int32} (hd : In cc pc (.istore 12) 2 pc') (ho : ok1 [v11] 1 = true) (kk : Z G X cc own n h k1 k2 pc' (v0 :: v1 :: v2 :: v3 :: v4 :: v5 :: v6 :: v7 :: v8 :: v9 :: v10 :: v11 :: some (.int x) :: r) (st)) : Z G X cc own n h k1 k2 pc (v0 :: v1 :: v2 :: v3 :: v4 :: v5 :: v6 :: v7 :: v8 :: v9 :: v10 :: v11 :: w :: r) (.int x :: st) := z_istoreH 12 hd rfl (by simp only [List.length_cons]; omega) ho kk
theorem z_iinc_12 {v0 v1 v2 v3 v4 v5 v6 v7 v8 v9 v10 v11 : Option Value} {r : List (Option Value)} {x : Int32} {d : Int} (hd : In cc pc (.iinc 12 d) 3 pc') (ho : ok1 [v11] 1 = true) (kk : Z G X cc own n h k1 k2 pc' (v0 :: v1 :: v2 :: v3 :: v4 :: v5 :: v6 :: v7 :: v8 :: v9 :: v10 :: v11 :: some (.int (x + Int32.ofInt d)) :: r) (st)) : Z G X cc own n h k1 k2 pc (v0 :: v1 :: v2 :: v3 :: v4 :: v5 :: v6 :: v7 :: v8 :: v9 :: v10 :: v11 :: some (.int x) :: r) (st) := z_iincG 12 hd rfl rfl rfl ho kk
theorem z_iinc_12N {v0 v1 v2 v3 v4 v5 v6 v7 v8 v9 v10 v11 : Option Value} {r : List (Option Value)} {a : Nat} (hd : In cc pc (.iinc 12 1) 3 pc') (ho : ok1 [v11] 1 = true) (kk : Z G X cc own n h k1 k2 pc' (v0 :: v1 :: v2 :: v3 :: v4 :: v5 :: v6 :: v7 :: v8 :: v9 :: v10 :: v11 :: some (.int (nI (a + 1))) :: r) (st)) : Z G X cc own n h k1 k2 pc (v0 :: v1 :: v2 :: v3 :: v4 :: v5 :: v6 :: v7 :: v8 :: v9 :: v10 :: v11 :: some (.int (nI a)) :: r) (st) := z_iincG 12 hd rfl (nI_1 a) rfl ho kk
end ZR
end
section
/-! THE FRAME, heap and calls -/
def cT (ci : Nat) : vw_C := vwCl.getD ci ("", fun _ => ("", "", "", false), 0)
def cTy (ci : Nat) : Nat → FieldType := match ci with
  | 0 => tyX0 | 1 => tyX1 | 2 => tyX2 | 3 => tyX3 | 4 => tyX4 | 5 => tyX5 | 6 => tyX6 | 7 => tyX7 | 8 => tyX8 | 9 => tyX9 | 10 => tyX10 | _ => tyX11
/-- what is known of a class -/
def qCl (ci : Nat) : Prop := vwCl[ci]? = some (cT ci) ∧ (∀ w ∈ u_ws (cT ci).1 (cT ci).2.1 (cT ci).2.2, w ∈ lw_gd) ∧ (∀ k, k < (cT ci).2.2 → parseFieldDescriptor ((cT ci).2.1 k).2.2.1 = some (cTy ci k)) ∧ (∀ a, a < (cT ci).2.2 → ∀ b, b < (cT ci).2.2 → a ≠ b → ((cT ci).2.1 a).2.1 ≠ ((cT ci).2.1 b).2.1) ∧ Cond.instantiable (cT ci).1 (cT ci).2.2 ∈ lw_gd ∧ Cond.initialized (cT ci).1 ∈ lw_gd
theorem qin_0 : ∀ w ∈ u_ws RX0 TX0 2, w ∈ lw_gd := by decide +kernel
theorem qin_1 : ∀ w ∈ u_ws RX1 TX1 4, w ∈ lw_gd := by decide +kernel
theorem qin_2 : ∀ w ∈ u_ws RX2 TX2 6, w ∈ lw_gd := by decide +kernel
theorem qin_3 : ∀ w ∈ u_ws RX3 TX3 6, w ∈ lw_gd := by decide +kernel
theorem qin_4 : ∀ w ∈ u_ws RX4 TX4 2, w ∈ lw_gd := by decide +kernel
theorem qin_5 : ∀ w ∈ u_ws RX5 TX5 4, w ∈ lw_gd := by decide +kernel
theorem qin_6 : ∀ w ∈ u_ws RX6 TX6 3, w ∈ lw_gd := by decide +kernel
theorem qin_7 : ∀ w ∈ u_ws RX7 TX7 5, w ∈ lw_gd := by decide +kernel
theorem qin_8 : ∀ w ∈ u_ws RX8 TX8 4, w ∈ lw_gd := by decide +kernel
theorem qin_9 : ∀ w ∈ u_ws RX9 TX9 7, w ∈ lw_gd := by decide +kernel
theorem qin_10 : ∀ w ∈ u_ws RX10 TX10 15, w ∈ lw_gd := by decide +kernel
theorem qin_11 : ∀ w ∈ u_ws RX11 TX11 32, w ∈ lw_gd := by decide +kernel
theorem q_cls : ∀ ci, ci < 12 → qCl ci := by
  intro ci h
  match ci, h with
  | 0, _ => exact ⟨rfl, qin_0, tyX0_ok, nmX0, by decide +kernel, by decide +kernel⟩
  | 1, _ => exact ⟨rfl, qin_1, tyX1_ok, nmX1, by decide +kernel, by decide +kernel⟩
  | 2, _ => exact ⟨rfl, qin_2, tyX2_ok, nmX2, by decide +kernel, by decide +kernel⟩
  | 3, _ => exact ⟨rfl, qin_3, tyX3_ok, nmX3, by decide +kernel, by decide +kernel⟩
  | 4, _ => exact ⟨rfl, qin_4, tyX4_ok, nmX4, by decide +kernel, by decide +kernel⟩
  | 5, _ => exact ⟨rfl, qin_5, tyX5_ok, nmX5, by decide +kernel, by decide +kernel⟩
  | 6, _ => exact ⟨rfl, qin_6, tyX6_ok, nmX6, by decide +kernel, by decide +kernel⟩
  | 7, _ => exact ⟨rfl, qin_7, tyX7_ok, nmX7, by decide +kernel, by decide +kernel⟩
  | 8, _ => exact ⟨rfl, qin_8, tyX8_ok, nmX8, by decide +kernel, by decide +kernel⟩
  | 9, _ => exact ⟨rfl, qin_9, tyX9_ok, nmX9, by decide +kernel, by decide +kernel⟩
  | 10, _ => exact ⟨rfl, qin_10, tyX10_ok, nmX10, by decide +kernel, by decide +kernel⟩
  | 11, _ => exact ⟨rfl, qin_11, tyX11_ok, nmX11, by decide +kernel, by decide +kernel⟩
/-- field k of class ci, by entry idx of own's pool -/
def qLk (own : String) (idx ci k : Nat) : Prop := ci < 12 ∧ k < (cT ci).2.2 ∧ Cond.fieldLink own idx (cT ci).1 ((cT ci).2.1 k).2.1 ((cT ci).2.1 k).2.2.1 ∈ lw_gd ∧ ((cT ci).2.1 k).1 = (cT ci).1
theorem q_up_eq {α : Type} (f : Nat → α) (k : Nat) (v : α) : va_up f k v k = v := if_pos rfl
theorem q_up_ne {α : Type} (f : Nat → α) {k j : Nat} (v : α) (h : j ≠ k) : va_up f k v j = f j := if_neg h
theorem HP.set {G : qG} {n a : Nat} {h : Nat → va_E} {H H1 : Heap} {e : va_E} (hH : HP G n h H) (he : va_at (qD G) vwCl (qB G + a, e) H1) (z : H1.size = H.size) (oq : ∀ q : Nat, q ≠ qB G + a → H1[q]? = H[q]?) : HP G n (va_up h a e) H1 := by
  refine ⟨z.trans hH.1, fun i hi => ?_, fun q hq => ?_⟩
  · by_cases hia : i = a
    · subst hia
      rw [q_up_eq]; exact he
    · rw [q_up_ne _ _ hia]
      exact (hH.2.1 i hi).kept (oq _ (by show qB G + i ≠ _; omega))
  · rw [oq q (by omega)]; exact hH.2.2 q hq
theorem HP.push {G : qG} {n : Nat} {h : Nat → va_E} {H H1 : Heap} {e : va_E} (hH : HP G n h H) (he : va_at (qD G) vwCl (qB G + n, e) H1) (z : H1.size = H.size + 1) (oq : ∀ q : Nat, q < H.size → H1[q]? = H[q]?) : HP G (n + 1) (va_up h n e) H1 := by
  have hz := hH.1
  refine ⟨by omega, fun i hi => ?_, fun q hq => ?_⟩
  · by_cases hia : i = n
    · subst hia
      rw [q_up_eq]; exact he
    · rw [q_up_ne _ _ hia]
      exact (hH.2.1 i (by omega)).kept (oq _ (by show qB G + i < _; omega))
  · rw [oq q (by omega)]; exact hH.2.2 q hq
theorem HP.at {G : qG} {n a : Nat} {h : Nat → va_E} {H : Heap} {e : va_E} (hH : HP G n h H) (ha : a < n) (he : h a = e) : va_P (qD G) vwCl [(qB G + a, e)] H := by
  intro k q hq
  have hk : k < 1 := (List.getElem?_eq_some_iff.mp hq).1
  rw [show k = 0 by omega] at hq
  cases hq
  subst he
  exact hH.2.1 a ha
section ZH
variable {G : qG} {X : qX} {cc : ByteArray} {own : String} {n : Nat} {h : Nat → va_E} {k1 k2 pc pc' : Nat} {vs : List (Option Value)} {st : List Value} {a : Nat}
theorem z_getG {idx ci k : Nat} {fs : List Value} {v : Value} (hd : In cc pc (.getfield idx) 3 pc') (hk : qLk own idx ci k) (ha : a < n) (he : h a = .inr (ci, fs)) (hv : fs[k]? = some v) (kk : Z G X cc own n h k1 k2 pc' vs (v :: st)) : Z G X cc own n h k1 k2 pc vs (.ref (qB G + a) :: st) := by
  intro hC H locs ls hH hS hL
  have k := kk hC H locs ls hH hS hL
  obtain ⟨p, l, e, R, s, m, args, below, meth, c, Q⟩ := X
  obtain ⟨hx, hb, hml, hown, hts, hal, hG, hsz⟩ := hC
  obtain ⟨hd, rfl⟩ := hd
  obtain ⟨hci, hkN, hlk, hsm⟩ := hk
  obtain ⟨c1, c2, c3, c4, -⟩ := q_cls ci hci
  exact va_get hx hb hts c2 hown (hG.1.moved hal) (hH.at ha he) 0 rfl c1 _ hkN (hts _ hlk) (fun x hx => by rw [hsm] at hx; exact hx) hv hd k
/-- a row that sets one cell -/
theorem Z.put {st' : List Value} {e1 : va_E} (f : ∀ (p : Program) (l : Launch) (e : Env) (R : Room) (s : State) (m : MethodId) (args : Array Value) (below : List Frame) (meth : Method) (c : Code) (Q : State → Prop) (H : Heap) (locs : List Loc) (ls : Array Slot), qC G (p, l, e, R, s, m, args, below, meth, c, Q) cc own vs.length → HP G n h H → ls.size = vs.length → (∀ (H1 : Heap) (locs1 : List Loc), va_at (qD G) vwCl (qB G + a, e1) H1 → H1.size = H.size → (∀ q : Nat, q ≠ qB G + a → H1[q]? = H[q]?) → (∀ q ∈ locs1, q ∈ locs ∨ q.base = qB G + a) → W p l e R s m args below meth c H1 locs1 k1 k2 Q (F0 m pc' ls st')) → W p l e R s m args below meth c H locs k1 k2 Q (F0 m pc ls st)) (kk : Z G X cc own n (va_up h a e1) k1 k2 pc' vs st') : Z G X cc own n h k1 k2 pc vs st := by
  intro hC H locs ls hH hS hL
  have k := fun H1 locs1 q1 q2 => kk hC H1 locs1 ls q1 q2 hL
  obtain ⟨p, l, e, R, s, m, args, below, meth, c, Q⟩ := X
  refine f p l e R s m args below meth c Q H locs ls hC hH hL.1 (fun H1 locs1 g1 g2 g3 g4 => k H1 locs1 (hH.set g1 g2 g3) ⟨?_, ?_, ?_⟩)
  · rw [g2]; exact hS.1
  · intro q q1 q2
    rw [g3 q (fun z => q2 (by rw [z]; exact Nat.le_add_right _ _))]
    exact hS.2.1 q q1 q2
  · intro q hq
    rcases g4 q hq with z | z
    · exact hS.2.2 q z
    · rw [z]; exact Nat.le_add_right _ _
theorem q_loc1 {locs : List Loc} {b i : Nat} : ∀ q ∈ locs ++ [(⟨b, i⟩ : Loc)], q ∈ locs ∨ q.base = b := fun q hq => (List.mem_append.mp hq).imp id (fun z => by rw [List.mem_singleton.mp z])
theorem z_putG {idx ci k : Nat} {fs : List Value} {v : Value} (hd : In cc pc (.putfield idx) 3 pc') (hk : qLk own idx ci k) (hfin : ((cT ci).2.1 k).2.2.2 = false) (ha : a < n) (he : h a = .inr (ci, fs)) (hl : k < fs.length) (hn : narrow (cTy ci k) v = v) (hfit : fits (cTy ci k) v = true) (kk : Z G X cc own n (va_up h a (.inr (ci, fs.set k v))) k1 k2 pc' vs st) : Z G X cc own n h k1 k2 pc vs (v :: .ref (qB G + a) :: st) := by
  obtain ⟨hd, rfl⟩ := hd
  obtain ⟨hci, hkN, hlk, hsm⟩ := hk
  obtain ⟨c1, c2, c3, c4, -⟩ := q_cls ci hci
  refine Z.put (fun p l e R s m args below meth c Q H locs ls hC hH _ kW => ?_) kk
  obtain ⟨hx, hb, hml, hown, hts, hal, hG, hsz⟩ := hC
  have hK := hG.1.moved hal
  have hap := va_apart (own := own) hts c2 (cTy ci) c3 c4 hK c1
  obtain ⟨r, h1, cell, q1, q2, q3, q4⟩ := (hH.at ha he) 0 _ rfl
  have hr : r = cT ci := Option.some.inj (h1.symm.trans c1)
  subst hr
  obtain ⟨hS, hfc, kC, hkC, hkind⟩ := hK.1 ci _ c1
  obtain ⟨cf, kf, fi, f, hi, hsl⟩ := hS k hkN
  have hlay := hts _ (c2 _ (u_in_lay hkN))
  unfold u_lay at hlay
  rw [if_neg (by rw [hfin]; decide)] at hlay
  have hst := (u_facts hfc hkC (u_lays hts c2 hkN) hi).1
  have h6 := u_store hfc hkC hkind hlay hi (c3 k hkN) hn hfit
  refine W.putK hx hb (f := f) ⟨hown, hts _ hlk, ⟨_, _, _, by rw [hsm] at hi; exact hi⟩, hst⟩ (by rw [q2]; exact h6) q1 q3 (by rw [hsl]; exact k2_hasslot (q4 k hkN)) rfl rfl hd fun H' e1 e2 e3 => ?_
  rw [hsl] at e1 ⊢
  exact kW H' _ ⟨_, c1, t_OB.to (V := updV (vp_V fs) k v) ⟨_, e1, q2, q3, t_set q4 hap hkN v⟩ (fun j _ => vp_updV_set hl v j)⟩ e2 e3 q_loc1
def qName (X : qX) : String := match X with
  | (_, _, _, _, _, _, _, _, meth, _, _) => meth.name
theorem z_putFG {idx ci k : Nat} {fs : List Value} {v : Value} (hN : qName X = "<init>") (hd : In cc pc (.putfield idx) 3 pc') (hk : qLk own idx ci k) (hfin : ((cT ci).2.1 k).2.2.2 = true) (ho : (cT ci).1 = own) (ha : a < n) (he : h a = .inr (ci, fs)) (hl : k < fs.length) (hn : narrow (cTy ci k) v = v) (hfit : fits (cTy ci k) v = true) (kk : Z G X cc own n (va_up h a (.inr (ci, fs.set k v))) k1 k2 pc' vs st) : Z G X cc own n h k1 k2 pc vs (v :: .ref (qB G + a) :: st) := by
  obtain ⟨hd, rfl⟩ := hd
  obtain ⟨hci, hkN, hlk, hsm⟩ := hk
  obtain ⟨c1, c2, c3, c4, -⟩ := q_cls ci hci
  intro hC H locs ls hH hS0 hL
  have k9 := fun H1 locs1 q1 q2 => kk hC H1 locs1 ls q1 q2 hL
  obtain ⟨p, l, e, R, s, m, args, below, meth, c, Q⟩ := X
  obtain ⟨hx, hb, hml, hown, hts, hal, hG, hsz⟩ := hC
  have hin2 : meth.name = "<init>" := hN
  have hK := hG.1.moved hal
  have hap := va_apart (own := own) hts c2 (cTy ci) c3 c4 hK c1
  obtain ⟨r, h1, cell, q1, q2, q3, q4⟩ := (hH.at ha he) 0 _ rfl
  have hr : r = cT ci := Option.some.inj (h1.symm.trans c1)
  subst hr
  obtain ⟨hS, hfc, kC, hkC, hkind⟩ := hK.1 ci _ c1
  obtain ⟨cf, kf, fi, f, hi, hsl⟩ := hS k hkN
  have hlay := hts _ (c2 _ (u_in_lay hkN))
  unfold u_lay at hlay
  rw [if_pos hfin] at hlay
  have hst := (u_facts hfc hkC (u_lays hts c2 hkN) hi).1
  have hcf : m.cls = cf := by
    obtain ⟨_, _, c', _, _, _, -, -, hf', -, -, -, hown2, -⟩ := Cond.laysFinal_spec hlay
    have e1 : c' = cf := by have := hi.symm.trans hf'; simp at this; exact this.1.symm
    rw [hsm, ho] at hown2
    rw [← e1]; exact Option.some.inj (hown.symm.trans hown2)
  have h6 := u_fits hfc hkC hkind (Or.inr hlay) hi (c3 k hkN) hn hfit
  refine W.putFinK hx hb hown (hts _ hlk) (by rw [hsm] at hi; exact hi) hst hcf hin2 (by rw [q2]; exact h6) q1 q3 (by rw [hsl]; exact k2_hasslot (q4 k hkN)) rfl rfl hd fun H' e1 e2 e3 => ?_
  rw [hsl] at e1 ⊢
  refine k9 H' _ (hH.set ⟨_, c1, t_OB.to (V := updV (vp_V fs) k v) ⟨_, e1, q2, q3, t_set q4 hap hkN v⟩ (fun j _ => vp_updV_set hl v j)⟩ e2 e3) (hS0.put e2 e3 (Nat.le_add_right _ _))
theorem z_ialdG {N : Nat} {f : Nat → Int32} {i : Int32} (hd : In cc pc (.iaload) 1 pc') (ha : a < n) (he : h a = .inl (qc G 0, N, .inl f)) (hin : vp_in i N) (kk : Z G X cc own n h k1 k2 pc' vs (.int (f i.toNatClampNeg) :: st)) : Z G X cc own n h k1 k2 pc vs (.int i :: .ref (qB G + a) :: st) := by
  intro hC H locs ls hH hS hL
  have k := kk hC H locs ls hH hS hL
  obtain ⟨p, l, e, R, s, m, args, below, meth, c, Q⟩ := X
  obtain ⟨hx, hb, hml, hown, hts, hal, hG, hsz⟩ := hC
  obtain ⟨hd, rfl⟩ := hd
  exact va_iald hx hb (hG.1.moved hal) (hH.at ha he) 0 0 rfl rfl hin hd k
theorem z_zaldG {N : Nat} {f : Nat → Int32} {i : Int32} (hd : In cc pc (.baload) 1 pc') (ha : a < n) (he : h a = .inl (qc G 1, N, .inl f)) (hin : vp_in i N) (kk : Z G X cc own n h k1 k2 pc' vs (.int (f i.toNatClampNeg) :: st)) : Z G X cc own n h k1 k2 pc vs (.int i :: .ref (qB G + a) :: st) := by
  intro hC H locs ls hH hS hL
  have k := kk hC H locs ls hH hS hL
  obtain ⟨p, l, e, R, s, m, args, below, meth, c, Q⟩ := X
  obtain ⟨hx, hb, hml, hown, hts, hal, hG, hsz⟩ := hC
  obtain ⟨hd, rfl⟩ := hd
  exact va_zald hx hb (hG.1.moved hal) (hH.at ha he) 0 1 rfl rfl hin hd k
theorem z_aaldG (t0 : Nat) {N : Nat} {cA : ClassId} {ty : FieldType} {f : Nat → Option Nat} {i : Int32} (hd : In cc pc (.aaload) 1 pc') (ht : (qTy G)[t0]? = some (cA, ty)) (hr : ty.isReference = true) (ha : a < n) (he : h a = .inl (cA, N, .inr (.inr (.inr (.inr f))))) (hin : vp_in i N) (kk : Z G X cc own n h k1 k2 pc' vs (va_rf (f i.toNatClampNeg) :: st)) : Z G X cc own n h k1 k2 pc vs (.int i :: .ref (qB G + a) :: st) := by
  intro hC H locs ls hH hS hL
  have k := kk hC H locs ls hH hS hL
  obtain ⟨p, l, e, R, s, m, args, below, meth, c, Q⟩ := X
  obtain ⟨hx, hb, hml, hown, hts, hal, hG, hsz⟩ := hC
  obtain ⟨hd, rfl⟩ := hd
  have hlt : i.toNatClampNeg < N := Nat.not_le.mp fun q => hin (Or.inr q)
  exact W.aald (v := va_rf (f i.toNatClampNeg)) (ty := ty) hx hb ((hH.at ha he) 0 _ rfl) (((hG.1.moved hal).2 t0 _ ht).1 N (fun j => va_rf (f j))) hr (fun q => by cases q) (by show ¬ (i < 0 ∨ (arrV _ _ _).slots.size ≤ _); rw [arrV_size]; exact hin) (by show (arrV _ _ _).slots[_]? = _; rw [arrV_read _ _ hlt]) rfl rfl hd k
theorem z_alenG (t0 : Nat) {cA : ClassId} {ty : FieldType} {x : vp_A} (hd : In cc pc (.arraylength) 1 pc') (ht : (qTy G)[t0]? = some (cA, ty)) (ha : a < n) (he : h a = .inl (cA, x)) (kk : Z G X cc own n h k1 k2 pc' vs (.int (nI x.1) :: st)) : Z G X cc own n h k1 k2 pc vs (.ref (qB G + a) :: st) := by
  intro hC H locs ls hH hS hL
  have k := kk hC H locs ls hH hS hL
  obtain ⟨p, l, e, R, s, m, args, below, meth, c, Q⟩ := X
  obtain ⟨hx, hb, hml, hown, hts, hal, hG, hsz⟩ := hC
  obtain ⟨hd, rfl⟩ := hd
  exact va_alen hx hb (hG.1.moved hal) (hH.at ha he) 0 t0 rfl ht rfl hd k
theorem z_iastG {N : Nat} {f : Nat → Int32} {i x : Int32} (hd : In cc pc (.iastore) 1 pc') (ha : a < n) (he : h a = .inl (qc G 0, N, .inl f)) (hin : vp_in i N) (kk : Z G X cc own n (va_up h a (.inl (qc G 0, N, .inl (upd f i.toNatClampNeg x)))) k1 k2 pc' vs st) : Z G X cc own n h k1 k2 pc vs (.int x :: .int i :: .ref (qB G + a) :: st) := by
  obtain ⟨hd, rfl⟩ := hd
  refine Z.put (fun p l e R s m args below meth c Q H locs ls hC hH _ kW => ?_) kk
  obtain ⟨hx, hb, hml, hown, hts, hal, hG, hsz⟩ := hC
  refine W.iast hx hb ((hH.at ha he) 0 _ rfl) (((hG.1.moved hal).2 0 _ rfl).1 N (fun j => .int (f j))) (fun q => by cases q) (by show ¬ (i < 0 ∨ (arrV _ _ _).slots.size ≤ _); rw [arrV_size]; exact hin) rfl rfl hd fun H1 e z oq => ?_
  refine kW H1 _ ?_ z oq q_loc1
  show H1[qB G + a]? = some (vp_cell _ _)
  rw [e]
  rw [vp_cell_i, vp_cell_i, arrV_store]
  congr 2
  funext q
  by_cases hq : q = i.toNatClampNeg
  · subst hq
    simp [updV, upd]
  · simp [updV, upd, hq]
theorem z_zastG {N : Nat} {f : Nat → Int32} {i x : Int32} (hd : In cc pc (.bastore) 1 pc') (ha : a < n) (he : h a = .inl (qc G 1, N, .inl f)) (hin : vp_in i N) (kk : Z G X cc own n (va_up h a (.inl (qc G 1, N, .inl (upd f i.toNatClampNeg (vp_nar .boolean x))))) k1 k2 pc' vs st) : Z G X cc own n h k1 k2 pc vs (.int x :: .int i :: .ref (qB G + a) :: st) := by
  obtain ⟨hd, rfl⟩ := hd
  refine Z.put (fun p l e R s m args below meth c Q H locs ls hC hH _ kW => ?_) kk
  obtain ⟨hx, hb, hml, hown, hts, hal, hG, hsz⟩ := hC
  refine W.zast hx hb ((hH.at ha he) 0 _ rfl) (((hG.1.moved hal).2 1 _ rfl).1 N (fun j => .int (f j))) (fun q => by cases q) (by show ¬ (i < 0 ∨ (arrV _ _ _).slots.size ≤ _); rw [arrV_size]; exact hin) rfl rfl hd fun H1 e z oq => ?_
  refine kW H1 _ ?_ z oq q_loc1
  show H1[qB G + a]? = some (vp_cell _ _)
  rw [e]
  rw [vp_cell_i, vp_cell_i, arrV_store]
  congr 2
  funext q
  by_cases hq : q = i.toNatClampNeg
  · subst hq
    simp [updV, upd, vp_nar]
    try rfl
  · simp [updV, upd, hq]
/-- a store of an object of class ci into an array of such -/
theorem z_aastG (t0 ci : Nat) {N b : Nat} {cA : ClassId} {f : Nat → Option Nat} {fs : List Value} {i : Int32} (hd : In cc pc (.aastore) 1 pc') (ht : (qTy G)[t0]? = some (cA, .object (cT ci).1)) (hci : ci < 12) (ha : a < n) (he : h a = .inl (cA, N, .inr (.inr (.inr (.inr f))))) (hb0 : b < n) (hbe : h b = .inr (ci, fs)) (hin : vp_in i N) (kk : Z G X cc own n (va_up h a (.inl (cA, N, .inr (.inr (.inr (.inr (va_up f i.toNatClampNeg (some (qB G + b)))))))) ) k1 k2 pc' vs st) : Z G X cc own n h k1 k2 pc vs (.ref (qB G + b) :: .int i :: .ref (qB G + a) :: st) := by
  obtain ⟨hd, rfl⟩ := hd
  obtain ⟨c1, -⟩ := q_cls ci hci
  refine Z.put (fun p l e R s m args below meth c Q H locs ls hC hH _ kW => ?_) kk
  obtain ⟨hx, hb, hml, hown, hts, hal, hG, hsz⟩ := hC
  have hK := hG.1.moved hal
  have hlt : i.toNatClampNeg < N := Nat.not_le.mp fun q => hin (Or.inr q)
  have h0 : ¬ i < 0 := fun q => hin (Or.inl q)
  obtain ⟨r', hr', cellV, g1, g2, g3, -⟩ := (hH.at hb0 hbe) 0 _ rfl
  have hcls := (hK.1 ci _ c1).2
  obtain ⟨kA, comp, w1, w2, w3, -⟩ := (hK.2 t0 _ ht).2
  have hcomp : comp = (qD G).1 ci := Option.some.inj (w3.symm.trans hcls.1)
  subst hcomp
  obtain ⟨kC, hkC, -⟩ := hcls.2
  refine W.aast hx hb ((hH.at ha he) 0 _ rfl) (fun q h => by cases h) (fun h => by cases h) w1 w2 rfl hkC ⟨h0, by show _ < (arrV _ _ _).slots.size; rw [arrV_size]; exact hlt⟩ g1 (fun q h => by rw [g3] at h; cases h) (by rw [g2]; exact hkC) (by rw [g2]; exact va_assign hcls) rfl rfl hd fun H1 e z oq => ?_
  refine kW H1 _ ?_ z oq q_loc1
  show H1[qB G + a]? = some (vp_cell _ _)
  rw [e]
  rw [vp_cell_q, vp_cell_q, arrV_store]
  congr 2
  funext q
  by_cases hq : q = i.toNatClampNeg
  · subst hq
    simp [updV, va_up, va_rf]
  · simp [updV, va_up, hq]
/-- System.arraycopy of ints -/
theorem z_copy {idx b N0 N1 : Nat} {f g : Nat → Int32} {R0 : Room} {k : Nat} (hd : In cc pc (.invokestatic idx) 3 pc') (hw1 : Cond.methodLink own idx arraycopyName ∈ lw_gd) (hw2 : Cond.native arraycopyName ∈ lw_gd) (hw3 : Cond.static arraycopyName ∈ lw_gd) (hw4 : Cond.initialized "java/lang/System" ∈ lw_gd) (hb0 : b < n) (hbe : h b = .inl (qc G 0, N0, .inl f)) (ha : a < n) (he : h a = .inl (qc G 0, N1, .inl g)) (hk0 : k ≤ N0) (hk1 : k ≤ N1) (hks : k < 2 ^ 31) (hne : a ≠ b) (hR : qR X = R0) (hf : 1 ≤ R0.frames ∧ (st.map fun v => v.category).sum + (nativeFrameWords "java/lang/System" "arraycopy" 5 + 11) ≤ R0.locals)
    (kk : Z G X cc own n (va_up h a (.inl (qc G 0, N1, .inl (fun j => if j < k then f j else g j)))) k1 k2 pc' vs st) : Z G X cc own n h k1 k2 pc vs (.int (nI k) :: .int (nI 0) :: .ref (qB G + a) :: .int (nI 0) :: .ref (qB G + b) :: st) := by
  obtain ⟨hd, rfl⟩ := hd
  subst hR
  intro hC H locs ls hH hS hL
  have k9 := fun H1 locs1 q1 q2 => kk hC H1 locs1 ls q1 q2 hL
  obtain ⟨p, l, e, R, s, m, args, below, meth, c, Q⟩ := X
  obtain ⟨hx, hb, hml, hown, hts, hal, hG, hsz⟩ := hC
  have hK := hG.1.moved hal
  have hc0 : H[qB G + b]? = some (vp_cell (qc G 0) (N0, .inl f)) := (hH.at hb0 hbe) 0 _ rfl
  have hc1 : H[qB G + a]? = some (vp_cell (qc G 0) (N1, .inl g)) := (hH.at ha he) 0 _ rfl
  have hD2 : va_D (fun q => q = qB G + b ∨ q = qB G + a) [(qB G + b, .inl (qc G 0, N0, .inl f)), (qB G + a, .inl (qc G 0, N1, .inl g))] := by
    constructor
    · intro i j x y hi hj hxy
      match i, j, hi, hj with
      | 0, 0, _, _ => rfl
      | 1, 1, _, _ => rfl
      | 0, 1, hi, hj => cases hi; cases hj; exact absurd hxy (by show ¬ qB G + b = qB G + a; omega)
      | 1, 0, hi, hj => cases hi; cases hj; exact absurd hxy (by show ¬ qB G + a = qB G + b; omega)
      | 0, j + 2, _, hj => simp at hj
      | 1, j + 2, _, hj => simp at hj
      | i + 2, _, hi, _ => simp at hi
    · intro i x hi
      match i, hi with
      | 0, hi => cases hi; exact Or.inl rfl
      | 1, hi => cases hi; exact Or.inr rfl
      | i + 2, hi => simp at hi
  have hP2 : va_P (qD G) vwCl [(qB G + b, .inl (qc G 0, N0, .inl f)), (qB G + a, .inl (qc G 0, N1, .inl g))] H := by
    intro i x hi
    match i, hi with
    | 0, hi => cases hi; exact hc0
    | 1, hi => cases hi; exact hc1
    | i + 2, hi => simp at hi
  have hck : (nI k).toNatClampNeg = k := nI_clamp hks
  have hc00 : (nI 0).toNatClampNeg = 0 := nI_clamp (by decide)
  intro T hT X
  obtain ⟨-, kk0, hk0', cm0, hkk0⟩ := (hK.2 0 _ rfl).1 N0 (fun j => .int (f j))
  obtain ⟨-, kk1, hk1', cm1, hkk1⟩ := (hK.2 0 _ rfl).1 N1 (fun j => .int (g j))
  have nn : ∀ z : Int32, ¬ z < 0 → z.toInt = (z.toNatClampNeg : Int) := by
    intro z hz
    have hz0 : (0 : Int) ≤ z.toInt := by
      have := Int32.not_lt.mp hz
      simpa using Int32.le_iff_toInt_le.mp this
    show z.toInt = ((z.toInt.toNat : Nat) : Int)
    omega
  obtain ⟨vm', X', step⟩ := X.arraycopy hx hown (hts _ hw1) (hts _ hw2) (hts _ hw3) (hts _ hw4) (src := qB G + b) (dst := qB G + a) (cs := vp_cell (qc G 0) (N0, .inl f)) (cd := vp_cell (qc G 0) (N1, .inl g)) (srcPos := nI 0) (destPos := nI 0) (n := nI k) (by rw [hT]; exact hc0) (by rw [hT]; exact hc1)
    (fun _ h => by cases h) (fun _ h => by cases h) (fun h => by cases h) (fun h => by cases h) hk0' hk1' hkk0 hkk1 (by simp [refKind]) (nI_pos (by decide)) (nI_pos (by decide)) (nI_pos hks)
    (by rw [nn _ (nI_pos (by decide)), nn _ (nI_pos hks), hck, hc00]; show ¬ _ > ((arrV (qc G 0) N0 (fun j => .int (f j))).slots.size : Int); rw [arrV_size]; omega)
    (by rw [nn _ (nI_pos (by decide)), nn _ (nI_pos hks), hck, hc00]; show ¬ _ > ((arrV (qc G 0) N1 (fun j => .int (g j))).slots.size : Int); rw [arrV_size]; omega)
    (fun vm₁ _ i hi => by
      have e : (vp_cell (qc G 0) (N0, .inl f)).slots.getD ((nI 0).toNatClampNeg + i) .null = .int (f ((nI 0).toNatClampNeg + i)) := by
        show (arrV (qc G 0) N0 (fun j => .int (f j))).slots.getD _ _ = _
        rw [Array.getD_eq_getD_getElem?, arrV_read _ _ (by rw [hck] at hi; omega)]
        rfl
      refine ⟨?_, ?_⟩
      · rw [e]
        rfl
      · rw [e]
        exact trivial)
    (g := F0 m pc ls (.int (nI k) :: .int (nI 0) :: .ref (qB G + a) :: .int (nI 0) :: .ref (qB G + b) :: st)) rfl (by rw [hml]; exact hL.1) (rest := st) rfl (by rw [hb]; exact hd) hf.1 (by have := hf.2; show 2 * 0 + _ + _ ≤ R.locals; exact (by have h3 : R.locals = (qR (p, l, e, R, s, m, args, below, meth, c, Q)).locals := rfl; omega))
  have e1 : copied (vp_cell (qc G 0) (N0, .inl f)) (vp_cell (qc G 0) (N1, .inl g)) (nI 0) (nI 0) (nI k) = vp_cell (qc G 0) (N1, .inl (va_cpy f g (nI 0).toNatClampNeg (nI 0).toNatClampNeg (nI k).toNatClampNeg)) := va_copied (fun z => .int z) (qc G 0) (qc G 0) f g (by rw [hck, hc00]; omega)
  have e2 : va_cpy f g (nI 0).toNatClampNeg (nI 0).toNatClampNeg (nI k).toNatClampNeg = fun j => if j < k then f j else g j := by
    funext j
    rw [hck, hc00]
    unfold va_cpy
    by_cases hj : j < k
    · simp [hj]
    · simp [hj]
  rw [e1, e2] at X' step
  have hl : qB G + a < H.size := (Array.getElem?_eq_some_iff.mp hc1).1
  have hheap : ((T.setVm vm').setCell (qB G + a) (vp_cell (qc G 0) (N1, .inl (fun j => if j < k then f j else g j)))).heap = H.setIfInBounds (qB G + a) (vp_cell (qc G 0) (N1, .inl (fun j => if j < k then f j else g j))) := by rw [← hT]; rfl
  have oq : ∀ q : Nat, q ≠ qB G + a → (H.setIfInBounds (qB G + a) (vp_cell (qc G 0) (N1, .inl (fun j => if j < k then f j else g j))))[q]? = H[q]? := fun q hq => by simp [Array.getElem?_setIfInBounds, Ne.symm hq]
  obtain ⟨t, a1, b1⟩ := k9 _ _ (hH.set (a := a) (show (H.setIfInBounds (qB G + a) _)[qB G + a]? = some _ by simp [Array.getElem?_setIfInBounds, hl]) (by simp) oq) ⟨by simp; exact hS.1, fun q g1 g2 => by
      rw [oq q (fun e => g2 (by rw [e]; exact Nat.le_add_right _ _))]
      exact hS.2.1 q g1 g2, fun q hq => by
      rcases List.mem_append.mp hq with h | h
      · exact hS.2.2 q h
      · obtain ⟨z, -, hz⟩ := List.mem_map.mp h
        rw [← hz]
        exact Nat.le_add_right _ _⟩ _ hheap X'
  exact ⟨t, step t a1, b1⟩
theorem z_max {idx : Nat} {x y : Int32} {R0 : Room} (hd : In cc pc (.invokestatic idx) 3 pc') (hw1 : Cond.methodLink own idx Lib.Math.max.name ∈ lw_gd) (hw2 : Cond.static Lib.Math.max.name ∈ lw_gd) (hw3 : Cond.initialized "java/lang/Math" ∈ lw_gd) (hw4 : Cond.code Lib.Math.max.name Lib.Math.max.code 2 (some .int) ∈ lw_gd) (hR : qR X = R0) (hf : 1 ≤ R0.frames ∧ (st.map fun v => v.category).sum + 13 ≤ R0.locals ∧ k1 ≤ R0.cells ∧ k2 ≤ R0.slots) (kk : Z G X cc own n h k1 k2 pc' vs (.int (if x < y then y else x) :: st)) : Z G X cc own n h k1 k2 pc vs (.int y :: .int x :: st) := by
  subst hR
  obtain ⟨hd, rfl⟩ := hd
  intro hC H locs ls hH hS hL
  have k := kk hC H locs ls hH hS hL
  obtain ⟨p, l, e, R, s, m, args, below, meth, c, Q⟩ := X
  obtain ⟨hx, hb, hml, hown, hts, hal, hG, hsz⟩ := hC
  exact va_mmax hx hb (hml.trans hL.1.symm) hown (hts _ hw1) (hts _ hw2) (hts _ hw3) (hts _ hw4) hf.1 hf.2.1 hf.2.2.1 hf.2.2.2 hd k
theorem z_min {idx : Nat} {x y : Int32} {R0 : Room} (hd : In cc pc (.invokestatic idx) 3 pc') (hw1 : Cond.methodLink own idx Lib.Math.min.name ∈ lw_gd) (hw2 : Cond.static Lib.Math.min.name ∈ lw_gd) (hw3 : Cond.initialized "java/lang/Math" ∈ lw_gd) (hw4 : Cond.code Lib.Math.min.name Lib.Math.min.code 2 (some .int) ∈ lw_gd) (hR : qR X = R0) (hf : 1 ≤ R0.frames ∧ (st.map fun v => v.category).sum + 13 ≤ R0.locals ∧ k1 ≤ R0.cells ∧ k2 ≤ R0.slots) (kk : Z G X cc own n h k1 k2 pc' vs (.int (if y < x then y else x) :: st)) : Z G X cc own n h k1 k2 pc vs (.int y :: .int x :: st) := by
  subst hR
  obtain ⟨hd, rfl⟩ := hd
  intro hC H locs ls hH hS hL
  have k := kk hC H locs ls hH hS hL
  obtain ⟨p, l, e, R, s, m, args, below, meth, c, Q⟩ := X
  obtain ⟨hx, hb, hml, hown, hts, hal, hG, hsz⟩ := hC
  exact va_mmin hx hb (hml.trans hL.1.symm) hown (hts _ hw1) (hts _ hw2) (hts _ hw3) (hts _ hw4) hf.1 hf.2.1 hf.2.2.1 hf.2.2.2 hd k
theorem z_objInit {idx b : Nat} {R0 : Room} (hd : In cc pc (.invokespecial idx) 3 pc') (hw1 : Cond.methodLink own idx objectInit ∈ lw_gd) (hw2 : Cond.instanceMethod objectInit ∈ lw_gd) (hw3 : Cond.code objectInit ⟨#[0xb1]⟩ 1 none ∈ lw_gd) (hR : qR X = R0) (hf : 1 ≤ R0.frames ∧ (st.map fun v => v.category).sum + 12 ≤ R0.locals) (kk : Z G X cc own n h k1 k2 pc' vs st) : Z G X cc own n h k1 k2 pc vs (.ref b :: st) := by
  subst hR
  obtain ⟨hd, rfl⟩ := hd
  intro hC H locs ls hH hS hL
  have k := kk hC H locs ls hH hS hL
  obtain ⟨p, l, e, R, s, m, args, below, meth, c, Q⟩ := X
  obtain ⟨hx, hb, hml, hown, hts, hal, hG, hsz⟩ := hC
  refine W.objInit hx hb hown (hts _ hw1) (hts _ hw2) (hts _ hw3) rfl (by rw [hml]; exact hL.1) rfl hd hf.1 (by have := hf.2; show 2 * 0 + _ + 12 ≤ R.locals; have h3 : R.locals = (qR (p, l, e, R, s, m, args, below, meth, c, Q)).locals := rfl; omega) ?_
  exact k
end ZH
end
section
/-! THE FRAME: a method's entry, its ends, calls, new cells -/
def qQ (G : qG) (P : Option Value → Nat → (Nat → va_E) → Prop) : Array Value → State → Outcome → State → Prop := fun _ st o t => ∃ (v : Option Value) (n : Nat) (h : Nat → va_E), o = .returned v ∧ P v n h ∧ qSt G n h t ∧ va_F (qA G) st t
/-- the end of a method: its post P, the type that it returns -/
def qE (G : qG) (X : qX) (P : Option Value → Nat → (Nat → va_E) → Prop) (ret : Option FieldType) : Prop := match X with
  | (_, _, _, R, s, _, args, below, meth, _, Q) => Q = MQ below (qQ G P) args s R.cells R.slots (qA G) ∧ meth.locks = false ∧ meth.sig.returnType = ret
/-- a method: its name, bytes, locals, type, room -/
abbrev qMI : Type := MethodName × ByteArray × Nat × Option FieldType × Room
def qWs (M : qMI) : List Cond := Cond.code M.1 M.2.1 M.2.2.1 M.2.2.2.1 :: lw_gd
/-- THE CONTRACT: from the n cells h and these arguments the method returns, with P -/
def Ctr (G : qG) (l : Launch) (M : qMI) (as : List Value) (n : Nat) (h : Nat → va_E) (P : Option Value → Nat → (Nat → va_E) → Prop) : Prop := Met l M.1 (qWs M) M.2.2.2.2 (va_Pc as (qSt G n h)) (qQ G P) M.2.2.2.2.cells M.2.2.2.2.slots (qA G)
def qLoc : List Value → List (Option Value)
  | [] => []
  | v :: r => if v.category = 2 then some v :: none :: qLoc r else some v :: qLoc r
theorem qLoc_args : ∀ (as : List Value) (pre : List (Option Value)) (i : Nat) (v : Value), pre.length ≤ i → (pre ++ qLoc as)[i]? = some (some v) → (i, v) ∈ lv_args pre.length as
  | [], pre, i, v, h, e => by
    simp only [qLoc, List.append_nil] at e
    exact absurd (List.getElem?_eq_some_iff.mp e).1 (by omega)
  | a :: r, pre, i, v, h, e => by
    unfold lv_args
    by_cases hc : a.category = 2
    · have e0 : qLoc (a :: r) = some a :: none :: qLoc r := by simp [qLoc, hc]
      rw [e0] at e
      by_cases h1 : i = pre.length
      · subst h1
        rw [List.getElem?_append_right (Nat.le_refl _)] at e
        simp at e
        rw [e]; exact List.mem_cons_self
      · by_cases h2 : i = pre.length + 1
        · subst h2
          rw [List.getElem?_append_right (by omega)] at e
          simp at e
        · refine List.mem_cons_of_mem _ ?_
          rw [if_pos hc]
          have := qLoc_args r (pre ++ [some a, none]) i v (by simp; omega) (by rw [List.append_assoc]; exact e)
          simpa using this
    · have e0 : qLoc (a :: r) = some a :: qLoc r := by simp [qLoc, hc]
      rw [e0] at e
      by_cases h1 : i = pre.length
      · subst h1
        rw [List.getElem?_append_right (Nat.le_refl _)] at e
        simp at e
        rw [e]; exact List.mem_cons_self
      · refine List.mem_cons_of_mem _ ?_
        rw [if_neg hc]
        have := qLoc_args r (pre ++ [some a]) i v (by simp; omega) (by rw [List.append_assoc]; exact e)
        simpa using this
theorem qLoc_len : ∀ as : List Value, (lg_sl as).length = (qLoc as).length
  | [] => rfl
  | a :: r => by
    have ih := qLoc_len r
    by_cases hc : a.category = 2
    · have : lg_sl (a :: r) = .val a :: .second :: lg_sl r := by simp [lg_sl, hc]
      rw [this]; simp [qLoc, hc, ih]
    · have : lg_sl (a :: r) = .val a :: lg_sl r := by simp [lg_sl, hc]
      rw [this]; simp [qLoc, hc, ih]
/-- a method's entry -/
theorem q_enter {G : qG} {l : Launch} {M : qMI} {as : List Value} {n : Nat} {h : Nat → va_E} {P : Option Value → Nat → (Nat → va_E) → Prop} (vs0 : List (Option Value)) (hy : plainName M.1.cls = true) (hvs : qLoc as ++ List.replicate (M.2.2.1 - (qLoc as).length) none = vs0) (hle : (qLoc as).length ≤ M.2.2.1)
    (body : ∀ X : qX, qE G X P M.2.2.2.1 → qR X = M.2.2.2.2 → qName X = M.1.name → Z G X M.2.1 M.1.cls n h 0 0 0 vs0 []) : Ctr G l M as n h P := by
  obtain ⟨y, cc, maxL, ret, rm⟩ := M
  refine Met.ofW (cc := cc) (maxL := maxL) (ret := ret) (ws' := lw_gd) hy rfl ?_
  intro p e s m args below meth c s₁ B hml hv
  obtain ⟨rfl, hOK, hH, hal, hnw⟩ := hv
  have hts := atoms_spec (ws := qWs (y, cc, maxL, ret, rm)) B.pre
  have hlen : vs0.length = maxL := by rw [← hvs, List.length_append, List.length_replicate]; simp only at hle ⊢; omega
  have b := body (p, l, e, rm, s, m, as.toArray, below, meth, c, MQ below (qQ G P) as.toArray s rm.cells rm.slots (qA G)) ⟨rfl, B.notSynchronized, B.returns⟩ rfl (name_of_methodNamed B.named B.method).1
    ⟨B.exec, B.bytes, by rw [hlen]; exact hml, findClass_of_methodNamed B.named, fun w hw => hts w (List.mem_cons_of_mem _ hw), hal, hOK, by have := hH.1; omega, hnw⟩ s.heap [] _ hH va_S.rf
    (show LV ((lg_sl as ++ List.replicate (maxL - (lg_sl as).length) Slot.unset).toArray) vs0 from by
      have he := lv_entry as (n := maxL) (by rw [qLoc_len]; exact hle)
      refine LV.of (l := lv_args 0 as) (by rw [hlen]; exact he) ?_
      intro i v hi
      rw [← hvs] at hi
      by_cases h1 : i < (qLoc as).length
      · rw [List.getElem?_append_left h1] at hi
        exact qLoc_args as [] i v (Nat.zero_le _) hi
      · rw [List.getElem?_append_right (by omega), List.getElem?_replicate] at hi
        split at hi <;> cases hi)
  rw [lg_entry_eq]
  exact b
section ZE
variable {G : qG} {X : qX} {cc : ByteArray} {own : String} {n : Nat} {h : Nat → va_E} {k1 k2 pc pc' : Nat} {vs : List (Option Value)} {st : List Value} {P : Option Value → Nat → (Nat → va_E) → Prop}
theorem q_nwW {s t : State} (h : qNw s) (hW : s.WarmedH t.vm) : qNw t := fun a i y hs hm => (h a i y hs hm).warmM hW
theorem qv_trans {a b c : Vm} (h1 : a.Alike b) (h2 : b.Alike c) : a.Alike c := by exact h1.trans h2
theorem z_iret {x : Int32} (hE : qE G X P (some .int)) (hd : In cc pc (.ireturn) 1 pc') (hk1 : k1 ≤ (qR X).cells) (hk2 : k2 ≤ (qR X).slots) (hp : P (some (.int x)) n h) : Z G X cc own n h k1 k2 pc vs [.int x] := by
  intro hC H locs ls hH hS hL
  obtain ⟨p, l, e, R, s, m, args, below, meth, c, Q⟩ := X
  obtain ⟨hx, hb, hml, hown, hts, hal, hG, hsz, hnw⟩ := hC
  obtain ⟨hd, rfl⟩ := hd
  obtain ⟨rfl, hlocks, hr⟩ := hE
  exact W.widen hk1 hk2 (W.iret hx hb hr (fun t ht hW => ⟨_, n, h, rfl, hp, ⟨hG, by rw [ht]; exact hH, qv_trans hal hW.alike, q_nwW hnw hW⟩, hS.F ht⟩) hS.2.2 hd)
theorem z_zret {x : Int32} (hE : qE G X P (some .boolean)) (hd : In cc pc (.ireturn) 1 pc') (hn : narrow .boolean (.int x) = .int x) (hk1 : k1 ≤ (qR X).cells) (hk2 : k2 ≤ (qR X).slots) (hp : P (some (.int x)) n h) : Z G X cc own n h k1 k2 pc vs [.int x] := by
  intro hC H locs ls hH hS hL
  obtain ⟨p, l, e, R, s, m, args, below, meth, c, Q⟩ := X
  obtain ⟨hx, hb, hml, hown, hts, hal, hG, hsz, hnw⟩ := hC
  obtain ⟨hd, rfl⟩ := hd
  obtain ⟨rfl, hlocks, hr⟩ := hE
  exact W.widen hk1 hk2 (W.zret hx hb hr hn (fun t ht hW => ⟨_, n, h, rfl, hp, ⟨hG, by rw [ht]; exact hH, qv_trans hal hW.alike, q_nwW hnw hW⟩, hS.F ht⟩) hS.2.2 hd)
theorem z_lret {x : Int64} (hE : qE G X P (some .long)) (hd : In cc pc (.lreturn) 1 pc') (hk1 : k1 ≤ (qR X).cells) (hk2 : k2 ≤ (qR X).slots) (hp : P (some (.long x)) n h) : Z G X cc own n h k1 k2 pc vs [.long x] := by
  intro hC H locs ls hH hS hL
  obtain ⟨p, l, e, R, s, m, args, below, meth, c, Q⟩ := X
  obtain ⟨hx, hb, hml, hown, hts, hal, hG, hsz, hnw⟩ := hC
  obtain ⟨hd, rfl⟩ := hd
  obtain ⟨rfl, hlocks, hr⟩ := hE
  exact W.widen hk1 hk2 (W.lret hx hb hr (fun t ht hW => ⟨_, n, h, rfl, hp, ⟨hG, by rw [ht]; exact hH, qv_trans hal hW.alike, q_nwW hnw hW⟩, hS.F ht⟩) hS.2.2 hd)
theorem z_vret (hE : qE G X P none) (hd : In cc pc (.return_) 1 pc') (hk1 : k1 ≤ (qR X).cells) (hk2 : k2 ≤ (qR X).slots) (hp : P none n h) : Z G X cc own n h k1 k2 pc vs [] := by
  intro hC H locs ls hH hS hL
  obtain ⟨p, l, e, R, s, m, args, below, meth, c, Q⟩ := X
  obtain ⟨hx, hb, hml, hown, hts, hal, hG, hsz, hnw⟩ := hC
  obtain ⟨hd, rfl⟩ := hd
  obtain ⟨rfl, hlocks, hr⟩ := hE
  exact W.widen hk1 hk2 (W.vret hx hb hr (fun t ht hW => ⟨_, n, h, rfl, hp, ⟨hG, by rw [ht]; exact hH, qv_trans hal hW.alike, q_nwW hnw hW⟩, hS.F ht⟩) hS.2.2 hd)
/-- behind a call -/
theorem q_after {p : Program} {l : Launch} {e : Env} {R : Room} {s : State} {m : MethodId} {args : Array Value} {below : List Frame} {meth : Method} {c : Code} {H : Heap} {locs : List Loc} {mc ms : Nat} {Q : State → Prop} {ls : Array Slot} {st0 rest : List Value} {a : Array Value}
    (hr : va_Run p l e R s m args below meth c H locs k1 k2 mc ms (F0 m pc ls st0) rest (qQ G P a) (qA G)) (hS : va_S (qA G) s.heap H locs)
    (kk : ∀ (v : Option Value) (n' : Nat) (h' : Nat → va_E) (H1 : Heap) (locs1 : List Loc), P v n' h' → HP G n' h' H1 → va_S (qA G) s.heap H1 locs1 → W p l e R s m args below meth c H1 locs1 (k1 + mc) (k2 + ms) Q (F0 m (pc + 3) ls (v.toList ++ rest))) : W p l e R s m args below meth c H locs k1 k2 Q (F0 m pc ls st0) := by
  intro T hT X
  obtain ⟨v, st₀, t, T', L, h0, X', hL, e1, e2, ⟨v', n', h', hv, hp, hst, hz, hk⟩, stp⟩ := hr T hT X
  cases hv
  rw [h0] at hz hk
  obtain ⟨t2, a1, b1⟩ := kk v n' h' T'.heap (locs ++ L) hp (by rw [e1]; exact hst.2.1)
    ⟨Nat.le_trans hS.1 (by rw [e1]; exact hz), fun q h1 h2 => by rw [e1, hk q (Nat.lt_of_lt_of_le h1 hS.1) h2]; exact hS.2.1 q h1 h2, fun q hq => by
      rcases List.mem_append.mp hq with h | h
      · exact hS.2.2 q h
      · exact hL q h⟩ T' rfl X'
  exact ⟨t2, stp t2 a1, b1⟩
theorem q_blind {as : List Value} : FrameBlind (va_Pc as (qSt G n h)) := by
  intro a U g mk hq
  obtain ⟨q0, q1, q2, q3, q4⟩ := hq
  exact ⟨q0, q1, q2, q3, fun a i y hs hm => (q4 a i y hs hm).same rfl rfl⟩
theorem q_gin {own' : String} {idx : Nat} {M : qMI} (w1 : Cond.code M.1 M.2.1 M.2.2.1 M.2.2.2.1 ∈ lw_gd) : GoodIn lw_gd (qWs M) := by
  intro w hw
  have hm : w ∈ lw_gd := by
    rcases List.mem_cons.mp hw with z | z
    · rw [z]; exact w1
    · exact z
  exact ⟨hm, good_of_word (List.all_eq_true.mp lw_good w hm)⟩
/-- what a virtual method's call needs of the tables -/
def qMV (M : qMI) (ci na : Nat) : Prop := Cond.code M.1 M.2.1 M.2.2.1 M.2.2.2.1 ∈ lw_gd ∧ Cond.instanceMethod M.1 ∈ lw_gd ∧ Cond.selects M.1.cls M.1 M.1 ∈ lw_gd ∧ Cond.initialized M.1.cls ∈ lw_gd ∧ ci < 12 ∧ M.1.cls = (cT ci).1 ∧ (M.1.cls ≠ "java/lang/invoke/MethodHandle" ∧ M.1.cls ≠ "java/lang/invoke/VarHandle" ∧ (parseMethodDescriptor M.1.desc).map (fun d => d.parameters.length) = some na)
def qMS (M : qMI) (na : Nat) : Prop := Cond.code M.1 M.2.1 M.2.2.1 M.2.2.2.1 ∈ lw_gd ∧ Cond.static M.1 ∈ lw_gd ∧ Cond.initialized M.1.cls ∈ lw_gd ∧ (M.1.cls ≠ "java/lang/invoke/MethodHandle" ∧ M.1.cls ≠ "java/lang/invoke/VarHandle" ∧ (parseMethodDescriptor M.1.desc).map (fun d => d.parameters.length) = some na)
def qMc (M : qMI) (na : Nat) : Prop := Cond.code M.1 M.2.1 M.2.2.1 M.2.2.2.1 ∈ lw_gd ∧ Cond.instanceMethod M.1 ∈ lw_gd ∧ Cond.initialized M.1.cls ∈ lw_gd ∧ M.1.name = "<init>" ∧ M.2.2.2.1 = none ∧ (M.1.cls ≠ "java/lang/invoke/MethodHandle" ∧ M.1.cls ≠ "java/lang/invoke/VarHandle" ∧ (parseMethodDescriptor M.1.desc).map (fun d => d.parameters.length) = some na)
/-- the callee's room in the caller's -/
def qFit (M : qMI) (R0 : Room) : Prop := M.2.2.2.2.frames + 1 ≤ R0.frames ∧ 8 + (M.2.2.1 + 11) + M.2.2.2.2.locals ≤ R0.locals
theorem z_callV {idx ci na a : Nat} {M : qMI} {As : List Value} {fs : List Value} {R0 : Room} {st0 : List Value} (hd : In cc pc (.invokevirtual idx) 3 pc') (hl : Cond.methodLink own idx M.1 ∈ lw_gd) (hM : qMV M ci na) (hc : Ctr G (qL X) M (.ref (qB G + a) :: As) n h P) (ha : a < n) (he : h a = .inr (ci, fs)) (hn : As.length = na) (hs : As.reverse ++ .ref (qB G + a) :: st = st0) (hw : (st.map fun v => v.category).sum ≤ 8) (hR : qR X = R0) (hf : qFit M R0) (hk1 : k1 + M.2.2.2.2.cells ≤ R0.cells) (hk2 : k2 + M.2.2.2.2.slots ≤ R0.slots)
    (kk : ∀ (v : Option Value) (n' : Nat) (h' : Nat → va_E), P v n' h' → Z G X cc own n' h' (k1 + M.2.2.2.2.cells) (k2 + M.2.2.2.2.slots) pc' vs (v.toList ++ st)) : Z G X cc own n h k1 k2 pc vs st0 := by
  subst hR
  subst hs
  obtain ⟨hd, rfl⟩ := hd
  obtain ⟨w1, w2, w3, w4, hci, hcl, hdd⟩ := hM
  obtain ⟨c1, -⟩ := q_cls ci hci
  intro hC H locs ls hH hS hL
  have k9 := fun v n' h' H1 locs1 q0 q1 q2 => kk v n' h' q0 hC H1 locs1 ls q1 q2 hL
  obtain ⟨p, l, e, R, s, m, args, below, meth, c, Q⟩ := X
  obtain ⟨hx, hb, hml, hown, hts, hal, hG, hsz, hnw⟩ := hC
  have hgd : ∀ w ∈ lw_gd, (w.onTables && w.keeps) = true ∨ ∃ ty, w = .arrayClass ty := fun w hw => good_of_word (List.all_eq_true.mp lw_good w hw)
  have hT : GoodIn lw_gd (wsV own idx M.1.cls M.1 (qWs M)) := by
    intro w hw
    unfold wsV at hw
    have hm : w ∈ lw_gd := by
      rcases List.mem_append.mp hw with z | z
      · simp only [List.mem_cons, List.not_mem_nil, or_false] at z
        rcases z with z | z | z | z <;> subst z <;> assumption
      · exact (q_gin (own' := own) (idx := idx) w1 w z).1
    exact ⟨hm, hgd w hm⟩
  refine q_after (va_runV (As := As) (rest := st) (C := M.1.cls) ⟨hx, hb, hml, hown, hts⟩ hc (cwV na hts hT rfl rfl rfl ⟨rfl, hdd⟩ hf) ⟨q_blind, ?_, fun U hU hW => ⟨rfl, hG, by rw [hU]; exact hH, qv_trans hal hW.alike, q_nwW hnw hW⟩⟩ rfl hn hL.1 rfl (lv_room hw) hd ⟨hk1, hk2⟩) hS (fun v n' h' H1 locs1 q0 q1 q2 => k9 v n' h' H1 locs1 q0 q1 q2)
  rw [hcl]
  exact va_recv (hG.1.moved hal) (hH.at ha he) c1 (q0 := 0) rfl
theorem z_callS {idx na : Nat} {M : qMI} {As : List Value} {R0 : Room} {st0 : List Value} (hd : In cc pc (.invokestatic idx) 3 pc') (hl : Cond.methodLink own idx M.1 ∈ lw_gd) (hM : qMS M na) (hc : Ctr G (qL X) M As n h P) (hn : As.length = na) (hs : As.reverse ++ st = st0) (hw : (st.map fun v => v.category).sum ≤ 8) (hR : qR X = R0) (hf : qFit M R0) (hk1 : k1 + M.2.2.2.2.cells ≤ R0.cells) (hk2 : k2 + M.2.2.2.2.slots ≤ R0.slots)
    (kk : ∀ (v : Option Value) (n' : Nat) (h' : Nat → va_E), P v n' h' → Z G X cc own n' h' (k1 + M.2.2.2.2.cells) (k2 + M.2.2.2.2.slots) pc' vs (v.toList ++ st)) : Z G X cc own n h k1 k2 pc vs st0 := by
  subst hR
  subst hs
  obtain ⟨hd, rfl⟩ := hd
  obtain ⟨w1, w2, w4, hdd⟩ := hM
  intro hC H locs ls hH hS hL
  have k9 := fun v n' h' H1 locs1 q0 q1 q2 => kk v n' h' q0 hC H1 locs1 ls q1 q2 hL
  obtain ⟨p, l, e, R, s, m, args, below, meth, c, Q⟩ := X
  obtain ⟨hx, hb, hml, hown, hts, hal, hG, hsz, hnw⟩ := hC
  exact q_after (va_runS (As := As) (rest := st) ⟨hx, hb, hml, hown, hts⟩ hc ⟨callB_of na hts (q_gin (own' := own) (idx := idx) w1) rfl rfl rfl (hts _ w4) (hts _ hl) hdd hf, hts _ w2⟩ ⟨q_blind, fun U hU hW => ⟨rfl, hG, by rw [hU]; exact hH, qv_trans hal hW.alike, q_nwW hnw hW⟩⟩ rfl hn hL.1 rfl (lv_room hw) hd ⟨hk1, hk2⟩) hS (fun v n' h' H1 locs1 q0 q1 q2 => k9 v n' h' H1 locs1 q0 q1 q2)
theorem z_callI {idx na a : Nat} {M : qMI} {As : List Value} {R0 : Room} {st0 : List Value} (hd : In cc pc (.invokespecial idx) 3 pc') (hl : Cond.methodLink own idx M.1 ∈ lw_gd) (hM : qMc M na) (hc : Ctr G (qL X) M (.ref (qB G + a) :: As) n h P) (hn : As.length = na) (hs : As.reverse ++ .ref (qB G + a) :: st = st0) (hw : (st.map fun v => v.category).sum ≤ 8) (hR : qR X = R0) (hf : qFit M R0) (hk1 : k1 + M.2.2.2.2.cells ≤ R0.cells) (hk2 : k2 + M.2.2.2.2.slots ≤ R0.slots)
    (kk : ∀ (v : Option Value) (n' : Nat) (h' : Nat → va_E), P v n' h' → Z G X cc own n' h' (k1 + M.2.2.2.2.cells) (k2 + M.2.2.2.2.slots) pc' vs (v.toList ++ st)) : Z G X cc own n h k1 k2 pc vs st0 := by
  subst hR
  subst hs
  obtain ⟨hd, rfl⟩ := hd
  obtain ⟨y, cM, maxL, ret, rm⟩ := M
  obtain ⟨w1, w2, w4, hy1, hnone, hdd⟩ := hM
  simp only at hnone
  subst hnone
  intro hC H locs ls hH hS hL
  have k9 := fun v n' h' H1 locs1 q0 q1 q2 => kk v n' h' q0 hC H1 locs1 ls q1 q2 hL
  obtain ⟨p, l, e, R, s, m, args, below, meth, c, Q⟩ := X
  obtain ⟨hx, hb, hml, hown, hts, hal, hG, hsz, hnw⟩ := hC
  exact q_after (va_runI (As := As) (rest := st) ⟨hx, hb, hml, hown, hts⟩ hc (cwI na hts (q_gin (M := (y, cM, maxL, none, rm)) (own' := own) (idx := idx) w1) rfl rfl rfl (hts _ w4) (hts _ hl) (hts _ w2) hy1 hdd hf) ⟨q_blind, fun U hU hW => ⟨rfl, hG, by rw [hU]; exact hH, qv_trans hal hW.alike, q_nwW hnw hW⟩⟩ rfl hn hL.1 rfl (lv_room hw) hd ⟨hk1, hk2⟩) hS (fun v n' h' H1 locs1 q0 q1 q2 => k9 v n' h' H1 locs1 q0 q1 q2)
theorem z_callIN {idx na a : Nat} {host : String} {M : qMI} {As : List Value} {R0 : Room} {st0 : List Value} (hd : In cc pc (.invokespecial idx) 3 pc') (hl : Cond.methodLinkNest own idx M.1 host ∈ lw_tbl) (hM : qMc M na) (hc : Ctr G (qL X) M (.ref (qB G + a) :: As) n h P) (hn : As.length = na) (hs : As.reverse ++ .ref (qB G + a) :: st = st0) (hw : (st.map fun v => v.category).sum ≤ 8) (hR : qR X = R0) (hf : qFit M R0) (hk1 : k1 + M.2.2.2.2.cells ≤ R0.cells) (hk2 : k2 + M.2.2.2.2.slots ≤ R0.slots)
    (kk : ∀ (v : Option Value) (n' : Nat) (h' : Nat → va_E), P v n' h' → Z G X cc own n' h' (k1 + M.2.2.2.2.cells) (k2 + M.2.2.2.2.slots) pc' vs (v.toList ++ st)) : Z G X cc own n h k1 k2 pc vs st0 := by
  subst hR
  subst hs
  obtain ⟨hd, rfl⟩ := hd
  obtain ⟨y, cM, maxL, ret, rm⟩ := M
  obtain ⟨w1, w2, w4, hy1, hnone, hdd⟩ := hM
  simp only at hnone
  subst hnone
  intro hC H locs ls hH hS hL
  have k9 := fun v n' h' H1 locs1 q0 q1 q2 => kk v n' h' q0 hC H1 locs1 ls q1 q2 hL
  obtain ⟨p, l, e, R, s, m, args, below, meth, c, Q⟩ := X
  obtain ⟨hx, hb, hml, hown, hts, hal, hG, hsz, hnw⟩ := hC
  exact q_after (va_runIN (As := As) (rest := st) ⟨hx, hb, hml, hown, hts⟩ hc ⟨va_cnB na hts (q_gin (M := (y, cM, maxL, none, rm)) (own' := own) (idx := idx) w1) rfl rfl rfl (hnw _ _ _ _ hl) (hts _ w4) hdd hf, hy1, hts _ w2⟩ ⟨q_blind, fun U hU hW => ⟨rfl, hG, by rw [hU]; exact hH, qv_trans hal hW.alike, q_nwW hnw hW⟩⟩ rfl hn hL.1 rfl (lv_room hw) hd ⟨hk1, hk2⟩) hS (fun v n' h' H1 locs1 q0 q1 q2 => k9 v n' h' H1 locs1 q0 q1 q2)
end ZE
end
section
/-! methods: name, bytes, locals, type, room; what a call needs of the tables -/
theorem mg {w : Cond} (i : Nat) (h : tables_1[i]? = some w) (hg : goodWord w = true) : w ∈ lw_gd := List.mem_filter.mpr ⟨List.mem_append_right _ (List.mem_of_getElem? h), hg⟩
theorem mgp {w : Cond} (i : Nat) (h : (k2_sels lw_privs)[i]? = some w) (hg : goodWord w = true) : w ∈ lw_gd := List.mem_filter.mpr ⟨List.mem_append_left _ (List.mem_of_getElem? h), hg⟩
theorem mt {w : Cond} (i : Nat) (h : tables_1[i]? = some w) : w ∈ lw_tbl := List.mem_append_right _ (List.mem_of_getElem? h)
theorem w_ini_0 : Cond.initialized RX0 ∈ lw_gd := mg 8 (by decide +kernel) (by decide +kernel)
theorem w_ini_1 : Cond.initialized RX1 ∈ lw_gd := mg 5 (by decide +kernel) (by decide +kernel)
theorem w_ini_2 : Cond.initialized RX2 ∈ lw_gd := mg 10 (by decide +kernel) (by decide +kernel)
theorem w_ini_3 : Cond.initialized RX3 ∈ lw_gd := mg 9 (by decide +kernel) (by decide +kernel)
theorem w_ini_4 : Cond.initialized RX4 ∈ lw_gd := mg 3 (by decide +kernel) (by decide +kernel)
theorem w_ini_5 : Cond.initialized RX5 ∈ lw_gd := mg 7 (by decide +kernel) (by decide +kernel)
theorem w_ini_6 : Cond.initialized RX6 ∈ lw_gd := mg 4 (by decide +kernel) (by decide +kernel)
theorem w_ini_7 : Cond.initialized RX7 ∈ lw_gd := mg 2 (by decide +kernel) (by decide +kernel)
theorem w_ini_8 : Cond.initialized RX8 ∈ lw_gd := mg 6 (by decide +kernel) (by decide +kernel)
theorem w_ini_9 : Cond.initialized RX9 ∈ lw_gd := mg 11 (by decide +kernel) (by decide +kernel)
theorem w_ini_10 : Cond.initialized RX10 ∈ lw_gd := mg 1 (by decide +kernel) (by decide +kernel)
theorem w_ini_11 : Cond.initialized RX11 ∈ lw_gd := mg 12 (by decide +kernel) (by decide +kernel)
theorem w_ini_J6 : Cond.initialized RJ6 ∈ lw_gd := mg 16 (by decide +kernel) (by decide +kernel)
theorem w_ini_J7 : Cond.initialized RJ7 ∈ lw_gd := mg 15 (by decide +kernel) (by decide +kernel)
def rm_X10_init : Room := { frames := 3, cells := 139, slots := 781, locals := 62 }
def M_X10_init : qMI := (yX10_init, cX10_init, 2, none, rm_X10_init)
theorem f_X10_init : qMc M_X10_init 0 := ⟨mg 21 (by decide +kernel) (by decide +kernel), mg 20 (by decide +kernel) (by decide +kernel), w_ini_10, rfl, rfl, ⟨by decide +kernel, by decide +kernel, by decide +kernel⟩⟩
def rm_X10_write : Room := { frames := 0, cells := 0, slots := 0, locals := 0 }
def M_X10_write : qMI := (yX10_write, cX10_write, 2, (some .int), rm_X10_write)
theorem f_X10_write : qMV M_X10_write 10 1 := ⟨mg 348 (by decide +kernel) (by decide +kernel), mg 346 (by decide +kernel) (by decide +kernel), mg 347 (by decide +kernel) (by decide +kernel), w_ini_10, by decide, rfl, ⟨by decide +kernel, by decide +kernel, by decide +kernel⟩⟩
def rm_X10_wipe : Room := { frames := 0, cells := 0, slots := 0, locals := 0 }
def M_X10_wipe : qMI := (yX10_wipe, cX10_wipe, 2, (some .int), rm_X10_wipe)
theorem f_X10_wipe : qMV M_X10_wipe 10 0 := ⟨mg 352 (by decide +kernel) (by decide +kernel), mg 350 (by decide +kernel) (by decide +kernel), mg 351 (by decide +kernel) (by decide +kernel), w_ini_10, by decide, rfl, ⟨by decide +kernel, by decide +kernel, by decide +kernel⟩⟩
def rm_X10_fault : Room := { frames := 4, cells := 0, slots := 0, locals := 86 }
def M_X10_fault : qMI := (yX10_fault, cX10_fault, 1, (some .int), rm_X10_fault)
theorem f_X10_fault : qMV M_X10_fault 10 0 := ⟨mg 356 (by decide +kernel) (by decide +kernel), mg 354 (by decide +kernel) (by decide +kernel), mg 355 (by decide +kernel) (by decide +kernel), w_ini_10, by decide, rfl, ⟨by decide +kernel, by decide +kernel, by decide +kernel⟩⟩
def rm_X10_bazaar : Room := { frames := 4, cells := 0, slots := 0, locals := 86 }
def M_X10_bazaar : qMI := (yX10_bazaar, cX10_bazaar, 2, (some .int), rm_X10_bazaar)
theorem f_X10_bazaar : qMV M_X10_bazaar 10 0 := ⟨mg 395 (by decide +kernel) (by decide +kernel), mg 393 (by decide +kernel) (by decide +kernel), mg 394 (by decide +kernel) (by decide +kernel), w_ini_10, by decide, rfl, ⟨by decide +kernel, by decide +kernel, by decide +kernel⟩⟩
def rm_X10_fencer : Room := { frames := 4, cells := 0, slots := 0, locals := 100 }
def M_X10_fencer : qMI := (yX10_fencer, cX10_fencer, 3, (some .int), rm_X10_fencer)
theorem f_X10_fencer : qMV M_X10_fencer 10 2 := ⟨mg 420 (by decide +kernel) (by decide +kernel), mg 418 (by decide +kernel) (by decide +kernel), mg 419 (by decide +kernel) (by decide +kernel), w_ini_10, by decide, rfl, ⟨by decide +kernel, by decide +kernel, by decide +kernel⟩⟩
def rm_X10_good : Room := { frames := 1, cells := 0, slots := 0, locals := 21 }
def M_X10_good : qMI := (yX10_good, cX10_good, 3, (some .int), rm_X10_good)
theorem f_X10_good : qMV M_X10_good 10 2 := ⟨mg 460 (by decide +kernel) (by decide +kernel), mg 458 (by decide +kernel) (by decide +kernel), mg 459 (by decide +kernel) (by decide +kernel), w_ini_10, by decide, rfl, ⟨by decide +kernel, by decide +kernel, by decide +kernel⟩⟩
def rm_X10_bout : Room := { frames := 3, cells := 0, slots := 0, locals := 78 }
def M_X10_bout : qMI := (yX10_bout, cX10_bout, 5, (some .int), rm_X10_bout)
theorem f_X10_bout : qMV M_X10_bout 10 3 := ⟨mg 468 (by decide +kernel) (by decide +kernel), mg 466 (by decide +kernel) (by decide +kernel), mg 467 (by decide +kernel) (by decide +kernel), w_ini_10, by decide, rfl, ⟨by decide +kernel, by decide +kernel, by decide +kernel⟩⟩
def rm_X10_cost : Room := { frames := 4, cells := 0, slots := 0, locals := 100 }
def M_X10_cost : qMI := (yX10_cost, cX10_cost, 4, (some .int), rm_X10_cost)
theorem f_X10_cost : qMV M_X10_cost 10 2 := ⟨mg 477 (by decide +kernel) (by decide +kernel), mg 475 (by decide +kernel) (by decide +kernel), mg 476 (by decide +kernel) (by decide +kernel), w_ini_10, by decide, rfl, ⟨by decide +kernel, by decide +kernel, by decide +kernel⟩⟩
def rm_X10_meet : Room := { frames := 5, cells := 0, slots := 0, locals := 124 }
def M_X10_meet : qMI := (yX10_meet, cX10_meet, 4, (some .int), rm_X10_meet)
theorem f_X10_meet : qMV M_X10_meet 10 2 := ⟨mg 492 (by decide +kernel) (by decide +kernel), mg 490 (by decide +kernel) (by decide +kernel), mg 491 (by decide +kernel) (by decide +kernel), w_ini_10, by decide, rfl, ⟨by decide +kernel, by decide +kernel, by decide +kernel⟩⟩
def rm_X10_step : Room := { frames := 3, cells := 0, slots := 0, locals := 82 }
def M_X10_step : qMI := (yX10_step, cX10_step, 2, (some .int), rm_X10_step)
theorem f_X10_step : qMV M_X10_step 10 1 := ⟨mg 524 (by decide +kernel) (by decide +kernel), mg 522 (by decide +kernel) (by decide +kernel), mg 523 (by decide +kernel) (by decide +kernel), w_ini_10, by decide, rfl, ⟨by decide +kernel, by decide +kernel, by decide +kernel⟩⟩
def rm_X10_salute : Room := { frames := 3, cells := 0, slots := 0, locals := 82 }
def M_X10_salute : qMI := (yX10_salute, cX10_salute, 3, (some .int), rm_X10_salute)
theorem f_X10_salute : qMV M_X10_salute 10 2 := ⟨mg 529 (by decide +kernel) (by decide +kernel), mg 527 (by decide +kernel) (by decide +kernel), mg 528 (by decide +kernel) (by decide +kernel), w_ini_10, by decide, rfl, ⟨by decide +kernel, by decide +kernel, by decide +kernel⟩⟩
def rm_X10_undo : Room := { frames := 3, cells := 0, slots := 0, locals := 82 }
def M_X10_undo : qMI := (yX10_undo, cX10_undo, 1, (some .int), rm_X10_undo)
theorem f_X10_undo : qMV M_X10_undo 10 0 := ⟨mg 534 (by decide +kernel) (by decide +kernel), mg 532 (by decide +kernel) (by decide +kernel), mg 533 (by decide +kernel) (by decide +kernel), w_ini_10, by decide, rfl, ⟨by decide +kernel, by decide +kernel, by decide +kernel⟩⟩
def rm_X10_chain : Room := { frames := 5, cells := 0, slots := 0, locals := 126 }
def M_X10_chain : qMI := (yX10_chain, cX10_chain, 4, (some .int), rm_X10_chain)
theorem f_X10_chain : qMV M_X10_chain 10 3 := ⟨mg 542 (by decide +kernel) (by decide +kernel), mg 540 (by decide +kernel) (by decide +kernel), mg 541 (by decide +kernel) (by decide +kernel), w_ini_10, by decide, rfl, ⟨by decide +kernel, by decide +kernel, by decide +kernel⟩⟩
def rm_X10_order : Room := { frames := 5, cells := 0, slots := 0, locals := 123 }
def M_X10_order : qMI := (yX10_order, cX10_order, 2, (some .int), rm_X10_order)
theorem f_X10_order : qMV M_X10_order 10 1 := ⟨mg 565 (by decide +kernel) (by decide +kernel), mg 563 (by decide +kernel) (by decide +kernel), mg 564 (by decide +kernel) (by decide +kernel), w_ini_10, by decide, rfl, ⟨by decide +kernel, by decide +kernel, by decide +kernel⟩⟩
def rm_X10_judge : Room := { frames := 6, cells := 0, slots := 0, locals := 147 }
def M_X10_judge : qMI := (yX10_judge, cX10_judge, 6, (some .int), rm_X10_judge)
theorem f_X10_judge : qMV M_X10_judge 10 2 := ⟨mg 599 (by decide +kernel) (by decide +kernel), mg 597 (by decide +kernel) (by decide +kernel), mg 598 (by decide +kernel) (by decide +kernel), w_ini_10, by decide, rfl, ⟨by decide +kernel, by decide +kernel, by decide +kernel⟩⟩
def rm_X10_see : Room := { frames := 1, cells := 0, slots := 0, locals := 22 }
def M_X10_see : qMI := (yX10_see, cX10_see, 3, (some .int), rm_X10_see)
theorem f_X10_see : qMV M_X10_see 10 2 := ⟨mg 618 (by decide +kernel) (by decide +kernel), mg 616 (by decide +kernel) (by decide +kernel), mg 617 (by decide +kernel) (by decide +kernel), w_ini_10, by decide, rfl, ⟨by decide +kernel, by decide +kernel, by decide +kernel⟩⟩
def rm_X10_unsee : Room := { frames := 0, cells := 0, slots := 0, locals := 0 }
def M_X10_unsee : qMI := (yX10_unsee, cX10_unsee, 2, (some .int), rm_X10_unsee)
theorem f_X10_unsee : qMV M_X10_unsee 10 0 := ⟨mg 626 (by decide +kernel) (by decide +kernel), mg 624 (by decide +kernel) (by decide +kernel), mg 625 (by decide +kernel) (by decide +kernel), w_ini_10, by decide, rfl, ⟨by decide +kernel, by decide +kernel, by decide +kernel⟩⟩
def rm_X10_masks : Room := { frames := 4, cells := 0, slots := 0, locals := 99 }
def M_X10_masks : qMI := (yX10_masks, cX10_masks, 2, (some .int), rm_X10_masks)
theorem f_X10_masks : qMV M_X10_masks 10 1 := ⟨mg 630 (by decide +kernel) (by decide +kernel), mg 628 (by decide +kernel) (by decide +kernel), mg 629 (by decide +kernel) (by decide +kernel), w_ini_10, by decide, rfl, ⟨by decide +kernel, by decide +kernel, by decide +kernel⟩⟩
def rm_X10_share : Room := { frames := 5, cells := 0, slots := 0, locals := 124 }
def M_X10_share : qMI := (yX10_share, cX10_share, 3, (some .int), rm_X10_share)
theorem f_X10_share : qMV M_X10_share 10 2 := ⟨mg 645 (by decide +kernel) (by decide +kernel), mg 643 (by decide +kernel) (by decide +kernel), mg 644 (by decide +kernel) (by decide +kernel), w_ini_10, by decide, rfl, ⟨by decide +kernel, by decide +kernel, by decide +kernel⟩⟩
def rm_X10_rests : Room := { frames := 4, cells := 0, slots := 0, locals := 104 }
def M_X10_rests : qMI := (yX10_rests, cX10_rests, 5, (some .int), rm_X10_rests)
theorem f_X10_rests : qMV M_X10_rests 10 3 := ⟨mg 666 (by decide +kernel) (by decide +kernel), mg 664 (by decide +kernel) (by decide +kernel), mg 665 (by decide +kernel) (by decide +kernel), w_ini_10, by decide, rfl, ⟨by decide +kernel, by decide +kernel, by decide +kernel⟩⟩
def rm_X10_clouded : Room := { frames := 3, cells := 0, slots := 0, locals := 80 }
def M_X10_clouded : qMI := (yX10_clouded, cX10_clouded, 6, (some .int), rm_X10_clouded)
theorem f_X10_clouded : qMV M_X10_clouded 10 4 := ⟨mg 684 (by decide +kernel) (by decide +kernel), mg 682 (by decide +kernel) (by decide +kernel), mg 683 (by decide +kernel) (by decide +kernel), w_ini_10, by decide, rfl, ⟨by decide +kernel, by decide +kernel, by decide +kernel⟩⟩
def rm_X10_seed : Room := { frames := 0, cells := 0, slots := 0, locals := 0 }
def M_X10_seed : qMI := (yX10_seed, cX10_seed, 5, (some .long), rm_X10_seed)
theorem f_X10_seed : qMV M_X10_seed 10 1 := ⟨mg 699 (by decide +kernel) (by decide +kernel), mg 697 (by decide +kernel) (by decide +kernel), mg 698 (by decide +kernel) (by decide +kernel), w_ini_10, by decide, rfl, ⟨by decide +kernel, by decide +kernel, by decide +kernel⟩⟩
def rm_X10_feasts : Room := { frames := 6, cells := 0, slots := 0, locals := 145 }
def M_X10_feasts : qMI := (yX10_feasts, cX10_feasts, 4, (some .int), rm_X10_feasts)
theorem f_X10_feasts : qMV M_X10_feasts 10 1 := ⟨mg 703 (by decide +kernel) (by decide +kernel), mg 701 (by decide +kernel) (by decide +kernel), mg 702 (by decide +kernel) (by decide +kernel), w_ini_10, by decide, rfl, ⟨by decide +kernel, by decide +kernel, by decide +kernel⟩⟩
def rm_X10_keep : Room := { frames := 2, cells := 0, slots := 0, locals := 61 }
def M_X10_keep : qMI := (yX10_keep, cX10_keep, 2, (some .int), rm_X10_keep)
theorem f_X10_keep : qMV M_X10_keep 10 1 := ⟨mg 719 (by decide +kernel) (by decide +kernel), mg 717 (by decide +kernel) (by decide +kernel), mg 718 (by decide +kernel) (by decide +kernel), w_ini_10, by decide, rfl, ⟨by decide +kernel, by decide +kernel, by decide +kernel⟩⟩
def rm_X10_again : Room := { frames := 2, cells := 0, slots := 0, locals := 61 }
def M_X10_again : qMI := (yX10_again, cX10_again, 2, (some .int), rm_X10_again)
theorem f_X10_again : qMV M_X10_again 10 1 := ⟨mg 723 (by decide +kernel) (by decide +kernel), mg 721 (by decide +kernel) (by decide +kernel), mg 722 (by decide +kernel) (by decide +kernel), w_ini_10, by decide, rfl, ⟨by decide +kernel, by decide +kernel, by decide +kernel⟩⟩
def rm_X10_count : Room := { frames := 4, cells := 0, slots := 0, locals := 100 }
def M_X10_count : qMI := (yX10_count, cX10_count, 2, (some .int), rm_X10_count)
theorem f_X10_count : qMV M_X10_count 10 1 := ⟨mg 727 (by decide +kernel) (by decide +kernel), mg 725 (by decide +kernel) (by decide +kernel), mg 726 (by decide +kernel) (by decide +kernel), w_ini_10, by decide, rfl, ⟨by decide +kernel, by decide +kernel, by decide +kernel⟩⟩
def rm_X10_refusalOfPair : Room := { frames := 1, cells := 0, slots := 0, locals := 21 }
def M_X10_refusalOfPair : qMI := (yX10_refusalOfPair, cX10_refusalOfPair, 5, (some .int), rm_X10_refusalOfPair)
theorem f_X10_refusalOfPair : qMV M_X10_refusalOfPair 10 4 := ⟨mg 472 (by decide +kernel) (by decide +kernel), mg 471 (by decide +kernel) (by decide +kernel), mgp 6 (by decide +kernel) (by decide +kernel), w_ini_10, by decide, rfl, ⟨by decide +kernel, by decide +kernel, by decide +kernel⟩⟩
def rm_X10_refusalOfTrade : Room := { frames := 1, cells := 0, slots := 0, locals := 21 }
def M_X10_refusalOfTrade : qMI := (yX10_refusalOfTrade, cX10_refusalOfTrade, 3, (some .int), rm_X10_refusalOfTrade)
theorem f_X10_refusalOfTrade : qMV M_X10_refusalOfTrade 10 2 := ⟨mg 481 (by decide +kernel) (by decide +kernel), mg 480 (by decide +kernel) (by decide +kernel), mgp 7 (by decide +kernel) (by decide +kernel), w_ini_10, by decide, rfl, ⟨by decide +kernel, by decide +kernel, by decide +kernel⟩⟩
def rm_X10_sumOf : Room := { frames := 0, cells := 0, slots := 0, locals := 0 }
def M_X10_sumOf : qMI := (yX10_sumOf, cX10_sumOf, 3, (some .int), rm_X10_sumOf)
theorem f_X10_sumOf : qMS M_X10_sumOf 1 := ⟨mg 730 (by decide +kernel) (by decide +kernel), mg 729 (by decide +kernel) (by decide +kernel), w_ini_10, ⟨by decide +kernel, by decide +kernel, by decide +kernel⟩⟩
def rm_X11_init : Room := { frames := 1, cells := 16, slots := 480, locals := 20 }
def M_X11_init : qMI := (yX11_init, cX11_init, 1, none, rm_X11_init)
theorem f_X11_init : qMc M_X11_init 0 := ⟨mg 740 (by decide +kernel) (by decide +kernel), mg 739 (by decide +kernel) (by decide +kernel), w_ini_11, rfl, rfl, ⟨by decide +kernel, by decide +kernel, by decide +kernel⟩⟩
def rm_X11_in : Room := { frames := 0, cells := 0, slots := 0, locals := 0 }
def M_X11_in : qMI := (yX11_in, cX11_in, 6, (some .boolean), rm_X11_in)
theorem f_X11_in : qMS M_X11_in 3 := ⟨mg 846 (by decide +kernel) (by decide +kernel), mg 845 (by decide +kernel) (by decide +kernel), w_ini_11, ⟨by decide +kernel, by decide +kernel, by decide +kernel⟩⟩
def rm_X11_has : Room := { frames := 0, cells := 0, slots := 0, locals := 0 }
def M_X11_has : qMI := (yX11_has, cX11_has, 2, (some .boolean), rm_X11_has)
theorem f_X11_has : qMS M_X11_has 2 := ⟨mg 996 (by decide +kernel) (by decide +kernel), mg 995 (by decide +kernel) (by decide +kernel), w_ini_11, ⟨by decide +kernel, by decide +kernel, by decide +kernel⟩⟩
def rm_X11_ones : Room := { frames := 0, cells := 0, slots := 0, locals := 0 }
def M_X11_ones : qMI := (yX11_ones, cX11_ones, 3, (some .int), rm_X11_ones)
theorem f_X11_ones : qMS M_X11_ones 1 := ⟨mg 1048 (by decide +kernel) (by decide +kernel), mg 1047 (by decide +kernel) (by decide +kernel), w_ini_11, ⟨by decide +kernel, by decide +kernel, by decide +kernel⟩⟩
def rm_X11_write : Room := { frames := 1, cells := 0, slots := 0, locals := 25 }
def M_X11_write : qMI := (yX11_write, cX11_write, 2, (some .int), rm_X11_write)
theorem f_X11_write : qMV M_X11_write 11 1 := ⟨mg 842 (by decide +kernel) (by decide +kernel), mg 840 (by decide +kernel) (by decide +kernel), mg 841 (by decide +kernel) (by decide +kernel), w_ini_11, by decide, rfl, ⟨by decide +kernel, by decide +kernel, by decide +kernel⟩⟩
def rm_X11_wipe : Room := { frames := 0, cells := 0, slots := 0, locals := 0 }
def M_X11_wipe : qMI := (yX11_wipe, cX11_wipe, 2, (some .int), rm_X11_wipe)
theorem f_X11_wipe : qMV M_X11_wipe 11 0 := ⟨mg 850 (by decide +kernel) (by decide +kernel), mg 848 (by decide +kernel) (by decide +kernel), mg 849 (by decide +kernel) (by decide +kernel), w_ini_11, by decide, rfl, ⟨by decide +kernel, by decide +kernel, by decide +kernel⟩⟩
def rm_X11_figureOf : Room := { frames := 1, cells := 0, slots := 0, locals := 25 }
def M_X11_figureOf : qMI := (yX11_figureOf, cX11_figureOf, 4, (some .int), rm_X11_figureOf)
theorem f_X11_figureOf : qMV M_X11_figureOf 11 1 := ⟨mg 866 (by decide +kernel) (by decide +kernel), mg 865 (by decide +kernel) (by decide +kernel), mgp 21 (by decide +kernel) (by decide +kernel), w_ini_11, by decide, rfl, ⟨by decide +kernel, by decide +kernel, by decide +kernel⟩⟩
def rm_X11_moveBy : Room := { frames := 0, cells := 0, slots := 0, locals := 0 }
def M_X11_moveBy : qMI := (yX11_moveBy, cX11_moveBy, 1, (some .int), rm_X11_moveBy)
theorem f_X11_moveBy : qMS M_X11_moveBy 1 := ⟨mg 873 (by decide +kernel) (by decide +kernel), mg 872 (by decide +kernel) (by decide +kernel), w_ini_11, ⟨by decide +kernel, by decide +kernel, by decide +kernel⟩⟩
def rm_X11_moveOf : Room := { frames := 1, cells := 0, slots := 0, locals := 20 }
def M_X11_moveOf : qMI := (yX11_moveOf, cX11_moveOf, 3, (some .int), rm_X11_moveOf)
theorem f_X11_moveOf : qMV M_X11_moveOf 11 0 := ⟨mg 870 (by decide +kernel) (by decide +kernel), mg 869 (by decide +kernel) (by decide +kernel), mgp 22 (by decide +kernel) (by decide +kernel), w_ini_11, by decide, rfl, ⟨by decide +kernel, by decide +kernel, by decide +kernel⟩⟩
def rm_X11_readText : Room := { frames := 3, cells := 0, slots := 0, locals := 70 }
def M_X11_readText : qMI := (yX11_readText, cX11_readText, 1, (some .int), rm_X11_readText)
theorem f_X11_readText : qMV M_X11_readText 11 0 := ⟨mg 858 (by decide +kernel) (by decide +kernel), mg 857 (by decide +kernel) (by decide +kernel), mgp 19 (by decide +kernel) (by decide +kernel), w_ini_11, by decide, rfl, ⟨by decide +kernel, by decide +kernel, by decide +kernel⟩⟩
def rm_X11_readPart : Room := { frames := 2, cells := 0, slots := 0, locals := 48 }
def M_X11_readPart : qMI := (yX11_readPart, cX11_readPart, 3, none, rm_X11_readPart)
theorem f_X11_readPart : qMV M_X11_readPart 11 1 := ⟨mg 862 (by decide +kernel) (by decide +kernel), mg 861 (by decide +kernel) (by decide +kernel), mgp 20 (by decide +kernel) (by decide +kernel), w_ini_11, by decide, rfl, ⟨by decide +kernel, by decide +kernel, by decide +kernel⟩⟩
def rm_X11_fault : Room := { frames := 4, cells := 0, slots := 0, locals := 90 }
def M_X11_fault : qMI := (yX11_fault, cX11_fault, 1, (some .int), rm_X11_fault)
theorem f_X11_fault : qMV M_X11_fault 11 0 := ⟨mg 854 (by decide +kernel) (by decide +kernel), mg 852 (by decide +kernel) (by decide +kernel), mg 853 (by decide +kernel) (by decide +kernel), w_ini_11, by decide, rfl, ⟨by decide +kernel, by decide +kernel, by decide +kernel⟩⟩
def rm_X11_bazaar : Room := { frames := 4, cells := 0, slots := 0, locals := 90 }
def M_X11_bazaar : qMI := (yX11_bazaar, cX11_bazaar, 3, (some .int), rm_X11_bazaar)
theorem f_X11_bazaar : qMV M_X11_bazaar 11 0 := ⟨mg 877 (by decide +kernel) (by decide +kernel), mg 875 (by decide +kernel) (by decide +kernel), mg 876 (by decide +kernel) (by decide +kernel), w_ini_11, by decide, rfl, ⟨by decide +kernel, by decide +kernel, by decide +kernel⟩⟩
def rm_X11_isFencer : Room := { frames := 1, cells := 0, slots := 0, locals := 25 }
def M_X11_isFencer : qMI := (yX11_isFencer, cX11_isFencer, 2, (some .boolean), rm_X11_isFencer)
theorem f_X11_isFencer : qMV M_X11_isFencer 11 1 := ⟨mg 885 (by decide +kernel) (by decide +kernel), mg 884 (by decide +kernel) (by decide +kernel), mgp 23 (by decide +kernel) (by decide +kernel), w_ini_11, by decide, rfl, ⟨by decide +kernel, by decide +kernel, by decide +kernel⟩⟩
def rm_X11_isGood : Room := { frames := 1, cells := 0, slots := 0, locals := 25 }
def M_X11_isGood : qMI := (yX11_isGood, cX11_isGood, 2, (some .boolean), rm_X11_isGood)
theorem f_X11_isGood : qMV M_X11_isGood 11 1 := ⟨mg 931 (by decide +kernel) (by decide +kernel), mg 930 (by decide +kernel) (by decide +kernel), mgp 32 (by decide +kernel) (by decide +kernel), w_ini_11, by decide, rfl, ⟨by decide +kernel, by decide +kernel, by decide +kernel⟩⟩
def rm_X11_answer : Room := { frames := 0, cells := 0, slots := 0, locals := 0 }
def M_X11_answer : qMI := (yX11_answer, cX11_answer, 1, (some .int), rm_X11_answer)
theorem f_X11_answer : qMS M_X11_answer 1 := ⟨mg 920 (by decide +kernel) (by decide +kernel), mg 919 (by decide +kernel) (by decide +kernel), w_ini_11, ⟨by decide +kernel, by decide +kernel, by decide +kernel⟩⟩
def rm_X11_moveIn : Room := { frames := 1, cells := 0, slots := 0, locals := 20 }
def M_X11_moveIn : qMI := (yX11_moveIn, cX11_moveIn, 6, (some .int), rm_X11_moveIn)
theorem f_X11_moveIn : qMV M_X11_moveIn 11 4 := ⟨mg 917 (by decide +kernel) (by decide +kernel), mg 916 (by decide +kernel) (by decide +kernel), mgp 31 (by decide +kernel) (by decide +kernel), w_ini_11, by decide, rfl, ⟨by decide +kernel, by decide +kernel, by decide +kernel⟩⟩
def rm_X11_hits : Room := { frames := 0, cells := 0, slots := 0, locals := 0 }
def M_X11_hits : qMI := (yX11_hits, cX11_hits, 2, (some .boolean), rm_X11_hits)
theorem f_X11_hits : qMS M_X11_hits 2 := ⟨mg 923 (by decide +kernel) (by decide +kernel), mg 922 (by decide +kernel) (by decide +kernel), w_ini_11, ⟨by decide +kernel, by decide +kernel, by decide +kernel⟩⟩
def rm_X11_pass : Room := { frames := 2, cells := 0, slots := 0, locals := 45 }
def M_X11_pass : qMI := (yX11_pass, cX11_pass, 11, none, rm_X11_pass)
theorem f_X11_pass : qMV M_X11_pass 11 5 := ⟨mg 913 (by decide +kernel) (by decide +kernel), mg 912 (by decide +kernel) (by decide +kernel), mgp 30 (by decide +kernel) (by decide +kernel), w_ini_11, by decide, rfl, ⟨by decide +kernel, by decide +kernel, by decide +kernel⟩⟩
def rm_X11_begin : Room := { frames := 0, cells := 0, slots := 0, locals := 0 }
def M_X11_begin : qMI := (yX11_begin, cX11_begin, 1, none, rm_X11_begin)
theorem f_X11_begin : qMV M_X11_begin 11 0 := ⟨mg 909 (by decide +kernel) (by decide +kernel), mg 908 (by decide +kernel) (by decide +kernel), mgp 29 (by decide +kernel) (by decide +kernel), w_ini_11, by decide, rfl, ⟨by decide +kernel, by decide +kernel, by decide +kernel⟩⟩
def rm_X11_fight : Room := { frames := 3, cells := 0, slots := 0, locals := 75 }
def M_X11_fight : qMI := (yX11_fight, cX11_fight, 5, none, rm_X11_fight)
theorem f_X11_fight : qMV M_X11_fight 11 4 := ⟨mg 905 (by decide +kernel) (by decide +kernel), mg 904 (by decide +kernel) (by decide +kernel), mgp 28 (by decide +kernel) (by decide +kernel), w_ini_11, by decide, rfl, ⟨by decide +kernel, by decide +kernel, by decide +kernel⟩⟩
def rm_X11_fightOn : Room := { frames := 4, cells := 0, slots := 0, locals := 99 }
def M_X11_fightOn : qMI := (yX11_fightOn, cX11_fightOn, 4, none, rm_X11_fightOn)
theorem f_X11_fightOn : qMV M_X11_fightOn 11 3 := ⟨mg 901 (by decide +kernel) (by decide +kernel), mg 900 (by decide +kernel) (by decide +kernel), mgp 27 (by decide +kernel) (by decide +kernel), w_ini_11, by decide, rfl, ⟨by decide +kernel, by decide +kernel, by decide +kernel⟩⟩
def rm_X11_beats : Room := { frames := 5, cells := 0, slots := 0, locals := 122 }
def M_X11_beats : qMI := (yX11_beats, cX11_beats, 4, (some .boolean), rm_X11_beats)
theorem f_X11_beats : qMV M_X11_beats 11 3 := ⟨mg 897 (by decide +kernel) (by decide +kernel), mg 896 (by decide +kernel) (by decide +kernel), mgp 26 (by decide +kernel) (by decide +kernel), w_ini_11, by decide, rfl, ⟨by decide +kernel, by decide +kernel, by decide +kernel⟩⟩
def rm_X11_beatenBy : Room := { frames := 6, cells := 0, slots := 0, locals := 145 }
def M_X11_beatenBy : qMI := (yX11_beatenBy, cX11_beatenBy, 4, (some .int), rm_X11_beatenBy)
theorem f_X11_beatenBy : qMV M_X11_beatenBy 11 1 := ⟨mg 893 (by decide +kernel) (by decide +kernel), mg 892 (by decide +kernel) (by decide +kernel), mgp 25 (by decide +kernel) (by decide +kernel), w_ini_11, by decide, rfl, ⟨by decide +kernel, by decide +kernel, by decide +kernel⟩⟩
def rm_X11_ownedBy : Room := { frames := 0, cells := 0, slots := 0, locals := 0 }
def M_X11_ownedBy : qMI := (yX11_ownedBy, cX11_ownedBy, 4, (some .int), rm_X11_ownedBy)
theorem f_X11_ownedBy : qMV M_X11_ownedBy 11 1 := ⟨mg 889 (by decide +kernel) (by decide +kernel), mg 888 (by decide +kernel) (by decide +kernel), mgp 24 (by decide +kernel) (by decide +kernel), w_ini_11, by decide, rfl, ⟨by decide +kernel, by decide +kernel, by decide +kernel⟩⟩
def rm_X11_fencer : Room := { frames := 7, cells := 0, slots := 0, locals := 168 }
def M_X11_fencer : qMI := (yX11_fencer, cX11_fencer, 3, (some .int), rm_X11_fencer)
theorem f_X11_fencer : qMV M_X11_fencer 11 2 := ⟨mg 881 (by decide +kernel) (by decide +kernel), mg 879 (by decide +kernel) (by decide +kernel), mg 880 (by decide +kernel) (by decide +kernel), w_ini_11, by decide, rfl, ⟨by decide +kernel, by decide +kernel, by decide +kernel⟩⟩
def rm_X11_good : Room := { frames := 2, cells := 0, slots := 0, locals := 46 }
def M_X11_good : qMI := (yX11_good, cX11_good, 3, (some .int), rm_X11_good)
theorem f_X11_good : qMV M_X11_good 11 2 := ⟨mg 927 (by decide +kernel) (by decide +kernel), mg 925 (by decide +kernel) (by decide +kernel), mg 926 (by decide +kernel) (by decide +kernel), w_ini_11, by decide, rfl, ⟨by decide +kernel, by decide +kernel, by decide +kernel⟩⟩
def rm_X11_bout : Room := { frames := 5, cells := 0, slots := 0, locals := 122 }
def M_X11_bout : qMI := (yX11_bout, cX11_bout, 4, (some .int), rm_X11_bout)
theorem f_X11_bout : qMV M_X11_bout 11 3 := ⟨mg 935 (by decide +kernel) (by decide +kernel), mg 933 (by decide +kernel) (by decide +kernel), mg 934 (by decide +kernel) (by decide +kernel), w_ini_11, by decide, rfl, ⟨by decide +kernel, by decide +kernel, by decide +kernel⟩⟩
def rm_X11_costFrom : Room := { frames := 5, cells := 0, slots := 0, locals := 122 }
def M_X11_costFrom : qMI := (yX11_costFrom, cX11_costFrom, 6, (some .int), rm_X11_costFrom)
theorem f_X11_costFrom : qMV M_X11_costFrom 11 4 := ⟨mg 944 (by decide +kernel) (by decide +kernel), mg 943 (by decide +kernel) (by decide +kernel), mgp 33 (by decide +kernel) (by decide +kernel), w_ini_11, by decide, rfl, ⟨by decide +kernel, by decide +kernel, by decide +kernel⟩⟩
def rm_X11_cost : Room := { frames := 6, cells := 0, slots := 0, locals := 147 }
def M_X11_cost : qMI := (yX11_cost, cX11_cost, 3, (some .int), rm_X11_cost)
theorem f_X11_cost : qMV M_X11_cost 11 2 := ⟨mg 940 (by decide +kernel) (by decide +kernel), mg 938 (by decide +kernel) (by decide +kernel), mg 939 (by decide +kernel) (by decide +kernel), w_ini_11, by decide, rfl, ⟨by decide +kernel, by decide +kernel, by decide +kernel⟩⟩
def rm_X11_keepAct : Room := { frames := 0, cells := 0, slots := 0, locals := 0 }
def M_X11_keepAct : qMI := (yX11_keepAct, cX11_keepAct, 2, none, rm_X11_keepAct)
theorem f_X11_keepAct : qMV M_X11_keepAct 11 0 := ⟨mg 952 (by decide +kernel) (by decide +kernel), mg 951 (by decide +kernel) (by decide +kernel), mgp 34 (by decide +kernel) (by decide +kernel), w_ini_11, by decide, rfl, ⟨by decide +kernel, by decide +kernel, by decide +kernel⟩⟩
def rm_X11_stepOn : Room := { frames := 0, cells := 0, slots := 0, locals := 0 }
def M_X11_stepOn : qMI := (yX11_stepOn, cX11_stepOn, 4, none, rm_X11_stepOn)
theorem f_X11_stepOn : qMV M_X11_stepOn 11 2 := ⟨mg 964 (by decide +kernel) (by decide +kernel), mg 963 (by decide +kernel) (by decide +kernel), mgp 37 (by decide +kernel) (by decide +kernel), w_ini_11, by decide, rfl, ⟨by decide +kernel, by decide +kernel, by decide +kernel⟩⟩
def rm_X11_giveOn : Room := { frames := 0, cells := 0, slots := 0, locals := 0 }
def M_X11_giveOn : qMI := (yX11_giveOn, cX11_giveOn, 5, none, rm_X11_giveOn)
theorem f_X11_giveOn : qMV M_X11_giveOn 11 3 := ⟨mg 960 (by decide +kernel) (by decide +kernel), mg 959 (by decide +kernel) (by decide +kernel), mgp 36 (by decide +kernel) (by decide +kernel), w_ini_11, by decide, rfl, ⟨by decide +kernel, by decide +kernel, by decide +kernel⟩⟩
def rm_X11_meetOn : Room := { frames := 6, cells := 0, slots := 0, locals := 147 }
def M_X11_meetOn : qMI := (yX11_meetOn, cX11_meetOn, 8, (some .boolean), rm_X11_meetOn)
theorem f_X11_meetOn : qMV M_X11_meetOn 11 3 := ⟨mg 956 (by decide +kernel) (by decide +kernel), mg 955 (by decide +kernel) (by decide +kernel), mgp 35 (by decide +kernel) (by decide +kernel), w_ini_11, by decide, rfl, ⟨by decide +kernel, by decide +kernel, by decide +kernel⟩⟩
def rm_X11_meet : Room := { frames := 7, cells := 0, slots := 0, locals := 174 }
def M_X11_meet : qMI := (yX11_meet, cX11_meet, 3, (some .int), rm_X11_meet)
theorem f_X11_meet : qMV M_X11_meet 11 2 := ⟨mg 948 (by decide +kernel) (by decide +kernel), mg 946 (by decide +kernel) (by decide +kernel), mg 947 (by decide +kernel) (by decide +kernel), w_ini_11, by decide, rfl, ⟨by decide +kernel, by decide +kernel, by decide +kernel⟩⟩
def rm_X11_step : Room := { frames := 2, cells := 0, slots := 0, locals := 46 }
def M_X11_step : qMI := (yX11_step, cX11_step, 2, (some .int), rm_X11_step)
theorem f_X11_step : qMV M_X11_step 11 1 := ⟨mg 968 (by decide +kernel) (by decide +kernel), mg 966 (by decide +kernel) (by decide +kernel), mg 967 (by decide +kernel) (by decide +kernel), w_ini_11, by decide, rfl, ⟨by decide +kernel, by decide +kernel, by decide +kernel⟩⟩
def rm_X11_salute : Room := { frames := 2, cells := 0, slots := 0, locals := 46 }
def M_X11_salute : qMI := (yX11_salute, cX11_salute, 3, (some .int), rm_X11_salute)
theorem f_X11_salute : qMV M_X11_salute 11 2 := ⟨mg 972 (by decide +kernel) (by decide +kernel), mg 970 (by decide +kernel) (by decide +kernel), mg 971 (by decide +kernel) (by decide +kernel), w_ini_11, by decide, rfl, ⟨by decide +kernel, by decide +kernel, by decide +kernel⟩⟩
def rm_X11_undo : Room := { frames := 0, cells := 0, slots := 0, locals := 0 }
def M_X11_undo : qMI := (yX11_undo, cX11_undo, 2, (some .int), rm_X11_undo)
theorem f_X11_undo : qMV M_X11_undo 11 0 := ⟨mg 977 (by decide +kernel) (by decide +kernel), mg 975 (by decide +kernel) (by decide +kernel), mg 976 (by decide +kernel) (by decide +kernel), w_ini_11, by decide, rfl, ⟨by decide +kernel, by decide +kernel, by decide +kernel⟩⟩
def rm_X11_sumsTo : Room := { frames := 6, cells := 0, slots := 0, locals := 147 }
def M_X11_sumsTo : qMI := (yX11_sumsTo, cX11_sumsTo, 7, none, rm_X11_sumsTo)
theorem f_X11_sumsTo : qMV M_X11_sumsTo 11 2 := ⟨mg 985 (by decide +kernel) (by decide +kernel), mg 984 (by decide +kernel) (by decide +kernel), mgp 38 (by decide +kernel) (by decide +kernel), w_ini_11, by decide, rfl, ⟨by decide +kernel, by decide +kernel, by decide +kernel⟩⟩
def rm_X11_chain : Room := { frames := 7, cells := 0, slots := 0, locals := 173 }
def M_X11_chain : qMI := (yX11_chain, cX11_chain, 8, (some .int), rm_X11_chain)
theorem f_X11_chain : qMV M_X11_chain 11 3 := ⟨mg 981 (by decide +kernel) (by decide +kernel), mg 979 (by decide +kernel) (by decide +kernel), mg 980 (by decide +kernel) (by decide +kernel), w_ini_11, by decide, rfl, ⟨by decide +kernel, by decide +kernel, by decide +kernel⟩⟩
def rm_X11_nextOrder : Room := { frames := 1, cells := 0, slots := 0, locals := 23 }
def M_X11_nextOrder : qMI := (yX11_nextOrder, cX11_nextOrder, 5, (some .boolean), rm_X11_nextOrder)
theorem f_X11_nextOrder : qMV M_X11_nextOrder 11 0 := ⟨mg 1004 (by decide +kernel) (by decide +kernel), mg 1003 (by decide +kernel) (by decide +kernel), mgp 41 (by decide +kernel) (by decide +kernel), w_ini_11, by decide, rfl, ⟨by decide +kernel, by decide +kernel, by decide +kernel⟩⟩
def rm_X11_swap : Room := { frames := 0, cells := 0, slots := 0, locals := 0 }
def M_X11_swap : qMI := (yX11_swap, cX11_swap, 4, none, rm_X11_swap)
theorem f_X11_swap : qMV M_X11_swap 11 2 := ⟨mg 1008 (by decide +kernel) (by decide +kernel), mg 1007 (by decide +kernel) (by decide +kernel), mgp 42 (by decide +kernel) (by decide +kernel), w_ini_11, by decide, rfl, ⟨by decide +kernel, by decide +kernel, by decide +kernel⟩⟩
def rm_X11_against : Room := { frames := 1, cells := 0, slots := 0, locals := 21 }
def M_X11_against : qMI := (yX11_against, cX11_against, 4, (some .int), rm_X11_against)
theorem f_X11_against : qMV M_X11_against 11 0 := ⟨mg 993 (by decide +kernel) (by decide +kernel), mg 992 (by decide +kernel) (by decide +kernel), mgp 39 (by decide +kernel) (by decide +kernel), w_ini_11, by decide, rfl, ⟨by decide +kernel, by decide +kernel, by decide +kernel⟩⟩
def rm_X11_figures : Room := { frames := 0, cells := 0, slots := 0, locals := 0 }
def M_X11_figures : qMI := (yX11_figures, cX11_figures, 3, (some .int), rm_X11_figures)
theorem f_X11_figures : qMV M_X11_figures 11 0 := ⟨mg 1000 (by decide +kernel) (by decide +kernel), mg 999 (by decide +kernel) (by decide +kernel), mgp 40 (by decide +kernel) (by decide +kernel), w_ini_11, by decide, rfl, ⟨by decide +kernel, by decide +kernel, by decide +kernel⟩⟩
def rm_X11_order : Room := { frames := 7, cells := 0, slots := 0, locals := 168 }
def M_X11_order : qMI := (yX11_order, cX11_order, 5, (some .int), rm_X11_order)
theorem f_X11_order : qMV M_X11_order 11 1 := ⟨mg 989 (by decide +kernel) (by decide +kernel), mg 987 (by decide +kernel) (by decide +kernel), mg 988 (by decide +kernel) (by decide +kernel), w_ini_11, by decide, rfl, ⟨by decide +kernel, by decide +kernel, by decide +kernel⟩⟩
def rm_X11_layTrial : Room := { frames := 0, cells := 0, slots := 0, locals := 0 }
def M_X11_layTrial : qMI := (yX11_layTrial, cX11_layTrial, 2, none, rm_X11_layTrial)
theorem f_X11_layTrial : qMV M_X11_layTrial 11 0 := ⟨mg 1021 (by decide +kernel) (by decide +kernel), mg 1020 (by decide +kernel) (by decide +kernel), mgp 43 (by decide +kernel) (by decide +kernel), w_ini_11, by decide, rfl, ⟨by decide +kernel, by decide +kernel, by decide +kernel⟩⟩
def rm_X11_tryThing : Room := { frames := 7, cells := 0, slots := 0, locals := 174 }
def M_X11_tryThing : qMI := (yX11_tryThing, cX11_tryThing, 6, (some .boolean), rm_X11_tryThing)
theorem f_X11_tryThing : qMV M_X11_tryThing 11 3 := ⟨mg 1025 (by decide +kernel) (by decide +kernel), mg 1024 (by decide +kernel) (by decide +kernel), mgp 44 (by decide +kernel) (by decide +kernel), w_ini_11, by decide, rfl, ⟨by decide +kernel, by decide +kernel, by decide +kernel⟩⟩
def rm_X11_thousandTo : Room := { frames := 0, cells := 0, slots := 0, locals := 0 }
def M_X11_thousandTo : qMI := (yX11_thousandTo, cX11_thousandTo, 4, (some .long), rm_X11_thousandTo)
theorem f_X11_thousandTo : qMS M_X11_thousandTo 1 := ⟨mg 1016 (by decide +kernel) (by decide +kernel), mg 1015 (by decide +kernel) (by decide +kernel), w_ini_11, ⟨by decide +kernel, by decide +kernel, by decide +kernel⟩⟩
def rm_X11_judge : Room := { frames := 8, cells := 0, slots := 0, locals := 199 }
def M_X11_judge : qMI := (yX11_judge, cX11_judge, 6, (some .int), rm_X11_judge)
theorem f_X11_judge : qMV M_X11_judge 11 2 := ⟨mg 1012 (by decide +kernel) (by decide +kernel), mg 1010 (by decide +kernel) (by decide +kernel), mg 1011 (by decide +kernel) (by decide +kernel), w_ini_11, by decide, rfl, ⟨by decide +kernel, by decide +kernel, by decide +kernel⟩⟩
def rm_X11_see : Room := { frames := 2, cells := 0, slots := 0, locals := 46 }
def M_X11_see : qMI := (yX11_see, cX11_see, 3, (some .int), rm_X11_see)
theorem f_X11_see : qMV M_X11_see 11 2 := ⟨mg 1029 (by decide +kernel) (by decide +kernel), mg 1027 (by decide +kernel) (by decide +kernel), mg 1028 (by decide +kernel) (by decide +kernel), w_ini_11, by decide, rfl, ⟨by decide +kernel, by decide +kernel, by decide +kernel⟩⟩
def rm_X11_unsee : Room := { frames := 0, cells := 0, slots := 0, locals := 0 }
def M_X11_unsee : qMI := (yX11_unsee, cX11_unsee, 2, (some .int), rm_X11_unsee)
theorem f_X11_unsee : qMV M_X11_unsee 11 0 := ⟨mg 1033 (by decide +kernel) (by decide +kernel), mg 1031 (by decide +kernel) (by decide +kernel), mg 1032 (by decide +kernel) (by decide +kernel), w_ini_11, by decide, rfl, ⟨by decide +kernel, by decide +kernel, by decide +kernel⟩⟩
def rm_X11_mayBeMask : Room := { frames := 4, cells := 0, slots := 0, locals := 99 }
def M_X11_mayBeMask : qMI := (yX11_mayBeMask, cX11_mayBeMask, 6, (some .boolean), rm_X11_mayBeMask)
theorem f_X11_mayBeMask : qMV M_X11_mayBeMask 11 3 := ⟨mg 1041 (by decide +kernel) (by decide +kernel), mg 1040 (by decide +kernel) (by decide +kernel), mgp 45 (by decide +kernel) (by decide +kernel), w_ini_11, by decide, rfl, ⟨by decide +kernel, by decide +kernel, by decide +kernel⟩⟩
def rm_X11_masks : Room := { frames := 5, cells := 0, slots := 0, locals := 124 }
def M_X11_masks : qMI := (yX11_masks, cX11_masks, 8, (some .int), rm_X11_masks)
theorem f_X11_masks : qMV M_X11_masks 11 1 := ⟨mg 1037 (by decide +kernel) (by decide +kernel), mg 1035 (by decide +kernel) (by decide +kernel), mg 1036 (by decide +kernel) (by decide +kernel), w_ini_11, by decide, rfl, ⟨by decide +kernel, by decide +kernel, by decide +kernel⟩⟩
def rm_X11_factorial : Room := { frames := 0, cells := 0, slots := 0, locals := 0 }
def M_X11_factorial : qMI := (yX11_factorial, cX11_factorial, 3, (some .int), rm_X11_factorial)
theorem f_X11_factorial : qMS M_X11_factorial 1 := ⟨mg 1051 (by decide +kernel) (by decide +kernel), mg 1050 (by decide +kernel) (by decide +kernel), w_ini_11, ⟨by decide +kernel, by decide +kernel, by decide +kernel⟩⟩
def rm_X11_common : Room := { frames := 0, cells := 0, slots := 0, locals := 0 }
def M_X11_common : qMI := (yX11_common, cX11_common, 5, (some .int), rm_X11_common)
theorem f_X11_common : qMS M_X11_common 2 := ⟨mg 1058 (by decide +kernel) (by decide +kernel), mg 1057 (by decide +kernel) (by decide +kernel), w_ini_11, ⟨by decide +kernel, by decide +kernel, by decide +kernel⟩⟩
def rm_X11_beatenBySome : Room := { frames := 1, cells := 0, slots := 0, locals := 22 }
def M_X11_beatenBySome : qMI := (yX11_beatenBySome, cX11_beatenBySome, 4, (some .int), rm_X11_beatenBySome)
theorem f_X11_beatenBySome : qMV M_X11_beatenBySome 11 1 := ⟨mg 1055 (by decide +kernel) (by decide +kernel), mg 1054 (by decide +kernel) (by decide +kernel), mgp 46 (by decide +kernel) (by decide +kernel), w_ini_11, by decide, rfl, ⟨by decide +kernel, by decide +kernel, by decide +kernel⟩⟩
def rm_X11_share : Room := { frames := 7, cells := 0, slots := 0, locals := 168 }
def M_X11_share : qMI := (yX11_share, cX11_share, 6, (some .int), rm_X11_share)
theorem f_X11_share : qMV M_X11_share 11 2 := ⟨mg 1045 (by decide +kernel) (by decide +kernel), mg 1043 (by decide +kernel) (by decide +kernel), mg 1044 (by decide +kernel) (by decide +kernel), w_ini_11, by decide, rfl, ⟨by decide +kernel, by decide +kernel, by decide +kernel⟩⟩
def rm_X11_more : Room := { frames := 4, cells := 0, slots := 0, locals := 99 }
def M_X11_more : qMI := (yX11_more, cX11_more, 5, (some .int), rm_X11_more)
theorem f_X11_more : qMV M_X11_more 11 4 := ⟨mg 1070 (by decide +kernel) (by decide +kernel), mg 1069 (by decide +kernel) (by decide +kernel), mgp 48 (by decide +kernel) (by decide +kernel), w_ini_11, by decide, rfl, ⟨by decide +kernel, by decide +kernel, by decide +kernel⟩⟩
def rm_X11_isRest : Room := { frames := 5, cells := 0, slots := 0, locals := 123 }
def M_X11_isRest : qMI := (yX11_isRest, cX11_isRest, 7, (some .boolean), rm_X11_isRest)
theorem f_X11_isRest : qMV M_X11_isRest 11 4 := ⟨mg 1066 (by decide +kernel) (by decide +kernel), mg 1065 (by decide +kernel) (by decide +kernel), mgp 47 (by decide +kernel) (by decide +kernel), w_ini_11, by decide, rfl, ⟨by decide +kernel, by decide +kernel, by decide +kernel⟩⟩
def rm_X11_rests : Room := { frames := 6, cells := 0, slots := 0, locals := 149 }
def M_X11_rests : qMI := (yX11_rests, cX11_rests, 7, (some .int), rm_X11_rests)
theorem f_X11_rests : qMV M_X11_rests 11 3 := ⟨mg 1062 (by decide +kernel) (by decide +kernel), mg 1060 (by decide +kernel) (by decide +kernel), mg 1061 (by decide +kernel) (by decide +kernel), w_ini_11, by decide, rfl, ⟨by decide +kernel, by decide +kernel, by decide +kernel⟩⟩
def rm_X11_power : Room := { frames := 0, cells := 0, slots := 0, locals := 0 }
def M_X11_power : qMI := (yX11_power, cX11_power, 4, (some .int), rm_X11_power)
theorem f_X11_power : qMS M_X11_power 2 := ⟨mg 1078 (by decide +kernel) (by decide +kernel), mg 1077 (by decide +kernel) (by decide +kernel), w_ini_11, ⟨by decide +kernel, by decide +kernel, by decide +kernel⟩⟩
def rm_X11_clouded : Room := { frames := 3, cells := 0, slots := 0, locals := 75 }
def M_X11_clouded : qMI := (yX11_clouded, cX11_clouded, 10, (some .int), rm_X11_clouded)
theorem f_X11_clouded : qMV M_X11_clouded 11 4 := ⟨mg 1074 (by decide +kernel) (by decide +kernel), mg 1072 (by decide +kernel) (by decide +kernel), mg 1073 (by decide +kernel) (by decide +kernel), w_ini_11, by decide, rfl, ⟨by decide +kernel, by decide +kernel, by decide +kernel⟩⟩
def rm_X11_seed : Room := { frames := 0, cells := 0, slots := 0, locals := 0 }
def M_X11_seed : qMI := (yX11_seed, cX11_seed, 5, (some .long), rm_X11_seed)
theorem f_X11_seed : qMV M_X11_seed 11 1 := ⟨mg 1082 (by decide +kernel) (by decide +kernel), mg 1080 (by decide +kernel) (by decide +kernel), mg 1081 (by decide +kernel) (by decide +kernel), w_ini_11, by decide, rfl, ⟨by decide +kernel, by decide +kernel, by decide +kernel⟩⟩
def rm_X11_strayed : Room := { frames := 0, cells := 0, slots := 0, locals := 0 }
def M_X11_strayed : qMI := (yX11_strayed, cX11_strayed, 4, (some .int), rm_X11_strayed)
theorem f_X11_strayed : qMV M_X11_strayed 11 1 := ⟨mg 1094 (by decide +kernel) (by decide +kernel), mg 1093 (by decide +kernel) (by decide +kernel), mgp 49 (by decide +kernel) (by decide +kernel), w_ini_11, by decide, rfl, ⟨by decide +kernel, by decide +kernel, by decide +kernel⟩⟩
def rm_X11_feasts : Room := { frames := 8, cells := 0, slots := 0, locals := 199 }
def M_X11_feasts : qMI := (yX11_feasts, cX11_feasts, 5, (some .int), rm_X11_feasts)
theorem f_X11_feasts : qMV M_X11_feasts 11 1 := ⟨mg 1086 (by decide +kernel) (by decide +kernel), mg 1084 (by decide +kernel) (by decide +kernel), mg 1085 (by decide +kernel) (by decide +kernel), w_ini_11, by decide, rfl, ⟨by decide +kernel, by decide +kernel, by decide +kernel⟩⟩
def rm_X11_keep : Room := { frames := 1, cells := 0, slots := 0, locals := 25 }
def M_X11_keep : qMI := (yX11_keep, cX11_keep, 3, (some .int), rm_X11_keep)
theorem f_X11_keep : qMV M_X11_keep 11 1 := ⟨mg 1098 (by decide +kernel) (by decide +kernel), mg 1096 (by decide +kernel) (by decide +kernel), mg 1097 (by decide +kernel) (by decide +kernel), w_ini_11, by decide, rfl, ⟨by decide +kernel, by decide +kernel, by decide +kernel⟩⟩
def rm_X11_again : Room := { frames := 1, cells := 0, slots := 0, locals := 25 }
def M_X11_again : qMI := (yX11_again, cX11_again, 3, (some .int), rm_X11_again)
theorem f_X11_again : qMV M_X11_again 11 1 := ⟨mg 1102 (by decide +kernel) (by decide +kernel), mg 1100 (by decide +kernel) (by decide +kernel), mg 1101 (by decide +kernel) (by decide +kernel), w_ini_11, by decide, rfl, ⟨by decide +kernel, by decide +kernel, by decide +kernel⟩⟩
def rm_X11_together : Room := { frames := 0, cells := 0, slots := 0, locals := 0 }
def M_X11_together : qMI := (yX11_together, cX11_together, 4, (some .int), rm_X11_together)
theorem f_X11_together : qMV M_X11_together 11 1 := ⟨mg 1110 (by decide +kernel) (by decide +kernel), mg 1109 (by decide +kernel) (by decide +kernel), mgp 50 (by decide +kernel) (by decide +kernel), w_ini_11, by decide, rfl, ⟨by decide +kernel, by decide +kernel, by decide +kernel⟩⟩
def rm_X11_beaten : Room := { frames := 7, cells := 0, slots := 0, locals := 168 }
def M_X11_beaten : qMI := (yX11_beaten, cX11_beaten, 3, (some .int), rm_X11_beaten)
theorem f_X11_beaten : qMV M_X11_beaten 11 0 := ⟨mg 1114 (by decide +kernel) (by decide +kernel), mg 1113 (by decide +kernel) (by decide +kernel), mgp 51 (by decide +kernel) (by decide +kernel), w_ini_11, by decide, rfl, ⟨by decide +kernel, by decide +kernel, by decide +kernel⟩⟩
def rm_X11_count : Room := { frames := 8, cells := 0, slots := 0, locals := 190 }
def M_X11_count : qMI := (yX11_count, cX11_count, 2, (some .int), rm_X11_count)
theorem f_X11_count : qMV M_X11_count 11 1 := ⟨mg 1106 (by decide +kernel) (by decide +kernel), mg 1104 (by decide +kernel) (by decide +kernel), mg 1105 (by decide +kernel) (by decide +kernel), w_ini_11, by decide, rfl, ⟨by decide +kernel, by decide +kernel, by decide +kernel⟩⟩
def rm_X0_init : Room := { frames := 2, cells := 57, slots := 308, locals := 40 }
def M_X0_init : qMI := (yX0_init, cX0_init, 2, none, rm_X0_init)
theorem f_X0_init : qMc M_X0_init 0 := ⟨mg 196 (by decide +kernel) (by decide +kernel), mg 195 (by decide +kernel) (by decide +kernel), w_ini_0, rfl, rfl, ⟨by decide +kernel, by decide +kernel, by decide +kernel⟩⟩
def rm_X0_remember : Room := { frames := 2, cells := 0, slots := 0, locals := 61 }
def M_X0_remember : qMI := (yX0_remember, cX0_remember, 2, none, rm_X0_remember)
theorem f_X0_remember : qMV M_X0_remember 0 1 := ⟨mg 496 (by decide +kernel) (by decide +kernel), mg 494 (by decide +kernel) (by decide +kernel), mg 495 (by decide +kernel) (by decide +kernel), w_ini_0, by decide, rfl, ⟨by decide +kernel, by decide +kernel, by decide +kernel⟩⟩
def rm_X0_forgetFirst : Room := { frames := 0, cells := 0, slots := 0, locals := 0 }
def M_X0_forgetFirst : qMI := (yX0_forgetFirst, cX0_forgetFirst, 3, none, rm_X0_forgetFirst)
theorem f_X0_forgetFirst : qMV M_X0_forgetFirst 0 0 := ⟨mg 500 (by decide +kernel) (by decide +kernel), mg 499 (by decide +kernel) (by decide +kernel), mgp 8 (by decide +kernel) (by decide +kernel), w_ini_0, by decide, rfl, ⟨by decide +kernel, by decide +kernel, by decide +kernel⟩⟩
def rm_X0_takeBack : Room := { frames := 2, cells := 0, slots := 0, locals := 61 }
def M_X0_takeBack : qMI := (yX0_takeBack, cX0_takeBack, 2, none, rm_X0_takeBack)
theorem f_X0_takeBack : qMV M_X0_takeBack 0 1 := ⟨mg 538 (by decide +kernel) (by decide +kernel), mg 536 (by decide +kernel) (by decide +kernel), mg 537 (by decide +kernel) (by decide +kernel), w_ini_0, by decide, rfl, ⟨by decide +kernel, by decide +kernel, by decide +kernel⟩⟩
def rm_X0_forget : Room := { frames := 0, cells := 0, slots := 0, locals := 0 }
def M_X0_forget : qMI := (yX0_forget, cX0_forget, 1, none, rm_X0_forget)
theorem f_X0_forget : qMV M_X0_forget 0 0 := ⟨mg 416 (by decide +kernel) (by decide +kernel), mg 414 (by decide +kernel) (by decide +kernel), mg 415 (by decide +kernel) (by decide +kernel), w_ini_0, by decide, rfl, ⟨by decide +kernel, by decide +kernel, by decide +kernel⟩⟩
def rm_X1_init : Room := { frames := 1, cells := 1, slots := 9, locals := 20 }
def M_X1_init : qMI := (yX1_init, cX1_init, 1, none, rm_X1_init)
theorem f_X1_init : qMc M_X1_init 0 := ⟨mg 111 (by decide +kernel) (by decide +kernel), mg 110 (by decide +kernel) (by decide +kernel), w_ini_1, rfl, rfl, ⟨by decide +kernel, by decide +kernel, by decide +kernel⟩⟩
def rm_X1_fight : Room := { frames := 1, cells := 0, slots := 0, locals := 24 }
def M_X1_fight : qMI := (yX1_fight, cX1_fight, 13, none, rm_X1_fight)
theorem f_X1_fight : qMV M_X1_fight 1 6 := ⟨mg 441 (by decide +kernel) (by decide +kernel), mg 439 (by decide +kernel) (by decide +kernel), mg 440 (by decide +kernel) (by decide +kernel), w_ini_1, by decide, rfl, ⟨by decide +kernel, by decide +kernel, by decide +kernel⟩⟩
def rm_X1_hits : Room := { frames := 0, cells := 0, slots := 0, locals := 0 }
def M_X1_hits : qMI := (yX1_hits, cX1_hits, 3, (some .int), rm_X1_hits)
theorem f_X1_hits : qMS M_X1_hits 3 := ⟨mg 448 (by decide +kernel) (by decide +kernel), mg 447 (by decide +kernel) (by decide +kernel), w_ini_1, ⟨by decide +kernel, by decide +kernel, by decide +kernel⟩⟩
def rm_X1_lead : Room := { frames := 0, cells := 0, slots := 0, locals := 0 }
def M_X1_lead : qMI := (yX1_lead, cX1_lead, 1, (some .int), rm_X1_lead)
theorem f_X1_lead : qMV M_X1_lead 1 0 := ⟨mg 452 (by decide +kernel) (by decide +kernel), mg 450 (by decide +kernel) (by decide +kernel), mg 451 (by decide +kernel) (by decide +kernel), w_ini_1, by decide, rfl, ⟨by decide +kernel, by decide +kernel, by decide +kernel⟩⟩
def rm_X2_init : Room := { frames := 1, cells := 1, slots := 9, locals := 20 }
def M_X2_init : qMI := (yX2_init, cX2_init, 2, none, rm_X2_init)
theorem f_X2_init : qMc M_X2_init 1 := ⟨mg 240 (by decide +kernel) (by decide +kernel), mg 239 (by decide +kernel) (by decide +kernel), w_ini_2, rfl, rfl, ⟨by decide +kernel, by decide +kernel, by decide +kernel⟩⟩
def rm_X2_findShare : Room := { frames := 4, cells := 0, slots := 0, locals := 100 }
def M_X2_findShare : qMI := (yX2_findShare, cX2_findShare, 5, none, rm_X2_findShare)
theorem f_X2_findShare : qMV M_X2_findShare 2 1 := ⟨mg 649 (by decide +kernel) (by decide +kernel), mg 647 (by decide +kernel) (by decide +kernel), mg 648 (by decide +kernel) (by decide +kernel), w_ini_2, by decide, rfl, ⟨by decide +kernel, by decide +kernel, by decide +kernel⟩⟩
def rm_X2_findRests : Room := { frames := 3, cells := 0, slots := 0, locals := 80 }
def M_X2_findRests : qMI := (yX2_findRests, cX2_findRests, 5, none, rm_X2_findRests)
theorem f_X2_findRests : qMV M_X2_findRests 2 2 := ⟨mg 670 (by decide +kernel) (by decide +kernel), mg 668 (by decide +kernel) (by decide +kernel), mg 669 (by decide +kernel) (by decide +kernel), w_ini_2, by decide, rfl, ⟨by decide +kernel, by decide +kernel, by decide +kernel⟩⟩
def rm_X2_fillStanceLeads : Room := { frames := 2, cells := 0, slots := 0, locals := 56 }
def M_X2_fillStanceLeads : qMI := (yX2_fillStanceLeads, cX2_fillStanceLeads, 5, none, rm_X2_fillStanceLeads)
theorem f_X2_fillStanceLeads : qMV M_X2_fillStanceLeads 2 2 := ⟨mg 674 (by decide +kernel) (by decide +kernel), mg 673 (by decide +kernel) (by decide +kernel), mgp 16 (by decide +kernel) (by decide +kernel), w_ini_2, by decide, rfl, ⟨by decide +kernel, by decide +kernel, by decide +kernel⟩⟩
def rm_X2_isRest : Room := { frames := 0, cells := 0, slots := 0, locals := 0 }
def M_X2_isRest : qMI := (yX2_isRest, cX2_isRest, 5, (some .boolean), rm_X2_isRest)
theorem f_X2_isRest : qMV M_X2_isRest 2 2 := ⟨mg 680 (by decide +kernel) (by decide +kernel), mg 679 (by decide +kernel) (by decide +kernel), mgp 17 (by decide +kernel) (by decide +kernel), w_ini_2, by decide, rfl, ⟨by decide +kernel, by decide +kernel, by decide +kernel⟩⟩
def rm_X2_findClouded : Room := { frames := 2, cells := 0, slots := 0, locals := 56 }
def M_X2_findClouded : qMI := (yX2_findClouded, cX2_findClouded, 5, none, rm_X2_findClouded)
theorem f_X2_findClouded : qMV M_X2_findClouded 2 3 := ⟨mg 688 (by decide +kernel) (by decide +kernel), mg 686 (by decide +kernel) (by decide +kernel), mg 687 (by decide +kernel) (by decide +kernel), w_ini_2, by decide, rfl, ⟨by decide +kernel, by decide +kernel, by decide +kernel⟩⟩
def rm_X2_leadIn : Room := { frames := 0, cells := 0, slots := 0, locals := 0 }
def M_X2_leadIn : qMI := (yX2_leadIn, cX2_leadIn, 4, (some .int), rm_X2_leadIn)
theorem f_X2_leadIn : qMV M_X2_leadIn 2 1 := ⟨mg 692 (by decide +kernel) (by decide +kernel), mg 691 (by decide +kernel) (by decide +kernel), mgp 18 (by decide +kernel) (by decide +kernel), w_ini_2, by decide, rfl, ⟨by decide +kernel, by decide +kernel, by decide +kernel⟩⟩
def rm_X2_weightOf : Room := { frames := 0, cells := 0, slots := 0, locals := 0 }
def M_X2_weightOf : qMI := (yX2_weightOf, cX2_weightOf, 4, (some .int), rm_X2_weightOf)
theorem f_X2_weightOf : qMS M_X2_weightOf 2 := ⟨mg 695 (by decide +kernel) (by decide +kernel), mg 694 (by decide +kernel) (by decide +kernel), w_ini_2, ⟨by decide +kernel, by decide +kernel, by decide +kernel⟩⟩
def rm_X2_told : Room := { frames := 1, cells := 0, slots := 0, locals := 24 }
def M_X2_told : qMI := (yX2_told, cX2_told, 4, (some .int), rm_X2_told)
theorem f_X2_told : qMV M_X2_told 2 1 := ⟨mg 657 (by decide +kernel) (by decide +kernel), mg 655 (by decide +kernel) (by decide +kernel), mg 656 (by decide +kernel) (by decide +kernel), w_ini_2, by decide, rfl, ⟨by decide +kernel, by decide +kernel, by decide +kernel⟩⟩
def rm_X2_greatestDivisor : Room := { frames := 0, cells := 0, slots := 0, locals := 0 }
def M_X2_greatestDivisor : qMI := (yX2_greatestDivisor, cX2_greatestDivisor, 5, (some .int), rm_X2_greatestDivisor)
theorem f_X2_greatestDivisor : qMV M_X2_greatestDivisor 2 0 := ⟨mg 661 (by decide +kernel) (by decide +kernel), mg 660 (by decide +kernel) (by decide +kernel), mgp 15 (by decide +kernel) (by decide +kernel), w_ini_2, by decide, rfl, ⟨by decide +kernel, by decide +kernel, by decide +kernel⟩⟩
def rm_X3_init : Room := { frames := 1, cells := 3, slots := 76, locals := 20 }
def M_X3_init : qMI := (yX3_init, cX3_init, 2, none, rm_X3_init)
theorem f_X3_init : qMc M_X3_init 1 := ⟨mg 213 (by decide +kernel) (by decide +kernel), mg 212 (by decide +kernel) (by decide +kernel), w_ini_3, rfl, rfl, ⟨by decide +kernel, by decide +kernel, by decide +kernel⟩⟩
def rm_X3_findChain : Room := { frames := 4, cells := 0, slots := 0, locals := 100 }
def M_X3_findChain : qMI := (yX3_findChain, cX3_findChain, 7, none, rm_X3_findChain)
theorem f_X3_findChain : qMV M_X3_findChain 3 2 := ⟨mg 546 (by decide +kernel) (by decide +kernel), mg 544 (by decide +kernel) (by decide +kernel), mg 545 (by decide +kernel) (by decide +kernel), w_ini_3, by decide, rfl, ⟨by decide +kernel, by decide +kernel, by decide +kernel⟩⟩
def rm_X3_findWays : Room := { frames := 2, cells := 0, slots := 0, locals := 44 }
def M_X3_findWays : qMI := (yX3_findWays, cX3_findWays, 7, none, rm_X3_findWays)
theorem f_X3_findWays : qMV M_X3_findWays 3 3 := ⟨mg 551 (by decide +kernel) (by decide +kernel), mg 550 (by decide +kernel) (by decide +kernel), mgp 9 (by decide +kernel) (by decide +kernel), w_ini_3, by decide, rfl, ⟨by decide +kernel, by decide +kernel, by decide +kernel⟩⟩
def rm_X3_costOfHand : Room := { frames := 1, cells := 0, slots := 0, locals := 21 }
def M_X3_costOfHand : qMI := (yX3_costOfHand, cX3_costOfHand, 4, (some .int), rm_X3_costOfHand)
theorem f_X3_costOfHand : qMV M_X3_costOfHand 3 3 := ⟨mg 559 (by decide +kernel) (by decide +kernel), mg 558 (by decide +kernel) (by decide +kernel), mgp 10 (by decide +kernel) (by decide +kernel), w_ini_3, by decide, rfl, ⟨by decide +kernel, by decide +kernel, by decide +kernel⟩⟩
def rm_X3_weighOrders : Room := { frames := 4, cells := 0, slots := 0, locals := 100 }
def M_X3_weighOrders : qMI := (yX3_weighOrders, cX3_weighOrders, 4, none, rm_X3_weighOrders)
theorem f_X3_weighOrders : qMV M_X3_weighOrders 3 0 := ⟨mg 569 (by decide +kernel) (by decide +kernel), mg 567 (by decide +kernel) (by decide +kernel), mg 568 (by decide +kernel) (by decide +kernel), w_ini_3, by decide, rfl, ⟨by decide +kernel, by decide +kernel, by decide +kernel⟩⟩
def rm_X3_againstWithAhead : Room := { frames := 1, cells := 0, slots := 0, locals := 20 }
def M_X3_againstWithAhead : qMI := (yX3_againstWithAhead, cX3_againstWithAhead, 4, (some .int), rm_X3_againstWithAhead)
theorem f_X3_againstWithAhead : qMV M_X3_againstWithAhead 3 2 := ⟨mg 577 (by decide +kernel) (by decide +kernel), mg 576 (by decide +kernel) (by decide +kernel), mgp 11 (by decide +kernel) (by decide +kernel), w_ini_3, by decide, rfl, ⟨by decide +kernel, by decide +kernel, by decide +kernel⟩⟩
def rm_X3_fewestAgainst : Room := { frames := 0, cells := 0, slots := 0, locals := 0 }
def M_X3_fewestAgainst : qMI := (yX3_fewestAgainst, cX3_fewestAgainst, 1, (some .int), rm_X3_fewestAgainst)
theorem f_X3_fewestAgainst : qMV M_X3_fewestAgainst 3 0 := ⟨mg 587 (by decide +kernel) (by decide +kernel), mg 585 (by decide +kernel) (by decide +kernel), mg 586 (by decide +kernel) (by decide +kernel), w_ini_3, by decide, rfl, ⟨by decide +kernel, by decide +kernel, by decide +kernel⟩⟩
def rm_X3_bestOrder : Room := { frames := 3, cells := 0, slots := 0, locals := 65 }
def M_X3_bestOrder : qMI := (yX3_bestOrder, cX3_bestOrder, 5, (some .int), rm_X3_bestOrder)
theorem f_X3_bestOrder : qMV M_X3_bestOrder 3 0 := ⟨mg 591 (by decide +kernel) (by decide +kernel), mg 589 (by decide +kernel) (by decide +kernel), mg 590 (by decide +kernel) (by decide +kernel), w_ini_3, by decide, rfl, ⟨by decide +kernel, by decide +kernel, by decide +kernel⟩⟩
def rm_X3_leastAhead : Room := { frames := 2, cells := 0, slots := 0, locals := 43 }
def M_X3_leastAhead : qMI := (yX3_leastAhead, cX3_leastAhead, 3, (some .int), rm_X3_leastAhead)
theorem f_X3_leastAhead : qMV M_X3_leastAhead 3 1 := ⟨mg 595 (by decide +kernel) (by decide +kernel), mg 594 (by decide +kernel) (by decide +kernel), mgp 12 (by decide +kernel) (by decide +kernel), w_ini_3, by decide, rfl, ⟨by decide +kernel, by decide +kernel, by decide +kernel⟩⟩
def rm_X4_init : Room := { frames := 1, cells := 1, slots := 3, locals := 20 }
def M_X4_init : qMI := (yX4_init, cX4_init, 1, none, rm_X4_init)
theorem f_X4_init : qMc M_X4_init 0 := ⟨mg 36 (by decide +kernel) (by decide +kernel), mg 35 (by decide +kernel) (by decide +kernel), w_ini_4, rfl, rfl, ⟨by decide +kernel, by decide +kernel, by decide +kernel⟩⟩
def rm_X4_moveIn : Room := { frames := 0, cells := 0, slots := 0, locals := 0 }
def M_X4_moveIn : qMI := (yX4_moveIn, cX4_moveIn, 5, (some .int), rm_X4_moveIn)
theorem f_X4_moveIn : qMV M_X4_moveIn 4 3 := ⟨mg 445 (by decide +kernel) (by decide +kernel), mg 443 (by decide +kernel) (by decide +kernel), mg 444 (by decide +kernel) (by decide +kernel), w_ini_4, by decide, rfl, ⟨by decide +kernel, by decide +kernel, by decide +kernel⟩⟩
def rm_X4_movesAsFigures : Room := { frames := 0, cells := 0, slots := 0, locals := 0 }
def M_X4_movesAsFigures : qMI := (yX4_movesAsFigures, cX4_movesAsFigures, 1, (some .int), rm_X4_movesAsFigures)
theorem f_X4_movesAsFigures : qMV M_X4_movesAsFigures 4 0 := ⟨mg 425 (by decide +kernel) (by decide +kernel), mg 423 (by decide +kernel) (by decide +kernel), mg 424 (by decide +kernel) (by decide +kernel), w_ini_4, by decide, rfl, ⟨by decide +kernel, by decide +kernel, by decide +kernel⟩⟩
def rm_X4_copyFrom : Room := { frames := 1, cells := 0, slots := 0, locals := 40 }
def M_X4_copyFrom : qMI := (yX4_copyFrom, cX4_copyFrom, 2, none, rm_X4_copyFrom)
theorem f_X4_copyFrom : qMV M_X4_copyFrom 4 1 := ⟨mg 403 (by decide +kernel) (by decide +kernel), mg 401 (by decide +kernel) (by decide +kernel), mg 402 (by decide +kernel) (by decide +kernel), w_ini_4, by decide, rfl, ⟨by decide +kernel, by decide +kernel, by decide +kernel⟩⟩
def rm_X5_init : Room := { frames := 1, cells := 3, slots := 17, locals := 20 }
def M_X5_init : qMI := (yX5_init, cX5_init, 1, none, rm_X5_init)
theorem f_X5_init : qMc M_X5_init 0 := ⟨mg 141 (by decide +kernel) (by decide +kernel), mg 140 (by decide +kernel) (by decide +kernel), w_ini_5, rfl, rfl, ⟨by decide +kernel, by decide +kernel, by decide +kernel⟩⟩
def rm_X5_openFor : Room := { frames := 1, cells := 0, slots := 0, locals := 40 }
def M_X5_openFor : qMI := (yX5_openFor, cX5_openFor, 3, none, rm_X5_openFor)
theorem f_X5_openFor : qMV M_X5_openFor 5 1 := ⟨mg 411 (by decide +kernel) (by decide +kernel), mg 409 (by decide +kernel) (by decide +kernel), mg 410 (by decide +kernel) (by decide +kernel), w_ini_5, by decide, rfl, ⟨by decide +kernel, by decide +kernel, by decide +kernel⟩⟩
def rm_X5_copyFrom : Room := { frames := 1, cells := 0, slots := 0, locals := 40 }
def M_X5_copyFrom : qMI := (yX5_copyFrom, cX5_copyFrom, 2, none, rm_X5_copyFrom)
theorem f_X5_copyFrom : qMV M_X5_copyFrom 5 1 := ⟨mg 504 (by decide +kernel) (by decide +kernel), mg 502 (by decide +kernel) (by decide +kernel), mg 503 (by decide +kernel) (by decide +kernel), w_ini_5, by decide, rfl, ⟨by decide +kernel, by decide +kernel, by decide +kernel⟩⟩
def rm_X5_fill : Room := { frames := 1, cells := 0, slots := 0, locals := 21 }
def M_X5_fill : qMI := (yX5_fill, cX5_fill, 3, none, rm_X5_fill)
theorem f_X5_fill : qMV M_X5_fill 5 2 := ⟨mg 513 (by decide +kernel) (by decide +kernel), mg 511 (by decide +kernel) (by decide +kernel), mg 512 (by decide +kernel) (by decide +kernel), w_ini_5, by decide, rfl, ⟨by decide +kernel, by decide +kernel, by decide +kernel⟩⟩
def rm_X6_init : Room := { frames := 1, cells := 0, slots := 0, locals := 20 }
def M_X6_init : qMI := (yX6_init, cX6_init, 2, none, rm_X6_init)
theorem f_X6_init : qMc M_X6_init 1 := ⟨mg 95 (by decide +kernel) (by decide +kernel), mg 94 (by decide +kernel) (by decide +kernel), w_ini_6, rfl, rfl, ⟨by decide +kernel, by decide +kernel, by decide +kernel⟩⟩
def rm_X6_faultOf : Room := { frames := 3, cells := 0, slots := 0, locals := 63 }
def M_X6_faultOf : qMI := (yX6_faultOf, cX6_faultOf, 4, (some .int), rm_X6_faultOf)
theorem f_X6_faultOf : qMV M_X6_faultOf 6 2 := ⟨mg 360 (by decide +kernel) (by decide +kernel), mg 358 (by decide +kernel) (by decide +kernel), mg 359 (by decide +kernel) (by decide +kernel), w_ini_6, by decide, rfl, ⟨by decide +kernel, by decide +kernel, by decide +kernel⟩⟩
def rm_X6_takes : Room := { frames := 2, cells := 0, slots := 0, locals := 42 }
def M_X6_takes : qMI := (yX6_takes, cX6_takes, 2, (some .boolean), rm_X6_takes)
theorem f_X6_takes : qMV M_X6_takes 6 1 := ⟨mg 364 (by decide +kernel) (by decide +kernel), mg 363 (by decide +kernel) (by decide +kernel), mgp 0 (by decide +kernel) (by decide +kernel), w_ini_6, by decide, rfl, ⟨by decide +kernel, by decide +kernel, by decide +kernel⟩⟩
def rm_X6_takesPart : Room := { frames := 0, cells := 0, slots := 0, locals := 0 }
def M_X6_takesPart : qMI := (yX6_takesPart, cX6_takesPart, 2, (some .boolean), rm_X6_takesPart)
theorem f_X6_takesPart : qMV M_X6_takesPart 6 1 := ⟨mg 368 (by decide +kernel) (by decide +kernel), mg 367 (by decide +kernel) (by decide +kernel), mgp 1 (by decide +kernel) (by decide +kernel), w_ini_6, by decide, rfl, ⟨by decide +kernel, by decide +kernel, by decide +kernel⟩⟩
def rm_X6_takesKind : Room := { frames := 0, cells := 0, slots := 0, locals := 0 }
def M_X6_takesKind : qMI := (yX6_takesKind, cX6_takesKind, 2, (some .boolean), rm_X6_takesKind)
theorem f_X6_takesKind : qMV M_X6_takesKind 6 1 := ⟨mg 372 (by decide +kernel) (by decide +kernel), mg 371 (by decide +kernel) (by decide +kernel), mgp 2 (by decide +kernel) (by decide +kernel), w_ini_6, by decide, rfl, ⟨by decide +kernel, by decide +kernel, by decide +kernel⟩⟩
def rm_X6_takesMove : Room := { frames := 0, cells := 0, slots := 0, locals := 0 }
def M_X6_takesMove : qMI := (yX6_takesMove, cX6_takesMove, 2, (some .boolean), rm_X6_takesMove)
theorem f_X6_takesMove : qMV M_X6_takesMove 6 1 := ⟨mg 379 (by decide +kernel) (by decide +kernel), mg 378 (by decide +kernel) (by decide +kernel), mgp 3 (by decide +kernel) (by decide +kernel), w_ini_6, by decide, rfl, ⟨by decide +kernel, by decide +kernel, by decide +kernel⟩⟩
def rm_X6_takesOwner : Room := { frames := 1, cells := 0, slots := 0, locals := 21 }
def M_X6_takesOwner : qMI := (yX6_takesOwner, cX6_takesOwner, 2, (some .boolean), rm_X6_takesOwner)
theorem f_X6_takesOwner : qMV M_X6_takesOwner 6 1 := ⟨mg 383 (by decide +kernel) (by decide +kernel), mg 382 (by decide +kernel) (by decide +kernel), mgp 4 (by decide +kernel) (by decide +kernel), w_ini_6, by decide, rfl, ⟨by decide +kernel, by decide +kernel, by decide +kernel⟩⟩
def rm_X6_takesPrice : Room := { frames := 0, cells := 0, slots := 0, locals := 0 }
def M_X6_takesPrice : qMI := (yX6_takesPrice, cX6_takesPrice, 2, (some .boolean), rm_X6_takesPrice)
theorem f_X6_takesPrice : qMV M_X6_takesPrice 6 1 := ⟨mg 391 (by decide +kernel) (by decide +kernel), mg 390 (by decide +kernel) (by decide +kernel), mgp 5 (by decide +kernel) (by decide +kernel), w_ini_6, by decide, rfl, ⟨by decide +kernel, by decide +kernel, by decide +kernel⟩⟩
def rm_X6_moveOf : Room := { frames := 0, cells := 0, slots := 0, locals := 0 }
def M_X6_moveOf : qMI := (yX6_moveOf, cX6_moveOf, 1, (some .int), rm_X6_moveOf)
theorem f_X6_moveOf : qMS M_X6_moveOf 1 := ⟨mg 375 (by decide +kernel) (by decide +kernel), mg 374 (by decide +kernel) (by decide +kernel), w_ini_6, ⟨by decide +kernel, by decide +kernel, by decide +kernel⟩⟩
def rm_X7_init : Room := { frames := 2, cells := 15, slots := 46, locals := 40 }
def M_X7_init : qMI := (yX7_init, cX7_init, 2, none, rm_X7_init)
theorem f_X7_init : qMc M_X7_init 0 := ⟨mg 29 (by decide +kernel) (by decide +kernel), mg 28 (by decide +kernel) (by decide +kernel), w_ini_7, rfl, rfl, ⟨by decide +kernel, by decide +kernel, by decide +kernel⟩⟩
def rm_X7_hasFencer : Room := { frames := 0, cells := 0, slots := 0, locals := 0 }
def M_X7_hasFencer : qMI := (yX7_hasFencer, cX7_hasFencer, 2, (some .boolean), rm_X7_hasFencer)
theorem f_X7_hasFencer : qMV M_X7_hasFencer 7 1 := ⟨mg 387 (by decide +kernel) (by decide +kernel), mg 385 (by decide +kernel) (by decide +kernel), mg 386 (by decide +kernel) (by decide +kernel), w_ini_7, by decide, rfl, ⟨by decide +kernel, by decide +kernel, by decide +kernel⟩⟩
def rm_X7_hasGood : Room := { frames := 0, cells := 0, slots := 0, locals := 0 }
def M_X7_hasGood : qMI := (yX7_hasGood, cX7_hasGood, 2, (some .boolean), rm_X7_hasGood)
theorem f_X7_hasGood : qMV M_X7_hasGood 7 1 := ⟨mg 464 (by decide +kernel) (by decide +kernel), mg 462 (by decide +kernel) (by decide +kernel), mg 463 (by decide +kernel) (by decide +kernel), w_ini_7, by decide, rfl, ⟨by decide +kernel, by decide +kernel, by decide +kernel⟩⟩
def rm_X7_copyFrom : Room := { frames := 2, cells := 0, slots := 0, locals := 61 }
def M_X7_copyFrom : qMI := (yX7_copyFrom, cX7_copyFrom, 3, none, rm_X7_copyFrom)
theorem f_X7_copyFrom : qMV M_X7_copyFrom 7 1 := ⟨mg 399 (by decide +kernel) (by decide +kernel), mg 397 (by decide +kernel) (by decide +kernel), mg 398 (by decide +kernel) (by decide +kernel), w_ini_7, by decide, rfl, ⟨by decide +kernel, by decide +kernel, by decide +kernel⟩⟩
def rm_X8_init : Room := { frames := 2, cells := 11, slots := 63, locals := 40 }
def M_X8_init : qMI := (yX8_init, cX8_init, 3, none, rm_X8_init)
theorem f_X8_init : qMc M_X8_init 2 := ⟨mg 135 (by decide +kernel) (by decide +kernel), mg 134 (by decide +kernel) (by decide +kernel), w_ini_8, rfl, rfl, ⟨by decide +kernel, by decide +kernel, by decide +kernel⟩⟩
def rm_X8_fightNow : Room := { frames := 2, cells := 0, slots := 0, locals := 56 }
def M_X8_fightNow : qMI := (yX8_fightNow, cX8_fightNow, 3, none, rm_X8_fightNow)
theorem f_X8_fightNow : qMV M_X8_fightNow 8 2 := ⟨mg 437 (by decide +kernel) (by decide +kernel), mg 435 (by decide +kernel) (by decide +kernel), mg 436 (by decide +kernel) (by decide +kernel), w_ini_8, by decide, rfl, ⟨by decide +kernel, by decide +kernel, by decide +kernel⟩⟩
def rm_X8_costFor : Room := { frames := 3, cells := 0, slots := 0, locals := 78 }
def M_X8_costFor : qMI := (yX8_costFor, cX8_costFor, 3, (some .int), rm_X8_costFor)
theorem f_X8_costFor : qMV M_X8_costFor 8 2 := ⟨mg 485 (by decide +kernel) (by decide +kernel), mg 483 (by decide +kernel) (by decide +kernel), mg 484 (by decide +kernel) (by decide +kernel), w_ini_8, by decide, rfl, ⟨by decide +kernel, by decide +kernel, by decide +kernel⟩⟩
def rm_X8_letMeet : Room := { frames := 4, cells := 0, slots := 0, locals := 100 }
def M_X8_letMeet : qMI := (yX8_letMeet, cX8_letMeet, 5, none, rm_X8_letMeet)
theorem f_X8_letMeet : qMV M_X8_letMeet 8 2 := ⟨mg 508 (by decide +kernel) (by decide +kernel), mg 506 (by decide +kernel) (by decide +kernel), mg 507 (by decide +kernel) (by decide +kernel), w_ini_8, by decide, rfl, ⟨by decide +kernel, by decide +kernel, by decide +kernel⟩⟩
def rm_X8_letStep : Room := { frames := 0, cells := 0, slots := 0, locals := 0 }
def M_X8_letStep : qMI := (yX8_letStep, cX8_letStep, 2, none, rm_X8_letStep)
theorem f_X8_letStep : qMV M_X8_letStep 8 1 := ⟨mg 520 (by decide +kernel) (by decide +kernel), mg 518 (by decide +kernel) (by decide +kernel), mg 519 (by decide +kernel) (by decide +kernel), w_ini_8, by decide, rfl, ⟨by decide +kernel, by decide +kernel, by decide +kernel⟩⟩
def rm_X8_canTrade : Room := { frames := 1, cells := 0, slots := 0, locals := 21 }
def M_X8_canTrade : qMI := (yX8_canTrade, cX8_canTrade, 3, (some .boolean), rm_X8_canTrade)
theorem f_X8_canTrade : qMV M_X8_canTrade 8 2 := ⟨mg 611 (by decide +kernel) (by decide +kernel), mg 610 (by decide +kernel) (by decide +kernel), mgp 13 (by decide +kernel) (by decide +kernel), w_ini_8, by decide, rfl, ⟨by decide +kernel, by decide +kernel, by decide +kernel⟩⟩
def rm_X8_holdsTrue : Room := { frames := 5, cells := 0, slots := 0, locals := 124 }
def M_X8_holdsTrue : qMI := (yX8_holdsTrue, cX8_holdsTrue, 4, (some .boolean), rm_X8_holdsTrue)
theorem f_X8_holdsTrue : qMV M_X8_holdsTrue 8 3 := ⟨mg 607 (by decide +kernel) (by decide +kernel), mg 605 (by decide +kernel) (by decide +kernel), mg 606 (by decide +kernel) (by decide +kernel), w_ini_8, by decide, rfl, ⟨by decide +kernel, by decide +kernel, by decide +kernel⟩⟩
def rm_X8_feast : Room := { frames := 5, cells := 0, slots := 0, locals := 124 }
def M_X8_feast : qMI := (yX8_feast, cX8_feast, 2, none, rm_X8_feast)
theorem f_X8_feast : qMV M_X8_feast 8 1 := ⟨mg 710 (by decide +kernel) (by decide +kernel), mg 708 (by decide +kernel) (by decide +kernel), mg 709 (by decide +kernel) (by decide +kernel), w_ini_8, by decide, rfl, ⟨by decide +kernel, by decide +kernel, by decide +kernel⟩⟩
def rm_X8_goodsOf : Room := { frames := 0, cells := 0, slots := 0, locals := 0 }
def M_X8_goodsOf : qMI := (yX8_goodsOf, cX8_goodsOf, 4, (some .int), rm_X8_goodsOf)
theorem f_X8_goodsOf : qMV M_X8_goodsOf 8 1 := ⟨mg 429 (by decide +kernel) (by decide +kernel), mg 427 (by decide +kernel) (by decide +kernel), mg 428 (by decide +kernel) (by decide +kernel), w_ini_8, by decide, rfl, ⟨by decide +kernel, by decide +kernel, by decide +kernel⟩⟩
def rm_X8_goodsAbroad : Room := { frames := 0, cells := 0, slots := 0, locals := 0 }
def M_X8_goodsAbroad : qMI := (yX8_goodsAbroad, cX8_goodsAbroad, 3, (some .int), rm_X8_goodsAbroad)
theorem f_X8_goodsAbroad : qMV M_X8_goodsAbroad 8 0 := ⟨mg 714 (by decide +kernel) (by decide +kernel), mg 712 (by decide +kernel) (by decide +kernel), mg 713 (by decide +kernel) (by decide +kernel), w_ini_8, by decide, rfl, ⟨by decide +kernel, by decide +kernel, by decide +kernel⟩⟩
def rm_X8_compareAll : Room := { frames := 3, cells := 0, slots := 0, locals := 78 }
def M_X8_compareAll : qMI := (yX8_compareAll, cX8_compareAll, 3, none, rm_X8_compareAll)
theorem f_X8_compareAll : qMV M_X8_compareAll 8 0 := ⟨mg 433 (by decide +kernel) (by decide +kernel), mg 431 (by decide +kernel) (by decide +kernel), mg 432 (by decide +kernel) (by decide +kernel), w_ini_8, by decide, rfl, ⟨by decide +kernel, by decide +kernel, by decide +kernel⟩⟩
def rm_X8_beatenBy : Room := { frames := 0, cells := 0, slots := 0, locals := 0 }
def M_X8_beatenBy : qMI := (yX8_beatenBy, cX8_beatenBy, 4, (some .int), rm_X8_beatenBy)
theorem f_X8_beatenBy : qMV M_X8_beatenBy 8 1 := ⟨mg 456 (by decide +kernel) (by decide +kernel), mg 454 (by decide +kernel) (by decide +kernel), mg 455 (by decide +kernel) (by decide +kernel), w_ini_8, by decide, rfl, ⟨by decide +kernel, by decide +kernel, by decide +kernel⟩⟩
def rm_X8_thoseWhoBeat : Room := { frames := 0, cells := 0, slots := 0, locals := 0 }
def M_X8_thoseWhoBeat : qMI := (yX8_thoseWhoBeat, cX8_thoseWhoBeat, 4, (some .int), rm_X8_thoseWhoBeat)
theorem f_X8_thoseWhoBeat : qMV M_X8_thoseWhoBeat 8 1 := ⟨mg 573 (by decide +kernel) (by decide +kernel), mg 571 (by decide +kernel) (by decide +kernel), mg 572 (by decide +kernel) (by decide +kernel), w_ini_8, by decide, rfl, ⟨by decide +kernel, by decide +kernel, by decide +kernel⟩⟩
def rm_X8_beatenByAnybody : Room := { frames := 1, cells := 0, slots := 0, locals := 23 }
def M_X8_beatenByAnybody : qMI := (yX8_beatenByAnybody, cX8_beatenByAnybody, 3, (some .int), rm_X8_beatenByAnybody)
theorem f_X8_beatenByAnybody : qMV M_X8_beatenByAnybody 8 0 := ⟨mg 734 (by decide +kernel) (by decide +kernel), mg 732 (by decide +kernel) (by decide +kernel), mg 733 (by decide +kernel) (by decide +kernel), w_ini_8, by decide, rfl, ⟨by decide +kernel, by decide +kernel, by decide +kernel⟩⟩
def rm_X9_init : Room := { frames := 2, cells := 4, slots := 17, locals := 40 }
def M_X9_init : qMI := (yX9_init, cX9_init, 2, none, rm_X9_init)
theorem f_X9_init : qMc M_X9_init 1 := ⟨mg 267 (by decide +kernel) (by decide +kernel), mg 266 (by decide +kernel) (by decide +kernel), w_ini_9, rfl, rfl, ⟨by decide +kernel, by decide +kernel, by decide +kernel⟩⟩
def rm_X9_add : Room := { frames := 0, cells := 0, slots := 0, locals := 0 }
def M_X9_add : qMI := (yX9_add, cX9_add, 3, none, rm_X9_add)
theorem f_X9_add : qMV M_X9_add 9 2 := ⟨mg 622 (by decide +kernel) (by decide +kernel), mg 620 (by decide +kernel) (by decide +kernel), mg 621 (by decide +kernel) (by decide +kernel), w_ini_9, by decide, rfl, ⟨by decide +kernel, by decide +kernel, by decide +kernel⟩⟩
def rm_X9_findMasks : Room := { frames := 3, cells := 0, slots := 0, locals := 78 }
def M_X9_findMasks : qMI := (yX9_findMasks, cX9_findMasks, 2, none, rm_X9_findMasks)
theorem f_X9_findMasks : qMV M_X9_findMasks 9 0 := ⟨mg 634 (by decide +kernel) (by decide +kernel), mg 632 (by decide +kernel) (by decide +kernel), mg 633 (by decide +kernel) (by decide +kernel), w_ini_9, by decide, rfl, ⟨by decide +kernel, by decide +kernel, by decide +kernel⟩⟩
def rm_X9_fitsAll : Room := { frames := 2, cells := 0, slots := 0, locals := 56 }
def M_X9_fitsAll : qMI := (yX9_fitsAll, cX9_fitsAll, 3, (some .boolean), rm_X9_fitsAll)
theorem f_X9_fitsAll : qMV M_X9_fitsAll 9 0 := ⟨mg 638 (by decide +kernel) (by decide +kernel), mg 637 (by decide +kernel) (by decide +kernel), mgp 14 (by decide +kernel) (by decide +kernel), w_ini_9, by decide, rfl, ⟨by decide +kernel, by decide +kernel, by decide +kernel⟩⟩
def rm_J6_bitCount_0f7a4 : Room := { frames := 0, cells := 0, slots := 0, locals := 0 }
def M_J6_bitCount_0f7a4 : qMI := (yJ6_bitCount_0f7a4, cJ6_bitCount_0f7a4, 1, (some .int), rm_J6_bitCount_0f7a4)
theorem f_J6_bitCount_0f7a4 : qMS M_J6_bitCount_0f7a4 1 := ⟨mg 580 (by decide +kernel) (by decide +kernel), mg 579 (by decide +kernel) (by decide +kernel), w_ini_J6, ⟨by decide +kernel, by decide +kernel, by decide +kernel⟩⟩
def rm_J7_fill_53178 : Room := { frames := 0, cells := 0, slots := 0, locals := 0 }
def M_J7_fill_53178 : qMI := (yJ7_fill_53178, cJ7_fill_53178, 4, none, rm_J7_fill_53178)
theorem f_J7_fill_53178 : qMS M_J7_fill_53178 2 := ⟨mg 555 (by decide +kernel) (by decide +kernel), mg 554 (by decide +kernel) (by decide +kernel), w_ini_J7, ⟨by decide +kernel, by decide +kernel, by decide +kernel⟩⟩
end
section
/-! fields by their links; calls by theirs; rooms of calls -/
/-- an int field that may be written -/
def qLkI (own : String) (idx ci k : Nat) : Prop := qLk own idx ci k ∧ ((cT ci).2.1 k).2.2.2 = false ∧ cTy ci k = .int
theorem g_10_9 : qLk RX10 9 10 0 := ⟨by decide, by decide, mg 298 (by decide +kernel) (by decide +kernel), rfl⟩
theorem g_10_16 : qLk RX10 16 10 2 := ⟨by decide, by decide, mg 300 (by decide +kernel) (by decide +kernel), rfl⟩
theorem g_10_25 : qLk RX10 25 10 3 := ⟨by decide, by decide, mg 301 (by decide +kernel) (by decide +kernel), rfl⟩
theorem g_10_29 : qLk RX10 29 10 4 := ⟨by decide, by decide, mg 302 (by decide +kernel) (by decide +kernel), rfl⟩
theorem g_10_35 : qLk RX10 35 10 5 := ⟨by decide, by decide, mg 303 (by decide +kernel) (by decide +kernel), rfl⟩
theorem g_10_44 : qLk RX10 44 10 6 := ⟨by decide, by decide, mg 304 (by decide +kernel) (by decide +kernel), rfl⟩
theorem g_10_48 : qLk RX10 48 10 7 := ⟨by decide, by decide, mg 305 (by decide +kernel) (by decide +kernel), rfl⟩
theorem g_10_54 : qLk RX10 54 10 8 := ⟨by decide, by decide, mg 306 (by decide +kernel) (by decide +kernel), rfl⟩
theorem g_10_63 : qLk RX10 63 10 9 := ⟨by decide, by decide, mg 307 (by decide +kernel) (by decide +kernel), rfl⟩
theorem g_10_70 : qLk RX10 70 10 10 := ⟨by decide, by decide, mg 308 (by decide +kernel) (by decide +kernel), rfl⟩
theorem g_10_77 : qLk RX10 77 10 11 := ⟨by decide, by decide, mg 309 (by decide +kernel) (by decide +kernel), rfl⟩
theorem g_10_83 : qLk RX10 83 10 12 := ⟨by decide, by decide, mg 310 (by decide +kernel) (by decide +kernel), rfl⟩
theorem g_10_87 : qLk RX10 87 10 13 := ⟨by decide, by decide, mg 311 (by decide +kernel) (by decide +kernel), rfl⟩
theorem g_10_92 : qLk RX10 92 10 1 := ⟨by decide, by decide, mg 299 (by decide +kernel) (by decide +kernel), rfl⟩
theorem p_10_92 : qLkI RX10 92 10 1 := ⟨g_10_92, rfl, rfl⟩
theorem g_10_103 : qLk RX10 103 8 2 := ⟨by decide, by decide, mg 179 (by decide +kernel) (by decide +kernel), rfl⟩
theorem g_10_113 : qLk RX10 113 7 3 := ⟨by decide, by decide, mg 74 (by decide +kernel) (by decide +kernel), rfl⟩
theorem p_10_113 : qLkI RX10 113 7 3 := ⟨g_10_113, rfl, rfl⟩
theorem g_10_116 : qLk RX10 116 7 4 := ⟨by decide, by decide, mg 78 (by decide +kernel) (by decide +kernel), rfl⟩
theorem p_10_116 : qLkI RX10 116 7 4 := ⟨g_10_116, rfl, rfl⟩
theorem g_10_123 : qLk RX10 123 7 0 := ⟨by decide, by decide, mg 58 (by decide +kernel) (by decide +kernel), rfl⟩
theorem g_10_127 : qLk RX10 127 4 0 := ⟨by decide, by decide, mg 43 (by decide +kernel) (by decide +kernel), rfl⟩
theorem p_10_127 : qLkI RX10 127 4 0 := ⟨g_10_127, rfl, rfl⟩
theorem g_10_136 : qLk RX10 136 5 1 := ⟨by decide, by decide, mg 149 (by decide +kernel) (by decide +kernel), rfl⟩
theorem g_10_139 : qLk RX10 139 5 2 := ⟨by decide, by decide, mg 154 (by decide +kernel) (by decide +kernel), rfl⟩
theorem g_10_155 : qLk RX10 155 5 0 := ⟨by decide, by decide, mg 146 (by decide +kernel) (by decide +kernel), rfl⟩
theorem g_10_158 : qLk RX10 158 7 1 := ⟨by decide, by decide, mg 62 (by decide +kernel) (by decide +kernel), rfl⟩
theorem g_10_161 : qLk RX10 161 7 2 := ⟨by decide, by decide, mg 67 (by decide +kernel) (by decide +kernel), rfl⟩
theorem g_10_172 : qLk RX10 172 1 0 := ⟨by decide, by decide, mg 115 (by decide +kernel) (by decide +kernel), rfl⟩
theorem p_10_172 : qLkI RX10 172 1 0 := ⟨g_10_172, rfl, rfl⟩
theorem g_10_175 : qLk RX10 175 1 1 := ⟨by decide, by decide, mg 117 (by decide +kernel) (by decide +kernel), rfl⟩
theorem p_10_175 : qLkI RX10 175 1 1 := ⟨g_10_175, rfl, rfl⟩
theorem g_10_178 : qLk RX10 178 1 2 := ⟨by decide, by decide, mg 119 (by decide +kernel) (by decide +kernel), rfl⟩
theorem p_10_178 : qLkI RX10 178 1 2 := ⟨g_10_178, rfl, rfl⟩
theorem g_10_202 : qLk RX10 202 0 1 := ⟨by decide, by decide, mg 203 (by decide +kernel) (by decide +kernel), rfl⟩
theorem p_10_202 : qLkI RX10 202 0 1 := ⟨g_10_202, rfl, rfl⟩
theorem g_10_211 : qLk RX10 211 3 4 := ⟨by decide, by decide, mg 220 (by decide +kernel) (by decide +kernel), rfl⟩
theorem p_10_211 : qLkI RX10 211 3 4 := ⟨g_10_211, rfl, rfl⟩
theorem g_10_214 : qLk RX10 214 3 5 := ⟨by decide, by decide, mg 222 (by decide +kernel) (by decide +kernel), rfl⟩
theorem p_10_214 : qLkI RX10 214 3 5 := ⟨g_10_214, rfl, rfl⟩
theorem g_10_238 : qLk RX10 238 9 4 := ⟨by decide, by decide, mg 276 (by decide +kernel) (by decide +kernel), rfl⟩
theorem p_10_238 : qLkI RX10 238 9 4 := ⟨g_10_238, rfl, rfl⟩
theorem g_10_245 : qLk RX10 245 9 5 := ⟨by decide, by decide, mg 278 (by decide +kernel) (by decide +kernel), rfl⟩
theorem p_10_245 : qLkI RX10 245 9 5 := ⟨g_10_245, rfl, rfl⟩
theorem g_10_248 : qLk RX10 248 9 6 := ⟨by decide, by decide, mg 280 (by decide +kernel) (by decide +kernel), rfl⟩
theorem p_10_248 : qLkI RX10 248 9 6 := ⟨g_10_248, rfl, rfl⟩
theorem g_10_261 : qLk RX10 261 2 4 := ⟨by decide, by decide, mg 247 (by decide +kernel) (by decide +kernel), rfl⟩
theorem p_10_261 : qLkI RX10 261 2 4 := ⟨g_10_261, rfl, rfl⟩
theorem g_10_264 : qLk RX10 264 2 5 := ⟨by decide, by decide, mg 249 (by decide +kernel) (by decide +kernel), rfl⟩
theorem p_10_264 : qLkI RX10 264 2 5 := ⟨g_10_264, rfl, rfl⟩
theorem g_10_271 : qLk RX10 271 10 14 := ⟨by decide, by decide, mg 312 (by decide +kernel) (by decide +kernel), rfl⟩
theorem g_10_292 : qLk RX10 292 5 3 := ⟨by decide, by decide, mg 157 (by decide +kernel) (by decide +kernel), rfl⟩
theorem p_10_292 : qLkI RX10 292 5 3 := ⟨g_10_292, rfl, rfl⟩
theorem g_0_11 : qLk RX0 11 0 0 := ⟨by decide, by decide, mg 201 (by decide +kernel) (by decide +kernel), rfl⟩
theorem g_0_18 : qLk RX0 18 0 1 := ⟨by decide, by decide, mg 202 (by decide +kernel) (by decide +kernel), rfl⟩
theorem p_0_18 : qLkI RX0 18 0 1 := ⟨g_0_18, rfl, rfl⟩
theorem g_1_9 : qLk RX1 9 1 3 := ⟨by decide, by decide, mg 120 (by decide +kernel) (by decide +kernel), rfl⟩
theorem g_1_15 : qLk RX1 15 1 0 := ⟨by decide, by decide, mg 113 (by decide +kernel) (by decide +kernel), rfl⟩
theorem p_1_15 : qLkI RX1 15 1 0 := ⟨g_1_15, rfl, rfl⟩
theorem g_1_19 : qLk RX1 19 1 1 := ⟨by decide, by decide, mg 116 (by decide +kernel) (by decide +kernel), rfl⟩
theorem p_1_19 : qLkI RX1 19 1 1 := ⟨g_1_19, rfl, rfl⟩
theorem g_1_22 : qLk RX1 22 1 2 := ⟨by decide, by decide, mg 118 (by decide +kernel) (by decide +kernel), rfl⟩
theorem p_1_22 : qLkI RX1 22 1 2 := ⟨g_1_22, rfl, rfl⟩
theorem g_1_31 : qLk RX1 31 4 0 := ⟨by decide, by decide, mg 40 (by decide +kernel) (by decide +kernel), rfl⟩
theorem p_1_31 : qLkI RX1 31 4 0 := ⟨g_1_31, rfl, rfl⟩
theorem g_2_9 : qLk RX2 9 2 1 := ⟨by decide, by decide, mg 243 (by decide +kernel) (by decide +kernel), rfl⟩
theorem g_2_15 : qLk RX2 15 2 3 := ⟨by decide, by decide, mg 245 (by decide +kernel) (by decide +kernel), rfl⟩
theorem p_2_15 : qLkI RX2 15 2 3 := ⟨g_2_15, rfl, rfl⟩
theorem g_2_19 : qLk RX2 19 2 0 := ⟨by decide, by decide, mg 242 (by decide +kernel) (by decide +kernel), rfl⟩
theorem g_2_32 : qLk RX2 32 2 2 := ⟨by decide, by decide, mg 244 (by decide +kernel) (by decide +kernel), rfl⟩
theorem p_2_32 : qLkI RX2 32 2 2 := ⟨g_2_32, rfl, rfl⟩
theorem g_2_35 : qLk RX2 35 8 0 := ⟨by decide, by decide, mg 170 (by decide +kernel) (by decide +kernel), rfl⟩
theorem g_2_39 : qLk RX2 39 7 3 := ⟨by decide, by decide, mg 72 (by decide +kernel) (by decide +kernel), rfl⟩
theorem p_2_39 : qLkI RX2 39 7 3 := ⟨g_2_39, rfl, rfl⟩
theorem g_2_52 : qLk RX2 52 7 0 := ⟨by decide, by decide, mg 55 (by decide +kernel) (by decide +kernel), rfl⟩
theorem g_2_60 : qLk RX2 60 2 4 := ⟨by decide, by decide, mg 246 (by decide +kernel) (by decide +kernel), rfl⟩
theorem p_2_60 : qLkI RX2 60 2 4 := ⟨g_2_60, rfl, rfl⟩
theorem g_2_63 : qLk RX2 63 2 5 := ⟨by decide, by decide, mg 248 (by decide +kernel) (by decide +kernel), rfl⟩
theorem p_2_63 : qLkI RX2 63 2 5 := ⟨g_2_63, rfl, rfl⟩
theorem g_2_70 : qLk RX2 70 8 1 := ⟨by decide, by decide, mg 174 (by decide +kernel) (by decide +kernel), rfl⟩
theorem g_2_84 : qLk RX2 84 8 2 := ⟨by decide, by decide, mg 180 (by decide +kernel) (by decide +kernel), rfl⟩
theorem g_2_88 : qLk RX2 88 5 2 := ⟨by decide, by decide, mg 153 (by decide +kernel) (by decide +kernel), rfl⟩
theorem g_2_101 : qLk RX2 101 1 3 := ⟨by decide, by decide, mg 121 (by decide +kernel) (by decide +kernel), rfl⟩
theorem g_3_9 : qLk RX3 9 3 1 := ⟨by decide, by decide, mg 216 (by decide +kernel) (by decide +kernel), rfl⟩
theorem g_3_15 : qLk RX3 15 3 2 := ⟨by decide, by decide, mg 217 (by decide +kernel) (by decide +kernel), rfl⟩
theorem g_3_18 : qLk RX3 18 3 3 := ⟨by decide, by decide, mg 218 (by decide +kernel) (by decide +kernel), rfl⟩
theorem g_3_21 : qLk RX3 21 3 0 := ⟨by decide, by decide, mg 215 (by decide +kernel) (by decide +kernel), rfl⟩
theorem g_3_25 : qLk RX3 25 8 2 := ⟨by decide, by decide, mg 177 (by decide +kernel) (by decide +kernel), rfl⟩
theorem g_3_31 : qLk RX3 31 5 0 := ⟨by decide, by decide, mg 144 (by decide +kernel) (by decide +kernel), rfl⟩
theorem g_3_36 : qLk RX3 36 3 4 := ⟨by decide, by decide, mg 219 (by decide +kernel) (by decide +kernel), rfl⟩
theorem p_3_36 : qLkI RX3 36 3 4 := ⟨g_3_36, rfl, rfl⟩
theorem g_3_40 : qLk RX3 40 3 5 := ⟨by decide, by decide, mg 221 (by decide +kernel) (by decide +kernel), rfl⟩
theorem p_3_40 : qLkI RX3 40 3 5 := ⟨g_3_40, rfl, rfl⟩
theorem g_3_46 : qLk RX3 46 8 0 := ⟨by decide, by decide, mg 171 (by decide +kernel) (by decide +kernel), rfl⟩
theorem g_3_50 : qLk RX3 50 7 1 := ⟨by decide, by decide, mg 60 (by decide +kernel) (by decide +kernel), rfl⟩
theorem g_3_60 : qLk RX3 60 7 3 := ⟨by decide, by decide, mg 73 (by decide +kernel) (by decide +kernel), rfl⟩
theorem p_3_60 : qLkI RX3 60 7 3 := ⟨g_3_60, rfl, rfl⟩
theorem g_3_79 : qLk RX3 79 8 3 := ⟨by decide, by decide, mg 182 (by decide +kernel) (by decide +kernel), rfl⟩
theorem g_4_9 : qLk RX4 9 4 1 := ⟨by decide, by decide, mg 44 (by decide +kernel) (by decide +kernel), rfl⟩
theorem g_4_15 : qLk RX4 15 4 0 := ⟨by decide, by decide, mg 39 (by decide +kernel) (by decide +kernel), rfl⟩
theorem p_4_15 : qLkI RX4 15 4 0 := ⟨g_4_15, rfl, rfl⟩
theorem g_5_9 : qLk RX5 9 5 0 := ⟨by decide, by decide, mg 143 (by decide +kernel) (by decide +kernel), rfl⟩
theorem g_5_15 : qLk RX5 15 5 1 := ⟨by decide, by decide, mg 147 (by decide +kernel) (by decide +kernel), rfl⟩
theorem g_5_18 : qLk RX5 18 5 2 := ⟨by decide, by decide, mg 150 (by decide +kernel) (by decide +kernel), rfl⟩
theorem g_5_21 : qLk RX5 21 7 2 := ⟨by decide, by decide, mg 65 (by decide +kernel) (by decide +kernel), rfl⟩
theorem g_5_32 : qLk RX5 32 7 3 := ⟨by decide, by decide, mg 71 (by decide +kernel) (by decide +kernel), rfl⟩
theorem p_5_32 : qLkI RX5 32 7 3 := ⟨g_5_32, rfl, rfl⟩
theorem g_5_36 : qLk RX5 36 5 3 := ⟨by decide, by decide, mg 155 (by decide +kernel) (by decide +kernel), rfl⟩
theorem p_5_36 : qLkI RX5 36 5 3 := ⟨g_5_36, rfl, rfl⟩
theorem g_6_9 : qLk RX6 9 6 0 := ⟨by decide, by decide, mg 97 (by decide +kernel) (by decide +kernel), rfl⟩
theorem g_6_15 : qLk RX6 15 6 1 := ⟨by decide, by decide, mg 98 (by decide +kernel) (by decide +kernel), rfl⟩
theorem p_6_15 : qLkI RX6 15 6 1 := ⟨g_6_15, rfl, rfl⟩
theorem g_6_19 : qLk RX6 19 7 3 := ⟨by decide, by decide, mg 70 (by decide +kernel) (by decide +kernel), rfl⟩
theorem p_6_19 : qLkI RX6 19 7 3 := ⟨g_6_19, rfl, rfl⟩
theorem g_6_24 : qLk RX6 24 7 4 := ⟨by decide, by decide, mg 76 (by decide +kernel) (by decide +kernel), rfl⟩
theorem p_6_24 : qLkI RX6 24 7 4 := ⟨g_6_24, rfl, rfl⟩
theorem g_6_50 : qLk RX6 50 7 0 := ⟨by decide, by decide, mg 57 (by decide +kernel) (by decide +kernel), rfl⟩
theorem g_6_54 : qLk RX6 54 4 0 := ⟨by decide, by decide, mg 42 (by decide +kernel) (by decide +kernel), rfl⟩
theorem p_6_54 : qLkI RX6 54 4 0 := ⟨g_6_54, rfl, rfl⟩
theorem g_6_59 : qLk RX6 59 6 2 := ⟨by decide, by decide, mg 99 (by decide +kernel) (by decide +kernel), rfl⟩
theorem p_6_59 : qLkI RX6 59 6 2 := ⟨g_6_59, rfl, rfl⟩
theorem g_6_62 : qLk RX6 62 4 1 := ⟨by decide, by decide, mg 46 (by decide +kernel) (by decide +kernel), rfl⟩
theorem g_6_69 : qLk RX6 69 7 2 := ⟨by decide, by decide, mg 66 (by decide +kernel) (by decide +kernel), rfl⟩
theorem g_6_72 : qLk RX6 72 7 1 := ⟨by decide, by decide, mg 63 (by decide +kernel) (by decide +kernel), rfl⟩
theorem g_7_11 : qLk RX7 11 7 0 := ⟨by decide, by decide, mg 53 (by decide +kernel) (by decide +kernel), rfl⟩
theorem g_7_17 : qLk RX7 17 7 1 := ⟨by decide, by decide, mg 59 (by decide +kernel) (by decide +kernel), rfl⟩
theorem g_7_21 : qLk RX7 21 7 2 := ⟨by decide, by decide, mg 64 (by decide +kernel) (by decide +kernel), rfl⟩
theorem g_7_25 : qLk RX7 25 7 3 := ⟨by decide, by decide, mg 69 (by decide +kernel) (by decide +kernel), rfl⟩
theorem p_7_25 : qLkI RX7 25 7 3 := ⟨g_7_25, rfl, rfl⟩
theorem g_7_29 : qLk RX7 29 7 4 := ⟨by decide, by decide, mg 77 (by decide +kernel) (by decide +kernel), rfl⟩
theorem p_7_29 : qLkI RX7 29 7 4 := ⟨g_7_29, rfl, rfl⟩
theorem g_8_12 : qLk RX8 12 8 2 := ⟨by decide, by decide, mg 176 (by decide +kernel) (by decide +kernel), rfl⟩
theorem g_8_20 : qLk RX8 20 8 3 := ⟨by decide, by decide, mg 181 (by decide +kernel) (by decide +kernel), rfl⟩
theorem g_8_23 : qLk RX8 23 8 0 := ⟨by decide, by decide, mg 169 (by decide +kernel) (by decide +kernel), rfl⟩
theorem g_8_27 : qLk RX8 27 8 1 := ⟨by decide, by decide, mg 173 (by decide +kernel) (by decide +kernel), rfl⟩
theorem g_8_31 : qLk RX8 31 7 0 := ⟨by decide, by decide, mg 54 (by decide +kernel) (by decide +kernel), rfl⟩
theorem g_8_37 : qLk RX8 37 5 2 := ⟨by decide, by decide, mg 151 (by decide +kernel) (by decide +kernel), rfl⟩
theorem g_8_47 : qLk RX8 47 5 0 := ⟨by decide, by decide, mg 145 (by decide +kernel) (by decide +kernel), rfl⟩
theorem g_8_54 : qLk RX8 54 7 1 := ⟨by decide, by decide, mg 61 (by decide +kernel) (by decide +kernel), rfl⟩
theorem g_8_70 : qLk RX8 70 5 1 := ⟨by decide, by decide, mg 148 (by decide +kernel) (by decide +kernel), rfl⟩
theorem g_8_80 : qLk RX8 80 5 3 := ⟨by decide, by decide, mg 156 (by decide +kernel) (by decide +kernel), rfl⟩
theorem p_8_80 : qLkI RX8 80 5 3 := ⟨g_8_80, rfl, rfl⟩
theorem g_8_84 : qLk RX8 84 4 0 := ⟨by decide, by decide, mg 41 (by decide +kernel) (by decide +kernel), rfl⟩
theorem p_8_84 : qLkI RX8 84 4 0 := ⟨g_8_84, rfl, rfl⟩
theorem g_8_103 : qLk RX8 103 7 4 := ⟨by decide, by decide, mg 79 (by decide +kernel) (by decide +kernel), rfl⟩
theorem p_8_103 : qLkI RX8 103 7 4 := ⟨g_8_103, rfl, rfl⟩
theorem g_8_106 : qLk RX8 106 7 2 := ⟨by decide, by decide, mg 68 (by decide +kernel) (by decide +kernel), rfl⟩
theorem g_8_109 : qLk RX8 109 7 3 := ⟨by decide, by decide, mg 75 (by decide +kernel) (by decide +kernel), rfl⟩
theorem p_8_109 : qLkI RX8 109 7 3 := ⟨g_8_109, rfl, rfl⟩
theorem g_9_12 : qLk RX9 12 9 1 := ⟨by decide, by decide, mg 272 (by decide +kernel) (by decide +kernel), rfl⟩
theorem g_9_18 : qLk RX9 18 9 2 := ⟨by decide, by decide, mg 273 (by decide +kernel) (by decide +kernel), rfl⟩
theorem g_9_22 : qLk RX9 22 9 3 := ⟨by decide, by decide, mg 274 (by decide +kernel) (by decide +kernel), rfl⟩
theorem g_9_25 : qLk RX9 25 9 0 := ⟨by decide, by decide, mg 271 (by decide +kernel) (by decide +kernel), rfl⟩
theorem g_9_29 : qLk RX9 29 4 0 := ⟨by decide, by decide, mg 38 (by decide +kernel) (by decide +kernel), rfl⟩
theorem p_9_29 : qLkI RX9 29 4 0 := ⟨g_9_29, rfl, rfl⟩
theorem g_9_33 : qLk RX9 33 9 4 := ⟨by decide, by decide, mg 275 (by decide +kernel) (by decide +kernel), rfl⟩
theorem p_9_33 : qLkI RX9 33 9 4 := ⟨g_9_33, rfl, rfl⟩
theorem g_9_36 : qLk RX9 36 9 5 := ⟨by decide, by decide, mg 277 (by decide +kernel) (by decide +kernel), rfl⟩
theorem p_9_36 : qLkI RX9 36 9 5 := ⟨g_9_36, rfl, rfl⟩
theorem g_9_39 : qLk RX9 39 9 6 := ⟨by decide, by decide, mg 279 (by decide +kernel) (by decide +kernel), rfl⟩
theorem p_9_39 : qLkI RX9 39 9 6 := ⟨g_9_39, rfl, rfl⟩
theorem g_9_42 : qLk RX9 42 4 1 := ⟨by decide, by decide, mg 45 (by decide +kernel) (by decide +kernel), rfl⟩
theorem g_9_53 : qLk RX9 53 8 0 := ⟨by decide, by decide, mg 172 (by decide +kernel) (by decide +kernel), rfl⟩
theorem g_9_65 : qLk RX9 65 8 1 := ⟨by decide, by decide, mg 175 (by decide +kernel) (by decide +kernel), rfl⟩
theorem g_9_69 : qLk RX9 69 7 0 := ⟨by decide, by decide, mg 56 (by decide +kernel) (by decide +kernel), rfl⟩
theorem g_9_73 : qLk RX9 73 8 2 := ⟨by decide, by decide, mg 178 (by decide +kernel) (by decide +kernel), rfl⟩
theorem g_9_77 : qLk RX9 77 5 2 := ⟨by decide, by decide, mg 152 (by decide +kernel) (by decide +kernel), rfl⟩
theorem g_9_88 : qLk RX9 88 1 0 := ⟨by decide, by decide, mg 114 (by decide +kernel) (by decide +kernel), rfl⟩
theorem p_9_88 : qLkI RX9 88 1 0 := ⟨g_9_88, rfl, rfl⟩
theorem g_11_7 : qLk RX11 7 11 2 := ⟨by decide, by decide, mg 744 (by decide +kernel) (by decide +kernel), rfl⟩
theorem g_11_13 : qLk RX11 13 11 3 := ⟨by decide, by decide, mg 745 (by decide +kernel) (by decide +kernel), rfl⟩
theorem g_11_16 : qLk RX11 16 11 4 := ⟨by decide, by decide, mg 746 (by decide +kernel) (by decide +kernel), rfl⟩
theorem g_11_19 : qLk RX11 19 11 5 := ⟨by decide, by decide, mg 747 (by decide +kernel) (by decide +kernel), rfl⟩
theorem g_11_22 : qLk RX11 22 11 6 := ⟨by decide, by decide, mg 748 (by decide +kernel) (by decide +kernel), rfl⟩
theorem g_11_25 : qLk RX11 25 11 7 := ⟨by decide, by decide, mg 749 (by decide +kernel) (by decide +kernel), rfl⟩
theorem g_11_28 : qLk RX11 28 11 8 := ⟨by decide, by decide, mg 750 (by decide +kernel) (by decide +kernel), rfl⟩
theorem g_11_31 : qLk RX11 31 11 11 := ⟨by decide, by decide, mg 753 (by decide +kernel) (by decide +kernel), rfl⟩
theorem g_11_34 : qLk RX11 34 11 22 := ⟨by decide, by decide, mg 764 (by decide +kernel) (by decide +kernel), rfl⟩
theorem g_11_37 : qLk RX11 37 11 23 := ⟨by decide, by decide, mg 765 (by decide +kernel) (by decide +kernel), rfl⟩
theorem g_11_40 : qLk RX11 40 11 24 := ⟨by decide, by decide, mg 766 (by decide +kernel) (by decide +kernel), rfl⟩
theorem g_11_43 : qLk RX11 43 11 25 := ⟨by decide, by decide, mg 767 (by decide +kernel) (by decide +kernel), rfl⟩
theorem g_11_46 : qLk RX11 46 11 27 := ⟨by decide, by decide, mg 769 (by decide +kernel) (by decide +kernel), rfl⟩
theorem g_11_49 : qLk RX11 49 11 28 := ⟨by decide, by decide, mg 770 (by decide +kernel) (by decide +kernel), rfl⟩
theorem g_11_52 : qLk RX11 52 11 30 := ⟨by decide, by decide, mg 772 (by decide +kernel) (by decide +kernel), rfl⟩
theorem g_11_56 : qLk RX11 56 11 31 := ⟨by decide, by decide, mg 773 (by decide +kernel) (by decide +kernel), rfl⟩
theorem g_11_65 : qLk RX11 65 11 12 := ⟨by decide, by decide, mg 754 (by decide +kernel) (by decide +kernel), rfl⟩
theorem p_11_65 : qLkI RX11 65 11 12 := ⟨g_11_65, rfl, rfl⟩
theorem g_11_69 : qLk RX11 69 11 14 := ⟨by decide, by decide, mg 756 (by decide +kernel) (by decide +kernel), rfl⟩
theorem p_11_69 : qLkI RX11 69 11 14 := ⟨g_11_69, rfl, rfl⟩
theorem g_11_72 : qLk RX11 72 11 13 := ⟨by decide, by decide, mg 755 (by decide +kernel) (by decide +kernel), rfl⟩
theorem p_11_72 : qLkI RX11 72 11 13 := ⟨g_11_72, rfl, rfl⟩
theorem g_11_79 : qLk RX11 79 11 9 := ⟨by decide, by decide, mg 751 (by decide +kernel) (by decide +kernel), rfl⟩
theorem p_11_79 : qLkI RX11 79 11 9 := ⟨g_11_79, rfl, rfl⟩
theorem g_11_82 : qLk RX11 82 11 10 := ⟨by decide, by decide, mg 752 (by decide +kernel) (by decide +kernel), rfl⟩
theorem p_11_82 : qLkI RX11 82 11 10 := ⟨g_11_82, rfl, rfl⟩
theorem g_11_99 : qLk RX11 99 11 0 := ⟨by decide, by decide, mg 742 (by decide +kernel) (by decide +kernel), rfl⟩
theorem p_11_99 : qLkI RX11 99 11 0 := ⟨g_11_99, rfl, rfl⟩
theorem g_11_102 : qLk RX11 102 11 1 := ⟨by decide, by decide, mg 743 (by decide +kernel) (by decide +kernel), rfl⟩
theorem p_11_102 : qLkI RX11 102 11 1 := ⟨g_11_102, rfl, rfl⟩
theorem g_11_105 : qLk RX11 105 11 20 := ⟨by decide, by decide, mg 762 (by decide +kernel) (by decide +kernel), rfl⟩
theorem p_11_105 : qLkI RX11 105 11 20 := ⟨g_11_105, rfl, rfl⟩
theorem g_11_111 : qLk RX11 111 11 17 := ⟨by decide, by decide, mg 759 (by decide +kernel) (by decide +kernel), rfl⟩
theorem p_11_111 : qLkI RX11 111 11 17 := ⟨g_11_111, rfl, rfl⟩
theorem g_11_114 : qLk RX11 114 11 19 := ⟨by decide, by decide, mg 761 (by decide +kernel) (by decide +kernel), rfl⟩
theorem p_11_114 : qLkI RX11 114 11 19 := ⟨g_11_114, rfl, rfl⟩
theorem g_11_121 : qLk RX11 121 11 18 := ⟨by decide, by decide, mg 760 (by decide +kernel) (by decide +kernel), rfl⟩
theorem p_11_121 : qLkI RX11 121 11 18 := ⟨g_11_121, rfl, rfl⟩
theorem g_11_128 : qLk RX11 128 11 15 := ⟨by decide, by decide, mg 757 (by decide +kernel) (by decide +kernel), rfl⟩
theorem p_11_128 : qLkI RX11 128 11 15 := ⟨g_11_128, rfl, rfl⟩
theorem g_11_131 : qLk RX11 131 11 16 := ⟨by decide, by decide, mg 758 (by decide +kernel) (by decide +kernel), rfl⟩
theorem p_11_131 : qLkI RX11 131 11 16 := ⟨g_11_131, rfl, rfl⟩
theorem g_11_171 : qLk RX11 171 11 21 := ⟨by decide, by decide, mg 763 (by decide +kernel) (by decide +kernel), rfl⟩
theorem p_11_171 : qLkI RX11 171 11 21 := ⟨g_11_171, rfl, rfl⟩
theorem g_11_222 : qLk RX11 222 11 26 := ⟨by decide, by decide, mg 768 (by decide +kernel) (by decide +kernel), rfl⟩
theorem p_11_222 : qLkI RX11 222 11 26 := ⟨g_11_222, rfl, rfl⟩
theorem g_11_253 : qLk RX11 253 11 29 := ⟨by decide, by decide, mg 771 (by decide +kernel) (by decide +kernel), rfl⟩
theorem l_10_1 : Cond.methodLink RX10 1 objectInit ∈ lw_gd := mg 22 (by decide +kernel) (by decide +kernel)
theorem l_10_15 : Cond.methodLink RX10 15 yX7_init ∈ lw_gd := mg 27 (by decide +kernel) (by decide +kernel)
theorem ft_X10_init_X7_init : qFit M_X7_init rm_X10_init := ⟨by decide, by decide⟩
theorem l_10_22 : Cond.methodLink RX10 22 yX6_init ∈ lw_gd := mg 93 (by decide +kernel) (by decide +kernel)
theorem ft_X10_init_X6_init : qFit M_X6_init rm_X10_init := ⟨by decide, by decide⟩
theorem l_10_34 : Cond.methodLinkNest RX10 34 yX1_init "FoilBazaar" ∈ lw_tbl := mt 109 (by decide +kernel)
theorem ft_X10_init_X1_init : qFit M_X1_init rm_X10_init := ⟨by decide, by decide⟩
theorem l_10_41 : Cond.methodLink RX10 41 yX8_init ∈ lw_gd := mg 133 (by decide +kernel) (by decide +kernel)
theorem ft_X10_init_X8_init : qFit M_X8_init rm_X10_init := ⟨by decide, by decide⟩
theorem l_10_53 : Cond.methodLink RX10 53 yX0_init ∈ lw_gd := mg 194 (by decide +kernel) (by decide +kernel)
theorem ft_X10_init_X0_init : qFit M_X0_init rm_X10_init := ⟨by decide, by decide⟩
theorem l_10_60 : Cond.methodLink RX10 60 yX3_init ∈ lw_gd := mg 211 (by decide +kernel) (by decide +kernel)
theorem ft_X10_init_X3_init : qFit M_X3_init rm_X10_init := ⟨by decide, by decide⟩
theorem l_10_69 : Cond.methodLink RX10 69 yX2_init ∈ lw_gd := mg 238 (by decide +kernel) (by decide +kernel)
theorem ft_X10_init_X2_init : qFit M_X2_init rm_X10_init := ⟨by decide, by decide⟩
theorem l_10_76 : Cond.methodLink RX10 76 yX9_init ∈ lw_gd := mg 265 (by decide +kernel) (by decide +kernel)
theorem ft_X10_init_X9_init : qFit M_X9_init rm_X10_init := ⟨by decide, by decide⟩
theorem l_10_91 : Cond.methodLinkNest RX10 91 yX5_init "FoilBazaar" ∈ lw_tbl := mt 297 (by decide +kernel)
theorem ft_X10_init_X5_init : qFit M_X5_init rm_X10_init := ⟨by decide, by decide⟩
theorem l_10_96 : Cond.methodLink RX10 96 yX6_faultOf ∈ lw_gd := mg 357 (by decide +kernel) (by decide +kernel)
theorem ft_X10_fault_X6_faultOf : qFit M_X6_faultOf rm_X10_fault := ⟨by decide, by decide⟩
theorem ft_X10_bazaar_X6_faultOf : qFit M_X6_faultOf rm_X10_bazaar := ⟨by decide, by decide⟩
theorem l_10_100 : Cond.methodLink RX10 100 yX7_copyFrom ∈ lw_gd := mg 396 (by decide +kernel) (by decide +kernel)
theorem ft_X10_bazaar_X7_copyFrom : qFit M_X7_copyFrom rm_X10_bazaar := ⟨by decide, by decide⟩
theorem l_10_107 : Cond.methodLink RX10 107 yX5_openFor ∈ lw_gd := mg 408 (by decide +kernel) (by decide +kernel)
theorem ft_X10_bazaar_X5_openFor : qFit M_X5_openFor rm_X10_bazaar := ⟨by decide, by decide⟩
theorem l_10_110 : Cond.methodLink RX10 110 yX0_forget ∈ lw_gd := mg 413 (by decide +kernel) (by decide +kernel)
theorem ft_X10_bazaar_X0_forget : qFit M_X0_forget rm_X10_bazaar := ⟨by decide, by decide⟩
theorem l_10_119 : Cond.methodLink RX10 119 yX7_hasFencer ∈ lw_gd := mg 421 (by decide +kernel) (by decide +kernel)
theorem ft_X10_fencer_X7_hasFencer : qFit M_X7_hasFencer rm_X10_fencer := ⟨by decide, by decide⟩
theorem l_10_132 : Cond.methodLink RX10 132 yX4_movesAsFigures ∈ lw_gd := mg 422 (by decide +kernel) (by decide +kernel)
theorem ft_X10_fencer_X4_movesAsFigures : qFit M_X4_movesAsFigures rm_X10_fencer := ⟨by decide, by decide⟩
theorem l_10_142 : Cond.methodLink RX10 142 yX8_goodsOf ∈ lw_gd := mg 426 (by decide +kernel) (by decide +kernel)
theorem ft_X10_fencer_X8_goodsOf : qFit M_X8_goodsOf rm_X10_fencer := ⟨by decide, by decide⟩
theorem l_10_146 : Cond.methodLink RX10 146 yX8_compareAll ∈ lw_gd := mg 430 (by decide +kernel) (by decide +kernel)
theorem ft_X10_fencer_X8_compareAll : qFit M_X8_compareAll rm_X10_fencer := ⟨by decide, by decide⟩
theorem l_10_149 : Cond.methodLink RX10 149 yX8_beatenBy ∈ lw_gd := mg 453 (by decide +kernel) (by decide +kernel)
theorem ft_X10_fencer_X8_beatenBy : qFit M_X8_beatenBy rm_X10_fencer := ⟨by decide, by decide⟩
theorem l_10_152 : Cond.methodLink RX10 152 yX7_hasGood ∈ lw_gd := mg 461 (by decide +kernel) (by decide +kernel)
theorem ft_X10_good_X7_hasGood : qFit M_X7_hasGood rm_X10_good := ⟨by decide, by decide⟩
theorem l_10_164 : Cond.methodLink RX10 164 yX10_refusalOfPair ∈ lw_gd := mg 469 (by decide +kernel) (by decide +kernel)
theorem ft_X10_bout_X10_refusalOfPair : qFit M_X10_refusalOfPair rm_X10_bout := ⟨by decide, by decide⟩
theorem l_10_168 : Cond.methodLink RX10 168 yX8_fightNow ∈ lw_gd := mg 473 (by decide +kernel) (by decide +kernel)
theorem ft_X10_bout_X8_fightNow : qFit M_X8_fightNow rm_X10_bout := ⟨by decide, by decide⟩
theorem l_10_181 : Cond.methodLink RX10 181 yX10_refusalOfTrade ∈ lw_gd := mg 478 (by decide +kernel) (by decide +kernel)
theorem ft_X10_cost_X10_refusalOfTrade : qFit M_X10_refusalOfTrade rm_X10_cost := ⟨by decide, by decide⟩
theorem l_10_185 : Cond.methodLink RX10 185 yX8_costFor ∈ lw_gd := mg 482 (by decide +kernel) (by decide +kernel)
theorem ft_X10_cost_X8_costFor : qFit M_X8_costFor rm_X10_cost := ⟨by decide, by decide⟩
theorem ft_X10_meet_X10_refusalOfTrade : qFit M_X10_refusalOfTrade rm_X10_meet := ⟨by decide, by decide⟩
theorem l_10_188 : Cond.methodLink RX10 188 yX0_remember ∈ lw_gd := mg 493 (by decide +kernel) (by decide +kernel)
theorem ft_X10_meet_X0_remember : qFit M_X0_remember rm_X10_meet := ⟨by decide, by decide⟩
theorem l_10_192 : Cond.methodLink RX10 192 yX8_letMeet ∈ lw_gd := mg 505 (by decide +kernel) (by decide +kernel)
theorem ft_X10_meet_X8_letMeet : qFit M_X8_letMeet rm_X10_meet := ⟨by decide, by decide⟩
theorem ft_X10_step_X7_hasFencer : qFit M_X7_hasFencer rm_X10_step := ⟨by decide, by decide⟩
theorem ft_X10_step_X0_remember : qFit M_X0_remember rm_X10_step := ⟨by decide, by decide⟩
theorem l_10_195 : Cond.methodLink RX10 195 yX8_letStep ∈ lw_gd := mg 525 (by decide +kernel) (by decide +kernel)
theorem ft_X10_step_X8_letStep : qFit M_X8_letStep rm_X10_step := ⟨by decide, by decide⟩
theorem ft_X10_salute_X7_hasFencer : qFit M_X7_hasFencer rm_X10_salute := ⟨by decide, by decide⟩
theorem ft_X10_salute_X0_remember : qFit M_X0_remember rm_X10_salute := ⟨by decide, by decide⟩
theorem l_10_199 : Cond.methodLink RX10 199 yX5_fill ∈ lw_gd := mg 530 (by decide +kernel) (by decide +kernel)
theorem ft_X10_salute_X5_fill : qFit M_X5_fill rm_X10_salute := ⟨by decide, by decide⟩
theorem l_10_205 : Cond.methodLink RX10 205 yX0_takeBack ∈ lw_gd := mg 535 (by decide +kernel) (by decide +kernel)
theorem ft_X10_undo_X0_takeBack : qFit M_X0_takeBack rm_X10_undo := ⟨by decide, by decide⟩
theorem ft_X10_chain_X7_hasFencer : qFit M_X7_hasFencer rm_X10_chain := ⟨by decide, by decide⟩
theorem ft_X10_chain_X7_hasGood : qFit M_X7_hasGood rm_X10_chain := ⟨by decide, by decide⟩
theorem l_10_208 : Cond.methodLink RX10 208 yX3_findChain ∈ lw_gd := mg 543 (by decide +kernel) (by decide +kernel)
theorem ft_X10_chain_X3_findChain : qFit M_X3_findChain rm_X10_chain := ⟨by decide, by decide⟩
theorem l_10_217 : Cond.methodLink RX10 217 yX3_weighOrders ∈ lw_gd := mg 566 (by decide +kernel) (by decide +kernel)
theorem ft_X10_order_X3_weighOrders : qFit M_X3_weighOrders rm_X10_order := ⟨by decide, by decide⟩
theorem l_10_220 : Cond.methodLink RX10 220 yX3_fewestAgainst ∈ lw_gd := mg 584 (by decide +kernel) (by decide +kernel)
theorem ft_X10_order_X3_fewestAgainst : qFit M_X3_fewestAgainst rm_X10_order := ⟨by decide, by decide⟩
theorem l_10_223 : Cond.methodLink RX10 223 yX3_bestOrder ∈ lw_gd := mg 588 (by decide +kernel) (by decide +kernel)
theorem ft_X10_order_X3_bestOrder : qFit M_X3_bestOrder rm_X10_order := ⟨by decide, by decide⟩
theorem l_10_230 : Cond.methodLink RX10 230 yX5_copyFrom ∈ lw_gd := mg 602 (by decide +kernel) (by decide +kernel)
theorem ft_X10_judge_X5_copyFrom : qFit M_X5_copyFrom rm_X10_judge := ⟨by decide, by decide⟩
theorem l_10_234 : Cond.methodLink RX10 234 yX8_holdsTrue ∈ lw_gd := mg 604 (by decide +kernel) (by decide +kernel)
theorem ft_X10_judge_X8_holdsTrue : qFit M_X8_holdsTrue rm_X10_judge := ⟨by decide, by decide⟩
theorem ft_X10_see_X7_hasFencer : qFit M_X7_hasFencer rm_X10_see := ⟨by decide, by decide⟩
theorem l_10_239 : Cond.methodLink RX10 239 yX9_add ∈ lw_gd := mg 619 (by decide +kernel) (by decide +kernel)
theorem ft_X10_see_X9_add : qFit M_X9_add rm_X10_see := ⟨by decide, by decide⟩
theorem l_10_242 : Cond.methodLink RX10 242 yX9_findMasks ∈ lw_gd := mg 631 (by decide +kernel) (by decide +kernel)
theorem ft_X10_masks_X9_findMasks : qFit M_X9_findMasks rm_X10_masks := ⟨by decide, by decide⟩
theorem ft_X10_share_X7_hasFencer : qFit M_X7_hasFencer rm_X10_share := ⟨by decide, by decide⟩
theorem l_10_251 : Cond.methodLink RX10 251 yX2_findShare ∈ lw_gd := mg 646 (by decide +kernel) (by decide +kernel)
theorem ft_X10_share_X2_findShare : qFit M_X2_findShare rm_X10_share := ⟨by decide, by decide⟩
theorem l_10_254 : Cond.methodLink RX10 254 yX2_told ∈ lw_gd := mg 654 (by decide +kernel) (by decide +kernel)
theorem ft_X10_share_X2_told : qFit M_X2_told rm_X10_share := ⟨by decide, by decide⟩
theorem ft_X10_rests_X10_refusalOfPair : qFit M_X10_refusalOfPair rm_X10_rests := ⟨by decide, by decide⟩
theorem l_10_258 : Cond.methodLink RX10 258 yX2_findRests ∈ lw_gd := mg 667 (by decide +kernel) (by decide +kernel)
theorem ft_X10_rests_X2_findRests : qFit M_X2_findRests rm_X10_rests := ⟨by decide, by decide⟩
theorem ft_X10_clouded_X10_refusalOfPair : qFit M_X10_refusalOfPair rm_X10_clouded := ⟨by decide, by decide⟩
theorem l_10_267 : Cond.methodLink RX10 267 yX2_findClouded ∈ lw_gd := mg 685 (by decide +kernel) (by decide +kernel)
theorem ft_X10_clouded_X2_findClouded : qFit M_X2_findClouded rm_X10_clouded := ⟨by decide, by decide⟩
theorem ft_X10_clouded_X2_told : qFit M_X2_told rm_X10_clouded := ⟨by decide, by decide⟩
theorem ft_X10_feasts_X5_copyFrom : qFit M_X5_copyFrom rm_X10_feasts := ⟨by decide, by decide⟩
theorem l_10_281 : Cond.methodLink RX10 281 yX8_feast ∈ lw_gd := mg 707 (by decide +kernel) (by decide +kernel)
theorem ft_X10_feasts_X8_feast : qFit M_X8_feast rm_X10_feasts := ⟨by decide, by decide⟩
theorem l_10_284 : Cond.methodLink RX10 284 yX8_goodsAbroad ∈ lw_gd := mg 711 (by decide +kernel) (by decide +kernel)
theorem ft_X10_feasts_X8_goodsAbroad : qFit M_X8_goodsAbroad rm_X10_feasts := ⟨by decide, by decide⟩
theorem l_10_287 : Cond.methodLink RX10 287 yJ6_bitCount_0f7a4 ∈ lw_gd := mg 715 (by decide +kernel) (by decide +kernel)
theorem ft_X10_feasts_J6_bitCount_0f7a4 : qFit M_J6_bitCount_0f7a4 rm_X10_feasts := ⟨by decide, by decide⟩
theorem ft_X10_keep_X5_copyFrom : qFit M_X5_copyFrom rm_X10_keep := ⟨by decide, by decide⟩
theorem ft_X10_again_X5_copyFrom : qFit M_X5_copyFrom rm_X10_again := ⟨by decide, by decide⟩
theorem ft_X10_again_X0_forget : qFit M_X0_forget rm_X10_again := ⟨by decide, by decide⟩
theorem l_10_295 : Cond.methodLink RX10 295 yX10_sumOf ∈ lw_gd := mg 728 (by decide +kernel) (by decide +kernel)
theorem ft_X10_count_X10_sumOf : qFit M_X10_sumOf rm_X10_count := ⟨by decide, by decide⟩
theorem ft_X10_count_X8_goodsAbroad : qFit M_X8_goodsAbroad rm_X10_count := ⟨by decide, by decide⟩
theorem ft_X10_count_X8_compareAll : qFit M_X8_compareAll rm_X10_count := ⟨by decide, by decide⟩
theorem l_10_299 : Cond.methodLink RX10 299 yX8_beatenByAnybody ∈ lw_gd := mg 731 (by decide +kernel) (by decide +kernel)
theorem ft_X10_count_X8_beatenByAnybody : qFit M_X8_beatenByAnybody rm_X10_count := ⟨by decide, by decide⟩
theorem ft_X10_refusalOfPair_X7_hasFencer : qFit M_X7_hasFencer rm_X10_refusalOfPair := ⟨by decide, by decide⟩
theorem ft_X10_refusalOfTrade_X7_hasFencer : qFit M_X7_hasFencer rm_X10_refusalOfTrade := ⟨by decide, by decide⟩
theorem ft_X10_refusalOfTrade_X7_hasGood : qFit M_X7_hasGood rm_X10_refusalOfTrade := ⟨by decide, by decide⟩
theorem l_11_1 : Cond.methodLink RX11 1 objectInit ∈ lw_gd := mg 741 (by decide +kernel) (by decide +kernel)
theorem l_11_61 : Cond.methodLink RX11 61 yX11_in ∈ lw_gd := mg 844 (by decide +kernel) (by decide +kernel)
theorem ft_X11_write_X11_in : qFit M_X11_in rm_X11_write := ⟨by decide, by decide⟩
theorem ft_X11_figureOf_X11_in : qFit M_X11_in rm_X11_figureOf := ⟨by decide, by decide⟩
theorem l_11_75 : Cond.methodLink RX11 75 yX11_moveBy ∈ lw_gd := mg 871 (by decide +kernel) (by decide +kernel)
theorem ft_X11_moveOf_X11_moveBy : qFit M_X11_moveBy rm_X11_moveOf := ⟨by decide, by decide⟩
theorem l_11_85 : Cond.methodLink RX11 85 yX11_readPart ∈ lw_gd := mg 859 (by decide +kernel) (by decide +kernel)
theorem ft_X11_readText_X11_readPart : qFit M_X11_readPart rm_X11_readText := ⟨by decide, by decide⟩
theorem l_11_89 : Cond.methodLink RX11 89 yX11_figureOf ∈ lw_gd := mg 863 (by decide +kernel) (by decide +kernel)
theorem ft_X11_readPart_X11_figureOf : qFit M_X11_figureOf rm_X11_readPart := ⟨by decide, by decide⟩
theorem l_11_92 : Cond.methodLink RX11 92 yX11_moveOf ∈ lw_gd := mg 867 (by decide +kernel) (by decide +kernel)
theorem ft_X11_readPart_X11_moveOf : qFit M_X11_moveOf rm_X11_readPart := ⟨by decide, by decide⟩
theorem l_11_96 : Cond.methodLink RX11 96 yX11_readText ∈ lw_gd := mg 855 (by decide +kernel) (by decide +kernel)
theorem ft_X11_fault_X11_readText : qFit M_X11_readText rm_X11_fault := ⟨by decide, by decide⟩
theorem ft_X11_bazaar_X11_readText : qFit M_X11_readText rm_X11_bazaar := ⟨by decide, by decide⟩
theorem ft_X11_isFencer_X11_in : qFit M_X11_in rm_X11_isFencer := ⟨by decide, by decide⟩
theorem ft_X11_isGood_X11_in : qFit M_X11_in rm_X11_isGood := ⟨by decide, by decide⟩
theorem l_11_108 : Cond.methodLink RX11 108 yX11_answer ∈ lw_gd := mg 918 (by decide +kernel) (by decide +kernel)
theorem ft_X11_moveIn_X11_answer : qFit M_X11_answer rm_X11_moveIn := ⟨by decide, by decide⟩
theorem l_11_117 : Cond.methodLink RX11 117 yX11_moveIn ∈ lw_gd := mg 914 (by decide +kernel) (by decide +kernel)
theorem ft_X11_pass_X11_moveIn : qFit M_X11_moveIn rm_X11_pass := ⟨by decide, by decide⟩
theorem l_11_124 : Cond.methodLink RX11 124 yX11_hits ∈ lw_gd := mg 921 (by decide +kernel) (by decide +kernel)
theorem ft_X11_pass_X11_hits : qFit M_X11_hits rm_X11_pass := ⟨by decide, by decide⟩
theorem l_11_134 : Cond.methodLink RX11 134 yX11_begin ∈ lw_gd := mg 906 (by decide +kernel) (by decide +kernel)
theorem ft_X11_fight_X11_begin : qFit M_X11_begin rm_X11_fight := ⟨by decide, by decide⟩
theorem l_11_137 : Cond.methodLink RX11 137 yX11_pass ∈ lw_gd := mg 910 (by decide +kernel) (by decide +kernel)
theorem ft_X11_fight_X11_pass : qFit M_X11_pass rm_X11_fight := ⟨by decide, by decide⟩
theorem l_11_141 : Cond.methodLink RX11 141 yX11_fight ∈ lw_gd := mg 902 (by decide +kernel) (by decide +kernel)
theorem ft_X11_fightOn_X11_fight : qFit M_X11_fight rm_X11_fightOn := ⟨by decide, by decide⟩
theorem l_11_145 : Cond.methodLink RX11 145 yX11_fightOn ∈ lw_gd := mg 898 (by decide +kernel) (by decide +kernel)
theorem ft_X11_beats_X11_fightOn : qFit M_X11_fightOn rm_X11_beats := ⟨by decide, by decide⟩
theorem l_11_149 : Cond.methodLink RX11 149 yX11_beats ∈ lw_gd := mg 894 (by decide +kernel) (by decide +kernel)
theorem ft_X11_beatenBy_X11_beats : qFit M_X11_beats rm_X11_beatenBy := ⟨by decide, by decide⟩
theorem l_11_153 : Cond.methodLink RX11 153 yX11_isFencer ∈ lw_gd := mg 882 (by decide +kernel) (by decide +kernel)
theorem ft_X11_fencer_X11_isFencer : qFit M_X11_isFencer rm_X11_fencer := ⟨by decide, by decide⟩
theorem l_11_157 : Cond.methodLink RX11 157 yX11_ownedBy ∈ lw_gd := mg 886 (by decide +kernel) (by decide +kernel)
theorem ft_X11_fencer_X11_ownedBy : qFit M_X11_ownedBy rm_X11_fencer := ⟨by decide, by decide⟩
theorem l_11_160 : Cond.methodLink RX11 160 yX11_beatenBy ∈ lw_gd := mg 890 (by decide +kernel) (by decide +kernel)
theorem ft_X11_fencer_X11_beatenBy : qFit M_X11_beatenBy rm_X11_fencer := ⟨by decide, by decide⟩
theorem l_11_163 : Cond.methodLink RX11 163 yX11_isGood ∈ lw_gd := mg 928 (by decide +kernel) (by decide +kernel)
theorem ft_X11_good_X11_isGood : qFit M_X11_isGood rm_X11_good := ⟨by decide, by decide⟩
theorem ft_X11_bout_X11_isFencer : qFit M_X11_isFencer rm_X11_bout := ⟨by decide, by decide⟩
theorem ft_X11_bout_X11_in : qFit M_X11_in rm_X11_bout := ⟨by decide, by decide⟩
theorem ft_X11_bout_X11_fightOn : qFit M_X11_fightOn rm_X11_bout := ⟨by decide, by decide⟩
theorem ft_X11_costFrom_X11_fightOn : qFit M_X11_fightOn rm_X11_costFrom := ⟨by decide, by decide⟩
theorem ft_X11_cost_X11_isFencer : qFit M_X11_isFencer rm_X11_cost := ⟨by decide, by decide⟩
theorem ft_X11_cost_X11_isGood : qFit M_X11_isGood rm_X11_cost := ⟨by decide, by decide⟩
theorem l_11_168 : Cond.methodLink RX11 168 yX11_costFrom ∈ lw_gd := mg 941 (by decide +kernel) (by decide +kernel)
theorem ft_X11_cost_X11_costFrom : qFit M_X11_costFrom rm_X11_cost := ⟨by decide, by decide⟩
theorem ft_X11_meetOn_X11_costFrom : qFit M_X11_costFrom rm_X11_meetOn := ⟨by decide, by decide⟩
theorem l_11_174 : Cond.methodLink RX11 174 yX11_giveOn ∈ lw_gd := mg 957 (by decide +kernel) (by decide +kernel)
theorem ft_X11_meetOn_X11_giveOn : qFit M_X11_giveOn rm_X11_meetOn := ⟨by decide, by decide⟩
theorem l_11_177 : Cond.methodLink RX11 177 yX11_stepOn ∈ lw_gd := mg 961 (by decide +kernel) (by decide +kernel)
theorem ft_X11_meetOn_X11_stepOn : qFit M_X11_stepOn rm_X11_meetOn := ⟨by decide, by decide⟩
theorem ft_X11_meet_X11_isFencer : qFit M_X11_isFencer rm_X11_meet := ⟨by decide, by decide⟩
theorem ft_X11_meet_X11_isGood : qFit M_X11_isGood rm_X11_meet := ⟨by decide, by decide⟩
theorem l_11_181 : Cond.methodLink RX11 181 yX11_keepAct ∈ lw_gd := mg 949 (by decide +kernel) (by decide +kernel)
theorem ft_X11_meet_X11_keepAct : qFit M_X11_keepAct rm_X11_meet := ⟨by decide, by decide⟩
theorem l_11_184 : Cond.methodLink RX11 184 yX11_meetOn ∈ lw_gd := mg 953 (by decide +kernel) (by decide +kernel)
theorem ft_X11_meet_X11_meetOn : qFit M_X11_meetOn rm_X11_meet := ⟨by decide, by decide⟩
theorem ft_X11_step_X11_isFencer : qFit M_X11_isFencer rm_X11_step := ⟨by decide, by decide⟩
theorem ft_X11_step_X11_keepAct : qFit M_X11_keepAct rm_X11_step := ⟨by decide, by decide⟩
theorem ft_X11_step_X11_stepOn : qFit M_X11_stepOn rm_X11_step := ⟨by decide, by decide⟩
theorem ft_X11_salute_X11_isFencer : qFit M_X11_isFencer rm_X11_salute := ⟨by decide, by decide⟩
theorem ft_X11_salute_X11_in : qFit M_X11_in rm_X11_salute := ⟨by decide, by decide⟩
theorem ft_X11_salute_X11_keepAct : qFit M_X11_keepAct rm_X11_salute := ⟨by decide, by decide⟩
theorem ft_X11_salute_X11_giveOn : qFit M_X11_giveOn rm_X11_salute := ⟨by decide, by decide⟩
theorem ft_X11_sumsTo_X11_costFrom : qFit M_X11_costFrom rm_X11_sumsTo := ⟨by decide, by decide⟩
theorem ft_X11_chain_X11_isFencer : qFit M_X11_isFencer rm_X11_chain := ⟨by decide, by decide⟩
theorem ft_X11_chain_X11_isGood : qFit M_X11_isGood rm_X11_chain := ⟨by decide, by decide⟩
theorem ft_X11_chain_X11_in : qFit M_X11_in rm_X11_chain := ⟨by decide, by decide⟩
theorem l_11_189 : Cond.methodLink RX11 189 yX11_sumsTo ∈ lw_gd := mg 982 (by decide +kernel) (by decide +kernel)
theorem ft_X11_chain_X11_sumsTo : qFit M_X11_sumsTo rm_X11_chain := ⟨by decide, by decide⟩
theorem ft_X11_chain_X11_costFrom : qFit M_X11_costFrom rm_X11_chain := ⟨by decide, by decide⟩
theorem l_11_192 : Cond.methodLink RX11 192 yX11_swap ∈ lw_gd := mg 1005 (by decide +kernel) (by decide +kernel)
theorem ft_X11_nextOrder_X11_swap : qFit M_X11_swap rm_X11_nextOrder := ⟨by decide, by decide⟩
theorem l_11_195 : Cond.methodLink RX11 195 yX11_has ∈ lw_gd := mg 994 (by decide +kernel) (by decide +kernel)
theorem ft_X11_against_X11_has : qFit M_X11_has rm_X11_against := ⟨by decide, by decide⟩
theorem ft_X11_order_X11_in : qFit M_X11_in rm_X11_order := ⟨by decide, by decide⟩
theorem ft_X11_order_X11_beatenBy : qFit M_X11_beatenBy rm_X11_order := ⟨by decide, by decide⟩
theorem l_11_198 : Cond.methodLink RX11 198 yX11_against ∈ lw_gd := mg 990 (by decide +kernel) (by decide +kernel)
theorem ft_X11_order_X11_against : qFit M_X11_against rm_X11_order := ⟨by decide, by decide⟩
theorem l_11_201 : Cond.methodLink RX11 201 yX11_figures ∈ lw_gd := mg 997 (by decide +kernel) (by decide +kernel)
theorem ft_X11_order_X11_figures : qFit M_X11_figures rm_X11_order := ⟨by decide, by decide⟩
theorem l_11_204 : Cond.methodLink RX11 204 yX11_nextOrder ∈ lw_gd := mg 1001 (by decide +kernel) (by decide +kernel)
theorem ft_X11_order_X11_nextOrder : qFit M_X11_nextOrder rm_X11_order := ⟨by decide, by decide⟩
theorem ft_X11_tryThing_X11_isFencer : qFit M_X11_isFencer rm_X11_tryThing := ⟨by decide, by decide⟩
theorem ft_X11_tryThing_X11_isGood : qFit M_X11_isGood rm_X11_tryThing := ⟨by decide, by decide⟩
theorem ft_X11_tryThing_X11_meetOn : qFit M_X11_meetOn rm_X11_tryThing := ⟨by decide, by decide⟩
theorem ft_X11_tryThing_X11_stepOn : qFit M_X11_stepOn rm_X11_tryThing := ⟨by decide, by decide⟩
theorem ft_X11_tryThing_X11_giveOn : qFit M_X11_giveOn rm_X11_tryThing := ⟨by decide, by decide⟩
theorem ft_X11_tryThing_X11_beats : qFit M_X11_beats rm_X11_tryThing := ⟨by decide, by decide⟩
theorem ft_X11_judge_X11_in : qFit M_X11_in rm_X11_judge := ⟨by decide, by decide⟩
theorem l_11_212 : Cond.methodLink RX11 212 yX11_thousandTo ∈ lw_gd := mg 1014 (by decide +kernel) (by decide +kernel)
theorem ft_X11_judge_X11_thousandTo : qFit M_X11_thousandTo rm_X11_judge := ⟨by decide, by decide⟩
theorem l_11_216 : Cond.methodLink RX11 216 yX11_layTrial ∈ lw_gd := mg 1018 (by decide +kernel) (by decide +kernel)
theorem ft_X11_judge_X11_layTrial : qFit M_X11_layTrial rm_X11_judge := ⟨by decide, by decide⟩
theorem l_11_219 : Cond.methodLink RX11 219 yX11_tryThing ∈ lw_gd := mg 1022 (by decide +kernel) (by decide +kernel)
theorem ft_X11_judge_X11_tryThing : qFit M_X11_tryThing rm_X11_judge := ⟨by decide, by decide⟩
theorem ft_X11_see_X11_isFencer : qFit M_X11_isFencer rm_X11_see := ⟨by decide, by decide⟩
theorem ft_X11_see_X11_in : qFit M_X11_in rm_X11_see := ⟨by decide, by decide⟩
theorem ft_X11_mayBeMask_X11_isFencer : qFit M_X11_isFencer rm_X11_mayBeMask := ⟨by decide, by decide⟩
theorem ft_X11_mayBeMask_X11_fight : qFit M_X11_fight rm_X11_mayBeMask := ⟨by decide, by decide⟩
theorem ft_X11_masks_X11_in : qFit M_X11_in rm_X11_masks := ⟨by decide, by decide⟩
theorem l_11_225 : Cond.methodLink RX11 225 yX11_mayBeMask ∈ lw_gd := mg 1038 (by decide +kernel) (by decide +kernel)
theorem ft_X11_masks_X11_mayBeMask : qFit M_X11_mayBeMask rm_X11_masks := ⟨by decide, by decide⟩
theorem ft_X11_beatenBySome_X11_has : qFit M_X11_has rm_X11_beatenBySome := ⟨by decide, by decide⟩
theorem l_11_228 : Cond.methodLink RX11 228 yX11_ones ∈ lw_gd := mg 1046 (by decide +kernel) (by decide +kernel)
theorem ft_X11_beatenBySome_X11_ones : qFit M_X11_ones rm_X11_beatenBySome := ⟨by decide, by decide⟩
theorem ft_X11_share_X11_isFencer : qFit M_X11_isFencer rm_X11_share := ⟨by decide, by decide⟩
theorem ft_X11_share_X11_beatenBy : qFit M_X11_beatenBy rm_X11_share := ⟨by decide, by decide⟩
theorem ft_X11_share_X11_has : qFit M_X11_has rm_X11_share := ⟨by decide, by decide⟩
theorem ft_X11_share_X11_ones : qFit M_X11_ones rm_X11_share := ⟨by decide, by decide⟩
theorem l_11_231 : Cond.methodLink RX11 231 yX11_factorial ∈ lw_gd := mg 1049 (by decide +kernel) (by decide +kernel)
theorem ft_X11_share_X11_factorial : qFit M_X11_factorial rm_X11_share := ⟨by decide, by decide⟩
theorem l_11_234 : Cond.methodLink RX11 234 yX11_beatenBySome ∈ lw_gd := mg 1052 (by decide +kernel) (by decide +kernel)
theorem ft_X11_share_X11_beatenBySome : qFit M_X11_beatenBySome rm_X11_share := ⟨by decide, by decide⟩
theorem l_11_237 : Cond.methodLink RX11 237 yX11_common ∈ lw_gd := mg 1056 (by decide +kernel) (by decide +kernel)
theorem ft_X11_share_X11_common : qFit M_X11_common rm_X11_share := ⟨by decide, by decide⟩
theorem ft_X11_more_X11_fight : qFit M_X11_fight rm_X11_more := ⟨by decide, by decide⟩
theorem l_11_241 : Cond.methodLink RX11 241 yX11_more ∈ lw_gd := mg 1067 (by decide +kernel) (by decide +kernel)
theorem ft_X11_isRest_X11_more : qFit M_X11_more rm_X11_isRest := ⟨by decide, by decide⟩
theorem ft_X11_rests_X11_isFencer : qFit M_X11_isFencer rm_X11_rests := ⟨by decide, by decide⟩
theorem ft_X11_rests_X11_in : qFit M_X11_in rm_X11_rests := ⟨by decide, by decide⟩
theorem l_11_244 : Cond.methodLink RX11 244 yX11_isRest ∈ lw_gd := mg 1063 (by decide +kernel) (by decide +kernel)
theorem ft_X11_rests_X11_isRest : qFit M_X11_isRest rm_X11_rests := ⟨by decide, by decide⟩
theorem ft_X11_clouded_X11_isFencer : qFit M_X11_isFencer rm_X11_clouded := ⟨by decide, by decide⟩
theorem ft_X11_clouded_X11_in : qFit M_X11_in rm_X11_clouded := ⟨by decide, by decide⟩
theorem ft_X11_clouded_X11_ones : qFit M_X11_ones rm_X11_clouded := ⟨by decide, by decide⟩
theorem l_11_250 : Cond.methodLink RX11 250 yX11_power ∈ lw_gd := mg 1076 (by decide +kernel) (by decide +kernel)
theorem ft_X11_clouded_X11_power : qFit M_X11_power rm_X11_clouded := ⟨by decide, by decide⟩
theorem ft_X11_clouded_X11_begin : qFit M_X11_begin rm_X11_clouded := ⟨by decide, by decide⟩
theorem ft_X11_clouded_X11_has : qFit M_X11_has rm_X11_clouded := ⟨by decide, by decide⟩
theorem ft_X11_clouded_X11_pass : qFit M_X11_pass rm_X11_clouded := ⟨by decide, by decide⟩
theorem ft_X11_clouded_X11_common : qFit M_X11_common rm_X11_clouded := ⟨by decide, by decide⟩
theorem ft_X11_feasts_X11_in : qFit M_X11_in rm_X11_feasts := ⟨by decide, by decide⟩
theorem ft_X11_feasts_X11_layTrial : qFit M_X11_layTrial rm_X11_feasts := ⟨by decide, by decide⟩
theorem ft_X11_feasts_X11_tryThing : qFit M_X11_tryThing rm_X11_feasts := ⟨by decide, by decide⟩
theorem l_11_265 : Cond.methodLink RX11 265 yX11_strayed ∈ lw_gd := mg 1091 (by decide +kernel) (by decide +kernel)
theorem ft_X11_feasts_X11_strayed : qFit M_X11_strayed rm_X11_feasts := ⟨by decide, by decide⟩
theorem ft_X11_feasts_X11_ones : qFit M_X11_ones rm_X11_feasts := ⟨by decide, by decide⟩
theorem ft_X11_keep_X11_in : qFit M_X11_in rm_X11_keep := ⟨by decide, by decide⟩
theorem ft_X11_again_X11_in : qFit M_X11_in rm_X11_again := ⟨by decide, by decide⟩
theorem ft_X11_beaten_X11_beatenBy : qFit M_X11_beatenBy rm_X11_beaten := ⟨by decide, by decide⟩
theorem l_11_268 : Cond.methodLink RX11 268 yX11_together ∈ lw_gd := mg 1107 (by decide +kernel) (by decide +kernel)
theorem ft_X11_count_X11_together : qFit M_X11_together rm_X11_count := ⟨by decide, by decide⟩
theorem ft_X11_count_X11_strayed : qFit M_X11_strayed rm_X11_count := ⟨by decide, by decide⟩
theorem l_11_271 : Cond.methodLink RX11 271 yX11_beaten ∈ lw_gd := mg 1111 (by decide +kernel) (by decide +kernel)
theorem ft_X11_count_X11_beaten : qFit M_X11_beaten rm_X11_count := ⟨by decide, by decide⟩
theorem l_0_3 : Cond.methodLink RX0 3 objectInit ∈ lw_gd := mg 197 (by decide +kernel) (by decide +kernel)
theorem l_0_17 : Cond.methodLinkNest RX0 17 yX5_init "FoilBazaar" ∈ lw_tbl := mt 200 (by decide +kernel)
theorem ft_X0_init_X5_init : qFit M_X5_init rm_X0_init := ⟨by decide, by decide⟩
theorem l_0_22 : Cond.methodLink RX0 22 yX0_forgetFirst ∈ lw_gd := mg 497 (by decide +kernel) (by decide +kernel)
theorem ft_X0_remember_X0_forgetFirst : qFit M_X0_forgetFirst rm_X0_remember := ⟨by decide, by decide⟩
theorem l_0_25 : Cond.methodLink RX0 25 yX5_copyFrom ∈ lw_gd := mg 501 (by decide +kernel) (by decide +kernel)
theorem ft_X0_remember_X5_copyFrom : qFit M_X5_copyFrom rm_X0_remember := ⟨by decide, by decide⟩
theorem ft_X0_takeBack_X5_copyFrom : qFit M_X5_copyFrom rm_X0_takeBack := ⟨by decide, by decide⟩
theorem l_1_3 : Cond.methodLink RX1 3 objectInit ∈ lw_gd := mg 112 (by decide +kernel) (by decide +kernel)
theorem l_1_25 : Cond.methodLink RX1 25 yX4_moveIn ∈ lw_gd := mg 442 (by decide +kernel) (by decide +kernel)
theorem ft_X1_fight_X4_moveIn : qFit M_X4_moveIn rm_X1_fight := ⟨by decide, by decide⟩
theorem l_1_34 : Cond.methodLink RX1 34 yX1_hits ∈ lw_gd := mg 446 (by decide +kernel) (by decide +kernel)
theorem ft_X1_fight_X1_hits : qFit M_X1_hits rm_X1_fight := ⟨by decide, by decide⟩
theorem l_2_3 : Cond.methodLink RX2 3 objectInit ∈ lw_gd := mg 241 (by decide +kernel) (by decide +kernel)
theorem l_2_23 : Cond.methodLink RX2 23 yX8_compareAll ∈ lw_gd := mg 650 (by decide +kernel) (by decide +kernel)
theorem ft_X2_findShare_X8_compareAll : qFit M_X8_compareAll rm_X2_findShare := ⟨by decide, by decide⟩
theorem l_2_28 : Cond.methodLink RX2 28 yX8_beatenBy ∈ lw_gd := mg 651 (by decide +kernel) (by decide +kernel)
theorem ft_X2_findShare_X8_beatenBy : qFit M_X8_beatenBy rm_X2_findShare := ⟨by decide, by decide⟩
theorem l_2_44 : Cond.methodLink RX2 44 yX8_thoseWhoBeat ∈ lw_gd := mg 652 (by decide +kernel) (by decide +kernel)
theorem ft_X2_findShare_X8_thoseWhoBeat : qFit M_X8_thoseWhoBeat rm_X2_findShare := ⟨by decide, by decide⟩
theorem l_2_47 : Cond.methodLink RX2 47 yJ6_bitCount_0f7a4 ∈ lw_gd := mg 653 (by decide +kernel) (by decide +kernel)
theorem ft_X2_findShare_J6_bitCount_0f7a4 : qFit M_J6_bitCount_0f7a4 rm_X2_findShare := ⟨by decide, by decide⟩
theorem l_2_56 : Cond.methodLink RX2 56 yX2_fillStanceLeads ∈ lw_gd := mg 671 (by decide +kernel) (by decide +kernel)
theorem ft_X2_findRests_X2_fillStanceLeads : qFit M_X2_fillStanceLeads rm_X2_findRests := ⟨by decide, by decide⟩
theorem l_2_66 : Cond.methodLink RX2 66 yX2_isRest ∈ lw_gd := mg 677 (by decide +kernel) (by decide +kernel)
theorem ft_X2_findRests_X2_isRest : qFit M_X2_isRest rm_X2_findRests := ⟨by decide, by decide⟩
theorem l_2_74 : Cond.methodLink RX2 74 yX1_fight ∈ lw_gd := mg 675 (by decide +kernel) (by decide +kernel)
theorem ft_X2_fillStanceLeads_X1_fight : qFit M_X1_fight rm_X2_fillStanceLeads := ⟨by decide, by decide⟩
theorem l_2_80 : Cond.methodLink RX2 80 yX1_lead ∈ lw_gd := mg 676 (by decide +kernel) (by decide +kernel)
theorem ft_X2_fillStanceLeads_X1_lead : qFit M_X1_lead rm_X2_fillStanceLeads := ⟨by decide, by decide⟩
theorem ft_X2_findClouded_X1_fight : qFit M_X1_fight rm_X2_findClouded := ⟨by decide, by decide⟩
theorem l_2_94 : Cond.methodLink RX2 94 yX2_leadIn ∈ lw_gd := mg 689 (by decide +kernel) (by decide +kernel)
theorem ft_X2_findClouded_X2_leadIn : qFit M_X2_leadIn rm_X2_findClouded := ⟨by decide, by decide⟩
theorem l_2_97 : Cond.methodLink RX2 97 yX2_weightOf ∈ lw_gd := mg 693 (by decide +kernel) (by decide +kernel)
theorem ft_X2_findClouded_X2_weightOf : qFit M_X2_weightOf rm_X2_findClouded := ⟨by decide, by decide⟩
theorem l_2_104 : Cond.methodLink RX2 104 yX2_greatestDivisor ∈ lw_gd := mg 658 (by decide +kernel) (by decide +kernel)
theorem ft_X2_told_X2_greatestDivisor : qFit M_X2_greatestDivisor rm_X2_told := ⟨by decide, by decide⟩
theorem l_3_3 : Cond.methodLink RX3 3 objectInit ∈ lw_gd := mg 214 (by decide +kernel) (by decide +kernel)
theorem l_3_43 : Cond.methodLink RX3 43 yX8_compareAll ∈ lw_gd := mg 547 (by decide +kernel) (by decide +kernel)
theorem ft_X3_findChain_X8_compareAll : qFit M_X8_compareAll rm_X3_findChain := ⟨by decide, by decide⟩
theorem l_3_55 : Cond.methodLink RX3 55 yX3_findWays ∈ lw_gd := mg 548 (by decide +kernel) (by decide +kernel)
theorem ft_X3_findChain_X3_findWays : qFit M_X3_findWays rm_X3_findChain := ⟨by decide, by decide⟩
theorem l_3_63 : Cond.methodLink RX3 63 yX3_costOfHand ∈ lw_gd := mg 556 (by decide +kernel) (by decide +kernel)
theorem ft_X3_findChain_X3_costOfHand : qFit M_X3_costOfHand rm_X3_findChain := ⟨by decide, by decide⟩
theorem l_3_67 : Cond.methodLink RX3 67 yJ7_fill_53178 ∈ lw_gd := mg 553 (by decide +kernel) (by decide +kernel)
theorem ft_X3_findWays_J7_fill_53178 : qFit M_J7_fill_53178 rm_X3_findWays := ⟨by decide, by decide⟩
theorem ft_X3_findWays_X3_costOfHand : qFit M_X3_costOfHand rm_X3_findWays := ⟨by decide, by decide⟩
theorem l_3_73 : Cond.methodLink RX3 73 Lib.Math.min.name ∈ lw_gd := mg 561 (by decide +kernel) (by decide +kernel)
theorem l_3_83 : Cond.methodLink RX3 83 Lib.Math.max.name ∈ lw_gd := mg 560 (by decide +kernel) (by decide +kernel)
theorem ft_X3_weighOrders_X8_compareAll : qFit M_X8_compareAll rm_X3_weighOrders := ⟨by decide, by decide⟩
theorem l_3_86 : Cond.methodLink RX3 86 yX8_thoseWhoBeat ∈ lw_gd := mg 570 (by decide +kernel) (by decide +kernel)
theorem ft_X3_weighOrders_X8_thoseWhoBeat : qFit M_X8_thoseWhoBeat rm_X3_weighOrders := ⟨by decide, by decide⟩
theorem l_3_90 : Cond.methodLink RX3 90 yX3_againstWithAhead ∈ lw_gd := mg 574 (by decide +kernel) (by decide +kernel)
theorem ft_X3_weighOrders_X3_againstWithAhead : qFit M_X3_againstWithAhead rm_X3_weighOrders := ⟨by decide, by decide⟩
theorem l_3_93 : Cond.methodLink RX3 93 yJ6_bitCount_0f7a4 ∈ lw_gd := mg 578 (by decide +kernel) (by decide +kernel)
theorem ft_X3_againstWithAhead_J6_bitCount_0f7a4 : qFit M_J6_bitCount_0f7a4 rm_X3_againstWithAhead := ⟨by decide, by decide⟩
theorem l_3_98 : Cond.methodLink RX3 98 yX3_leastAhead ∈ lw_gd := mg 592 (by decide +kernel) (by decide +kernel)
theorem ft_X3_bestOrder_X3_leastAhead : qFit M_X3_leastAhead rm_X3_bestOrder := ⟨by decide, by decide⟩
theorem ft_X3_leastAhead_X3_againstWithAhead : qFit M_X3_againstWithAhead rm_X3_leastAhead := ⟨by decide, by decide⟩
theorem l_4_3 : Cond.methodLink RX4 3 objectInit ∈ lw_gd := mg 37 (by decide +kernel) (by decide +kernel)
theorem l_4_19 : Cond.methodLink RX4 19 arraycopyName ∈ lw_gd := mg 404 (by decide +kernel) (by decide +kernel)
theorem l_5_3 : Cond.methodLink RX5 3 objectInit ∈ lw_gd := mg 142 (by decide +kernel) (by decide +kernel)
theorem l_5_26 : Cond.methodLink RX5 26 arraycopyName ∈ lw_gd := mg 412 (by decide +kernel) (by decide +kernel)
theorem l_5_39 : Cond.methodLink RX5 39 Lib.Math.min.name ∈ lw_gd := mg 514 (by decide +kernel) (by decide +kernel)
theorem l_6_3 : Cond.methodLink RX6 3 objectInit ∈ lw_gd := mg 96 (by decide +kernel) (by decide +kernel)
theorem l_6_27 : Cond.methodLink RX6 27 yX6_takes ∈ lw_gd := mg 361 (by decide +kernel) (by decide +kernel)
theorem ft_X6_faultOf_X6_takes : qFit M_X6_takes rm_X6_faultOf := ⟨by decide, by decide⟩
theorem l_6_31 : Cond.methodLink RX6 31 yX6_takesPart ∈ lw_gd := mg 365 (by decide +kernel) (by decide +kernel)
theorem ft_X6_takes_X6_takesPart : qFit M_X6_takesPart rm_X6_takes := ⟨by decide, by decide⟩
theorem l_6_34 : Cond.methodLink RX6 34 yX6_takesKind ∈ lw_gd := mg 369 (by decide +kernel) (by decide +kernel)
theorem ft_X6_takes_X6_takesKind : qFit M_X6_takesKind rm_X6_takes := ⟨by decide, by decide⟩
theorem l_6_37 : Cond.methodLink RX6 37 yX6_moveOf ∈ lw_gd := mg 373 (by decide +kernel) (by decide +kernel)
theorem ft_X6_takes_X6_moveOf : qFit M_X6_moveOf rm_X6_takes := ⟨by decide, by decide⟩
theorem l_6_41 : Cond.methodLink RX6 41 yX6_takesMove ∈ lw_gd := mg 376 (by decide +kernel) (by decide +kernel)
theorem ft_X6_takes_X6_takesMove : qFit M_X6_takesMove rm_X6_takes := ⟨by decide, by decide⟩
theorem l_6_44 : Cond.methodLink RX6 44 yX6_takesOwner ∈ lw_gd := mg 380 (by decide +kernel) (by decide +kernel)
theorem ft_X6_takes_X6_takesOwner : qFit M_X6_takesOwner rm_X6_takes := ⟨by decide, by decide⟩
theorem l_6_47 : Cond.methodLink RX6 47 yX6_takesPrice ∈ lw_gd := mg 388 (by decide +kernel) (by decide +kernel)
theorem ft_X6_takes_X6_takesPrice : qFit M_X6_takesPrice rm_X6_takes := ⟨by decide, by decide⟩
theorem l_6_66 : Cond.methodLink RX6 66 yX7_hasFencer ∈ lw_gd := mg 384 (by decide +kernel) (by decide +kernel)
theorem ft_X6_takesOwner_X7_hasFencer : qFit M_X7_hasFencer rm_X6_takesOwner := ⟨by decide, by decide⟩
theorem l_7_3 : Cond.methodLink RX7 3 objectInit ∈ lw_gd := mg 30 (by decide +kernel) (by decide +kernel)
theorem l_7_24 : Cond.methodLinkNest RX7 24 yX4_init "FoilBazaar" ∈ lw_tbl := mt 34 (by decide +kernel)
theorem ft_X7_init_X4_init : qFit M_X4_init rm_X7_init := ⟨by decide, by decide⟩
theorem l_7_32 : Cond.methodLink RX7 32 yX4_copyFrom ∈ lw_gd := mg 400 (by decide +kernel) (by decide +kernel)
theorem ft_X7_copyFrom_X4_copyFrom : qFit M_X4_copyFrom rm_X7_copyFrom := ⟨by decide, by decide⟩
theorem l_7_36 : Cond.methodLink RX7 36 arraycopyName ∈ lw_gd := mg 407 (by decide +kernel) (by decide +kernel)
theorem l_8_3 : Cond.methodLink RX8 3 objectInit ∈ lw_gd := mg 136 (by decide +kernel) (by decide +kernel)
theorem l_8_11 : Cond.methodLinkNest RX8 11 yX5_init "FoilBazaar" ∈ lw_tbl := mt 139 (by decide +kernel)
theorem ft_X8_init_X5_init : qFit M_X5_init rm_X8_init := ⟨by decide, by decide⟩
theorem l_8_41 : Cond.methodLink RX8 41 yX1_fight ∈ lw_gd := mg 438 (by decide +kernel) (by decide +kernel)
theorem ft_X8_fightNow_X1_fight : qFit M_X1_fight rm_X8_fightNow := ⟨by decide, by decide⟩
theorem l_8_50 : Cond.methodLink RX8 50 yX8_fightNow ∈ lw_gd := mg 434 (by decide +kernel) (by decide +kernel)
theorem ft_X8_costFor_X8_fightNow : qFit M_X8_fightNow rm_X8_costFor := ⟨by decide, by decide⟩
theorem l_8_57 : Cond.methodLink RX8 57 yX1_lead ∈ lw_gd := mg 449 (by decide +kernel) (by decide +kernel)
theorem ft_X8_costFor_X1_lead : qFit M_X1_lead rm_X8_costFor := ⟨by decide, by decide⟩
theorem l_8_61 : Cond.methodLink RX8 61 Lib.Math.max.name ∈ lw_gd := mg 486 (by decide +kernel) (by decide +kernel)
theorem l_8_67 : Cond.methodLink RX8 67 yX8_costFor ∈ lw_gd := mg 509 (by decide +kernel) (by decide +kernel)
theorem ft_X8_letMeet_X8_costFor : qFit M_X8_costFor rm_X8_letMeet := ⟨by decide, by decide⟩
theorem l_8_73 : Cond.methodLink RX8 73 yX5_fill ∈ lw_gd := mg 510 (by decide +kernel) (by decide +kernel)
theorem ft_X8_letMeet_X5_fill : qFit M_X5_fill rm_X8_letMeet := ⟨by decide, by decide⟩
theorem l_8_76 : Cond.methodLink RX8 76 yX8_letStep ∈ lw_gd := mg 517 (by decide +kernel) (by decide +kernel)
theorem ft_X8_letMeet_X8_letStep : qFit M_X8_letStep rm_X8_letMeet := ⟨by decide, by decide⟩
theorem l_8_89 : Cond.methodLink RX8 89 yX7_hasFencer ∈ lw_gd := mg 612 (by decide +kernel) (by decide +kernel)
theorem ft_X8_canTrade_X7_hasFencer : qFit M_X7_hasFencer rm_X8_canTrade := ⟨by decide, by decide⟩
theorem l_8_93 : Cond.methodLink RX8 93 yX7_hasGood ∈ lw_gd := mg 613 (by decide +kernel) (by decide +kernel)
theorem ft_X8_canTrade_X7_hasGood : qFit M_X7_hasGood rm_X8_canTrade := ⟨by decide, by decide⟩
theorem l_8_96 : Cond.methodLink RX8 96 yX8_canTrade ∈ lw_gd := mg 608 (by decide +kernel) (by decide +kernel)
theorem ft_X8_holdsTrue_X8_canTrade : qFit M_X8_canTrade rm_X8_holdsTrue := ⟨by decide, by decide⟩
theorem l_8_100 : Cond.methodLink RX8 100 yX8_letMeet ∈ lw_gd := mg 614 (by decide +kernel) (by decide +kernel)
theorem ft_X8_holdsTrue_X8_letMeet : qFit M_X8_letMeet rm_X8_holdsTrue := ⟨by decide, by decide⟩
theorem ft_X8_holdsTrue_X7_hasFencer : qFit M_X7_hasFencer rm_X8_holdsTrue := ⟨by decide, by decide⟩
theorem ft_X8_holdsTrue_X8_letStep : qFit M_X8_letStep rm_X8_holdsTrue := ⟨by decide, by decide⟩
theorem ft_X8_holdsTrue_X5_fill : qFit M_X5_fill rm_X8_holdsTrue := ⟨by decide, by decide⟩
theorem ft_X8_holdsTrue_X8_fightNow : qFit M_X8_fightNow rm_X8_holdsTrue := ⟨by decide, by decide⟩
theorem ft_X8_holdsTrue_X1_lead : qFit M_X1_lead rm_X8_holdsTrue := ⟨by decide, by decide⟩
theorem ft_X8_holdsTrue_X7_hasGood : qFit M_X7_hasGood rm_X8_holdsTrue := ⟨by decide, by decide⟩
theorem ft_X8_feast_X8_canTrade : qFit M_X8_canTrade rm_X8_feast := ⟨by decide, by decide⟩
theorem ft_X8_feast_X8_letMeet : qFit M_X8_letMeet rm_X8_feast := ⟨by decide, by decide⟩
theorem ft_X8_feast_X7_hasFencer : qFit M_X7_hasFencer rm_X8_feast := ⟨by decide, by decide⟩
theorem ft_X8_feast_X8_letStep : qFit M_X8_letStep rm_X8_feast := ⟨by decide, by decide⟩
theorem ft_X8_feast_X5_fill : qFit M_X5_fill rm_X8_feast := ⟨by decide, by decide⟩
theorem ft_X8_compareAll_X8_fightNow : qFit M_X8_fightNow rm_X8_compareAll := ⟨by decide, by decide⟩
theorem ft_X8_compareAll_X1_lead : qFit M_X1_lead rm_X8_compareAll := ⟨by decide, by decide⟩
theorem l_8_112 : Cond.methodLink RX8 112 yX8_beatenBy ∈ lw_gd := mg 735 (by decide +kernel) (by decide +kernel)
theorem ft_X8_beatenByAnybody_X8_beatenBy : qFit M_X8_beatenBy rm_X8_beatenByAnybody := ⟨by decide, by decide⟩
theorem l_9_3 : Cond.methodLink RX9 3 objectInit ∈ lw_gd := mg 268 (by decide +kernel) (by decide +kernel)
theorem l_9_11 : Cond.methodLinkNest RX9 11 yX4_init "FoilBazaar" ∈ lw_tbl := mt 270 (by decide +kernel)
theorem ft_X9_init_X4_init : qFit M_X4_init rm_X9_init := ⟨by decide, by decide⟩
theorem l_9_45 : Cond.methodLink RX9 45 yX9_fitsAll ∈ lw_gd := mg 635 (by decide +kernel) (by decide +kernel)
theorem ft_X9_findMasks_X9_fitsAll : qFit M_X9_fitsAll rm_X9_findMasks := ⟨by decide, by decide⟩
theorem l_9_49 : Cond.methodLink RX9 49 yX4_movesAsFigures ∈ lw_gd := mg 641 (by decide +kernel) (by decide +kernel)
theorem ft_X9_findMasks_X4_movesAsFigures : qFit M_X4_movesAsFigures rm_X9_findMasks := ⟨by decide, by decide⟩
theorem l_9_59 : Cond.methodLink RX9 59 yX7_hasFencer ∈ lw_gd := mg 639 (by decide +kernel) (by decide +kernel)
theorem ft_X9_fitsAll_X7_hasFencer : qFit M_X7_hasFencer rm_X9_fitsAll := ⟨by decide, by decide⟩
theorem l_9_82 : Cond.methodLink RX9 82 yX1_fight ∈ lw_gd := mg 640 (by decide +kernel) (by decide +kernel)
theorem ft_X9_fitsAll_X1_fight : qFit M_X1_fight rm_X9_fitsAll := ⟨by decide, by decide⟩
theorem l_L_9 : Cond.methodLink RL 9 yX10_init ∈ lw_gd := mg 19 (by decide +kernel) (by decide +kernel)
theorem l_L_12 : Cond.methodLink RL 12 yX11_init ∈ lw_gd := mg 738 (by decide +kernel) (by decide +kernel)
theorem l_L_13 : Cond.methodLink RL 13 yX10_write ∈ lw_gd := mg 345 (by decide +kernel) (by decide +kernel)
theorem l_L_17 : Cond.methodLink RL 17 yX11_write ∈ lw_gd := mg 839 (by decide +kernel) (by decide +kernel)
theorem l_L_18 : Cond.methodLink RL 18 yX10_wipe ∈ lw_gd := mg 349 (by decide +kernel) (by decide +kernel)
theorem l_L_22 : Cond.methodLink RL 22 yX11_wipe ∈ lw_gd := mg 847 (by decide +kernel) (by decide +kernel)
theorem l_L_23 : Cond.methodLink RL 23 yX10_fault ∈ lw_gd := mg 353 (by decide +kernel) (by decide +kernel)
theorem l_L_26 : Cond.methodLink RL 26 yX11_fault ∈ lw_gd := mg 851 (by decide +kernel) (by decide +kernel)
theorem l_L_27 : Cond.methodLink RL 27 yX10_bazaar ∈ lw_gd := mg 392 (by decide +kernel) (by decide +kernel)
theorem l_L_30 : Cond.methodLink RL 30 yX11_bazaar ∈ lw_gd := mg 874 (by decide +kernel) (by decide +kernel)
theorem l_L_31 : Cond.methodLink RL 31 yX10_fencer ∈ lw_gd := mg 417 (by decide +kernel) (by decide +kernel)
theorem l_L_35 : Cond.methodLink RL 35 yX11_fencer ∈ lw_gd := mg 878 (by decide +kernel) (by decide +kernel)
theorem l_L_36 : Cond.methodLink RL 36 yX10_good ∈ lw_gd := mg 457 (by decide +kernel) (by decide +kernel)
theorem l_L_39 : Cond.methodLink RL 39 yX11_good ∈ lw_gd := mg 924 (by decide +kernel) (by decide +kernel)
theorem l_L_40 : Cond.methodLink RL 40 yX10_bout ∈ lw_gd := mg 465 (by decide +kernel) (by decide +kernel)
theorem l_L_44 : Cond.methodLink RL 44 yX11_bout ∈ lw_gd := mg 932 (by decide +kernel) (by decide +kernel)
theorem l_L_45 : Cond.methodLink RL 45 yX10_cost ∈ lw_gd := mg 474 (by decide +kernel) (by decide +kernel)
theorem l_L_48 : Cond.methodLink RL 48 yX11_cost ∈ lw_gd := mg 937 (by decide +kernel) (by decide +kernel)
theorem l_L_49 : Cond.methodLink RL 49 yX10_meet ∈ lw_gd := mg 489 (by decide +kernel) (by decide +kernel)
theorem l_L_52 : Cond.methodLink RL 52 yX11_meet ∈ lw_gd := mg 945 (by decide +kernel) (by decide +kernel)
theorem l_L_53 : Cond.methodLink RL 53 yX10_step ∈ lw_gd := mg 521 (by decide +kernel) (by decide +kernel)
theorem l_L_56 : Cond.methodLink RL 56 yX11_step ∈ lw_gd := mg 965 (by decide +kernel) (by decide +kernel)
theorem l_L_57 : Cond.methodLink RL 57 yX10_salute ∈ lw_gd := mg 526 (by decide +kernel) (by decide +kernel)
theorem l_L_60 : Cond.methodLink RL 60 yX11_salute ∈ lw_gd := mg 969 (by decide +kernel) (by decide +kernel)
theorem l_L_61 : Cond.methodLink RL 61 yX10_undo ∈ lw_gd := mg 531 (by decide +kernel) (by decide +kernel)
theorem l_L_64 : Cond.methodLink RL 64 yX11_undo ∈ lw_gd := mg 974 (by decide +kernel) (by decide +kernel)
theorem l_L_65 : Cond.methodLink RL 65 yX10_chain ∈ lw_gd := mg 539 (by decide +kernel) (by decide +kernel)
theorem l_L_68 : Cond.methodLink RL 68 yX11_chain ∈ lw_gd := mg 978 (by decide +kernel) (by decide +kernel)
theorem l_L_69 : Cond.methodLink RL 69 yX10_order ∈ lw_gd := mg 562 (by decide +kernel) (by decide +kernel)
theorem l_L_72 : Cond.methodLink RL 72 yX11_order ∈ lw_gd := mg 986 (by decide +kernel) (by decide +kernel)
theorem l_L_75 : Cond.methodLink RL 75 yX10_judge ∈ lw_gd := mg 596 (by decide +kernel) (by decide +kernel)
theorem l_L_79 : Cond.methodLink RL 79 yX11_judge ∈ lw_gd := mg 1009 (by decide +kernel) (by decide +kernel)
theorem l_L_80 : Cond.methodLink RL 80 yX10_see ∈ lw_gd := mg 615 (by decide +kernel) (by decide +kernel)
theorem l_L_83 : Cond.methodLink RL 83 yX11_see ∈ lw_gd := mg 1026 (by decide +kernel) (by decide +kernel)
theorem l_L_84 : Cond.methodLink RL 84 yX10_unsee ∈ lw_gd := mg 623 (by decide +kernel) (by decide +kernel)
theorem l_L_87 : Cond.methodLink RL 87 yX11_unsee ∈ lw_gd := mg 1030 (by decide +kernel) (by decide +kernel)
theorem l_L_88 : Cond.methodLink RL 88 yX10_masks ∈ lw_gd := mg 627 (by decide +kernel) (by decide +kernel)
theorem l_L_91 : Cond.methodLink RL 91 yX11_masks ∈ lw_gd := mg 1034 (by decide +kernel) (by decide +kernel)
theorem l_L_92 : Cond.methodLink RL 92 yX10_share ∈ lw_gd := mg 642 (by decide +kernel) (by decide +kernel)
theorem l_L_96 : Cond.methodLink RL 96 yX11_share ∈ lw_gd := mg 1042 (by decide +kernel) (by decide +kernel)
theorem l_L_97 : Cond.methodLink RL 97 yX10_rests ∈ lw_gd := mg 663 (by decide +kernel) (by decide +kernel)
theorem l_L_100 : Cond.methodLink RL 100 yX11_rests ∈ lw_gd := mg 1059 (by decide +kernel) (by decide +kernel)
theorem l_L_101 : Cond.methodLink RL 101 yX10_clouded ∈ lw_gd := mg 681 (by decide +kernel) (by decide +kernel)
theorem l_L_105 : Cond.methodLink RL 105 yX11_clouded ∈ lw_gd := mg 1071 (by decide +kernel) (by decide +kernel)
theorem l_L_106 : Cond.methodLink RL 106 yX10_seed ∈ lw_gd := mg 696 (by decide +kernel) (by decide +kernel)
theorem l_L_110 : Cond.methodLink RL 110 yX11_seed ∈ lw_gd := mg 1079 (by decide +kernel) (by decide +kernel)
theorem l_L_111 : Cond.methodLink RL 111 yX10_feasts ∈ lw_gd := mg 700 (by decide +kernel) (by decide +kernel)
theorem l_L_114 : Cond.methodLink RL 114 yX11_feasts ∈ lw_gd := mg 1083 (by decide +kernel) (by decide +kernel)
theorem l_L_115 : Cond.methodLink RL 115 yX10_keep ∈ lw_gd := mg 716 (by decide +kernel) (by decide +kernel)
theorem l_L_118 : Cond.methodLink RL 118 yX11_keep ∈ lw_gd := mg 1095 (by decide +kernel) (by decide +kernel)
theorem l_L_119 : Cond.methodLink RL 119 yX10_again ∈ lw_gd := mg 720 (by decide +kernel) (by decide +kernel)
theorem l_L_122 : Cond.methodLink RL 122 yX11_again ∈ lw_gd := mg 1099 (by decide +kernel) (by decide +kernel)
theorem l_L_123 : Cond.methodLink RL 123 yX10_count ∈ lw_gd := mg 724 (by decide +kernel) (by decide +kernel)
theorem l_L_126 : Cond.methodLink RL 126 yX11_count ∈ lw_gd := mg 1103 (by decide +kernel) (by decide +kernel)
theorem k_3_59 : Cond.constant RX3 59 (1000000) ∈ lw_gd := mg 552 (by decide +kernel) (by decide +kernel)
theorem k_J6_265 : Cond.constant RJ6 265 (1431655765) ∈ lw_gd := mg 581 (by decide +kernel) (by decide +kernel)
theorem k_J6_266 : Cond.constant RJ6 266 (858993459) ∈ lw_gd := mg 582 (by decide +kernel) (by decide +kernel)
theorem k_J6_267 : Cond.constant RJ6 267 (252645135) ∈ lw_gd := mg 583 (by decide +kernel) (by decide +kernel)
theorem k_10_232 : Cond.constantLong RX10 232 (1000) ∈ lw_gd := mg 603 (by decide +kernel) (by decide +kernel)
theorem k_2_93 : Cond.constant RX2 93 (1000000) ∈ lw_gd := mg 662 (by decide +kernel) (by decide +kernel)
theorem k_10_275 : Cond.constantLong RX10 275 (6364136223846793005) ∈ lw_gd := mg 704 (by decide +kernel) (by decide +kernel)
theorem k_10_277 : Cond.constantLong RX10 277 (1442695040888963407) ∈ lw_gd := mg 705 (by decide +kernel) (by decide +kernel)
theorem k_10_279 : Cond.constantLong RX10 279 (42) ∈ lw_gd := mg 706 (by decide +kernel) (by decide +kernel)
theorem k_11_59 : Cond.constantLong RX11 59 (255) ∈ lw_gd := mg 843 (by decide +kernel) (by decide +kernel)
theorem k_11_166 : Cond.constantLong RX11 166 (2) ∈ lw_gd := mg 936 (by decide +kernel) (by decide +kernel)
theorem k_11_187 : Cond.constantLong RX11 187 (9) ∈ lw_gd := mg 973 (by decide +kernel) (by decide +kernel)
theorem k_11_210 : Cond.constantLong RX11 210 (4) ∈ lw_gd := mg 1013 (by decide +kernel) (by decide +kernel)
theorem k_11_208 : Cond.constantLong RX11 208 (1000) ∈ lw_gd := mg 1017 (by decide +kernel) (by decide +kernel)
theorem k_11_248 : Cond.constantLong RX11 248 (10) ∈ lw_gd := mg 1075 (by decide +kernel) (by decide +kernel)
theorem k_11_257 : Cond.constantLong RX11 257 (30) ∈ lw_gd := mg 1087 (by decide +kernel) (by decide +kernel)
theorem k_11_259 : Cond.constantLong RX11 259 (6364136223846793005) ∈ lw_gd := mg 1088 (by decide +kernel) (by decide +kernel)
theorem k_11_261 : Cond.constantLong RX11 261 (1442695040888963407) ∈ lw_gd := mg 1089 (by decide +kernel) (by decide +kernel)
theorem k_11_263 : Cond.constantLong RX11 263 (42) ∈ lw_gd := mg 1090 (by decide +kernel) (by decide +kernel)
theorem k_L_73 : Cond.constantLong RL 73 (4294967295) ∈ lw_gd := mg 1115 (by decide +kernel) (by decide +kernel)
theorem w_copyN : Cond.native arraycopyName ∈ lw_gd := by decide +kernel
theorem w_copyS : Cond.static arraycopyName ∈ lw_gd := by decide +kernel
theorem w_sysI : Cond.initialized "java/lang/System" ∈ lw_gd := by decide +kernel
theorem w_mathI : Cond.initialized "java/lang/Math" ∈ lw_gd := by decide +kernel
theorem w_maxS : Cond.static Lib.Math.max.name ∈ lw_gd := by decide +kernel
theorem w_minS : Cond.static Lib.Math.min.name ∈ lw_gd := by decide +kernel
theorem w_maxC : Cond.code Lib.Math.max.name Lib.Math.max.code 2 (some .int) ∈ lw_gd := by decide +kernel
theorem w_minC : Cond.code Lib.Math.min.name Lib.Math.min.code 2 (some .int) ∈ lw_gd := by decide +kernel
theorem w_objI : Cond.instanceMethod objectInit ∈ lw_gd := by decide +kernel
theorem w_objC : Cond.code objectInit ⟨#[0xb1]⟩ 1 none ∈ lw_gd := by decide +kernel
theorem w_arI : Cond.arrayClass .int ∈ lw_gd := by decide +kernel
theorem w_arZ : Cond.arrayClass .boolean ∈ lw_gd := by decide +kernel
theorem n_L_7 : Cond.classLink RL 7 RX10 ∈ lw_gd := mg 17 (by decide +kernel) (by decide +kernel)
theorem n_10_13 : Cond.classLink RX10 13 RX7 ∈ lw_gd := mg 25 (by decide +kernel) (by decide +kernel)
theorem n_7_9 : Cond.classLink RX7 9 RX4 ∈ lw_gd := mg 31 (by decide +kernel) (by decide +kernel)
theorem n_10_20 : Cond.classLink RX10 20 RX6 ∈ lw_gd := mg 91 (by decide +kernel) (by decide +kernel)
theorem n_10_32 : Cond.classLink RX10 32 RX1 ∈ lw_gd := mg 107 (by decide +kernel) (by decide +kernel)
theorem n_10_39 : Cond.classLink RX10 39 RX8 ∈ lw_gd := mg 131 (by decide +kernel) (by decide +kernel)
theorem n_8_9 : Cond.classLink RX8 9 RX5 ∈ lw_gd := mg 137 (by decide +kernel) (by decide +kernel)
theorem n_8_18 : Cond.classLink RX8 18 "[[I" ∈ lw_gd := mg 167 (by decide +kernel) (by decide +kernel)
theorem n_10_51 : Cond.classLink RX10 51 RX0 ∈ lw_gd := mg 192 (by decide +kernel) (by decide +kernel)
theorem n_0_9 : Cond.classLink RX0 9 RX5 ∈ lw_gd := mg 198 (by decide +kernel) (by decide +kernel)
theorem n_10_58 : Cond.classLink RX10 58 RX3 ∈ lw_gd := mg 209 (by decide +kernel) (by decide +kernel)
theorem n_10_67 : Cond.classLink RX10 67 RX2 ∈ lw_gd := mg 236 (by decide +kernel) (by decide +kernel)
theorem n_10_74 : Cond.classLink RX10 74 RX9 ∈ lw_gd := mg 263 (by decide +kernel) (by decide +kernel)
theorem n_9_9 : Cond.classLink RX9 9 RX4 ∈ lw_gd := mg 269 (by decide +kernel) (by decide +kernel)
theorem n_10_81 : Cond.classLink RX10 81 RX5 ∈ lw_gd := mg 296 (by decide +kernel) (by decide +kernel)
theorem n_L_10 : Cond.classLink RL 10 RX11 ∈ lw_gd := mg 736 (by decide +kernel) (by decide +kernel)
end
section
/-! THE LAYOUT of the class and the reference: which cell is which, from the start on -/
abbrev qShape : Type := (Nat × List (Option (Option Nat))) ⊕ (Nat × Nat × Nat × Nat)
def layL : List qShape := [.inl (10, [some (some 1), none, some (some 2), some (some 18), some (some 19), some (some 35), some (some 37), some (some 49), some (some 61), some (some 119), some (some 123), some (some 125), some (some 130), some (some 131), some none]), .inr (0, 52, 0, 0), .inl (7, [some (some 3), some (some 4), some (some 5), none, none]), .inr (2, 6, 6, 2), .inr (0, 5, 0, 0), .inr (0, 5, 0, 0), .inl (4, [none, some (some 7)]), .inr (0, 3, 0, 0), .inl (4, [none, some (some 9)]), .inr (0, 3, 0, 0), .inl (4, [none, some (some 11)]), .inr (0, 3, 0, 0), .inl (4, [none, some (some 13)]), .inr (0, 3, 0, 0), .inl (4, [none, some (some 15)]), .inr (0, 3, 0, 0), .inl (4, [none, some (some 17)]), .inr (0, 3, 0, 0), .inl (6, [some (some 2), none, none]), .inl (7, [some (some 20), some (some 21), some (some 22), none, none]), .inr (2, 6, 23, 2), .inr (0, 5, 0, 0), .inr (0, 5, 0, 0), .inl (4, [none, some (some 24)]), .inr (0, 3, 0, 0), .inl (4, [none, some (some 26)]), .inr (0, 3, 0, 0), .inl (4, [none, some (some 28)]), .inr (0, 3, 0, 0), .inl (4, [none, some (some 30)]), .inr (0, 3, 0, 0), .inl (4, [none, some (some 32)]), .inr (0, 3, 0, 0), .inl (4, [none, some (some 34)]), .inr (0, 3, 0, 0), .inl (1, [none, none, none, some (some 36)]), .inr (0, 9, 0, 0), .inl (8, [some (some 19), some (some 35), some (some 38), some (some 42)]), .inl (5, [some (some 39), some (some 40), some (some 41), none]), .inr (0, 5, 0, 0), .inr (0, 6, 0, 0), .inr (0, 6, 0, 0), .inr (4, 6, 43, 1), .inr (0, 6, 0, 0), .inr (0, 6, 0, 0), .inr (0, 6, 0, 0), .inr (0, 6, 0, 0), .inr (0, 6, 0, 0), .inr (0, 6, 0, 0), .inl (8, [some (some 19), some (some 35), some (some 50), some (some 54)]), .inl (5, [some (some 51), some (some 52), some (some 53), none]), .inr (0, 5, 0, 0), .inr (0, 6, 0, 0), .inr (0, 6, 0, 0), .inr (4, 6, 55, 1), .inr (0, 6, 0, 0), .inr (0, 6, 0, 0), .inr (0, 6, 0, 0), .inr (0, 6, 0, 0), .inr (0, 6, 0, 0), .inr (0, 6, 0, 0), .inl (0, [some (some 62), none]), .inr (5, 14, 0, 0), .inl (5, [some (some 64), some (some 65), some (some 66), none]), .inr (0, 5, 0, 0), .inr (0, 6, 0, 0), .inr (0, 6, 0, 0), .inl (5, [some (some 68), some (some 69), some (some 70), none]), .inr (0, 5, 0, 0), .inr (0, 6, 0, 0), .inr (0, 6, 0, 0), .inl (5, [some (some 72), some (some 73), some (some 74), none]), .inr (0, 5, 0, 0), .inr (0, 6, 0, 0), .inr (0, 6, 0, 0), .inl (5, [some (some 76), some (some 77), some (some 78), none]), .inr (0, 5, 0, 0), .inr (0, 6, 0, 0), .inr (0, 6, 0, 0), .inl (5, [some (some 80), some (some 81), some (some 82), none]), .inr (0, 5, 0, 0), .inr (0, 6, 0, 0), .inr (0, 6, 0, 0), .inl (5, [some (some 84), some (some 85), some (some 86), none]), .inr (0, 5, 0, 0), .inr (0, 6, 0, 0), .inr (0, 6, 0, 0), .inl (5, [some (some 88), some (some 89), some (some 90), none]), .inr (0, 5, 0, 0), .inr (0, 6, 0, 0), .inr (0, 6, 0, 0), .inl (5, [some (some 92), some (some 93), some (some 94), none]), .inr (0, 5, 0, 0), .inr (0, 6, 0, 0), .inr (0, 6, 0, 0), .inl (5, [some (some 96), some (some 97), some (some 98), none]), .inr (0, 5, 0, 0), .inr (0, 6, 0, 0), .inr (0, 6, 0, 0), .inl (5, [some (some 100), some (some 101), some (some 102), none]), .inr (0, 5, 0, 0), .inr (0, 6, 0, 0), .inr (0, 6, 0, 0), .inl (5, [some (some 104), some (some 105), some (some 106), none]), .inr (0, 5, 0, 0), .inr (0, 6, 0, 0), .inr (0, 6, 0, 0), .inl (5, [some (some 108), some (some 109), some (some 110), none]), .inr (0, 5, 0, 0), .inr (0, 6, 0, 0), .inr (0, 6, 0, 0), .inl (5, [some (some 112), some (some 113), some (some 114), none]), .inr (0, 5, 0, 0), .inr (0, 6, 0, 0), .inr (0, 6, 0, 0), .inl (5, [some (some 116), some (some 117), some (some 118), none]), .inr (0, 5, 0, 0), .inr (0, 6, 0, 0), .inr (0, 6, 0, 0), .inl (3, [some (some 37), some (some 120), some (some 121), some (some 122), none, none]), .inr (0, 6, 0, 0), .inr (0, 6, 0, 0), .inr (0, 64, 0, 0), .inl (2, [some (some 37), some (some 124), none, none, none, none]), .inr (0, 9, 0, 0), .inl (9, [some (some 37), some (some 126), some (some 128), some (some 129), none, none, none]), .inl (4, [none, some (some 127)]), .inr (0, 3, 0, 0), .inr (0, 6, 0, 0), .inr (0, 6, 0, 0), .inr (3, 2, 132, 4), .inr (1, 2, 0, 0), .inl (5, [some (some 133), some (some 134), some (some 135), none]), .inr (0, 5, 0, 0), .inr (0, 6, 0, 0), .inr (0, 6, 0, 0), .inl (5, [some (some 137), some (some 138), some (some 139), none]), .inr (0, 5, 0, 0), .inr (0, 6, 0, 0), .inr (0, 6, 0, 0), .inl (11, [none, none, some (some 141), some (some 142), some (some 143), some (some 144), some (some 145), some (some 146), some (some 147), none, none, some (some 148), none, none, none, none, none, none, none, none, none, none, some (some 149), some (some 150), some (some 151), some (some 152), none, some (some 153), some (some 154), some none, some (some 155), some (some 156)]), .inr (0, 7, 0, 0), .inr (0, 21, 0, 0), .inr (0, 5, 0, 0), .inr (0, 5, 0, 0), .inr (0, 36, 0, 0), .inr (0, 24, 0, 0), .inr (0, 10, 0, 0), .inr (0, 52, 0, 0), .inr (0, 252, 0, 0), .inr (0, 6, 0, 0), .inr (0, 6, 0, 0), .inr (0, 6, 0, 0), .inr (0, 6, 0, 0), .inr (0, 6, 0, 0), .inr (1, 2, 0, 0), .inr (0, 36, 0, 0)]
def lay (a : Nat) : Option qShape := layL[a]?
end
section
/-! THE MEMORY: what the cells of the layout hold: ints by address and place, longs, the row of acts -/
abbrev Mem : Type := (Nat → Nat → Int32) × (Nat → Int64) × (Nat → Nat)
def fv (G : qG) (μ : Mem) (a k : Nat) (d : Option (Option Nat)) : Value := match d with
  | none => .int (μ.1 a k)
  | some none => .long (μ.2.1 a)
  | some (some b) => .ref (qB G + b)
def qF (G : qG) (μ : Mem) (a : Nat) : Nat → List (Option (Option Nat)) → List Value
  | _, [] => []
  | k, d :: r => fv G μ a k d :: qF G μ a (k + 1) r
/-- the cell at a -/
def mc (G : qG) (μ : Mem) (a : Nat) : va_E := match lay a with
  | some (.inl (ci, fds)) => .inr (ci, qF G μ a 0 fds)
  | some (.inr (0, N, _, _)) => .inl (qc G 0, N, .inl (μ.1 a))
  | some (.inr (1, N, _, _)) => .inl (qc G 1, N, .inl (μ.1 a))
  | some (.inr (5, N, _, _)) => .inl (qc G 3, N, .inr (.inr (.inr (.inr (fun j => some (qB G + μ.2.2 j))))))
  | some (.inr (k, N, b, d)) => .inl (qc G k, N, .inr (.inr (.inr (.inr (fun j => some (qB G + (b + d * j)))))))
  | none => .inr (0, [])
def layF (a k : Nat) : Option (Nat × Option (Option Nat)) := match lay a with
  | some (.inl (ci, fds)) => fds[k]?.map (fun d => (ci, d))
  | _ => none
def layA (a : Nat) : Option (Nat × Nat × Nat × Nat) := match lay a with
  | some (.inr q) => some q
  | _ => none
def layC (a : Nat) : Option Nat := match lay a with
  | some (.inl (ci, _)) => some ci
  | _ => none
theorem qF_len {G : qG} {μ : Mem} {a : Nat} : ∀ (fds : List (Option (Option Nat))) (k : Nat), (qF G μ a k fds).length = fds.length
  | [], _ => rfl
  | _ :: r, k => by simp [qF, qF_len r (k + 1)]
theorem qF_get {G : qG} {μ : Mem} {a : Nat} : ∀ (fds : List (Option (Option Nat))) (k j : Nat) (d : Option (Option Nat)), fds[j]? = some d → (qF G μ a k fds)[j]? = some (fv G μ a (k + j) d)
  | [], k, j, d, h => by simp at h
  | e :: r, k, 0, d, h => by simp at h; subst h; simp [qF]
  | e :: r, k, j + 1, d, h => by
    simp only [List.getElem?_cons_succ] at h
    have := qF_get (G := G) (μ := μ) (a := a) r (k + 1) j d h
    simp only [qF, List.getElem?_cons_succ]
    rw [this, show k + 1 + j = k + (j + 1) by omega]
theorem layL_len : layL.length = 157 := by decide +kernel
theorem lay_lt {a : Nat} {q : qShape} (h : lay a = some q) : a < 157 := by
  have := (List.getElem?_eq_some_iff.mp h).1
  rw [layL_len] at this
  exact this
/-- a word of the memory is written -/
def mw (μ : Mem) (a k : Nat) (x : Int32) : Mem := (fun b j => if b = a ∧ j = k then x else μ.1 b j, μ.2.1, μ.2.2)
def mwL (μ : Mem) (a : Nat) (x : Int64) : Mem := (μ.1, fun b => if b = a then x else μ.2.1 b, μ.2.2)
def mwP (μ : Mem) (j b : Nat) : Mem := (μ.1, μ.2.1, fun i => if i = j then b else μ.2.2 i)
/-- a whole row is written -/
def mwR (μ : Mem) (a : Nat) (f : Nat → Int32) : Mem := (fun b j => if b = a then f j else μ.1 b j, μ.2.1, μ.2.2)
theorem mw_same (μ : Mem) (a k : Nat) (x : Int32) : (mw μ a k x).1 a k = x := if_pos ⟨rfl, rfl⟩
theorem mw_ne (μ : Mem) {a k b j : Nat} (x : Int32) (h : b ≠ a ∨ j ≠ k) : (mw μ a k x).1 b j = μ.1 b j := if_neg (fun q => h.elim (fun z => z q.1) (fun z => z q.2))
theorem mw_other (μ : Mem) {a k b : Nat} (x : Int32) (h : b ≠ a) : (mw μ a k x).1 b = μ.1 b := funext fun j => mw_ne μ x (Or.inl h)
theorem mw_row (μ : Mem) (a k : Nat) (x : Int32) : (mw μ a k x).1 a = upd (μ.1 a) k x := by
  funext j
  by_cases h : j = k
  · subst h; simp [mw, upd]
  · simp [mw, upd, h]
theorem mwR_other (μ : Mem) {a b : Nat} (f : Nat → Int32) (h : b ≠ a) : (mwR μ a f).1 b = μ.1 b := funext fun j => if_neg h
theorem mwR_row (μ : Mem) (a : Nat) (f : Nat → Int32) : (mwR μ a f).1 a = f := funext fun j => if_pos rfl
theorem fv_congr {G : qG} {μ μ' : Mem} {a k : Nat} {d : Option (Option Nat)} (h1 : μ'.1 a k = μ.1 a k) (h2 : μ'.2.1 a = μ.2.1 a) : fv G μ' a k d = fv G μ a k d := by
  match d with
  | none => simp [fv, h1]
  | some none => simp [fv, h2]
  | some (some b) => rfl
theorem qF_congr {G : qG} {μ μ' : Mem} {a : Nat} (h1 : ∀ k, μ'.1 a k = μ.1 a k) (h2 : μ'.2.1 a = μ.2.1 a) : ∀ (fds : List (Option (Option Nat))) (k : Nat), qF G μ' a k fds = qF G μ a k fds
  | [], _ => rfl
  | d :: r, k => by simp [qF, qF_congr h1 h2 r (k + 1), fv_congr (h1 k) h2]
theorem mc_congr {G : qG} {μ μ' : Mem} {a : Nat} (h1 : μ'.1 a = μ.1 a) (h2 : μ'.2.1 a = μ.2.1 a) (h3 : μ'.2.2 = μ.2.2) : mc G μ' a = mc G μ a := by
  have hq := fun fds => qF_congr (G := G) (μ := μ) (μ' := μ') (a := a) (fun k => congrFun h1 k) h2 fds 0
  unfold mc
  split
  · rw [hq]
  · rw [h1]
  · rw [h1]
  · rw [h3]
  · rfl
  · rfl
theorem mc_obj {G : qG} {μ : Mem} {a ci : Nat} {fds : List (Option (Option Nat))} (h : lay a = some (.inl (ci, fds))) : mc G μ a = .inr (ci, qF G μ a 0 fds) := by simp only [mc, h]
theorem mc_int {G : qG} {μ : Mem} {a N b d : Nat} (h : lay a = some (.inr (0, N, b, d))) : mc G μ a = .inl (qc G 0, N, .inl (μ.1 a)) := by simp only [mc, h]
theorem mc_boo {G : qG} {μ : Mem} {a N b d : Nat} (h : lay a = some (.inr (1, N, b, d))) : mc G μ a = .inl (qc G 1, N, .inl (μ.1 a)) := by simp only [mc, h]
theorem mc_dyn {G : qG} {μ : Mem} {a N b d : Nat} (h : lay a = some (.inr (5, N, b, d))) : mc G μ a = .inl (qc G 3, N, .inr (.inr (.inr (.inr (fun j => some (qB G + μ.2.2 j)))))) := by simp only [mc, h]
theorem mc_ref {G : qG} {μ : Mem} {a k N b d : Nat} (h : lay a = some (.inr (k, N, b, d))) (h0 : k ≠ 0) (h1 : k ≠ 1) (h5 : k ≠ 5) : mc G μ a = .inl (qc G k, N, .inr (.inr (.inr (.inr (fun j => some (qB G + (b + d * j))))))) := by
  unfold mc
  rw [h]
  split
  · next q => simp at q
  · next q => simp at q; exact absurd q.1 h0
  · next q => simp at q; exact absurd q.1 h1
  · next q => simp at q; exact absurd q.1 h5
  · next q => simp at q; obtain ⟨rfl, rfl, rfl, rfl⟩ := q; rfl
  · next q => simp at q
theorem qF_set {G : qG} {μ : Mem} {a : Nat} (x : Int32) : ∀ (fds : List (Option (Option Nat))) (k j : Nat), fds[j]? = some none → (qF G μ a k fds).set j (.int x) = qF G (mw μ a (k + j) x) a k fds
  | [], k, j, h => by simp at h
  | e :: r, k, 0, h => by
    simp at h
    subst h
    have h2 : ∀ (r : List (Option (Option Nat))) (i : Nat), k < i → qF G (mw μ a k x) a i r = qF G μ a i r := by
      intro r
      induction r with
      | nil => intros; rfl
      | cons d r ih =>
        intro i hi
        simp only [qF]
        rw [ih (i + 1) (by omega), fv_congr (mw_ne μ x (Or.inr (by omega))) rfl]
    simp [qF, fv, mw_same, h2 r (k + 1) (by omega)]
  | e :: r, k, j + 1, h => by
    simp only [List.getElem?_cons_succ] at h
    have ih := qF_set (G := G) (μ := μ) (a := a) x r (k + 1) j h
    simp only [qF, List.set_cons_succ]
    rw [ih, show k + 1 + j = k + (j + 1) by omega, fv_congr (mw_ne μ x (Or.inr (by omega))) rfl]
theorem mc_put {G : qG} {μ : Mem} {a k ci : Nat} {fds : List (Option (Option Nat))} (x : Int32) (h : lay a = some (.inl (ci, fds))) (hk : fds[k]? = some none) : va_up (mc G μ) a (.inr (ci, (qF G μ a 0 fds).set k (.int x))) = mc G (mw μ a k x) := by
  funext b
  by_cases hb : b = a
  · subst hb
    rw [q_up_eq, mc_obj h, qF_set x fds 0 k hk, Nat.zero_add]
  · rw [q_up_ne _ _ hb, mc_congr (mw_other μ x hb) rfl rfl]
theorem qF_setL {G : qG} {μ : Mem} {a : Nat} (x : Int64) : ∀ (fds : List (Option (Option Nat))) (k j : Nat), fds[j]? = some (some none) → (∀ i : Nat, i ≠ j → fds[i]? ≠ some (some none)) → (qF G μ a k fds).set j (.long x) = qF G (mwL μ a x) a k fds
  | [], k, j, h, _ => by simp at h
  | e :: r, k, 0, h, ho => by
    simp at h
    subst h
    have h2 : ∀ (r : List (Option (Option Nat))) (i : Nat), (∀ j : Nat, r[j]? ≠ some (some none)) → qF G (mwL μ a x) a i r = qF G μ a i r := by
      intro r
      induction r with
      | nil => intros; rfl
      | cons d r ih =>
        intro i hi
        have hd : d ≠ some none := by have := hi 0; simpa using this
        simp only [qF]
        rw [ih (i + 1) (fun j => by have := hi (j + 1); simpa using this)]
        congr 1
        match d, hd with
        | none, _ => rfl
        | some none, q => exact absurd rfl q
        | some (some b), _ => rfl
    simp only [qF, List.set_cons_zero]
    rw [h2 r (k + 1) (fun j => by have := ho (j + 1) (by omega); simpa using this)]
    simp [fv, mwL]
  | e :: r, k, j + 1, h, ho => by
    simp only [List.getElem?_cons_succ] at h
    have ih := qF_setL (G := G) (μ := μ) (a := a) x r (k + 1) j h (fun i hi => by have := ho (i + 1) (by omega); simpa using this)
    have he : e ≠ some none := by have := ho 0 (by omega); simpa using this
    simp only [qF, List.set_cons_succ]
    rw [ih]
    congr 1
    match e, he with
    | none, _ => rfl
    | some none, q => exact absurd rfl q
    | some (some b), _ => rfl
theorem mc_putL {G : qG} {μ : Mem} {a k ci : Nat} {fds : List (Option (Option Nat))} (x : Int64) (h : lay a = some (.inl (ci, fds))) (hk : fds[k]? = some (some none)) (ho : ∀ i, i ≠ k → fds[i]? ≠ some (some none)) : va_up (mc G μ) a (.inr (ci, (qF G μ a 0 fds).set k (.long x))) = mc G (mwL μ a x) := by
  funext b
  by_cases hb : b = a
  · subst hb
    rw [q_up_eq, mc_obj h, qF_setL x fds 0 k hk ho]
  · rw [q_up_ne _ _ hb, mc_congr (μ := μ) (μ' := mwL μ a x) rfl (if_neg hb) rfl]
theorem mc_row {G : qG} {μ : Mem} {a N b d : Nat} (f : Nat → Int32) (h : lay a = some (.inr (0, N, b, d))) : va_up (mc G μ) a (.inl (qc G 0, N, .inl f)) = mc G (mwR μ a f) := by
  funext c
  by_cases hb : c = a
  · subst hb
    rw [q_up_eq, mc_int h, mwR_row]
  · rw [q_up_ne _ _ hb, mc_congr (mwR_other μ f hb) rfl rfl]
theorem mw_mwR (μ : Mem) (a k : Nat) (x : Int32) : mwR μ a (upd (μ.1 a) k x) = mw μ a k x := by
  unfold mwR mw
  congr 1
  funext b j
  by_cases hb : b = a
  · subst hb
    by_cases hj : j = k
    · subst hj; simp [upd]
    · simp [upd, hj]
  · simp [hb]
theorem mc_rowZ {G : qG} {μ : Mem} {a N b d k : Nat} (x : Int32) (h : lay a = some (.inr (1, N, b, d))) : va_up (mc G μ) a (.inl (qc G 1, N, .inl (upd (μ.1 a) k x))) = mc G (mw μ a k x) := by
  funext c
  by_cases hb : c = a
  · subst hb
    rw [q_up_eq, mc_boo h, mw_row]
  · rw [q_up_ne _ _ hb, mc_congr (mw_other μ x hb) rfl rfl]
abbrev Zm (G : qG) (X : qX) (cc : ByteArray) (own : String) (μ : Mem) (pc : Nat) (vs : List (Option Value)) (st : List Value) : Prop := Z G X cc own 157 (mc G μ) 0 0 pc vs st
section ZM
variable {G : qG} {X : qX} {cc : ByteArray} {own : String} {μ : Mem} {pc pc' : Nat} {vs : List (Option Value)} {st : List Value} {a : Nat}
theorem layF_obj {k ci : Nat} {d : Option (Option Nat)} (h : layF a k = some (ci, d)) : ∃ fds, lay a = some (.inl (ci, fds)) ∧ fds[k]? = some d := by
  unfold layF at h
  split at h
  · next c fds e =>
    cases hd : fds[k]? with
    | none => rw [hd] at h; simp at h
    | some z => rw [hd] at h; simp at h; obtain ⟨rfl, rfl⟩ := h; exact ⟨fds, e, hd⟩
  · cases h
theorem layA_arr {q : Nat × Nat × Nat × Nat} (h : layA a = some q) : lay a = some (.inr q) := by
  unfold layA at h
  split at h
  · next q' e => cases h; exact e
  · cases h
theorem layC_obj {ci : Nat} (h : layC a = some ci) : ∃ fds, lay a = some (.inl (ci, fds)) := by
  unfold layC at h
  split at h
  · next c fds e => cases h; exact ⟨fds, e⟩
  · cases h
theorem m_getI {idx ci k : Nat} (hd : In cc pc (.getfield idx) 3 pc') (hk : qLk own idx ci k) (hl : layF a k = some (ci, none)) (kk : Zm G X cc own μ pc' vs (.int (μ.1 a k) :: st)) : Zm G X cc own μ pc vs (.ref (qB G + a) :: st) := by
  obtain ⟨fds, e, hf⟩ := layF_obj hl
  refine z_getG hd hk (lay_lt e) (mc_obj e) (qF_get fds 0 k none hf) ?_
  rw [Nat.zero_add]
  exact kk
theorem m_getL {idx ci k : Nat} (hd : In cc pc (.getfield idx) 3 pc') (hk : qLk own idx ci k) (hl : layF a k = some (ci, some none)) (kk : Zm G X cc own μ pc' vs (.long (μ.2.1 a) :: st)) : Zm G X cc own μ pc vs (.ref (qB G + a) :: st) := by
  obtain ⟨fds, e, hf⟩ := layF_obj hl
  exact z_getG hd hk (lay_lt e) (mc_obj e) (qF_get fds 0 k _ hf) kk
theorem m_getR {idx ci k b : Nat} (hd : In cc pc (.getfield idx) 3 pc') (hk : qLk own idx ci k) (hl : layF a k = some (ci, some (some b))) (kk : Zm G X cc own μ pc' vs (.ref (qB G + b) :: st)) : Zm G X cc own μ pc vs (.ref (qB G + a) :: st) := by
  obtain ⟨fds, e, hf⟩ := layF_obj hl
  exact z_getG hd hk (lay_lt e) (mc_obj e) (qF_get fds 0 k _ hf) kk
theorem m_putI {idx ci k : Nat} {x : Int32} (hd : In cc pc (.putfield idx) 3 pc') (hk : qLkI own idx ci k) (hl : layF a k = some (ci, none)) (kk : Zm G X cc own (mw μ a k x) pc' vs st) : Zm G X cc own μ pc vs (.int x :: .ref (qB G + a) :: st) := by
  obtain ⟨fds, e, hf⟩ := layF_obj hl
  obtain ⟨h1, h2, h3⟩ := hk
  refine z_putG hd h1 h2 (lay_lt e) (mc_obj e) (by rw [qF_len]; exact (List.getElem?_eq_some_iff.mp hf).1) (by rw [h3]; rfl) (by rw [h3]; rfl) ?_
  rw [mc_put x e hf]
  exact kk
theorem m_putL {idx ci k : Nat} {x : Int64} (hd : In cc pc (.putfield idx) 3 pc') (hk : qLk own idx ci k) (hfin : ((cT ci).2.1 k).2.2.2 = false) (hty : cTy ci k = .long) {fds : List (Option (Option Nat))} (e : lay a = some (.inl (ci, fds))) (hf : fds[k]? = some (some none)) (ho : ∀ i, i ≠ k → fds[i]? ≠ some (some none)) (kk : Zm G X cc own (mwL μ a x) pc' vs st) : Zm G X cc own μ pc vs (.long x :: .ref (qB G + a) :: st) := by
  refine z_putG hd hk hfin (lay_lt e) (mc_obj e) (by rw [qF_len]; exact (List.getElem?_eq_some_iff.mp hf).1) (by rw [hty]; rfl) (by rw [hty]; rfl) ?_
  rw [mc_putL x e hf ho]
  exact kk
theorem m_iald {N b d : Nat} {i : Int32} (hd : In cc pc (.iaload) 1 pc') (hl : layA a = some (0, N, b, d)) (hin : vp_in i N) (kk : Zm G X cc own μ pc' vs (.int (μ.1 a i.toNatClampNeg) :: st)) : Zm G X cc own μ pc vs (.int i :: .ref (qB G + a) :: st) := z_ialdG hd (lay_lt (layA_arr hl)) (mc_int (layA_arr hl)) hin kk
theorem q_2p31 {N : Nat} {k b d : Nat} (hl : layA a = some (k, N, b, d)) : N < 2 ^ 31 := by
  have h := layA_arr hl
  have hm : (Sum.inr (k, N, b, d) : qShape) ∈ layL := List.mem_of_getElem? h
  have hall : layL.all (fun q => match q with | .inr (_, N, _, _) => decide (N < 2 ^ 31) | _ => true) = true := by decide +kernel
  have := List.all_eq_true.mp hall _ hm
  simpa using this
theorem m_ialdN {N b d j : Nat} (hd : In cc pc (.iaload) 1 pc') (hl : layA a = some (0, N, b, d)) (hj : j < N) (kk : Zm G X cc own μ pc' vs (.int (μ.1 a j) :: st)) : Zm G X cc own μ pc vs (.int (nI j) :: .ref (qB G + a) :: st) := by
  have hN := q_2p31 hl
  exact m_iald hd hl (vp_in_nI hj hN) (by rw [nI_clamp (by omega)]; exact kk)
theorem m_iast {N b d : Nat} {i x : Int32} (hd : In cc pc (.iastore) 1 pc') (hl : layA a = some (0, N, b, d)) (hin : vp_in i N) (kk : Zm G X cc own (mw μ a i.toNatClampNeg x) pc' vs st) : Zm G X cc own μ pc vs (.int x :: .int i :: .ref (qB G + a) :: st) := by
  refine z_iastG hd (lay_lt (layA_arr hl)) (mc_int (layA_arr hl)) hin ?_
  rw [mc_row _ (layA_arr hl), mw_mwR]
  exact kk
theorem m_iastN {N b d j : Nat} {x : Int32} (hd : In cc pc (.iastore) 1 pc') (hl : layA a = some (0, N, b, d)) (hj : j < N) (kk : Zm G X cc own (mw μ a j x) pc' vs st) : Zm G X cc own μ pc vs (.int x :: .int (nI j) :: .ref (qB G + a) :: st) := by
  have hN := q_2p31 hl
  exact m_iast hd hl (vp_in_nI hj hN) (by rw [nI_clamp (by omega)]; exact kk)
theorem m_zaldN {N b d j : Nat} (hd : In cc pc (.baload) 1 pc') (hl : layA a = some (1, N, b, d)) (hj : j < N) (kk : Zm G X cc own μ pc' vs (.int (μ.1 a j) :: st)) : Zm G X cc own μ pc vs (.int (nI j) :: .ref (qB G + a) :: st) := by
  have hN := q_2p31 hl
  exact z_zaldG hd (lay_lt (layA_arr hl)) (mc_boo (layA_arr hl)) (vp_in_nI hj hN) (by rw [nI_clamp (by omega)]; exact kk)
theorem m_zastN {N b d j : Nat} {x : Int32} (hd : In cc pc (.bastore) 1 pc') (hl : layA a = some (1, N, b, d)) (hj : j < N) (hx : vp_nar .boolean x = x) (kk : Zm G X cc own (mw μ a j x) pc' vs st) : Zm G X cc own μ pc vs (.int x :: .int (nI j) :: .ref (qB G + a) :: st) := by
  have hN := q_2p31 hl
  refine z_zastG hd (lay_lt (layA_arr hl)) (mc_boo (layA_arr hl)) (vp_in_nI hj hN) ?_
  rw [nI_clamp (by omega), hx, mc_rowZ _ (layA_arr hl)]
  exact kk
theorem m_aaldN {k N b d j : Nat} (hd : In cc pc (.aaload) 1 pc') (hl : layA a = some (k, N, b, d)) (hk : k = 2 ∨ k = 3 ∨ k = 4) (hj : j < N) (kk : Zm G X cc own μ pc' vs (.ref (qB G + (b + d * j)) :: st)) : Zm G X cc own μ pc vs (.int (nI j) :: .ref (qB G + a) :: st) := by
  have hN := q_2p31 hl
  have kk' : Zm G X cc own μ pc' vs (va_rf ((fun j => some (qB G + (b + d * j))) (nI j).toNatClampNeg) :: st) := by rw [nI_clamp (by omega)]; exact kk
  have h0 : k ≠ 0 ∧ k ≠ 1 ∧ k ≠ 5 := by omega
  have e := mc_ref (G := G) (μ := μ) (layA_arr hl) h0.1 h0.2.1 h0.2.2
  rcases hk with rfl | rfl | rfl
  · exact z_aaldG 2 hd rfl rfl (lay_lt (layA_arr hl)) e (vp_in_nI hj hN) kk'
  · exact z_aaldG 3 hd rfl rfl (lay_lt (layA_arr hl)) e (vp_in_nI hj hN) kk'
  · exact z_aaldG 4 hd rfl rfl (lay_lt (layA_arr hl)) e (vp_in_nI hj hN) kk'
theorem m_aaldB {N b d j : Nat} (hd : In cc pc (.aaload) 1 pc') (hl : layA a = some (5, N, b, d)) (hj : j < N) (kk : Zm G X cc own μ pc' vs (.ref (qB G + μ.2.2 j) :: st)) : Zm G X cc own μ pc vs (.int (nI j) :: .ref (qB G + a) :: st) := by
  have hN := q_2p31 hl
  exact z_aaldG 3 hd rfl rfl (lay_lt (layA_arr hl)) (mc_dyn (layA_arr hl)) (vp_in_nI hj hN) (by rw [nI_clamp (by omega)]; exact kk)
theorem lay5 {a N b d : Nat} (h : lay a = some (.inr (5, N, b, d))) : a = 62 := by
  have hlt := lay_lt h
  have hall : (List.range 157).all (fun a => match lay a with | some (.inr (5, _, _, _)) => a == 62 | _ => true) = true := by decide +kernel
  have := List.all_eq_true.mp hall a (List.mem_range.mpr hlt)
  rw [h] at this
  simpa using this
theorem m_aastB {N b d j c : Nat} (hd : In cc pc (.aastore) 1 pc') (hl : layA a = some (5, N, b, d)) (hj : j < N) (hc : layC c = some 5) (kk : Zm G X cc own (mwP μ j c) pc' vs st) : Zm G X cc own μ pc vs (.ref (qB G + c) :: .int (nI j) :: .ref (qB G + a) :: st) := by
  have hN := q_2p31 hl
  obtain ⟨fds, hf⟩ := layC_obj hc
  refine z_aastG 3 5 hd rfl (by decide) (lay_lt (layA_arr hl)) (mc_dyn (layA_arr hl)) (lay_lt hf) (mc_obj hf) (vp_in_nI hj hN) ?_
  have ha : a = 62 := lay5 (layA_arr hl)
  have e : va_up (mc G μ) a (.inl (qc G 3, N, .inr (.inr (.inr (.inr (va_up (fun j => some (qB G + μ.2.2 j)) (nI j).toNatClampNeg (some (qB G + c)))))))) = mc G (mwP μ j c) := by
    funext z
    by_cases hz : z = a
    · subst hz
      have ef : va_up (fun j => some (qB G + μ.2.2 j)) j (some (qB G + c)) = fun i => some (qB G + (mwP μ j c).2.2 i) := by
        funext i
        by_cases hi : i = j
        · subst hi; simp [va_up, mwP]
        · simp [va_up, mwP, hi]
      rw [q_up_eq, mc_dyn (layA_arr hl), nI_clamp (by omega), ef]
    · rw [q_up_ne _ _ hz]
      have h5 : ∀ N b d, lay z ≠ some (.inr (5, N, b, d)) := fun N b d q => hz ((lay5 q).trans ha.symm)
      unfold mc
      split
      · rw [qF_congr (μ := μ) (μ' := mwP μ j c) (fun k => rfl) rfl]
      · rfl
      · rfl
      · next q => exact absurd q (h5 _ _ _)
      · rfl
      · rfl
  rw [e]
  exact kk
theorem m_alen {k N b d : Nat} (hd : In cc pc (.arraylength) 1 pc') (hl : layA a = some (0, N, b, d)) (kk : Zm G X cc own μ pc' vs (.int (nI N) :: st)) : Zm G X cc own μ pc vs (.ref (qB G + a) :: st) := z_alenG 0 hd rfl (lay_lt (layA_arr hl)) (mc_int (layA_arr hl)) kk
theorem m_copy {idx b N0 N1 k d1 d2 d3 d4 : Nat} {R0 : Room} (hd : In cc pc (.invokestatic idx) 3 pc') (hw1 : Cond.methodLink own idx arraycopyName ∈ lw_gd) (hlb : layA b = some (0, N0, d1, d2)) (hla : layA a = some (0, N1, d3, d4)) (hk0 : k ≤ N0) (hk1 : k ≤ N1) (hne : a ≠ b) (hR : qR X = R0) (hf : 1 ≤ R0.frames ∧ (st.map fun v => v.category).sum + (nativeFrameWords "java/lang/System" "arraycopy" 5 + 11) ≤ R0.locals)
    (kk : Zm G X cc own (mwR μ a (fun j => if j < k then μ.1 b j else μ.1 a j)) pc' vs st) : Zm G X cc own μ pc vs (.int (nI k) :: .int (nI 0) :: .ref (qB G + a) :: .int (nI 0) :: .ref (qB G + b) :: st) := by
  have hN := q_2p31 hlb
  refine z_copy hd hw1 w_copyN w_copyS w_sysI (lay_lt (layA_arr hlb)) (mc_int (layA_arr hlb)) (lay_lt (layA_arr hla)) (mc_int (layA_arr hla)) hk0 hk1 (by omega) hne hR hf ?_
  rw [mc_row _ (layA_arr hla)]
  exact kk
/-- contracts over the memory -/
def qPM (G : qG) (P : Option Value → Mem → Prop) : Option Value → Nat → (Nat → va_E) → Prop := fun v n h => n = 157 ∧ ∃ μ' : Mem, h = mc G μ' ∧ P v μ'
def CtrI (G : qG) (l : Launch) (M : qMI) (as : List Value) (μ : Mem) (P : Int32 → Mem → Prop) : Prop := Ctr G l M as 157 (mc G μ) (qPM G (fun v μ' => ∃ r : Int32, v = some (.int r) ∧ P r μ'))
def CtrL (G : qG) (l : Launch) (M : qMI) (as : List Value) (μ : Mem) (P : Int64 → Mem → Prop) : Prop := Ctr G l M as 157 (mc G μ) (qPM G (fun v μ' => ∃ r : Int64, v = some (.long r) ∧ P r μ'))
def CtrV (G : qG) (l : Launch) (M : qMI) (as : List Value) (μ : Mem) (P : Mem → Prop) : Prop := Ctr G l M as 157 (mc G μ) (qPM G (fun v μ' => v = none ∧ P μ'))
def EI (G : qG) (X : qX) (P : Int32 → Mem → Prop) (ret : Option FieldType) : Prop := qE G X (qPM G (fun v μ' => ∃ r : Int32, v = some (.int r) ∧ P r μ')) ret
def EL (G : qG) (X : qX) (P : Int64 → Mem → Prop) : Prop := qE G X (qPM G (fun v μ' => ∃ r : Int64, v = some (.long r) ∧ P r μ')) (some .long)
def EV (G : qG) (X : qX) (P : Mem → Prop) : Prop := qE G X (qPM G (fun v μ' => v = none ∧ P μ')) none
theorem m_iret {x : Int32} {P : Int32 → Mem → Prop} (hE : EI G X P (some .int)) (hd : In cc pc (.ireturn) 1 pc') (hp : P x μ) : Zm G X cc own μ pc vs [.int x] := z_iret hE hd (Nat.zero_le _) (Nat.zero_le _) ⟨rfl, μ, rfl, x, rfl, hp⟩
theorem m_zret {x : Int32} {P : Int32 → Mem → Prop} (hE : EI G X P (some .boolean)) (hd : In cc pc (.ireturn) 1 pc') (hn : narrow .boolean (.int x) = .int x) (hp : P x μ) : Zm G X cc own μ pc vs [.int x] := z_zret hE hd hn (Nat.zero_le _) (Nat.zero_le _) ⟨rfl, μ, rfl, x, rfl, hp⟩
theorem m_lret {x : Int64} {P : Int64 → Mem → Prop} (hE : EL G X P) (hd : In cc pc (.lreturn) 1 pc') (hp : P x μ) : Zm G X cc own μ pc vs [.long x] := z_lret hE hd (Nat.zero_le _) (Nat.zero_le _) ⟨rfl, μ, rfl, x, rfl, hp⟩
theorem m_vret {P : Mem → Prop} (hE : EV G X P) (hd : In cc pc (.return_) 1 pc') (hp : P μ) : Zm G X cc own μ pc vs [] := z_vret hE hd (Nat.zero_le _) (Nat.zero_le _) ⟨rfl, μ, rfl, rfl, hp⟩
theorem m_enterI {l : Launch} {M : qMI} {as : List Value} {P : Int32 → Mem → Prop} (vs0 : List (Option Value)) (hy : plainName M.1.cls = true) (hvs : qLoc as ++ List.replicate (M.2.2.1 - (qLoc as).length) none = vs0) (hle : (qLoc as).length ≤ M.2.2.1) (body : ∀ X : qX, EI G X P M.2.2.2.1 → qR X = M.2.2.2.2 → Zm G X M.2.1 M.1.cls μ 0 vs0 []) : CtrI G l M as μ P := q_enter vs0 hy hvs hle (fun X h1 h2 _ => body X h1 h2)
theorem m_enterL {l : Launch} {M : qMI} {as : List Value} {P : Int64 → Mem → Prop} (vs0 : List (Option Value)) (hy : plainName M.1.cls = true) (hvs : qLoc as ++ List.replicate (M.2.2.1 - (qLoc as).length) none = vs0) (hle : (qLoc as).length ≤ M.2.2.1) (hr : M.2.2.2.1 = some .long) (body : ∀ X : qX, EL G X P → qR X = M.2.2.2.2 → Zm G X M.2.1 M.1.cls μ 0 vs0 []) : CtrL G l M as μ P := q_enter vs0 hy hvs hle (fun X h1 h2 _ => body X (by rw [hr] at h1; exact h1) h2)
theorem m_enterV {l : Launch} {M : qMI} {as : List Value} {P : Mem → Prop} (vs0 : List (Option Value)) (hy : plainName M.1.cls = true) (hvs : qLoc as ++ List.replicate (M.2.2.1 - (qLoc as).length) none = vs0) (hle : (qLoc as).length ≤ M.2.2.1) (hr : M.2.2.2.1 = none) (body : ∀ X : qX, EV G X P → qR X = M.2.2.2.2 → Zm G X M.2.1 M.1.cls μ 0 vs0 []) : CtrV G l M as μ P := q_enter vs0 hy hvs hle (fun X h1 h2 _ => body X (by rw [hr] at h1; exact h1) h2)
def q0 (M : qMI) : Prop := M.2.2.2.2.cells = 0 ∧ M.2.2.2.2.slots = 0
theorem m_callVi {idx ci na : Nat} {M : qMI} {As : List Value} {R0 : Room} {st0 : List Value} {P : Int32 → Mem → Prop} (hd : In cc pc (.invokevirtual idx) 3 pc') (hl : Cond.methodLink own idx M.1 ∈ lw_gd) (hM : qMV M ci na) (hc : CtrI G (qL X) M (.ref (qB G + a) :: As) μ P) (hcl : layC a = some ci) (hn : As.length = na) (hs : As.reverse ++ .ref (qB G + a) :: st = st0) (hw : (st.map fun v => v.category).sum ≤ 8) (hR : qR X = R0) (hf : qFit M R0) (hz : q0 M)
    (kk : ∀ (r : Int32) (μ' : Mem), P r μ' → Zm G X cc own μ' pc' vs (.int r :: st)) : Zm G X cc own μ pc vs st0 := by
  obtain ⟨fds, e⟩ := layC_obj hcl
  refine z_callV hd hl hM hc (lay_lt e) (mc_obj e) hn hs hw hR hf (by rw [hz.1]; exact Nat.zero_le _) (by rw [hz.2]; exact Nat.zero_le _) ?_
  rintro v n' h' ⟨rfl, μ', rfl, r, rfl, hp⟩
  rw [hz.1, hz.2]
  exact kk r μ' hp
theorem m_callVl {idx ci na : Nat} {M : qMI} {As : List Value} {R0 : Room} {st0 : List Value} {P : Int64 → Mem → Prop} (hd : In cc pc (.invokevirtual idx) 3 pc') (hl : Cond.methodLink own idx M.1 ∈ lw_gd) (hM : qMV M ci na) (hc : CtrL G (qL X) M (.ref (qB G + a) :: As) μ P) (hcl : layC a = some ci) (hn : As.length = na) (hs : As.reverse ++ .ref (qB G + a) :: st = st0) (hw : (st.map fun v => v.category).sum ≤ 8) (hR : qR X = R0) (hf : qFit M R0) (hz : q0 M)
    (kk : ∀ (r : Int64) (μ' : Mem), P r μ' → Zm G X cc own μ' pc' vs (.long r :: st)) : Zm G X cc own μ pc vs st0 := by
  obtain ⟨fds, e⟩ := layC_obj hcl
  refine z_callV hd hl hM hc (lay_lt e) (mc_obj e) hn hs hw hR hf (by rw [hz.1]; exact Nat.zero_le _) (by rw [hz.2]; exact Nat.zero_le _) ?_
  rintro v n' h' ⟨rfl, μ', rfl, r, rfl, hp⟩
  rw [hz.1, hz.2]
  exact kk r μ' hp
theorem m_callVv {idx ci na : Nat} {M : qMI} {As : List Value} {R0 : Room} {st0 : List Value} {P : Mem → Prop} (hd : In cc pc (.invokevirtual idx) 3 pc') (hl : Cond.methodLink own idx M.1 ∈ lw_gd) (hM : qMV M ci na) (hc : CtrV G (qL X) M (.ref (qB G + a) :: As) μ P) (hcl : layC a = some ci) (hn : As.length = na) (hs : As.reverse ++ .ref (qB G + a) :: st = st0) (hw : (st.map fun v => v.category).sum ≤ 8) (hR : qR X = R0) (hf : qFit M R0) (hz : q0 M)
    (kk : ∀ μ' : Mem, P μ' → Zm G X cc own μ' pc' vs st) : Zm G X cc own μ pc vs st0 := by
  obtain ⟨fds, e⟩ := layC_obj hcl
  refine z_callV hd hl hM hc (lay_lt e) (mc_obj e) hn hs hw hR hf (by rw [hz.1]; exact Nat.zero_le _) (by rw [hz.2]; exact Nat.zero_le _) ?_
  rintro v n' h' ⟨rfl, μ', rfl, rfl, hp⟩
  rw [hz.1, hz.2]
  exact kk μ' hp
theorem m_callSi {idx na : Nat} {M : qMI} {As : List Value} {R0 : Room} {st0 : List Value} {P : Int32 → Mem → Prop} (hd : In cc pc (.invokestatic idx) 3 pc') (hl : Cond.methodLink own idx M.1 ∈ lw_gd) (hM : qMS M na) (hc : CtrI G (qL X) M As μ P) (hn : As.length = na) (hs : As.reverse ++ st = st0) (hw : (st.map fun v => v.category).sum ≤ 8) (hR : qR X = R0) (hf : qFit M R0) (hz : q0 M)
    (kk : ∀ (r : Int32) (μ' : Mem), P r μ' → Zm G X cc own μ' pc' vs (.int r :: st)) : Zm G X cc own μ pc vs st0 := by
  refine z_callS hd hl hM hc hn hs hw hR hf (by rw [hz.1]; exact Nat.zero_le _) (by rw [hz.2]; exact Nat.zero_le _) ?_
  rintro v n' h' ⟨rfl, μ', rfl, r, rfl, hp⟩
  rw [hz.1, hz.2]
  exact kk r μ' hp
theorem m_callSl {idx na : Nat} {M : qMI} {As : List Value} {R0 : Room} {st0 : List Value} {P : Int64 → Mem → Prop} (hd : In cc pc (.invokestatic idx) 3 pc') (hl : Cond.methodLink own idx M.1 ∈ lw_gd) (hM : qMS M na) (hc : CtrL G (qL X) M As μ P) (hn : As.length = na) (hs : As.reverse ++ st = st0) (hw : (st.map fun v => v.category).sum ≤ 8) (hR : qR X = R0) (hf : qFit M R0) (hz : q0 M)
    (kk : ∀ (r : Int64) (μ' : Mem), P r μ' → Zm G X cc own μ' pc' vs (.long r :: st)) : Zm G X cc own μ pc vs st0 := by
  refine z_callS hd hl hM hc hn hs hw hR hf (by rw [hz.1]; exact Nat.zero_le _) (by rw [hz.2]; exact Nat.zero_le _) ?_
  rintro v n' h' ⟨rfl, μ', rfl, r, rfl, hp⟩
  rw [hz.1, hz.2]
  exact kk r μ' hp
theorem m_callSv {idx na : Nat} {M : qMI} {As : List Value} {R0 : Room} {st0 : List Value} {P : Mem → Prop} (hd : In cc pc (.invokestatic idx) 3 pc') (hl : Cond.methodLink own idx M.1 ∈ lw_gd) (hM : qMS M na) (hc : CtrV G (qL X) M As μ P) (hn : As.length = na) (hs : As.reverse ++ st = st0) (hw : (st.map fun v => v.category).sum ≤ 8) (hR : qR X = R0) (hf : qFit M R0) (hz : q0 M)
    (kk : ∀ μ' : Mem, P μ' → Zm G X cc own μ' pc' vs st) : Zm G X cc own μ pc vs st0 := by
  refine z_callS hd hl hM hc hn hs hw hR hf (by rw [hz.1]; exact Nat.zero_le _) (by rw [hz.2]; exact Nat.zero_le _) ?_
  rintro v n' h' ⟨rfl, μ', rfl, rfl, hp⟩
  rw [hz.1, hz.2]
  exact kk μ' hp
/-- an end may ask less -/
theorem CtrI.weaken {l : Launch} {M : qMI} {as : List Value} {P P' : Int32 → Mem → Prop} (h : CtrI G l M as μ P) (hp : ∀ r μ', P r μ' → P' r μ') : CtrI G l M as μ P' := by
  intro p e h1 h2 h3 s m args below h4 h5 h6 h7
  obtain ⟨k, o, g1, g2, g3, ⟨v, n', h', e1, ⟨e2, μ', e3, r, e4, e5⟩, e6⟩, g5⟩ := h p e h1 h2 h3 s m args below h4 h5 h6 h7
  exact ⟨k, o, g1, g2, g3, ⟨v, n', h', e1, ⟨e2, μ', e3, r, e4, hp r μ' e5⟩, e6⟩, g5⟩
theorem CtrV.weaken {l : Launch} {M : qMI} {as : List Value} {P P' : Mem → Prop} (h : CtrV G l M as μ P) (hp : ∀ μ', P μ' → P' μ') : CtrV G l M as μ P' := by
  intro p e h1 h2 h3 s m args below h4 h5 h6 h7
  obtain ⟨k, o, g1, g2, g3, ⟨v, n', h', e1, ⟨e2, μ', e3, e4, e5⟩, e6⟩, g5⟩ := h p e h1 h2 h3 s m args below h4 h5 h6 h7
  exact ⟨k, o, g1, g2, g3, ⟨v, n', h', e1, ⟨e2, μ', e3, e4, hp μ' e5⟩, e6⟩, g5⟩
end ZM
end
section
/-! constants in their Nat form; views of the memory; frames of the memory -/
theorem kI_0 : Int32.ofInt 0 = nI 0 := by decide
theorem kI_1 : Int32.ofInt 1 = nI 1 := by decide
theorem kI_2 : Int32.ofInt 2 = nI 2 := by decide
theorem kI_3 : Int32.ofInt 3 = nI 3 := by decide
theorem kI_4 : Int32.ofInt 4 = nI 4 := by decide
theorem kI_5 : Int32.ofInt 5 = nI 5 := by decide
theorem kB_6 : (Int8.ofInt 6).toInt32 = nI 6 := by decide
theorem kB_7 : (Int8.ofInt 7).toInt32 = nI 7 := by decide
theorem kB_8 : (Int8.ofInt 8).toInt32 = nI 8 := by decide
theorem kB_9 : (Int8.ofInt 9).toInt32 = nI 9 := by decide
theorem kB_10 : (Int8.ofInt 10).toInt32 = nI 10 := by decide
theorem kB_11 : (Int8.ofInt 11).toInt32 = nI 11 := by decide
theorem kB_13 : (Int8.ofInt 13).toInt32 = nI 13 := by decide
theorem kB_14 : (Int8.ofInt 14).toInt32 = nI 14 := by decide
theorem kB_16 : (Int8.ofInt 16).toInt32 = nI 16 := by decide
theorem kB_17 : (Int8.ofInt 17).toInt32 = nI 17 := by decide
theorem kB_18 : (Int8.ofInt 18).toInt32 = nI 18 := by decide
theorem kB_19 : (Int8.ofInt 19).toInt32 = nI 19 := by decide
theorem kB_20 : (Int8.ofInt 20).toInt32 = nI 20 := by decide
theorem kB_21 : (Int8.ofInt 21).toInt32 = nI 21 := by decide
theorem kB_24 : (Int8.ofInt 24).toInt32 = nI 24 := by decide
theorem kB_30 : (Int8.ofInt 30).toInt32 = nI 30 := by decide
theorem kB_31 : (Int8.ofInt 31).toInt32 = nI 31 := by decide
theorem kB_32 : (Int8.ofInt 32).toInt32 = nI 32 := by decide
theorem kB_33 : (Int8.ofInt 33).toInt32 = nI 33 := by decide
theorem kB_36 : (Int8.ofInt 36).toInt32 = nI 36 := by decide
theorem kB_48 : (Int8.ofInt 48).toInt32 = nI 48 := by decide
theorem kB_52 : (Int8.ofInt 52).toInt32 = nI 52 := by decide
theorem kB_60 : (Int8.ofInt 60).toInt32 = nI 60 := by decide
theorem kB_63 : (Int8.ofInt 63).toInt32 = nI 63 := by decide
theorem kB_64 : (Int8.ofInt 64).toInt32 = nI 64 := by decide
theorem kB_66 : (Int8.ofInt 66).toInt32 = nI 66 := by decide
theorem kB_70 : (Int8.ofInt 70).toInt32 = nI 70 := by decide
theorem kB_71 : (Int8.ofInt 71).toInt32 = nI 71 := by decide
theorem kB_99 : (Int8.ofInt 99).toInt32 = nI 99 := by decide
theorem kB_100 : (Int8.ofInt 100).toInt32 = nI 100 := by decide
theorem kB_102 : (Int8.ofInt 102).toInt32 = nI 102 := by decide
theorem kB_108 : (Int8.ofInt 108).toInt32 = nI 108 := by decide
theorem kB_112 : (Int8.ofInt 112).toInt32 = nI 112 := by decide
theorem kB_119 : (Int8.ofInt 119).toInt32 = nI 119 := by decide
theorem kS_252 : (Int16.ofInt 252).toInt32 = nI 252 := by decide
theorem kS_255 : (Int16.ofInt 255).toInt32 = nI 255 := by decide
theorem kS_9999 : (Int16.ofInt 9999).toInt32 = nI 9999 := by decide
section ZD
variable {G : qG} {X : qX} {cc : ByteArray} {own : String} {n : Nat} {h : Nat → va_E} {k1 k2 pc pc' : Nat} {vs : List (Option Value)} {st : List Value}
theorem z_iinc_1D {v0 : Option Value} {r : List (Option Value)} {a : Nat} (hd : In cc pc (.iinc 1 (-1)) 3 pc') (ho : ok1 [v0] 1 = true) (kk : Z G X cc own n h k1 k2 pc' (v0 :: some (.int (nI a)) :: r) st) : Z G X cc own n h k1 k2 pc (v0 :: some (.int (nI (a + 1))) :: r) st := z_iincG 1 hd rfl (pk_m1 a) rfl ho kk
theorem z_iinc_2D {v0 v1 : Option Value} {r : List (Option Value)} {a : Nat} (hd : In cc pc (.iinc 2 (-1)) 3 pc') (ho : ok1 [v1] 1 = true) (kk : Z G X cc own n h k1 k2 pc' (v0 :: v1 :: some (.int (nI a)) :: r) st) : Z G X cc own n h k1 k2 pc (v0 :: v1 :: some (.int (nI (a + 1))) :: r) st := z_iincG 2 hd rfl (pk_m1 a) rfl ho kk
theorem z_iinc_4D {v0 v1 v2 v3 : Option Value} {r : List (Option Value)} {a : Nat} (hd : In cc pc (.iinc 4 (-1)) 3 pc') (ho : ok1 [v3] 1 = true) (kk : Z G X cc own n h k1 k2 pc' (v0 :: v1 :: v2 :: v3 :: some (.int (nI a)) :: r) st) : Z G X cc own n h k1 k2 pc (v0 :: v1 :: v2 :: v3 :: some (.int (nI (a + 1))) :: r) st := z_iincG 4 hd rfl (pk_m1 a) rfl ho kk
/-- the same state, otherwise written -/
theorem z_eq {vs' : List (Option Value)} {st' : List Value} (e1 : vs = vs') (e2 : st = st') (kk : Z G X cc own n h k1 k2 pc vs' st') : Z G X cc own n h k1 k2 pc vs st := by subst e1; subst e2; exact kk
end ZD
/-- nothing has changed but the rows in S -/
def Fr (S : List Nat) (μ μ' : Mem) : Prop := (∀ a, a ∉ S → μ'.1 a = μ.1 a) ∧ μ'.2 = μ.2
theorem Fr.rf {S : List Nat} {μ : Mem} : Fr S μ μ := ⟨fun _ _ => rfl, rfl⟩
theorem Fr.trans {S : List Nat} {μ μ' μ'' : Mem} (h1 : Fr S μ μ') (h2 : Fr S μ' μ'') : Fr S μ μ'' := ⟨fun a h => (h2.1 a h).trans (h1.1 a h), h2.2.trans h1.2⟩
theorem Fr.mono {S S' : List Nat} {μ μ' : Mem} (h : Fr S μ μ') (hs : ∀ a, a ∈ S → a ∈ S') : Fr S' μ μ' := ⟨fun a ha => h.1 a (fun q => ha (hs a q)), h.2⟩
theorem Fr.mw {S : List Nat} {μ μ' : Mem} (h : Fr S μ μ') {a : Nat} (k : Nat) (x : Int32) (ha : a ∈ S) : Fr S μ (mw μ' a k x) := ⟨fun b hb => by rw [mw_other μ' x (fun q => hb (by rw [q]; exact ha))]; exact h.1 b hb, h.2⟩
theorem Fr.mwR {S : List Nat} {μ μ' : Mem} (h : Fr S μ μ') {a : Nat} (f : Nat → Int32) (ha : a ∈ S) : Fr S μ (mwR μ' a f) := ⟨fun b hb => by rw [mwR_other μ' f (fun q => hb (by rw [q]; exact ha))]; exact h.1 b hb, h.2⟩
/-- a fencer's cell -/
def isFen (a : Nat) : Prop := layF a 0 = some (4, none) ∧ layF a 1 = some (4, some (some (a + 1))) ∧ layA (a + 1) = some (0, 3, 0, 0) ∧ layC a = some 4
theorem isFen_roll : ∀ f, f < 6 → isFen (23 + 2 * f) := by
  intro f hf
  rcases (show f = 0 ∨ f = 1 ∨ f = 2 ∨ f = 3 ∨ f = 4 ∨ f = 5 by omega) with rfl | rfl | rfl | rfl | rfl | rfl <;> exact ⟨rfl, rfl, rfl, rfl⟩
theorem isFen_draft : ∀ f, f < 6 → isFen (6 + 2 * f) := by
  intro f hf
  rcases (show f = 0 ∨ f = 1 ∨ f = 2 ∨ f = 3 ∨ f = 4 ∨ f = 5 by omega) with rfl | rfl | rfl | rfl | rfl | rfl <;> exact ⟨rfl, rfl, rfl, rfl⟩
theorem isFen_mask : isFen 126 := ⟨rfl, rfl, rfl, rfl⟩
/-! a bout's moves and hits -/
def fMove (kd : Nat) (mv : Nat → Nat) (ft p y : Nat) : Nat := if kd = 2 then (if p = 0 then 4 else if y = 1 then 2 else if y = 2 then 3 else 1) else mv (((if kd = 3 then 0 else ft) + p) % 3)
def fHit (a b kb : Nat) : Nat := if a = 1 then (if b = 3 ∨ b = 4 ∨ (b = 1 ∧ kb ≠ 1) then 1 else 0) else if a = 2 then (if b = 1 then 1 else 0) else if a = 3 then (if b = 2 then 1 else 0) else 0
theorem fHit_le (a b kb : Nat) : fHit a b kb ≤ 1 := by
  unfold fHit
  repeat (first | split | omega)
/-- Fencer.moveIn -/
theorem c_X4_moveIn (G : qG) (l : Launch) {μ : Mem} {a kd ft p y : Nat} {mv : Nat → Nat} (ha : isFen a) (hk : μ.1 a 0 = nI kd) (hkd : kd < 4) (hm : ∀ j, j < 3 → μ.1 (a + 1) j = nI (mv j)) (hft : ft < 1000) (hp : p < 1000) (hy : y < 1000) : CtrI G l M_X4_moveIn [.ref (qB G + a), .int (nI p), .int (nI ft), .int (nI y)] μ (fun r μ' => μ' = μ ∧ r = nI (fMove kd mv ft p y)) := by
  refine m_enterI [some (.ref (qB G + a)), some (.int (nI p)), some (.int (nI ft)), some (.int (nI y)), none] (by decide +kernel) rfl (Nat.le_of_ble_eq_true rfl) (fun X hE hR => ?_)
  have hR : qR X = rm_X4_moveIn := hR
  have hE : EI G X _ (some .int) := hE
  show Zm G X cX4_moveIn RX4 _ 0 [some (.ref (qB G + a)), some (.int (nI p)), some (.int (nI ft)), some (.int (nI y)), none] []
  obtain ⟨hF0, hF1, hF2, -⟩ := ha
  refine z_aload_0 iX4_moveIn_0 ?_
  refine m_getI iX4_moveIn_1 g_4_15 hF0 ?_
  refine z_top hk ?_
  refine z_iconst iX4_moveIn_4 kI_2 ?_
  refine z_icmp_eqN iX4_moveIn_5 (by omega) (by omega) (fun h2 => ?_) (fun h2 => ?_)
  · refine z_iload_1 iX4_moveIn_35 ?_
    refine z_if_neN iX4_moveIn_36 (by omega) (fun h0 => ?_) (fun h0 => ?_)
    · refine z_iload_3 iX4_moveIn_41 ?_
      by_cases y1 : y = 1
      · subst y1
        refine z_lookup (off := 26) (tgt := 68) iX4_moveIn_42 (by decide) (by decide) (by decide) ?_
        refine z_iconst iX4_moveIn_68 kI_2 ?_
        exact m_iret hE iX4_moveIn_69 ⟨rfl, by simp [fMove, h2, h0]⟩
      · by_cases y2 : y = 2
        · subst y2
          refine z_lookup (off := 28) (tgt := 70) iX4_moveIn_42 (by decide) (by decide) (by decide) ?_
          refine z_iconst iX4_moveIn_70 kI_3 ?_
          exact m_iret hE iX4_moveIn_71 ⟨rfl, by simp [fMove, h2, h0]⟩
        · refine z_lookup (off := 30) (tgt := 72) iX4_moveIn_42 (by decide) ?_ (by decide) ?_
          · have e1 : ¬ (1 : Int) = (y : Int) := by omega
            have e2 : ¬ (2 : Int) = (y : Int) := by omega
            have e3 : (nI y).toInt = (y : Int) := nI_toInt (by omega)
            rw [e3]
            simp [Op.lookupswitch.offset]
            omega
          · refine z_iconst iX4_moveIn_72 kI_1 ?_
            exact m_iret hE iX4_moveIn_73 ⟨rfl, by simp [fMove, h2, h0, y1, y2]⟩
    · refine z_iconst iX4_moveIn_39 kI_4 ?_
      exact m_iret hE iX4_moveIn_40 ⟨rfl, by simp [fMove, h2, h0]⟩
  · refine z_aload_0 iX4_moveIn_8 ?_
    refine m_getI iX4_moveIn_9 g_4_15 hF0 ?_
    refine z_top hk ?_
    refine z_iconst iX4_moveIn_12 kI_3 ?_
    have hmod : ∀ z : Nat, z % 3 < 3 := fun z => Nat.mod_lt _ (by decide)
    refine z_icmp_neN iX4_moveIn_13 (by omega) (by omega) (fun h3 => ?_) (fun h3 => ?_)
    · refine z_iload_2 iX4_moveIn_20 ?_
      refine z_istore_4 iX4_moveIn_21 rfl ?_
      refine z_aload_0 iX4_moveIn_23 ?_
      refine m_getR iX4_moveIn_24 g_4_9 hF1 ?_
      refine z_iload_4 iX4_moveIn_27 ?_
      refine z_iload_1 iX4_moveIn_29 ?_
      refine z_iaddN iX4_moveIn_30 ?_
      refine z_iconst iX4_moveIn_31 kI_3 ?_
      refine z_iremN iX4_moveIn_32 (by omega) (by omega) (by omega) ?_
      refine m_ialdN iX4_moveIn_33 hF2 (hmod _) ?_
      refine z_top (hm _ (hmod _)) ?_
      exact m_iret hE iX4_moveIn_34 ⟨rfl, by simp [fMove, h2, h3]⟩
    · refine z_iconst iX4_moveIn_16 kI_0 ?_
      refine z_goto iX4_moveIn_17 ?_
      refine z_istore_4 iX4_moveIn_21 rfl ?_
      refine z_aload_0 iX4_moveIn_23 ?_
      refine m_getR iX4_moveIn_24 g_4_9 hF1 ?_
      refine z_iload_4 iX4_moveIn_27 ?_
      refine z_iload_1 iX4_moveIn_29 ?_
      refine z_iaddN iX4_moveIn_30 ?_
      refine z_iconst iX4_moveIn_31 kI_3 ?_
      refine z_iremN iX4_moveIn_32 (by omega) (by omega) (by omega) ?_
      refine m_ialdN iX4_moveIn_33 hF2 (hmod _) ?_
      refine z_top (hm _ (hmod _)) ?_
      exact m_iret hE iX4_moveIn_34 ⟨rfl, by simp [fMove, h2, h3]⟩
end
section
/-! BOUTS: a fencer (kind, moves, feet); the state behind t passes (passes, moves, hits); how many passes there are -/
abbrev Fe : Type := Nat × (Nat → Nat) × Nat
abbrev Bs : Type := Nat × Nat × Nat × Nat
def fNext (F1 F2 : Fe) (p : Nat) (s : Bs) : Bs :=
  (fMove F1.1 F1.2.1 F1.2.2 p s.2.1, fMove F2.1 F2.2.1 F2.2.2 p s.1,
   s.2.2.1 + fHit (fMove F1.1 F1.2.1 F1.2.2 p s.2.1) (fMove F2.1 F2.2.1 F2.2.2 p s.1) F2.1,
   s.2.2.2 + fHit (fMove F2.1 F2.2.1 F2.2.2 p s.1) (fMove F1.1 F1.2.1 F1.2.2 p s.2.1) F1.1)
/-- moves and hits behind p passes -/
def fIt (F1 F2 : Fe) : Nat → Bs
  | 0 => (0, 0, 0, 0)
  | p + 1 => fNext F1 F2 p (fIt F1 F2 p)
def fLen (F1 F2 : Fe) (en : Nat) : Nat → Nat → Nat
  | 0, p => p
  | n + 1, p => if en ≤ (fIt F1 F2 p).2.2.1 ∨ en ≤ (fIt F1 F2 p).2.2.2 then p else fLen F1 F2 en n (p + 1)
theorem fIt_le (F1 F2 : Fe) : ∀ p, (fIt F1 F2 p).2.2.1 ≤ p ∧ (fIt F1 F2 p).2.2.2 ≤ p
  | 0 => ⟨Nat.le_refl _, Nat.le_refl _⟩
  | p + 1 => by
    have ih := fIt_le F1 F2 p
    have h1 := fHit_le (fMove F1.1 F1.2.1 F1.2.2 p (fIt F1 F2 p).2.1) (fMove F2.1 F2.2.1 F2.2.2 p (fIt F1 F2 p).1) F2.1
    have h2 := fHit_le (fMove F2.1 F2.2.1 F2.2.2 p (fIt F1 F2 p).1) (fMove F1.1 F1.2.1 F1.2.2 p (fIt F1 F2 p).2.1) F1.1
    constructor
    · show (fIt F1 F2 p).2.2.1 + _ ≤ p + 1
      omega
    · show (fIt F1 F2 p).2.2.2 + _ ≤ p + 1
      omega
theorem fLen_le (F1 F2 : Fe) (en : Nat) : ∀ n p, fLen F1 F2 en n p ≤ n + p
  | 0, p => by simp [fLen]
  | n + 1, p => by
    unfold fLen
    split
    · omega
    · have := fLen_le F1 F2 en n (p + 1); omega
/-- moves are 1 to 4 -/
def FeOK (F : Fe) : Prop := F.1 < 4 ∧ (∀ j, j < 3 → F.2.1 j < 5) ∧ F.2.2 < 3
theorem fMove_lt {F : Fe} (h : FeOK F) (p y : Nat) : fMove F.1 F.2.1 F.2.2 p y < 5 := by
  unfold fMove
  split
  · split
    · omega
    · split
      · omega
      · split <;> omega
  · exact h.2.1 _ (Nat.mod_lt _ (by decide))
theorem fIt_mv {F1 F2 : Fe} (h1 : FeOK F1) (h2 : FeOK F2) : ∀ p, (fIt F1 F2 p).1 < 5 ∧ (fIt F1 F2 p).2.1 < 5
  | 0 => ⟨by show 0 < 5; decide, by show 0 < 5; decide⟩
  | p + 1 => ⟨fMove_lt h1 _ _, fMove_lt h2 _ _⟩
/-- a fencer's cells hold F's kind and moves -/
def FenAt (μ : Mem) (a : Nat) (F : Fe) : Prop := μ.1 a 0 = nI F.1 ∧ ∀ j, j < 3 → μ.1 (a + 1) j = nI (F.2.1 j)
/-- Bout.hits -/
theorem c_X1_hits (G : qG) (l : Launch) {μ : Mem} {a b k : Nat} (ha : a < 1000) (hb : b < 1000) (hk : k < 1000) : CtrI G l M_X1_hits [.int (nI a), .int (nI b), .int (nI k)] μ (fun r μ' => μ' = μ ∧ r = nI (fHit a b k)) := by
  refine m_enterI [some (.int (nI a)), some (.int (nI b)), some (.int (nI k))] (by decide +kernel) rfl (Nat.le_of_ble_eq_true rfl) (fun X hE hR => ?_)
  have hR : qR X = rm_X1_hits := hR
  have hE : EI G X _ (some .int) := hE
  show Zm G X cX1_hits RX1 _ 0 [some (.int (nI a)), some (.int (nI b)), some (.int (nI k))] []
  refine z_iload_0 iX1_hits_0 ?_
  have eT : (nI a).toInt = (a : Int) := nI_toInt (by omega)
  by_cases a1 : a = 1
  · subst a1
    refine z_tableIn (off := 27) (tgt := 28) iX1_hits_1 (by decide) (by decide) (by decide) (by decide) ?_
    refine z_iload_1 iX1_hits_28 ?_
    refine z_iconst iX1_hits_29 kI_3 ?_
    refine z_icmp_eqN iX1_hits_30 (by omega) (by omega) (fun b3 => ?_) (fun b3 => ?_)
    · refine z_iconst iX1_hits_48 kI_1 ?_
      refine z_goto iX1_hits_49 ?_
      exact m_iret hE iX1_hits_53 ⟨rfl, by simp [fHit, b3]⟩
    · refine z_iload_1 iX1_hits_33 ?_
      refine z_iconst iX1_hits_34 kI_4 ?_
      refine z_icmp_eqN iX1_hits_35 (by omega) (by omega) (fun b4 => ?_) (fun b4 => ?_)
      · refine z_iconst iX1_hits_48 kI_1 ?_
        refine z_goto iX1_hits_49 ?_
        exact m_iret hE iX1_hits_53 ⟨rfl, by simp [fHit, b4]⟩
      · refine z_iload_1 iX1_hits_38 ?_
        refine z_iconst iX1_hits_39 kI_1 ?_
        refine z_icmp_neN iX1_hits_40 (by omega) (by omega) (fun b1 => ?_) (fun b1 => ?_)
        · refine z_iconst iX1_hits_52 kI_0 ?_
          exact m_iret hE iX1_hits_53 ⟨rfl, by simp [fHit, b3, b4, b1]⟩
        · refine z_iload_2 iX1_hits_43 ?_
          refine z_iconst iX1_hits_44 kI_1 ?_
          refine z_icmp_eqN iX1_hits_45 (by omega) (by omega) (fun k1 => ?_) (fun k1 => ?_)
          · refine z_iconst iX1_hits_52 kI_0 ?_
            exact m_iret hE iX1_hits_53 ⟨rfl, by simp [fHit, b1, k1]⟩
          · refine z_iconst iX1_hits_48 kI_1 ?_
            refine z_goto iX1_hits_49 ?_
            exact m_iret hE iX1_hits_53 ⟨rfl, by simp [fHit, b1, k1]⟩
  · by_cases a2 : a = 2
    · subst a2
      refine z_tableIn (off := 53) (tgt := 54) iX1_hits_1 (by decide) (by decide) (by decide) (by decide) ?_
      refine z_iload_1 iX1_hits_54 ?_
      refine z_iconst iX1_hits_55 kI_1 ?_
      refine z_icmp_neN iX1_hits_56 (by omega) (by omega) (fun b1 => ?_) (fun b1 => ?_)
      · refine z_iconst iX1_hits_63 kI_0 ?_
        exact m_iret hE iX1_hits_64 ⟨rfl, by simp [fHit, b1]⟩
      · refine z_iconst iX1_hits_59 kI_1 ?_
        refine z_goto iX1_hits_60 ?_
        exact m_iret hE iX1_hits_64 ⟨rfl, by simp [fHit, b1]⟩
    · by_cases a3 : a = 3
      · subst a3
        refine z_tableIn (off := 64) (tgt := 65) iX1_hits_1 (by decide) (by decide) (by decide) (by decide) ?_
        refine z_iload_1 iX1_hits_65 ?_
        refine z_iconst iX1_hits_66 kI_2 ?_
        refine z_icmp_neN iX1_hits_67 (by omega) (by omega) (fun b1 => ?_) (fun b1 => ?_)
        · refine z_iconst iX1_hits_74 kI_0 ?_
          exact m_iret hE iX1_hits_75 ⟨rfl, by simp [fHit, b1]⟩
        · refine z_iconst iX1_hits_70 kI_1 ?_
          refine z_goto iX1_hits_71 ?_
          exact m_iret hE iX1_hits_75 ⟨rfl, by simp [fHit, b1]⟩
      · refine z_tableOut (tgt := 76) iX1_hits_1 (by rw [eT]; omega) (by decide) ?_
        refine z_iconst iX1_hits_76 kI_0 ?_
        exact m_iret hE iX1_hits_77 ⟨rfl, by simp [fHit, a1, a2, a3]⟩
/-- Bout.lead -/
theorem c_X1_lead (G : qG) (l : Launch) {μ : Mem} : CtrI G l M_X1_lead [.ref (qB G + 35)] μ (fun r μ' => μ' = μ ∧ r = μ.1 35 0 - μ.1 35 1) := by
  refine m_enterI [some (.ref (qB G + 35))] (by decide +kernel) rfl (Nat.le_of_ble_eq_true rfl) (fun X hE hR => ?_)
  have hR : qR X = rm_X1_lead := hR
  have hE : EI G X _ (some .int) := hE
  show Zm G X cX1_lead RX1 _ 0 [some (.ref (qB G + 35))] []
  refine z_aload_0 iX1_lead_0 ?_
  refine m_getI iX1_lead_1 g_1_15 rfl ?_
  refine z_aload_0 iX1_lead_4 ?_
  refine m_getI iX1_lead_5 g_1_19 rfl ?_
  refine z_isub iX1_lead_8 ?_
  exact m_iret hE iX1_lead_9 ⟨rfl, rfl⟩
/-- what a bout leaves behind: hits, passes, the leads of its passes -/
def BoutAt (μ : Mem) (F1 F2 : Fe) (p : Nat) : Prop := μ.1 35 0 = nI (fIt F1 F2 p).2.2.1 ∧ μ.1 35 1 = nI (fIt F1 F2 p).2.2.2 ∧ μ.1 35 2 = nI p ∧ ∀ t, t < p → μ.1 36 t = nI (fHit (fIt F1 F2 (t + 1)).1 (fIt F1 F2 (t + 1)).2.1 F2.1) - nI (fHit (fIt F1 F2 (t + 1)).2.1 (fIt F1 F2 (t + 1)).1 F1.1)
/-- Bout.fight -/
theorem c_X1_fight (G : qG) (l : Launch) {μ : Mem} {a b most en : Nat} {F1 F2 : Fe} (ha : isFen a) (hb : isFen b) (h1 : FenAt μ a F1) (h2 : FenAt μ b F2) (o1 : FeOK F1) (o2 : FeOK F2) (hm : most ≤ 9) (hen : en < 2000000) (ha1 : a ∉ [35, 36]) (ha2 : a + 1 ∉ [35, 36]) (hb1 : b ∉ [35, 36]) (hb2 : b + 1 ∉ [35, 36]) :
    CtrV G l M_X1_fight [.ref (qB G + 35), .ref (qB G + a), .int (nI F1.2.2), .ref (qB G + b), .int (nI F2.2.2), .int (nI most), .int (nI en)] μ (fun μ' => Fr [35, 36] μ μ' ∧ BoutAt μ' F1 F2 (fLen F1 F2 en most 0)) := by
  refine m_enterV [some (.ref (qB G + 35)), some (.ref (qB G + a)), some (.int (nI F1.2.2)), some (.ref (qB G + b)), some (.int (nI F2.2.2)), some (.int (nI most)), some (.int (nI en)), none, none, none, none, none, none] (by decide +kernel) rfl (Nat.le_of_ble_eq_true rfl) rfl (fun X hE hR => ?_)
  have hR : qR X = rm_X1_fight := hR
  show Zm G X cX1_fight RX1 _ 0 [some (.ref (qB G + 35)), some (.ref (qB G + a)), some (.int (nI F1.2.2)), some (.ref (qB G + b)), some (.int (nI F2.2.2)), some (.int (nI most)), some (.int (nI en)), none, none, none, none, none, none] []
  have i35 : (35 : Nat) ∈ [35, 36] := by decide
  have i36 : (36 : Nat) ∈ [35, 36] := by decide
  have loop : ∀ (n p : Nat) (μ' : Mem) (w1 w2 w3 : Option Value), n + p = most → fLen F1 F2 en n p = fLen F1 F2 en most 0 → Fr [35, 36] μ μ' → BoutAt μ' F1 F2 p → Zm G X cX1_fight RX1 μ' 24 [some (.ref (qB G + 35)), some (.ref (qB G + a)), some (.int (nI F1.2.2)), some (.ref (qB G + b)), some (.int (nI F2.2.2)), some (.int (nI most)), some (.int (nI en)), some (.int (nI (fIt F1 F2 p).1)), some (.int (nI (fIt F1 F2 p).2.1)), some (.int (nI p)), w1, w2, w3] [] := by
    intro n
    induction n with
    | zero =>
      intro p μ' w1 w2 w3 hnp hl hF hB
      refine z_iload_9 iX1_fight_24 ?_
      refine z_iload_5 iX1_fight_26 ?_
      refine z_icmp_geN iX1_fight_28 (by omega) (by omega) (fun hq => ?_) (fun hq => ?_)
      · exact m_vret hE iX1_fight_162 ⟨hF, by rw [← hl]; exact hB⟩
      · omega
    | succ n ih =>
      intro p μ' w1 w2 w3 hnp hl hF hB
      obtain ⟨B1, B2, B3, B4⟩ := id hB
      have hle := fIt_le F1 F2 p
      have hmv := fIt_mv o1 o2 p
      refine z_iload_9 iX1_fight_24 ?_
      refine z_iload_5 iX1_fight_26 ?_
      refine z_icmp_geN iX1_fight_28 (by omega) (by omega) (fun hq => ?_) (fun hq => ?_)
      · omega
      · refine z_iload_9 iX1_fight_31 ?_
        refine z_bipush iX1_fight_33 kB_9 ?_
        refine z_icmp_geN iX1_fight_35 (by omega) (by omega) (fun hq9 => ?_) (fun hq9 => ?_)
        · omega
        · refine z_aload_0 iX1_fight_38 ?_
          refine m_getI iX1_fight_39 g_1_15 rfl ?_
          refine z_top B1 ?_
          refine z_iload_6 iX1_fight_42 ?_
          have hstop : (en ≤ (fIt F1 F2 p).2.2.1 ∨ en ≤ (fIt F1 F2 p).2.2.2) → BoutAt μ' F1 F2 (fLen F1 F2 en most 0) := fun q => by
            rw [← hl]
            unfold fLen
            rw [if_pos q]
            exact hB
          refine z_icmp_geN iX1_fight_44 (by omega) (by omega) (fun he1 => ?_) (fun he1 => ?_)
          · exact m_vret hE iX1_fight_162 ⟨hF, hstop (Or.inl he1)⟩
          · refine z_aload_0 iX1_fight_47 ?_
            refine m_getI iX1_fight_48 g_1_19 rfl ?_
            refine z_top B2 ?_
            refine z_iload_6 iX1_fight_51 ?_
            refine z_icmp_ltN iX1_fight_53 (by omega) (by omega) (fun he2 => ?_) (fun he2 => ?_)
            · have hk1 : μ'.1 a 0 = nI F1.1 := by rw [hF.1 a ha1]; exact h1.1
              have hk2 : μ'.1 b 0 = nI F2.1 := by rw [hF.1 b hb1]; exact h2.1
              refine z_aload_1 iX1_fight_59 ?_
              refine z_iload_9 iX1_fight_60 ?_
              refine z_iload_2 iX1_fight_62 ?_
              refine z_iload_8 iX1_fight_63 ?_
              refine m_callVi iX1_fight_65 l_1_25 f_X4_moveIn (c_X4_moveIn G _ ha hk1 o1.1 (fun j hj => by rw [hF.1 _ ha2]; exact h1.2 j hj) (by have := o1.2.2; omega) (by omega) (by omega)) ha.2.2.2 rfl rfl (Nat.le_of_ble_eq_true rfl) hR ft_X1_fight_X4_moveIn ⟨rfl, rfl⟩ ?_
              rintro r1 μ1 ⟨rfl, rfl⟩
              refine z_istore_10 iX1_fight_68 rfl ?_
              refine z_aload_3 iX1_fight_70 ?_
              refine z_iload_9 iX1_fight_71 ?_
              refine z_iload_4 iX1_fight_73 ?_
              refine z_iload_7 iX1_fight_75 ?_
              refine m_callVi iX1_fight_77 l_1_25 f_X4_moveIn (c_X4_moveIn G _ hb hk2 o2.1 (fun j hj => by rw [hF.1 _ hb2]; exact h2.2 j hj) (by have := o2.2.2; omega) (by omega) (by omega)) hb.2.2.2 rfl rfl (Nat.le_of_ble_eq_true rfl) hR ft_X1_fight_X4_moveIn ⟨rfl, rfl⟩ ?_
              rintro r2 μ1 ⟨rfl, rfl⟩
              have m1 := fMove_lt o1 p (fIt F1 F2 p).2.1
              have m2 := fMove_lt o2 p (fIt F1 F2 p).1
              have hj1 := fHit_le (fMove F1.1 F1.2.1 F1.2.2 p (fIt F1 F2 p).2.1) (fMove F2.1 F2.2.1 F2.2.2 p (fIt F1 F2 p).1) F2.1
              have hj2 := fHit_le (fMove F2.1 F2.2.1 F2.2.2 p (fIt F1 F2 p).1) (fMove F1.1 F1.2.1 F1.2.2 p (fIt F1 F2 p).2.1) F1.1
              refine z_istore_8 iX1_fight_80 rfl ?_
              refine z_iload_10 iX1_fight_82 ?_
              refine z_istore_7 iX1_fight_84 rfl ?_
              refine z_iload_7 iX1_fight_86 ?_
              refine z_iload_8 iX1_fight_88 ?_
              refine z_aload_3 iX1_fight_90 ?_
              refine m_getI iX1_fight_91 g_1_31 hb.1 ?_
              refine z_top hk2 ?_
              refine m_callSi iX1_fight_94 l_1_34 f_X1_hits (c_X1_hits G _ (by omega) (by omega) (by have := o2.1; omega)) rfl rfl (Nat.le_of_ble_eq_true rfl) hR ft_X1_fight_X1_hits ⟨rfl, rfl⟩ ?_
              rintro r3 μ1 ⟨rfl, rfl⟩
              refine z_istore_11 iX1_fight_97 rfl ?_
              refine z_iload_8 iX1_fight_99 ?_
              refine z_iload_7 iX1_fight_101 ?_
              refine z_aload_1 iX1_fight_103 ?_
              refine m_getI iX1_fight_104 g_1_31 ha.1 ?_
              refine z_top hk1 ?_
              refine m_callSi iX1_fight_107 l_1_34 f_X1_hits (c_X1_hits G _ (by omega) (by omega) (by have := o1.1; omega)) rfl rfl (Nat.le_of_ble_eq_true rfl) hR ft_X1_fight_X1_hits ⟨rfl, rfl⟩ ?_
              rintro r4 μ1 ⟨rfl, rfl⟩
              refine z_istore_12 iX1_fight_110 rfl ?_
              refine z_aload_0 iX1_fight_112 ?_
              refine z_dup iX1_fight_113 rfl ?_
              refine m_getI iX1_fight_114 g_1_15 rfl ?_
              refine z_top B1 ?_
              refine z_iload_11 iX1_fight_117 ?_
              refine z_iaddN iX1_fight_119 ?_
              refine m_putI iX1_fight_120 p_1_15 rfl ?_
              refine z_aload_0 iX1_fight_123 ?_
              refine z_dup iX1_fight_124 rfl ?_
              refine m_getI iX1_fight_125 g_1_19 rfl ?_
              refine z_top ((mw_ne _ _ (Or.inr (by decide))).trans B2) ?_
              refine z_iload_12 iX1_fight_128 ?_
              refine z_iaddN iX1_fight_130 ?_
              refine m_putI iX1_fight_131 p_1_19 rfl ?_
              refine z_aload_0 iX1_fight_134 ?_
              refine m_getR iX1_fight_135 g_1_9 rfl ?_
              refine z_iload_9 iX1_fight_138 ?_
              refine z_iload_11 iX1_fight_140 ?_
              refine z_iload_12 iX1_fight_142 ?_
              refine z_isub iX1_fight_144 ?_
              refine m_iastN iX1_fight_145 rfl (by omega) ?_
              refine z_aload_0 iX1_fight_146 ?_
              refine z_dup iX1_fight_147 rfl ?_
              refine m_getI iX1_fight_148 g_1_22 rfl ?_
              refine z_top ((mw_ne _ _ (Or.inl (by decide))).trans ((mw_ne _ _ (Or.inr (by decide))).trans ((mw_ne _ _ (Or.inr (by decide))).trans B3))) ?_
              refine z_iconst iX1_fight_151 kI_1 ?_
              refine z_iaddN iX1_fight_152 ?_
              refine m_putI iX1_fight_153 p_1_22 rfl ?_
              refine z_iinc_9N iX1_fight_156 rfl ?_
              refine z_goto iX1_fight_159 ?_
              have hF2 := (((hF.mw 0 (nI (fIt F1 F2 (p + 1)).2.2.1) i35).mw 1 (nI (fIt F1 F2 (p + 1)).2.2.2) i35).mw p (nI (fHit (fIt F1 F2 (p + 1)).1 (fIt F1 F2 (p + 1)).2.1 F2.1) - nI (fHit (fIt F1 F2 (p + 1)).2.1 (fIt F1 F2 (p + 1)).1 F1.1)) i36).mw 2 (nI (p + 1)) i35
              refine ih (p + 1) _ _ _ _ (by omega) ?_ hF2 ?_
              · rw [← hl]
                conv => rhs; unfold fLen
                rw [if_neg (by omega)]
              · refine ⟨?_, ?_, ?_, ?_⟩
                · rw [mw_ne _ _ (Or.inr (by decide)), mw_ne _ _ (Or.inl (by decide)), mw_ne _ _ (Or.inr (by decide)), mw_same]; rfl
                · rw [mw_ne _ _ (Or.inr (by decide)), mw_ne _ _ (Or.inl (by decide)), mw_same]; rfl
                · rw [mw_same]
                · intro t ht
                  rw [mw_ne _ _ (Or.inl (by decide))]
                  by_cases htp : t = p
                  · subst htp
                    rw [mw_same]; rfl
                  · rw [mw_ne _ _ (Or.inr htp), mw_ne _ _ (Or.inl (by decide)), mw_ne _ _ (Or.inl (by decide))]
                    exact B4 t (by omega)
            · refine z_goto iX1_fight_56 ?_
              exact m_vret hE iX1_fight_162 ⟨hF, hstop (Or.inr he2)⟩
  refine z_aload_0 iX1_fight_0 ?_
  refine z_iconst iX1_fight_1 kI_0 ?_
  refine m_putI iX1_fight_2 p_1_15 rfl ?_
  refine z_aload_0 iX1_fight_5 ?_
  refine z_iconst iX1_fight_6 kI_0 ?_
  refine m_putI iX1_fight_7 p_1_19 rfl ?_
  refine z_aload_0 iX1_fight_10 ?_
  refine z_iconst iX1_fight_11 kI_0 ?_
  refine m_putI iX1_fight_12 p_1_22 rfl ?_
  refine z_iconst iX1_fight_15 kI_0 ?_
  refine z_istore_7 iX1_fight_16 rfl ?_
  refine z_iconst iX1_fight_18 kI_0 ?_
  refine z_istore_8 iX1_fight_19 rfl ?_
  refine z_iconst iX1_fight_21 kI_0 ?_
  refine z_istore_9 iX1_fight_22 rfl ?_
  refine loop most 0 _ _ _ _ (by omega) rfl (((Fr.rf.mw 0 _ i35).mw 1 _ i35).mw 2 _ i35) ⟨?_, ?_, ?_, fun t ht => absurd ht (by omega)⟩
  · rw [mw_ne _ _ (Or.inr (by decide)), mw_ne _ _ (Or.inr (by decide)), mw_same]; rfl
  · rw [mw_ne _ _ (Or.inr (by decide)), mw_same]; rfl
  · rw [mw_same]
end
section
/-! THE STATE: a roll (fencers, goods, kinds, moves, prices, told owners); holdings (owners, purses, feet, day) -/
abbrev Rl : Type := Nat × Nat × (Nat → Nat) × (Nat → Nat → Nat) × (Nat → Nat) × (Nat → Nat)
def rFc (R : Rl) : Nat := R.1
def rGc (R : Rl) : Nat := R.2.1
def rKd (R : Rl) : Nat → Nat := R.2.2.1
def rMv (R : Rl) : Nat → Nat → Nat := R.2.2.2.1
def rPr (R : Rl) : Nat → Nat := R.2.2.2.2.1
def rTl (R : Rl) : Nat → Nat := R.2.2.2.2.2
abbrev Hd : Type := (Nat → Nat) × (Nat → Nat) × (Nat → Nat) × Nat
def hOw (H : Hd) : Nat → Nat := H.1
def hPu (H : Hd) : Nat → Nat := H.2.1
def hFe (H : Hd) : Nat → Nat := H.2.2.1
def hDy (H : Hd) : Nat := H.2.2.2
def RlOK (R : Rl) : Prop := rFc R ≤ 6 ∧ rGc R ≤ 5 ∧ (∀ f, f < rFc R → rKd R f < 4 ∧ ∀ j, j < 3 → rMv R f j < 5 ∧ 0 < rMv R f j) ∧ ∀ g, g < rGc R → rPr R g ≤ 9 ∧ rTl R g < rFc R
def HdOK (R : Rl) (H : Hd) : Prop := (∀ g, g < rGc R → hOw H g < rFc R) ∧ (∀ f, f < 6 → hPu H f ≤ 99 ∧ hFe H f < 3) ∧ (∀ f, rFc R ≤ f → f < 6 → hPu H f = 0 ∧ hFe H f = 0) ∧ ∀ f, f < rFc R → rKd R f = 3 → hFe H f = 0
def RollAt (μ : Mem) (R : Rl) : Prop := μ.1 19 3 = nI (rFc R) ∧ μ.1 19 4 = nI (rGc R) ∧ (∀ f, f < rFc R → μ.1 (23 + 2 * f) 0 = nI (rKd R f) ∧ ∀ j, j < 3 → μ.1 (23 + 2 * f + 1) j = nI (rMv R f j)) ∧ ∀ g, g < rGc R → μ.1 21 g = nI (rPr R g) ∧ μ.1 22 g = nI (rTl R g)
def HoldAt (μ : Mem) (hd : Nat) (R : Rl) (H : Hd) : Prop := (∀ g, g < rGc R → μ.1 (hd + 1) g = nI (hOw H g)) ∧ (∀ f, f < 6 → μ.1 (hd + 2) f = nI (hPu H f)) ∧ (∀ f, f < 6 → μ.1 (hd + 3) f = nI (hFe H f)) ∧ μ.1 hd 3 = nI (hDy H)
def updN (f : Nat → Nat) (k v : Nat) : Nat → Nat := fun j => if j = k then v else f j
def feOf (R : Rl) (H : Hd) (i : Nat) : Fe := (rKd R i, rMv R i, hFe H i)
theorem feOK {R : Rl} {H : Hd} {i : Nat} (hR : RlOK R) (hH : HdOK R H) (hi : i < rFc R) : FeOK (feOf R H i) := ⟨(hR.2.2.1 i hi).1, fun j hj => ((hR.2.2.1 i hi).2 j hj).1, (hH.2.1 i (by have := hR.1; omega)).2⟩
/-- a whole bout: its passes, its hits -/
def bLen (F1 F2 : Fe) : Nat := fLen F1 F2 3 9 0
def bH1 (F1 F2 : Fe) : Nat := (fIt F1 F2 (bLen F1 F2)).2.2.1
def bH2 (F1 F2 : Fe) : Nat := (fIt F1 F2 (bLen F1 F2)).2.2.2
theorem bLen_le (F1 F2 : Fe) : bLen F1 F2 ≤ 9 := fLen_le F1 F2 3 9 0
theorem bH_le (F1 F2 : Fe) : bH1 F1 F2 ≤ 9 ∧ bH2 F1 F2 ≤ 9 := by
  have h := fIt_le F1 F2 (bLen F1 F2)
  have h2 := bLen_le F1 F2
  unfold bH1 bH2
  omega
/-- holdings' cells -/
def isHold (hd : Nat) : Prop := layF hd 0 = some (5, some (some (hd + 1))) ∧ layF hd 1 = some (5, some (some (hd + 2))) ∧ layF hd 2 = some (5, some (some (hd + 3))) ∧ layF hd 3 = some (5, none) ∧ layA (hd + 1) = some (0, 5, 0, 0) ∧ layA (hd + 2) = some (0, 6, 0, 0) ∧ layA (hd + 3) = some (0, 6, 0, 0) ∧ layC hd = some 5
/-- a salle's cells: 37 the salle, 49 the trial -/
def isSal (s : Nat) : Prop := layF s 0 = some (8, some (some 19)) ∧ layF s 1 = some (8, some (some 35)) ∧ layF s 2 = some (8, some (some (s + 1))) ∧ layF s 3 = some (8, some (some (s + 5))) ∧ layC s = some 8 ∧ isHold (s + 1) ∧ layA (s + 5) = some (4, 6, s + 6, 1) ∧ (∀ i, i < 6 → layA (s + 6 + 1 * i) = some (0, 6, 0, 0)) ∧ s ∈ [37, 49]
theorem isHold_38 : isHold 38 := ⟨rfl, rfl, rfl, rfl, rfl, rfl, rfl, rfl⟩
theorem isHold_50 : isHold 50 := ⟨rfl, rfl, rfl, rfl, rfl, rfl, rfl, rfl⟩
theorem isSal_37 : isSal 37 := ⟨rfl, rfl, rfl, rfl, rfl, isHold_38, rfl, fun i hi => by rcases (show i = 0 ∨ i = 1 ∨ i = 2 ∨ i = 3 ∨ i = 4 ∨ i = 5 by omega) with rfl | rfl | rfl | rfl | rfl | rfl <;> rfl, by decide⟩
theorem isSal_49 : isSal 49 := ⟨rfl, rfl, rfl, rfl, rfl, isHold_50, rfl, fun i hi => by rcases (show i = 0 ∨ i = 1 ∨ i = 2 ∨ i = 3 ∨ i = 4 ∨ i = 5 by omega) with rfl | rfl | rfl | rfl | rfl | rfl <;> rfl, by decide⟩
theorem fen_out {f : Nat} (h : f < 6) : 23 + 2 * f ∉ [35, 36] ∧ 23 + 2 * f + 1 ∉ [35, 36] := by
  constructor <;> (simp only [List.mem_cons, List.not_mem_nil, or_false]; omega)
/-- what reads the roll only sees its rows -/
theorem RollAt.kept {μ μ' : Mem} {R : Rl} (h : RollAt μ R) (hR : RlOK R) (he : ∀ a, 19 ≤ a → a < 35 → μ'.1 a = μ.1 a) : RollAt μ' R := by
  obtain ⟨h1, h2, h3, h4⟩ := h
  have h6 := hR.1
  refine ⟨by rw [he 19 (by omega) (by omega)]; exact h1, by rw [he 19 (by omega) (by omega)]; exact h2, fun f hf => ⟨by rw [he _ (by omega) (by omega)]; exact (h3 f hf).1, fun j hj => by rw [he _ (by omega) (by omega)]; exact (h3 f hf).2 j hj⟩, fun g hg => ⟨by rw [he 21 (by omega) (by omega)]; exact (h4 g hg).1, by rw [he 22 (by omega) (by omega)]; exact (h4 g hg).2⟩⟩
theorem HoldAt.kept {μ μ' : Mem} {hd : Nat} {R : Rl} {H : Hd} (h : HoldAt μ hd R H) (h0 : μ'.1 hd = μ.1 hd) (e1 : μ'.1 (hd + 1) = μ.1 (hd + 1)) (e2 : μ'.1 (hd + 2) = μ.1 (hd + 2)) (e3 : μ'.1 (hd + 3) = μ.1 (hd + 3)) : HoldAt μ' hd R H := by
  obtain ⟨h1, h2, h3, h4⟩ := h
  exact ⟨fun g hg => by rw [e1]; exact h1 g hg, fun f hf => by rw [e2]; exact h2 f hf, fun f hf => by rw [e3]; exact h3 f hf, by rw [h0]; exact h4⟩
theorem RollAt.fr {μ μ' : Mem} {R : Rl} {S : List Nat} (h : RollAt μ R) (hR : RlOK R) (hF : Fr S μ μ') (hs : ∀ a, a ∈ S → a < 19 ∨ 35 ≤ a) : RollAt μ' R := h.kept hR (fun a h1 h2 => hF.1 a (fun q => by have := hs a q; omega))
theorem HoldAt.fr {μ μ' : Mem} {hd : Nat} {R : Rl} {H : Hd} {S : List Nat} (h : HoldAt μ hd R H) (hF : Fr S μ μ') (hs : ∀ a, a ∈ S → a < hd ∨ hd + 3 < a) : HoldAt μ' hd R H :=
  h.kept (hF.1 _ (fun q => by have := hs _ q; omega)) (hF.1 _ (fun q => by have := hs _ q; omega)) (hF.1 _ (fun q => by have := hs _ q; omega)) (hF.1 _ (fun q => by have := hs _ q; omega))
theorem RollAt.fen {μ : Mem} {R : Rl} {H : Hd} (h : RollAt μ R) {f : Nat} (hf : f < rFc R) : FenAt μ (23 + 2 * f) (feOf R H f) := ⟨(h.2.2.1 f hf).1, (h.2.2.1 f hf).2⟩
/-- Roll.hasFencer, for any int -/
theorem c_X7_hasFencer (G : qG) (l : Launch) {μ : Mem} {a n : Nat} (ha : layF a 3 = some (7, none)) (hn : μ.1 a 3 = nI n) (hs : n < 1000) (x : Int32) : CtrI G l M_X7_hasFencer [.ref (qB G + a), .int x] μ (fun r μ' => μ' = μ ∧ ((r = nI 1 ∧ ∃ f, f < n ∧ x = nI f) ∨ (r = nI 0 ∧ ∀ f, f < n → x ≠ nI f))) := by
  refine m_enterI [some (.ref (qB G + a)), some (.int x)] (by decide +kernel) rfl (Nat.le_of_ble_eq_true rfl) (fun X hE hR => ?_)
  have hR : qR X = rm_X7_hasFencer := hR
  have hE : EI G X _ (some .boolean) := hE
  show Zm G X cX7_hasFencer RX7 _ 0 [some (.ref (qB G + a)), some (.int x)] []
  refine z_iload_1 iX7_hasFencer_0 ?_
  refine z_if_lt iX7_hasFencer_1 (fun h0 => ?_) (fun h0 => ?_)
  · refine z_iconst iX7_hasFencer_16 kI_0 ?_
    exact m_zret hE iX7_hasFencer_17 rfl ⟨rfl, Or.inr ⟨rfl, fun f hf q => nI_pos (n := f) (by omega) (by rw [← q]; exact h0)⟩⟩
  · obtain ⟨k, hk, rfl⟩ := nI_of h0
    refine z_iload_1 iX7_hasFencer_4 ?_
    refine z_aload_0 iX7_hasFencer_5 ?_
    refine m_getI iX7_hasFencer_6 g_7_25 ha ?_
    refine z_top (hn) ?_
    refine z_icmp_geN iX7_hasFencer_9 (by omega) (by omega) (fun h1 => ?_) (fun h1 => ?_)
    · refine z_iconst iX7_hasFencer_16 kI_0 ?_
      exact m_zret hE iX7_hasFencer_17 rfl ⟨rfl, Or.inr ⟨rfl, fun f hf q => by have := (nI_eq hk (by omega)).mp q; omega⟩⟩
    · refine z_iconst iX7_hasFencer_12 kI_1 ?_
      refine z_goto iX7_hasFencer_13 ?_
      exact m_zret hE iX7_hasFencer_17 rfl ⟨rfl, Or.inl ⟨rfl, k, h1, rfl⟩⟩
theorem c_X7_hasGood (G : qG) (l : Launch) {μ : Mem} {a n : Nat} (ha : layF a 4 = some (7, none)) (hn : μ.1 a 4 = nI n) (hs : n < 1000) (x : Int32) : CtrI G l M_X7_hasGood [.ref (qB G + a), .int x] μ (fun r μ' => μ' = μ ∧ ((r = nI 1 ∧ ∃ f, f < n ∧ x = nI f) ∨ (r = nI 0 ∧ ∀ f, f < n → x ≠ nI f))) := by
  refine m_enterI [some (.ref (qB G + a)), some (.int x)] (by decide +kernel) rfl (Nat.le_of_ble_eq_true rfl) (fun X hE hR => ?_)
  have hR : qR X = rm_X7_hasGood := hR
  have hE : EI G X _ (some .boolean) := hE
  show Zm G X cX7_hasGood RX7 _ 0 [some (.ref (qB G + a)), some (.int x)] []
  refine z_iload_1 iX7_hasGood_0 ?_
  refine z_if_lt iX7_hasGood_1 (fun h0 => ?_) (fun h0 => ?_)
  · refine z_iconst iX7_hasGood_16 kI_0 ?_
    exact m_zret hE iX7_hasGood_17 rfl ⟨rfl, Or.inr ⟨rfl, fun f hf q => nI_pos (n := f) (by omega) (by rw [← q]; exact h0)⟩⟩
  · obtain ⟨k, hk, rfl⟩ := nI_of h0
    refine z_iload_1 iX7_hasGood_4 ?_
    refine z_aload_0 iX7_hasGood_5 ?_
    refine m_getI iX7_hasGood_6 g_7_29 ha ?_
    refine z_top (hn) ?_
    refine z_icmp_geN iX7_hasGood_9 (by omega) (by omega) (fun h1 => ?_) (fun h1 => ?_)
    · refine z_iconst iX7_hasGood_16 kI_0 ?_
      exact m_zret hE iX7_hasGood_17 rfl ⟨rfl, Or.inr ⟨rfl, fun f hf q => by have := (nI_eq hk (by omega)).mp q; omega⟩⟩
    · refine z_iconst iX7_hasGood_12 kI_1 ?_
      refine z_goto iX7_hasGood_13 ?_
      exact m_zret hE iX7_hasGood_17 rfl ⟨rfl, Or.inl ⟨rfl, k, h1, rfl⟩⟩
/-- Holdings.fill -/
theorem c_X5_fill (G : qG) (l : Launch) {μ : Mem} {hd f n p : Nat} (hh : isHold hd) (hf : f < 6) (hp : μ.1 (hd + 2) f = nI p) (hp1 : p ≤ 99) (hn : n < 1000) : CtrV G l M_X5_fill [.ref (qB G + hd), .int (nI f), .int (nI n)] μ (fun μ' => μ' = mw μ (hd + 2) f (nI (min 99 (p + n)))) := by
  refine m_enterV [some (.ref (qB G + hd)), some (.int (nI f)), some (.int (nI n))] (by decide +kernel) rfl (Nat.le_of_ble_eq_true rfl) rfl (fun X hE hR => ?_)
  have hR : qR X = rm_X5_fill := hR
  show Zm G X cX5_fill RX5 _ 0 [some (.ref (qB G + hd)), some (.int (nI f)), some (.int (nI n))] []
  obtain ⟨f0, f1, f2, f3, a1, a2, a3, -⟩ := hh
  refine z_aload_0 iX5_fill_0 ?_
  refine m_getR iX5_fill_1 g_5_15 f1 ?_
  refine z_iload_1 iX5_fill_4 ?_
  refine z_bipush iX5_fill_5 kB_99 ?_
  refine z_aload_0 iX5_fill_7 ?_
  refine m_getR iX5_fill_8 g_5_15 f1 ?_
  refine z_iload_1 iX5_fill_11 ?_
  refine m_ialdN iX5_fill_12 a2 hf ?_
  refine z_top (hp) ?_
  refine z_iload_2 iX5_fill_13 ?_
  refine z_iaddN iX5_fill_14 ?_
  refine z_min iX5_fill_15 l_5_39 w_minS w_mathI w_minC hR ⟨Nat.le_of_ble_eq_true rfl, Nat.le_of_ble_eq_true rfl, Nat.zero_le _, Nat.zero_le _⟩ ?_
  have e : (if nI (p + n) < nI 99 then nI (p + n) else nI 99) = nI (min 99 (p + n)) := by
    by_cases q : p + n < 99
    · rw [if_pos (nI_lt q (by omega)), Nat.min_eq_right (by omega)]
    · rw [if_neg (nI_nlt (by omega) (by omega)), Nat.min_eq_left (by omega)]
  refine z_top e ?_
  refine m_iastN iX5_fill_18 a2 hf ?_
  exact m_vret hE iX5_fill_19 rfl
/-- Salle.fightNow -/
theorem c_X8_fightNow (G : qG) (l : Launch) {μ : Mem} {s i j : Nat} {R : Rl} {H : Hd} (hs : isSal s) (hR0 : RlOK R) (hH0 : HdOK R H) (hR1 : RollAt μ R) (hH1 : HoldAt μ (s + 1) R H) (hi : i < rFc R) (hj : j < rFc R) : CtrV G l M_X8_fightNow [.ref (qB G + s), .int (nI i), .int (nI j)] μ (fun μ' => Fr [35, 36] μ μ' ∧ BoutAt μ' (feOf R H i) (feOf R H j) (bLen (feOf R H i) (feOf R H j))) := by
  refine m_enterV [some (.ref (qB G + s)), some (.int (nI i)), some (.int (nI j))] (by decide +kernel) rfl (Nat.le_of_ble_eq_true rfl) rfl (fun X hE hR => ?_)
  have hR : qR X = rm_X8_fightNow := hR
  show Zm G X cX8_fightNow RX8 _ 0 [some (.ref (qB G + s)), some (.int (nI i)), some (.int (nI j))] []
  obtain ⟨s0, s1, s2, s3, sC, ⟨f0, f1, f2, f3, a1, a2, a3, -⟩, -⟩ := hs
  have h6 := hR0.1
  have i6 : i < 6 := by omega
  have j6 : j < 6 := by omega
  refine z_aload_0 iX8_fightNow_0 ?_
  refine m_getR iX8_fightNow_1 g_8_27 s1 ?_
  refine z_aload_0 iX8_fightNow_4 ?_
  refine m_getR iX8_fightNow_5 g_8_23 s0 ?_
  refine m_getR iX8_fightNow_8 g_8_31 rfl ?_
  refine z_iload_1 iX8_fightNow_11 ?_
  refine m_aaldN iX8_fightNow_12 rfl (by decide) i6 ?_
  refine z_aload_0 iX8_fightNow_13 ?_
  refine m_getR iX8_fightNow_14 g_8_12 s2 ?_
  refine m_getR iX8_fightNow_17 g_8_37 f2 ?_
  refine z_iload_1 iX8_fightNow_20 ?_
  refine m_ialdN iX8_fightNow_21 a3 i6 ?_
  refine z_top (hH1.2.2.1 i i6) ?_
  refine z_aload_0 iX8_fightNow_22 ?_
  refine m_getR iX8_fightNow_23 g_8_23 s0 ?_
  refine m_getR iX8_fightNow_26 g_8_31 rfl ?_
  refine z_iload_2 iX8_fightNow_29 ?_
  refine m_aaldN iX8_fightNow_30 rfl (by decide) j6 ?_
  refine z_aload_0 iX8_fightNow_31 ?_
  refine m_getR iX8_fightNow_32 g_8_12 s2 ?_
  refine m_getR iX8_fightNow_35 g_8_37 f2 ?_
  refine z_iload_2 iX8_fightNow_38 ?_
  refine m_ialdN iX8_fightNow_39 a3 j6 ?_
  refine z_top (hH1.2.2.1 j j6) ?_
  refine z_bipush iX8_fightNow_40 kB_9 ?_
  refine z_iconst iX8_fightNow_42 kI_3 ?_
  refine m_callVv iX8_fightNow_43 l_8_41 f_X1_fight (c_X1_fight (F1 := feOf R H i) (F2 := feOf R H j) (most := 9) (en := 3) G _ (isFen_roll i i6) (isFen_roll j j6) (hR1.fen hi) (hR1.fen hj) (feOK hR0 hH0 hi) (feOK hR0 hH0 hj) (by omega) (by omega) (fen_out i6).1 (fen_out i6).2 (fen_out j6).1 (fen_out j6).2) rfl rfl rfl (Nat.le_of_ble_eq_true rfl) hR ft_X8_fightNow_X1_fight ⟨rfl, rfl⟩ ?_
  rintro μ1 ⟨hF, hB⟩
  exact m_vret hE iX8_fightNow_46 ⟨hF, hB⟩
theorem q_cost {p a b : Nat} (hp : p < 1000) (ha : a < 1000) (hb : b < 1000) : (if nI 0 < nI p - (nI a - nI b) then nI p - (nI a - nI b) else nI 0) = nI (p + b - a) := by
  have e : nI p - (nI a - nI b) = nI (p + b) - nI a := by rw [← nI_add]; grind
  rw [e]
  by_cases q : a ≤ p + b
  · rw [pk_sub q]
    by_cases q2 : 0 < p + b - a
    · rw [if_pos (nI_lt q2 (by omega))]
    · rw [if_neg (nI_nlt (by omega) (by omega))]
      rw [show p + b - a = 0 by omega]
  · have := pk_sneg (a := p + b) (b := a) (by omega) (by omega)
    rw [if_neg (fun z => ?_), show p + b - a = 0 by omega]
    have h1 := Int32.lt_iff_toInt_lt.mp this
    have h2 := Int32.lt_iff_toInt_lt.mp z
    rw [nI_0] at h2
    omega
def costH (R : Rl) (H : Hd) (f o g : Nat) : Nat := rPr R g + bH2 (feOf R H f) (feOf R H o) - bH1 (feOf R H f) (feOf R H o)
/-- Salle.costFor -/
theorem c_X8_costFor (G : qG) (l : Launch) {μ : Mem} {s f g : Nat} {R : Rl} {H : Hd} (hs : isSal s) (hR0 : RlOK R) (hH0 : HdOK R H) (hR1 : RollAt μ R) (hH1 : HoldAt μ (s + 1) R H) (hf : f < rFc R) (hg : g < rGc R) : CtrI G l M_X8_costFor [.ref (qB G + s), .int (nI f), .int (nI g)] μ (fun r μ' => Fr [35, 36] μ μ' ∧ r = nI (costH R H f (hOw H g) g)) := by
  refine m_enterI [some (.ref (qB G + s)), some (.int (nI f)), some (.int (nI g))] (by decide +kernel) rfl (Nat.le_of_ble_eq_true rfl) (fun X hE hR => ?_)
  have hR : qR X = rm_X8_costFor := hR
  have hE : EI G X _ (some .int) := hE
  show Zm G X cX8_costFor RX8 _ 0 [some (.ref (qB G + s)), some (.int (nI f)), some (.int (nI g))] []
  obtain ⟨s0, s1, s2, s3, sC, ⟨f0, f1, f2, f3, a1, a2, a3, -⟩, -⟩ := id hs
  have g5 : g < 5 := by have := hR0.2.1; omega
  have ho := hH0.1 g hg
  refine z_aload_0 iX8_costFor_0 ?_
  refine z_iload_1 iX8_costFor_1 ?_
  refine z_aload_0 iX8_costFor_2 ?_
  refine m_getR iX8_costFor_3 g_8_12 s2 ?_
  refine m_getR iX8_costFor_6 g_8_47 f0 ?_
  refine z_iload_2 iX8_costFor_9 ?_
  refine m_ialdN iX8_costFor_10 a1 g5 ?_
  refine z_top (hH1.1 g hg) ?_
  refine m_callVv iX8_costFor_11 l_8_50 f_X8_fightNow (c_X8_fightNow G _ hs hR0 hH0 hR1 hH1 hf ho) sC rfl rfl (Nat.le_of_ble_eq_true rfl) hR ft_X8_costFor_X8_fightNow ⟨rfl, rfl⟩ ?_
  rintro μ1 ⟨hF, hB⟩
  have hR2 := hR1.fr hR0 hF (by decide)
  have hb := bH_le (feOf R H f) (feOf R H (hOw H g))
  have hpr := (hR0.2.2.2 g hg).1
  refine z_iconst iX8_costFor_14 kI_0 ?_
  refine z_aload_0 iX8_costFor_15 ?_
  refine m_getR iX8_costFor_16 g_8_23 s0 ?_
  refine m_getR iX8_costFor_19 g_8_54 rfl ?_
  refine z_iload_2 iX8_costFor_22 ?_
  refine m_ialdN iX8_costFor_23 rfl g5 ?_
  refine z_top ((hR2.2.2.2 g hg).1) ?_
  refine z_aload_0 iX8_costFor_24 ?_
  refine m_getR iX8_costFor_25 g_8_27 s1 ?_
  refine m_callVi iX8_costFor_28 l_8_57 f_X1_lead (c_X1_lead G _) rfl rfl rfl (Nat.le_of_ble_eq_true rfl) hR ft_X8_costFor_X1_lead ⟨rfl, rfl⟩ ?_
  rintro r μ2 ⟨rfl, rfl⟩
  refine z_top (show _ = nI (bH1 (feOf R H f) (feOf R H (hOw H g))) - nI (bH2 (feOf R H f) (feOf R H (hOw H g))) from by rw [hB.1, hB.2.1]; rfl) ?_
  refine z_isub iX8_costFor_31 ?_
  refine z_max iX8_costFor_32 l_8_61 w_maxS w_mathI w_maxC hR ⟨Nat.le_of_ble_eq_true rfl, Nat.le_of_ble_eq_true rfl, Nat.zero_le _, Nat.zero_le _⟩ ?_
  refine z_top (q_cost (by omega) (by omega) (by omega)) ?_
  exact m_iret hE iX8_costFor_35 ⟨hF, rfl⟩
def stepH (R : Rl) (H : Hd) (f : Nat) : Hd := if rKd R f = 3 then H else (hOw H, hPu H, updN (hFe H) f ((hFe H f + 1) % 3), hDy H)
/-- Salle.letStep -/
theorem c_X8_letStep (G : qG) (l : Launch) {μ : Mem} {s f : Nat} {R : Rl} {H : Hd} (hs : isSal s) (hR0 : RlOK R) (hH0 : HdOK R H) (hR1 : RollAt μ R) (hH1 : HoldAt μ (s + 1) R H) (hf : f < rFc R) : CtrV G l M_X8_letStep [.ref (qB G + s), .int (nI f)] μ (fun μ' => Fr [s + 1 + 3] μ μ' ∧ HoldAt μ' (s + 1) R (stepH R H f)) := by
  refine m_enterV [some (.ref (qB G + s)), some (.int (nI f))] (by decide +kernel) rfl (Nat.le_of_ble_eq_true rfl) rfl (fun X hE hR => ?_)
  have hR : qR X = rm_X8_letStep := hR
  show Zm G X cX8_letStep RX8 _ 0 [some (.ref (qB G + s)), some (.int (nI f))] []
  obtain ⟨s0, s1, s2, s3, sC, ⟨f0, f1, f2, f3, a1, a2, a3, -⟩, -⟩ := id hs
  have f6 : f < 6 := by have := hR0.1; omega
  have hkd := (hR0.2.2.1 f hf).1
  have hfe := (hH0.2.1 f f6).2
  refine z_aload_0 iX8_letStep_0 ?_
  refine m_getR iX8_letStep_1 g_8_23 s0 ?_
  refine m_getR iX8_letStep_4 g_8_31 rfl ?_
  refine z_iload_1 iX8_letStep_7 ?_
  refine m_aaldN iX8_letStep_8 rfl (by decide) f6 ?_
  refine m_getI iX8_letStep_9 g_8_84 (isFen_roll f f6).1 ?_
  refine z_top ((hR1.2.2.1 f hf).1) ?_
  refine z_iconst iX8_letStep_12 kI_3 ?_
  refine z_icmp_eqN iX8_letStep_13 (by omega) (by omega) (fun h3 => ?_) (fun h3 => ?_)
  · exact m_vret hE iX8_letStep_38 ⟨Fr.rf, by unfold stepH; rw [if_pos h3]; exact hH1⟩
  · refine z_aload_0 iX8_letStep_16 ?_
    refine m_getR iX8_letStep_17 g_8_12 s2 ?_
    refine m_getR iX8_letStep_20 g_8_37 f2 ?_
    refine z_iload_1 iX8_letStep_23 ?_
    refine z_aload_0 iX8_letStep_24 ?_
    refine m_getR iX8_letStep_25 g_8_12 s2 ?_
    refine m_getR iX8_letStep_28 g_8_37 f2 ?_
    refine z_iload_1 iX8_letStep_31 ?_
    refine m_ialdN iX8_letStep_32 a3 f6 ?_
    refine z_top (hH1.2.2.1 f f6) ?_
    refine z_iconst iX8_letStep_33 kI_1 ?_
    refine z_iaddN iX8_letStep_34 ?_
    refine z_iconst iX8_letStep_35 kI_3 ?_
    refine z_iremN iX8_letStep_36 (by omega) (by omega) (by omega) ?_
    refine m_iastN iX8_letStep_37 a3 f6 ?_
    refine m_vret hE iX8_letStep_38 ⟨Fr.rf.mw _ _ (by simp), ?_⟩
    unfold stepH
    rw [if_neg h3]
    refine ⟨fun g hg => ?_, fun j hj => ?_, fun j hj => ?_, ?_⟩
    · rw [mw_ne _ _ (Or.inl (by omega))]; exact hH1.1 g hg
    · rw [mw_ne _ _ (Or.inl (by omega))]; exact hH1.2.1 j hj
    · by_cases q : j = f
      · subst q
        rw [mw_same]; simp [hFe, updN]
      · rw [mw_ne _ _ (Or.inr q)]; simp only [hFe, updN, q, if_false]; exact hH1.2.2.1 j hj
    · rw [mw_ne _ _ (Or.inl (by omega))]; exact hH1.2.2.2
theorem stepOK {R : Rl} {H : Hd} {f : Nat} (hR : RlOK R) (hH : HdOK R H) (hf : f < rFc R) : HdOK R (stepH R H f) := by
  unfold stepH
  split
  · exact hH
  · next h3 =>
    obtain ⟨h1, h2, h4, h5⟩ := hH
    refine ⟨h1, fun j hj => ⟨(h2 j hj).1, ?_⟩, fun j hj hj6 => ⟨(h4 j hj hj6).1, ?_⟩, fun j hj hk => ?_⟩
    · simp only [hFe, updN]
      split
      · omega
      · exact (h2 j hj).2
    · simp only [hFe, updN]
      rw [if_neg (by omega)]
      exact (h4 j hj hj6).2
    · simp only [hFe, updN]
      rw [if_neg (fun q => h3 (by rw [← q]; exact hk))]
      exact h5 j hj hk
/-- a good that is met for -/
def buyH (R : Rl) (H : Hd) (f g : Nat) : Hd := if costH R H f (hOw H g) g ≤ hPu H f then (updN (hOw H) g f, updN (updN (hPu H) f (hPu H f - costH R H f (hOw H g) g)) (hOw H g) (min 99 (updN (hPu H) f (hPu H f - costH R H f (hOw H g) g) (hOw H g) + costH R H f (hOw H g) g)), hFe H, hDy H) else H
def dayH (H : Hd) : Hd := (hOw H, hPu H, hFe H, hDy H + 1)
def meetH (R : Rl) (H : Hd) (f g : Nat) : Hd := dayH (stepH R (stepH R (buyH R H f g) f) (hOw H g))
theorem buyOK {R : Rl} {H : Hd} {f g : Nat} (hR : RlOK R) (hH : HdOK R H) (hf : f < rFc R) (hg : g < rGc R) : HdOK R (buyH R H f g) := by
  unfold buyH
  split
  · next hc =>
    obtain ⟨h1, h2, h4, h5⟩ := hH
    have ho := h1 g hg
    have h6 := hR.1
    refine ⟨fun k hk => ?_, fun j hj => ⟨?_, (h2 j hj).2⟩, fun j hj hj6 => ⟨?_, (h4 j hj hj6).2⟩, h5⟩
    · simp only [hOw, updN]
      split
      · exact hf
      · exact h1 k hk
    · have b1 := (h2 j hj).1
      have b2 := (h2 f (by omega)).1
      simp only [hPu, updN]
      split
      · exact Nat.min_le_left _ _
      · split
        · simp only [hPu] at b2; omega
        · exact b1
    · simp only [hPu, updN]
      rw [if_neg (by omega), if_neg (by omega)]
      exact (h4 j hj hj6).1
  · exact hH
theorem dayOK {R : Rl} {H : Hd} (hH : HdOK R H) : HdOK R (dayH H) := hH
theorem meetOK {R : Rl} {H : Hd} {f g : Nat} (hR : RlOK R) (hH : HdOK R H) (hf : f < rFc R) (hg : g < rGc R) : HdOK R (meetH R H f g) := dayOK (stepOK hR (stepOK hR (buyOK hR hH hf hg) hf) (hH.1 g hg))
end
section
/-! SALLE, its doings -/
theorem c_hasF (G : qG) (l : Launch) {μ : Mem} {a n f : Nat} (ha : layF a 3 = some (7, none)) (hn : μ.1 a 3 = nI n) (hs : n < 1000) (hf : f < 2 ^ 31) : CtrI G l M_X7_hasFencer [.ref (qB G + a), .int (nI f)] μ (fun r μ' => μ' = μ ∧ ((r = nI 1 ∧ f < n) ∨ (r = nI 0 ∧ n ≤ f))) :=
  (c_X7_hasFencer G l ha hn hs (nI f)).weaken (fun r μ' h => ⟨h.1, h.2.imp (fun ⟨e, k, hk, q⟩ => ⟨e, by have := (nI_eq hf (by omega)).mp q; omega⟩) (fun ⟨e, q⟩ => ⟨e, Nat.not_lt.mp (fun z => q f z rfl)⟩)⟩)
theorem c_hasG (G : qG) (l : Launch) {μ : Mem} {a n f : Nat} (ha : layF a 4 = some (7, none)) (hn : μ.1 a 4 = nI n) (hs : n < 1000) (hf : f < 2 ^ 31) : CtrI G l M_X7_hasGood [.ref (qB G + a), .int (nI f)] μ (fun r μ' => μ' = μ ∧ ((r = nI 1 ∧ f < n) ∨ (r = nI 0 ∧ n ≤ f))) :=
  (c_X7_hasGood G l ha hn hs (nI f)).weaken (fun r μ' h => ⟨h.1, h.2.imp (fun ⟨e, k, hk, q⟩ => ⟨e, by have := (nI_eq hf (by omega)).mp q; omega⟩) (fun ⟨e, q⟩ => ⟨e, Nat.not_lt.mp (fun z => q f z rfl)⟩)⟩)
theorem nI10 : ¬ nI 1 = 0 := by decide
theorem nI00 : nI 0 = 0 := by decide
/-- Salle.letMeet -/
theorem c_X8_letMeet (G : qG) (l : Launch) {μ : Mem} {s f g : Nat} {R : Rl} {H : Hd} (hs : isSal s) (hR0 : RlOK R) (hH0 : HdOK R H) (hR1 : RollAt μ R) (hH1 : HoldAt μ (s + 1) R H) (hf : f < rFc R) (hg : g < rGc R) : CtrV G l M_X8_letMeet [.ref (qB G + s), .int (nI f), .int (nI g)] μ (fun μ' => Fr [35, 36, s + 1, s + 1 + 1, s + 1 + 2, s + 1 + 3] μ μ' ∧ HoldAt μ' (s + 1) R (meetH R H f g)) := by
  refine m_enterV [some (.ref (qB G + s)), some (.int (nI f)), some (.int (nI g)), none, none] (by decide +kernel) rfl (Nat.le_of_ble_eq_true rfl) rfl (fun X hE hR => ?_)
  have hR : qR X = rm_X8_letMeet := hR
  show Zm G X cX8_letMeet RX8 _ 0 [some (.ref (qB G + s)), some (.int (nI f)), some (.int (nI g)), none, none] []
  obtain ⟨s0, s1, s2, s3, sC, hhd, -, -, sm⟩ := id hs
  obtain ⟨f0, f1, f2, f3, a1, a2, a3, aC⟩ := id hhd
  have hs37 : 37 ≤ s := by simp only [List.mem_cons, List.not_mem_nil, or_false] at sm; omega
  have g5 : g < 5 := by have := hR0.2.1; omega
  have f6 : f < 6 := by have := hR0.1; omega
  have ho := hH0.1 g hg
  have o6 : hOw H g < 6 := by have := hR0.1; omega
  have hpu := (hH0.2.1 f f6).1
  have hpr := (hR0.2.2.2 g hg).1
  have hb := bH_le (feOf R H f) (feOf R H (hOw H g))
  have hcs : costH R H f (hOw H g) g < 100 := by unfold costH; omega
  have sub : ∀ a, a ∈ [35, 36] → a ∈ [35, 36, s + 1, s + 1 + 1, s + 1 + 2, s + 1 + 3] := fun a h => by simp at h ⊢; omega
  have sub3 : ∀ a, a ∈ [s + 1 + 3] → a ∈ [35, 36, s + 1, s + 1 + 1, s + 1 + 2, s + 1 + 3] := fun a h => by simp at h ⊢; omega
  refine z_aload_0 iX8_letMeet_0 ?_
  refine m_getR iX8_letMeet_1 g_8_12 s2 ?_
  refine m_getR iX8_letMeet_4 g_8_47 f0 ?_
  refine z_iload_2 iX8_letMeet_7 ?_
  refine m_ialdN iX8_letMeet_8 a1 g5 ?_
  refine z_top (hH1.1 g hg) ?_
  refine z_istore_3 iX8_letMeet_9 rfl ?_
  refine z_aload_0 iX8_letMeet_10 ?_
  refine z_iload_1 iX8_letMeet_11 ?_
  refine z_iload_2 iX8_letMeet_12 ?_
  refine m_callVi iX8_letMeet_13 l_8_67 f_X8_costFor (c_X8_costFor G _ hs hR0 hH0 hR1 hH1 hf hg) sC rfl rfl (Nat.le_of_ble_eq_true rfl) hR ft_X8_letMeet_X8_costFor ⟨rfl, rfl⟩ ?_
  rintro r μ1 ⟨hF1, rfl⟩
  have hR2 := hR1.fr hR0 hF1 (by decide)
  have hH2 : HoldAt μ1 (s + 1) R H := hH1.fr hF1 (fun a h => by simp at h; omega)
  have rest : ∀ (μ3 : Mem) (w : Option Value), Fr [35, 36, s + 1, s + 1 + 1, s + 1 + 2, s + 1 + 3] μ μ3 → HoldAt μ3 (s + 1) R (buyH R H f g) → Zm G X cX8_letMeet RX8 μ3 66 [some (.ref (qB G + s)), some (.int (nI f)), some (.int (nI g)), some (.int (nI (hOw H g))), w] [] := by
    intro μ3 w hF3 hH3
    have hOK3 := buyOK hR0 hH0 hf hg
    have hR3 : RollAt μ3 R := hR1.fr hR0 hF3 (fun a h => by simp at h; omega)
    refine z_aload_0 iX8_letMeet_66 ?_
    refine z_iload_1 iX8_letMeet_67 ?_
    refine m_callVv iX8_letMeet_68 l_8_76 f_X8_letStep (c_X8_letStep G _ hs hR0 hOK3 hR3 hH3 hf) sC rfl rfl (Nat.le_of_ble_eq_true rfl) hR ft_X8_letMeet_X8_letStep ⟨rfl, rfl⟩ ?_
    rintro μ4 ⟨hF4, hH4⟩
    have hR4 : RollAt μ4 R := hR3.fr hR0 hF4 (fun a h => by simp at h; omega)
    refine z_aload_0 iX8_letMeet_71 ?_
    refine z_iload_3 iX8_letMeet_72 ?_
    refine m_callVv iX8_letMeet_73 l_8_76 f_X8_letStep (c_X8_letStep G _ hs hR0 (stepOK hR0 hOK3 hf) hR4 hH4 ho) sC rfl rfl (Nat.le_of_ble_eq_true rfl) hR ft_X8_letMeet_X8_letStep ⟨rfl, rfl⟩ ?_
    rintro μ5 ⟨hF5, hH5⟩
    refine z_aload_0 iX8_letMeet_76 ?_
    refine m_getR iX8_letMeet_77 g_8_12 s2 ?_
    refine z_dup iX8_letMeet_80 rfl ?_
    refine m_getI iX8_letMeet_81 g_8_80 f3 ?_
    refine z_top (hH5.2.2.2) ?_
    refine z_iconst iX8_letMeet_84 kI_1 ?_
    refine z_iaddN iX8_letMeet_85 ?_
    refine m_putI iX8_letMeet_86 p_8_80 f3 ?_
    refine m_vret hE iX8_letMeet_89 ⟨((hF3.trans (hF4.mono sub3)).trans (hF5.mono sub3)).mw _ _ (by simp), ?_⟩
    refine ⟨fun k hk => ?_, fun k hk => ?_, fun k hk => ?_, ?_⟩
    · rw [mw_ne _ _ (Or.inl (by omega))]; exact hH5.1 k hk
    · rw [mw_ne _ _ (Or.inl (by omega))]; exact hH5.2.1 k hk
    · rw [mw_ne _ _ (Or.inl (by omega))]; exact hH5.2.2.1 k hk
    · rw [mw_same]; rfl
  refine z_istore_4 iX8_letMeet_16 rfl ?_
  refine z_aload_0 iX8_letMeet_18 ?_
  refine m_getR iX8_letMeet_19 g_8_12 s2 ?_
  refine m_getR iX8_letMeet_22 g_8_70 f1 ?_
  refine z_iload_1 iX8_letMeet_25 ?_
  refine m_ialdN iX8_letMeet_26 a2 f6 ?_
  refine z_top (hH2.2.1 f f6) ?_
  refine z_iload_4 iX8_letMeet_27 ?_
  refine z_icmp_ltN iX8_letMeet_29 (by omega) (by omega) (fun hlt => ?_) (fun hlt => ?_)
  · refine rest μ1 _ (hF1.mono sub) ?_
    unfold buyH
    rw [if_neg (by omega)]
    exact hH2
  · refine z_aload_0 iX8_letMeet_32 ?_
    refine m_getR iX8_letMeet_33 g_8_12 s2 ?_
    refine m_getR iX8_letMeet_36 g_8_70 f1 ?_
    refine z_iload_1 iX8_letMeet_39 ?_
    refine z_dup2 iX8_letMeet_40 rfl rfl ?_
    refine m_ialdN iX8_letMeet_41 a2 f6 ?_
    refine z_top (hH2.2.1 f f6) ?_
    refine z_iload_4 iX8_letMeet_42 ?_
    refine z_isubN iX8_letMeet_44 (by omega) ?_
    refine m_iastN iX8_letMeet_45 a2 f6 ?_
    refine z_aload_0 iX8_letMeet_46 ?_
    refine m_getR iX8_letMeet_47 g_8_12 s2 ?_
    refine z_iload_3 iX8_letMeet_50 ?_
    refine z_iload_4 iX8_letMeet_51 ?_
    have hpo : (mw μ1 (s + 1 + 2) f (nI (hPu H f - costH R H f (hOw H g) g))).1 (s + 1 + 2) (hOw H g) = nI (updN (hPu H) f (hPu H f - costH R H f (hOw H g) g) (hOw H g)) := by
      by_cases q : hOw H g = f
      · rw [q, mw_same]; simp [updN]
      · rw [mw_ne _ _ (Or.inr q)]; simp only [updN, q, if_false]; exact hH2.2.1 _ o6
    have hpo99 : updN (hPu H) f (hPu H f - costH R H f (hOw H g) g) (hOw H g) ≤ 99 := by
      have := (hH0.2.1 _ o6).1
      unfold updN
      split <;> omega
    refine m_callVv iX8_letMeet_53 l_8_73 f_X5_fill (c_X5_fill G _ hhd o6 hpo hpo99 (by omega)) aC rfl rfl (Nat.le_of_ble_eq_true rfl) hR ft_X8_letMeet_X5_fill ⟨rfl, rfl⟩ ?_
    rintro μ3 rfl
    refine z_aload_0 iX8_letMeet_56 ?_
    refine m_getR iX8_letMeet_57 g_8_12 s2 ?_
    refine m_getR iX8_letMeet_60 g_8_47 f0 ?_
    refine z_iload_2 iX8_letMeet_63 ?_
    refine z_iload_1 iX8_letMeet_64 ?_
    refine m_iastN iX8_letMeet_65 a1 g5 ?_
    refine rest _ _ ((((hF1.mono sub).mw _ _ (by simp)).mw _ _ (by simp)).mw _ _ (by simp)) ?_
    unfold buyH
    rw [if_pos hlt]
    refine ⟨fun k hk => ?_, fun k hk => ?_, fun k hk => ?_, ?_⟩
    · by_cases q : k = g
      · subst q
        rw [mw_same]; simp [hOw, updN]
      · rw [mw_ne _ _ (Or.inr q), mw_ne _ _ (Or.inl (by omega)), mw_ne _ _ (Or.inl (by omega))]
        simp only [hOw, updN, q, if_false]; exact hH2.1 k hk
    · rw [mw_ne _ _ (Or.inl (by omega))]
      by_cases q : k = hOw H g
      · subst q
        rw [mw_same]; simp [hPu, updN]
      · rw [mw_ne _ _ (Or.inr q)]
        by_cases q2 : k = f
        · subst q2
          rw [mw_same]
          simp [hPu, updN, q]
        · rw [mw_ne _ _ (Or.inr q2)]
          simp only [hPu, updN, q, q2, if_false]; exact hH2.2.1 k hk
    · rw [mw_ne _ _ (Or.inl (by omega)), mw_ne _ _ (Or.inl (by omega)), mw_ne _ _ (Or.inl (by omega))]; exact hH2.2.2.1 k hk
    · rw [mw_ne _ _ (Or.inl (by omega)), mw_ne _ _ (Or.inl (by omega)), mw_ne _ _ (Or.inl (by omega))]; exact hH2.2.2.2
def canT (R : Rl) (H : Hd) (f g : Nat) : Prop := f < rFc R ∧ g < rGc R ∧ hOw H g ≠ f
/-- Salle.canTrade -/
theorem c_X8_canTrade (G : qG) (l : Launch) {μ : Mem} {s f g : Nat} {R : Rl} {H : Hd} (hs : isSal s) (hR0 : RlOK R) (hH0 : HdOK R H) (hR1 : RollAt μ R) (hH1 : HoldAt μ (s + 1) R H) (hf : f < 1000) (hg : g < 1000) : CtrI G l M_X8_canTrade [.ref (qB G + s), .int (nI f), .int (nI g)] μ (fun r μ' => μ' = μ ∧ ((r = nI 1 ∧ canT R H f g) ∨ (r = nI 0 ∧ ¬ canT R H f g))) := by
  refine m_enterI [some (.ref (qB G + s)), some (.int (nI f)), some (.int (nI g))] (by decide +kernel) rfl (Nat.le_of_ble_eq_true rfl) (fun X hE hR => ?_)
  have hR : qR X = rm_X8_canTrade := hR
  have hE : EI G X _ (some .boolean) := hE
  show Zm G X cX8_canTrade RX8 _ 0 [some (.ref (qB G + s)), some (.int (nI f)), some (.int (nI g))] []
  obtain ⟨s0, s1, s2, s3, sC, ⟨f0, f1, f2, f3, a1, a2, a3, -⟩, -⟩ := id hs
  have h6 := hR0.1
  have h5 := hR0.2.1
  refine z_aload_0 iX8_canTrade_0 ?_
  refine m_getR iX8_canTrade_1 g_8_23 s0 ?_
  refine z_iload_1 iX8_canTrade_4 ?_
  refine m_callVi iX8_canTrade_5 l_8_89 f_X7_hasFencer (c_hasF G _ rfl hR1.1 (by omega) (by omega)) rfl rfl rfl (Nat.le_of_ble_eq_true rfl) hR ft_X8_canTrade_X7_hasFencer ⟨rfl, rfl⟩ ?_
  rintro r μ1 ⟨rfl, h | h⟩ <;> obtain ⟨rfl, h⟩ := h
  · refine z_if_eq iX8_canTrade_8 (fun q => ?_) (fun q => ?_)
    · exact absurd q nI10
    · refine z_aload_0 iX8_canTrade_11 ?_
      refine m_getR iX8_canTrade_12 g_8_23 s0 ?_
      refine z_iload_2 iX8_canTrade_15 ?_
      refine m_callVi iX8_canTrade_16 l_8_93 f_X7_hasGood (c_hasG G _ rfl hR1.2.1 (by omega) (by omega)) rfl rfl rfl (Nat.le_of_ble_eq_true rfl) hR ft_X8_canTrade_X7_hasGood ⟨rfl, rfl⟩ ?_
      rintro r μ1 ⟨rfl, h' | h'⟩ <;> obtain ⟨rfl, h'⟩ := h'
      · refine z_if_eq iX8_canTrade_19 (fun q => ?_) (fun q => ?_)
        · exact absurd q nI10
        · have ho := hH0.1 g h'
          refine z_aload_0 iX8_canTrade_22 ?_
          refine m_getR iX8_canTrade_23 g_8_12 s2 ?_
          refine m_getR iX8_canTrade_26 g_8_47 f0 ?_
          refine z_iload_2 iX8_canTrade_29 ?_
          refine m_ialdN iX8_canTrade_30 a1 (by omega) ?_
          refine z_top (hH1.1 g h') ?_
          refine z_iload_1 iX8_canTrade_31 ?_
          refine z_icmp_eqN iX8_canTrade_32 (by omega) (by omega) (fun q2 => ?_) (fun q2 => ?_)
          · refine z_iconst iX8_canTrade_39 kI_0 ?_
            exact m_zret hE iX8_canTrade_40 rfl ⟨rfl, Or.inr ⟨rfl, fun z => z.2.2 q2⟩⟩
          · refine z_iconst iX8_canTrade_35 kI_1 ?_
            refine z_goto iX8_canTrade_36 ?_
            exact m_zret hE iX8_canTrade_40 rfl ⟨rfl, Or.inl ⟨rfl, h, h', q2⟩⟩
      · refine z_if_eq iX8_canTrade_19 (fun q => ?_) (fun q => ?_)
        · refine z_iconst iX8_canTrade_39 kI_0 ?_
          exact m_zret hE iX8_canTrade_40 rfl ⟨rfl, Or.inr ⟨rfl, fun z => absurd z.2.1 (by omega)⟩⟩
        · exact absurd nI00 q
  · refine z_if_eq iX8_canTrade_8 (fun q => ?_) (fun q => ?_)
    · refine z_iconst iX8_canTrade_39 kI_0 ?_
      exact m_zret hE iX8_canTrade_40 rfl ⟨rfl, Or.inr ⟨rfl, fun z => absurd z.1 (by omega)⟩⟩
    · exact absurd nI00 q
def fillH (H : Hd) (f n : Nat) : Hd := (hOw H, updN (hPu H) f (min 99 (hPu H f + n)), hFe H, hDy H)
theorem fillOK {R : Rl} {H : Hd} {f n : Nat} (hR : RlOK R) (hH : HdOK R H) (hf : f < rFc R) : HdOK R (fillH H f n) := by
  obtain ⟨h1, h2, h4, h5⟩ := hH
  refine ⟨h1, fun j hj => ⟨?_, (h2 j hj).2⟩, fun j hj hj6 => ⟨?_, (h4 j hj hj6).2⟩, h5⟩
  · simp only [fillH, hPu, updN]
    split
    · exact Nat.min_le_left _ _
    · exact (h2 j hj).1
  · simp only [fillH, hPu, updN]
    rw [if_neg (by omega)]
    exact (h4 j hj hj6).1
theorem HoldAt.fill {μ : Mem} {hd f n : Nat} {R : Rl} {H : Hd} (h : HoldAt μ hd R H) : HoldAt (mw μ (hd + 2) f (nI (min 99 (hPu H f + n)))) hd R (fillH H f n) := by
  obtain ⟨h1, h2, h3, h4⟩ := h
  refine ⟨fun g hg => ?_, fun j hj => ?_, fun j hj => ?_, ?_⟩
  · rw [mw_ne _ _ (Or.inl (by omega))]; exact h1 g hg
  · by_cases q : j = f
    · subst q
      rw [mw_same]; simp [fillH, hPu, updN]
    · rw [mw_ne _ _ (Or.inr q)]; simp only [fillH, hPu, updN, q, if_false]; exact h2 j hj
  · rw [mw_ne _ _ (Or.inl (by omega))]; exact h3 j hj
  · rw [mw_ne _ _ (Or.inl (by omega))]; exact h4
/-- one beats another: more hits in a bout of both -/
def bt (R : Rl) (H : Hd) (i j : Nat) : Prop := bH2 (feOf R H i) (feOf R H j) < bH1 (feOf R H i) (feOf R H j)
/-- a told doing: can it be, and what is then -/
def doP (R : Rl) (H : Hd) (d a b : Nat) : Prop := (d = 1 ∧ canT R H a b ∧ hOw (meetH R H a b) b = a) ∨ (d = 2 ∧ a = 0 ∧ b < rFc R) ∨ (d = 3 ∧ a < rFc R ∧ 1 ≤ b) ∨ (d = 4 ∧ a < rFc R ∧ b < rFc R ∧ a ≠ b ∧ bt R H a b) ∨ (d = 5 ∧ a < rFc R ∧ b < rGc R ∧ hOw H b = a)
def doH (R : Rl) (H : Hd) (d a b : Nat) : Hd := if d = 1 ∧ a < rFc R ∧ b < rGc R ∧ hOw H b ≠ a then meetH R H a b else if d = 2 ∧ a = 0 ∧ b < rFc R then stepH R H b else if d = 3 ∧ a < rFc R ∧ 1 ≤ b then fillH H a b else H
end
