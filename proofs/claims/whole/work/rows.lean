section
-- ===== PART A: goes FIRST, ahead of the names: the tables' words, and 'selects' of the private methods out of them =====
/-- a private method of a class that the tables say can be made, by its rows of tables_1 -/
def lw_okq (q : MethodName × Nat) : Prop := (q.1.cls ≠ "java/lang/invoke/MethodHandle" ∧ q.1.cls ≠ "java/lang/invoke/VarHandle") ∧ Cond.instantiable q.1.cls q.2 ∈ tables_1 ∧ Cond.privateMethod q.1 ∈ tables_1 ∧ Cond.instanceMethod q.1 ∈ tables_1
theorem lw_p0 : lw_okq (⟨"PuddleClaims$Street", "kerbLoss", "()I"⟩, 11) := ⟨⟨by decide +kernel, by decide +kernel⟩, List.mem_of_getElem? (i := 26) (by decide +kernel), List.mem_of_getElem? (i := 272) (by decide +kernel), List.mem_of_getElem? (i := 273) (by decide +kernel)⟩
theorem lw_p1 : lw_okq (⟨"PuddleClaims$Street", "isFit", "(IIII)Z"⟩, 11) := ⟨⟨by decide +kernel, by decide +kernel⟩, List.mem_of_getElem? (i := 26) (by decide +kernel), List.mem_of_getElem? (i := 305) (by decide +kernel), List.mem_of_getElem? (i := 306) (by decide +kernel)⟩
theorem lw_p2 : lw_okq (⟨"PuddleClaims$Tape", "parsePuddles", "(LPuddleClaims$Street;)I"⟩, 3) := ⟨⟨by decide +kernel, by decide +kernel⟩, List.mem_of_getElem? (i := 103) (by decide +kernel), List.mem_of_getElem? (i := 329) (by decide +kernel), List.mem_of_getElem? (i := 330) (by decide +kernel)⟩
theorem lw_p3 : lw_okq (⟨"PuddleClaims$Tape", "take", "(C)Z"⟩, 3) := ⟨⟨by decide +kernel, by decide +kernel⟩, List.mem_of_getElem? (i := 103) (by decide +kernel), List.mem_of_getElem? (i := 333) (by decide +kernel), List.mem_of_getElem? (i := 334) (by decide +kernel)⟩
theorem lw_p4 : lw_okq (⟨"PuddleClaims$Tape", "skipBlanks", "()V"⟩, 3) := ⟨⟨by decide +kernel, by decide +kernel⟩, List.mem_of_getElem? (i := 103) (by decide +kernel), List.mem_of_getElem? (i := 337) (by decide +kernel), List.mem_of_getElem? (i := 338) (by decide +kernel)⟩
theorem lw_p5 : lw_okq (⟨"PuddleClaims$Tape", "parseKind", "()I"⟩, 3) := ⟨⟨by decide +kernel, by decide +kernel⟩, List.mem_of_getElem? (i := 103) (by decide +kernel), List.mem_of_getElem? (i := 341) (by decide +kernel), List.mem_of_getElem? (i := 342) (by decide +kernel)⟩
theorem lw_p6 : lw_okq (⟨"PuddleClaims$Tape", "parseSight", "()I"⟩, 3) := ⟨⟨by decide +kernel, by decide +kernel⟩, List.mem_of_getElem? (i := 103) (by decide +kernel), List.mem_of_getElem? (i := 435) (by decide +kernel), List.mem_of_getElem? (i := 436) (by decide +kernel)⟩
theorem lw_p7 : lw_okq (⟨"PuddleClaims$Tape", "digitHere", "()I"⟩, 3) := ⟨⟨by decide +kernel, by decide +kernel⟩, List.mem_of_getElem? (i := 103) (by decide +kernel), List.mem_of_getElem? (i := 439) (by decide +kernel), List.mem_of_getElem? (i := 440) (by decide +kernel)⟩
theorem lw_p8 : lw_okq (⟨"PuddleClaims$Tape", "parseNumber", "(II)I"⟩, 3) := ⟨⟨by decide +kernel, by decide +kernel⟩, List.mem_of_getElem? (i := 103) (by decide +kernel), List.mem_of_getElem? (i := 443) (by decide +kernel), List.mem_of_getElem? (i := 444) (by decide +kernel)⟩
theorem lw_p9 : lw_okq (⟨"PuddleClaims$Tape", "parsePeople", "(LPuddleClaims$Street;)I"⟩, 3) := ⟨⟨by decide +kernel, by decide +kernel⟩, List.mem_of_getElem? (i := 103) (by decide +kernel), List.mem_of_getElem? (i := 448) (by decide +kernel), List.mem_of_getElem? (i := 449) (by decide +kernel)⟩
theorem lw_p10 : lw_okq (⟨"PuddleClaims", "passHours", "(IZ)I"⟩, 10) := ⟨⟨by decide +kernel, by decide +kernel⟩, List.mem_of_getElem? (i := 18) (by decide +kernel), List.mem_of_getElem? (i := 478) (by decide +kernel), List.mem_of_getElem? (i := 479) (by decide +kernel)⟩
theorem lw_p11 : lw_okq (⟨"PuddleClaims$Street", "letClaim", "()V"⟩, 11) := ⟨⟨by decide +kernel, by decide +kernel⟩, List.mem_of_getElem? (i := 26) (by decide +kernel), List.mem_of_getElem? (i := 503) (by decide +kernel), List.mem_of_getElem? (i := 504) (by decide +kernel)⟩
theorem lw_p12 : lw_okq (⟨"PuddleClaims$Street", "isAnyoneToCome", "()Z"⟩, 11) := ⟨⟨by decide +kernel, by decide +kernel⟩, List.mem_of_getElem? (i := 26) (by decide +kernel), List.mem_of_getElem? (i := 570) (by decide +kernel), List.mem_of_getElem? (i := 571) (by decide +kernel)⟩
theorem lw_p13 : lw_okq (⟨"PuddleClaims$Matching", "findsOne", "(II)Z"⟩, 3) := ⟨⟨by decide +kernel, by decide +kernel⟩, List.mem_of_getElem? (i := 139) (by decide +kernel), List.mem_of_getElem? (i := 598) (by decide +kernel), List.mem_of_getElem? (i := 599) (by decide +kernel)⟩
theorem lw_p14 : lw_okq (⟨"PuddleClaims$Orders", "choose", "(LPuddleClaims$Street;IIII)V"⟩, 6) := ⟨⟨by decide +kernel, by decide +kernel⟩, List.mem_of_getElem? (i := 155) (by decide +kernel), List.mem_of_getElem? (i := 619) (by decide +kernel), List.mem_of_getElem? (i := 620) (by decide +kernel)⟩
theorem lw_p15 : lw_okq (⟨"PuddleClaims", "weightOf", "(II)I"⟩, 10) := ⟨⟨by decide +kernel, by decide +kernel⟩, List.mem_of_getElem? (i := 18) (by decide +kernel), List.mem_of_getElem? (i := 645) (by decide +kernel), List.mem_of_getElem? (i := 646) (by decide +kernel)⟩
def lw_privs_1 : List (MethodName × Nat) := [(⟨"PuddleClaims$Street", "kerbLoss", "()I"⟩, 11), (⟨"PuddleClaims$Street", "isFit", "(IIII)Z"⟩, 11), (⟨"PuddleClaims$Tape", "parsePuddles", "(LPuddleClaims$Street;)I"⟩, 3), (⟨"PuddleClaims$Tape", "take", "(C)Z"⟩, 3), (⟨"PuddleClaims$Tape", "skipBlanks", "()V"⟩, 3), (⟨"PuddleClaims$Tape", "parseKind", "()I"⟩, 3), (⟨"PuddleClaims$Tape", "parseSight", "()I"⟩, 3), (⟨"PuddleClaims$Tape", "digitHere", "()I"⟩, 3), (⟨"PuddleClaims$Tape", "parseNumber", "(II)I"⟩, 3), (⟨"PuddleClaims$Tape", "parsePeople", "(LPuddleClaims$Street;)I"⟩, 3), (⟨"PuddleClaims", "passHours", "(IZ)I"⟩, 10), (⟨"PuddleClaims$Street", "letClaim", "()V"⟩, 11), (⟨"PuddleClaims$Street", "isAnyoneToCome", "()Z"⟩, 11), (⟨"PuddleClaims$Matching", "findsOne", "(II)Z"⟩, 3), (⟨"PuddleClaims$Orders", "choose", "(LPuddleClaims$Street;IIII)V"⟩, 6), (⟨"PuddleClaims", "weightOf", "(II)I"⟩, 10)]
theorem lw_r1 : ∀ q ∈ lw_privs_1, lw_okq q := List.forall_mem_cons.mpr ⟨lw_p0, List.forall_mem_cons.mpr ⟨lw_p1, List.forall_mem_cons.mpr ⟨lw_p2, List.forall_mem_cons.mpr ⟨lw_p3, List.forall_mem_cons.mpr ⟨lw_p4, List.forall_mem_cons.mpr ⟨lw_p5, List.forall_mem_cons.mpr ⟨lw_p6, List.forall_mem_cons.mpr ⟨lw_p7, List.forall_mem_cons.mpr ⟨lw_p8, List.forall_mem_cons.mpr ⟨lw_p9, List.forall_mem_cons.mpr ⟨lw_p10, List.forall_mem_cons.mpr ⟨lw_p11, List.forall_mem_cons.mpr ⟨lw_p12, List.forall_mem_cons.mpr ⟨lw_p13, List.forall_mem_cons.mpr ⟨lw_p14, List.forall_mem_cons.mpr ⟨lw_p15, fun _ h => absurd h List.not_mem_nil⟩⟩⟩⟩⟩⟩⟩⟩⟩⟩⟩⟩⟩⟩⟩⟩
theorem lw_p16 : lw_okq (⟨"PuddleClaims", "hasClaimedBehindCarts", "(II)Z"⟩, 10) := ⟨⟨by decide +kernel, by decide +kernel⟩, List.mem_of_getElem? (i := 18) (by decide +kernel), List.mem_of_getElem? (i := 649) (by decide +kernel), List.mem_of_getElem? (i := 650) (by decide +kernel)⟩
theorem lw_p17 : lw_okq (⟨"PuddleClaims", "weightOfAll", "()I"⟩, 10) := ⟨⟨by decide +kernel, by decide +kernel⟩, List.mem_of_getElem? (i := 18) (by decide +kernel), List.mem_of_getElem? (i := 653) (by decide +kernel), List.mem_of_getElem? (i := 654) (by decide +kernel)⟩
theorem lw_p18 : lw_okq (⟨"PuddleClaims", "kindsDipped", "(IIII)I"⟩, 10) := ⟨⟨by decide +kernel, by decide +kernel⟩, List.mem_of_getElem? (i := 18) (by decide +kernel), List.mem_of_getElem? (i := 694) (by decide +kernel), List.mem_of_getElem? (i := 695) (by decide +kernel)⟩
theorem lw_p19 : lw_okq (⟨"PuddleClaims", "draftAgrees", "(IIII)Z"⟩, 10) := ⟨⟨by decide +kernel, by decide +kernel⟩, List.mem_of_getElem? (i := 18) (by decide +kernel), List.mem_of_getElem? (i := 698) (by decide +kernel), List.mem_of_getElem? (i := 699) (by decide +kernel)⟩
theorem lw_p20 : lw_okq (⟨"PuddleClaims", "depthsDipped", "(IIIIZ)I"⟩, 10) := ⟨⟨by decide +kernel, by decide +kernel⟩, List.mem_of_getElem? (i := 18) (by decide +kernel), List.mem_of_getElem? (i := 706) (by decide +kernel), List.mem_of_getElem? (i := 707) (by decide +kernel)⟩
theorem lw_p21 : lw_okq (⟨"PuddleClaimsModel", "puddleComes", "(III)V"⟩, 22) := ⟨⟨by decide +kernel, by decide +kernel⟩, List.mem_of_getElem? (i := 752) (by decide +kernel), List.mem_of_getElem? (i := 835) (by decide +kernel), List.mem_of_getElem? (i := 836) (by decide +kernel)⟩
theorem lw_p22 : lw_okq (⟨"PuddleClaimsModel", "personComes", "(III)V"⟩, 22) := ⟨⟨by decide +kernel, by decide +kernel⟩, List.mem_of_getElem? (i := 752) (by decide +kernel), List.mem_of_getElem? (i := 845) (by decide +kernel), List.mem_of_getElem? (i := 846) (by decide +kernel)⟩
theorem lw_p23 : lw_okq (⟨"PuddleClaimsModel", "tells", "(III)V"⟩, 22) := ⟨⟨by decide +kernel, by decide +kernel⟩, List.mem_of_getElem? (i := 752) (by decide +kernel), List.mem_of_getElem? (i := 849) (by decide +kernel), List.mem_of_getElem? (i := 850) (by decide +kernel)⟩
theorem lw_p24 : lw_okq (⟨"PuddleClaimsModel", "isPuddle", "(I)Z"⟩, 22) := ⟨⟨by decide +kernel, by decide +kernel⟩, List.mem_of_getElem? (i := 752) (by decide +kernel), List.mem_of_getElem? (i := 857) (by decide +kernel), List.mem_of_getElem? (i := 858) (by decide +kernel)⟩
theorem lw_p25 : lw_okq (⟨"PuddleClaimsModel", "ofPuddle", "(II)I"⟩, 22) := ⟨⟨by decide +kernel, by decide +kernel⟩, List.mem_of_getElem? (i := 752) (by decide +kernel), List.mem_of_getElem? (i := 861) (by decide +kernel), List.mem_of_getElem? (i := 862) (by decide +kernel)⟩
theorem lw_p26 : lw_okq (⟨"PuddleClaimsModel", "whoClaimed", "(I)I"⟩, 22) := ⟨⟨by decide +kernel, by decide +kernel⟩, List.mem_of_getElem? (i := 752) (by decide +kernel), List.mem_of_getElem? (i := 869) (by decide +kernel), List.mem_of_getElem? (i := 870) (by decide +kernel)⟩
theorem lw_p27 : lw_okq (⟨"PuddleClaimsModel", "claimed", "(I)I"⟩, 22) := ⟨⟨by decide +kernel, by decide +kernel⟩, List.mem_of_getElem? (i := 752) (by decide +kernel), List.mem_of_getElem? (i := 873) (by decide +kernel), List.mem_of_getElem? (i := 874) (by decide +kernel)⟩
theorem lw_p28 : lw_okq (⟨"PuddleClaimsModel", "ofPerson", "(II)I"⟩, 22) := ⟨⟨by decide +kernel, by decide +kernel⟩, List.mem_of_getElem? (i := 752) (by decide +kernel), List.mem_of_getElem? (i := 877) (by decide +kernel), List.mem_of_getElem? (i := 878) (by decide +kernel)⟩
theorem lw_p29 : lw_okq (⟨"PuddleClaimsModel", "less", "(I)I"⟩, 22) := ⟨⟨by decide +kernel, by decide +kernel⟩, List.mem_of_getElem? (i := 752) (by decide +kernel), List.mem_of_getElem? (i := 881) (by decide +kernel), List.mem_of_getElem? (i := 882) (by decide +kernel)⟩
theorem lw_p30 : lw_okq (⟨"PuddleClaimsModel", "deep", "(I)I"⟩, 22) := ⟨⟨by decide +kernel, by decide +kernel⟩, List.mem_of_getElem? (i := 752) (by decide +kernel), List.mem_of_getElem? (i := 885) (by decide +kernel), List.mem_of_getElem? (i := 886) (by decide +kernel)⟩
theorem lw_p31 : lw_okq (⟨"PuddleClaimsModel", "isDry", "(I)Z"⟩, 22) := ⟨⟨by decide +kernel, by decide +kernel⟩, List.mem_of_getElem? (i := 752) (by decide +kernel), List.mem_of_getElem? (i := 889) (by decide +kernel), List.mem_of_getElem? (i := 890) (by decide +kernel)⟩
def lw_privs_2 : List (MethodName × Nat) := [(⟨"PuddleClaims", "hasClaimedBehindCarts", "(II)Z"⟩, 10), (⟨"PuddleClaims", "weightOfAll", "()I"⟩, 10), (⟨"PuddleClaims", "kindsDipped", "(IIII)I"⟩, 10), (⟨"PuddleClaims", "draftAgrees", "(IIII)Z"⟩, 10), (⟨"PuddleClaims", "depthsDipped", "(IIIIZ)I"⟩, 10), (⟨"PuddleClaimsModel", "puddleComes", "(III)V"⟩, 22), (⟨"PuddleClaimsModel", "personComes", "(III)V"⟩, 22), (⟨"PuddleClaimsModel", "tells", "(III)V"⟩, 22), (⟨"PuddleClaimsModel", "isPuddle", "(I)Z"⟩, 22), (⟨"PuddleClaimsModel", "ofPuddle", "(II)I"⟩, 22), (⟨"PuddleClaimsModel", "whoClaimed", "(I)I"⟩, 22), (⟨"PuddleClaimsModel", "claimed", "(I)I"⟩, 22), (⟨"PuddleClaimsModel", "ofPerson", "(II)I"⟩, 22), (⟨"PuddleClaimsModel", "less", "(I)I"⟩, 22), (⟨"PuddleClaimsModel", "deep", "(I)I"⟩, 22), (⟨"PuddleClaimsModel", "isDry", "(I)Z"⟩, 22)]
theorem lw_r2 : ∀ q ∈ lw_privs_2, lw_okq q := List.forall_mem_cons.mpr ⟨lw_p16, List.forall_mem_cons.mpr ⟨lw_p17, List.forall_mem_cons.mpr ⟨lw_p18, List.forall_mem_cons.mpr ⟨lw_p19, List.forall_mem_cons.mpr ⟨lw_p20, List.forall_mem_cons.mpr ⟨lw_p21, List.forall_mem_cons.mpr ⟨lw_p22, List.forall_mem_cons.mpr ⟨lw_p23, List.forall_mem_cons.mpr ⟨lw_p24, List.forall_mem_cons.mpr ⟨lw_p25, List.forall_mem_cons.mpr ⟨lw_p26, List.forall_mem_cons.mpr ⟨lw_p27, List.forall_mem_cons.mpr ⟨lw_p28, List.forall_mem_cons.mpr ⟨lw_p29, List.forall_mem_cons.mpr ⟨lw_p30, List.forall_mem_cons.mpr ⟨lw_p31, fun _ h => absurd h List.not_mem_nil⟩⟩⟩⟩⟩⟩⟩⟩⟩⟩⟩⟩⟩⟩⟩⟩
theorem lw_p32 : lw_okq (⟨"PuddleClaimsModel", "isPerson", "(I)Z"⟩, 22) := ⟨⟨by decide +kernel, by decide +kernel⟩, List.mem_of_getElem? (i := 752) (by decide +kernel), List.mem_of_getElem? (i := 897) (by decide +kernel), List.mem_of_getElem? (i := 898) (by decide +kernel)⟩
theorem lw_p33 : lw_okq (⟨"PuddleClaimsModel", "fitsFor", "(I)I"⟩, 22) := ⟨⟨by decide +kernel, by decide +kernel⟩, List.mem_of_getElem? (i := 752) (by decide +kernel), List.mem_of_getElem? (i := 901) (by decide +kernel), List.mem_of_getElem? (i := 902) (by decide +kernel)⟩
theorem lw_p34 : lw_okq (⟨"PuddleClaimsModel", "fits", "(II)Z"⟩, 22) := ⟨⟨by decide +kernel, by decide +kernel⟩, List.mem_of_getElem? (i := 752) (by decide +kernel), List.mem_of_getElem? (i := 905) (by decide +kernel), List.mem_of_getElem? (i := 906) (by decide +kernel)⟩
theorem lw_p35 : lw_okq (⟨"PuddleClaimsModel", "deepAll", "()I"⟩, 22) := ⟨⟨by decide +kernel, by decide +kernel⟩, List.mem_of_getElem? (i := 752) (by decide +kernel), List.mem_of_getElem? (i := 913) (by decide +kernel), List.mem_of_getElem? (i := 914) (by decide +kernel)⟩
theorem lw_p36 : lw_okq (⟨"PuddleClaimsModel", "dryOnes", "()I"⟩, 22) := ⟨⟨by decide +kernel, by decide +kernel⟩, List.mem_of_getElem? (i := 752) (by decide +kernel), List.mem_of_getElem? (i := 917) (by decide +kernel), List.mem_of_getElem? (i := 918) (by decide +kernel)⟩
theorem lw_p37 : lw_okq (⟨"PuddleClaimsModel", "servedNow", "()I"⟩, 22) := ⟨⟨by decide +kernel, by decide +kernel⟩, List.mem_of_getElem? (i := 752) (by decide +kernel), List.mem_of_getElem? (i := 921) (by decide +kernel), List.mem_of_getElem? (i := 922) (by decide +kernel)⟩
theorem lw_p38 : lw_okq (⟨"PuddleClaimsModel", "claimedOnes", "()I"⟩, 22) := ⟨⟨by decide +kernel, by decide +kernel⟩, List.mem_of_getElem? (i := 752) (by decide +kernel), List.mem_of_getElem? (i := 925) (by decide +kernel), List.mem_of_getElem? (i := 926) (by decide +kernel)⟩
theorem lw_p39 : lw_okq (⟨"PuddleClaimsModel", "puddlesRead", "()I"⟩, 22) := ⟨⟨by decide +kernel, by decide +kernel⟩, List.mem_of_getElem? (i := 752) (by decide +kernel), List.mem_of_getElem? (i := 939) (by decide +kernel), List.mem_of_getElem? (i := 940) (by decide +kernel)⟩
theorem lw_p40 : lw_okq (⟨"PuddleClaimsModel", "here", "()I"⟩, 22) := ⟨⟨by decide +kernel, by decide +kernel⟩, List.mem_of_getElem? (i := 752) (by decide +kernel), List.mem_of_getElem? (i := 943) (by decide +kernel), List.mem_of_getElem? (i := 944) (by decide +kernel)⟩
theorem lw_p41 : lw_okq (⟨"PuddleClaimsModel", "must", "(Z)V"⟩, 22) := ⟨⟨by decide +kernel, by decide +kernel⟩, List.mem_of_getElem? (i := 752) (by decide +kernel), List.mem_of_getElem? (i := 947) (by decide +kernel), List.mem_of_getElem? (i := 948) (by decide +kernel)⟩
theorem lw_p42 : lw_okq (⟨"PuddleClaimsModel", "digit", "(I)I"⟩, 22) := ⟨⟨by decide +kernel, by decide +kernel⟩, List.mem_of_getElem? (i := 752) (by decide +kernel), List.mem_of_getElem? (i := 951) (by decide +kernel), List.mem_of_getElem? (i := 952) (by decide +kernel)⟩
theorem lw_p43 : lw_okq (⟨"PuddleClaimsModel", "number", "(II)I"⟩, 22) := ⟨⟨by decide +kernel, by decide +kernel⟩, List.mem_of_getElem? (i := 752) (by decide +kernel), List.mem_of_getElem? (i := 955) (by decide +kernel), List.mem_of_getElem? (i := 956) (by decide +kernel)⟩
theorem lw_p44 : lw_okq (⟨"PuddleClaimsModel", "peopleRead", "()I"⟩, 22) := ⟨⟨by decide +kernel, by decide +kernel⟩, List.mem_of_getElem? (i := 752) (by decide +kernel), List.mem_of_getElem? (i := 961) (by decide +kernel), List.mem_of_getElem? (i := 962) (by decide +kernel)⟩
theorem lw_p45 : lw_okq (⟨"PuddleClaimsModel", "numberBehind", "(IIII)I"⟩, 22) := ⟨⟨by decide +kernel, by decide +kernel⟩, List.mem_of_getElem? (i := 752) (by decide +kernel), List.mem_of_getElem? (i := 965) (by decide +kernel), List.mem_of_getElem? (i := 966) (by decide +kernel)⟩
theorem lw_p46 : lw_okq (⟨"PuddleClaimsModel", "notes", "()V"⟩, 22) := ⟨⟨by decide +kernel, by decide +kernel⟩, List.mem_of_getElem? (i := 752) (by decide +kernel), List.mem_of_getElem? (i := 974) (by decide +kernel), List.mem_of_getElem? (i := 975) (by decide +kernel)⟩
theorem lw_p47 : lw_okq (⟨"PuddleClaimsModel", "goesBy", "()V"⟩, 22) := ⟨⟨by decide +kernel, by decide +kernel⟩, List.mem_of_getElem? (i := 752) (by decide +kernel), List.mem_of_getElem? (i := 978) (by decide +kernel), List.mem_of_getElem? (i := 979) (by decide +kernel)⟩
def lw_privs_3 : List (MethodName × Nat) := [(⟨"PuddleClaimsModel", "isPerson", "(I)Z"⟩, 22), (⟨"PuddleClaimsModel", "fitsFor", "(I)I"⟩, 22), (⟨"PuddleClaimsModel", "fits", "(II)Z"⟩, 22), (⟨"PuddleClaimsModel", "deepAll", "()I"⟩, 22), (⟨"PuddleClaimsModel", "dryOnes", "()I"⟩, 22), (⟨"PuddleClaimsModel", "servedNow", "()I"⟩, 22), (⟨"PuddleClaimsModel", "claimedOnes", "()I"⟩, 22), (⟨"PuddleClaimsModel", "puddlesRead", "()I"⟩, 22), (⟨"PuddleClaimsModel", "here", "()I"⟩, 22), (⟨"PuddleClaimsModel", "must", "(Z)V"⟩, 22), (⟨"PuddleClaimsModel", "digit", "(I)I"⟩, 22), (⟨"PuddleClaimsModel", "number", "(II)I"⟩, 22), (⟨"PuddleClaimsModel", "peopleRead", "()I"⟩, 22), (⟨"PuddleClaimsModel", "numberBehind", "(IIII)I"⟩, 22), (⟨"PuddleClaimsModel", "notes", "()V"⟩, 22), (⟨"PuddleClaimsModel", "goesBy", "()V"⟩, 22)]
theorem lw_r3 : ∀ q ∈ lw_privs_3, lw_okq q := List.forall_mem_cons.mpr ⟨lw_p32, List.forall_mem_cons.mpr ⟨lw_p33, List.forall_mem_cons.mpr ⟨lw_p34, List.forall_mem_cons.mpr ⟨lw_p35, List.forall_mem_cons.mpr ⟨lw_p36, List.forall_mem_cons.mpr ⟨lw_p37, List.forall_mem_cons.mpr ⟨lw_p38, List.forall_mem_cons.mpr ⟨lw_p39, List.forall_mem_cons.mpr ⟨lw_p40, List.forall_mem_cons.mpr ⟨lw_p41, List.forall_mem_cons.mpr ⟨lw_p42, List.forall_mem_cons.mpr ⟨lw_p43, List.forall_mem_cons.mpr ⟨lw_p44, List.forall_mem_cons.mpr ⟨lw_p45, List.forall_mem_cons.mpr ⟨lw_p46, List.forall_mem_cons.mpr ⟨lw_p47, fun _ h => absurd h List.not_mem_nil⟩⟩⟩⟩⟩⟩⟩⟩⟩⟩⟩⟩⟩⟩⟩⟩
theorem lw_p48 : lw_okq (⟨"PuddleClaimsModel", "looks", "(I)V"⟩, 22) := ⟨⟨by decide +kernel, by decide +kernel⟩, List.mem_of_getElem? (i := 752) (by decide +kernel), List.mem_of_getElem? (i := 982) (by decide +kernel), List.mem_of_getElem? (i := 983) (by decide +kernel)⟩
theorem lw_p49 : lw_okq (⟨"PuddleClaimsModel", "deeps", "(II)V"⟩, 22) := ⟨⟨by decide +kernel, by decide +kernel⟩, List.mem_of_getElem? (i := 752) (by decide +kernel), List.mem_of_getElem? (i := 986) (by decide +kernel), List.mem_of_getElem? (i := 987) (by decide +kernel)⟩
theorem lw_p50 : lw_okq (⟨"PuddleClaimsModel", "rains", "(I)V"⟩, 22) := ⟨⟨by decide +kernel, by decide +kernel⟩, List.mem_of_getElem? (i := 752) (by decide +kernel), List.mem_of_getElem? (i := 994) (by decide +kernel), List.mem_of_getElem? (i := 995) (by decide +kernel)⟩
theorem lw_p51 : lw_okq (⟨"PuddleClaimsModel", "asides", "()V"⟩, 22) := ⟨⟨by decide +kernel, by decide +kernel⟩, List.mem_of_getElem? (i := 752) (by decide +kernel), List.mem_of_getElem? (i := 1030) (by decide +kernel), List.mem_of_getElem? (i := 1031) (by decide +kernel)⟩
theorem lw_p52 : lw_okq (⟨"PuddleClaimsModel", "goesOn", "(I)V"⟩, 22) := ⟨⟨by decide +kernel, by decide +kernel⟩, List.mem_of_getElem? (i := 752) (by decide +kernel), List.mem_of_getElem? (i := 1034) (by decide +kernel), List.mem_of_getElem? (i := 1035) (by decide +kernel)⟩
theorem lw_p53 : lw_okq (⟨"PuddleClaimsModel", "backs", "()V"⟩, 22) := ⟨⟨by decide +kernel, by decide +kernel⟩, List.mem_of_getElem? (i := 752) (by decide +kernel), List.mem_of_getElem? (i := 1038) (by decide +kernel), List.mem_of_getElem? (i := 1039) (by decide +kernel)⟩
theorem lw_p54 : lw_okq (⟨"PuddleClaimsModel", "isOrder", "(II)Z"⟩, 22) := ⟨⟨by decide +kernel, by decide +kernel⟩, List.mem_of_getElem? (i := 752) (by decide +kernel), List.mem_of_getElem? (i := 1070) (by decide +kernel), List.mem_of_getElem? (i := 1071) (by decide +kernel)⟩
theorem lw_p55 : lw_okq (⟨"PuddleClaimsModel", "comesBy", "(I)V"⟩, 22) := ⟨⟨by decide +kernel, by decide +kernel⟩, List.mem_of_getElem? (i := 752) (by decide +kernel), List.mem_of_getElem? (i := 1074) (by decide +kernel), List.mem_of_getElem? (i := 1075) (by decide +kernel)⟩
theorem lw_p56 : lw_okq (⟨"PuddleClaimsModel", "why", "(IIII)I"⟩, 22) := ⟨⟨by decide +kernel, by decide +kernel⟩, List.mem_of_getElem? (i := 752) (by decide +kernel), List.mem_of_getElem? (i := 1119) (by decide +kernel), List.mem_of_getElem? (i := 1120) (by decide +kernel)⟩
theorem lw_p57 : lw_okq (⟨"PuddleClaimsModel", "isSo", "(III)Z"⟩, 22) := ⟨⟨by decide +kernel, by decide +kernel⟩, List.mem_of_getElem? (i := 752) (by decide +kernel), List.mem_of_getElem? (i := 1123) (by decide +kernel), List.mem_of_getElem? (i := 1124) (by decide +kernel)⟩
def lw_privs_4 : List (MethodName × Nat) := [(⟨"PuddleClaimsModel", "looks", "(I)V"⟩, 22), (⟨"PuddleClaimsModel", "deeps", "(II)V"⟩, 22), (⟨"PuddleClaimsModel", "rains", "(I)V"⟩, 22), (⟨"PuddleClaimsModel", "asides", "()V"⟩, 22), (⟨"PuddleClaimsModel", "goesOn", "(I)V"⟩, 22), (⟨"PuddleClaimsModel", "backs", "()V"⟩, 22), (⟨"PuddleClaimsModel", "isOrder", "(II)Z"⟩, 22), (⟨"PuddleClaimsModel", "comesBy", "(I)V"⟩, 22), (⟨"PuddleClaimsModel", "why", "(IIII)I"⟩, 22), (⟨"PuddleClaimsModel", "isSo", "(III)Z"⟩, 22)]
theorem lw_r4 : ∀ q ∈ lw_privs_4, lw_okq q := List.forall_mem_cons.mpr ⟨lw_p48, List.forall_mem_cons.mpr ⟨lw_p49, List.forall_mem_cons.mpr ⟨lw_p50, List.forall_mem_cons.mpr ⟨lw_p51, List.forall_mem_cons.mpr ⟨lw_p52, List.forall_mem_cons.mpr ⟨lw_p53, List.forall_mem_cons.mpr ⟨lw_p54, List.forall_mem_cons.mpr ⟨lw_p55, List.forall_mem_cons.mpr ⟨lw_p56, List.forall_mem_cons.mpr ⟨lw_p57, fun _ h => absurd h List.not_mem_nil⟩⟩⟩⟩⟩⟩⟩⟩⟩⟩
def lw_privs : List (MethodName × Nat) := lw_privs_1 ++ (lw_privs_2 ++ (lw_privs_3 ++ (lw_privs_4)))
def lw_tbl : List Cond := k2_sels lw_privs ++ tables_1
theorem lw_privs_ok : ∀ q ∈ lw_privs, lw_okq q := by
  show ∀ q ∈ lw_privs_1 ++ (lw_privs_2 ++ (lw_privs_3 ++ (lw_privs_4))), lw_okq q
  exact List.forall_mem_append.mpr ⟨lw_r1, List.forall_mem_append.mpr ⟨lw_r2, List.forall_mem_append.mpr ⟨lw_r3, lw_r4⟩⟩⟩
end
section
def RX0 : String := "PuddleClaims$History"
def TX0 : u_T := fun k => match k with
  | 0 => ("PuddleClaims$History", "ring", "[I", true)
  | 1 => ("PuddleClaims$History", "next", "I", false)
  | _ => ("PuddleClaims$History", "known", "I", false)
def tyX0 : Nat → FieldType := fun k => match k with
  | 0 => .array .int
  | 1 => .int
  | _ => .int
abbrev wsX00 : List Cond := u_ws RX0 TX0 3
theorem nmX0 : ∀ a, a < 3 → ∀ b, b < 3 → a ≠ b → (TX0 a).2.1 ≠ (TX0 b).2.1 := by decide +kernel
theorem tyX0_ok : ∀ k, k < 3 → parseFieldDescriptor (TX0 k).2.2.1 = some (tyX0 k) := by decide +kernel
abbrev cX0_init : ByteArray := prog_2_method_1_code
def yX0_init : MethodName := ⟨RX0, "<init>", "()V"⟩
abbrev cX0_remember : ByteArray := prog_2_method_2_code
def yX0_remember : MethodName := ⟨RX0, "remember", "(LPuddleClaims$Street;)V"⟩
abbrev cX0_recall : ByteArray := prog_2_method_3_code
def yX0_recall : MethodName := ⟨RX0, "recall", "(LPuddleClaims$Street;)Z"⟩
abbrev cX0_forget : ByteArray := prog_2_method_4_code
def yX0_forget : MethodName := ⟨RX0, "forget", "()V"⟩
abbrev cX0_copyFrom : ByteArray := prog_2_method_5_code
def yX0_copyFrom : MethodName := ⟨RX0, "copyFrom", "(LPuddleClaims$History;)V"⟩
def RX1 : String := "PuddleClaims$Matching"
def TX1 : u_T := fun k => match k with
  | 0 => ("PuddleClaims$Matching", "fits", "[I", true)
  | 1 => ("PuddleClaims$Matching", "holder", "[I", true)
  | _ => ("PuddleClaims$Matching", "tried", "I", false)
def tyX1 : Nat → FieldType := fun k => match k with
  | 0 => .array .int
  | 1 => .array .int
  | _ => .int
abbrev wsX10 : List Cond := u_ws RX1 TX1 3
theorem nmX1 : ∀ a, a < 3 → ∀ b, b < 3 → a ≠ b → (TX1 a).2.1 ≠ (TX1 b).2.1 := by decide +kernel
theorem tyX1_ok : ∀ k, k < 3 → parseFieldDescriptor (TX1 k).2.2.1 = some (tyX1 k) := by decide +kernel
abbrev cX1_init : ByteArray := prog_3_method_1_code
def yX1_init : MethodName := ⟨RX1, "<init>", "()V"⟩
abbrev cX1_greatest : ByteArray := prog_3_method_2_code
def yX1_greatest : MethodName := ⟨RX1, "greatest", "(LPuddleClaims$Street;)I"⟩
abbrev cX1_findsOne : ByteArray := prog_3_method_3_code
def yX1_findsOne : MethodName := ⟨RX1, "findsOne", "(II)Z"⟩
def RX2 : String := "PuddleClaims$Orders"
def TX2 : u_T := fun k => match k with
  | 0 => ("PuddleClaims$Orders", "depths", "[I", true)
  | 1 => ("PuddleClaims$Orders", "chosen", "[I", true)
  | 2 => ("PuddleClaims$Orders", "best", "[I", true)
  | 3 => ("PuddleClaims$Orders", "size", "I", false)
  | 4 => ("PuddleClaims$Orders", "hoursLeft", "I", false)
  | _ => ("PuddleClaims$Orders", "most", "I", false)
def tyX2 : Nat → FieldType := fun k => match k with
  | 0 => .array .int
  | 1 => .array .int
  | 2 => .array .int
  | 3 => .int
  | 4 => .int
  | _ => .int
abbrev wsX20 : List Cond := u_ws RX2 TX2 6
theorem nmX2 : ∀ a, a < 6 → ∀ b, b < 6 → a ≠ b → (TX2 a).2.1 ≠ (TX2 b).2.1 := by decide +kernel
theorem tyX2_ok : ∀ k, k < 6 → parseFieldDescriptor (TX2 k).2.2.1 = some (tyX2 k) := by decide +kernel
abbrev cX2_init : ByteArray := prog_4_method_1_code
def yX2_init : MethodName := ⟨RX2, "<init>", "()V"⟩
abbrev cX2_search : ByteArray := prog_4_method_2_code
def yX2_search : MethodName := ⟨RX2, "search", "(LPuddleClaims$Street;I)V"⟩
abbrev cX2_nth : ByteArray := prog_4_method_3_code
def yX2_nth : MethodName := ⟨RX2, "nth", "(I)I"⟩
abbrev cX2_choose : ByteArray := prog_4_method_4_code
def yX2_choose : MethodName := ⟨RX2, "choose", "(LPuddleClaims$Street;IIII)V"⟩
def RX3 : String := "PuddleClaims$Sheets"
def TX3 : u_T := fun k => match k with
  | 0 => ("PuddleClaims$Sheets", "lanes", "[I", true)
  | 1 => ("PuddleClaims$Sheets", "sizes", "[I", true)
  | _ => ("PuddleClaims$Sheets", "values", "[J", true)
def tyX3 : Nat → FieldType := fun k => match k with
  | 0 => .array .int
  | 1 => .array .int
  | _ => .array .long
abbrev wsX30 : List Cond := u_ws RX3 TX3 3
theorem nmX3 : ∀ a, a < 3 → ∀ b, b < 3 → a ≠ b → (TX3 a).2.1 ≠ (TX3 b).2.1 := by decide +kernel
theorem tyX3_ok : ∀ k, k < 3 → parseFieldDescriptor (TX3 k).2.2.1 = some (tyX3 k) := by decide +kernel
abbrev cX3_init : ByteArray := prog_5_method_1_code
def yX3_init : MethodName := ⟨RX3, "<init>", "()V"⟩
abbrev cX3_isSheet : ByteArray := prog_5_method_2_code
def yX3_isSheet : MethodName := ⟨RX3, "isSheet", "(I)Z"⟩
abbrev cX3_isLane : ByteArray := prog_5_method_3_code
def yX3_isLane : MethodName := ⟨RX3, "isLane", "(I)Z"⟩
abbrev cX3_isHeld : ByteArray := prog_5_method_4_code
def yX3_isHeld : MethodName := ⟨RX3, "isHeld", "(I)Z"⟩
abbrev cX3_holds : ByteArray := prog_5_method_5_code
def yX3_holds : MethodName := ⟨RX3, "holds", "(III)Z"⟩
abbrev cX3_refusal : ByteArray := prog_5_method_6_code
def yX3_refusal : MethodName := ⟨RX3, "refusal", "(IIII)I"⟩
abbrev cX3_renew : ByteArray := prog_5_method_7_code
def yX3_renew : MethodName := ⟨RX3, "renew", "(III)V"⟩
abbrev cX3_clear : ByteArray := prog_5_method_8_code
def yX3_clear : MethodName := ⟨RX3, "clear", "(I)I"⟩
abbrev cX3_valueAt : ByteArray := prog_5_method_9_code
def yX3_valueAt : MethodName := ⟨RX3, "valueAt", "(II)J"⟩
abbrev cX3_put : ByteArray := prog_5_method_10_code
def yX3_put : MethodName := ⟨RX3, "put", "(IIJ)V"⟩
abbrev cX3_move : ByteArray := prog_5_method_11_code
def yX3_move : MethodName := ⟨RX3, "move", "(IIIII)V"⟩
abbrev cX3_lowestBits : ByteArray := prog_5_method_12_code
def yX3_lowestBits : MethodName := ⟨RX3, "lowestBits", "(IJ)J"⟩
def RX4 : String := "PuddleClaims$Street"
def TX4 : u_T := fun k => match k with
  | 0 => ("PuddleClaims$Street", "kind", "[I", true)
  | 1 => ("PuddleClaims$Street", "shown", "[I", true)
  | 2 => ("PuddleClaims$Street", "deep", "[I", true)
  | 3 => ("PuddleClaims$Street", "lost", "[I", true)
  | 4 => ("PuddleClaims$Street", "comes", "[I", true)
  | 5 => ("PuddleClaims$Street", "needs", "[I", true)
  | 6 => ("PuddleClaims$Street", "claimed", "[I", true)
  | 7 => ("PuddleClaims$Street", "puddles", "I", false)
  | 8 => ("PuddleClaims$Street", "people", "I", false)
  | 9 => ("PuddleClaims$Street", "hour", "I", false)
  | _ => ("PuddleClaims$Street", "draw", "I", false)
def tyX4 : Nat → FieldType := fun k => match k with
  | 0 => .array .int
  | 1 => .array .int
  | 2 => .array .int
  | 3 => .array .int
  | 4 => .array .int
  | 5 => .array .int
  | 6 => .array .int
  | 7 => .int
  | 8 => .int
  | 9 => .int
  | _ => .int
abbrev wsX40 : List Cond := u_ws RX4 TX4 11
theorem nmX4 : ∀ a, a < 11 → ∀ b, b < 11 → a ≠ b → (TX4 a).2.1 ≠ (TX4 b).2.1 := by decide +kernel
theorem tyX4_ok : ∀ k, k < 11 → parseFieldDescriptor (TX4 k).2.2.1 = some (tyX4 k) := by decide +kernel
abbrev cX4_init : ByteArray := prog_6_method_1_code
def yX4_init : MethodName := ⟨RX4, "<init>", "()V"⟩
abbrev cX4_copyFrom : ByteArray := prog_6_method_2_code
def yX4_copyFrom : MethodName := ⟨RX4, "copyFrom", "(LPuddleClaims$Street;)V"⟩
abbrev cX4_empty : ByteArray := prog_6_method_3_code
def yX4_empty : MethodName := ⟨RX4, "empty", "()V"⟩
abbrev cX4_addPuddle : ByteArray := prog_6_method_4_code
def yX4_addPuddle : MethodName := ⟨RX4, "addPuddle", "(III)I"⟩
abbrev cX4_addPerson : ByteArray := prog_6_method_5_code
def yX4_addPerson : MethodName := ⟨RX4, "addPerson", "(III)I"⟩
abbrev cX4_hasPuddle : ByteArray := prog_6_method_6_code
def yX4_hasPuddle : MethodName := ⟨RX4, "hasPuddle", "(I)Z"⟩
abbrev cX4_hasPerson : ByteArray := prog_6_method_7_code
def yX4_hasPerson : MethodName := ⟨RX4, "hasPerson", "(I)Z"⟩
abbrev cX4_isDry : ByteArray := prog_6_method_8_code
def yX4_isDry : MethodName := ⟨RX4, "isDry", "(I)Z"⟩
abbrev cX4_hasClaimed : ByteArray := prog_6_method_9_code
def yX4_hasClaimed : MethodName := ⟨RX4, "hasClaimed", "(I)Z"⟩
abbrev cX4_drySet : ByteArray := prog_6_method_10_code
def yX4_drySet : MethodName := ⟨RX4, "drySet", "()I"⟩
abbrev cX4_claimants : ByteArray := prog_6_method_11_code
def yX4_claimants : MethodName := ⟨RX4, "claimants", "()I"⟩
abbrev cX4_claimedSet : ByteArray := prog_6_method_12_code
def yX4_claimedSet : MethodName := ⟨RX4, "claimedSet", "()I"⟩
abbrev cX4_claimantOf : ByteArray := prog_6_method_13_code
def yX4_claimantOf : MethodName := ⟨RX4, "claimantOf", "(I)I"⟩
abbrev cX4_depthOfAll : ByteArray := prog_6_method_14_code
def yX4_depthOfAll : MethodName := ⟨RX4, "depthOfAll", "()I"⟩
abbrev cX4_fitSet : ByteArray := prog_6_method_15_code
def yX4_fitSet : MethodName := ⟨RX4, "fitSet", "(I)I"⟩
abbrev cX4_isFit : ByteArray := prog_6_method_16_code
def yX4_isFit : MethodName := ⟨RX4, "isFit", "(IIII)Z"⟩
abbrev cX4_deepestFit : ByteArray := prog_6_method_17_code
def yX4_deepestFit : MethodName := ⟨RX4, "deepestFit", "(II[II)I"⟩
abbrev cX4_lessBy : ByteArray := prog_6_method_18_code
def yX4_lessBy : MethodName := ⟨RX4, "lessBy", "(II)I"⟩
abbrev cX4_shadyLoss : ByteArray := prog_6_method_19_code
def yX4_shadyLoss : MethodName := ⟨RX4, "shadyLoss", "()I"⟩
abbrev cX4_kerbLoss : ByteArray := prog_6_method_20_code
def yX4_kerbLoss : MethodName := ⟨RX4, "kerbLoss", "()I"⟩
abbrev cX4_neighbours : ByteArray := prog_6_method_21_code
def yX4_neighbours : MethodName := ⟨RX4, "neighbours", "(I)I"⟩
abbrev cX4_passHour : ByteArray := prog_6_method_22_code
def yX4_passHour : MethodName := ⟨RX4, "passHour", "()V"⟩
abbrev cX4_letClaim : ByteArray := prog_6_method_23_code
def yX4_letClaim : MethodName := ⟨RX4, "letClaim", "()V"⟩
abbrev cX4_lessen : ByteArray := prog_6_method_24_code
def yX4_lessen : MethodName := ⟨RX4, "lessen", "()V"⟩
abbrev cX4_claimantsBehind : ByteArray := prog_6_method_25_code
def yX4_claimantsBehind : MethodName := ⟨RX4, "claimantsBehind", "(I)I"⟩
abbrev cX4_isAnyoneToCome : ByteArray := prog_6_method_26_code
def yX4_isAnyoneToCome : MethodName := ⟨RX4, "isAnyoneToCome", "()Z"⟩
abbrev cX4_deepen : ByteArray := prog_6_method_27_code
def yX4_deepen : MethodName := ⟨RX4, "deepen", "(I)V"⟩
abbrev cX4_halve : ByteArray := prog_6_method_28_code
def yX4_halve : MethodName := ⟨RX4, "halve", "(I)V"⟩
abbrev cX4_drawCart : ByteArray := prog_6_method_29_code
def yX4_drawCart : MethodName := ⟨RX4, "drawCart", "()V"⟩
def RX5 : String := "PuddleClaims$Tape"
def TX5 : u_T := fun k => match k with
  | 0 => ("PuddleClaims$Tape", "letters", "[C", true)
  | 1 => ("PuddleClaims$Tape", "length", "I", false)
  | _ => ("PuddleClaims$Tape", "place", "I", false)
def tyX5 : Nat → FieldType := fun k => match k with
  | 0 => .array .char
  | 1 => .int
  | _ => .int
abbrev wsX50 : List Cond := u_ws RX5 TX5 3
theorem nmX5 : ∀ a, a < 3 → ∀ b, b < 3 → a ≠ b → (TX5 a).2.1 ≠ (TX5 b).2.1 := by decide +kernel
theorem tyX5_ok : ∀ k, k < 3 → parseFieldDescriptor (TX5 k).2.2.1 = some (tyX5 k) := by decide +kernel
abbrev cX5_init : ByteArray := prog_7_method_1_code
def yX5_init : MethodName := ⟨RX5, "<init>", "()V"⟩
abbrev cX5_add : ByteArray := prog_7_method_2_code
def yX5_add : MethodName := ⟨RX5, "add", "(C)I"⟩
abbrev cX5_parse : ByteArray := prog_7_method_3_code
def yX5_parse : MethodName := ⟨RX5, "parse", "(LPuddleClaims$Street;)I"⟩
abbrev cX5_parsePuddles : ByteArray := prog_7_method_4_code
def yX5_parsePuddles : MethodName := ⟨RX5, "parsePuddles", "(LPuddleClaims$Street;)I"⟩
abbrev cX5_parsePeople : ByteArray := prog_7_method_5_code
def yX5_parsePeople : MethodName := ⟨RX5, "parsePeople", "(LPuddleClaims$Street;)I"⟩
abbrev cX5_parseKind : ByteArray := prog_7_method_6_code
def yX5_parseKind : MethodName := ⟨RX5, "parseKind", "()I"⟩
abbrev cX5_parseSight : ByteArray := prog_7_method_7_code
def yX5_parseSight : MethodName := ⟨RX5, "parseSight", "()I"⟩
abbrev cX5_parseNumber : ByteArray := prog_7_method_8_code
def yX5_parseNumber : MethodName := ⟨RX5, "parseNumber", "(II)I"⟩
abbrev cX5_take : ByteArray := prog_7_method_9_code
def yX5_take : MethodName := ⟨RX5, "take", "(C)Z"⟩
abbrev cX5_skipBlanks : ByteArray := prog_7_method_10_code
def yX5_skipBlanks : MethodName := ⟨RX5, "skipBlanks", "()V"⟩
abbrev cX5_digitHere : ByteArray := prog_7_method_11_code
def yX5_digitHere : MethodName := ⟨RX5, "digitHere", "()I"⟩
abbrev cX5_faultAt : ByteArray := prog_7_method_12_code
def yX5_faultAt : MethodName := ⟨RX5, "faultAt", "(I)I"⟩
def RX6 : String := "PuddleClaims"
def TX6 : u_T := fun k => match k with
  | 0 => ("PuddleClaims", "now", "LPuddleClaims$Street;", true)
  | 1 => ("PuddleClaims", "past", "LPuddleClaims$History;", true)
  | 2 => ("PuddleClaims", "draft", "LPuddleClaims$Street;", true)
  | 3 => ("PuddleClaims", "imageStreet", "LPuddleClaims$Street;", true)
  | 4 => ("PuddleClaims", "imagePast", "LPuddleClaims$History;", true)
  | 5 => ("PuddleClaims", "hasImage", "Z", false)
  | 6 => ("PuddleClaims", "tape", "LPuddleClaims$Tape;", true)
  | 7 => ("PuddleClaims", "sheets", "LPuddleClaims$Sheets;", true)
  | 8 => ("PuddleClaims", "matching", "LPuddleClaims$Matching;", true)
  | _ => ("PuddleClaims", "orders", "LPuddleClaims$Orders;", true)
def tyX6 : Nat → FieldType := fun k => match k with
  | 0 => .object "PuddleClaims$Street"
  | 1 => .object "PuddleClaims$History"
  | 2 => .object "PuddleClaims$Street"
  | 3 => .object "PuddleClaims$Street"
  | 4 => .object "PuddleClaims$History"
  | 5 => .boolean
  | 6 => .object "PuddleClaims$Tape"
  | 7 => .object "PuddleClaims$Sheets"
  | 8 => .object "PuddleClaims$Matching"
  | _ => .object "PuddleClaims$Orders"
abbrev wsX60 : List Cond := u_ws RX6 TX6 10
theorem nmX6 : ∀ a, a < 10 → ∀ b, b < 10 → a ≠ b → (TX6 a).2.1 ≠ (TX6 b).2.1 := by decide +kernel
theorem tyX6_ok : ∀ k, k < 10 → parseFieldDescriptor (TX6 k).2.2.1 = some (tyX6 k) := by decide +kernel
abbrev cX6_init : ByteArray := prog_1_method_1_code
def yX6_init : MethodName := ⟨RX6, "<init>", "()V"⟩
abbrev cX6_puddle : ByteArray := prog_1_method_2_code
def yX6_puddle : MethodName := ⟨RX6, "puddle", "(III)I"⟩
abbrev cX6_person : ByteArray := prog_1_method_3_code
def yX6_person : MethodName := ⟨RX6, "person", "(III)I"⟩
abbrev cX6_show : ByteArray := prog_1_method_4_code
def yX6_show : MethodName := ⟨RX6, "show", "(II)I"⟩
abbrev cX6_of : ByteArray := prog_1_method_5_code
def yX6_of : MethodName := ⟨RX6, "of", "(II)I"⟩
abbrev cX6_at : ByteArray := prog_1_method_6_code
def yX6_at : MethodName := ⟨RX6, "at", "(II)I"⟩
abbrev cX6_type : ByteArray := prog_1_method_7_code
def yX6_type : MethodName := ⟨RX6, "type", "(I)I"⟩
abbrev cX6_read : ByteArray := prog_1_method_8_code
def yX6_read : MethodName := ⟨RX6, "read", "()I"⟩
abbrev cX6_count : ByteArray := prog_1_method_9_code
def yX6_count : MethodName := ⟨RX6, "count", "(I)I"⟩
abbrev cX6_hours : ByteArray := prog_1_method_10_code
def yX6_hours : MethodName := ⟨RX6, "hours", "(I)I"⟩
abbrev cX6_rain : ByteArray := prog_1_method_11_code
def yX6_rain : MethodName := ⟨RX6, "rain", "(I)I"⟩
abbrev cX6_drive : ByteArray := prog_1_method_12_code
def yX6_drive : MethodName := ⟨RX6, "drive", "(I)I"⟩
abbrev cX6_send : ByteArray := prog_1_method_13_code
def yX6_send : MethodName := ⟨RX6, "send", "(I)I"⟩
abbrev cX6_later : ByteArray := prog_1_method_14_code
def yX6_later : MethodName := ⟨RX6, "later", "(II)I"⟩
abbrev cX6_drift : ByteArray := prog_1_method_15_code
def yX6_drift : MethodName := ⟨RX6, "drift", "(I)I"⟩
abbrev cX6_undo : ByteArray := prog_1_method_16_code
def yX6_undo : MethodName := ⟨RX6, "undo", "()I"⟩
abbrev cX6_seed : ByteArray := prog_1_method_17_code
def yX6_seed : MethodName := ⟨RX6, "seed", "(I)I"⟩
abbrev cX6_ahead : ByteArray := prog_1_method_18_code
def yX6_ahead : MethodName := ⟨RX6, "ahead", "(II)I"⟩
abbrev cX6_claims : ByteArray := prog_1_method_19_code
def yX6_claims : MethodName := ⟨RX6, "claims", "(II)I"⟩
abbrev cX6_then : ByteArray := prog_1_method_20_code
def yX6_then : MethodName := ⟨RX6, "then", "(I)I"⟩
abbrev cX6_served : ByteArray := prog_1_method_21_code
def yX6_served : MethodName := ⟨RX6, "served", "(I)I"⟩
abbrev cX6_dries : ByteArray := prog_1_method_22_code
def yX6_dries : MethodName := ⟨RX6, "dries", "(I)I"⟩
abbrev cX6_match : ByteArray := prog_1_method_23_code
def yX6_match : MethodName := ⟨RX6, "match", "()I"⟩
abbrev cX6_latest : ByteArray := prog_1_method_24_code
def yX6_latest : MethodName := ⟨RX6, "latest", "(I)I"⟩
abbrev cX6_order : ByteArray := prog_1_method_25_code
def yX6_order : MethodName := ⟨RX6, "order", "(II)I"⟩
abbrev cX6_wet : ByteArray := prog_1_method_26_code
def yX6_wet : MethodName := ⟨RX6, "wet", "(I)I"⟩
abbrev cX6_matters : ByteArray := prog_1_method_27_code
def yX6_matters : MethodName := ⟨RX6, "matters", "(II)I"⟩
abbrev cX6_sight : ByteArray := prog_1_method_28_code
def yX6_sight : MethodName := ⟨RX6, "sight", "(III)I"⟩
abbrev cX6_carts : ByteArray := prog_1_method_29_code
def yX6_carts : MethodName := ⟨RX6, "carts", "(III)I"⟩
abbrev cX6_image : ByteArray := prog_1_method_30_code
def yX6_image : MethodName := ⟨RX6, "image", "()I"⟩
abbrev cX6_restore : ByteArray := prog_1_method_31_code
def yX6_restore : MethodName := ⟨RX6, "restore", "()I"⟩
abbrev cX6_dipped : ByteArray := prog_1_method_32_code
def yX6_dipped : MethodName := ⟨RX6, "dipped", "(IIIIII)I"⟩
abbrev cX6_film : ByteArray := prog_1_method_33_code
def yX6_film : MethodName := ⟨RX6, "film", "(IIIII)I"⟩
abbrev cX6_sheet : ByteArray := prog_1_method_34_code
def yX6_sheet : MethodName := ⟨RX6, "sheet", "(III)I"⟩
abbrev cX6_drop : ByteArray := prog_1_method_35_code
def yX6_drop : MethodName := ⟨RX6, "drop", "(I)I"⟩
abbrev cX6_item : ByteArray := prog_1_method_36_code
def yX6_item : MethodName := ⟨RX6, "item", "(IIIJ)I"⟩
abbrev cX6_copy : ByteArray := prog_1_method_37_code
def yX6_copy : MethodName := ⟨RX6, "copy", "(IIIII)I"⟩
abbrev cX6_within : ByteArray := prog_1_method_38_code
def yX6_within : MethodName := ⟨RX6, "within", "(III)Z"⟩
abbrev cX6_isSight : ByteArray := prog_1_method_39_code
def yX6_isSight : MethodName := ⟨RX6, "isSight", "(I)Z"⟩
abbrev cX6_isComing : ByteArray := prog_1_method_40_code
def yX6_isComing : MethodName := ⟨RX6, "isComing", "(I)Z"⟩
abbrev cX6_passHours : ByteArray := prog_1_method_41_code
def yX6_passHours : MethodName := ⟨RX6, "passHours", "(IZ)I"⟩
abbrev cX6_weightOf : ByteArray := prog_1_method_42_code
def yX6_weightOf : MethodName := ⟨RX6, "weightOf", "(II)I"⟩
abbrev cX6_weightOfAll : ByteArray := prog_1_method_43_code
def yX6_weightOfAll : MethodName := ⟨RX6, "weightOfAll", "()I"⟩
abbrev cX6_hasClaimedBehindCarts : ByteArray := prog_1_method_44_code
def yX6_hasClaimedBehindCarts : MethodName := ⟨RX6, "hasClaimedBehindCarts", "(II)Z"⟩
abbrev cX6_commonDivisor : ByteArray := prog_1_method_45_code
def yX6_commonDivisor : MethodName := ⟨RX6, "commonDivisor", "(II)I"⟩
abbrev cX6_kindsDipped : ByteArray := prog_1_method_46_code
def yX6_kindsDipped : MethodName := ⟨RX6, "kindsDipped", "(IIII)I"⟩
abbrev cX6_depthsDipped : ByteArray := prog_1_method_47_code
def yX6_depthsDipped : MethodName := ⟨RX6, "depthsDipped", "(IIIIZ)I"⟩
abbrev cX6_draftAgrees : ByteArray := prog_1_method_48_code
def yX6_draftAgrees : MethodName := ⟨RX6, "draftAgrees", "(IIII)Z"⟩
def RX7 : String := "PuddleClaimsModel"
def TX7 : u_T := fun k => match k with
  | 0 => ("PuddleClaimsModel", "now", "[I", true)
  | 1 => ("PuddleClaimsModel", "lesses", "[I", true)
  | 2 => ("PuddleClaimsModel", "tape", "[I", true)
  | 3 => ("PuddleClaimsModel", "typed", "I", false)
  | 4 => ("PuddleClaimsModel", "place", "I", false)
  | 5 => ("PuddleClaimsModel", "isFault", "Z", false)
  | 6 => ("PuddleClaimsModel", "readPuddles", "[I", true)
  | 7 => ("PuddleClaimsModel", "readPeople", "[I", true)
  | 8 => ("PuddleClaimsModel", "undone", "[I", true)
  | 9 => ("PuddleClaimsModel", "undos", "I", false)
  | 10 => ("PuddleClaimsModel", "aside", "[I", true)
  | 11 => ("PuddleClaimsModel", "had", "[I", true)
  | 12 => ("PuddleClaimsModel", "left", "[I", true)
  | 13 => ("PuddleClaimsModel", "order", "[I", true)
  | 14 => ("PuddleClaimsModel", "best", "[I", true)
  | 15 => ("PuddleClaimsModel", "kept", "[I", true)
  | 16 => ("PuddleClaimsModel", "keptUndos", "I", false)
  | 17 => ("PuddleClaimsModel", "isKept", "Z", false)
  | 18 => ("PuddleClaimsModel", "lanes", "[I", true)
  | 19 => ("PuddleClaimsModel", "sizes", "[I", true)
  | 20 => ("PuddleClaimsModel", "items", "[J", true)
  | _ => ("PuddleClaimsModel", "moved", "[J", true)
def tyX7 : Nat → FieldType := fun k => match k with
  | 0 => .array .int
  | 1 => .array .int
  | 2 => .array .int
  | 3 => .int
  | 4 => .int
  | 5 => .boolean
  | 6 => .array .int
  | 7 => .array .int
  | 8 => .array .int
  | 9 => .int
  | 10 => .array .int
  | 11 => .array .int
  | 12 => .array .int
  | 13 => .array .int
  | 14 => .array .int
  | 15 => .array .int
  | 16 => .int
  | 17 => .boolean
  | 18 => .array .int
  | 19 => .array .int
  | 20 => .array .long
  | _ => .array .long
abbrev wsX70 : List Cond := u_ws RX7 TX7 22
theorem nmX7 : ∀ a, a < 22 → ∀ b, b < 22 → a ≠ b → (TX7 a).2.1 ≠ (TX7 b).2.1 := by decide +kernel
theorem tyX7_ok : ∀ k, k < 22 → parseFieldDescriptor (TX7 k).2.2.1 = some (tyX7 k) := by decide +kernel
abbrev cX7_in : ByteArray := prog_9_method_2_code
def yX7_in : MethodName := ⟨RX7, "in", "(JJJ)Z"⟩
abbrev cX7_init : ByteArray := prog_9_method_3_code
def yX7_init : MethodName := ⟨RX7, "<init>", "()V"⟩
abbrev cX7_isPuddle : ByteArray := prog_9_method_4_code
def yX7_isPuddle : MethodName := ⟨RX7, "isPuddle", "(I)Z"⟩
abbrev cX7_isPerson : ByteArray := prog_9_method_5_code
def yX7_isPerson : MethodName := ⟨RX7, "isPerson", "(I)Z"⟩
abbrev cX7_ofPuddle : ByteArray := prog_9_method_6_code
def yX7_ofPuddle : MethodName := ⟨RX7, "ofPuddle", "(II)I"⟩
abbrev cX7_deep : ByteArray := prog_9_method_7_code
def yX7_deep : MethodName := ⟨RX7, "deep", "(I)I"⟩
abbrev cX7_deeps : ByteArray := prog_9_method_8_code
def yX7_deeps : MethodName := ⟨RX7, "deeps", "(II)V"⟩
abbrev cX7_ofPerson : ByteArray := prog_9_method_9_code
def yX7_ofPerson : MethodName := ⟨RX7, "ofPerson", "(II)I"⟩
abbrev cX7_claimed : ByteArray := prog_9_method_10_code
def yX7_claimed : MethodName := ⟨RX7, "claimed", "(I)I"⟩
abbrev cX7_tells : ByteArray := prog_9_method_11_code
def yX7_tells : MethodName := ⟨RX7, "tells", "(III)V"⟩
abbrev cX7_whoClaimed : ByteArray := prog_9_method_12_code
def yX7_whoClaimed : MethodName := ⟨RX7, "whoClaimed", "(I)I"⟩
abbrev cX7_isDry : ByteArray := prog_9_method_13_code
def yX7_isDry : MethodName := ⟨RX7, "isDry", "(I)Z"⟩
abbrev cX7_less : ByteArray := prog_9_method_14_code
def yX7_less : MethodName := ⟨RX7, "less", "(I)I"⟩
abbrev cX7_fits : ByteArray := prog_9_method_15_code
def yX7_fits : MethodName := ⟨RX7, "fits", "(II)Z"⟩
abbrev cX7_fitsFor : ByteArray := prog_9_method_16_code
def yX7_fitsFor : MethodName := ⟨RX7, "fitsFor", "(I)I"⟩
abbrev cX7_looks : ByteArray := prog_9_method_17_code
def yX7_looks : MethodName := ⟨RX7, "looks", "(I)V"⟩
abbrev cX7_goesBy : ByteArray := prog_9_method_18_code
def yX7_goesBy : MethodName := ⟨RX7, "goesBy", "()V"⟩
abbrev cX7_goesOn : ByteArray := prog_9_method_19_code
def yX7_goesOn : MethodName := ⟨RX7, "goesOn", "(I)V"⟩
abbrev cX7_many : ByteArray := prog_9_method_20_code
def yX7_many : MethodName := ⟨RX7, "many", "(I)I"⟩
abbrev cX7_servedNow : ByteArray := prog_9_method_21_code
def yX7_servedNow : MethodName := ⟨RX7, "servedNow", "()I"⟩
abbrev cX7_puddleComes : ByteArray := prog_9_method_22_code
def yX7_puddleComes : MethodName := ⟨RX7, "puddleComes", "(III)V"⟩
abbrev cX7_personComes : ByteArray := prog_9_method_23_code
def yX7_personComes : MethodName := ⟨RX7, "personComes", "(III)V"⟩
abbrev cX7_puddle : ByteArray := prog_9_method_24_code
def yX7_puddle : MethodName := ⟨RX7, "puddle", "(III)I"⟩
abbrev cX7_person : ByteArray := prog_9_method_25_code
def yX7_person : MethodName := ⟨RX7, "person", "(III)I"⟩
abbrev cX7_show : ByteArray := prog_9_method_26_code
def yX7_show : MethodName := ⟨RX7, "show", "(II)I"⟩
abbrev cX7_of : ByteArray := prog_9_method_27_code
def yX7_of : MethodName := ⟨RX7, "of", "(II)I"⟩
abbrev cX7_at : ByteArray := prog_9_method_28_code
def yX7_at : MethodName := ⟨RX7, "at", "(II)I"⟩
abbrev cX7_deepAll : ByteArray := prog_9_method_29_code
def yX7_deepAll : MethodName := ⟨RX7, "deepAll", "()I"⟩
abbrev cX7_dryOnes : ByteArray := prog_9_method_30_code
def yX7_dryOnes : MethodName := ⟨RX7, "dryOnes", "()I"⟩
abbrev cX7_claimedOnes : ByteArray := prog_9_method_31_code
def yX7_claimedOnes : MethodName := ⟨RX7, "claimedOnes", "()I"⟩
abbrev cX7_count : ByteArray := prog_9_method_32_code
def yX7_count : MethodName := ⟨RX7, "count", "(I)I"⟩
abbrev cX7_type : ByteArray := prog_9_method_33_code
def yX7_type : MethodName := ⟨RX7, "type", "(I)I"⟩
abbrev cX7_here : ByteArray := prog_9_method_34_code
def yX7_here : MethodName := ⟨RX7, "here", "()I"⟩
abbrev cX7_must : ByteArray := prog_9_method_35_code
def yX7_must : MethodName := ⟨RX7, "must", "(Z)V"⟩
abbrev cX7_digit : ByteArray := prog_9_method_36_code
def yX7_digit : MethodName := ⟨RX7, "digit", "(I)I"⟩
abbrev cX7_number : ByteArray := prog_9_method_37_code
def yX7_number : MethodName := ⟨RX7, "number", "(II)I"⟩
abbrev cX7_numberBehind : ByteArray := prog_9_method_38_code
def yX7_numberBehind : MethodName := ⟨RX7, "numberBehind", "(IIII)I"⟩
abbrev cX7_puddlesRead : ByteArray := prog_9_method_39_code
def yX7_puddlesRead : MethodName := ⟨RX7, "puddlesRead", "()I"⟩
abbrev cX7_peopleRead : ByteArray := prog_9_method_40_code
def yX7_peopleRead : MethodName := ⟨RX7, "peopleRead", "()I"⟩
abbrev cX7_read : ByteArray := prog_9_method_41_code
def yX7_read : MethodName := ⟨RX7, "read", "()I"⟩
abbrev cX7_notes : ByteArray := prog_9_method_42_code
def yX7_notes : MethodName := ⟨RX7, "notes", "()V"⟩
abbrev cX7_hours : ByteArray := prog_9_method_43_code
def yX7_hours : MethodName := ⟨RX7, "hours", "(I)I"⟩
abbrev cX7_rains : ByteArray := prog_9_method_44_code
def yX7_rains : MethodName := ⟨RX7, "rains", "(I)V"⟩
abbrev cX7_rain : ByteArray := prog_9_method_45_code
def yX7_rain : MethodName := ⟨RX7, "rain", "(I)I"⟩
abbrev cX7_drive : ByteArray := prog_9_method_46_code
def yX7_drive : MethodName := ⟨RX7, "drive", "(I)I"⟩
abbrev cX7_send : ByteArray := prog_9_method_47_code
def yX7_send : MethodName := ⟨RX7, "send", "(I)I"⟩
abbrev cX7_later : ByteArray := prog_9_method_48_code
def yX7_later : MethodName := ⟨RX7, "later", "(II)I"⟩
abbrev cX7_drift : ByteArray := prog_9_method_49_code
def yX7_drift : MethodName := ⟨RX7, "drift", "(I)I"⟩
abbrev cX7_undo : ByteArray := prog_9_method_50_code
def yX7_undo : MethodName := ⟨RX7, "undo", "()I"⟩
abbrev cX7_seed : ByteArray := prog_9_method_51_code
def yX7_seed : MethodName := ⟨RX7, "seed", "(I)I"⟩
abbrev cX7_asides : ByteArray := prog_9_method_52_code
def yX7_asides : MethodName := ⟨RX7, "asides", "()V"⟩
abbrev cX7_backs : ByteArray := prog_9_method_53_code
def yX7_backs : MethodName := ⟨RX7, "backs", "()V"⟩
abbrev cX7_ahead : ByteArray := prog_9_method_54_code
def yX7_ahead : MethodName := ⟨RX7, "ahead", "(II)I"⟩
abbrev cX7_claims : ByteArray := prog_9_method_55_code
def yX7_claims : MethodName := ⟨RX7, "claims", "(II)I"⟩
abbrev cX7_then : ByteArray := prog_9_method_56_code
def yX7_then : MethodName := ⟨RX7, "then", "(I)I"⟩
abbrev cX7_served : ByteArray := prog_9_method_57_code
def yX7_served : MethodName := ⟨RX7, "served", "(I)I"⟩
abbrev cX7_dries : ByteArray := prog_9_method_58_code
def yX7_dries : MethodName := ⟨RX7, "dries", "(I)I"⟩
abbrev cX7_match : ByteArray := prog_9_method_59_code
def yX7_match : MethodName := ⟨RX7, "match", "()I"⟩
abbrev cX7_latest : ByteArray := prog_9_method_60_code
def yX7_latest : MethodName := ⟨RX7, "latest", "(I)I"⟩
abbrev cX7_isOrder : ByteArray := prog_9_method_61_code
def yX7_isOrder : MethodName := ⟨RX7, "isOrder", "(II)Z"⟩
abbrev cX7_comesBy : ByteArray := prog_9_method_62_code
def yX7_comesBy : MethodName := ⟨RX7, "comesBy", "(I)V"⟩
abbrev cX7_order : ByteArray := prog_9_method_63_code
def yX7_order : MethodName := ⟨RX7, "order", "(II)I"⟩
abbrev cX7_wet : ByteArray := prog_9_method_64_code
def yX7_wet : MethodName := ⟨RX7, "wet", "(I)I"⟩
abbrev cX7_matters : ByteArray := prog_9_method_65_code
def yX7_matters : MethodName := ⟨RX7, "matters", "(II)I"⟩
abbrev cX7_sight : ByteArray := prog_9_method_66_code
def yX7_sight : MethodName := ⟨RX7, "sight", "(III)I"⟩
abbrev cX7_carts : ByteArray := prog_9_method_67_code
def yX7_carts : MethodName := ⟨RX7, "carts", "(III)I"⟩
abbrev cX7_image : ByteArray := prog_9_method_68_code
def yX7_image : MethodName := ⟨RX7, "image", "()I"⟩
abbrev cX7_restore : ByteArray := prog_9_method_69_code
def yX7_restore : MethodName := ⟨RX7, "restore", "()I"⟩
abbrev cX7_isSheet : ByteArray := prog_9_method_70_code
def yX7_isSheet : MethodName := ⟨RX7, "isSheet", "(I)Z"⟩
abbrev cX7_isLane : ByteArray := prog_9_method_71_code
def yX7_isLane : MethodName := ⟨RX7, "isLane", "(I)Z"⟩
abbrev cX7_why : ByteArray := prog_9_method_72_code
def yX7_why : MethodName := ⟨RX7, "why", "(IIII)I"⟩
abbrev cX7_isSo : ByteArray := prog_9_method_73_code
def yX7_isSo : MethodName := ⟨RX7, "isSo", "(III)Z"⟩
abbrev cX7_dipped : ByteArray := prog_9_method_74_code
def yX7_dipped : MethodName := ⟨RX7, "dipped", "(IIIIII)I"⟩
abbrev cX7_film : ByteArray := prog_9_method_75_code
def yX7_film : MethodName := ⟨RX7, "film", "(IIIII)I"⟩
abbrev cX7_sheet : ByteArray := prog_9_method_76_code
def yX7_sheet : MethodName := ⟨RX7, "sheet", "(III)I"⟩
abbrev cX7_drop : ByteArray := prog_9_method_77_code
def yX7_drop : MethodName := ⟨RX7, "drop", "(I)I"⟩
abbrev cX7_item : ByteArray := prog_9_method_78_code
def yX7_item : MethodName := ⟨RX7, "item", "(IIIJ)I"⟩
abbrev cX7_copy : ByteArray := prog_9_method_79_code
def yX7_copy : MethodName := ⟨RX7, "copy", "(IIIII)I"⟩
def RJ11 : String := "java/lang/Character"
def TJ11 : u_T := fun k => match k with
  | _ => ("", "", "", false)
def tyJ11 : Nat → FieldType := fun k => match k with
  | _ => .int
abbrev wsJ110 : List Cond := u_ws RJ11 TJ11 0
theorem nmJ11 : ∀ a, a < 0 → ∀ b, b < 0 → a ≠ b → (TJ11 a).2.1 ≠ (TJ11 b).2.1 := by decide +kernel
theorem tyJ11_ok : ∀ k, k < 0 → parseFieldDescriptor (TJ11 k).2.2.1 = some (tyJ11 k) := by decide +kernel
abbrev cJ11_isValidCodePoint_9a6ad : ByteArray := prog_10_method_11_code
def yJ11_isValidCodePoint_9a6ad : MethodName := ⟨RJ11, "isValidCodePoint", "(I)Z"⟩
abbrev cJ11_highSurrogate_5068e : ByteArray := prog_10_method_28_code
def yJ11_highSurrogate_5068e : MethodName := ⟨RJ11, "highSurrogate", "(I)C"⟩
abbrev cJ11_lowSurrogate_5068e : ByteArray := prog_10_method_29_code
def yJ11_lowSurrogate_5068e : MethodName := ⟨RJ11, "lowSurrogate", "(I)C"⟩
def RJ6 : String := "java/lang/Integer"
def TJ6 : u_T := fun k => match k with
  | _ => ("", "", "", false)
def tyJ6 : Nat → FieldType := fun k => match k with
  | _ => .int
abbrev wsJ60 : List Cond := u_ws RJ6 TJ6 0
theorem nmJ6 : ∀ a, a < 0 → ∀ b, b < 0 → a ≠ b → (TJ6 a).2.1 ≠ (TJ6 b).2.1 := by decide +kernel
theorem tyJ6_ok : ∀ k, k < 0 → parseFieldDescriptor (TJ6 k).2.2.1 = some (tyJ6 k) := by decide +kernel
abbrev cJ6_bitCount_0f7a4 : ByteArray := prog_11_method_49_code
def yJ6_bitCount_0f7a4 : MethodName := ⟨RJ6, "bitCount", "(I)I"⟩
def RJ9 : String := "java/lang/Math"
def TJ9 : u_T := fun k => match k with
  | _ => ("", "", "", false)
def tyJ9 : Nat → FieldType := fun k => match k with
  | _ => .int
abbrev wsJ90 : List Cond := u_ws RJ9 TJ9 0
theorem nmJ9 : ∀ a, a < 0 → ∀ b, b < 0 → a ≠ b → (TJ9 a).2.1 ≠ (TJ9 b).2.1 := by decide +kernel
theorem tyJ9_ok : ∀ k, k < 0 → parseFieldDescriptor (TJ9 k).2.2.1 = some (tyJ9 k) := by decide +kernel
abbrev cJ9_max_7cf53 : ByteArray := prog_12_method_65_code
def yJ9_max_7cf53 : MethodName := ⟨RJ9, "max", "(II)I"⟩
abbrev cJ9_min_7cf53 : ByteArray := prog_12_method_69_code
def yJ9_min_7cf53 : MethodName := ⟨RJ9, "min", "(II)I"⟩
def RJ0 : String := "java/lang/String"
def TJ0 : u_T := fun k => match k with
  | _ => ("", "", "", false)
def tyJ0 : Nat → FieldType := fun k => match k with
  | _ => .int
abbrev wsJ00 : List Cond := u_ws RJ0 TJ0 0
theorem nmJ0 : ∀ a, a < 0 → ∀ b, b < 0 → a ≠ b → (TJ0 a).2.1 ≠ (TJ0 b).2.1 := by decide +kernel
theorem tyJ0_ok : ∀ k, k < 0 → parseFieldDescriptor (TJ0 k).2.2.1 = some (tyJ0 k) := by decide +kernel
abbrev cJ0_length_8abf5 : ByteArray := prog_13_method_54_code
def yJ0_length_8abf5 : MethodName := ⟨RJ0, "length", "()I"⟩
abbrev cJ0_indexOf_0f7a4 : ByteArray := prog_13_method_79_code
def yJ0_indexOf_0f7a4 : MethodName := ⟨RJ0, "indexOf", "(I)I"⟩
abbrev cJ0_indexOf_7cf53 : ByteArray := prog_13_method_80_code
def yJ0_indexOf_7cf53 : MethodName := ⟨RJ0, "indexOf", "(II)I"⟩
abbrev cJ0_coder_7d493 : ByteArray := prog_13_method_152_code
def yJ0_coder_7d493 : MethodName := ⟨RJ0, "coder", "()B"⟩
abbrev cJ0_isLatin1_aae02 : ByteArray := prog_13_method_154_code
def yJ0_isLatin1_aae02 : MethodName := ⟨RJ0, "isLatin1", "()Z"⟩
abbrev cJ0_checkBoundsBeginEnd_23922 : ByteArray := prog_13_method_158_code
def yJ0_checkBoundsBeginEnd_23922 : MethodName := ⟨RJ0, "checkBoundsBeginEnd", "(III)V"⟩
def RJ1 : String := "java/lang/StringLatin1"
def TJ1 : u_T := fun k => match k with
  | _ => ("", "", "", false)
def tyJ1 : Nat → FieldType := fun k => match k with
  | _ => .int
abbrev wsJ10 : List Cond := u_ws RJ1 TJ1 0
theorem nmJ1 : ∀ a, a < 0 → ∀ b, b < 0 → a ≠ b → (TJ1 a).2.1 ≠ (TJ1 b).2.1 := by decide +kernel
theorem tyJ1_ok : ∀ k, k < 0 → parseFieldDescriptor (TJ1 k).2.2.1 = some (tyJ1 k) := by decide +kernel
abbrev cJ1_canEncode_9a6ad : ByteArray := prog_14_method_4_code
def yJ1_canEncode_9a6ad : MethodName := ⟨RJ1, "canEncode", "(I)Z"⟩
abbrev cJ1_indexOf_4cfef : ByteArray := prog_14_method_22_code
def yJ1_indexOf_4cfef : MethodName := ⟨RJ1, "indexOf", "([BIII)I"⟩
abbrev cJ1_indexOfChar_4cfef : ByteArray := prog_14_method_23_code
def yJ1_indexOfChar_4cfef : MethodName := ⟨RJ1, "indexOfChar", "([BIII)I"⟩
def RJ2 : String := "java/lang/StringUTF16"
def TJ2 : u_T := fun k => match k with
  | _ => ("", "", "", false)
def tyJ2 : Nat → FieldType := fun k => match k with
  | _ => .int
abbrev wsJ20 : List Cond := u_ws RJ2 TJ2 0
theorem nmJ2 : ∀ a, a < 0 → ∀ b, b < 0 → a ≠ b → (TJ2 a).2.1 ≠ (TJ2 b).2.1 := by decide +kernel
theorem tyJ2_ok : ∀ k, k < 0 → parseFieldDescriptor (TJ2 k).2.2.1 = some (tyJ2 k) := by decide +kernel
abbrev cJ2_getChar_3b067 : ByteArray := prog_15_method_5_code
def yJ2_getChar_3b067 : MethodName := ⟨RJ2, "getChar", "([BI)C"⟩
abbrev cJ2_length_9d52b : ByteArray := prog_15_method_6_code
def yJ2_length_9d52b : MethodName := ⟨RJ2, "length", "([B)I"⟩
abbrev cJ2_indexOf_4cfef : ByteArray := prog_15_method_40_code
def yJ2_indexOf_4cfef : MethodName := ⟨RJ2, "indexOf", "([BIII)I"⟩
abbrev cJ2_indexOfChar_4cfef : ByteArray := prog_15_method_47_code
def yJ2_indexOfChar_4cfef : MethodName := ⟨RJ2, "indexOfChar", "([BIII)I"⟩
abbrev cJ2_indexOfCharUnsafe_4cfef : ByteArray := prog_15_method_48_code
def yJ2_indexOfCharUnsafe_4cfef : MethodName := ⟨RJ2, "indexOfCharUnsafe", "([BIII)I"⟩
abbrev cJ2_indexOfSupplementary_4cfef : ByteArray := prog_15_method_49_code
def yJ2_indexOfSupplementary_4cfef : MethodName := ⟨RJ2, "indexOfSupplementary", "([BIII)I"⟩
abbrev cJ2_checkBoundsBeginEnd_d044e : ByteArray := prog_15_method_93_code
def yJ2_checkBoundsBeginEnd_d044e : MethodName := ⟨RJ2, "checkBoundsBeginEnd", "(II[B)V"⟩
def RJ10 : String := "java/lang/System"
def TJ10 : u_T := fun k => match k with
  | _ => ("", "", "", false)
def tyJ10 : Nat → FieldType := fun k => match k with
  | _ => .int
abbrev wsJ100 : List Cond := u_ws RJ10 TJ10 0
theorem nmJ10 : ∀ a, a < 0 → ∀ b, b < 0 → a ≠ b → (TJ10 a).2.1 ≠ (TJ10 b).2.1 := by decide +kernel
theorem tyJ10_ok : ∀ k, k < 0 → parseFieldDescriptor (TJ10 k).2.2.1 = some (tyJ10 k) := by decide +kernel
def RJ3 : String := "jdk/internal/util/Preconditions"
def TJ3 : u_T := fun k => match k with
  | _ => ("", "", "", false)
def tyJ3 : Nat → FieldType := fun k => match k with
  | _ => .int
abbrev wsJ30 : List Cond := u_ws RJ3 TJ3 0
theorem nmJ3 : ∀ a, a < 0 → ∀ b, b < 0 → a ≠ b → (TJ3 a).2.1 ≠ (TJ3 b).2.1 := by decide +kernel
theorem tyJ3_ok : ∀ k, k < 0 → parseFieldDescriptor (TJ3 k).2.2.1 = some (tyJ3 k) := by decide +kernel
abbrev cJ3_checkFromToIndex_8c36e : ByteArray := prog_17_method_12_code
def yJ3_checkFromToIndex_8c36e : MethodName := ⟨RJ3, "checkFromToIndex", "(IIILjava/util/function/BiFunction;)I"⟩
def RL : String := "PuddleClaimsLaw"
abbrev cL_law : ByteArray := code
def yL_law : MethodName := ⟨RL, "law", "([I)Z"⟩
abbrev vwCl : List vw_C := [(RX0, TX0, 3), (RX1, TX1, 3), (RX2, TX2, 6), (RX3, TX3, 3), (RX4, TX4, 11), (RX5, TX5, 3), (RX6, TX6, 10), (RX7, TX7, 22)]
theorem inX0 : ∀ w ∈ wsX00, w ∈ lw_tbl := by decide +kernel
theorem inX1 : ∀ w ∈ wsX10, w ∈ lw_tbl := by decide +kernel
theorem inX2 : ∀ w ∈ wsX20, w ∈ lw_tbl := by decide +kernel
theorem inX3 : ∀ w ∈ wsX30, w ∈ lw_tbl := by decide +kernel
theorem inX4 : ∀ w ∈ wsX40, w ∈ lw_tbl := by decide +kernel
theorem inX5 : ∀ w ∈ wsX50, w ∈ lw_tbl := by decide +kernel
theorem inX6 : ∀ w ∈ wsX60, w ∈ lw_tbl := by decide +kernel
theorem inX7 : ∀ w ∈ wsX70, w ∈ lw_tbl := by decide +kernel
end
section
theorem dX0_init_0 : decode cX0_init 0 = .ok (.aload_n 0, 1) := by decide +kernel
theorem dX0_init_1 : decode cX0_init 1 = .ok (.invokespecial 5, 3) := by decide +kernel
theorem dX0_init_4 : decode cX0_init 4 = .ok (.aload_n 0, 1) := by decide +kernel
theorem dX0_init_5 : decode cX0_init 5 = .ok (.sipush 168, 3) := by decide +kernel
theorem dX0_init_8 : decode cX0_init 8 = .ok (.newarray .int, 2) := by decide +kernel
theorem dX0_init_10 : decode cX0_init 10 = .ok (.putfield 11, 3) := by decide +kernel
theorem dX0_init_13 : decode cX0_init 13 = .ok (.aload_n 0, 1) := by decide +kernel
theorem dX0_init_14 : decode cX0_init 14 = .ok (.iconst 0, 1) := by decide +kernel
theorem dX0_init_15 : decode cX0_init 15 = .ok (.putfield 15, 3) := by decide +kernel
theorem dX0_init_18 : decode cX0_init 18 = .ok (.aload_n 0, 1) := by decide +kernel
theorem dX0_init_19 : decode cX0_init 19 = .ok (.iconst 0, 1) := by decide +kernel
theorem dX0_init_20 : decode cX0_init 20 = .ok (.putfield 19, 3) := by decide +kernel
theorem dX0_init_23 : decode cX0_init 23 = .ok (.return_, 1) := by decide +kernel
theorem dX0_remember_0 : decode cX0_remember 0 = .ok (.aload_n 0, 1) := by decide +kernel
theorem dX0_remember_1 : decode cX0_remember 1 = .ok (.getfield 15, 3) := by decide +kernel
theorem dX0_remember_4 : decode cX0_remember 4 = .ok (.bipush 21, 2) := by decide +kernel
theorem dX0_remember_6 : decode cX0_remember 6 = .ok (.imul, 1) := by decide +kernel
theorem dX0_remember_7 : decode cX0_remember 7 = .ok (.istore_n 2, 1) := by decide +kernel
theorem dX0_remember_8 : decode cX0_remember 8 = .ok (.aload_n 1, 1) := by decide +kernel
theorem dX0_remember_9 : decode cX0_remember 9 = .ok (.getfield 22, 3) := by decide +kernel
theorem dX0_remember_12 : decode cX0_remember 12 = .ok (.iconst 0, 1) := by decide +kernel
theorem dX0_remember_13 : decode cX0_remember 13 = .ok (.aload_n 0, 1) := by decide +kernel
theorem dX0_remember_14 : decode cX0_remember 14 = .ok (.getfield 11, 3) := by decide +kernel
theorem dX0_remember_17 : decode cX0_remember 17 = .ok (.iload_n 2, 1) := by decide +kernel
theorem dX0_remember_18 : decode cX0_remember 18 = .ok (.bipush 7, 2) := by decide +kernel
theorem dX0_remember_20 : decode cX0_remember 20 = .ok (.invokestatic 25, 3) := by decide +kernel
theorem dX0_remember_23 : decode cX0_remember 23 = .ok (.aload_n 1, 1) := by decide +kernel
theorem dX0_remember_24 : decode cX0_remember 24 = .ok (.getfield 31, 3) := by decide +kernel
theorem dX0_remember_27 : decode cX0_remember 27 = .ok (.iconst 0, 1) := by decide +kernel
theorem dX0_remember_28 : decode cX0_remember 28 = .ok (.aload_n 0, 1) := by decide +kernel
theorem dX0_remember_29 : decode cX0_remember 29 = .ok (.getfield 11, 3) := by decide +kernel
theorem dX0_remember_32 : decode cX0_remember 32 = .ok (.iload_n 2, 1) := by decide +kernel
theorem dX0_remember_33 : decode cX0_remember 33 = .ok (.bipush 7, 2) := by decide +kernel
theorem dX0_remember_35 : decode cX0_remember 35 = .ok (.iadd, 1) := by decide +kernel
theorem dX0_remember_36 : decode cX0_remember 36 = .ok (.bipush 6, 2) := by decide +kernel
theorem dX0_remember_38 : decode cX0_remember 38 = .ok (.invokestatic 25, 3) := by decide +kernel
theorem dX0_remember_41 : decode cX0_remember 41 = .ok (.aload_n 1, 1) := by decide +kernel
theorem dX0_remember_42 : decode cX0_remember 42 = .ok (.getfield 34, 3) := by decide +kernel
theorem dX0_remember_45 : decode cX0_remember 45 = .ok (.iconst 0, 1) := by decide +kernel
theorem dX0_remember_46 : decode cX0_remember 46 = .ok (.aload_n 0, 1) := by decide +kernel
theorem dX0_remember_47 : decode cX0_remember 47 = .ok (.getfield 11, 3) := by decide +kernel
theorem dX0_remember_50 : decode cX0_remember 50 = .ok (.iload_n 2, 1) := by decide +kernel
theorem dX0_remember_51 : decode cX0_remember 51 = .ok (.bipush 13, 2) := by decide +kernel
theorem dX0_remember_53 : decode cX0_remember 53 = .ok (.iadd, 1) := by decide +kernel
theorem dX0_remember_54 : decode cX0_remember 54 = .ok (.bipush 6, 2) := by decide +kernel
theorem dX0_remember_56 : decode cX0_remember 56 = .ok (.invokestatic 25, 3) := by decide +kernel
theorem dX0_remember_59 : decode cX0_remember 59 = .ok (.aload_n 0, 1) := by decide +kernel
theorem dX0_remember_60 : decode cX0_remember 60 = .ok (.getfield 11, 3) := by decide +kernel
theorem dX0_remember_63 : decode cX0_remember 63 = .ok (.iload_n 2, 1) := by decide +kernel
theorem dX0_remember_64 : decode cX0_remember 64 = .ok (.bipush 19, 2) := by decide +kernel
theorem dX0_remember_66 : decode cX0_remember 66 = .ok (.iadd, 1) := by decide +kernel
theorem dX0_remember_67 : decode cX0_remember 67 = .ok (.aload_n 1, 1) := by decide +kernel
theorem dX0_remember_68 : decode cX0_remember 68 = .ok (.getfield 37, 3) := by decide +kernel
theorem dX0_remember_71 : decode cX0_remember 71 = .ok (.iastore, 1) := by decide +kernel
theorem dX0_remember_72 : decode cX0_remember 72 = .ok (.aload_n 0, 1) := by decide +kernel
theorem dX0_remember_73 : decode cX0_remember 73 = .ok (.getfield 11, 3) := by decide +kernel
theorem dX0_remember_76 : decode cX0_remember 76 = .ok (.iload_n 2, 1) := by decide +kernel
theorem dX0_remember_77 : decode cX0_remember 77 = .ok (.bipush 20, 2) := by decide +kernel
theorem dX0_remember_79 : decode cX0_remember 79 = .ok (.iadd, 1) := by decide +kernel
theorem dX0_remember_80 : decode cX0_remember 80 = .ok (.aload_n 1, 1) := by decide +kernel
theorem dX0_remember_81 : decode cX0_remember 81 = .ok (.getfield 40, 3) := by decide +kernel
theorem dX0_remember_84 : decode cX0_remember 84 = .ok (.iastore, 1) := by decide +kernel
theorem dX0_remember_85 : decode cX0_remember 85 = .ok (.aload_n 0, 1) := by decide +kernel
theorem dX0_remember_86 : decode cX0_remember 86 = .ok (.aload_n 0, 1) := by decide +kernel
theorem dX0_remember_87 : decode cX0_remember 87 = .ok (.getfield 15, 3) := by decide +kernel
theorem dX0_remember_90 : decode cX0_remember 90 = .ok (.iconst 1, 1) := by decide +kernel
theorem dX0_remember_91 : decode cX0_remember 91 = .ok (.iadd, 1) := by decide +kernel
theorem dX0_remember_92 : decode cX0_remember 92 = .ok (.bipush 8, 2) := by decide +kernel
theorem dX0_remember_94 : decode cX0_remember 94 = .ok (.irem, 1) := by decide +kernel
theorem dX0_remember_95 : decode cX0_remember 95 = .ok (.putfield 15, 3) := by decide +kernel
theorem dX0_remember_98 : decode cX0_remember 98 = .ok (.aload_n 0, 1) := by decide +kernel
theorem dX0_remember_99 : decode cX0_remember 99 = .ok (.bipush 8, 2) := by decide +kernel
theorem dX0_remember_101 : decode cX0_remember 101 = .ok (.aload_n 0, 1) := by decide +kernel
theorem dX0_remember_102 : decode cX0_remember 102 = .ok (.getfield 19, 3) := by decide +kernel
theorem dX0_remember_105 : decode cX0_remember 105 = .ok (.iconst 1, 1) := by decide +kernel
theorem dX0_remember_106 : decode cX0_remember 106 = .ok (.iadd, 1) := by decide +kernel
theorem dX0_remember_107 : decode cX0_remember 107 = .ok (.invokestatic 43, 3) := by decide +kernel
theorem dX0_remember_110 : decode cX0_remember 110 = .ok (.putfield 19, 3) := by decide +kernel
theorem dX0_remember_113 : decode cX0_remember 113 = .ok (.return_, 1) := by decide +kernel
theorem dX0_recall_0 : decode cX0_recall 0 = .ok (.aload_n 0, 1) := by decide +kernel
theorem dX0_recall_1 : decode cX0_recall 1 = .ok (.getfield 19, 3) := by decide +kernel
theorem dX0_recall_4 : decode cX0_recall 4 = .ok (.ifCond .ne 5, 3) := by decide +kernel
theorem dX0_recall_7 : decode cX0_recall 7 = .ok (.iconst 0, 1) := by decide +kernel
theorem dX0_recall_8 : decode cX0_recall 8 = .ok (.ireturn, 1) := by decide +kernel
theorem dX0_recall_9 : decode cX0_recall 9 = .ok (.aload_n 0, 1) := by decide +kernel
theorem dX0_recall_10 : decode cX0_recall 10 = .ok (.dup, 1) := by decide +kernel
theorem dX0_recall_11 : decode cX0_recall 11 = .ok (.getfield 19, 3) := by decide +kernel
theorem dX0_recall_14 : decode cX0_recall 14 = .ok (.iconst 1, 1) := by decide +kernel
theorem dX0_recall_15 : decode cX0_recall 15 = .ok (.isub, 1) := by decide +kernel
theorem dX0_recall_16 : decode cX0_recall 16 = .ok (.putfield 19, 3) := by decide +kernel
theorem dX0_recall_19 : decode cX0_recall 19 = .ok (.aload_n 0, 1) := by decide +kernel
theorem dX0_recall_20 : decode cX0_recall 20 = .ok (.aload_n 0, 1) := by decide +kernel
theorem dX0_recall_21 : decode cX0_recall 21 = .ok (.getfield 15, 3) := by decide +kernel
theorem dX0_recall_24 : decode cX0_recall 24 = .ok (.bipush 8, 2) := by decide +kernel
theorem dX0_recall_26 : decode cX0_recall 26 = .ok (.iadd, 1) := by decide +kernel
theorem dX0_recall_27 : decode cX0_recall 27 = .ok (.iconst 1, 1) := by decide +kernel
theorem dX0_recall_28 : decode cX0_recall 28 = .ok (.isub, 1) := by decide +kernel
theorem dX0_recall_29 : decode cX0_recall 29 = .ok (.bipush 8, 2) := by decide +kernel
theorem dX0_recall_31 : decode cX0_recall 31 = .ok (.irem, 1) := by decide +kernel
theorem dX0_recall_32 : decode cX0_recall 32 = .ok (.putfield 15, 3) := by decide +kernel
theorem dX0_recall_35 : decode cX0_recall 35 = .ok (.aload_n 0, 1) := by decide +kernel
theorem dX0_recall_36 : decode cX0_recall 36 = .ok (.getfield 15, 3) := by decide +kernel
theorem dX0_recall_39 : decode cX0_recall 39 = .ok (.bipush 21, 2) := by decide +kernel
theorem dX0_recall_41 : decode cX0_recall 41 = .ok (.imul, 1) := by decide +kernel
theorem dX0_recall_42 : decode cX0_recall 42 = .ok (.istore_n 2, 1) := by decide +kernel
theorem dX0_recall_43 : decode cX0_recall 43 = .ok (.aload_n 0, 1) := by decide +kernel
theorem dX0_recall_44 : decode cX0_recall 44 = .ok (.getfield 11, 3) := by decide +kernel
theorem dX0_recall_47 : decode cX0_recall 47 = .ok (.iload_n 2, 1) := by decide +kernel
theorem dX0_recall_48 : decode cX0_recall 48 = .ok (.aload_n 1, 1) := by decide +kernel
theorem dX0_recall_49 : decode cX0_recall 49 = .ok (.getfield 22, 3) := by decide +kernel
theorem dX0_recall_52 : decode cX0_recall 52 = .ok (.iconst 0, 1) := by decide +kernel
theorem dX0_recall_53 : decode cX0_recall 53 = .ok (.bipush 7, 2) := by decide +kernel
theorem dX0_recall_55 : decode cX0_recall 55 = .ok (.invokestatic 25, 3) := by decide +kernel
theorem dX0_recall_58 : decode cX0_recall 58 = .ok (.aload_n 0, 1) := by decide +kernel
theorem dX0_recall_59 : decode cX0_recall 59 = .ok (.getfield 11, 3) := by decide +kernel
theorem dX0_recall_62 : decode cX0_recall 62 = .ok (.iload_n 2, 1) := by decide +kernel
theorem dX0_recall_63 : decode cX0_recall 63 = .ok (.bipush 7, 2) := by decide +kernel
theorem dX0_recall_65 : decode cX0_recall 65 = .ok (.iadd, 1) := by decide +kernel
theorem dX0_recall_66 : decode cX0_recall 66 = .ok (.aload_n 1, 1) := by decide +kernel
theorem dX0_recall_67 : decode cX0_recall 67 = .ok (.getfield 31, 3) := by decide +kernel
theorem dX0_recall_70 : decode cX0_recall 70 = .ok (.iconst 0, 1) := by decide +kernel
theorem dX0_recall_71 : decode cX0_recall 71 = .ok (.bipush 6, 2) := by decide +kernel
theorem dX0_recall_73 : decode cX0_recall 73 = .ok (.invokestatic 25, 3) := by decide +kernel
theorem dX0_recall_76 : decode cX0_recall 76 = .ok (.aload_n 0, 1) := by decide +kernel
theorem dX0_recall_77 : decode cX0_recall 77 = .ok (.getfield 11, 3) := by decide +kernel
theorem dX0_recall_80 : decode cX0_recall 80 = .ok (.iload_n 2, 1) := by decide +kernel
theorem dX0_recall_81 : decode cX0_recall 81 = .ok (.bipush 13, 2) := by decide +kernel
theorem dX0_recall_83 : decode cX0_recall 83 = .ok (.iadd, 1) := by decide +kernel
theorem dX0_recall_84 : decode cX0_recall 84 = .ok (.aload_n 1, 1) := by decide +kernel
theorem dX0_recall_85 : decode cX0_recall 85 = .ok (.getfield 34, 3) := by decide +kernel
theorem dX0_recall_88 : decode cX0_recall 88 = .ok (.iconst 0, 1) := by decide +kernel
theorem dX0_recall_89 : decode cX0_recall 89 = .ok (.bipush 6, 2) := by decide +kernel
theorem dX0_recall_91 : decode cX0_recall 91 = .ok (.invokestatic 25, 3) := by decide +kernel
theorem dX0_recall_94 : decode cX0_recall 94 = .ok (.aload_n 1, 1) := by decide +kernel
theorem dX0_recall_95 : decode cX0_recall 95 = .ok (.aload_n 0, 1) := by decide +kernel
theorem dX0_recall_96 : decode cX0_recall 96 = .ok (.getfield 11, 3) := by decide +kernel
theorem dX0_recall_99 : decode cX0_recall 99 = .ok (.iload_n 2, 1) := by decide +kernel
theorem dX0_recall_100 : decode cX0_recall 100 = .ok (.bipush 19, 2) := by decide +kernel
theorem dX0_recall_102 : decode cX0_recall 102 = .ok (.iadd, 1) := by decide +kernel
theorem dX0_recall_103 : decode cX0_recall 103 = .ok (.iaload, 1) := by decide +kernel
theorem dX0_recall_104 : decode cX0_recall 104 = .ok (.putfield 37, 3) := by decide +kernel
theorem dX0_recall_107 : decode cX0_recall 107 = .ok (.aload_n 1, 1) := by decide +kernel
theorem dX0_recall_108 : decode cX0_recall 108 = .ok (.aload_n 0, 1) := by decide +kernel
theorem dX0_recall_109 : decode cX0_recall 109 = .ok (.getfield 11, 3) := by decide +kernel
theorem dX0_recall_112 : decode cX0_recall 112 = .ok (.iload_n 2, 1) := by decide +kernel
theorem dX0_recall_113 : decode cX0_recall 113 = .ok (.bipush 20, 2) := by decide +kernel
theorem dX0_recall_115 : decode cX0_recall 115 = .ok (.iadd, 1) := by decide +kernel
theorem dX0_recall_116 : decode cX0_recall 116 = .ok (.iaload, 1) := by decide +kernel
theorem dX0_recall_117 : decode cX0_recall 117 = .ok (.putfield 40, 3) := by decide +kernel
theorem dX0_recall_120 : decode cX0_recall 120 = .ok (.iconst 1, 1) := by decide +kernel
theorem dX0_recall_121 : decode cX0_recall 121 = .ok (.ireturn, 1) := by decide +kernel
theorem dX0_forget_0 : decode cX0_forget 0 = .ok (.aload_n 0, 1) := by decide +kernel
theorem dX0_forget_1 : decode cX0_forget 1 = .ok (.iconst 0, 1) := by decide +kernel
theorem dX0_forget_2 : decode cX0_forget 2 = .ok (.putfield 19, 3) := by decide +kernel
theorem dX0_forget_5 : decode cX0_forget 5 = .ok (.return_, 1) := by decide +kernel
theorem dX0_copyFrom_0 : decode cX0_copyFrom 0 = .ok (.aload_n 1, 1) := by decide +kernel
theorem dX0_copyFrom_1 : decode cX0_copyFrom 1 = .ok (.getfield 11, 3) := by decide +kernel
theorem dX0_copyFrom_4 : decode cX0_copyFrom 4 = .ok (.iconst 0, 1) := by decide +kernel
theorem dX0_copyFrom_5 : decode cX0_copyFrom 5 = .ok (.aload_n 0, 1) := by decide +kernel
theorem dX0_copyFrom_6 : decode cX0_copyFrom 6 = .ok (.getfield 11, 3) := by decide +kernel
theorem dX0_copyFrom_9 : decode cX0_copyFrom 9 = .ok (.iconst 0, 1) := by decide +kernel
theorem dX0_copyFrom_10 : decode cX0_copyFrom 10 = .ok (.sipush 168, 3) := by decide +kernel
theorem dX0_copyFrom_13 : decode cX0_copyFrom 13 = .ok (.invokestatic 25, 3) := by decide +kernel
theorem dX0_copyFrom_16 : decode cX0_copyFrom 16 = .ok (.aload_n 0, 1) := by decide +kernel
theorem dX0_copyFrom_17 : decode cX0_copyFrom 17 = .ok (.aload_n 1, 1) := by decide +kernel
theorem dX0_copyFrom_18 : decode cX0_copyFrom 18 = .ok (.getfield 15, 3) := by decide +kernel
theorem dX0_copyFrom_21 : decode cX0_copyFrom 21 = .ok (.putfield 15, 3) := by decide +kernel
theorem dX0_copyFrom_24 : decode cX0_copyFrom 24 = .ok (.aload_n 0, 1) := by decide +kernel
theorem dX0_copyFrom_25 : decode cX0_copyFrom 25 = .ok (.aload_n 1, 1) := by decide +kernel
theorem dX0_copyFrom_26 : decode cX0_copyFrom 26 = .ok (.getfield 19, 3) := by decide +kernel
theorem dX0_copyFrom_29 : decode cX0_copyFrom 29 = .ok (.putfield 19, 3) := by decide +kernel
theorem dX0_copyFrom_32 : decode cX0_copyFrom 32 = .ok (.return_, 1) := by decide +kernel
theorem dX1_init_0 : decode cX1_init 0 = .ok (.aload_n 0, 1) := by decide +kernel
theorem dX1_init_1 : decode cX1_init 1 = .ok (.invokespecial 3, 3) := by decide +kernel
theorem dX1_init_4 : decode cX1_init 4 = .ok (.aload_n 0, 1) := by decide +kernel
theorem dX1_init_5 : decode cX1_init 5 = .ok (.bipush 6, 2) := by decide +kernel
theorem dX1_init_7 : decode cX1_init 7 = .ok (.newarray .int, 2) := by decide +kernel
theorem dX1_init_9 : decode cX1_init 9 = .ok (.putfield 11, 3) := by decide +kernel
theorem dX1_init_12 : decode cX1_init 12 = .ok (.aload_n 0, 1) := by decide +kernel
theorem dX1_init_13 : decode cX1_init 13 = .ok (.bipush 7, 2) := by decide +kernel
theorem dX1_init_15 : decode cX1_init 15 = .ok (.newarray .int, 2) := by decide +kernel
theorem dX1_init_17 : decode cX1_init 17 = .ok (.putfield 17, 3) := by decide +kernel
theorem dX1_init_20 : decode cX1_init 20 = .ok (.aload_n 0, 1) := by decide +kernel
theorem dX1_init_21 : decode cX1_init 21 = .ok (.iconst 0, 1) := by decide +kernel
theorem dX1_init_22 : decode cX1_init 22 = .ok (.putfield 20, 3) := by decide +kernel
theorem dX1_init_25 : decode cX1_init 25 = .ok (.return_, 1) := by decide +kernel
theorem dX1_greatest_0 : decode cX1_greatest 0 = .ok (.iconst 0, 1) := by decide +kernel
theorem dX1_greatest_1 : decode cX1_greatest 1 = .ok (.istore_n 2, 1) := by decide +kernel
theorem dX1_greatest_2 : decode cX1_greatest 2 = .ok (.iload_n 2, 1) := by decide +kernel
theorem dX1_greatest_3 : decode cX1_greatest 3 = .ok (.bipush 7, 2) := by decide +kernel
theorem dX1_greatest_5 : decode cX1_greatest 5 = .ok (.if_icmp .ge 17, 3) := by decide +kernel
theorem dX1_greatest_8 : decode cX1_greatest 8 = .ok (.aload_n 0, 1) := by decide +kernel
theorem dX1_greatest_9 : decode cX1_greatest 9 = .ok (.getfield 17, 3) := by decide +kernel
theorem dX1_greatest_12 : decode cX1_greatest 12 = .ok (.iload_n 2, 1) := by decide +kernel
theorem dX1_greatest_13 : decode cX1_greatest 13 = .ok (.bipush (-4), 2) := by decide +kernel
theorem dX1_greatest_15 : decode cX1_greatest 15 = .ok (.iastore, 1) := by decide +kernel
theorem dX1_greatest_16 : decode cX1_greatest 16 = .ok (.iinc 2 1, 3) := by decide +kernel
theorem dX1_greatest_19 : decode cX1_greatest 19 = .ok (.goto (-17), 3) := by decide +kernel
theorem dX1_greatest_22 : decode cX1_greatest 22 = .ok (.iconst 0, 1) := by decide +kernel
theorem dX1_greatest_23 : decode cX1_greatest 23 = .ok (.istore_n 2, 1) := by decide +kernel
theorem dX1_greatest_24 : decode cX1_greatest 24 = .ok (.iconst 0, 1) := by decide +kernel
theorem dX1_greatest_25 : decode cX1_greatest 25 = .ok (.istore_n 3, 1) := by decide +kernel
theorem dX1_greatest_26 : decode cX1_greatest 26 = .ok (.iload_n 3, 1) := by decide +kernel
theorem dX1_greatest_27 : decode cX1_greatest 27 = .ok (.aload_n 1, 1) := by decide +kernel
theorem dX1_greatest_28 : decode cX1_greatest 28 = .ok (.getfield 24, 3) := by decide +kernel
theorem dX1_greatest_31 : decode cX1_greatest 31 = .ok (.if_icmp .ge 45, 3) := by decide +kernel
theorem dX1_greatest_34 : decode cX1_greatest 34 = .ok (.aload_n 0, 1) := by decide +kernel
theorem dX1_greatest_35 : decode cX1_greatest 35 = .ok (.getfield 11, 3) := by decide +kernel
theorem dX1_greatest_38 : decode cX1_greatest 38 = .ok (.iload_n 3, 1) := by decide +kernel
theorem dX1_greatest_39 : decode cX1_greatest 39 = .ok (.aload_n 1, 1) := by decide +kernel
theorem dX1_greatest_40 : decode cX1_greatest 40 = .ok (.iload_n 3, 1) := by decide +kernel
theorem dX1_greatest_41 : decode cX1_greatest 41 = .ok (.invokevirtual 27, 3) := by decide +kernel
theorem dX1_greatest_44 : decode cX1_greatest 44 = .ok (.iastore, 1) := by decide +kernel
theorem dX1_greatest_45 : decode cX1_greatest 45 = .ok (.aload_n 0, 1) := by decide +kernel
theorem dX1_greatest_46 : decode cX1_greatest 46 = .ok (.iconst 0, 1) := by decide +kernel
theorem dX1_greatest_47 : decode cX1_greatest 47 = .ok (.putfield 20, 3) := by decide +kernel
theorem dX1_greatest_50 : decode cX1_greatest 50 = .ok (.aload_n 1, 1) := by decide +kernel
theorem dX1_greatest_51 : decode cX1_greatest 51 = .ok (.iload_n 3, 1) := by decide +kernel
theorem dX1_greatest_52 : decode cX1_greatest 52 = .ok (.invokevirtual 31, 3) := by decide +kernel
theorem dX1_greatest_55 : decode cX1_greatest 55 = .ok (.ifCond .ne 15, 3) := by decide +kernel
theorem dX1_greatest_58 : decode cX1_greatest 58 = .ok (.aload_n 0, 1) := by decide +kernel
theorem dX1_greatest_59 : decode cX1_greatest 59 = .ok (.iload_n 3, 1) := by decide +kernel
theorem dX1_greatest_60 : decode cX1_greatest 60 = .ok (.iconst 0, 1) := by decide +kernel
theorem dX1_greatest_61 : decode cX1_greatest 61 = .ok (.invokevirtual 35, 3) := by decide +kernel
theorem dX1_greatest_64 : decode cX1_greatest 64 = .ok (.ifCond .eq 6, 3) := by decide +kernel
theorem dX1_greatest_67 : decode cX1_greatest 67 = .ok (.iinc 2 1, 3) := by decide +kernel
theorem dX1_greatest_70 : decode cX1_greatest 70 = .ok (.iinc 3 1, 3) := by decide +kernel
theorem dX1_greatest_73 : decode cX1_greatest 73 = .ok (.goto (-47), 3) := by decide +kernel
theorem dX1_greatest_76 : decode cX1_greatest 76 = .ok (.iload_n 2, 1) := by decide +kernel
theorem dX1_greatest_77 : decode cX1_greatest 77 = .ok (.ireturn, 1) := by decide +kernel
theorem dX1_findsOne_0 : decode cX1_findsOne 0 = .ok (.iload_n 2, 1) := by decide +kernel
theorem dX1_findsOne_1 : decode cX1_findsOne 1 = .ok (.bipush 7, 2) := by decide +kernel
theorem dX1_findsOne_3 : decode cX1_findsOne 3 = .ok (.if_icmp .le 5, 3) := by decide +kernel
theorem dX1_findsOne_6 : decode cX1_findsOne 6 = .ok (.iconst 0, 1) := by decide +kernel
theorem dX1_findsOne_7 : decode cX1_findsOne 7 = .ok (.ireturn, 1) := by decide +kernel
theorem dX1_findsOne_8 : decode cX1_findsOne 8 = .ok (.iconst 0, 1) := by decide +kernel
theorem dX1_findsOne_9 : decode cX1_findsOne 9 = .ok (.istore_n 3, 1) := by decide +kernel
theorem dX1_findsOne_10 : decode cX1_findsOne 10 = .ok (.iload_n 3, 1) := by decide +kernel
theorem dX1_findsOne_11 : decode cX1_findsOne 11 = .ok (.bipush 7, 2) := by decide +kernel
theorem dX1_findsOne_13 : decode cX1_findsOne 13 = .ok (.if_icmp .ge 81, 3) := by decide +kernel
theorem dX1_findsOne_16 : decode cX1_findsOne 16 = .ok (.iconst 1, 1) := by decide +kernel
theorem dX1_findsOne_17 : decode cX1_findsOne 17 = .ok (.iload_n 3, 1) := by decide +kernel
theorem dX1_findsOne_18 : decode cX1_findsOne 18 = .ok (.ishl, 1) := by decide +kernel
theorem dX1_findsOne_19 : decode cX1_findsOne 19 = .ok (.istore 4, 2) := by decide +kernel
theorem dX1_findsOne_21 : decode cX1_findsOne 21 = .ok (.aload_n 0, 1) := by decide +kernel
theorem dX1_findsOne_22 : decode cX1_findsOne 22 = .ok (.getfield 11, 3) := by decide +kernel
theorem dX1_findsOne_25 : decode cX1_findsOne 25 = .ok (.iload_n 1, 1) := by decide +kernel
theorem dX1_findsOne_26 : decode cX1_findsOne 26 = .ok (.iaload, 1) := by decide +kernel
theorem dX1_findsOne_27 : decode cX1_findsOne 27 = .ok (.aload_n 0, 1) := by decide +kernel
theorem dX1_findsOne_28 : decode cX1_findsOne 28 = .ok (.getfield 20, 3) := by decide +kernel
theorem dX1_findsOne_31 : decode cX1_findsOne 31 = .ok (.iconst (-1), 1) := by decide +kernel
theorem dX1_findsOne_32 : decode cX1_findsOne 32 = .ok (.ixor, 1) := by decide +kernel
theorem dX1_findsOne_33 : decode cX1_findsOne 33 = .ok (.iand, 1) := by decide +kernel
theorem dX1_findsOne_34 : decode cX1_findsOne 34 = .ok (.iload 4, 2) := by decide +kernel
theorem dX1_findsOne_36 : decode cX1_findsOne 36 = .ok (.iand, 1) := by decide +kernel
theorem dX1_findsOne_37 : decode cX1_findsOne 37 = .ok (.ifCond .ne 6, 3) := by decide +kernel
theorem dX1_findsOne_40 : decode cX1_findsOne 40 = .ok (.goto 48, 3) := by decide +kernel
theorem dX1_findsOne_43 : decode cX1_findsOne 43 = .ok (.aload_n 0, 1) := by decide +kernel
theorem dX1_findsOne_44 : decode cX1_findsOne 44 = .ok (.dup, 1) := by decide +kernel
theorem dX1_findsOne_45 : decode cX1_findsOne 45 = .ok (.getfield 20, 3) := by decide +kernel
theorem dX1_findsOne_48 : decode cX1_findsOne 48 = .ok (.iload 4, 2) := by decide +kernel
theorem dX1_findsOne_50 : decode cX1_findsOne 50 = .ok (.ior, 1) := by decide +kernel
theorem dX1_findsOne_51 : decode cX1_findsOne 51 = .ok (.putfield 20, 3) := by decide +kernel
theorem dX1_findsOne_54 : decode cX1_findsOne 54 = .ok (.aload_n 0, 1) := by decide +kernel
theorem dX1_findsOne_55 : decode cX1_findsOne 55 = .ok (.getfield 17, 3) := by decide +kernel
theorem dX1_findsOne_58 : decode cX1_findsOne 58 = .ok (.iload_n 3, 1) := by decide +kernel
theorem dX1_findsOne_59 : decode cX1_findsOne 59 = .ok (.iaload, 1) := by decide +kernel
theorem dX1_findsOne_60 : decode cX1_findsOne 60 = .ok (.ifCond .lt 19, 3) := by decide +kernel
theorem dX1_findsOne_63 : decode cX1_findsOne 63 = .ok (.aload_n 0, 1) := by decide +kernel
theorem dX1_findsOne_64 : decode cX1_findsOne 64 = .ok (.aload_n 0, 1) := by decide +kernel
theorem dX1_findsOne_65 : decode cX1_findsOne 65 = .ok (.getfield 17, 3) := by decide +kernel
theorem dX1_findsOne_68 : decode cX1_findsOne 68 = .ok (.iload_n 3, 1) := by decide +kernel
theorem dX1_findsOne_69 : decode cX1_findsOne 69 = .ok (.iaload, 1) := by decide +kernel
theorem dX1_findsOne_70 : decode cX1_findsOne 70 = .ok (.iload_n 2, 1) := by decide +kernel
theorem dX1_findsOne_71 : decode cX1_findsOne 71 = .ok (.iconst 1, 1) := by decide +kernel
theorem dX1_findsOne_72 : decode cX1_findsOne 72 = .ok (.iadd, 1) := by decide +kernel
theorem dX1_findsOne_73 : decode cX1_findsOne 73 = .ok (.invokevirtual 35, 3) := by decide +kernel
theorem dX1_findsOne_76 : decode cX1_findsOne 76 = .ok (.ifCond .eq 12, 3) := by decide +kernel
theorem dX1_findsOne_79 : decode cX1_findsOne 79 = .ok (.aload_n 0, 1) := by decide +kernel
theorem dX1_findsOne_80 : decode cX1_findsOne 80 = .ok (.getfield 17, 3) := by decide +kernel
theorem dX1_findsOne_83 : decode cX1_findsOne 83 = .ok (.iload_n 3, 1) := by decide +kernel
theorem dX1_findsOne_84 : decode cX1_findsOne 84 = .ok (.iload_n 1, 1) := by decide +kernel
theorem dX1_findsOne_85 : decode cX1_findsOne 85 = .ok (.iastore, 1) := by decide +kernel
theorem dX1_findsOne_86 : decode cX1_findsOne 86 = .ok (.iconst 1, 1) := by decide +kernel
theorem dX1_findsOne_87 : decode cX1_findsOne 87 = .ok (.ireturn, 1) := by decide +kernel
theorem dX1_findsOne_88 : decode cX1_findsOne 88 = .ok (.iinc 3 1, 3) := by decide +kernel
theorem dX1_findsOne_91 : decode cX1_findsOne 91 = .ok (.goto (-81), 3) := by decide +kernel
theorem dX1_findsOne_94 : decode cX1_findsOne 94 = .ok (.iconst 0, 1) := by decide +kernel
theorem dX1_findsOne_95 : decode cX1_findsOne 95 = .ok (.ireturn, 1) := by decide +kernel
theorem dX2_init_0 : decode cX2_init 0 = .ok (.aload_n 0, 1) := by decide +kernel
theorem dX2_init_1 : decode cX2_init 1 = .ok (.invokespecial 3, 3) := by decide +kernel
theorem dX2_init_4 : decode cX2_init 4 = .ok (.aload_n 0, 1) := by decide +kernel
theorem dX2_init_5 : decode cX2_init 5 = .ok (.bipush 42, 2) := by decide +kernel
theorem dX2_init_7 : decode cX2_init 7 = .ok (.newarray .int, 2) := by decide +kernel
theorem dX2_init_9 : decode cX2_init 9 = .ok (.putfield 11, 3) := by decide +kernel
theorem dX2_init_12 : decode cX2_init 12 = .ok (.aload_n 0, 1) := by decide +kernel
theorem dX2_init_13 : decode cX2_init 13 = .ok (.bipush 6, 2) := by decide +kernel
theorem dX2_init_15 : decode cX2_init 15 = .ok (.newarray .int, 2) := by decide +kernel
theorem dX2_init_17 : decode cX2_init 17 = .ok (.putfield 17, 3) := by decide +kernel
theorem dX2_init_20 : decode cX2_init 20 = .ok (.aload_n 0, 1) := by decide +kernel
theorem dX2_init_21 : decode cX2_init 21 = .ok (.bipush 6, 2) := by decide +kernel
theorem dX2_init_23 : decode cX2_init 23 = .ok (.newarray .int, 2) := by decide +kernel
theorem dX2_init_25 : decode cX2_init 25 = .ok (.putfield 20, 3) := by decide +kernel
theorem dX2_init_28 : decode cX2_init 28 = .ok (.aload_n 0, 1) := by decide +kernel
theorem dX2_init_29 : decode cX2_init 29 = .ok (.iconst 0, 1) := by decide +kernel
theorem dX2_init_30 : decode cX2_init 30 = .ok (.putfield 23, 3) := by decide +kernel
theorem dX2_init_33 : decode cX2_init 33 = .ok (.aload_n 0, 1) := by decide +kernel
theorem dX2_init_34 : decode cX2_init 34 = .ok (.iconst 0, 1) := by decide +kernel
theorem dX2_init_35 : decode cX2_init 35 = .ok (.putfield 27, 3) := by decide +kernel
theorem dX2_init_38 : decode cX2_init 38 = .ok (.aload_n 0, 1) := by decide +kernel
theorem dX2_init_39 : decode cX2_init 39 = .ok (.iconst 0, 1) := by decide +kernel
theorem dX2_init_40 : decode cX2_init 40 = .ok (.putfield 30, 3) := by decide +kernel
theorem dX2_init_43 : decode cX2_init 43 = .ok (.return_, 1) := by decide +kernel
theorem dX2_search_0 : decode cX2_search 0 = .ok (.aload_n 1, 1) := by decide +kernel
theorem dX2_search_1 : decode cX2_search 1 = .ok (.invokevirtual 33, 3) := by decide +kernel
theorem dX2_search_4 : decode cX2_search 4 = .ok (.istore_n 3, 1) := by decide +kernel
theorem dX2_search_5 : decode cX2_search 5 = .ok (.iconst 1, 1) := by decide +kernel
theorem dX2_search_6 : decode cX2_search 6 = .ok (.aload_n 1, 1) := by decide +kernel
theorem dX2_search_7 : decode cX2_search 7 = .ok (.getfield 37, 3) := by decide +kernel
theorem dX2_search_10 : decode cX2_search 10 = .ok (.ishl, 1) := by decide +kernel
theorem dX2_search_11 : decode cX2_search 11 = .ok (.iconst 1, 1) := by decide +kernel
theorem dX2_search_12 : decode cX2_search 12 = .ok (.isub, 1) := by decide +kernel
theorem dX2_search_13 : decode cX2_search 13 = .ok (.iload_n 3, 1) := by decide +kernel
theorem dX2_search_14 : decode cX2_search 14 = .ok (.iconst (-1), 1) := by decide +kernel
theorem dX2_search_15 : decode cX2_search 15 = .ok (.ixor, 1) := by decide +kernel
theorem dX2_search_16 : decode cX2_search 16 = .ok (.iand, 1) := by decide +kernel
theorem dX2_search_17 : decode cX2_search 17 = .ok (.istore 4, 2) := by decide +kernel
theorem dX2_search_19 : decode cX2_search 19 = .ok (.aload_n 0, 1) := by decide +kernel
theorem dX2_search_20 : decode cX2_search 20 = .ok (.iload 4, 2) := by decide +kernel
theorem dX2_search_22 : decode cX2_search 22 = .ok (.invokestatic 40, 3) := by decide +kernel
theorem dX2_search_25 : decode cX2_search 25 = .ok (.putfield 23, 3) := by decide +kernel
theorem dX2_search_28 : decode cX2_search 28 = .ok (.aload_n 0, 1) := by decide +kernel
theorem dX2_search_29 : decode cX2_search 29 = .ok (.iload_n 2, 1) := by decide +kernel
theorem dX2_search_30 : decode cX2_search 30 = .ok (.putfield 27, 3) := by decide +kernel
theorem dX2_search_33 : decode cX2_search 33 = .ok (.aload_n 0, 1) := by decide +kernel
theorem dX2_search_34 : decode cX2_search 34 = .ok (.iconst (-1), 1) := by decide +kernel
theorem dX2_search_35 : decode cX2_search 35 = .ok (.putfield 30, 3) := by decide +kernel
theorem dX2_search_38 : decode cX2_search 38 = .ok (.iconst 0, 1) := by decide +kernel
theorem dX2_search_39 : decode cX2_search 39 = .ok (.istore 5, 2) := by decide +kernel
theorem dX2_search_41 : decode cX2_search 41 = .ok (.iload 5, 2) := by decide +kernel
theorem dX2_search_43 : decode cX2_search 43 = .ok (.aload_n 0, 1) := by decide +kernel
theorem dX2_search_44 : decode cX2_search 44 = .ok (.getfield 23, 3) := by decide +kernel
theorem dX2_search_47 : decode cX2_search 47 = .ok (.if_icmp .ge 32, 3) := by decide +kernel
theorem dX2_search_50 : decode cX2_search 50 = .ok (.aload_n 1, 1) := by decide +kernel
theorem dX2_search_51 : decode cX2_search 51 = .ok (.getfield 46, 3) := by decide +kernel
theorem dX2_search_54 : decode cX2_search 54 = .ok (.iconst 0, 1) := by decide +kernel
theorem dX2_search_55 : decode cX2_search 55 = .ok (.aload_n 0, 1) := by decide +kernel
theorem dX2_search_56 : decode cX2_search 56 = .ok (.getfield 11, 3) := by decide +kernel
theorem dX2_search_59 : decode cX2_search 59 = .ok (.iload 5, 2) := by decide +kernel
theorem dX2_search_61 : decode cX2_search 61 = .ok (.bipush 7, 2) := by decide +kernel
theorem dX2_search_63 : decode cX2_search 63 = .ok (.imul, 1) := by decide +kernel
theorem dX2_search_64 : decode cX2_search 64 = .ok (.bipush 7, 2) := by decide +kernel
theorem dX2_search_66 : decode cX2_search 66 = .ok (.invokestatic 49, 3) := by decide +kernel
theorem dX2_search_69 : decode cX2_search 69 = .ok (.aload_n 1, 1) := by decide +kernel
theorem dX2_search_70 : decode cX2_search 70 = .ok (.invokevirtual 55, 3) := by decide +kernel
theorem dX2_search_73 : decode cX2_search 73 = .ok (.iinc 5 1, 3) := by decide +kernel
theorem dX2_search_76 : decode cX2_search 76 = .ok (.goto (-35), 3) := by decide +kernel
theorem dX2_search_79 : decode cX2_search 79 = .ok (.aload_n 0, 1) := by decide +kernel
theorem dX2_search_80 : decode cX2_search 80 = .ok (.aload_n 1, 1) := by decide +kernel
theorem dX2_search_81 : decode cX2_search 81 = .ok (.iconst 0, 1) := by decide +kernel
theorem dX2_search_82 : decode cX2_search 82 = .ok (.iload 4, 2) := by decide +kernel
theorem dX2_search_84 : decode cX2_search 84 = .ok (.aload_n 1, 1) := by decide +kernel
theorem dX2_search_85 : decode cX2_search 85 = .ok (.invokevirtual 58, 3) := by decide +kernel
theorem dX2_search_88 : decode cX2_search 88 = .ok (.iload_n 3, 1) := by decide +kernel
theorem dX2_search_89 : decode cX2_search 89 = .ok (.invokestatic 40, 3) := by decide +kernel
theorem dX2_search_92 : decode cX2_search 92 = .ok (.invokevirtual 61, 3) := by decide +kernel
theorem dX2_search_95 : decode cX2_search 95 = .ok (.return_, 1) := by decide +kernel
theorem dX2_nth_0 : decode cX2_nth 0 = .ok (.iload_n 1, 1) := by decide +kernel
theorem dX2_nth_1 : decode cX2_nth 1 = .ok (.ifCond .lt 20, 3) := by decide +kernel
theorem dX2_nth_4 : decode cX2_nth 4 = .ok (.iload_n 1, 1) := by decide +kernel
theorem dX2_nth_5 : decode cX2_nth 5 = .ok (.aload_n 0, 1) := by decide +kernel
theorem dX2_nth_6 : decode cX2_nth 6 = .ok (.getfield 23, 3) := by decide +kernel
theorem dX2_nth_9 : decode cX2_nth 9 = .ok (.if_icmp .ge 12, 3) := by decide +kernel
theorem dX2_nth_12 : decode cX2_nth 12 = .ok (.aload_n 0, 1) := by decide +kernel
theorem dX2_nth_13 : decode cX2_nth 13 = .ok (.getfield 20, 3) := by decide +kernel
theorem dX2_nth_16 : decode cX2_nth 16 = .ok (.iload_n 1, 1) := by decide +kernel
theorem dX2_nth_17 : decode cX2_nth 17 = .ok (.iaload, 1) := by decide +kernel
theorem dX2_nth_18 : decode cX2_nth 18 = .ok (.goto 5, 3) := by decide +kernel
theorem dX2_nth_21 : decode cX2_nth 21 = .ok (.bipush (-4), 2) := by decide +kernel
theorem dX2_nth_23 : decode cX2_nth 23 = .ok (.ireturn, 1) := by decide +kernel
theorem dX2_choose_0 : decode cX2_choose 0 = .ok (.iload 5, 2) := by decide +kernel
theorem dX2_choose_2 : decode cX2_choose 2 = .ok (.aload_n 0, 1) := by decide +kernel
theorem dX2_choose_3 : decode cX2_choose 3 = .ok (.getfield 23, 3) := by decide +kernel
theorem dX2_choose_6 : decode cX2_choose 6 = .ok (.iadd, 1) := by decide +kernel
theorem dX2_choose_7 : decode cX2_choose 7 = .ok (.iload_n 2, 1) := by decide +kernel
theorem dX2_choose_8 : decode cX2_choose 8 = .ok (.isub, 1) := by decide +kernel
theorem dX2_choose_9 : decode cX2_choose 9 = .ok (.aload_n 0, 1) := by decide +kernel
theorem dX2_choose_10 : decode cX2_choose 10 = .ok (.getfield 30, 3) := by decide +kernel
theorem dX2_choose_13 : decode cX2_choose 13 = .ok (.if_icmp .gt 4, 3) := by decide +kernel
theorem dX2_choose_16 : decode cX2_choose 16 = .ok (.return_, 1) := by decide +kernel
theorem dX2_choose_17 : decode cX2_choose 17 = .ok (.iload_n 2, 1) := by decide +kernel
theorem dX2_choose_18 : decode cX2_choose 18 = .ok (.aload_n 0, 1) := by decide +kernel
theorem dX2_choose_19 : decode cX2_choose 19 = .ok (.getfield 23, 3) := by decide +kernel
theorem dX2_choose_22 : decode cX2_choose 22 = .ok (.if_icmp .lt 27, 3) := by decide +kernel
theorem dX2_choose_25 : decode cX2_choose 25 = .ok (.aload_n 0, 1) := by decide +kernel
theorem dX2_choose_26 : decode cX2_choose 26 = .ok (.iload 5, 2) := by decide +kernel
theorem dX2_choose_28 : decode cX2_choose 28 = .ok (.putfield 30, 3) := by decide +kernel
theorem dX2_choose_31 : decode cX2_choose 31 = .ok (.aload_n 0, 1) := by decide +kernel
theorem dX2_choose_32 : decode cX2_choose 32 = .ok (.getfield 17, 3) := by decide +kernel
theorem dX2_choose_35 : decode cX2_choose 35 = .ok (.iconst 0, 1) := by decide +kernel
theorem dX2_choose_36 : decode cX2_choose 36 = .ok (.aload_n 0, 1) := by decide +kernel
theorem dX2_choose_37 : decode cX2_choose 37 = .ok (.getfield 20, 3) := by decide +kernel
theorem dX2_choose_40 : decode cX2_choose 40 = .ok (.iconst 0, 1) := by decide +kernel
theorem dX2_choose_41 : decode cX2_choose 41 = .ok (.aload_n 0, 1) := by decide +kernel
theorem dX2_choose_42 : decode cX2_choose 42 = .ok (.getfield 23, 3) := by decide +kernel
theorem dX2_choose_45 : decode cX2_choose 45 = .ok (.invokestatic 49, 3) := by decide +kernel
theorem dX2_choose_48 : decode cX2_choose 48 = .ok (.return_, 1) := by decide +kernel
theorem dX2_choose_49 : decode cX2_choose 49 = .ok (.iconst 0, 1) := by decide +kernel
theorem dX2_choose_50 : decode cX2_choose 50 = .ok (.istore 6, 2) := by decide +kernel
theorem dX2_choose_52 : decode cX2_choose 52 = .ok (.iload 6, 2) := by decide +kernel
theorem dX2_choose_54 : decode cX2_choose 54 = .ok (.aload_n 1, 1) := by decide +kernel
theorem dX2_choose_55 : decode cX2_choose 55 = .ok (.getfield 37, 3) := by decide +kernel
theorem dX2_choose_58 : decode cX2_choose 58 = .ok (.if_icmp .ge 113, 3) := by decide +kernel
theorem dX2_choose_61 : decode cX2_choose 61 = .ok (.iload_n 3, 1) := by decide +kernel
theorem dX2_choose_62 : decode cX2_choose 62 = .ok (.iload 6, 2) := by decide +kernel
theorem dX2_choose_64 : decode cX2_choose 64 = .ok (.ishr, 1) := by decide +kernel
theorem dX2_choose_65 : decode cX2_choose 65 = .ok (.iconst 1, 1) := by decide +kernel
theorem dX2_choose_66 : decode cX2_choose 66 = .ok (.iand, 1) := by decide +kernel
theorem dX2_choose_67 : decode cX2_choose 67 = .ok (.ifCond .ne 6, 3) := by decide +kernel
theorem dX2_choose_70 : decode cX2_choose 70 = .ok (.goto 95, 3) := by decide +kernel
theorem dX2_choose_73 : decode cX2_choose 73 = .ok (.aload_n 0, 1) := by decide +kernel
theorem dX2_choose_74 : decode cX2_choose 74 = .ok (.getfield 17, 3) := by decide +kernel
theorem dX2_choose_77 : decode cX2_choose 77 = .ok (.iload_n 2, 1) := by decide +kernel
theorem dX2_choose_78 : decode cX2_choose 78 = .ok (.iload 6, 2) := by decide +kernel
theorem dX2_choose_80 : decode cX2_choose 80 = .ok (.iastore, 1) := by decide +kernel
theorem dX2_choose_81 : decode cX2_choose 81 = .ok (.iload_n 2, 1) := by decide +kernel
theorem dX2_choose_82 : decode cX2_choose 82 = .ok (.aload_n 0, 1) := by decide +kernel
theorem dX2_choose_83 : decode cX2_choose 83 = .ok (.getfield 27, 3) := by decide +kernel
theorem dX2_choose_86 : decode cX2_choose 86 = .ok (.if_icmp .ge 22, 3) := by decide +kernel
theorem dX2_choose_89 : decode cX2_choose 89 = .ok (.aload_n 1, 1) := by decide +kernel
theorem dX2_choose_90 : decode cX2_choose 90 = .ok (.iload 6, 2) := by decide +kernel
theorem dX2_choose_92 : decode cX2_choose 92 = .ok (.iload 4, 2) := by decide +kernel
theorem dX2_choose_94 : decode cX2_choose 94 = .ok (.aload_n 0, 1) := by decide +kernel
theorem dX2_choose_95 : decode cX2_choose 95 = .ok (.getfield 11, 3) := by decide +kernel
theorem dX2_choose_98 : decode cX2_choose 98 = .ok (.iload_n 2, 1) := by decide +kernel
theorem dX2_choose_99 : decode cX2_choose 99 = .ok (.bipush 7, 2) := by decide +kernel
theorem dX2_choose_101 : decode cX2_choose 101 = .ok (.imul, 1) := by decide +kernel
theorem dX2_choose_102 : decode cX2_choose 102 = .ok (.invokevirtual 65, 3) := by decide +kernel
theorem dX2_choose_105 : decode cX2_choose 105 = .ok (.goto 5, 3) := by decide +kernel
theorem dX2_choose_108 : decode cX2_choose 108 = .ok (.bipush (-4), 2) := by decide +kernel
theorem dX2_choose_110 : decode cX2_choose 110 = .ok (.istore 7, 2) := by decide +kernel
theorem dX2_choose_112 : decode cX2_choose 112 = .ok (.iload_n 3, 1) := by decide +kernel
theorem dX2_choose_113 : decode cX2_choose 113 = .ok (.iconst 1, 1) := by decide +kernel
theorem dX2_choose_114 : decode cX2_choose 114 = .ok (.iload 6, 2) := by decide +kernel
theorem dX2_choose_116 : decode cX2_choose 116 = .ok (.ishl, 1) := by decide +kernel
theorem dX2_choose_117 : decode cX2_choose 117 = .ok (.iconst (-1), 1) := by decide +kernel
theorem dX2_choose_118 : decode cX2_choose 118 = .ok (.ixor, 1) := by decide +kernel
theorem dX2_choose_119 : decode cX2_choose 119 = .ok (.iand, 1) := by decide +kernel
theorem dX2_choose_120 : decode cX2_choose 120 = .ok (.istore 8, 2) := by decide +kernel
theorem dX2_choose_122 : decode cX2_choose 122 = .ok (.iload 7, 2) := by decide +kernel
theorem dX2_choose_124 : decode cX2_choose 124 = .ok (.ifCond .ge 20, 3) := by decide +kernel
theorem dX2_choose_127 : decode cX2_choose 127 = .ok (.aload_n 0, 1) := by decide +kernel
theorem dX2_choose_128 : decode cX2_choose 128 = .ok (.aload_n 1, 1) := by decide +kernel
theorem dX2_choose_129 : decode cX2_choose 129 = .ok (.iload_n 2, 1) := by decide +kernel
theorem dX2_choose_130 : decode cX2_choose 130 = .ok (.iconst 1, 1) := by decide +kernel
theorem dX2_choose_131 : decode cX2_choose 131 = .ok (.iadd, 1) := by decide +kernel
theorem dX2_choose_132 : decode cX2_choose 132 = .ok (.iload 8, 2) := by decide +kernel
theorem dX2_choose_134 : decode cX2_choose 134 = .ok (.iload 4, 2) := by decide +kernel
theorem dX2_choose_136 : decode cX2_choose 136 = .ok (.iload 5, 2) := by decide +kernel
theorem dX2_choose_138 : decode cX2_choose 138 = .ok (.invokevirtual 61, 3) := by decide +kernel
theorem dX2_choose_141 : decode cX2_choose 141 = .ok (.goto 24, 3) := by decide +kernel
theorem dX2_choose_144 : decode cX2_choose 144 = .ok (.aload_n 0, 1) := by decide +kernel
theorem dX2_choose_145 : decode cX2_choose 145 = .ok (.aload_n 1, 1) := by decide +kernel
theorem dX2_choose_146 : decode cX2_choose 146 = .ok (.iload_n 2, 1) := by decide +kernel
theorem dX2_choose_147 : decode cX2_choose 147 = .ok (.iconst 1, 1) := by decide +kernel
theorem dX2_choose_148 : decode cX2_choose 148 = .ok (.iadd, 1) := by decide +kernel
theorem dX2_choose_149 : decode cX2_choose 149 = .ok (.iload 8, 2) := by decide +kernel
theorem dX2_choose_151 : decode cX2_choose 151 = .ok (.iload 4, 2) := by decide +kernel
theorem dX2_choose_153 : decode cX2_choose 153 = .ok (.iconst 1, 1) := by decide +kernel
theorem dX2_choose_154 : decode cX2_choose 154 = .ok (.iload 7, 2) := by decide +kernel
theorem dX2_choose_156 : decode cX2_choose 156 = .ok (.ishl, 1) := by decide +kernel
theorem dX2_choose_157 : decode cX2_choose 157 = .ok (.ior, 1) := by decide +kernel
theorem dX2_choose_158 : decode cX2_choose 158 = .ok (.iload 5, 2) := by decide +kernel
theorem dX2_choose_160 : decode cX2_choose 160 = .ok (.iconst 1, 1) := by decide +kernel
theorem dX2_choose_161 : decode cX2_choose 161 = .ok (.iadd, 1) := by decide +kernel
theorem dX2_choose_162 : decode cX2_choose 162 = .ok (.invokevirtual 61, 3) := by decide +kernel
theorem dX2_choose_165 : decode cX2_choose 165 = .ok (.iinc 6 1, 3) := by decide +kernel
theorem dX2_choose_168 : decode cX2_choose 168 = .ok (.goto (-116), 3) := by decide +kernel
theorem dX2_choose_171 : decode cX2_choose 171 = .ok (.return_, 1) := by decide +kernel
theorem dX3_init_0 : decode cX3_init 0 = .ok (.aload_n 0, 1) := by decide +kernel
theorem dX3_init_1 : decode cX3_init 1 = .ok (.invokespecial 3, 3) := by decide +kernel
theorem dX3_init_4 : decode cX3_init 4 = .ok (.aload_n 0, 1) := by decide +kernel
theorem dX3_init_5 : decode cX3_init 5 = .ok (.iconst 4, 1) := by decide +kernel
theorem dX3_init_6 : decode cX3_init 6 = .ok (.newarray .int, 2) := by decide +kernel
theorem dX3_init_8 : decode cX3_init 8 = .ok (.dup, 1) := by decide +kernel
theorem dX3_init_9 : decode cX3_init 9 = .ok (.iconst 0, 1) := by decide +kernel
theorem dX3_init_10 : decode cX3_init 10 = .ok (.iconst (-1), 1) := by decide +kernel
theorem dX3_init_11 : decode cX3_init 11 = .ok (.iastore, 1) := by decide +kernel
theorem dX3_init_12 : decode cX3_init 12 = .ok (.dup, 1) := by decide +kernel
theorem dX3_init_13 : decode cX3_init 13 = .ok (.iconst 1, 1) := by decide +kernel
theorem dX3_init_14 : decode cX3_init 14 = .ok (.iconst (-1), 1) := by decide +kernel
theorem dX3_init_15 : decode cX3_init 15 = .ok (.iastore, 1) := by decide +kernel
theorem dX3_init_16 : decode cX3_init 16 = .ok (.dup, 1) := by decide +kernel
theorem dX3_init_17 : decode cX3_init 17 = .ok (.iconst 2, 1) := by decide +kernel
theorem dX3_init_18 : decode cX3_init 18 = .ok (.iconst (-1), 1) := by decide +kernel
theorem dX3_init_19 : decode cX3_init 19 = .ok (.iastore, 1) := by decide +kernel
theorem dX3_init_20 : decode cX3_init 20 = .ok (.dup, 1) := by decide +kernel
theorem dX3_init_21 : decode cX3_init 21 = .ok (.iconst 3, 1) := by decide +kernel
theorem dX3_init_22 : decode cX3_init 22 = .ok (.iconst (-1), 1) := by decide +kernel
theorem dX3_init_23 : decode cX3_init 23 = .ok (.iastore, 1) := by decide +kernel
theorem dX3_init_24 : decode cX3_init 24 = .ok (.putfield 11, 3) := by decide +kernel
theorem dX3_init_27 : decode cX3_init 27 = .ok (.aload_n 0, 1) := by decide +kernel
theorem dX3_init_28 : decode cX3_init 28 = .ok (.iconst 4, 1) := by decide +kernel
theorem dX3_init_29 : decode cX3_init 29 = .ok (.newarray .int, 2) := by decide +kernel
theorem dX3_init_31 : decode cX3_init 31 = .ok (.putfield 15, 3) := by decide +kernel
theorem dX3_init_34 : decode cX3_init 34 = .ok (.aload_n 0, 1) := by decide +kernel
theorem dX3_init_35 : decode cX3_init 35 = .ok (.bipush 96, 2) := by decide +kernel
theorem dX3_init_37 : decode cX3_init 37 = .ok (.newarray .long, 2) := by decide +kernel
theorem dX3_init_39 : decode cX3_init 39 = .ok (.putfield 18, 3) := by decide +kernel
theorem dX3_init_42 : decode cX3_init 42 = .ok (.return_, 1) := by decide +kernel
theorem dX3_isSheet_0 : decode cX3_isSheet 0 = .ok (.iload_n 0, 1) := by decide +kernel
theorem dX3_isSheet_1 : decode cX3_isSheet 1 = .ok (.ifCond .lt 12, 3) := by decide +kernel
theorem dX3_isSheet_4 : decode cX3_isSheet 4 = .ok (.iload_n 0, 1) := by decide +kernel
theorem dX3_isSheet_5 : decode cX3_isSheet 5 = .ok (.iconst 4, 1) := by decide +kernel
theorem dX3_isSheet_6 : decode cX3_isSheet 6 = .ok (.if_icmp .ge 7, 3) := by decide +kernel
theorem dX3_isSheet_9 : decode cX3_isSheet 9 = .ok (.iconst 1, 1) := by decide +kernel
theorem dX3_isSheet_10 : decode cX3_isSheet 10 = .ok (.goto 4, 3) := by decide +kernel
theorem dX3_isSheet_13 : decode cX3_isSheet 13 = .ok (.iconst 0, 1) := by decide +kernel
theorem dX3_isSheet_14 : decode cX3_isSheet 14 = .ok (.ireturn, 1) := by decide +kernel
theorem dX3_isLane_0 : decode cX3_isLane 0 = .ok (.iload_n 0, 1) := by decide +kernel
theorem dX3_isLane_1 : decode cX3_isLane 1 = .ok (.ifCond .lt 12, 3) := by decide +kernel
theorem dX3_isLane_4 : decode cX3_isLane 4 = .ok (.iload_n 0, 1) := by decide +kernel
theorem dX3_isLane_5 : decode cX3_isLane 5 = .ok (.iconst 4, 1) := by decide +kernel
theorem dX3_isLane_6 : decode cX3_isLane 6 = .ok (.if_icmp .ge 7, 3) := by decide +kernel
theorem dX3_isLane_9 : decode cX3_isLane 9 = .ok (.iconst 1, 1) := by decide +kernel
theorem dX3_isLane_10 : decode cX3_isLane 10 = .ok (.goto 4, 3) := by decide +kernel
theorem dX3_isLane_13 : decode cX3_isLane 13 = .ok (.iconst 0, 1) := by decide +kernel
theorem dX3_isLane_14 : decode cX3_isLane 14 = .ok (.ireturn, 1) := by decide +kernel
theorem dX3_isHeld_0 : decode cX3_isHeld 0 = .ok (.aload_n 0, 1) := by decide +kernel
theorem dX3_isHeld_1 : decode cX3_isHeld 1 = .ok (.getfield 11, 3) := by decide +kernel
theorem dX3_isHeld_4 : decode cX3_isHeld 4 = .ok (.iload_n 1, 1) := by decide +kernel
theorem dX3_isHeld_5 : decode cX3_isHeld 5 = .ok (.iaload, 1) := by decide +kernel
theorem dX3_isHeld_6 : decode cX3_isHeld 6 = .ok (.iconst (-1), 1) := by decide +kernel
theorem dX3_isHeld_7 : decode cX3_isHeld 7 = .ok (.if_icmp .eq 7, 3) := by decide +kernel
theorem dX3_isHeld_10 : decode cX3_isHeld 10 = .ok (.iconst 1, 1) := by decide +kernel
theorem dX3_isHeld_11 : decode cX3_isHeld 11 = .ok (.goto 4, 3) := by decide +kernel
theorem dX3_isHeld_14 : decode cX3_isHeld 14 = .ok (.iconst 0, 1) := by decide +kernel
theorem dX3_isHeld_15 : decode cX3_isHeld 15 = .ok (.ireturn, 1) := by decide +kernel
theorem dX3_holds_0 : decode cX3_holds 0 = .ok (.iload_n 2, 1) := by decide +kernel
theorem dX3_holds_1 : decode cX3_holds 1 = .ok (.ifCond .lt 33, 3) := by decide +kernel
theorem dX3_holds_4 : decode cX3_holds 4 = .ok (.iload_n 3, 1) := by decide +kernel
theorem dX3_holds_5 : decode cX3_holds 5 = .ok (.ifCond .lt 29, 3) := by decide +kernel
theorem dX3_holds_8 : decode cX3_holds 8 = .ok (.iload_n 3, 1) := by decide +kernel
theorem dX3_holds_9 : decode cX3_holds 9 = .ok (.aload_n 0, 1) := by decide +kernel
theorem dX3_holds_10 : decode cX3_holds 10 = .ok (.getfield 15, 3) := by decide +kernel
theorem dX3_holds_13 : decode cX3_holds 13 = .ok (.iload_n 1, 1) := by decide +kernel
theorem dX3_holds_14 : decode cX3_holds 14 = .ok (.iaload, 1) := by decide +kernel
theorem dX3_holds_15 : decode cX3_holds 15 = .ok (.if_icmp .gt 19, 3) := by decide +kernel
theorem dX3_holds_18 : decode cX3_holds 18 = .ok (.iload_n 2, 1) := by decide +kernel
theorem dX3_holds_19 : decode cX3_holds 19 = .ok (.aload_n 0, 1) := by decide +kernel
theorem dX3_holds_20 : decode cX3_holds 20 = .ok (.getfield 15, 3) := by decide +kernel
theorem dX3_holds_23 : decode cX3_holds 23 = .ok (.iload_n 1, 1) := by decide +kernel
theorem dX3_holds_24 : decode cX3_holds 24 = .ok (.iaload, 1) := by decide +kernel
theorem dX3_holds_25 : decode cX3_holds 25 = .ok (.iload_n 3, 1) := by decide +kernel
theorem dX3_holds_26 : decode cX3_holds 26 = .ok (.isub, 1) := by decide +kernel
theorem dX3_holds_27 : decode cX3_holds 27 = .ok (.if_icmp .gt 7, 3) := by decide +kernel
theorem dX3_holds_30 : decode cX3_holds 30 = .ok (.iconst 1, 1) := by decide +kernel
theorem dX3_holds_31 : decode cX3_holds 31 = .ok (.goto 4, 3) := by decide +kernel
theorem dX3_holds_34 : decode cX3_holds 34 = .ok (.iconst 0, 1) := by decide +kernel
theorem dX3_holds_35 : decode cX3_holds 35 = .ok (.ireturn, 1) := by decide +kernel
theorem dX3_refusal_0 : decode cX3_refusal 0 = .ok (.aload_n 0, 1) := by decide +kernel
theorem dX3_refusal_1 : decode cX3_refusal 1 = .ok (.iload_n 1, 1) := by decide +kernel
theorem dX3_refusal_2 : decode cX3_refusal 2 = .ok (.invokevirtual 22, 3) := by decide +kernel
theorem dX3_refusal_5 : decode cX3_refusal 5 = .ok (.ifCond .ne 6, 3) := by decide +kernel
theorem dX3_refusal_8 : decode cX3_refusal 8 = .ok (.bipush (-11), 2) := by decide +kernel
theorem dX3_refusal_10 : decode cX3_refusal 10 = .ok (.ireturn, 1) := by decide +kernel
theorem dX3_refusal_11 : decode cX3_refusal 11 = .ok (.aload_n 0, 1) := by decide +kernel
theorem dX3_refusal_12 : decode cX3_refusal 12 = .ok (.getfield 11, 3) := by decide +kernel
theorem dX3_refusal_15 : decode cX3_refusal 15 = .ok (.iload_n 1, 1) := by decide +kernel
theorem dX3_refusal_16 : decode cX3_refusal 16 = .ok (.iaload, 1) := by decide +kernel
theorem dX3_refusal_17 : decode cX3_refusal 17 = .ok (.iload_n 2, 1) := by decide +kernel
theorem dX3_refusal_18 : decode cX3_refusal 18 = .ok (.if_icmp .eq 6, 3) := by decide +kernel
theorem dX3_refusal_21 : decode cX3_refusal 21 = .ok (.bipush (-12), 2) := by decide +kernel
theorem dX3_refusal_23 : decode cX3_refusal 23 = .ok (.ireturn, 1) := by decide +kernel
theorem dX3_refusal_24 : decode cX3_refusal 24 = .ok (.aload_n 0, 1) := by decide +kernel
theorem dX3_refusal_25 : decode cX3_refusal 25 = .ok (.iload_n 1, 1) := by decide +kernel
theorem dX3_refusal_26 : decode cX3_refusal 26 = .ok (.iload_n 3, 1) := by decide +kernel
theorem dX3_refusal_27 : decode cX3_refusal 27 = .ok (.iload 4, 2) := by decide +kernel
theorem dX3_refusal_29 : decode cX3_refusal 29 = .ok (.invokevirtual 26, 3) := by decide +kernel
theorem dX3_refusal_32 : decode cX3_refusal 32 = .ok (.ifCond .eq 7, 3) := by decide +kernel
theorem dX3_refusal_35 : decode cX3_refusal 35 = .ok (.iconst 0, 1) := by decide +kernel
theorem dX3_refusal_36 : decode cX3_refusal 36 = .ok (.goto 5, 3) := by decide +kernel
theorem dX3_refusal_39 : decode cX3_refusal 39 = .ok (.bipush (-13), 2) := by decide +kernel
theorem dX3_refusal_41 : decode cX3_refusal 41 = .ok (.ireturn, 1) := by decide +kernel
theorem dX3_renew_0 : decode cX3_renew 0 = .ok (.aload_n 0, 1) := by decide +kernel
theorem dX3_renew_1 : decode cX3_renew 1 = .ok (.getfield 11, 3) := by decide +kernel
theorem dX3_renew_4 : decode cX3_renew 4 = .ok (.iload_n 1, 1) := by decide +kernel
theorem dX3_renew_5 : decode cX3_renew 5 = .ok (.iload_n 2, 1) := by decide +kernel
theorem dX3_renew_6 : decode cX3_renew 6 = .ok (.iastore, 1) := by decide +kernel
theorem dX3_renew_7 : decode cX3_renew 7 = .ok (.aload_n 0, 1) := by decide +kernel
theorem dX3_renew_8 : decode cX3_renew 8 = .ok (.getfield 15, 3) := by decide +kernel
theorem dX3_renew_11 : decode cX3_renew 11 = .ok (.iload_n 1, 1) := by decide +kernel
theorem dX3_renew_12 : decode cX3_renew 12 = .ok (.iload_n 3, 1) := by decide +kernel
theorem dX3_renew_13 : decode cX3_renew 13 = .ok (.iastore, 1) := by decide +kernel
theorem dX3_renew_14 : decode cX3_renew 14 = .ok (.iconst 0, 1) := by decide +kernel
theorem dX3_renew_15 : decode cX3_renew 15 = .ok (.istore 4, 2) := by decide +kernel
theorem dX3_renew_17 : decode cX3_renew 17 = .ok (.iload 4, 2) := by decide +kernel
theorem dX3_renew_19 : decode cX3_renew 19 = .ok (.iload_n 3, 1) := by decide +kernel
theorem dX3_renew_20 : decode cX3_renew 20 = .ok (.if_icmp .ge 22, 3) := by decide +kernel
theorem dX3_renew_23 : decode cX3_renew 23 = .ok (.aload_n 0, 1) := by decide +kernel
theorem dX3_renew_24 : decode cX3_renew 24 = .ok (.getfield 18, 3) := by decide +kernel
theorem dX3_renew_27 : decode cX3_renew 27 = .ok (.iload_n 1, 1) := by decide +kernel
theorem dX3_renew_28 : decode cX3_renew 28 = .ok (.bipush 24, 2) := by decide +kernel
theorem dX3_renew_30 : decode cX3_renew 30 = .ok (.imul, 1) := by decide +kernel
theorem dX3_renew_31 : decode cX3_renew 31 = .ok (.iload 4, 2) := by decide +kernel
theorem dX3_renew_33 : decode cX3_renew 33 = .ok (.iadd, 1) := by decide +kernel
theorem dX3_renew_34 : decode cX3_renew 34 = .ok (.lconst 0, 1) := by decide +kernel
theorem dX3_renew_35 : decode cX3_renew 35 = .ok (.lastore, 1) := by decide +kernel
theorem dX3_renew_36 : decode cX3_renew 36 = .ok (.iinc 4 1, 3) := by decide +kernel
theorem dX3_renew_39 : decode cX3_renew 39 = .ok (.goto (-22), 3) := by decide +kernel
theorem dX3_renew_42 : decode cX3_renew 42 = .ok (.return_, 1) := by decide +kernel
theorem dX3_clear_0 : decode cX3_clear 0 = .ok (.aload_n 0, 1) := by decide +kernel
theorem dX3_clear_1 : decode cX3_clear 1 = .ok (.getfield 11, 3) := by decide +kernel
theorem dX3_clear_4 : decode cX3_clear 4 = .ok (.iload_n 1, 1) := by decide +kernel
theorem dX3_clear_5 : decode cX3_clear 5 = .ok (.iconst (-1), 1) := by decide +kernel
theorem dX3_clear_6 : decode cX3_clear 6 = .ok (.iastore, 1) := by decide +kernel
theorem dX3_clear_7 : decode cX3_clear 7 = .ok (.aload_n 0, 1) := by decide +kernel
theorem dX3_clear_8 : decode cX3_clear 8 = .ok (.getfield 15, 3) := by decide +kernel
theorem dX3_clear_11 : decode cX3_clear 11 = .ok (.iload_n 1, 1) := by decide +kernel
theorem dX3_clear_12 : decode cX3_clear 12 = .ok (.iaload, 1) := by decide +kernel
theorem dX3_clear_13 : decode cX3_clear 13 = .ok (.ireturn, 1) := by decide +kernel
theorem dX3_valueAt_0 : decode cX3_valueAt 0 = .ok (.aload_n 0, 1) := by decide +kernel
theorem dX3_valueAt_1 : decode cX3_valueAt 1 = .ok (.getfield 18, 3) := by decide +kernel
theorem dX3_valueAt_4 : decode cX3_valueAt 4 = .ok (.iload_n 1, 1) := by decide +kernel
theorem dX3_valueAt_5 : decode cX3_valueAt 5 = .ok (.bipush 24, 2) := by decide +kernel
theorem dX3_valueAt_7 : decode cX3_valueAt 7 = .ok (.imul, 1) := by decide +kernel
theorem dX3_valueAt_8 : decode cX3_valueAt 8 = .ok (.iload_n 2, 1) := by decide +kernel
theorem dX3_valueAt_9 : decode cX3_valueAt 9 = .ok (.iadd, 1) := by decide +kernel
theorem dX3_valueAt_10 : decode cX3_valueAt 10 = .ok (.laload, 1) := by decide +kernel
theorem dX3_valueAt_11 : decode cX3_valueAt 11 = .ok (.lreturn, 1) := by decide +kernel
theorem dX3_put_0 : decode cX3_put 0 = .ok (.aload_n 0, 1) := by decide +kernel
theorem dX3_put_1 : decode cX3_put 1 = .ok (.getfield 18, 3) := by decide +kernel
theorem dX3_put_4 : decode cX3_put 4 = .ok (.iload_n 1, 1) := by decide +kernel
theorem dX3_put_5 : decode cX3_put 5 = .ok (.bipush 24, 2) := by decide +kernel
theorem dX3_put_7 : decode cX3_put 7 = .ok (.imul, 1) := by decide +kernel
theorem dX3_put_8 : decode cX3_put 8 = .ok (.iload_n 2, 1) := by decide +kernel
theorem dX3_put_9 : decode cX3_put 9 = .ok (.iadd, 1) := by decide +kernel
theorem dX3_put_10 : decode cX3_put 10 = .ok (.aload_n 0, 1) := by decide +kernel
theorem dX3_put_11 : decode cX3_put 11 = .ok (.getfield 11, 3) := by decide +kernel
theorem dX3_put_14 : decode cX3_put 14 = .ok (.iload_n 1, 1) := by decide +kernel
theorem dX3_put_15 : decode cX3_put 15 = .ok (.iaload, 1) := by decide +kernel
theorem dX3_put_16 : decode cX3_put 16 = .ok (.lload_n 3, 1) := by decide +kernel
theorem dX3_put_17 : decode cX3_put 17 = .ok (.invokestatic 30, 3) := by decide +kernel
theorem dX3_put_20 : decode cX3_put 20 = .ok (.lastore, 1) := by decide +kernel
theorem dX3_put_21 : decode cX3_put 21 = .ok (.return_, 1) := by decide +kernel
theorem dX3_move_0 : decode cX3_move 0 = .ok (.aload_n 0, 1) := by decide +kernel
theorem dX3_move_1 : decode cX3_move 1 = .ok (.getfield 18, 3) := by decide +kernel
theorem dX3_move_4 : decode cX3_move 4 = .ok (.iload_n 1, 1) := by decide +kernel
theorem dX3_move_5 : decode cX3_move 5 = .ok (.bipush 24, 2) := by decide +kernel
theorem dX3_move_7 : decode cX3_move 7 = .ok (.imul, 1) := by decide +kernel
theorem dX3_move_8 : decode cX3_move 8 = .ok (.iload_n 2, 1) := by decide +kernel
theorem dX3_move_9 : decode cX3_move 9 = .ok (.iadd, 1) := by decide +kernel
theorem dX3_move_10 : decode cX3_move 10 = .ok (.aload_n 0, 1) := by decide +kernel
theorem dX3_move_11 : decode cX3_move 11 = .ok (.getfield 18, 3) := by decide +kernel
theorem dX3_move_14 : decode cX3_move 14 = .ok (.iload_n 3, 1) := by decide +kernel
theorem dX3_move_15 : decode cX3_move 15 = .ok (.bipush 24, 2) := by decide +kernel
theorem dX3_move_17 : decode cX3_move 17 = .ok (.imul, 1) := by decide +kernel
theorem dX3_move_18 : decode cX3_move 18 = .ok (.iload 4, 2) := by decide +kernel
theorem dX3_move_20 : decode cX3_move 20 = .ok (.iadd, 1) := by decide +kernel
theorem dX3_move_21 : decode cX3_move 21 = .ok (.iload 5, 2) := by decide +kernel
theorem dX3_move_23 : decode cX3_move 23 = .ok (.invokestatic 34, 3) := by decide +kernel
theorem dX3_move_26 : decode cX3_move 26 = .ok (.return_, 1) := by decide +kernel
theorem dX3_lowestBits_0 : decode cX3_lowestBits 0 = .ok (.iload_n 0, 1) := by decide +kernel
theorem dX3_lowestBits_1 : decode cX3_lowestBits 1 = .ok (.tableswitch 41 0 2 #[27, 32, 37], 27) := by decide +kernel
theorem dX3_lowestBits_28 : decode cX3_lowestBits 28 = .ok (.lload_n 1, 1) := by decide +kernel
theorem dX3_lowestBits_29 : decode cX3_lowestBits 29 = .ok (.l2i, 1) := by decide +kernel
theorem dX3_lowestBits_30 : decode cX3_lowestBits 30 = .ok (.i2b, 1) := by decide +kernel
theorem dX3_lowestBits_31 : decode cX3_lowestBits 31 = .ok (.i2l, 1) := by decide +kernel
theorem dX3_lowestBits_32 : decode cX3_lowestBits 32 = .ok (.lreturn, 1) := by decide +kernel
theorem dX3_lowestBits_33 : decode cX3_lowestBits 33 = .ok (.lload_n 1, 1) := by decide +kernel
theorem dX3_lowestBits_34 : decode cX3_lowestBits 34 = .ok (.l2i, 1) := by decide +kernel
theorem dX3_lowestBits_35 : decode cX3_lowestBits 35 = .ok (.i2s, 1) := by decide +kernel
theorem dX3_lowestBits_36 : decode cX3_lowestBits 36 = .ok (.i2l, 1) := by decide +kernel
theorem dX3_lowestBits_37 : decode cX3_lowestBits 37 = .ok (.lreturn, 1) := by decide +kernel
theorem dX3_lowestBits_38 : decode cX3_lowestBits 38 = .ok (.lload_n 1, 1) := by decide +kernel
theorem dX3_lowestBits_39 : decode cX3_lowestBits 39 = .ok (.l2i, 1) := by decide +kernel
theorem dX3_lowestBits_40 : decode cX3_lowestBits 40 = .ok (.i2l, 1) := by decide +kernel
theorem dX3_lowestBits_41 : decode cX3_lowestBits 41 = .ok (.lreturn, 1) := by decide +kernel
theorem dX3_lowestBits_42 : decode cX3_lowestBits 42 = .ok (.lload_n 1, 1) := by decide +kernel
theorem dX3_lowestBits_43 : decode cX3_lowestBits 43 = .ok (.lreturn, 1) := by decide +kernel
theorem dX4_init_0 : decode cX4_init 0 = .ok (.aload_n 0, 1) := by decide +kernel
theorem dX4_init_1 : decode cX4_init 1 = .ok (.invokespecial 3, 3) := by decide +kernel
theorem dX4_init_4 : decode cX4_init 4 = .ok (.aload_n 0, 1) := by decide +kernel
theorem dX4_init_5 : decode cX4_init 5 = .ok (.bipush 7, 2) := by decide +kernel
theorem dX4_init_7 : decode cX4_init 7 = .ok (.newarray .int, 2) := by decide +kernel
theorem dX4_init_9 : decode cX4_init 9 = .ok (.putfield 11, 3) := by decide +kernel
theorem dX4_init_12 : decode cX4_init 12 = .ok (.aload_n 0, 1) := by decide +kernel
theorem dX4_init_13 : decode cX4_init 13 = .ok (.bipush 7, 2) := by decide +kernel
theorem dX4_init_15 : decode cX4_init 15 = .ok (.newarray .int, 2) := by decide +kernel
theorem dX4_init_17 : decode cX4_init 17 = .ok (.putfield 15, 3) := by decide +kernel
theorem dX4_init_20 : decode cX4_init 20 = .ok (.aload_n 0, 1) := by decide +kernel
theorem dX4_init_21 : decode cX4_init 21 = .ok (.bipush 7, 2) := by decide +kernel
theorem dX4_init_23 : decode cX4_init 23 = .ok (.newarray .int, 2) := by decide +kernel
theorem dX4_init_25 : decode cX4_init 25 = .ok (.putfield 18, 3) := by decide +kernel
theorem dX4_init_28 : decode cX4_init 28 = .ok (.aload_n 0, 1) := by decide +kernel
theorem dX4_init_29 : decode cX4_init 29 = .ok (.bipush 6, 2) := by decide +kernel
theorem dX4_init_31 : decode cX4_init 31 = .ok (.newarray .int, 2) := by decide +kernel
theorem dX4_init_33 : decode cX4_init 33 = .ok (.putfield 21, 3) := by decide +kernel
theorem dX4_init_36 : decode cX4_init 36 = .ok (.aload_n 0, 1) := by decide +kernel
theorem dX4_init_37 : decode cX4_init 37 = .ok (.bipush 6, 2) := by decide +kernel
theorem dX4_init_39 : decode cX4_init 39 = .ok (.newarray .int, 2) := by decide +kernel
theorem dX4_init_41 : decode cX4_init 41 = .ok (.putfield 24, 3) := by decide +kernel
theorem dX4_init_44 : decode cX4_init 44 = .ok (.aload_n 0, 1) := by decide +kernel
theorem dX4_init_45 : decode cX4_init 45 = .ok (.bipush 6, 2) := by decide +kernel
theorem dX4_init_47 : decode cX4_init 47 = .ok (.newarray .int, 2) := by decide +kernel
theorem dX4_init_49 : decode cX4_init 49 = .ok (.putfield 27, 3) := by decide +kernel
theorem dX4_init_52 : decode cX4_init 52 = .ok (.aload_n 0, 1) := by decide +kernel
theorem dX4_init_53 : decode cX4_init 53 = .ok (.bipush 6, 2) := by decide +kernel
theorem dX4_init_55 : decode cX4_init 55 = .ok (.newarray .int, 2) := by decide +kernel
theorem dX4_init_57 : decode cX4_init 57 = .ok (.putfield 30, 3) := by decide +kernel
theorem dX4_init_60 : decode cX4_init 60 = .ok (.aload_n 0, 1) := by decide +kernel
theorem dX4_init_61 : decode cX4_init 61 = .ok (.iconst 0, 1) := by decide +kernel
theorem dX4_init_62 : decode cX4_init 62 = .ok (.putfield 33, 3) := by decide +kernel
theorem dX4_init_65 : decode cX4_init 65 = .ok (.aload_n 0, 1) := by decide +kernel
theorem dX4_init_66 : decode cX4_init 66 = .ok (.iconst 0, 1) := by decide +kernel
theorem dX4_init_67 : decode cX4_init 67 = .ok (.putfield 37, 3) := by decide +kernel
theorem dX4_init_70 : decode cX4_init 70 = .ok (.aload_n 0, 1) := by decide +kernel
theorem dX4_init_71 : decode cX4_init 71 = .ok (.iconst 0, 1) := by decide +kernel
theorem dX4_init_72 : decode cX4_init 72 = .ok (.putfield 40, 3) := by decide +kernel
theorem dX4_init_75 : decode cX4_init 75 = .ok (.aload_n 0, 1) := by decide +kernel
theorem dX4_init_76 : decode cX4_init 76 = .ok (.iconst 1, 1) := by decide +kernel
theorem dX4_init_77 : decode cX4_init 77 = .ok (.putfield 43, 3) := by decide +kernel
theorem dX4_init_80 : decode cX4_init 80 = .ok (.return_, 1) := by decide +kernel
theorem dX4_copyFrom_0 : decode cX4_copyFrom 0 = .ok (.aload_n 1, 1) := by decide +kernel
theorem dX4_copyFrom_1 : decode cX4_copyFrom 1 = .ok (.getfield 11, 3) := by decide +kernel
theorem dX4_copyFrom_4 : decode cX4_copyFrom 4 = .ok (.iconst 0, 1) := by decide +kernel
theorem dX4_copyFrom_5 : decode cX4_copyFrom 5 = .ok (.aload_n 0, 1) := by decide +kernel
theorem dX4_copyFrom_6 : decode cX4_copyFrom 6 = .ok (.getfield 11, 3) := by decide +kernel
theorem dX4_copyFrom_9 : decode cX4_copyFrom 9 = .ok (.iconst 0, 1) := by decide +kernel
theorem dX4_copyFrom_10 : decode cX4_copyFrom 10 = .ok (.bipush 7, 2) := by decide +kernel
theorem dX4_copyFrom_12 : decode cX4_copyFrom 12 = .ok (.invokestatic 46, 3) := by decide +kernel
theorem dX4_copyFrom_15 : decode cX4_copyFrom 15 = .ok (.aload_n 1, 1) := by decide +kernel
theorem dX4_copyFrom_16 : decode cX4_copyFrom 16 = .ok (.getfield 15, 3) := by decide +kernel
theorem dX4_copyFrom_19 : decode cX4_copyFrom 19 = .ok (.iconst 0, 1) := by decide +kernel
theorem dX4_copyFrom_20 : decode cX4_copyFrom 20 = .ok (.aload_n 0, 1) := by decide +kernel
theorem dX4_copyFrom_21 : decode cX4_copyFrom 21 = .ok (.getfield 15, 3) := by decide +kernel
theorem dX4_copyFrom_24 : decode cX4_copyFrom 24 = .ok (.iconst 0, 1) := by decide +kernel
theorem dX4_copyFrom_25 : decode cX4_copyFrom 25 = .ok (.bipush 7, 2) := by decide +kernel
theorem dX4_copyFrom_27 : decode cX4_copyFrom 27 = .ok (.invokestatic 46, 3) := by decide +kernel
theorem dX4_copyFrom_30 : decode cX4_copyFrom 30 = .ok (.aload_n 1, 1) := by decide +kernel
theorem dX4_copyFrom_31 : decode cX4_copyFrom 31 = .ok (.getfield 18, 3) := by decide +kernel
theorem dX4_copyFrom_34 : decode cX4_copyFrom 34 = .ok (.iconst 0, 1) := by decide +kernel
theorem dX4_copyFrom_35 : decode cX4_copyFrom 35 = .ok (.aload_n 0, 1) := by decide +kernel
theorem dX4_copyFrom_36 : decode cX4_copyFrom 36 = .ok (.getfield 18, 3) := by decide +kernel
theorem dX4_copyFrom_39 : decode cX4_copyFrom 39 = .ok (.iconst 0, 1) := by decide +kernel
theorem dX4_copyFrom_40 : decode cX4_copyFrom 40 = .ok (.bipush 7, 2) := by decide +kernel
theorem dX4_copyFrom_42 : decode cX4_copyFrom 42 = .ok (.invokestatic 46, 3) := by decide +kernel
theorem dX4_copyFrom_45 : decode cX4_copyFrom 45 = .ok (.aload_n 1, 1) := by decide +kernel
theorem dX4_copyFrom_46 : decode cX4_copyFrom 46 = .ok (.getfield 21, 3) := by decide +kernel
theorem dX4_copyFrom_49 : decode cX4_copyFrom 49 = .ok (.iconst 0, 1) := by decide +kernel
theorem dX4_copyFrom_50 : decode cX4_copyFrom 50 = .ok (.aload_n 0, 1) := by decide +kernel
theorem dX4_copyFrom_51 : decode cX4_copyFrom 51 = .ok (.getfield 21, 3) := by decide +kernel
theorem dX4_copyFrom_54 : decode cX4_copyFrom 54 = .ok (.iconst 0, 1) := by decide +kernel
theorem dX4_copyFrom_55 : decode cX4_copyFrom 55 = .ok (.bipush 6, 2) := by decide +kernel
theorem dX4_copyFrom_57 : decode cX4_copyFrom 57 = .ok (.invokestatic 46, 3) := by decide +kernel
theorem dX4_copyFrom_60 : decode cX4_copyFrom 60 = .ok (.aload_n 1, 1) := by decide +kernel
theorem dX4_copyFrom_61 : decode cX4_copyFrom 61 = .ok (.getfield 24, 3) := by decide +kernel
theorem dX4_copyFrom_64 : decode cX4_copyFrom 64 = .ok (.iconst 0, 1) := by decide +kernel
theorem dX4_copyFrom_65 : decode cX4_copyFrom 65 = .ok (.aload_n 0, 1) := by decide +kernel
theorem dX4_copyFrom_66 : decode cX4_copyFrom 66 = .ok (.getfield 24, 3) := by decide +kernel
theorem dX4_copyFrom_69 : decode cX4_copyFrom 69 = .ok (.iconst 0, 1) := by decide +kernel
theorem dX4_copyFrom_70 : decode cX4_copyFrom 70 = .ok (.bipush 6, 2) := by decide +kernel
theorem dX4_copyFrom_72 : decode cX4_copyFrom 72 = .ok (.invokestatic 46, 3) := by decide +kernel
theorem dX4_copyFrom_75 : decode cX4_copyFrom 75 = .ok (.aload_n 1, 1) := by decide +kernel
theorem dX4_copyFrom_76 : decode cX4_copyFrom 76 = .ok (.getfield 27, 3) := by decide +kernel
theorem dX4_copyFrom_79 : decode cX4_copyFrom 79 = .ok (.iconst 0, 1) := by decide +kernel
theorem dX4_copyFrom_80 : decode cX4_copyFrom 80 = .ok (.aload_n 0, 1) := by decide +kernel
theorem dX4_copyFrom_81 : decode cX4_copyFrom 81 = .ok (.getfield 27, 3) := by decide +kernel
theorem dX4_copyFrom_84 : decode cX4_copyFrom 84 = .ok (.iconst 0, 1) := by decide +kernel
theorem dX4_copyFrom_85 : decode cX4_copyFrom 85 = .ok (.bipush 6, 2) := by decide +kernel
theorem dX4_copyFrom_87 : decode cX4_copyFrom 87 = .ok (.invokestatic 46, 3) := by decide +kernel
theorem dX4_copyFrom_90 : decode cX4_copyFrom 90 = .ok (.aload_n 1, 1) := by decide +kernel
theorem dX4_copyFrom_91 : decode cX4_copyFrom 91 = .ok (.getfield 30, 3) := by decide +kernel
theorem dX4_copyFrom_94 : decode cX4_copyFrom 94 = .ok (.iconst 0, 1) := by decide +kernel
theorem dX4_copyFrom_95 : decode cX4_copyFrom 95 = .ok (.aload_n 0, 1) := by decide +kernel
theorem dX4_copyFrom_96 : decode cX4_copyFrom 96 = .ok (.getfield 30, 3) := by decide +kernel
theorem dX4_copyFrom_99 : decode cX4_copyFrom 99 = .ok (.iconst 0, 1) := by decide +kernel
theorem dX4_copyFrom_100 : decode cX4_copyFrom 100 = .ok (.bipush 6, 2) := by decide +kernel
theorem dX4_copyFrom_102 : decode cX4_copyFrom 102 = .ok (.invokestatic 46, 3) := by decide +kernel
theorem dX4_copyFrom_105 : decode cX4_copyFrom 105 = .ok (.aload_n 0, 1) := by decide +kernel
theorem dX4_copyFrom_106 : decode cX4_copyFrom 106 = .ok (.aload_n 1, 1) := by decide +kernel
theorem dX4_copyFrom_107 : decode cX4_copyFrom 107 = .ok (.getfield 33, 3) := by decide +kernel
theorem dX4_copyFrom_110 : decode cX4_copyFrom 110 = .ok (.putfield 33, 3) := by decide +kernel
theorem dX4_copyFrom_113 : decode cX4_copyFrom 113 = .ok (.aload_n 0, 1) := by decide +kernel
theorem dX4_copyFrom_114 : decode cX4_copyFrom 114 = .ok (.aload_n 1, 1) := by decide +kernel
theorem dX4_copyFrom_115 : decode cX4_copyFrom 115 = .ok (.getfield 37, 3) := by decide +kernel
theorem dX4_copyFrom_118 : decode cX4_copyFrom 118 = .ok (.putfield 37, 3) := by decide +kernel
theorem dX4_copyFrom_121 : decode cX4_copyFrom 121 = .ok (.aload_n 0, 1) := by decide +kernel
theorem dX4_copyFrom_122 : decode cX4_copyFrom 122 = .ok (.aload_n 1, 1) := by decide +kernel
theorem dX4_copyFrom_123 : decode cX4_copyFrom 123 = .ok (.getfield 40, 3) := by decide +kernel
theorem dX4_copyFrom_126 : decode cX4_copyFrom 126 = .ok (.putfield 40, 3) := by decide +kernel
theorem dX4_copyFrom_129 : decode cX4_copyFrom 129 = .ok (.aload_n 0, 1) := by decide +kernel
theorem dX4_copyFrom_130 : decode cX4_copyFrom 130 = .ok (.aload_n 1, 1) := by decide +kernel
theorem dX4_copyFrom_131 : decode cX4_copyFrom 131 = .ok (.getfield 43, 3) := by decide +kernel
theorem dX4_copyFrom_134 : decode cX4_copyFrom 134 = .ok (.putfield 43, 3) := by decide +kernel
theorem dX4_copyFrom_137 : decode cX4_copyFrom 137 = .ok (.return_, 1) := by decide +kernel
theorem dX4_empty_0 : decode cX4_empty 0 = .ok (.aload_n 0, 1) := by decide +kernel
theorem dX4_empty_1 : decode cX4_empty 1 = .ok (.iconst 0, 1) := by decide +kernel
theorem dX4_empty_2 : decode cX4_empty 2 = .ok (.putfield 33, 3) := by decide +kernel
theorem dX4_empty_5 : decode cX4_empty 5 = .ok (.aload_n 0, 1) := by decide +kernel
theorem dX4_empty_6 : decode cX4_empty 6 = .ok (.iconst 0, 1) := by decide +kernel
theorem dX4_empty_7 : decode cX4_empty 7 = .ok (.putfield 37, 3) := by decide +kernel
theorem dX4_empty_10 : decode cX4_empty 10 = .ok (.aload_n 0, 1) := by decide +kernel
theorem dX4_empty_11 : decode cX4_empty 11 = .ok (.iconst 0, 1) := by decide +kernel
theorem dX4_empty_12 : decode cX4_empty 12 = .ok (.putfield 40, 3) := by decide +kernel
theorem dX4_empty_15 : decode cX4_empty 15 = .ok (.return_, 1) := by decide +kernel
theorem dX4_addPuddle_0 : decode cX4_addPuddle 0 = .ok (.aload_n 0, 1) := by decide +kernel
theorem dX4_addPuddle_1 : decode cX4_addPuddle 1 = .ok (.getfield 33, 3) := by decide +kernel
theorem dX4_addPuddle_4 : decode cX4_addPuddle 4 = .ok (.bipush 7, 2) := by decide +kernel
theorem dX4_addPuddle_6 : decode cX4_addPuddle 6 = .ok (.if_icmp .lt 6, 3) := by decide +kernel
theorem dX4_addPuddle_9 : decode cX4_addPuddle 9 = .ok (.bipush (-3), 2) := by decide +kernel
theorem dX4_addPuddle_11 : decode cX4_addPuddle 11 = .ok (.ireturn, 1) := by decide +kernel
theorem dX4_addPuddle_12 : decode cX4_addPuddle 12 = .ok (.aload_n 0, 1) := by decide +kernel
theorem dX4_addPuddle_13 : decode cX4_addPuddle 13 = .ok (.getfield 11, 3) := by decide +kernel
theorem dX4_addPuddle_16 : decode cX4_addPuddle 16 = .ok (.aload_n 0, 1) := by decide +kernel
theorem dX4_addPuddle_17 : decode cX4_addPuddle 17 = .ok (.getfield 33, 3) := by decide +kernel
theorem dX4_addPuddle_20 : decode cX4_addPuddle 20 = .ok (.iload_n 1, 1) := by decide +kernel
theorem dX4_addPuddle_21 : decode cX4_addPuddle 21 = .ok (.iastore, 1) := by decide +kernel
theorem dX4_addPuddle_22 : decode cX4_addPuddle 22 = .ok (.aload_n 0, 1) := by decide +kernel
theorem dX4_addPuddle_23 : decode cX4_addPuddle 23 = .ok (.getfield 15, 3) := by decide +kernel
theorem dX4_addPuddle_26 : decode cX4_addPuddle 26 = .ok (.aload_n 0, 1) := by decide +kernel
theorem dX4_addPuddle_27 : decode cX4_addPuddle 27 = .ok (.getfield 33, 3) := by decide +kernel
theorem dX4_addPuddle_30 : decode cX4_addPuddle 30 = .ok (.iload_n 2, 1) := by decide +kernel
theorem dX4_addPuddle_31 : decode cX4_addPuddle 31 = .ok (.iastore, 1) := by decide +kernel
theorem dX4_addPuddle_32 : decode cX4_addPuddle 32 = .ok (.aload_n 0, 1) := by decide +kernel
theorem dX4_addPuddle_33 : decode cX4_addPuddle 33 = .ok (.getfield 18, 3) := by decide +kernel
theorem dX4_addPuddle_36 : decode cX4_addPuddle 36 = .ok (.aload_n 0, 1) := by decide +kernel
theorem dX4_addPuddle_37 : decode cX4_addPuddle 37 = .ok (.getfield 33, 3) := by decide +kernel
theorem dX4_addPuddle_40 : decode cX4_addPuddle 40 = .ok (.iload_n 3, 1) := by decide +kernel
theorem dX4_addPuddle_41 : decode cX4_addPuddle 41 = .ok (.iastore, 1) := by decide +kernel
theorem dX4_addPuddle_42 : decode cX4_addPuddle 42 = .ok (.aload_n 0, 1) := by decide +kernel
theorem dX4_addPuddle_43 : decode cX4_addPuddle 43 = .ok (.dup, 1) := by decide +kernel
theorem dX4_addPuddle_44 : decode cX4_addPuddle 44 = .ok (.getfield 33, 3) := by decide +kernel
theorem dX4_addPuddle_47 : decode cX4_addPuddle 47 = .ok (.iconst 1, 1) := by decide +kernel
theorem dX4_addPuddle_48 : decode cX4_addPuddle 48 = .ok (.iadd, 1) := by decide +kernel
theorem dX4_addPuddle_49 : decode cX4_addPuddle 49 = .ok (.putfield 33, 3) := by decide +kernel
theorem dX4_addPuddle_52 : decode cX4_addPuddle 52 = .ok (.aload_n 0, 1) := by decide +kernel
theorem dX4_addPuddle_53 : decode cX4_addPuddle 53 = .ok (.getfield 33, 3) := by decide +kernel
theorem dX4_addPuddle_56 : decode cX4_addPuddle 56 = .ok (.iconst 1, 1) := by decide +kernel
theorem dX4_addPuddle_57 : decode cX4_addPuddle 57 = .ok (.isub, 1) := by decide +kernel
theorem dX4_addPuddle_58 : decode cX4_addPuddle 58 = .ok (.ireturn, 1) := by decide +kernel
theorem dX4_addPerson_0 : decode cX4_addPerson 0 = .ok (.aload_n 0, 1) := by decide +kernel
theorem dX4_addPerson_1 : decode cX4_addPerson 1 = .ok (.getfield 37, 3) := by decide +kernel
theorem dX4_addPerson_4 : decode cX4_addPerson 4 = .ok (.bipush 6, 2) := by decide +kernel
theorem dX4_addPerson_6 : decode cX4_addPerson 6 = .ok (.if_icmp .lt 6, 3) := by decide +kernel
theorem dX4_addPerson_9 : decode cX4_addPerson 9 = .ok (.bipush (-3), 2) := by decide +kernel
theorem dX4_addPerson_11 : decode cX4_addPerson 11 = .ok (.ireturn, 1) := by decide +kernel
theorem dX4_addPerson_12 : decode cX4_addPerson 12 = .ok (.aload_n 0, 1) := by decide +kernel
theorem dX4_addPerson_13 : decode cX4_addPerson 13 = .ok (.getfield 21, 3) := by decide +kernel
theorem dX4_addPerson_16 : decode cX4_addPerson 16 = .ok (.aload_n 0, 1) := by decide +kernel
theorem dX4_addPerson_17 : decode cX4_addPerson 17 = .ok (.getfield 37, 3) := by decide +kernel
theorem dX4_addPerson_20 : decode cX4_addPerson 20 = .ok (.iload_n 1, 1) := by decide +kernel
theorem dX4_addPerson_21 : decode cX4_addPerson 21 = .ok (.iastore, 1) := by decide +kernel
theorem dX4_addPerson_22 : decode cX4_addPerson 22 = .ok (.aload_n 0, 1) := by decide +kernel
theorem dX4_addPerson_23 : decode cX4_addPerson 23 = .ok (.getfield 24, 3) := by decide +kernel
theorem dX4_addPerson_26 : decode cX4_addPerson 26 = .ok (.aload_n 0, 1) := by decide +kernel
theorem dX4_addPerson_27 : decode cX4_addPerson 27 = .ok (.getfield 37, 3) := by decide +kernel
theorem dX4_addPerson_30 : decode cX4_addPerson 30 = .ok (.iload_n 2, 1) := by decide +kernel
theorem dX4_addPerson_31 : decode cX4_addPerson 31 = .ok (.iastore, 1) := by decide +kernel
theorem dX4_addPerson_32 : decode cX4_addPerson 32 = .ok (.aload_n 0, 1) := by decide +kernel
theorem dX4_addPerson_33 : decode cX4_addPerson 33 = .ok (.getfield 27, 3) := by decide +kernel
theorem dX4_addPerson_36 : decode cX4_addPerson 36 = .ok (.aload_n 0, 1) := by decide +kernel
theorem dX4_addPerson_37 : decode cX4_addPerson 37 = .ok (.getfield 37, 3) := by decide +kernel
theorem dX4_addPerson_40 : decode cX4_addPerson 40 = .ok (.iload_n 3, 1) := by decide +kernel
theorem dX4_addPerson_41 : decode cX4_addPerson 41 = .ok (.iastore, 1) := by decide +kernel
theorem dX4_addPerson_42 : decode cX4_addPerson 42 = .ok (.aload_n 0, 1) := by decide +kernel
theorem dX4_addPerson_43 : decode cX4_addPerson 43 = .ok (.getfield 30, 3) := by decide +kernel
theorem dX4_addPerson_46 : decode cX4_addPerson 46 = .ok (.aload_n 0, 1) := by decide +kernel
theorem dX4_addPerson_47 : decode cX4_addPerson 47 = .ok (.getfield 37, 3) := by decide +kernel
theorem dX4_addPerson_50 : decode cX4_addPerson 50 = .ok (.bipush (-4), 2) := by decide +kernel
theorem dX4_addPerson_52 : decode cX4_addPerson 52 = .ok (.iastore, 1) := by decide +kernel
theorem dX4_addPerson_53 : decode cX4_addPerson 53 = .ok (.aload_n 0, 1) := by decide +kernel
theorem dX4_addPerson_54 : decode cX4_addPerson 54 = .ok (.dup, 1) := by decide +kernel
theorem dX4_addPerson_55 : decode cX4_addPerson 55 = .ok (.getfield 37, 3) := by decide +kernel
theorem dX4_addPerson_58 : decode cX4_addPerson 58 = .ok (.iconst 1, 1) := by decide +kernel
theorem dX4_addPerson_59 : decode cX4_addPerson 59 = .ok (.iadd, 1) := by decide +kernel
theorem dX4_addPerson_60 : decode cX4_addPerson 60 = .ok (.putfield 37, 3) := by decide +kernel
theorem dX4_addPerson_63 : decode cX4_addPerson 63 = .ok (.aload_n 0, 1) := by decide +kernel
theorem dX4_addPerson_64 : decode cX4_addPerson 64 = .ok (.getfield 37, 3) := by decide +kernel
theorem dX4_addPerson_67 : decode cX4_addPerson 67 = .ok (.iconst 1, 1) := by decide +kernel
theorem dX4_addPerson_68 : decode cX4_addPerson 68 = .ok (.isub, 1) := by decide +kernel
theorem dX4_addPerson_69 : decode cX4_addPerson 69 = .ok (.ireturn, 1) := by decide +kernel
theorem dX4_hasPuddle_0 : decode cX4_hasPuddle 0 = .ok (.iload_n 1, 1) := by decide +kernel
theorem dX4_hasPuddle_1 : decode cX4_hasPuddle 1 = .ok (.ifCond .lt 15, 3) := by decide +kernel
theorem dX4_hasPuddle_4 : decode cX4_hasPuddle 4 = .ok (.iload_n 1, 1) := by decide +kernel
theorem dX4_hasPuddle_5 : decode cX4_hasPuddle 5 = .ok (.aload_n 0, 1) := by decide +kernel
theorem dX4_hasPuddle_6 : decode cX4_hasPuddle 6 = .ok (.getfield 33, 3) := by decide +kernel
theorem dX4_hasPuddle_9 : decode cX4_hasPuddle 9 = .ok (.if_icmp .ge 7, 3) := by decide +kernel
theorem dX4_hasPuddle_12 : decode cX4_hasPuddle 12 = .ok (.iconst 1, 1) := by decide +kernel
theorem dX4_hasPuddle_13 : decode cX4_hasPuddle 13 = .ok (.goto 4, 3) := by decide +kernel
theorem dX4_hasPuddle_16 : decode cX4_hasPuddle 16 = .ok (.iconst 0, 1) := by decide +kernel
theorem dX4_hasPuddle_17 : decode cX4_hasPuddle 17 = .ok (.ireturn, 1) := by decide +kernel
theorem dX4_hasPerson_0 : decode cX4_hasPerson 0 = .ok (.iload_n 1, 1) := by decide +kernel
theorem dX4_hasPerson_1 : decode cX4_hasPerson 1 = .ok (.ifCond .lt 15, 3) := by decide +kernel
theorem dX4_hasPerson_4 : decode cX4_hasPerson 4 = .ok (.iload_n 1, 1) := by decide +kernel
theorem dX4_hasPerson_5 : decode cX4_hasPerson 5 = .ok (.aload_n 0, 1) := by decide +kernel
theorem dX4_hasPerson_6 : decode cX4_hasPerson 6 = .ok (.getfield 37, 3) := by decide +kernel
theorem dX4_hasPerson_9 : decode cX4_hasPerson 9 = .ok (.if_icmp .ge 7, 3) := by decide +kernel
theorem dX4_hasPerson_12 : decode cX4_hasPerson 12 = .ok (.iconst 1, 1) := by decide +kernel
theorem dX4_hasPerson_13 : decode cX4_hasPerson 13 = .ok (.goto 4, 3) := by decide +kernel
theorem dX4_hasPerson_16 : decode cX4_hasPerson 16 = .ok (.iconst 0, 1) := by decide +kernel
theorem dX4_hasPerson_17 : decode cX4_hasPerson 17 = .ok (.ireturn, 1) := by decide +kernel
theorem dX4_isDry_0 : decode cX4_isDry 0 = .ok (.aload_n 0, 1) := by decide +kernel
theorem dX4_isDry_1 : decode cX4_isDry 1 = .ok (.getfield 18, 3) := by decide +kernel
theorem dX4_isDry_4 : decode cX4_isDry 4 = .ok (.iload_n 1, 1) := by decide +kernel
theorem dX4_isDry_5 : decode cX4_isDry 5 = .ok (.iaload, 1) := by decide +kernel
theorem dX4_isDry_6 : decode cX4_isDry 6 = .ok (.ifCond .ne 7, 3) := by decide +kernel
theorem dX4_isDry_9 : decode cX4_isDry 9 = .ok (.iconst 1, 1) := by decide +kernel
theorem dX4_isDry_10 : decode cX4_isDry 10 = .ok (.goto 4, 3) := by decide +kernel
theorem dX4_isDry_13 : decode cX4_isDry 13 = .ok (.iconst 0, 1) := by decide +kernel
theorem dX4_isDry_14 : decode cX4_isDry 14 = .ok (.ireturn, 1) := by decide +kernel
theorem dX4_hasClaimed_0 : decode cX4_hasClaimed 0 = .ok (.aload_n 0, 1) := by decide +kernel
theorem dX4_hasClaimed_1 : decode cX4_hasClaimed 1 = .ok (.getfield 30, 3) := by decide +kernel
theorem dX4_hasClaimed_4 : decode cX4_hasClaimed 4 = .ok (.iload_n 1, 1) := by decide +kernel
theorem dX4_hasClaimed_5 : decode cX4_hasClaimed 5 = .ok (.iaload, 1) := by decide +kernel
theorem dX4_hasClaimed_6 : decode cX4_hasClaimed 6 = .ok (.ifCond .lt 7, 3) := by decide +kernel
theorem dX4_hasClaimed_9 : decode cX4_hasClaimed 9 = .ok (.iconst 1, 1) := by decide +kernel
theorem dX4_hasClaimed_10 : decode cX4_hasClaimed 10 = .ok (.goto 4, 3) := by decide +kernel
theorem dX4_hasClaimed_13 : decode cX4_hasClaimed 13 = .ok (.iconst 0, 1) := by decide +kernel
theorem dX4_hasClaimed_14 : decode cX4_hasClaimed 14 = .ok (.ireturn, 1) := by decide +kernel
theorem dX4_drySet_0 : decode cX4_drySet 0 = .ok (.iconst 0, 1) := by decide +kernel
theorem dX4_drySet_1 : decode cX4_drySet 1 = .ok (.istore_n 1, 1) := by decide +kernel
theorem dX4_drySet_2 : decode cX4_drySet 2 = .ok (.iconst 0, 1) := by decide +kernel
theorem dX4_drySet_3 : decode cX4_drySet 3 = .ok (.istore_n 2, 1) := by decide +kernel
theorem dX4_drySet_4 : decode cX4_drySet 4 = .ok (.iload_n 2, 1) := by decide +kernel
theorem dX4_drySet_5 : decode cX4_drySet 5 = .ok (.aload_n 0, 1) := by decide +kernel
theorem dX4_drySet_6 : decode cX4_drySet 6 = .ok (.getfield 33, 3) := by decide +kernel
theorem dX4_drySet_9 : decode cX4_drySet 9 = .ok (.if_icmp .ge 27, 3) := by decide +kernel
theorem dX4_drySet_12 : decode cX4_drySet 12 = .ok (.iload_n 1, 1) := by decide +kernel
theorem dX4_drySet_13 : decode cX4_drySet 13 = .ok (.aload_n 0, 1) := by decide +kernel
theorem dX4_drySet_14 : decode cX4_drySet 14 = .ok (.iload_n 2, 1) := by decide +kernel
theorem dX4_drySet_15 : decode cX4_drySet 15 = .ok (.invokevirtual 52, 3) := by decide +kernel
theorem dX4_drySet_18 : decode cX4_drySet 18 = .ok (.ifCond .eq 9, 3) := by decide +kernel
theorem dX4_drySet_21 : decode cX4_drySet 21 = .ok (.iconst 1, 1) := by decide +kernel
theorem dX4_drySet_22 : decode cX4_drySet 22 = .ok (.iload_n 2, 1) := by decide +kernel
theorem dX4_drySet_23 : decode cX4_drySet 23 = .ok (.ishl, 1) := by decide +kernel
theorem dX4_drySet_24 : decode cX4_drySet 24 = .ok (.goto 4, 3) := by decide +kernel
theorem dX4_drySet_27 : decode cX4_drySet 27 = .ok (.iconst 0, 1) := by decide +kernel
theorem dX4_drySet_28 : decode cX4_drySet 28 = .ok (.ior, 1) := by decide +kernel
theorem dX4_drySet_29 : decode cX4_drySet 29 = .ok (.istore_n 1, 1) := by decide +kernel
theorem dX4_drySet_30 : decode cX4_drySet 30 = .ok (.iinc 2 1, 3) := by decide +kernel
theorem dX4_drySet_33 : decode cX4_drySet 33 = .ok (.goto (-29), 3) := by decide +kernel
theorem dX4_drySet_36 : decode cX4_drySet 36 = .ok (.iload_n 1, 1) := by decide +kernel
theorem dX4_drySet_37 : decode cX4_drySet 37 = .ok (.ireturn, 1) := by decide +kernel
theorem dX4_claimants_0 : decode cX4_claimants 0 = .ok (.iconst 0, 1) := by decide +kernel
theorem dX4_claimants_1 : decode cX4_claimants 1 = .ok (.istore_n 1, 1) := by decide +kernel
theorem dX4_claimants_2 : decode cX4_claimants 2 = .ok (.iconst 0, 1) := by decide +kernel
theorem dX4_claimants_3 : decode cX4_claimants 3 = .ok (.istore_n 2, 1) := by decide +kernel
theorem dX4_claimants_4 : decode cX4_claimants 4 = .ok (.iload_n 2, 1) := by decide +kernel
theorem dX4_claimants_5 : decode cX4_claimants 5 = .ok (.aload_n 0, 1) := by decide +kernel
theorem dX4_claimants_6 : decode cX4_claimants 6 = .ok (.getfield 37, 3) := by decide +kernel
theorem dX4_claimants_9 : decode cX4_claimants 9 = .ok (.if_icmp .ge 27, 3) := by decide +kernel
theorem dX4_claimants_12 : decode cX4_claimants 12 = .ok (.iload_n 1, 1) := by decide +kernel
theorem dX4_claimants_13 : decode cX4_claimants 13 = .ok (.aload_n 0, 1) := by decide +kernel
theorem dX4_claimants_14 : decode cX4_claimants 14 = .ok (.iload_n 2, 1) := by decide +kernel
theorem dX4_claimants_15 : decode cX4_claimants 15 = .ok (.invokevirtual 56, 3) := by decide +kernel
theorem dX4_claimants_18 : decode cX4_claimants 18 = .ok (.ifCond .eq 9, 3) := by decide +kernel
theorem dX4_claimants_21 : decode cX4_claimants 21 = .ok (.iconst 1, 1) := by decide +kernel
theorem dX4_claimants_22 : decode cX4_claimants 22 = .ok (.iload_n 2, 1) := by decide +kernel
theorem dX4_claimants_23 : decode cX4_claimants 23 = .ok (.ishl, 1) := by decide +kernel
theorem dX4_claimants_24 : decode cX4_claimants 24 = .ok (.goto 4, 3) := by decide +kernel
theorem dX4_claimants_27 : decode cX4_claimants 27 = .ok (.iconst 0, 1) := by decide +kernel
theorem dX4_claimants_28 : decode cX4_claimants 28 = .ok (.ior, 1) := by decide +kernel
theorem dX4_claimants_29 : decode cX4_claimants 29 = .ok (.istore_n 1, 1) := by decide +kernel
theorem dX4_claimants_30 : decode cX4_claimants 30 = .ok (.iinc 2 1, 3) := by decide +kernel
theorem dX4_claimants_33 : decode cX4_claimants 33 = .ok (.goto (-29), 3) := by decide +kernel
theorem dX4_claimants_36 : decode cX4_claimants 36 = .ok (.iload_n 1, 1) := by decide +kernel
theorem dX4_claimants_37 : decode cX4_claimants 37 = .ok (.ireturn, 1) := by decide +kernel
theorem dX4_claimedSet_0 : decode cX4_claimedSet 0 = .ok (.iconst 0, 1) := by decide +kernel
theorem dX4_claimedSet_1 : decode cX4_claimedSet 1 = .ok (.istore_n 1, 1) := by decide +kernel
theorem dX4_claimedSet_2 : decode cX4_claimedSet 2 = .ok (.iconst 0, 1) := by decide +kernel
theorem dX4_claimedSet_3 : decode cX4_claimedSet 3 = .ok (.istore_n 2, 1) := by decide +kernel
theorem dX4_claimedSet_4 : decode cX4_claimedSet 4 = .ok (.iload_n 2, 1) := by decide +kernel
theorem dX4_claimedSet_5 : decode cX4_claimedSet 5 = .ok (.aload_n 0, 1) := by decide +kernel
theorem dX4_claimedSet_6 : decode cX4_claimedSet 6 = .ok (.getfield 37, 3) := by decide +kernel
theorem dX4_claimedSet_9 : decode cX4_claimedSet 9 = .ok (.if_icmp .ge 32, 3) := by decide +kernel
theorem dX4_claimedSet_12 : decode cX4_claimedSet 12 = .ok (.iload_n 1, 1) := by decide +kernel
theorem dX4_claimedSet_13 : decode cX4_claimedSet 13 = .ok (.aload_n 0, 1) := by decide +kernel
theorem dX4_claimedSet_14 : decode cX4_claimedSet 14 = .ok (.iload_n 2, 1) := by decide +kernel
theorem dX4_claimedSet_15 : decode cX4_claimedSet 15 = .ok (.invokevirtual 56, 3) := by decide +kernel
theorem dX4_claimedSet_18 : decode cX4_claimedSet 18 = .ok (.ifCond .eq 14, 3) := by decide +kernel
theorem dX4_claimedSet_21 : decode cX4_claimedSet 21 = .ok (.iconst 1, 1) := by decide +kernel
theorem dX4_claimedSet_22 : decode cX4_claimedSet 22 = .ok (.aload_n 0, 1) := by decide +kernel
theorem dX4_claimedSet_23 : decode cX4_claimedSet 23 = .ok (.getfield 30, 3) := by decide +kernel
theorem dX4_claimedSet_26 : decode cX4_claimedSet 26 = .ok (.iload_n 2, 1) := by decide +kernel
theorem dX4_claimedSet_27 : decode cX4_claimedSet 27 = .ok (.iaload, 1) := by decide +kernel
theorem dX4_claimedSet_28 : decode cX4_claimedSet 28 = .ok (.ishl, 1) := by decide +kernel
theorem dX4_claimedSet_29 : decode cX4_claimedSet 29 = .ok (.goto 4, 3) := by decide +kernel
theorem dX4_claimedSet_32 : decode cX4_claimedSet 32 = .ok (.iconst 0, 1) := by decide +kernel
theorem dX4_claimedSet_33 : decode cX4_claimedSet 33 = .ok (.ior, 1) := by decide +kernel
theorem dX4_claimedSet_34 : decode cX4_claimedSet 34 = .ok (.istore_n 1, 1) := by decide +kernel
theorem dX4_claimedSet_35 : decode cX4_claimedSet 35 = .ok (.iinc 2 1, 3) := by decide +kernel
theorem dX4_claimedSet_38 : decode cX4_claimedSet 38 = .ok (.goto (-34), 3) := by decide +kernel
theorem dX4_claimedSet_41 : decode cX4_claimedSet 41 = .ok (.iload_n 1, 1) := by decide +kernel
theorem dX4_claimedSet_42 : decode cX4_claimedSet 42 = .ok (.ireturn, 1) := by decide +kernel
theorem dX4_claimantOf_0 : decode cX4_claimantOf 0 = .ok (.iconst 0, 1) := by decide +kernel
theorem dX4_claimantOf_1 : decode cX4_claimantOf 1 = .ok (.istore_n 2, 1) := by decide +kernel
theorem dX4_claimantOf_2 : decode cX4_claimantOf 2 = .ok (.iload_n 2, 1) := by decide +kernel
theorem dX4_claimantOf_3 : decode cX4_claimantOf 3 = .ok (.aload_n 0, 1) := by decide +kernel
theorem dX4_claimantOf_4 : decode cX4_claimantOf 4 = .ok (.getfield 37, 3) := by decide +kernel
theorem dX4_claimantOf_7 : decode cX4_claimantOf 7 = .ok (.if_icmp .ge 21, 3) := by decide +kernel
theorem dX4_claimantOf_10 : decode cX4_claimantOf 10 = .ok (.aload_n 0, 1) := by decide +kernel
theorem dX4_claimantOf_11 : decode cX4_claimantOf 11 = .ok (.getfield 30, 3) := by decide +kernel
theorem dX4_claimantOf_14 : decode cX4_claimantOf 14 = .ok (.iload_n 2, 1) := by decide +kernel
theorem dX4_claimantOf_15 : decode cX4_claimantOf 15 = .ok (.iaload, 1) := by decide +kernel
theorem dX4_claimantOf_16 : decode cX4_claimantOf 16 = .ok (.iload_n 1, 1) := by decide +kernel
theorem dX4_claimantOf_17 : decode cX4_claimantOf 17 = .ok (.if_icmp .ne 5, 3) := by decide +kernel
theorem dX4_claimantOf_20 : decode cX4_claimantOf 20 = .ok (.iload_n 2, 1) := by decide +kernel
theorem dX4_claimantOf_21 : decode cX4_claimantOf 21 = .ok (.ireturn, 1) := by decide +kernel
theorem dX4_claimantOf_22 : decode cX4_claimantOf 22 = .ok (.iinc 2 1, 3) := by decide +kernel
theorem dX4_claimantOf_25 : decode cX4_claimantOf 25 = .ok (.goto (-23), 3) := by decide +kernel
theorem dX4_claimantOf_28 : decode cX4_claimantOf 28 = .ok (.bipush (-4), 2) := by decide +kernel
theorem dX4_claimantOf_30 : decode cX4_claimantOf 30 = .ok (.ireturn, 1) := by decide +kernel
theorem dX4_depthOfAll_0 : decode cX4_depthOfAll 0 = .ok (.iconst 0, 1) := by decide +kernel
theorem dX4_depthOfAll_1 : decode cX4_depthOfAll 1 = .ok (.istore_n 1, 1) := by decide +kernel
theorem dX4_depthOfAll_2 : decode cX4_depthOfAll 2 = .ok (.iconst 0, 1) := by decide +kernel
theorem dX4_depthOfAll_3 : decode cX4_depthOfAll 3 = .ok (.istore_n 2, 1) := by decide +kernel
theorem dX4_depthOfAll_4 : decode cX4_depthOfAll 4 = .ok (.iload_n 2, 1) := by decide +kernel
theorem dX4_depthOfAll_5 : decode cX4_depthOfAll 5 = .ok (.aload_n 0, 1) := by decide +kernel
theorem dX4_depthOfAll_6 : decode cX4_depthOfAll 6 = .ok (.getfield 33, 3) := by decide +kernel
theorem dX4_depthOfAll_9 : decode cX4_depthOfAll 9 = .ok (.if_icmp .ge 18, 3) := by decide +kernel
theorem dX4_depthOfAll_12 : decode cX4_depthOfAll 12 = .ok (.iload_n 1, 1) := by decide +kernel
theorem dX4_depthOfAll_13 : decode cX4_depthOfAll 13 = .ok (.aload_n 0, 1) := by decide +kernel
theorem dX4_depthOfAll_14 : decode cX4_depthOfAll 14 = .ok (.getfield 18, 3) := by decide +kernel
theorem dX4_depthOfAll_17 : decode cX4_depthOfAll 17 = .ok (.iload_n 2, 1) := by decide +kernel
theorem dX4_depthOfAll_18 : decode cX4_depthOfAll 18 = .ok (.iaload, 1) := by decide +kernel
theorem dX4_depthOfAll_19 : decode cX4_depthOfAll 19 = .ok (.iadd, 1) := by decide +kernel
theorem dX4_depthOfAll_20 : decode cX4_depthOfAll 20 = .ok (.istore_n 1, 1) := by decide +kernel
theorem dX4_depthOfAll_21 : decode cX4_depthOfAll 21 = .ok (.iinc 2 1, 3) := by decide +kernel
theorem dX4_depthOfAll_24 : decode cX4_depthOfAll 24 = .ok (.goto (-20), 3) := by decide +kernel
theorem dX4_depthOfAll_27 : decode cX4_depthOfAll 27 = .ok (.iload_n 1, 1) := by decide +kernel
theorem dX4_depthOfAll_28 : decode cX4_depthOfAll 28 = .ok (.ireturn, 1) := by decide +kernel
theorem dX4_fitSet_0 : decode cX4_fitSet 0 = .ok (.aload_n 0, 1) := by decide +kernel
theorem dX4_fitSet_1 : decode cX4_fitSet 1 = .ok (.invokevirtual 59, 3) := by decide +kernel
theorem dX4_fitSet_4 : decode cX4_fitSet 4 = .ok (.istore_n 2, 1) := by decide +kernel
theorem dX4_fitSet_5 : decode cX4_fitSet 5 = .ok (.iconst 0, 1) := by decide +kernel
theorem dX4_fitSet_6 : decode cX4_fitSet 6 = .ok (.istore_n 3, 1) := by decide +kernel
theorem dX4_fitSet_7 : decode cX4_fitSet 7 = .ok (.iconst 0, 1) := by decide +kernel
theorem dX4_fitSet_8 : decode cX4_fitSet 8 = .ok (.istore 4, 2) := by decide +kernel
theorem dX4_fitSet_10 : decode cX4_fitSet 10 = .ok (.iload 4, 2) := by decide +kernel
theorem dX4_fitSet_12 : decode cX4_fitSet 12 = .ok (.aload_n 0, 1) := by decide +kernel
theorem dX4_fitSet_13 : decode cX4_fitSet 13 = .ok (.getfield 33, 3) := by decide +kernel
theorem dX4_fitSet_16 : decode cX4_fitSet 16 = .ok (.if_icmp .ge 38, 3) := by decide +kernel
theorem dX4_fitSet_19 : decode cX4_fitSet 19 = .ok (.iload_n 3, 1) := by decide +kernel
theorem dX4_fitSet_20 : decode cX4_fitSet 20 = .ok (.aload_n 0, 1) := by decide +kernel
theorem dX4_fitSet_21 : decode cX4_fitSet 21 = .ok (.iload 4, 2) := by decide +kernel
theorem dX4_fitSet_23 : decode cX4_fitSet 23 = .ok (.iload_n 1, 1) := by decide +kernel
theorem dX4_fitSet_24 : decode cX4_fitSet 24 = .ok (.iload_n 2, 1) := by decide +kernel
theorem dX4_fitSet_25 : decode cX4_fitSet 25 = .ok (.aload_n 0, 1) := by decide +kernel
theorem dX4_fitSet_26 : decode cX4_fitSet 26 = .ok (.getfield 18, 3) := by decide +kernel
theorem dX4_fitSet_29 : decode cX4_fitSet 29 = .ok (.iload 4, 2) := by decide +kernel
theorem dX4_fitSet_31 : decode cX4_fitSet 31 = .ok (.iaload, 1) := by decide +kernel
theorem dX4_fitSet_32 : decode cX4_fitSet 32 = .ok (.invokevirtual 63, 3) := by decide +kernel
theorem dX4_fitSet_35 : decode cX4_fitSet 35 = .ok (.ifCond .eq 10, 3) := by decide +kernel
theorem dX4_fitSet_38 : decode cX4_fitSet 38 = .ok (.iconst 1, 1) := by decide +kernel
theorem dX4_fitSet_39 : decode cX4_fitSet 39 = .ok (.iload 4, 2) := by decide +kernel
theorem dX4_fitSet_41 : decode cX4_fitSet 41 = .ok (.ishl, 1) := by decide +kernel
theorem dX4_fitSet_42 : decode cX4_fitSet 42 = .ok (.goto 4, 3) := by decide +kernel
theorem dX4_fitSet_45 : decode cX4_fitSet 45 = .ok (.iconst 0, 1) := by decide +kernel
theorem dX4_fitSet_46 : decode cX4_fitSet 46 = .ok (.ior, 1) := by decide +kernel
theorem dX4_fitSet_47 : decode cX4_fitSet 47 = .ok (.istore_n 3, 1) := by decide +kernel
theorem dX4_fitSet_48 : decode cX4_fitSet 48 = .ok (.iinc 4 1, 3) := by decide +kernel
theorem dX4_fitSet_51 : decode cX4_fitSet 51 = .ok (.goto (-41), 3) := by decide +kernel
theorem dX4_fitSet_54 : decode cX4_fitSet 54 = .ok (.iload_n 3, 1) := by decide +kernel
theorem dX4_fitSet_55 : decode cX4_fitSet 55 = .ok (.ireturn, 1) := by decide +kernel
theorem dX4_isFit_0 : decode cX4_isFit 0 = .ok (.aload_n 0, 1) := by decide +kernel
theorem dX4_isFit_1 : decode cX4_isFit 1 = .ok (.getfield 15, 3) := by decide +kernel
theorem dX4_isFit_4 : decode cX4_isFit 4 = .ok (.iload_n 1, 1) := by decide +kernel
theorem dX4_isFit_5 : decode cX4_isFit 5 = .ok (.iaload, 1) := by decide +kernel
theorem dX4_isFit_6 : decode cX4_isFit 6 = .ok (.aload_n 0, 1) := by decide +kernel
theorem dX4_isFit_7 : decode cX4_isFit 7 = .ok (.getfield 21, 3) := by decide +kernel
theorem dX4_isFit_10 : decode cX4_isFit 10 = .ok (.iload_n 2, 1) := by decide +kernel
theorem dX4_isFit_11 : decode cX4_isFit 11 = .ok (.iaload, 1) := by decide +kernel
theorem dX4_isFit_12 : decode cX4_isFit 12 = .ok (.if_icmp .ne 26, 3) := by decide +kernel
theorem dX4_isFit_15 : decode cX4_isFit 15 = .ok (.iload 4, 2) := by decide +kernel
theorem dX4_isFit_17 : decode cX4_isFit 17 = .ok (.aload_n 0, 1) := by decide +kernel
theorem dX4_isFit_18 : decode cX4_isFit 18 = .ok (.getfield 27, 3) := by decide +kernel
theorem dX4_isFit_21 : decode cX4_isFit 21 = .ok (.iload_n 2, 1) := by decide +kernel
theorem dX4_isFit_22 : decode cX4_isFit 22 = .ok (.iaload, 1) := by decide +kernel
theorem dX4_isFit_23 : decode cX4_isFit 23 = .ok (.if_icmp .lt 15, 3) := by decide +kernel
theorem dX4_isFit_26 : decode cX4_isFit 26 = .ok (.iload_n 3, 1) := by decide +kernel
theorem dX4_isFit_27 : decode cX4_isFit 27 = .ok (.iload_n 1, 1) := by decide +kernel
theorem dX4_isFit_28 : decode cX4_isFit 28 = .ok (.ishr, 1) := by decide +kernel
theorem dX4_isFit_29 : decode cX4_isFit 29 = .ok (.iconst 1, 1) := by decide +kernel
theorem dX4_isFit_30 : decode cX4_isFit 30 = .ok (.iand, 1) := by decide +kernel
theorem dX4_isFit_31 : decode cX4_isFit 31 = .ok (.ifCond .ne 7, 3) := by decide +kernel
theorem dX4_isFit_34 : decode cX4_isFit 34 = .ok (.iconst 1, 1) := by decide +kernel
theorem dX4_isFit_35 : decode cX4_isFit 35 = .ok (.goto 4, 3) := by decide +kernel
theorem dX4_isFit_38 : decode cX4_isFit 38 = .ok (.iconst 0, 1) := by decide +kernel
theorem dX4_isFit_39 : decode cX4_isFit 39 = .ok (.ireturn, 1) := by decide +kernel
theorem dX4_deepestFit_0 : decode cX4_deepestFit 0 = .ok (.bipush (-4), 2) := by decide +kernel
theorem dX4_deepestFit_2 : decode cX4_deepestFit 2 = .ok (.istore 5, 2) := by decide +kernel
theorem dX4_deepestFit_4 : decode cX4_deepestFit 4 = .ok (.iconst 0, 1) := by decide +kernel
theorem dX4_deepestFit_5 : decode cX4_deepestFit 5 = .ok (.istore 6, 2) := by decide +kernel
theorem dX4_deepestFit_7 : decode cX4_deepestFit 7 = .ok (.iload 6, 2) := by decide +kernel
theorem dX4_deepestFit_9 : decode cX4_deepestFit 9 = .ok (.aload_n 0, 1) := by decide +kernel
theorem dX4_deepestFit_10 : decode cX4_deepestFit 10 = .ok (.getfield 33, 3) := by decide +kernel
theorem dX4_deepestFit_13 : decode cX4_deepestFit 13 = .ok (.if_icmp .ge 52, 3) := by decide +kernel
theorem dX4_deepestFit_16 : decode cX4_deepestFit 16 = .ok (.aload_n 3, 1) := by decide +kernel
theorem dX4_deepestFit_17 : decode cX4_deepestFit 17 = .ok (.iload 4, 2) := by decide +kernel
theorem dX4_deepestFit_19 : decode cX4_deepestFit 19 = .ok (.iload 6, 2) := by decide +kernel
theorem dX4_deepestFit_21 : decode cX4_deepestFit 21 = .ok (.iadd, 1) := by decide +kernel
theorem dX4_deepestFit_22 : decode cX4_deepestFit 22 = .ok (.iaload, 1) := by decide +kernel
theorem dX4_deepestFit_23 : decode cX4_deepestFit 23 = .ok (.istore 7, 2) := by decide +kernel
theorem dX4_deepestFit_25 : decode cX4_deepestFit 25 = .ok (.aload_n 0, 1) := by decide +kernel
theorem dX4_deepestFit_26 : decode cX4_deepestFit 26 = .ok (.iload 6, 2) := by decide +kernel
theorem dX4_deepestFit_28 : decode cX4_deepestFit 28 = .ok (.iload_n 1, 1) := by decide +kernel
theorem dX4_deepestFit_29 : decode cX4_deepestFit 29 = .ok (.iload_n 2, 1) := by decide +kernel
theorem dX4_deepestFit_30 : decode cX4_deepestFit 30 = .ok (.iload 7, 2) := by decide +kernel
theorem dX4_deepestFit_32 : decode cX4_deepestFit 32 = .ok (.invokevirtual 63, 3) := by decide +kernel
theorem dX4_deepestFit_35 : decode cX4_deepestFit 35 = .ok (.ifCond .eq 24, 3) := by decide +kernel
theorem dX4_deepestFit_38 : decode cX4_deepestFit 38 = .ok (.iload 5, 2) := by decide +kernel
theorem dX4_deepestFit_40 : decode cX4_deepestFit 40 = .ok (.ifCond .lt 15, 3) := by decide +kernel
theorem dX4_deepestFit_43 : decode cX4_deepestFit 43 = .ok (.iload 7, 2) := by decide +kernel
theorem dX4_deepestFit_45 : decode cX4_deepestFit 45 = .ok (.aload_n 3, 1) := by decide +kernel
theorem dX4_deepestFit_46 : decode cX4_deepestFit 46 = .ok (.iload 4, 2) := by decide +kernel
theorem dX4_deepestFit_48 : decode cX4_deepestFit 48 = .ok (.iload 5, 2) := by decide +kernel
theorem dX4_deepestFit_50 : decode cX4_deepestFit 50 = .ok (.iadd, 1) := by decide +kernel
theorem dX4_deepestFit_51 : decode cX4_deepestFit 51 = .ok (.iaload, 1) := by decide +kernel
theorem dX4_deepestFit_52 : decode cX4_deepestFit 52 = .ok (.if_icmp .le 7, 3) := by decide +kernel
theorem dX4_deepestFit_55 : decode cX4_deepestFit 55 = .ok (.iload 6, 2) := by decide +kernel
theorem dX4_deepestFit_57 : decode cX4_deepestFit 57 = .ok (.istore 5, 2) := by decide +kernel
theorem dX4_deepestFit_59 : decode cX4_deepestFit 59 = .ok (.iinc 6 1, 3) := by decide +kernel
theorem dX4_deepestFit_62 : decode cX4_deepestFit 62 = .ok (.goto (-55), 3) := by decide +kernel
theorem dX4_deepestFit_65 : decode cX4_deepestFit 65 = .ok (.iload 5, 2) := by decide +kernel
theorem dX4_deepestFit_67 : decode cX4_deepestFit 67 = .ok (.ireturn, 1) := by decide +kernel
theorem dX4_lessBy_0 : decode cX4_lessBy 0 = .ok (.aload_n 0, 1) := by decide +kernel
theorem dX4_lessBy_1 : decode cX4_lessBy 1 = .ok (.getfield 11, 3) := by decide +kernel
theorem dX4_lessBy_4 : decode cX4_lessBy 4 = .ok (.iload_n 1, 1) := by decide +kernel
theorem dX4_lessBy_5 : decode cX4_lessBy 5 = .ok (.iaload, 1) := by decide +kernel
theorem dX4_lessBy_6 : decode cX4_lessBy 6 = .ok (.tableswitch 75 1 4 #[30, 34, 39, 58], 30) := by decide +kernel
theorem dX4_lessBy_36 : decode cX4_lessBy 36 = .ok (.invokestatic 67, 3) := by decide +kernel
theorem dX4_lessBy_39 : decode cX4_lessBy 39 = .ok (.ireturn, 1) := by decide +kernel
theorem dX4_lessBy_40 : decode cX4_lessBy 40 = .ok (.aload_n 0, 1) := by decide +kernel
theorem dX4_lessBy_41 : decode cX4_lessBy 41 = .ok (.invokevirtual 70, 3) := by decide +kernel
theorem dX4_lessBy_44 : decode cX4_lessBy 44 = .ok (.ireturn, 1) := by decide +kernel
theorem dX4_lessBy_45 : decode cX4_lessBy 45 = .ok (.aload_n 0, 1) := by decide +kernel
theorem dX4_lessBy_46 : decode cX4_lessBy 46 = .ok (.getfield 18, 3) := by decide +kernel
theorem dX4_lessBy_49 : decode cX4_lessBy 49 = .ok (.iload_n 1, 1) := by decide +kernel
theorem dX4_lessBy_50 : decode cX4_lessBy 50 = .ok (.iaload, 1) := by decide +kernel
theorem dX4_lessBy_51 : decode cX4_lessBy 51 = .ok (.bipush 30, 2) := by decide +kernel
theorem dX4_lessBy_53 : decode cX4_lessBy 53 = .ok (.if_icmp .lt 7, 3) := by decide +kernel
theorem dX4_lessBy_56 : decode cX4_lessBy 56 = .ok (.iconst 0, 1) := by decide +kernel
theorem dX4_lessBy_57 : decode cX4_lessBy 57 = .ok (.goto 6, 3) := by decide +kernel
theorem dX4_lessBy_60 : decode cX4_lessBy 60 = .ok (.invokestatic 67, 3) := by decide +kernel
theorem dX4_lessBy_63 : decode cX4_lessBy 63 = .ok (.ireturn, 1) := by decide +kernel
theorem dX4_lessBy_64 : decode cX4_lessBy 64 = .ok (.aload_n 0, 1) := by decide +kernel
theorem dX4_lessBy_65 : decode cX4_lessBy 65 = .ok (.invokevirtual 70, 3) := by decide +kernel
theorem dX4_lessBy_68 : decode cX4_lessBy 68 = .ok (.iconst 2, 1) := by decide +kernel
theorem dX4_lessBy_69 : decode cX4_lessBy 69 = .ok (.iload_n 2, 1) := by decide +kernel
theorem dX4_lessBy_70 : decode cX4_lessBy 70 = .ok (.iload_n 1, 1) := by decide +kernel
theorem dX4_lessBy_71 : decode cX4_lessBy 71 = .ok (.invokestatic 73, 3) := by decide +kernel
theorem dX4_lessBy_74 : decode cX4_lessBy 74 = .ok (.iand, 1) := by decide +kernel
theorem dX4_lessBy_75 : decode cX4_lessBy 75 = .ok (.invokestatic 77, 3) := by decide +kernel
theorem dX4_lessBy_78 : decode cX4_lessBy 78 = .ok (.imul, 1) := by decide +kernel
theorem dX4_lessBy_79 : decode cX4_lessBy 79 = .ok (.iadd, 1) := by decide +kernel
theorem dX4_lessBy_80 : decode cX4_lessBy 80 = .ok (.ireturn, 1) := by decide +kernel
theorem dX4_lessBy_81 : decode cX4_lessBy 81 = .ok (.iconst 2, 1) := by decide +kernel
theorem dX4_lessBy_82 : decode cX4_lessBy 82 = .ok (.ireturn, 1) := by decide +kernel
theorem dX4_shadyLoss_0 : decode cX4_shadyLoss 0 = .ok (.iconst 1, 1) := by decide +kernel
theorem dX4_shadyLoss_1 : decode cX4_shadyLoss 1 = .ok (.ireturn, 1) := by decide +kernel
theorem dX4_kerbLoss_0 : decode cX4_kerbLoss 0 = .ok (.aload_n 0, 1) := by decide +kernel
theorem dX4_kerbLoss_1 : decode cX4_kerbLoss 1 = .ok (.getfield 40, 3) := by decide +kernel
theorem dX4_kerbLoss_4 : decode cX4_kerbLoss 4 = .ok (.iconst 2, 1) := by decide +kernel
theorem dX4_kerbLoss_5 : decode cX4_kerbLoss 5 = .ok (.irem, 1) := by decide +kernel
theorem dX4_kerbLoss_6 : decode cX4_kerbLoss 6 = .ok (.ifCond .ne 7, 3) := by decide +kernel
theorem dX4_kerbLoss_9 : decode cX4_kerbLoss 9 = .ok (.iconst 4, 1) := by decide +kernel
theorem dX4_kerbLoss_10 : decode cX4_kerbLoss 10 = .ok (.goto 4, 3) := by decide +kernel
theorem dX4_kerbLoss_13 : decode cX4_kerbLoss 13 = .ok (.iconst 2, 1) := by decide +kernel
theorem dX4_kerbLoss_14 : decode cX4_kerbLoss 14 = .ok (.ireturn, 1) := by decide +kernel
theorem dX4_neighbours_0 : decode cX4_neighbours 0 = .ok (.iconst 1, 1) := by decide +kernel
theorem dX4_neighbours_1 : decode cX4_neighbours 1 = .ok (.iload_n 0, 1) := by decide +kernel
theorem dX4_neighbours_2 : decode cX4_neighbours 2 = .ok (.ishl, 1) := by decide +kernel
theorem dX4_neighbours_3 : decode cX4_neighbours 3 = .ok (.istore_n 1, 1) := by decide +kernel
theorem dX4_neighbours_4 : decode cX4_neighbours 4 = .ok (.iload_n 1, 1) := by decide +kernel
theorem dX4_neighbours_5 : decode cX4_neighbours 5 = .ok (.iconst 1, 1) := by decide +kernel
theorem dX4_neighbours_6 : decode cX4_neighbours 6 = .ok (.ishl, 1) := by decide +kernel
theorem dX4_neighbours_7 : decode cX4_neighbours 7 = .ok (.iload_n 1, 1) := by decide +kernel
theorem dX4_neighbours_8 : decode cX4_neighbours 8 = .ok (.iconst 1, 1) := by decide +kernel
theorem dX4_neighbours_9 : decode cX4_neighbours 9 = .ok (.ishr, 1) := by decide +kernel
theorem dX4_neighbours_10 : decode cX4_neighbours 10 = .ok (.ior, 1) := by decide +kernel
theorem dX4_neighbours_11 : decode cX4_neighbours 11 = .ok (.ireturn, 1) := by decide +kernel
theorem dX4_passHour_0 : decode cX4_passHour 0 = .ok (.aload_n 0, 1) := by decide +kernel
theorem dX4_passHour_1 : decode cX4_passHour 1 = .ok (.invokevirtual 82, 3) := by decide +kernel
theorem dX4_passHour_4 : decode cX4_passHour 4 = .ok (.aload_n 0, 1) := by decide +kernel
theorem dX4_passHour_5 : decode cX4_passHour 5 = .ok (.invokevirtual 85, 3) := by decide +kernel
theorem dX4_passHour_8 : decode cX4_passHour 8 = .ok (.return_, 1) := by decide +kernel
theorem dX4_letClaim_0 : decode cX4_letClaim 0 = .ok (.iconst 0, 1) := by decide +kernel
theorem dX4_letClaim_1 : decode cX4_letClaim 1 = .ok (.istore_n 1, 1) := by decide +kernel
theorem dX4_letClaim_2 : decode cX4_letClaim 2 = .ok (.iload_n 1, 1) := by decide +kernel
theorem dX4_letClaim_3 : decode cX4_letClaim 3 = .ok (.aload_n 0, 1) := by decide +kernel
theorem dX4_letClaim_4 : decode cX4_letClaim 4 = .ok (.getfield 37, 3) := by decide +kernel
theorem dX4_letClaim_7 : decode cX4_letClaim 7 = .ok (.if_icmp .ge 50, 3) := by decide +kernel
theorem dX4_letClaim_10 : decode cX4_letClaim 10 = .ok (.aload_n 0, 1) := by decide +kernel
theorem dX4_letClaim_11 : decode cX4_letClaim 11 = .ok (.getfield 24, 3) := by decide +kernel
theorem dX4_letClaim_14 : decode cX4_letClaim 14 = .ok (.iload_n 1, 1) := by decide +kernel
theorem dX4_letClaim_15 : decode cX4_letClaim 15 = .ok (.iaload, 1) := by decide +kernel
theorem dX4_letClaim_16 : decode cX4_letClaim 16 = .ok (.aload_n 0, 1) := by decide +kernel
theorem dX4_letClaim_17 : decode cX4_letClaim 17 = .ok (.getfield 40, 3) := by decide +kernel
theorem dX4_letClaim_20 : decode cX4_letClaim 20 = .ok (.if_icmp .gt 31, 3) := by decide +kernel
theorem dX4_letClaim_23 : decode cX4_letClaim 23 = .ok (.aload_n 0, 1) := by decide +kernel
theorem dX4_letClaim_24 : decode cX4_letClaim 24 = .ok (.iload_n 1, 1) := by decide +kernel
theorem dX4_letClaim_25 : decode cX4_letClaim 25 = .ok (.invokevirtual 56, 3) := by decide +kernel
theorem dX4_letClaim_28 : decode cX4_letClaim 28 = .ok (.ifCond .ne 23, 3) := by decide +kernel
theorem dX4_letClaim_31 : decode cX4_letClaim 31 = .ok (.aload_n 0, 1) := by decide +kernel
theorem dX4_letClaim_32 : decode cX4_letClaim 32 = .ok (.getfield 30, 3) := by decide +kernel
theorem dX4_letClaim_35 : decode cX4_letClaim 35 = .ok (.iload_n 1, 1) := by decide +kernel
theorem dX4_letClaim_36 : decode cX4_letClaim 36 = .ok (.aload_n 0, 1) := by decide +kernel
theorem dX4_letClaim_37 : decode cX4_letClaim 37 = .ok (.iload_n 1, 1) := by decide +kernel
theorem dX4_letClaim_38 : decode cX4_letClaim 38 = .ok (.aload_n 0, 1) := by decide +kernel
theorem dX4_letClaim_39 : decode cX4_letClaim 39 = .ok (.invokevirtual 59, 3) := by decide +kernel
theorem dX4_letClaim_42 : decode cX4_letClaim 42 = .ok (.aload_n 0, 1) := by decide +kernel
theorem dX4_letClaim_43 : decode cX4_letClaim 43 = .ok (.getfield 18, 3) := by decide +kernel
theorem dX4_letClaim_46 : decode cX4_letClaim 46 = .ok (.iconst 0, 1) := by decide +kernel
theorem dX4_letClaim_47 : decode cX4_letClaim 47 = .ok (.invokevirtual 88, 3) := by decide +kernel
theorem dX4_letClaim_50 : decode cX4_letClaim 50 = .ok (.iastore, 1) := by decide +kernel
theorem dX4_letClaim_51 : decode cX4_letClaim 51 = .ok (.iinc 1 1, 3) := by decide +kernel
theorem dX4_letClaim_54 : decode cX4_letClaim 54 = .ok (.goto (-52), 3) := by decide +kernel
theorem dX4_letClaim_57 : decode cX4_letClaim 57 = .ok (.return_, 1) := by decide +kernel
theorem dX4_lessen_0 : decode cX4_lessen 0 = .ok (.aload_n 0, 1) := by decide +kernel
theorem dX4_lessen_1 : decode cX4_lessen 1 = .ok (.invokevirtual 92, 3) := by decide +kernel
theorem dX4_lessen_4 : decode cX4_lessen 4 = .ok (.istore_n 1, 1) := by decide +kernel
theorem dX4_lessen_5 : decode cX4_lessen 5 = .ok (.iconst 0, 1) := by decide +kernel
theorem dX4_lessen_6 : decode cX4_lessen 6 = .ok (.istore_n 2, 1) := by decide +kernel
theorem dX4_lessen_7 : decode cX4_lessen 7 = .ok (.iload_n 2, 1) := by decide +kernel
theorem dX4_lessen_8 : decode cX4_lessen 8 = .ok (.aload_n 0, 1) := by decide +kernel
theorem dX4_lessen_9 : decode cX4_lessen 9 = .ok (.getfield 33, 3) := by decide +kernel
theorem dX4_lessen_12 : decode cX4_lessen 12 = .ok (.if_icmp .ge 32, 3) := by decide +kernel
theorem dX4_lessen_15 : decode cX4_lessen 15 = .ok (.aload_n 0, 1) := by decide +kernel
theorem dX4_lessen_16 : decode cX4_lessen 16 = .ok (.getfield 18, 3) := by decide +kernel
theorem dX4_lessen_19 : decode cX4_lessen 19 = .ok (.iload_n 2, 1) := by decide +kernel
theorem dX4_lessen_20 : decode cX4_lessen 20 = .ok (.iconst 0, 1) := by decide +kernel
theorem dX4_lessen_21 : decode cX4_lessen 21 = .ok (.aload_n 0, 1) := by decide +kernel
theorem dX4_lessen_22 : decode cX4_lessen 22 = .ok (.getfield 18, 3) := by decide +kernel
theorem dX4_lessen_25 : decode cX4_lessen 25 = .ok (.iload_n 2, 1) := by decide +kernel
theorem dX4_lessen_26 : decode cX4_lessen 26 = .ok (.iaload, 1) := by decide +kernel
theorem dX4_lessen_27 : decode cX4_lessen 27 = .ok (.aload_n 0, 1) := by decide +kernel
theorem dX4_lessen_28 : decode cX4_lessen 28 = .ok (.iload_n 2, 1) := by decide +kernel
theorem dX4_lessen_29 : decode cX4_lessen 29 = .ok (.iload_n 1, 1) := by decide +kernel
theorem dX4_lessen_30 : decode cX4_lessen 30 = .ok (.invokevirtual 95, 3) := by decide +kernel
theorem dX4_lessen_33 : decode cX4_lessen 33 = .ok (.isub, 1) := by decide +kernel
theorem dX4_lessen_34 : decode cX4_lessen 34 = .ok (.invokestatic 99, 3) := by decide +kernel
theorem dX4_lessen_37 : decode cX4_lessen 37 = .ok (.iastore, 1) := by decide +kernel
theorem dX4_lessen_38 : decode cX4_lessen 38 = .ok (.iinc 2 1, 3) := by decide +kernel
theorem dX4_lessen_41 : decode cX4_lessen 41 = .ok (.goto (-34), 3) := by decide +kernel
theorem dX4_lessen_44 : decode cX4_lessen 44 = .ok (.aload_n 0, 1) := by decide +kernel
theorem dX4_lessen_45 : decode cX4_lessen 45 = .ok (.dup, 1) := by decide +kernel
theorem dX4_lessen_46 : decode cX4_lessen 46 = .ok (.getfield 40, 3) := by decide +kernel
theorem dX4_lessen_49 : decode cX4_lessen 49 = .ok (.iconst 1, 1) := by decide +kernel
theorem dX4_lessen_50 : decode cX4_lessen 50 = .ok (.iadd, 1) := by decide +kernel
theorem dX4_lessen_51 : decode cX4_lessen 51 = .ok (.putfield 40, 3) := by decide +kernel
theorem dX4_lessen_54 : decode cX4_lessen 54 = .ok (.return_, 1) := by decide +kernel
theorem dX4_claimantsBehind_0 : decode cX4_claimantsBehind 0 = .ok (.iconst 0, 1) := by decide +kernel
theorem dX4_claimantsBehind_1 : decode cX4_claimantsBehind 1 = .ok (.istore_n 2, 1) := by decide +kernel
theorem dX4_claimantsBehind_2 : decode cX4_claimantsBehind 2 = .ok (.iload_n 2, 1) := by decide +kernel
theorem dX4_claimantsBehind_3 : decode cX4_claimantsBehind 3 = .ok (.iload_n 1, 1) := by decide +kernel
theorem dX4_claimantsBehind_4 : decode cX4_claimantsBehind 4 = .ok (.if_icmp .ge 27, 3) := by decide +kernel
theorem dX4_claimantsBehind_7 : decode cX4_claimantsBehind 7 = .ok (.iload_n 2, 1) := by decide +kernel
theorem dX4_claimantsBehind_8 : decode cX4_claimantsBehind 8 = .ok (.ifCond .le 13, 3) := by decide +kernel
theorem dX4_claimantsBehind_11 : decode cX4_claimantsBehind 11 = .ok (.aload_n 0, 1) := by decide +kernel
theorem dX4_claimantsBehind_12 : decode cX4_claimantsBehind 12 = .ok (.invokevirtual 104, 3) := by decide +kernel
theorem dX4_claimantsBehind_15 : decode cX4_claimantsBehind 15 = .ok (.ifCond .ne 6, 3) := by decide +kernel
theorem dX4_claimantsBehind_18 : decode cX4_claimantsBehind 18 = .ok (.goto 13, 3) := by decide +kernel
theorem dX4_claimantsBehind_21 : decode cX4_claimantsBehind 21 = .ok (.aload_n 0, 1) := by decide +kernel
theorem dX4_claimantsBehind_22 : decode cX4_claimantsBehind 22 = .ok (.invokevirtual 108, 3) := by decide +kernel
theorem dX4_claimantsBehind_25 : decode cX4_claimantsBehind 25 = .ok (.iinc 2 1, 3) := by decide +kernel
theorem dX4_claimantsBehind_28 : decode cX4_claimantsBehind 28 = .ok (.goto (-26), 3) := by decide +kernel
theorem dX4_claimantsBehind_31 : decode cX4_claimantsBehind 31 = .ok (.aload_n 0, 1) := by decide +kernel
theorem dX4_claimantsBehind_32 : decode cX4_claimantsBehind 32 = .ok (.invokevirtual 111, 3) := by decide +kernel
theorem dX4_claimantsBehind_35 : decode cX4_claimantsBehind 35 = .ok (.ireturn, 1) := by decide +kernel
theorem dX4_isAnyoneToCome_0 : decode cX4_isAnyoneToCome 0 = .ok (.iconst 0, 1) := by decide +kernel
theorem dX4_isAnyoneToCome_1 : decode cX4_isAnyoneToCome 1 = .ok (.istore_n 1, 1) := by decide +kernel
theorem dX4_isAnyoneToCome_2 : decode cX4_isAnyoneToCome 2 = .ok (.iload_n 1, 1) := by decide +kernel
theorem dX4_isAnyoneToCome_3 : decode cX4_isAnyoneToCome 3 = .ok (.aload_n 0, 1) := by decide +kernel
theorem dX4_isAnyoneToCome_4 : decode cX4_isAnyoneToCome 4 = .ok (.getfield 37, 3) := by decide +kernel
theorem dX4_isAnyoneToCome_7 : decode cX4_isAnyoneToCome 7 = .ok (.if_icmp .ge 32, 3) := by decide +kernel
theorem dX4_isAnyoneToCome_10 : decode cX4_isAnyoneToCome 10 = .ok (.aload_n 0, 1) := by decide +kernel
theorem dX4_isAnyoneToCome_11 : decode cX4_isAnyoneToCome 11 = .ok (.getfield 24, 3) := by decide +kernel
theorem dX4_isAnyoneToCome_14 : decode cX4_isAnyoneToCome 14 = .ok (.iload_n 1, 1) := by decide +kernel
theorem dX4_isAnyoneToCome_15 : decode cX4_isAnyoneToCome 15 = .ok (.iaload, 1) := by decide +kernel
theorem dX4_isAnyoneToCome_16 : decode cX4_isAnyoneToCome 16 = .ok (.aload_n 0, 1) := by decide +kernel
theorem dX4_isAnyoneToCome_17 : decode cX4_isAnyoneToCome 17 = .ok (.getfield 40, 3) := by decide +kernel
theorem dX4_isAnyoneToCome_20 : decode cX4_isAnyoneToCome 20 = .ok (.if_icmp .lt 13, 3) := by decide +kernel
theorem dX4_isAnyoneToCome_23 : decode cX4_isAnyoneToCome 23 = .ok (.aload_n 0, 1) := by decide +kernel
theorem dX4_isAnyoneToCome_24 : decode cX4_isAnyoneToCome 24 = .ok (.iload_n 1, 1) := by decide +kernel
theorem dX4_isAnyoneToCome_25 : decode cX4_isAnyoneToCome 25 = .ok (.invokevirtual 56, 3) := by decide +kernel
theorem dX4_isAnyoneToCome_28 : decode cX4_isAnyoneToCome 28 = .ok (.ifCond .ne 5, 3) := by decide +kernel
theorem dX4_isAnyoneToCome_31 : decode cX4_isAnyoneToCome 31 = .ok (.iconst 1, 1) := by decide +kernel
theorem dX4_isAnyoneToCome_32 : decode cX4_isAnyoneToCome 32 = .ok (.ireturn, 1) := by decide +kernel
theorem dX4_isAnyoneToCome_33 : decode cX4_isAnyoneToCome 33 = .ok (.iinc 1 1, 3) := by decide +kernel
theorem dX4_isAnyoneToCome_36 : decode cX4_isAnyoneToCome 36 = .ok (.goto (-34), 3) := by decide +kernel
theorem dX4_isAnyoneToCome_39 : decode cX4_isAnyoneToCome 39 = .ok (.iconst 0, 1) := by decide +kernel
theorem dX4_isAnyoneToCome_40 : decode cX4_isAnyoneToCome 40 = .ok (.ireturn, 1) := by decide +kernel
theorem dX4_deepen_0 : decode cX4_deepen 0 = .ok (.iconst 0, 1) := by decide +kernel
theorem dX4_deepen_1 : decode cX4_deepen 1 = .ok (.istore_n 2, 1) := by decide +kernel
theorem dX4_deepen_2 : decode cX4_deepen 2 = .ok (.iload_n 2, 1) := by decide +kernel
theorem dX4_deepen_3 : decode cX4_deepen 3 = .ok (.aload_n 0, 1) := by decide +kernel
theorem dX4_deepen_4 : decode cX4_deepen 4 = .ok (.getfield 33, 3) := by decide +kernel
theorem dX4_deepen_7 : decode cX4_deepen 7 = .ok (.if_icmp .ge 28, 3) := by decide +kernel
theorem dX4_deepen_10 : decode cX4_deepen 10 = .ok (.aload_n 0, 1) := by decide +kernel
theorem dX4_deepen_11 : decode cX4_deepen 11 = .ok (.getfield 18, 3) := by decide +kernel
theorem dX4_deepen_14 : decode cX4_deepen 14 = .ok (.iload_n 2, 1) := by decide +kernel
theorem dX4_deepen_15 : decode cX4_deepen 15 = .ok (.bipush 60, 2) := by decide +kernel
theorem dX4_deepen_17 : decode cX4_deepen 17 = .ok (.aload_n 0, 1) := by decide +kernel
theorem dX4_deepen_18 : decode cX4_deepen 18 = .ok (.getfield 18, 3) := by decide +kernel
theorem dX4_deepen_21 : decode cX4_deepen 21 = .ok (.iload_n 2, 1) := by decide +kernel
theorem dX4_deepen_22 : decode cX4_deepen 22 = .ok (.iaload, 1) := by decide +kernel
theorem dX4_deepen_23 : decode cX4_deepen 23 = .ok (.iload_n 1, 1) := by decide +kernel
theorem dX4_deepen_24 : decode cX4_deepen 24 = .ok (.iadd, 1) := by decide +kernel
theorem dX4_deepen_25 : decode cX4_deepen 25 = .ok (.invokestatic 114, 3) := by decide +kernel
theorem dX4_deepen_28 : decode cX4_deepen 28 = .ok (.iastore, 1) := by decide +kernel
theorem dX4_deepen_29 : decode cX4_deepen 29 = .ok (.iinc 2 1, 3) := by decide +kernel
theorem dX4_deepen_32 : decode cX4_deepen 32 = .ok (.goto (-30), 3) := by decide +kernel
theorem dX4_deepen_35 : decode cX4_deepen 35 = .ok (.return_, 1) := by decide +kernel
theorem dX4_halve_0 : decode cX4_halve 0 = .ok (.aload_n 0, 1) := by decide +kernel
theorem dX4_halve_1 : decode cX4_halve 1 = .ok (.getfield 18, 3) := by decide +kernel
theorem dX4_halve_4 : decode cX4_halve 4 = .ok (.iload_n 1, 1) := by decide +kernel
theorem dX4_halve_5 : decode cX4_halve 5 = .ok (.dup2, 1) := by decide +kernel
theorem dX4_halve_6 : decode cX4_halve 6 = .ok (.iaload, 1) := by decide +kernel
theorem dX4_halve_7 : decode cX4_halve 7 = .ok (.iconst 2, 1) := by decide +kernel
theorem dX4_halve_8 : decode cX4_halve 8 = .ok (.idiv, 1) := by decide +kernel
theorem dX4_halve_9 : decode cX4_halve 9 = .ok (.iastore, 1) := by decide +kernel
theorem dX4_halve_10 : decode cX4_halve 10 = .ok (.return_, 1) := by decide +kernel
theorem dX4_drawCart_0 : decode cX4_drawCart 0 = .ok (.aload_n 0, 1) := by decide +kernel
theorem dX4_drawCart_1 : decode cX4_drawCart 1 = .ok (.aload_n 0, 1) := by decide +kernel
theorem dX4_drawCart_2 : decode cX4_drawCart 2 = .ok (.getfield 43, 3) := by decide +kernel
theorem dX4_drawCart_5 : decode cX4_drawCart 5 = .ok (.ldc 117, 2) := by decide +kernel
theorem dX4_drawCart_7 : decode cX4_drawCart 7 = .ok (.imul, 1) := by decide +kernel
theorem dX4_drawCart_8 : decode cX4_drawCart 8 = .ok (.sipush 12345, 3) := by decide +kernel
theorem dX4_drawCart_11 : decode cX4_drawCart 11 = .ok (.iadd, 1) := by decide +kernel
theorem dX4_drawCart_12 : decode cX4_drawCart 12 = .ok (.ldc 118, 2) := by decide +kernel
theorem dX4_drawCart_14 : decode cX4_drawCart 14 = .ok (.iand, 1) := by decide +kernel
theorem dX4_drawCart_15 : decode cX4_drawCart 15 = .ok (.putfield 43, 3) := by decide +kernel
theorem dX4_drawCart_18 : decode cX4_drawCart 18 = .ok (.aload_n 0, 1) := by decide +kernel
theorem dX4_drawCart_19 : decode cX4_drawCart 19 = .ok (.getfield 33, 3) := by decide +kernel
theorem dX4_drawCart_22 : decode cX4_drawCart 22 = .ok (.ifCond .le 32, 3) := by decide +kernel
theorem dX4_drawCart_25 : decode cX4_drawCart 25 = .ok (.aload_n 0, 1) := by decide +kernel
theorem dX4_drawCart_26 : decode cX4_drawCart 26 = .ok (.getfield 43, 3) := by decide +kernel
theorem dX4_drawCart_29 : decode cX4_drawCart 29 = .ok (.ldc 119, 2) := by decide +kernel
theorem dX4_drawCart_31 : decode cX4_drawCart 31 = .ok (.idiv, 1) := by decide +kernel
theorem dX4_drawCart_32 : decode cX4_drawCart 32 = .ok (.iconst 3, 1) := by decide +kernel
theorem dX4_drawCart_33 : decode cX4_drawCart 33 = .ok (.irem, 1) := by decide +kernel
theorem dX4_drawCart_34 : decode cX4_drawCart 34 = .ok (.ifCond .ne 20, 3) := by decide +kernel
theorem dX4_drawCart_37 : decode cX4_drawCart 37 = .ok (.aload_n 0, 1) := by decide +kernel
theorem dX4_drawCart_38 : decode cX4_drawCart 38 = .ok (.aload_n 0, 1) := by decide +kernel
theorem dX4_drawCart_39 : decode cX4_drawCart 39 = .ok (.getfield 43, 3) := by decide +kernel
theorem dX4_drawCart_42 : decode cX4_drawCart 42 = .ok (.sipush 128, 3) := by decide +kernel
theorem dX4_drawCart_45 : decode cX4_drawCart 45 = .ok (.idiv, 1) := by decide +kernel
theorem dX4_drawCart_46 : decode cX4_drawCart 46 = .ok (.aload_n 0, 1) := by decide +kernel
theorem dX4_drawCart_47 : decode cX4_drawCart 47 = .ok (.getfield 33, 3) := by decide +kernel
theorem dX4_drawCart_50 : decode cX4_drawCart 50 = .ok (.irem, 1) := by decide +kernel
theorem dX4_drawCart_51 : decode cX4_drawCart 51 = .ok (.invokevirtual 120, 3) := by decide +kernel
theorem dX4_drawCart_54 : decode cX4_drawCart 54 = .ok (.return_, 1) := by decide +kernel
theorem dX5_init_0 : decode cX5_init 0 = .ok (.aload_n 0, 1) := by decide +kernel
theorem dX5_init_1 : decode cX5_init 1 = .ok (.invokespecial 3, 3) := by decide +kernel
theorem dX5_init_4 : decode cX5_init 4 = .ok (.aload_n 0, 1) := by decide +kernel
theorem dX5_init_5 : decode cX5_init 5 = .ok (.bipush 90, 2) := by decide +kernel
theorem dX5_init_7 : decode cX5_init 7 = .ok (.newarray .char, 2) := by decide +kernel
theorem dX5_init_9 : decode cX5_init 9 = .ok (.putfield 11, 3) := by decide +kernel
theorem dX5_init_12 : decode cX5_init 12 = .ok (.aload_n 0, 1) := by decide +kernel
theorem dX5_init_13 : decode cX5_init 13 = .ok (.iconst 0, 1) := by decide +kernel
theorem dX5_init_14 : decode cX5_init 14 = .ok (.putfield 15, 3) := by decide +kernel
theorem dX5_init_17 : decode cX5_init 17 = .ok (.aload_n 0, 1) := by decide +kernel
theorem dX5_init_18 : decode cX5_init 18 = .ok (.iconst 0, 1) := by decide +kernel
theorem dX5_init_19 : decode cX5_init 19 = .ok (.putfield 19, 3) := by decide +kernel
theorem dX5_init_22 : decode cX5_init 22 = .ok (.return_, 1) := by decide +kernel
theorem dX5_add_0 : decode cX5_add 0 = .ok (.aload_n 0, 1) := by decide +kernel
theorem dX5_add_1 : decode cX5_add 1 = .ok (.getfield 15, 3) := by decide +kernel
theorem dX5_add_4 : decode cX5_add 4 = .ok (.bipush 90, 2) := by decide +kernel
theorem dX5_add_6 : decode cX5_add 6 = .ok (.if_icmp .lt 6, 3) := by decide +kernel
theorem dX5_add_9 : decode cX5_add 9 = .ok (.bipush (-3), 2) := by decide +kernel
theorem dX5_add_11 : decode cX5_add 11 = .ok (.ireturn, 1) := by decide +kernel
theorem dX5_add_12 : decode cX5_add 12 = .ok (.aload_n 0, 1) := by decide +kernel
theorem dX5_add_13 : decode cX5_add 13 = .ok (.getfield 11, 3) := by decide +kernel
theorem dX5_add_16 : decode cX5_add 16 = .ok (.aload_n 0, 1) := by decide +kernel
theorem dX5_add_17 : decode cX5_add 17 = .ok (.getfield 15, 3) := by decide +kernel
theorem dX5_add_20 : decode cX5_add 20 = .ok (.iload_n 1, 1) := by decide +kernel
theorem dX5_add_21 : decode cX5_add 21 = .ok (.castore, 1) := by decide +kernel
theorem dX5_add_22 : decode cX5_add 22 = .ok (.aload_n 0, 1) := by decide +kernel
theorem dX5_add_23 : decode cX5_add 23 = .ok (.dup, 1) := by decide +kernel
theorem dX5_add_24 : decode cX5_add 24 = .ok (.getfield 15, 3) := by decide +kernel
theorem dX5_add_27 : decode cX5_add 27 = .ok (.iconst 1, 1) := by decide +kernel
theorem dX5_add_28 : decode cX5_add 28 = .ok (.iadd, 1) := by decide +kernel
theorem dX5_add_29 : decode cX5_add 29 = .ok (.putfield 15, 3) := by decide +kernel
theorem dX5_add_32 : decode cX5_add 32 = .ok (.aload_n 0, 1) := by decide +kernel
theorem dX5_add_33 : decode cX5_add 33 = .ok (.getfield 15, 3) := by decide +kernel
theorem dX5_add_36 : decode cX5_add 36 = .ok (.ireturn, 1) := by decide +kernel
theorem dX5_parse_0 : decode cX5_parse 0 = .ok (.aload_n 0, 1) := by decide +kernel
theorem dX5_parse_1 : decode cX5_parse 1 = .ok (.iconst 0, 1) := by decide +kernel
theorem dX5_parse_2 : decode cX5_parse 2 = .ok (.putfield 19, 3) := by decide +kernel
theorem dX5_parse_5 : decode cX5_parse 5 = .ok (.aload_n 1, 1) := by decide +kernel
theorem dX5_parse_6 : decode cX5_parse 6 = .ok (.invokevirtual 22, 3) := by decide +kernel
theorem dX5_parse_9 : decode cX5_parse 9 = .ok (.aload_n 0, 1) := by decide +kernel
theorem dX5_parse_10 : decode cX5_parse 10 = .ok (.aload_n 1, 1) := by decide +kernel
theorem dX5_parse_11 : decode cX5_parse 11 = .ok (.invokevirtual 27, 3) := by decide +kernel
theorem dX5_parse_14 : decode cX5_parse 14 = .ok (.istore_n 2, 1) := by decide +kernel
theorem dX5_parse_15 : decode cX5_parse 15 = .ok (.iload_n 2, 1) := by decide +kernel
theorem dX5_parse_16 : decode cX5_parse 16 = .ok (.ifCond .ne 18, 3) := by decide +kernel
theorem dX5_parse_19 : decode cX5_parse 19 = .ok (.aload_n 0, 1) := by decide +kernel
theorem dX5_parse_20 : decode cX5_parse 20 = .ok (.bipush 59, 2) := by decide +kernel
theorem dX5_parse_22 : decode cX5_parse 22 = .ok (.invokevirtual 31, 3) := by decide +kernel
theorem dX5_parse_25 : decode cX5_parse 25 = .ok (.ifCond .eq 9, 3) := by decide +kernel
theorem dX5_parse_28 : decode cX5_parse 28 = .ok (.aload_n 0, 1) := by decide +kernel
theorem dX5_parse_29 : decode cX5_parse 29 = .ok (.aload_n 1, 1) := by decide +kernel
theorem dX5_parse_30 : decode cX5_parse 30 = .ok (.invokevirtual 35, 3) := by decide +kernel
theorem dX5_parse_33 : decode cX5_parse 33 = .ok (.istore_n 2, 1) := by decide +kernel
theorem dX5_parse_34 : decode cX5_parse 34 = .ok (.iload_n 2, 1) := by decide +kernel
theorem dX5_parse_35 : decode cX5_parse 35 = .ok (.ifCond .ne 30, 3) := by decide +kernel
theorem dX5_parse_38 : decode cX5_parse 38 = .ok (.aload_n 0, 1) := by decide +kernel
theorem dX5_parse_39 : decode cX5_parse 39 = .ok (.invokevirtual 38, 3) := by decide +kernel
theorem dX5_parse_42 : decode cX5_parse 42 = .ok (.aload_n 0, 1) := by decide +kernel
theorem dX5_parse_43 : decode cX5_parse 43 = .ok (.getfield 19, 3) := by decide +kernel
theorem dX5_parse_46 : decode cX5_parse 46 = .ok (.aload_n 0, 1) := by decide +kernel
theorem dX5_parse_47 : decode cX5_parse 47 = .ok (.getfield 15, 3) := by decide +kernel
theorem dX5_parse_50 : decode cX5_parse 50 = .ok (.if_icmp .ge 13, 3) := by decide +kernel
theorem dX5_parse_53 : decode cX5_parse 53 = .ok (.aload_n 0, 1) := by decide +kernel
theorem dX5_parse_54 : decode cX5_parse 54 = .ok (.getfield 19, 3) := by decide +kernel
theorem dX5_parse_57 : decode cX5_parse 57 = .ok (.invokestatic 41, 3) := by decide +kernel
theorem dX5_parse_60 : decode cX5_parse 60 = .ok (.goto 4, 3) := by decide +kernel
theorem dX5_parse_63 : decode cX5_parse 63 = .ok (.iconst 0, 1) := by decide +kernel
theorem dX5_parse_64 : decode cX5_parse 64 = .ok (.istore_n 2, 1) := by decide +kernel
theorem dX5_parse_65 : decode cX5_parse 65 = .ok (.aload_n 0, 1) := by decide +kernel
theorem dX5_parse_66 : decode cX5_parse 66 = .ok (.iconst 0, 1) := by decide +kernel
theorem dX5_parse_67 : decode cX5_parse 67 = .ok (.putfield 15, 3) := by decide +kernel
theorem dX5_parse_70 : decode cX5_parse 70 = .ok (.iload_n 2, 1) := by decide +kernel
theorem dX5_parse_71 : decode cX5_parse 71 = .ok (.ireturn, 1) := by decide +kernel
theorem dX5_parsePuddles_0 : decode cX5_parsePuddles 0 = .ok (.iconst 0, 1) := by decide +kernel
theorem dX5_parsePuddles_1 : decode cX5_parsePuddles 1 = .ok (.istore_n 2, 1) := by decide +kernel
theorem dX5_parsePuddles_2 : decode cX5_parsePuddles 2 = .ok (.iload_n 2, 1) := by decide +kernel
theorem dX5_parsePuddles_3 : decode cX5_parsePuddles 3 = .ok (.bipush 7, 2) := by decide +kernel
theorem dX5_parsePuddles_5 : decode cX5_parsePuddles 5 = .ok (.if_icmp .ge 76, 3) := by decide +kernel
theorem dX5_parsePuddles_8 : decode cX5_parsePuddles 8 = .ok (.iload_n 2, 1) := by decide +kernel
theorem dX5_parsePuddles_9 : decode cX5_parsePuddles 9 = .ok (.ifCond .le 14, 3) := by decide +kernel
theorem dX5_parsePuddles_12 : decode cX5_parsePuddles 12 = .ok (.aload_n 0, 1) := by decide +kernel
theorem dX5_parsePuddles_13 : decode cX5_parsePuddles 13 = .ok (.bipush 44, 2) := by decide +kernel
theorem dX5_parsePuddles_15 : decode cX5_parsePuddles 15 = .ok (.invokevirtual 31, 3) := by decide +kernel
theorem dX5_parsePuddles_18 : decode cX5_parsePuddles 18 = .ok (.ifCond .ne 5, 3) := by decide +kernel
theorem dX5_parsePuddles_21 : decode cX5_parsePuddles 21 = .ok (.iconst 0, 1) := by decide +kernel
theorem dX5_parsePuddles_22 : decode cX5_parsePuddles 22 = .ok (.ireturn, 1) := by decide +kernel
theorem dX5_parsePuddles_23 : decode cX5_parsePuddles 23 = .ok (.aload_n 0, 1) := by decide +kernel
theorem dX5_parsePuddles_24 : decode cX5_parsePuddles 24 = .ok (.invokevirtual 45, 3) := by decide +kernel
theorem dX5_parsePuddles_27 : decode cX5_parsePuddles 27 = .ok (.istore_n 3, 1) := by decide +kernel
theorem dX5_parsePuddles_28 : decode cX5_parsePuddles 28 = .ok (.iload_n 3, 1) := by decide +kernel
theorem dX5_parsePuddles_29 : decode cX5_parsePuddles 29 = .ok (.ifCond .ge 5, 3) := by decide +kernel
theorem dX5_parsePuddles_32 : decode cX5_parsePuddles 32 = .ok (.iload_n 3, 1) := by decide +kernel
theorem dX5_parsePuddles_33 : decode cX5_parsePuddles 33 = .ok (.ireturn, 1) := by decide +kernel
theorem dX5_parsePuddles_34 : decode cX5_parsePuddles 34 = .ok (.aload_n 0, 1) := by decide +kernel
theorem dX5_parsePuddles_35 : decode cX5_parsePuddles 35 = .ok (.invokevirtual 49, 3) := by decide +kernel
theorem dX5_parsePuddles_38 : decode cX5_parsePuddles 38 = .ok (.istore 4, 2) := by decide +kernel
theorem dX5_parsePuddles_40 : decode cX5_parsePuddles 40 = .ok (.iload 4, 2) := by decide +kernel
theorem dX5_parsePuddles_42 : decode cX5_parsePuddles 42 = .ok (.ifCond .ge 6, 3) := by decide +kernel
theorem dX5_parsePuddles_45 : decode cX5_parsePuddles 45 = .ok (.iload 4, 2) := by decide +kernel
theorem dX5_parsePuddles_47 : decode cX5_parsePuddles 47 = .ok (.ireturn, 1) := by decide +kernel
theorem dX5_parsePuddles_48 : decode cX5_parsePuddles 48 = .ok (.aload_n 0, 1) := by decide +kernel
theorem dX5_parsePuddles_49 : decode cX5_parsePuddles 49 = .ok (.iconst 0, 1) := by decide +kernel
theorem dX5_parsePuddles_50 : decode cX5_parsePuddles 50 = .ok (.bipush 60, 2) := by decide +kernel
theorem dX5_parsePuddles_52 : decode cX5_parsePuddles 52 = .ok (.invokevirtual 52, 3) := by decide +kernel
theorem dX5_parsePuddles_55 : decode cX5_parsePuddles 55 = .ok (.istore 5, 2) := by decide +kernel
theorem dX5_parsePuddles_57 : decode cX5_parsePuddles 57 = .ok (.iload 5, 2) := by decide +kernel
theorem dX5_parsePuddles_59 : decode cX5_parsePuddles 59 = .ok (.ifCond .ge 6, 3) := by decide +kernel
theorem dX5_parsePuddles_62 : decode cX5_parsePuddles 62 = .ok (.iload 5, 2) := by decide +kernel
theorem dX5_parsePuddles_64 : decode cX5_parsePuddles 64 = .ok (.ireturn, 1) := by decide +kernel
theorem dX5_parsePuddles_65 : decode cX5_parsePuddles 65 = .ok (.aload_n 1, 1) := by decide +kernel
theorem dX5_parsePuddles_66 : decode cX5_parsePuddles 66 = .ok (.iload_n 3, 1) := by decide +kernel
theorem dX5_parsePuddles_67 : decode cX5_parsePuddles 67 = .ok (.iload 4, 2) := by decide +kernel
theorem dX5_parsePuddles_69 : decode cX5_parsePuddles 69 = .ok (.iload 5, 2) := by decide +kernel
theorem dX5_parsePuddles_71 : decode cX5_parsePuddles 71 = .ok (.invokevirtual 56, 3) := by decide +kernel
theorem dX5_parsePuddles_74 : decode cX5_parsePuddles 74 = .ok (.pop, 1) := by decide +kernel
theorem dX5_parsePuddles_75 : decode cX5_parsePuddles 75 = .ok (.iinc 2 1, 3) := by decide +kernel
theorem dX5_parsePuddles_78 : decode cX5_parsePuddles 78 = .ok (.goto (-76), 3) := by decide +kernel
theorem dX5_parsePuddles_81 : decode cX5_parsePuddles 81 = .ok (.iconst 0, 1) := by decide +kernel
theorem dX5_parsePuddles_82 : decode cX5_parsePuddles 82 = .ok (.ireturn, 1) := by decide +kernel
theorem dX5_parsePeople_0 : decode cX5_parsePeople 0 = .ok (.iconst 0, 1) := by decide +kernel
theorem dX5_parsePeople_1 : decode cX5_parsePeople 1 = .ok (.istore_n 2, 1) := by decide +kernel
theorem dX5_parsePeople_2 : decode cX5_parsePeople 2 = .ok (.iload_n 2, 1) := by decide +kernel
theorem dX5_parsePeople_3 : decode cX5_parsePeople 3 = .ok (.bipush 6, 2) := by decide +kernel
theorem dX5_parsePeople_5 : decode cX5_parsePeople 5 = .ok (.if_icmp .ge 105, 3) := by decide +kernel
theorem dX5_parsePeople_8 : decode cX5_parsePeople 8 = .ok (.iload_n 2, 1) := by decide +kernel
theorem dX5_parsePeople_9 : decode cX5_parsePeople 9 = .ok (.ifCond .le 14, 3) := by decide +kernel
theorem dX5_parsePeople_12 : decode cX5_parsePeople 12 = .ok (.aload_n 0, 1) := by decide +kernel
theorem dX5_parsePeople_13 : decode cX5_parsePeople 13 = .ok (.bipush 44, 2) := by decide +kernel
theorem dX5_parsePeople_15 : decode cX5_parsePeople 15 = .ok (.invokevirtual 31, 3) := by decide +kernel
theorem dX5_parsePeople_18 : decode cX5_parsePeople 18 = .ok (.ifCond .ne 5, 3) := by decide +kernel
theorem dX5_parsePeople_21 : decode cX5_parsePeople 21 = .ok (.iconst 0, 1) := by decide +kernel
theorem dX5_parsePeople_22 : decode cX5_parsePeople 22 = .ok (.ireturn, 1) := by decide +kernel
theorem dX5_parsePeople_23 : decode cX5_parsePeople 23 = .ok (.aload_n 0, 1) := by decide +kernel
theorem dX5_parsePeople_24 : decode cX5_parsePeople 24 = .ok (.invokevirtual 49, 3) := by decide +kernel
theorem dX5_parsePeople_27 : decode cX5_parsePeople 27 = .ok (.istore_n 3, 1) := by decide +kernel
theorem dX5_parsePeople_28 : decode cX5_parsePeople 28 = .ok (.iload_n 3, 1) := by decide +kernel
theorem dX5_parsePeople_29 : decode cX5_parsePeople 29 = .ok (.ifCond .ge 5, 3) := by decide +kernel
theorem dX5_parsePeople_32 : decode cX5_parsePeople 32 = .ok (.iload_n 3, 1) := by decide +kernel
theorem dX5_parsePeople_33 : decode cX5_parsePeople 33 = .ok (.ireturn, 1) := by decide +kernel
theorem dX5_parsePeople_34 : decode cX5_parsePeople 34 = .ok (.aload_n 0, 1) := by decide +kernel
theorem dX5_parsePeople_35 : decode cX5_parsePeople 35 = .ok (.bipush 64, 2) := by decide +kernel
theorem dX5_parsePeople_37 : decode cX5_parsePeople 37 = .ok (.invokevirtual 31, 3) := by decide +kernel
theorem dX5_parsePeople_40 : decode cX5_parsePeople 40 = .ok (.ifCond .eq 13, 3) := by decide +kernel
theorem dX5_parsePeople_43 : decode cX5_parsePeople 43 = .ok (.aload_n 0, 1) := by decide +kernel
theorem dX5_parsePeople_44 : decode cX5_parsePeople 44 = .ok (.iconst 0, 1) := by decide +kernel
theorem dX5_parsePeople_45 : decode cX5_parsePeople 45 = .ok (.bipush 20, 2) := by decide +kernel
theorem dX5_parsePeople_47 : decode cX5_parsePeople 47 = .ok (.invokevirtual 52, 3) := by decide +kernel
theorem dX5_parsePeople_50 : decode cX5_parsePeople 50 = .ok (.goto 4, 3) := by decide +kernel
theorem dX5_parsePeople_53 : decode cX5_parsePeople 53 = .ok (.iconst 0, 1) := by decide +kernel
theorem dX5_parsePeople_54 : decode cX5_parsePeople 54 = .ok (.istore 4, 2) := by decide +kernel
theorem dX5_parsePeople_56 : decode cX5_parsePeople 56 = .ok (.iload 4, 2) := by decide +kernel
theorem dX5_parsePeople_58 : decode cX5_parsePeople 58 = .ok (.ifCond .ge 6, 3) := by decide +kernel
theorem dX5_parsePeople_61 : decode cX5_parsePeople 61 = .ok (.iload 4, 2) := by decide +kernel
theorem dX5_parsePeople_63 : decode cX5_parsePeople 63 = .ok (.ireturn, 1) := by decide +kernel
theorem dX5_parsePeople_64 : decode cX5_parsePeople 64 = .ok (.aload_n 0, 1) := by decide +kernel
theorem dX5_parsePeople_65 : decode cX5_parsePeople 65 = .ok (.bipush 47, 2) := by decide +kernel
theorem dX5_parsePeople_67 : decode cX5_parsePeople 67 = .ok (.invokevirtual 31, 3) := by decide +kernel
theorem dX5_parsePeople_70 : decode cX5_parsePeople 70 = .ok (.ifCond .eq 13, 3) := by decide +kernel
theorem dX5_parsePeople_73 : decode cX5_parsePeople 73 = .ok (.aload_n 0, 1) := by decide +kernel
theorem dX5_parsePeople_74 : decode cX5_parsePeople 74 = .ok (.iconst 1, 1) := by decide +kernel
theorem dX5_parsePeople_75 : decode cX5_parsePeople 75 = .ok (.bipush 30, 2) := by decide +kernel
theorem dX5_parsePeople_77 : decode cX5_parsePeople 77 = .ok (.invokevirtual 52, 3) := by decide +kernel
theorem dX5_parsePeople_80 : decode cX5_parsePeople 80 = .ok (.goto 4, 3) := by decide +kernel
theorem dX5_parsePeople_83 : decode cX5_parsePeople 83 = .ok (.iconst 1, 1) := by decide +kernel
theorem dX5_parsePeople_84 : decode cX5_parsePeople 84 = .ok (.istore 5, 2) := by decide +kernel
theorem dX5_parsePeople_86 : decode cX5_parsePeople 86 = .ok (.iload 5, 2) := by decide +kernel
theorem dX5_parsePeople_88 : decode cX5_parsePeople 88 = .ok (.ifCond .ge 6, 3) := by decide +kernel
theorem dX5_parsePeople_91 : decode cX5_parsePeople 91 = .ok (.iload 5, 2) := by decide +kernel
theorem dX5_parsePeople_93 : decode cX5_parsePeople 93 = .ok (.ireturn, 1) := by decide +kernel
theorem dX5_parsePeople_94 : decode cX5_parsePeople 94 = .ok (.aload_n 1, 1) := by decide +kernel
theorem dX5_parsePeople_95 : decode cX5_parsePeople 95 = .ok (.iload_n 3, 1) := by decide +kernel
theorem dX5_parsePeople_96 : decode cX5_parsePeople 96 = .ok (.iload 4, 2) := by decide +kernel
theorem dX5_parsePeople_98 : decode cX5_parsePeople 98 = .ok (.iload 5, 2) := by decide +kernel
theorem dX5_parsePeople_100 : decode cX5_parsePeople 100 = .ok (.invokevirtual 60, 3) := by decide +kernel
theorem dX5_parsePeople_103 : decode cX5_parsePeople 103 = .ok (.pop, 1) := by decide +kernel
theorem dX5_parsePeople_104 : decode cX5_parsePeople 104 = .ok (.iinc 2 1, 3) := by decide +kernel
theorem dX5_parsePeople_107 : decode cX5_parsePeople 107 = .ok (.goto (-105), 3) := by decide +kernel
theorem dX5_parsePeople_110 : decode cX5_parsePeople 110 = .ok (.iconst 0, 1) := by decide +kernel
theorem dX5_parsePeople_111 : decode cX5_parsePeople 111 = .ok (.ireturn, 1) := by decide +kernel
theorem dX5_parseKind_0 : decode cX5_parseKind 0 = .ok (.aload_n 0, 1) := by decide +kernel
theorem dX5_parseKind_1 : decode cX5_parseKind 1 = .ok (.invokevirtual 38, 3) := by decide +kernel
theorem dX5_parseKind_4 : decode cX5_parseKind 4 = .ok (.aload_n 0, 1) := by decide +kernel
theorem dX5_parseKind_5 : decode cX5_parseKind 5 = .ok (.getfield 19, 3) := by decide +kernel
theorem dX5_parseKind_8 : decode cX5_parseKind 8 = .ok (.aload_n 0, 1) := by decide +kernel
theorem dX5_parseKind_9 : decode cX5_parseKind 9 = .ok (.getfield 15, 3) := by decide +kernel
theorem dX5_parseKind_12 : decode cX5_parseKind 12 = .ok (.if_icmp .ge 20, 3) := by decide +kernel
theorem dX5_parseKind_15 : decode cX5_parseKind 15 = .ok (.ldc 63, 2) := by decide +kernel
theorem dX5_parseKind_17 : decode cX5_parseKind 17 = .ok (.aload_n 0, 1) := by decide +kernel
theorem dX5_parseKind_18 : decode cX5_parseKind 18 = .ok (.getfield 11, 3) := by decide +kernel
theorem dX5_parseKind_21 : decode cX5_parseKind 21 = .ok (.aload_n 0, 1) := by decide +kernel
theorem dX5_parseKind_22 : decode cX5_parseKind 22 = .ok (.getfield 19, 3) := by decide +kernel
theorem dX5_parseKind_25 : decode cX5_parseKind 25 = .ok (.caload, 1) := by decide +kernel
theorem dX5_parseKind_26 : decode cX5_parseKind 26 = .ok (.invokevirtual 65, 3) := by decide +kernel
theorem dX5_parseKind_29 : decode cX5_parseKind 29 = .ok (.goto 4, 3) := by decide +kernel
theorem dX5_parseKind_32 : decode cX5_parseKind 32 = .ok (.iconst (-1), 1) := by decide +kernel
theorem dX5_parseKind_33 : decode cX5_parseKind 33 = .ok (.istore_n 1, 1) := by decide +kernel
theorem dX5_parseKind_34 : decode cX5_parseKind 34 = .ok (.iload_n 1, 1) := by decide +kernel
theorem dX5_parseKind_35 : decode cX5_parseKind 35 = .ok (.ifCond .ge 11, 3) := by decide +kernel
theorem dX5_parseKind_38 : decode cX5_parseKind 38 = .ok (.aload_n 0, 1) := by decide +kernel
theorem dX5_parseKind_39 : decode cX5_parseKind 39 = .ok (.getfield 19, 3) := by decide +kernel
theorem dX5_parseKind_42 : decode cX5_parseKind 42 = .ok (.invokestatic 41, 3) := by decide +kernel
theorem dX5_parseKind_45 : decode cX5_parseKind 45 = .ok (.ireturn, 1) := by decide +kernel
theorem dX5_parseKind_46 : decode cX5_parseKind 46 = .ok (.aload_n 0, 1) := by decide +kernel
theorem dX5_parseKind_47 : decode cX5_parseKind 47 = .ok (.dup, 1) := by decide +kernel
theorem dX5_parseKind_48 : decode cX5_parseKind 48 = .ok (.getfield 19, 3) := by decide +kernel
theorem dX5_parseKind_51 : decode cX5_parseKind 51 = .ok (.iconst 1, 1) := by decide +kernel
theorem dX5_parseKind_52 : decode cX5_parseKind 52 = .ok (.iadd, 1) := by decide +kernel
theorem dX5_parseKind_53 : decode cX5_parseKind 53 = .ok (.putfield 19, 3) := by decide +kernel
theorem dX5_parseKind_56 : decode cX5_parseKind 56 = .ok (.iload_n 1, 1) := by decide +kernel
theorem dX5_parseKind_57 : decode cX5_parseKind 57 = .ok (.ireturn, 1) := by decide +kernel
theorem dX5_parseSight_0 : decode cX5_parseSight 0 = .ok (.aload_n 0, 1) := by decide +kernel
theorem dX5_parseSight_1 : decode cX5_parseSight 1 = .ok (.invokevirtual 38, 3) := by decide +kernel
theorem dX5_parseSight_4 : decode cX5_parseSight 4 = .ok (.aload_n 0, 1) := by decide +kernel
theorem dX5_parseSight_5 : decode cX5_parseSight 5 = .ok (.invokevirtual 70, 3) := by decide +kernel
theorem dX5_parseSight_8 : decode cX5_parseSight 8 = .ok (.istore_n 1, 1) := by decide +kernel
theorem dX5_parseSight_9 : decode cX5_parseSight 9 = .ok (.iload_n 1, 1) := by decide +kernel
theorem dX5_parseSight_10 : decode cX5_parseSight 10 = .ok (.ifCond .lt 9, 3) := by decide +kernel
theorem dX5_parseSight_13 : decode cX5_parseSight 13 = .ok (.iload_n 1, 1) := by decide +kernel
theorem dX5_parseSight_14 : decode cX5_parseSight 14 = .ok (.bipush 8, 2) := by decide +kernel
theorem dX5_parseSight_16 : decode cX5_parseSight 16 = .ok (.if_icmp .lt 11, 3) := by decide +kernel
theorem dX5_parseSight_19 : decode cX5_parseSight 19 = .ok (.aload_n 0, 1) := by decide +kernel
theorem dX5_parseSight_20 : decode cX5_parseSight 20 = .ok (.getfield 19, 3) := by decide +kernel
theorem dX5_parseSight_23 : decode cX5_parseSight 23 = .ok (.invokestatic 41, 3) := by decide +kernel
theorem dX5_parseSight_26 : decode cX5_parseSight 26 = .ok (.ireturn, 1) := by decide +kernel
theorem dX5_parseSight_27 : decode cX5_parseSight 27 = .ok (.aload_n 0, 1) := by decide +kernel
theorem dX5_parseSight_28 : decode cX5_parseSight 28 = .ok (.dup, 1) := by decide +kernel
theorem dX5_parseSight_29 : decode cX5_parseSight 29 = .ok (.getfield 19, 3) := by decide +kernel
theorem dX5_parseSight_32 : decode cX5_parseSight 32 = .ok (.iconst 1, 1) := by decide +kernel
theorem dX5_parseSight_33 : decode cX5_parseSight 33 = .ok (.iadd, 1) := by decide +kernel
theorem dX5_parseSight_34 : decode cX5_parseSight 34 = .ok (.putfield 19, 3) := by decide +kernel
theorem dX5_parseSight_37 : decode cX5_parseSight 37 = .ok (.iload_n 1, 1) := by decide +kernel
theorem dX5_parseSight_38 : decode cX5_parseSight 38 = .ok (.ireturn, 1) := by decide +kernel
theorem dX5_parseNumber_0 : decode cX5_parseNumber 0 = .ok (.aload_n 0, 1) := by decide +kernel
theorem dX5_parseNumber_1 : decode cX5_parseNumber 1 = .ok (.invokevirtual 38, 3) := by decide +kernel
theorem dX5_parseNumber_4 : decode cX5_parseNumber 4 = .ok (.aload_n 0, 1) := by decide +kernel
theorem dX5_parseNumber_5 : decode cX5_parseNumber 5 = .ok (.getfield 19, 3) := by decide +kernel
theorem dX5_parseNumber_8 : decode cX5_parseNumber 8 = .ok (.istore_n 3, 1) := by decide +kernel
theorem dX5_parseNumber_9 : decode cX5_parseNumber 9 = .ok (.aload_n 0, 1) := by decide +kernel
theorem dX5_parseNumber_10 : decode cX5_parseNumber 10 = .ok (.invokevirtual 70, 3) := by decide +kernel
theorem dX5_parseNumber_13 : decode cX5_parseNumber 13 = .ok (.istore 4, 2) := by decide +kernel
theorem dX5_parseNumber_15 : decode cX5_parseNumber 15 = .ok (.iload 4, 2) := by decide +kernel
theorem dX5_parseNumber_17 : decode cX5_parseNumber 17 = .ok (.ifCond .ge 8, 3) := by decide +kernel
theorem dX5_parseNumber_20 : decode cX5_parseNumber 20 = .ok (.iload_n 3, 1) := by decide +kernel
theorem dX5_parseNumber_21 : decode cX5_parseNumber 21 = .ok (.invokestatic 41, 3) := by decide +kernel
theorem dX5_parseNumber_24 : decode cX5_parseNumber 24 = .ok (.ireturn, 1) := by decide +kernel
theorem dX5_parseNumber_25 : decode cX5_parseNumber 25 = .ok (.aload_n 0, 1) := by decide +kernel
theorem dX5_parseNumber_26 : decode cX5_parseNumber 26 = .ok (.dup, 1) := by decide +kernel
theorem dX5_parseNumber_27 : decode cX5_parseNumber 27 = .ok (.getfield 19, 3) := by decide +kernel
theorem dX5_parseNumber_30 : decode cX5_parseNumber 30 = .ok (.iconst 1, 1) := by decide +kernel
theorem dX5_parseNumber_31 : decode cX5_parseNumber 31 = .ok (.iadd, 1) := by decide +kernel
theorem dX5_parseNumber_32 : decode cX5_parseNumber 32 = .ok (.putfield 19, 3) := by decide +kernel
theorem dX5_parseNumber_35 : decode cX5_parseNumber 35 = .ok (.aload_n 0, 1) := by decide +kernel
theorem dX5_parseNumber_36 : decode cX5_parseNumber 36 = .ok (.invokevirtual 70, 3) := by decide +kernel
theorem dX5_parseNumber_39 : decode cX5_parseNumber 39 = .ok (.istore 5, 2) := by decide +kernel
theorem dX5_parseNumber_41 : decode cX5_parseNumber 41 = .ok (.iload 5, 2) := by decide +kernel
theorem dX5_parseNumber_43 : decode cX5_parseNumber 43 = .ok (.ifCond .lt 23, 3) := by decide +kernel
theorem dX5_parseNumber_46 : decode cX5_parseNumber 46 = .ok (.bipush 10, 2) := by decide +kernel
theorem dX5_parseNumber_48 : decode cX5_parseNumber 48 = .ok (.iload 4, 2) := by decide +kernel
theorem dX5_parseNumber_50 : decode cX5_parseNumber 50 = .ok (.imul, 1) := by decide +kernel
theorem dX5_parseNumber_51 : decode cX5_parseNumber 51 = .ok (.iload 5, 2) := by decide +kernel
theorem dX5_parseNumber_53 : decode cX5_parseNumber 53 = .ok (.iadd, 1) := by decide +kernel
theorem dX5_parseNumber_54 : decode cX5_parseNumber 54 = .ok (.istore 4, 2) := by decide +kernel
theorem dX5_parseNumber_56 : decode cX5_parseNumber 56 = .ok (.aload_n 0, 1) := by decide +kernel
theorem dX5_parseNumber_57 : decode cX5_parseNumber 57 = .ok (.dup, 1) := by decide +kernel
theorem dX5_parseNumber_58 : decode cX5_parseNumber 58 = .ok (.getfield 19, 3) := by decide +kernel
theorem dX5_parseNumber_61 : decode cX5_parseNumber 61 = .ok (.iconst 1, 1) := by decide +kernel
theorem dX5_parseNumber_62 : decode cX5_parseNumber 62 = .ok (.iadd, 1) := by decide +kernel
theorem dX5_parseNumber_63 : decode cX5_parseNumber 63 = .ok (.putfield 19, 3) := by decide +kernel
theorem dX5_parseNumber_66 : decode cX5_parseNumber 66 = .ok (.iload 4, 2) := by decide +kernel
theorem dX5_parseNumber_68 : decode cX5_parseNumber 68 = .ok (.iload_n 1, 1) := by decide +kernel
theorem dX5_parseNumber_69 : decode cX5_parseNumber 69 = .ok (.if_icmp .lt 9, 3) := by decide +kernel
theorem dX5_parseNumber_72 : decode cX5_parseNumber 72 = .ok (.iload 4, 2) := by decide +kernel
theorem dX5_parseNumber_74 : decode cX5_parseNumber 74 = .ok (.iload_n 2, 1) := by decide +kernel
theorem dX5_parseNumber_75 : decode cX5_parseNumber 75 = .ok (.if_icmp .le 10, 3) := by decide +kernel
theorem dX5_parseNumber_78 : decode cX5_parseNumber 78 = .ok (.iload_n 3, 1) := by decide +kernel
theorem dX5_parseNumber_79 : decode cX5_parseNumber 79 = .ok (.invokestatic 41, 3) := by decide +kernel
theorem dX5_parseNumber_82 : decode cX5_parseNumber 82 = .ok (.goto 5, 3) := by decide +kernel
theorem dX5_parseNumber_85 : decode cX5_parseNumber 85 = .ok (.iload 4, 2) := by decide +kernel
theorem dX5_parseNumber_87 : decode cX5_parseNumber 87 = .ok (.ireturn, 1) := by decide +kernel
theorem dX5_take_0 : decode cX5_take 0 = .ok (.aload_n 0, 1) := by decide +kernel
theorem dX5_take_1 : decode cX5_take 1 = .ok (.invokevirtual 38, 3) := by decide +kernel
theorem dX5_take_4 : decode cX5_take 4 = .ok (.aload_n 0, 1) := by decide +kernel
theorem dX5_take_5 : decode cX5_take 5 = .ok (.getfield 19, 3) := by decide +kernel
theorem dX5_take_8 : decode cX5_take 8 = .ok (.aload_n 0, 1) := by decide +kernel
theorem dX5_take_9 : decode cX5_take 9 = .ok (.getfield 15, 3) := by decide +kernel
theorem dX5_take_12 : decode cX5_take 12 = .ok (.if_icmp .ge 16, 3) := by decide +kernel
theorem dX5_take_15 : decode cX5_take 15 = .ok (.aload_n 0, 1) := by decide +kernel
theorem dX5_take_16 : decode cX5_take 16 = .ok (.getfield 11, 3) := by decide +kernel
theorem dX5_take_19 : decode cX5_take 19 = .ok (.aload_n 0, 1) := by decide +kernel
theorem dX5_take_20 : decode cX5_take 20 = .ok (.getfield 19, 3) := by decide +kernel
theorem dX5_take_23 : decode cX5_take 23 = .ok (.caload, 1) := by decide +kernel
theorem dX5_take_24 : decode cX5_take 24 = .ok (.iload_n 1, 1) := by decide +kernel
theorem dX5_take_25 : decode cX5_take 25 = .ok (.if_icmp .eq 5, 3) := by decide +kernel
theorem dX5_take_28 : decode cX5_take 28 = .ok (.iconst 0, 1) := by decide +kernel
theorem dX5_take_29 : decode cX5_take 29 = .ok (.ireturn, 1) := by decide +kernel
theorem dX5_take_30 : decode cX5_take 30 = .ok (.aload_n 0, 1) := by decide +kernel
theorem dX5_take_31 : decode cX5_take 31 = .ok (.dup, 1) := by decide +kernel
theorem dX5_take_32 : decode cX5_take 32 = .ok (.getfield 19, 3) := by decide +kernel
theorem dX5_take_35 : decode cX5_take 35 = .ok (.iconst 1, 1) := by decide +kernel
theorem dX5_take_36 : decode cX5_take 36 = .ok (.iadd, 1) := by decide +kernel
theorem dX5_take_37 : decode cX5_take 37 = .ok (.putfield 19, 3) := by decide +kernel
theorem dX5_take_40 : decode cX5_take 40 = .ok (.iconst 1, 1) := by decide +kernel
theorem dX5_take_41 : decode cX5_take 41 = .ok (.ireturn, 1) := by decide +kernel
theorem dX5_skipBlanks_0 : decode cX5_skipBlanks 0 = .ok (.aload_n 0, 1) := by decide +kernel
theorem dX5_skipBlanks_1 : decode cX5_skipBlanks 1 = .ok (.getfield 19, 3) := by decide +kernel
theorem dX5_skipBlanks_4 : decode cX5_skipBlanks 4 = .ok (.aload_n 0, 1) := by decide +kernel
theorem dX5_skipBlanks_5 : decode cX5_skipBlanks 5 = .ok (.getfield 15, 3) := by decide +kernel
theorem dX5_skipBlanks_8 : decode cX5_skipBlanks 8 = .ok (.if_icmp .ge 30, 3) := by decide +kernel
theorem dX5_skipBlanks_11 : decode cX5_skipBlanks 11 = .ok (.aload_n 0, 1) := by decide +kernel
theorem dX5_skipBlanks_12 : decode cX5_skipBlanks 12 = .ok (.getfield 11, 3) := by decide +kernel
theorem dX5_skipBlanks_15 : decode cX5_skipBlanks 15 = .ok (.aload_n 0, 1) := by decide +kernel
theorem dX5_skipBlanks_16 : decode cX5_skipBlanks 16 = .ok (.getfield 19, 3) := by decide +kernel
theorem dX5_skipBlanks_19 : decode cX5_skipBlanks 19 = .ok (.caload, 1) := by decide +kernel
theorem dX5_skipBlanks_20 : decode cX5_skipBlanks 20 = .ok (.bipush 32, 2) := by decide +kernel
theorem dX5_skipBlanks_22 : decode cX5_skipBlanks 22 = .ok (.if_icmp .ne 16, 3) := by decide +kernel
theorem dX5_skipBlanks_25 : decode cX5_skipBlanks 25 = .ok (.aload_n 0, 1) := by decide +kernel
theorem dX5_skipBlanks_26 : decode cX5_skipBlanks 26 = .ok (.dup, 1) := by decide +kernel
theorem dX5_skipBlanks_27 : decode cX5_skipBlanks 27 = .ok (.getfield 19, 3) := by decide +kernel
theorem dX5_skipBlanks_30 : decode cX5_skipBlanks 30 = .ok (.iconst 1, 1) := by decide +kernel
theorem dX5_skipBlanks_31 : decode cX5_skipBlanks 31 = .ok (.iadd, 1) := by decide +kernel
theorem dX5_skipBlanks_32 : decode cX5_skipBlanks 32 = .ok (.putfield 19, 3) := by decide +kernel
theorem dX5_skipBlanks_35 : decode cX5_skipBlanks 35 = .ok (.goto (-35), 3) := by decide +kernel
theorem dX5_skipBlanks_38 : decode cX5_skipBlanks 38 = .ok (.return_, 1) := by decide +kernel
theorem dX5_digitHere_0 : decode cX5_digitHere 0 = .ok (.aload_n 0, 1) := by decide +kernel
theorem dX5_digitHere_1 : decode cX5_digitHere 1 = .ok (.getfield 19, 3) := by decide +kernel
theorem dX5_digitHere_4 : decode cX5_digitHere 4 = .ok (.aload_n 0, 1) := by decide +kernel
theorem dX5_digitHere_5 : decode cX5_digitHere 5 = .ok (.getfield 15, 3) := by decide +kernel
theorem dX5_digitHere_8 : decode cX5_digitHere 8 = .ok (.if_icmp .ge 31, 3) := by decide +kernel
theorem dX5_digitHere_11 : decode cX5_digitHere 11 = .ok (.aload_n 0, 1) := by decide +kernel
theorem dX5_digitHere_12 : decode cX5_digitHere 12 = .ok (.getfield 11, 3) := by decide +kernel
theorem dX5_digitHere_15 : decode cX5_digitHere 15 = .ok (.aload_n 0, 1) := by decide +kernel
theorem dX5_digitHere_16 : decode cX5_digitHere 16 = .ok (.getfield 19, 3) := by decide +kernel
theorem dX5_digitHere_19 : decode cX5_digitHere 19 = .ok (.caload, 1) := by decide +kernel
theorem dX5_digitHere_20 : decode cX5_digitHere 20 = .ok (.bipush 48, 2) := by decide +kernel
theorem dX5_digitHere_22 : decode cX5_digitHere 22 = .ok (.if_icmp .lt 17, 3) := by decide +kernel
theorem dX5_digitHere_25 : decode cX5_digitHere 25 = .ok (.aload_n 0, 1) := by decide +kernel
theorem dX5_digitHere_26 : decode cX5_digitHere 26 = .ok (.getfield 11, 3) := by decide +kernel
theorem dX5_digitHere_29 : decode cX5_digitHere 29 = .ok (.aload_n 0, 1) := by decide +kernel
theorem dX5_digitHere_30 : decode cX5_digitHere 30 = .ok (.getfield 19, 3) := by decide +kernel
theorem dX5_digitHere_33 : decode cX5_digitHere 33 = .ok (.caload, 1) := by decide +kernel
theorem dX5_digitHere_34 : decode cX5_digitHere 34 = .ok (.bipush 57, 2) := by decide +kernel
theorem dX5_digitHere_36 : decode cX5_digitHere 36 = .ok (.if_icmp .le 5, 3) := by decide +kernel
theorem dX5_digitHere_39 : decode cX5_digitHere 39 = .ok (.iconst (-1), 1) := by decide +kernel
theorem dX5_digitHere_40 : decode cX5_digitHere 40 = .ok (.ireturn, 1) := by decide +kernel
theorem dX5_digitHere_41 : decode cX5_digitHere 41 = .ok (.aload_n 0, 1) := by decide +kernel
theorem dX5_digitHere_42 : decode cX5_digitHere 42 = .ok (.getfield 11, 3) := by decide +kernel
theorem dX5_digitHere_45 : decode cX5_digitHere 45 = .ok (.aload_n 0, 1) := by decide +kernel
theorem dX5_digitHere_46 : decode cX5_digitHere 46 = .ok (.getfield 19, 3) := by decide +kernel
theorem dX5_digitHere_49 : decode cX5_digitHere 49 = .ok (.caload, 1) := by decide +kernel
theorem dX5_digitHere_50 : decode cX5_digitHere 50 = .ok (.bipush 48, 2) := by decide +kernel
theorem dX5_digitHere_52 : decode cX5_digitHere 52 = .ok (.isub, 1) := by decide +kernel
theorem dX5_digitHere_53 : decode cX5_digitHere 53 = .ok (.ireturn, 1) := by decide +kernel
theorem dX5_faultAt_0 : decode cX5_faultAt 0 = .ok (.bipush (-20), 2) := by decide +kernel
theorem dX5_faultAt_2 : decode cX5_faultAt 2 = .ok (.iload_n 0, 1) := by decide +kernel
theorem dX5_faultAt_3 : decode cX5_faultAt 3 = .ok (.isub, 1) := by decide +kernel
theorem dX5_faultAt_4 : decode cX5_faultAt 4 = .ok (.ireturn, 1) := by decide +kernel
theorem dJ0_length_8abf5_0 : decode cJ0_length_8abf5 0 = .ok (.aload_n 0, 1) := by decide +kernel
theorem dJ0_length_8abf5_1 : decode cJ0_length_8abf5 1 = .ok (.getfield 9, 3) := by decide +kernel
theorem dJ0_length_8abf5_4 : decode cJ0_length_8abf5 4 = .ok (.arraylength, 1) := by decide +kernel
theorem dJ0_length_8abf5_5 : decode cJ0_length_8abf5 5 = .ok (.aload_n 0, 1) := by decide +kernel
theorem dJ0_length_8abf5_6 : decode cJ0_length_8abf5 6 = .ok (.invokevirtual 335, 3) := by decide +kernel
theorem dJ0_length_8abf5_9 : decode cJ0_length_8abf5 9 = .ok (.ishr, 1) := by decide +kernel
theorem dJ0_length_8abf5_10 : decode cJ0_length_8abf5 10 = .ok (.ireturn, 1) := by decide +kernel
theorem dJ0_indexOf_0f7a4_0 : decode cJ0_indexOf_0f7a4 0 = .ok (.aload_n 0, 1) := by decide +kernel
theorem dJ0_indexOf_0f7a4_1 : decode cJ0_indexOf_0f7a4 1 = .ok (.iload_n 1, 1) := by decide +kernel
theorem dJ0_indexOf_0f7a4_2 : decode cJ0_indexOf_0f7a4 2 = .ok (.iconst 0, 1) := by decide +kernel
theorem dJ0_indexOf_0f7a4_3 : decode cJ0_indexOf_0f7a4 3 = .ok (.invokevirtual 633, 3) := by decide +kernel
theorem dJ0_indexOf_0f7a4_6 : decode cJ0_indexOf_0f7a4 6 = .ok (.ireturn, 1) := by decide +kernel
theorem dJ0_indexOf_7cf53_0 : decode cJ0_indexOf_7cf53 0 = .ok (.aload_n 0, 1) := by decide +kernel
theorem dJ0_indexOf_7cf53_1 : decode cJ0_indexOf_7cf53 1 = .ok (.invokevirtual 492, 3) := by decide +kernel
theorem dJ0_indexOf_7cf53_4 : decode cJ0_indexOf_7cf53 4 = .ok (.ifCond .eq 19, 3) := by decide +kernel
theorem dJ0_indexOf_7cf53_7 : decode cJ0_indexOf_7cf53 7 = .ok (.aload_n 0, 1) := by decide +kernel
theorem dJ0_indexOf_7cf53_8 : decode cJ0_indexOf_7cf53 8 = .ok (.getfield 9, 3) := by decide +kernel
theorem dJ0_indexOf_7cf53_11 : decode cJ0_indexOf_7cf53 11 = .ok (.iload_n 1, 1) := by decide +kernel
theorem dJ0_indexOf_7cf53_12 : decode cJ0_indexOf_7cf53 12 = .ok (.iload_n 2, 1) := by decide +kernel
theorem dJ0_indexOf_7cf53_13 : decode cJ0_indexOf_7cf53 13 = .ok (.aload_n 0, 1) := by decide +kernel
theorem dJ0_indexOf_7cf53_14 : decode cJ0_indexOf_7cf53 14 = .ok (.invokevirtual 505, 3) := by decide +kernel
theorem dJ0_indexOf_7cf53_17 : decode cJ0_indexOf_7cf53 17 = .ok (.invokestatic 637, 3) := by decide +kernel
theorem dJ0_indexOf_7cf53_20 : decode cJ0_indexOf_7cf53 20 = .ok (.goto 16, 3) := by decide +kernel
theorem dJ0_indexOf_7cf53_23 : decode cJ0_indexOf_7cf53 23 = .ok (.aload_n 0, 1) := by decide +kernel
theorem dJ0_indexOf_7cf53_24 : decode cJ0_indexOf_7cf53 24 = .ok (.getfield 9, 3) := by decide +kernel
theorem dJ0_indexOf_7cf53_27 : decode cJ0_indexOf_7cf53 27 = .ok (.iload_n 1, 1) := by decide +kernel
theorem dJ0_indexOf_7cf53_28 : decode cJ0_indexOf_7cf53 28 = .ok (.iload_n 2, 1) := by decide +kernel
theorem dJ0_indexOf_7cf53_29 : decode cJ0_indexOf_7cf53 29 = .ok (.aload_n 0, 1) := by decide +kernel
theorem dJ0_indexOf_7cf53_30 : decode cJ0_indexOf_7cf53 30 = .ok (.invokevirtual 505, 3) := by decide +kernel
theorem dJ0_indexOf_7cf53_33 : decode cJ0_indexOf_7cf53 33 = .ok (.invokestatic 640, 3) := by decide +kernel
theorem dJ0_indexOf_7cf53_36 : decode cJ0_indexOf_7cf53 36 = .ok (.ireturn, 1) := by decide +kernel
theorem dJ0_coder_7d493_0 : decode cJ0_coder_7d493 0 = .ok (.getstatic 38, 3) := by decide +kernel
theorem dJ0_coder_7d493_3 : decode cJ0_coder_7d493 3 = .ok (.ifCond .eq 10, 3) := by decide +kernel
theorem dJ0_coder_7d493_6 : decode cJ0_coder_7d493 6 = .ok (.aload_n 0, 1) := by decide +kernel
theorem dJ0_coder_7d493_7 : decode cJ0_coder_7d493 7 = .ok (.getfield 15, 3) := by decide +kernel
theorem dJ0_coder_7d493_10 : decode cJ0_coder_7d493 10 = .ok (.goto 4, 3) := by decide +kernel
theorem dJ0_coder_7d493_13 : decode cJ0_coder_7d493 13 = .ok (.iconst 1, 1) := by decide +kernel
theorem dJ0_coder_7d493_14 : decode cJ0_coder_7d493 14 = .ok (.ireturn, 1) := by decide +kernel
theorem dJ0_isLatin1_aae02_0 : decode cJ0_isLatin1_aae02 0 = .ok (.getstatic 38, 3) := by decide +kernel
theorem dJ0_isLatin1_aae02_3 : decode cJ0_isLatin1_aae02 3 = .ok (.ifCond .eq 14, 3) := by decide +kernel
theorem dJ0_isLatin1_aae02_6 : decode cJ0_isLatin1_aae02 6 = .ok (.aload_n 0, 1) := by decide +kernel
theorem dJ0_isLatin1_aae02_7 : decode cJ0_isLatin1_aae02 7 = .ok (.getfield 15, 3) := by decide +kernel
theorem dJ0_isLatin1_aae02_10 : decode cJ0_isLatin1_aae02 10 = .ok (.ifCond .ne 7, 3) := by decide +kernel
theorem dJ0_isLatin1_aae02_13 : decode cJ0_isLatin1_aae02 13 = .ok (.iconst 1, 1) := by decide +kernel
theorem dJ0_isLatin1_aae02_14 : decode cJ0_isLatin1_aae02 14 = .ok (.goto 4, 3) := by decide +kernel
theorem dJ0_isLatin1_aae02_17 : decode cJ0_isLatin1_aae02 17 = .ok (.iconst 0, 1) := by decide +kernel
theorem dJ0_isLatin1_aae02_18 : decode cJ0_isLatin1_aae02 18 = .ok (.ireturn, 1) := by decide +kernel
theorem dJ0_checkBoundsBeginEnd_23922_0 : decode cJ0_checkBoundsBeginEnd_23922 0 = .ok (.iload_n 0, 1) := by decide +kernel
theorem dJ0_checkBoundsBeginEnd_23922_1 : decode cJ0_checkBoundsBeginEnd_23922 1 = .ok (.iload_n 1, 1) := by decide +kernel
theorem dJ0_checkBoundsBeginEnd_23922_2 : decode cJ0_checkBoundsBeginEnd_23922 2 = .ok (.iload_n 2, 1) := by decide +kernel
theorem dJ0_checkBoundsBeginEnd_23922_3 : decode cJ0_checkBoundsBeginEnd_23922 3 = .ok (.getstatic 1053, 3) := by decide +kernel
theorem dJ0_checkBoundsBeginEnd_23922_6 : decode cJ0_checkBoundsBeginEnd_23922 6 = .ok (.invokestatic 1062, 3) := by decide +kernel
theorem dJ0_checkBoundsBeginEnd_23922_9 : decode cJ0_checkBoundsBeginEnd_23922 9 = .ok (.pop, 1) := by decide +kernel
theorem dJ0_checkBoundsBeginEnd_23922_10 : decode cJ0_checkBoundsBeginEnd_23922 10 = .ok (.return_, 1) := by decide +kernel
theorem dJ1_canEncode_9a6ad_0 : decode cJ1_canEncode_9a6ad 0 = .ok (.iload_n 0, 1) := by decide +kernel
theorem dJ1_canEncode_9a6ad_1 : decode cJ1_canEncode_9a6ad 1 = .ok (.ifCond .lt 14, 3) := by decide +kernel
theorem dJ1_canEncode_9a6ad_4 : decode cJ1_canEncode_9a6ad 4 = .ok (.iload_n 0, 1) := by decide +kernel
theorem dJ1_canEncode_9a6ad_5 : decode cJ1_canEncode_9a6ad 5 = .ok (.sipush 255, 3) := by decide +kernel
theorem dJ1_canEncode_9a6ad_8 : decode cJ1_canEncode_9a6ad 8 = .ok (.if_icmp .gt 7, 3) := by decide +kernel
theorem dJ1_canEncode_9a6ad_11 : decode cJ1_canEncode_9a6ad 11 = .ok (.iconst 1, 1) := by decide +kernel
theorem dJ1_canEncode_9a6ad_12 : decode cJ1_canEncode_9a6ad 12 = .ok (.goto 4, 3) := by decide +kernel
theorem dJ1_canEncode_9a6ad_15 : decode cJ1_canEncode_9a6ad 15 = .ok (.iconst 0, 1) := by decide +kernel
theorem dJ1_canEncode_9a6ad_16 : decode cJ1_canEncode_9a6ad 16 = .ok (.ireturn, 1) := by decide +kernel
theorem dJ1_indexOf_4cfef_0 : decode cJ1_indexOf_4cfef 0 = .ok (.iload_n 1, 1) := by decide +kernel
theorem dJ1_indexOf_4cfef_1 : decode cJ1_indexOf_4cfef 1 = .ok (.invokestatic 88, 3) := by decide +kernel
theorem dJ1_indexOf_4cfef_4 : decode cJ1_indexOf_4cfef 4 = .ok (.ifCond .ne 5, 3) := by decide +kernel
theorem dJ1_indexOf_4cfef_7 : decode cJ1_indexOf_4cfef 7 = .ok (.iconst (-1), 1) := by decide +kernel
theorem dJ1_indexOf_4cfef_8 : decode cJ1_indexOf_4cfef 8 = .ok (.ireturn, 1) := by decide +kernel
theorem dJ1_indexOf_4cfef_9 : decode cJ1_indexOf_4cfef 9 = .ok (.iload_n 2, 1) := by decide +kernel
theorem dJ1_indexOf_4cfef_10 : decode cJ1_indexOf_4cfef 10 = .ok (.iconst 0, 1) := by decide +kernel
theorem dJ1_indexOf_4cfef_11 : decode cJ1_indexOf_4cfef 11 = .ok (.invokestatic 92, 3) := by decide +kernel
theorem dJ1_indexOf_4cfef_14 : decode cJ1_indexOf_4cfef 14 = .ok (.istore_n 2, 1) := by decide +kernel
theorem dJ1_indexOf_4cfef_15 : decode cJ1_indexOf_4cfef 15 = .ok (.iload_n 3, 1) := by decide +kernel
theorem dJ1_indexOf_4cfef_16 : decode cJ1_indexOf_4cfef 16 = .ok (.aload_n 0, 1) := by decide +kernel
theorem dJ1_indexOf_4cfef_17 : decode cJ1_indexOf_4cfef 17 = .ok (.arraylength, 1) := by decide +kernel
theorem dJ1_indexOf_4cfef_18 : decode cJ1_indexOf_4cfef 18 = .ok (.invokestatic 38, 3) := by decide +kernel
theorem dJ1_indexOf_4cfef_21 : decode cJ1_indexOf_4cfef 21 = .ok (.istore_n 3, 1) := by decide +kernel
theorem dJ1_indexOf_4cfef_22 : decode cJ1_indexOf_4cfef 22 = .ok (.iload_n 2, 1) := by decide +kernel
theorem dJ1_indexOf_4cfef_23 : decode cJ1_indexOf_4cfef 23 = .ok (.iload_n 3, 1) := by decide +kernel
theorem dJ1_indexOf_4cfef_24 : decode cJ1_indexOf_4cfef 24 = .ok (.if_icmp .lt 5, 3) := by decide +kernel
theorem dJ1_indexOf_4cfef_27 : decode cJ1_indexOf_4cfef 27 = .ok (.iconst (-1), 1) := by decide +kernel
theorem dJ1_indexOf_4cfef_28 : decode cJ1_indexOf_4cfef 28 = .ok (.ireturn, 1) := by decide +kernel
theorem dJ1_indexOf_4cfef_29 : decode cJ1_indexOf_4cfef 29 = .ok (.aload_n 0, 1) := by decide +kernel
theorem dJ1_indexOf_4cfef_30 : decode cJ1_indexOf_4cfef 30 = .ok (.iload_n 1, 1) := by decide +kernel
theorem dJ1_indexOf_4cfef_31 : decode cJ1_indexOf_4cfef 31 = .ok (.iload_n 2, 1) := by decide +kernel
theorem dJ1_indexOf_4cfef_32 : decode cJ1_indexOf_4cfef 32 = .ok (.iload_n 3, 1) := by decide +kernel
theorem dJ1_indexOf_4cfef_33 : decode cJ1_indexOf_4cfef 33 = .ok (.invokestatic 95, 3) := by decide +kernel
theorem dJ1_indexOf_4cfef_36 : decode cJ1_indexOf_4cfef 36 = .ok (.ireturn, 1) := by decide +kernel
theorem dJ1_indexOfChar_4cfef_0 : decode cJ1_indexOfChar_4cfef 0 = .ok (.iload_n 1, 1) := by decide +kernel
theorem dJ1_indexOfChar_4cfef_1 : decode cJ1_indexOfChar_4cfef 1 = .ok (.i2b, 1) := by decide +kernel
theorem dJ1_indexOfChar_4cfef_2 : decode cJ1_indexOfChar_4cfef 2 = .ok (.istore 4, 2) := by decide +kernel
theorem dJ1_indexOfChar_4cfef_4 : decode cJ1_indexOfChar_4cfef 4 = .ok (.iload_n 2, 1) := by decide +kernel
theorem dJ1_indexOfChar_4cfef_5 : decode cJ1_indexOfChar_4cfef 5 = .ok (.istore 5, 2) := by decide +kernel
theorem dJ1_indexOfChar_4cfef_7 : decode cJ1_indexOfChar_4cfef 7 = .ok (.iload 5, 2) := by decide +kernel
theorem dJ1_indexOfChar_4cfef_9 : decode cJ1_indexOfChar_4cfef 9 = .ok (.iload_n 3, 1) := by decide +kernel
theorem dJ1_indexOfChar_4cfef_10 : decode cJ1_indexOfChar_4cfef 10 = .ok (.if_icmp .ge 21, 3) := by decide +kernel
theorem dJ1_indexOfChar_4cfef_13 : decode cJ1_indexOfChar_4cfef 13 = .ok (.aload_n 0, 1) := by decide +kernel
theorem dJ1_indexOfChar_4cfef_14 : decode cJ1_indexOfChar_4cfef 14 = .ok (.iload 5, 2) := by decide +kernel
theorem dJ1_indexOfChar_4cfef_16 : decode cJ1_indexOfChar_4cfef 16 = .ok (.baload, 1) := by decide +kernel
theorem dJ1_indexOfChar_4cfef_17 : decode cJ1_indexOfChar_4cfef 17 = .ok (.iload 4, 2) := by decide +kernel
theorem dJ1_indexOfChar_4cfef_19 : decode cJ1_indexOfChar_4cfef 19 = .ok (.if_icmp .ne 6, 3) := by decide +kernel
theorem dJ1_indexOfChar_4cfef_22 : decode cJ1_indexOfChar_4cfef 22 = .ok (.iload 5, 2) := by decide +kernel
theorem dJ1_indexOfChar_4cfef_24 : decode cJ1_indexOfChar_4cfef 24 = .ok (.ireturn, 1) := by decide +kernel
theorem dJ1_indexOfChar_4cfef_25 : decode cJ1_indexOfChar_4cfef 25 = .ok (.iinc 5 1, 3) := by decide +kernel
theorem dJ1_indexOfChar_4cfef_28 : decode cJ1_indexOfChar_4cfef 28 = .ok (.goto (-21), 3) := by decide +kernel
theorem dJ1_indexOfChar_4cfef_31 : decode cJ1_indexOfChar_4cfef 31 = .ok (.iconst (-1), 1) := by decide +kernel
theorem dJ1_indexOfChar_4cfef_32 : decode cJ1_indexOfChar_4cfef 32 = .ok (.ireturn, 1) := by decide +kernel
theorem dJ6_bitCount_0f7a4_0 : decode cJ6_bitCount_0f7a4 0 = .ok (.iload_n 0, 1) := by decide +kernel
theorem dJ6_bitCount_0f7a4_1 : decode cJ6_bitCount_0f7a4 1 = .ok (.iload_n 0, 1) := by decide +kernel
theorem dJ6_bitCount_0f7a4_2 : decode cJ6_bitCount_0f7a4 2 = .ok (.iconst 1, 1) := by decide +kernel
theorem dJ6_bitCount_0f7a4_3 : decode cJ6_bitCount_0f7a4 3 = .ok (.iushr, 1) := by decide +kernel
theorem dJ6_bitCount_0f7a4_4 : decode cJ6_bitCount_0f7a4 4 = .ok (.ldc_w 265, 3) := by decide +kernel
theorem dJ6_bitCount_0f7a4_7 : decode cJ6_bitCount_0f7a4 7 = .ok (.iand, 1) := by decide +kernel
theorem dJ6_bitCount_0f7a4_8 : decode cJ6_bitCount_0f7a4 8 = .ok (.isub, 1) := by decide +kernel
theorem dJ6_bitCount_0f7a4_9 : decode cJ6_bitCount_0f7a4 9 = .ok (.istore_n 0, 1) := by decide +kernel
theorem dJ6_bitCount_0f7a4_10 : decode cJ6_bitCount_0f7a4 10 = .ok (.iload_n 0, 1) := by decide +kernel
theorem dJ6_bitCount_0f7a4_11 : decode cJ6_bitCount_0f7a4 11 = .ok (.ldc_w 266, 3) := by decide +kernel
theorem dJ6_bitCount_0f7a4_14 : decode cJ6_bitCount_0f7a4 14 = .ok (.iand, 1) := by decide +kernel
theorem dJ6_bitCount_0f7a4_15 : decode cJ6_bitCount_0f7a4 15 = .ok (.iload_n 0, 1) := by decide +kernel
theorem dJ6_bitCount_0f7a4_16 : decode cJ6_bitCount_0f7a4 16 = .ok (.iconst 2, 1) := by decide +kernel
theorem dJ6_bitCount_0f7a4_17 : decode cJ6_bitCount_0f7a4 17 = .ok (.iushr, 1) := by decide +kernel
theorem dJ6_bitCount_0f7a4_18 : decode cJ6_bitCount_0f7a4 18 = .ok (.ldc_w 266, 3) := by decide +kernel
theorem dJ6_bitCount_0f7a4_21 : decode cJ6_bitCount_0f7a4 21 = .ok (.iand, 1) := by decide +kernel
theorem dJ6_bitCount_0f7a4_22 : decode cJ6_bitCount_0f7a4 22 = .ok (.iadd, 1) := by decide +kernel
theorem dJ6_bitCount_0f7a4_23 : decode cJ6_bitCount_0f7a4 23 = .ok (.istore_n 0, 1) := by decide +kernel
theorem dJ6_bitCount_0f7a4_24 : decode cJ6_bitCount_0f7a4 24 = .ok (.iload_n 0, 1) := by decide +kernel
theorem dJ6_bitCount_0f7a4_25 : decode cJ6_bitCount_0f7a4 25 = .ok (.iload_n 0, 1) := by decide +kernel
theorem dJ6_bitCount_0f7a4_26 : decode cJ6_bitCount_0f7a4 26 = .ok (.iconst 4, 1) := by decide +kernel
theorem dJ6_bitCount_0f7a4_27 : decode cJ6_bitCount_0f7a4 27 = .ok (.iushr, 1) := by decide +kernel
theorem dJ6_bitCount_0f7a4_28 : decode cJ6_bitCount_0f7a4 28 = .ok (.iadd, 1) := by decide +kernel
theorem dJ6_bitCount_0f7a4_29 : decode cJ6_bitCount_0f7a4 29 = .ok (.ldc_w 267, 3) := by decide +kernel
theorem dJ6_bitCount_0f7a4_32 : decode cJ6_bitCount_0f7a4 32 = .ok (.iand, 1) := by decide +kernel
theorem dJ6_bitCount_0f7a4_33 : decode cJ6_bitCount_0f7a4 33 = .ok (.istore_n 0, 1) := by decide +kernel
theorem dJ6_bitCount_0f7a4_34 : decode cJ6_bitCount_0f7a4 34 = .ok (.iload_n 0, 1) := by decide +kernel
theorem dJ6_bitCount_0f7a4_35 : decode cJ6_bitCount_0f7a4 35 = .ok (.iload_n 0, 1) := by decide +kernel
theorem dJ6_bitCount_0f7a4_36 : decode cJ6_bitCount_0f7a4 36 = .ok (.bipush 8, 2) := by decide +kernel
theorem dJ6_bitCount_0f7a4_38 : decode cJ6_bitCount_0f7a4 38 = .ok (.iushr, 1) := by decide +kernel
theorem dJ6_bitCount_0f7a4_39 : decode cJ6_bitCount_0f7a4 39 = .ok (.iadd, 1) := by decide +kernel
theorem dJ6_bitCount_0f7a4_40 : decode cJ6_bitCount_0f7a4 40 = .ok (.istore_n 0, 1) := by decide +kernel
theorem dJ6_bitCount_0f7a4_41 : decode cJ6_bitCount_0f7a4 41 = .ok (.iload_n 0, 1) := by decide +kernel
theorem dJ6_bitCount_0f7a4_42 : decode cJ6_bitCount_0f7a4 42 = .ok (.iload_n 0, 1) := by decide +kernel
theorem dJ6_bitCount_0f7a4_43 : decode cJ6_bitCount_0f7a4 43 = .ok (.bipush 16, 2) := by decide +kernel
theorem dJ6_bitCount_0f7a4_45 : decode cJ6_bitCount_0f7a4 45 = .ok (.iushr, 1) := by decide +kernel
theorem dJ6_bitCount_0f7a4_46 : decode cJ6_bitCount_0f7a4 46 = .ok (.iadd, 1) := by decide +kernel
theorem dJ6_bitCount_0f7a4_47 : decode cJ6_bitCount_0f7a4 47 = .ok (.istore_n 0, 1) := by decide +kernel
theorem dJ6_bitCount_0f7a4_48 : decode cJ6_bitCount_0f7a4 48 = .ok (.iload_n 0, 1) := by decide +kernel
theorem dJ6_bitCount_0f7a4_49 : decode cJ6_bitCount_0f7a4 49 = .ok (.bipush 63, 2) := by decide +kernel
theorem dJ6_bitCount_0f7a4_51 : decode cJ6_bitCount_0f7a4 51 = .ok (.iand, 1) := by decide +kernel
theorem dJ6_bitCount_0f7a4_52 : decode cJ6_bitCount_0f7a4 52 = .ok (.ireturn, 1) := by decide +kernel
theorem dJ9_max_7cf53_0 : decode cJ9_max_7cf53 0 = .ok (.iload_n 0, 1) := by decide +kernel
theorem dJ9_max_7cf53_1 : decode cJ9_max_7cf53 1 = .ok (.iload_n 1, 1) := by decide +kernel
theorem dJ9_max_7cf53_2 : decode cJ9_max_7cf53 2 = .ok (.if_icmp .lt 7, 3) := by decide +kernel
theorem dJ9_max_7cf53_5 : decode cJ9_max_7cf53 5 = .ok (.iload_n 0, 1) := by decide +kernel
theorem dJ9_max_7cf53_6 : decode cJ9_max_7cf53 6 = .ok (.goto 4, 3) := by decide +kernel
theorem dJ9_max_7cf53_9 : decode cJ9_max_7cf53 9 = .ok (.iload_n 1, 1) := by decide +kernel
theorem dJ9_max_7cf53_10 : decode cJ9_max_7cf53 10 = .ok (.ireturn, 1) := by decide +kernel
theorem dJ9_min_7cf53_0 : decode cJ9_min_7cf53 0 = .ok (.iload_n 0, 1) := by decide +kernel
theorem dJ9_min_7cf53_1 : decode cJ9_min_7cf53 1 = .ok (.iload_n 1, 1) := by decide +kernel
theorem dJ9_min_7cf53_2 : decode cJ9_min_7cf53 2 = .ok (.if_icmp .gt 7, 3) := by decide +kernel
theorem dJ9_min_7cf53_5 : decode cJ9_min_7cf53 5 = .ok (.iload_n 0, 1) := by decide +kernel
theorem dJ9_min_7cf53_6 : decode cJ9_min_7cf53 6 = .ok (.goto 4, 3) := by decide +kernel
theorem dJ9_min_7cf53_9 : decode cJ9_min_7cf53 9 = .ok (.iload_n 1, 1) := by decide +kernel
theorem dJ9_min_7cf53_10 : decode cJ9_min_7cf53 10 = .ok (.ireturn, 1) := by decide +kernel
end
section
theorem dX6_init_0 : decode cX6_init 0 = .ok (.aload_n 0, 1) := by decide +kernel
theorem dX6_init_1 : decode cX6_init 1 = .ok (.invokespecial 1, 3) := by decide +kernel
theorem dX6_init_4 : decode cX6_init 4 = .ok (.aload_n 0, 1) := by decide +kernel
theorem dX6_init_5 : decode cX6_init 5 = .ok (.new 7, 3) := by decide +kernel
theorem dX6_init_8 : decode cX6_init 8 = .ok (.dup, 1) := by decide +kernel
theorem dX6_init_9 : decode cX6_init 9 = .ok (.invokespecial 9, 3) := by decide +kernel
theorem dX6_init_12 : decode cX6_init 12 = .ok (.putfield 10, 3) := by decide +kernel
theorem dX6_init_15 : decode cX6_init 15 = .ok (.aload_n 0, 1) := by decide +kernel
theorem dX6_init_16 : decode cX6_init 16 = .ok (.new 16, 3) := by decide +kernel
theorem dX6_init_19 : decode cX6_init 19 = .ok (.dup, 1) := by decide +kernel
theorem dX6_init_20 : decode cX6_init 20 = .ok (.invokespecial 18, 3) := by decide +kernel
theorem dX6_init_23 : decode cX6_init 23 = .ok (.putfield 19, 3) := by decide +kernel
theorem dX6_init_26 : decode cX6_init 26 = .ok (.aload_n 0, 1) := by decide +kernel
theorem dX6_init_27 : decode cX6_init 27 = .ok (.new 7, 3) := by decide +kernel
theorem dX6_init_30 : decode cX6_init 30 = .ok (.dup, 1) := by decide +kernel
theorem dX6_init_31 : decode cX6_init 31 = .ok (.invokespecial 9, 3) := by decide +kernel
theorem dX6_init_34 : decode cX6_init 34 = .ok (.putfield 23, 3) := by decide +kernel
theorem dX6_init_37 : decode cX6_init 37 = .ok (.aload_n 0, 1) := by decide +kernel
theorem dX6_init_38 : decode cX6_init 38 = .ok (.new 7, 3) := by decide +kernel
theorem dX6_init_41 : decode cX6_init 41 = .ok (.dup, 1) := by decide +kernel
theorem dX6_init_42 : decode cX6_init 42 = .ok (.invokespecial 9, 3) := by decide +kernel
theorem dX6_init_45 : decode cX6_init 45 = .ok (.putfield 26, 3) := by decide +kernel
theorem dX6_init_48 : decode cX6_init 48 = .ok (.aload_n 0, 1) := by decide +kernel
theorem dX6_init_49 : decode cX6_init 49 = .ok (.new 16, 3) := by decide +kernel
theorem dX6_init_52 : decode cX6_init 52 = .ok (.dup, 1) := by decide +kernel
theorem dX6_init_53 : decode cX6_init 53 = .ok (.invokespecial 18, 3) := by decide +kernel
theorem dX6_init_56 : decode cX6_init 56 = .ok (.putfield 29, 3) := by decide +kernel
theorem dX6_init_59 : decode cX6_init 59 = .ok (.aload_n 0, 1) := by decide +kernel
theorem dX6_init_60 : decode cX6_init 60 = .ok (.iconst 0, 1) := by decide +kernel
theorem dX6_init_61 : decode cX6_init 61 = .ok (.putfield 32, 3) := by decide +kernel
theorem dX6_init_64 : decode cX6_init 64 = .ok (.aload_n 0, 1) := by decide +kernel
theorem dX6_init_65 : decode cX6_init 65 = .ok (.new 36, 3) := by decide +kernel
theorem dX6_init_68 : decode cX6_init 68 = .ok (.dup, 1) := by decide +kernel
theorem dX6_init_69 : decode cX6_init 69 = .ok (.invokespecial 38, 3) := by decide +kernel
theorem dX6_init_72 : decode cX6_init 72 = .ok (.putfield 39, 3) := by decide +kernel
theorem dX6_init_75 : decode cX6_init 75 = .ok (.aload_n 0, 1) := by decide +kernel
theorem dX6_init_76 : decode cX6_init 76 = .ok (.new 43, 3) := by decide +kernel
theorem dX6_init_79 : decode cX6_init 79 = .ok (.dup, 1) := by decide +kernel
theorem dX6_init_80 : decode cX6_init 80 = .ok (.invokespecial 45, 3) := by decide +kernel
theorem dX6_init_83 : decode cX6_init 83 = .ok (.putfield 46, 3) := by decide +kernel
theorem dX6_init_86 : decode cX6_init 86 = .ok (.aload_n 0, 1) := by decide +kernel
theorem dX6_init_87 : decode cX6_init 87 = .ok (.new 50, 3) := by decide +kernel
theorem dX6_init_90 : decode cX6_init 90 = .ok (.dup, 1) := by decide +kernel
theorem dX6_init_91 : decode cX6_init 91 = .ok (.invokespecial 52, 3) := by decide +kernel
theorem dX6_init_94 : decode cX6_init 94 = .ok (.putfield 53, 3) := by decide +kernel
theorem dX6_init_97 : decode cX6_init 97 = .ok (.aload_n 0, 1) := by decide +kernel
theorem dX6_init_98 : decode cX6_init 98 = .ok (.new 57, 3) := by decide +kernel
theorem dX6_init_101 : decode cX6_init 101 = .ok (.dup, 1) := by decide +kernel
theorem dX6_init_102 : decode cX6_init 102 = .ok (.invokespecial 59, 3) := by decide +kernel
theorem dX6_init_105 : decode cX6_init 105 = .ok (.putfield 60, 3) := by decide +kernel
theorem dX6_init_108 : decode cX6_init 108 = .ok (.return_, 1) := by decide +kernel
theorem dX6_puddle_0 : decode cX6_puddle 0 = .ok (.iload_n 1, 1) := by decide +kernel
theorem dX6_puddle_1 : decode cX6_puddle 1 = .ok (.iconst 0, 1) := by decide +kernel
theorem dX6_puddle_2 : decode cX6_puddle 2 = .ok (.iconst 4, 1) := by decide +kernel
theorem dX6_puddle_3 : decode cX6_puddle 3 = .ok (.invokestatic 64, 3) := by decide +kernel
theorem dX6_puddle_6 : decode cX6_puddle 6 = .ok (.ifCond .eq 20, 3) := by decide +kernel
theorem dX6_puddle_9 : decode cX6_puddle 9 = .ok (.iload_n 2, 1) := by decide +kernel
theorem dX6_puddle_10 : decode cX6_puddle 10 = .ok (.invokestatic 68, 3) := by decide +kernel
theorem dX6_puddle_13 : decode cX6_puddle 13 = .ok (.ifCond .eq 13, 3) := by decide +kernel
theorem dX6_puddle_16 : decode cX6_puddle 16 = .ok (.iload_n 3, 1) := by decide +kernel
theorem dX6_puddle_17 : decode cX6_puddle 17 = .ok (.iconst 0, 1) := by decide +kernel
theorem dX6_puddle_18 : decode cX6_puddle 18 = .ok (.bipush 60, 2) := by decide +kernel
theorem dX6_puddle_20 : decode cX6_puddle 20 = .ok (.invokestatic 64, 3) := by decide +kernel
theorem dX6_puddle_23 : decode cX6_puddle 23 = .ok (.ifCond .ne 5, 3) := by decide +kernel
theorem dX6_puddle_26 : decode cX6_puddle 26 = .ok (.iconst (-1), 1) := by decide +kernel
theorem dX6_puddle_27 : decode cX6_puddle 27 = .ok (.ireturn, 1) := by decide +kernel
theorem dX6_puddle_28 : decode cX6_puddle 28 = .ok (.aload_n 0, 1) := by decide +kernel
theorem dX6_puddle_29 : decode cX6_puddle 29 = .ok (.getfield 10, 3) := by decide +kernel
theorem dX6_puddle_32 : decode cX6_puddle 32 = .ok (.getfield 72, 3) := by decide +kernel
theorem dX6_puddle_35 : decode cX6_puddle 35 = .ok (.bipush 7, 2) := by decide +kernel
theorem dX6_puddle_37 : decode cX6_puddle 37 = .ok (.if_icmp .lt 6, 3) := by decide +kernel
theorem dX6_puddle_40 : decode cX6_puddle 40 = .ok (.bipush (-3), 2) := by decide +kernel
theorem dX6_puddle_42 : decode cX6_puddle 42 = .ok (.ireturn, 1) := by decide +kernel
theorem dX6_puddle_43 : decode cX6_puddle 43 = .ok (.aload_n 0, 1) := by decide +kernel
theorem dX6_puddle_44 : decode cX6_puddle 44 = .ok (.getfield 19, 3) := by decide +kernel
theorem dX6_puddle_47 : decode cX6_puddle 47 = .ok (.invokevirtual 76, 3) := by decide +kernel
theorem dX6_puddle_50 : decode cX6_puddle 50 = .ok (.aload_n 0, 1) := by decide +kernel
theorem dX6_puddle_51 : decode cX6_puddle 51 = .ok (.getfield 10, 3) := by decide +kernel
theorem dX6_puddle_54 : decode cX6_puddle 54 = .ok (.iload_n 1, 1) := by decide +kernel
theorem dX6_puddle_55 : decode cX6_puddle 55 = .ok (.iload_n 2, 1) := by decide +kernel
theorem dX6_puddle_56 : decode cX6_puddle 56 = .ok (.iload_n 3, 1) := by decide +kernel
theorem dX6_puddle_57 : decode cX6_puddle 57 = .ok (.invokevirtual 79, 3) := by decide +kernel
theorem dX6_puddle_60 : decode cX6_puddle 60 = .ok (.ireturn, 1) := by decide +kernel
theorem dX6_person_0 : decode cX6_person 0 = .ok (.iload_n 1, 1) := by decide +kernel
theorem dX6_person_1 : decode cX6_person 1 = .ok (.invokestatic 68, 3) := by decide +kernel
theorem dX6_person_4 : decode cX6_person 4 = .ok (.ifCond .eq 20, 3) := by decide +kernel
theorem dX6_person_7 : decode cX6_person 7 = .ok (.iload_n 2, 1) := by decide +kernel
theorem dX6_person_8 : decode cX6_person 8 = .ok (.invokestatic 83, 3) := by decide +kernel
theorem dX6_person_11 : decode cX6_person 11 = .ok (.ifCond .eq 13, 3) := by decide +kernel
theorem dX6_person_14 : decode cX6_person 14 = .ok (.iload_n 3, 1) := by decide +kernel
theorem dX6_person_15 : decode cX6_person 15 = .ok (.iconst 1, 1) := by decide +kernel
theorem dX6_person_16 : decode cX6_person 16 = .ok (.bipush 30, 2) := by decide +kernel
theorem dX6_person_18 : decode cX6_person 18 = .ok (.invokestatic 64, 3) := by decide +kernel
theorem dX6_person_21 : decode cX6_person 21 = .ok (.ifCond .ne 5, 3) := by decide +kernel
theorem dX6_person_24 : decode cX6_person 24 = .ok (.iconst (-1), 1) := by decide +kernel
theorem dX6_person_25 : decode cX6_person 25 = .ok (.ireturn, 1) := by decide +kernel
theorem dX6_person_26 : decode cX6_person 26 = .ok (.aload_n 0, 1) := by decide +kernel
theorem dX6_person_27 : decode cX6_person 27 = .ok (.getfield 10, 3) := by decide +kernel
theorem dX6_person_30 : decode cX6_person 30 = .ok (.getfield 86, 3) := by decide +kernel
theorem dX6_person_33 : decode cX6_person 33 = .ok (.bipush 6, 2) := by decide +kernel
theorem dX6_person_35 : decode cX6_person 35 = .ok (.if_icmp .lt 6, 3) := by decide +kernel
theorem dX6_person_38 : decode cX6_person 38 = .ok (.bipush (-3), 2) := by decide +kernel
theorem dX6_person_40 : decode cX6_person 40 = .ok (.ireturn, 1) := by decide +kernel
theorem dX6_person_41 : decode cX6_person 41 = .ok (.aload_n 0, 1) := by decide +kernel
theorem dX6_person_42 : decode cX6_person 42 = .ok (.getfield 19, 3) := by decide +kernel
theorem dX6_person_45 : decode cX6_person 45 = .ok (.invokevirtual 76, 3) := by decide +kernel
theorem dX6_person_48 : decode cX6_person 48 = .ok (.aload_n 0, 1) := by decide +kernel
theorem dX6_person_49 : decode cX6_person 49 = .ok (.getfield 10, 3) := by decide +kernel
theorem dX6_person_52 : decode cX6_person 52 = .ok (.iload_n 1, 1) := by decide +kernel
theorem dX6_person_53 : decode cX6_person 53 = .ok (.iload_n 2, 1) := by decide +kernel
theorem dX6_person_54 : decode cX6_person 54 = .ok (.iload_n 3, 1) := by decide +kernel
theorem dX6_person_55 : decode cX6_person 55 = .ok (.invokevirtual 89, 3) := by decide +kernel
theorem dX6_person_58 : decode cX6_person 58 = .ok (.ireturn, 1) := by decide +kernel
theorem dX6_show_0 : decode cX6_show 0 = .ok (.aload_n 0, 1) := by decide +kernel
theorem dX6_show_1 : decode cX6_show 1 = .ok (.getfield 10, 3) := by decide +kernel
theorem dX6_show_4 : decode cX6_show 4 = .ok (.iload_n 1, 1) := by decide +kernel
theorem dX6_show_5 : decode cX6_show 5 = .ok (.invokevirtual 92, 3) := by decide +kernel
theorem dX6_show_8 : decode cX6_show 8 = .ok (.ifCond .eq 10, 3) := by decide +kernel
theorem dX6_show_11 : decode cX6_show 11 = .ok (.iload_n 2, 1) := by decide +kernel
theorem dX6_show_12 : decode cX6_show 12 = .ok (.invokestatic 68, 3) := by decide +kernel
theorem dX6_show_15 : decode cX6_show 15 = .ok (.ifCond .ne 5, 3) := by decide +kernel
theorem dX6_show_18 : decode cX6_show 18 = .ok (.iconst (-1), 1) := by decide +kernel
theorem dX6_show_19 : decode cX6_show 19 = .ok (.ireturn, 1) := by decide +kernel
theorem dX6_show_20 : decode cX6_show 20 = .ok (.aload_n 0, 1) := by decide +kernel
theorem dX6_show_21 : decode cX6_show 21 = .ok (.getfield 10, 3) := by decide +kernel
theorem dX6_show_24 : decode cX6_show 24 = .ok (.getfield 95, 3) := by decide +kernel
theorem dX6_show_27 : decode cX6_show 27 = .ok (.iload_n 1, 1) := by decide +kernel
theorem dX6_show_28 : decode cX6_show 28 = .ok (.iaload, 1) := by decide +kernel
theorem dX6_show_29 : decode cX6_show 29 = .ok (.istore_n 3, 1) := by decide +kernel
theorem dX6_show_30 : decode cX6_show 30 = .ok (.aload_n 0, 1) := by decide +kernel
theorem dX6_show_31 : decode cX6_show 31 = .ok (.getfield 10, 3) := by decide +kernel
theorem dX6_show_34 : decode cX6_show 34 = .ok (.getfield 95, 3) := by decide +kernel
theorem dX6_show_37 : decode cX6_show 37 = .ok (.iload_n 1, 1) := by decide +kernel
theorem dX6_show_38 : decode cX6_show 38 = .ok (.iload_n 2, 1) := by decide +kernel
theorem dX6_show_39 : decode cX6_show 39 = .ok (.iastore, 1) := by decide +kernel
theorem dX6_show_40 : decode cX6_show 40 = .ok (.iload_n 3, 1) := by decide +kernel
theorem dX6_show_41 : decode cX6_show 41 = .ok (.ireturn, 1) := by decide +kernel
theorem dX6_of_0 : decode cX6_of 0 = .ok (.aload_n 0, 1) := by decide +kernel
theorem dX6_of_1 : decode cX6_of 1 = .ok (.getfield 10, 3) := by decide +kernel
theorem dX6_of_4 : decode cX6_of 4 = .ok (.iload_n 1, 1) := by decide +kernel
theorem dX6_of_5 : decode cX6_of 5 = .ok (.invokevirtual 92, 3) := by decide +kernel
theorem dX6_of_8 : decode cX6_of 8 = .ok (.ifCond .ne 5, 3) := by decide +kernel
theorem dX6_of_11 : decode cX6_of 11 = .ok (.iconst (-1), 1) := by decide +kernel
theorem dX6_of_12 : decode cX6_of 12 = .ok (.ireturn, 1) := by decide +kernel
theorem dX6_of_13 : decode cX6_of 13 = .ok (.iload_n 2, 1) := by decide +kernel
theorem dX6_of_14 : decode cX6_of 14 = .ok (.tableswitch 89 0 4 #[34, 44, 54, 64, 73], 34) := by decide +kernel
theorem dX6_of_48 : decode cX6_of 48 = .ok (.aload_n 0, 1) := by decide +kernel
theorem dX6_of_49 : decode cX6_of 49 = .ok (.getfield 10, 3) := by decide +kernel
theorem dX6_of_52 : decode cX6_of 52 = .ok (.getfield 99, 3) := by decide +kernel
theorem dX6_of_55 : decode cX6_of 55 = .ok (.iload_n 1, 1) := by decide +kernel
theorem dX6_of_56 : decode cX6_of 56 = .ok (.iaload, 1) := by decide +kernel
theorem dX6_of_57 : decode cX6_of 57 = .ok (.ireturn, 1) := by decide +kernel
theorem dX6_of_58 : decode cX6_of 58 = .ok (.aload_n 0, 1) := by decide +kernel
theorem dX6_of_59 : decode cX6_of 59 = .ok (.getfield 10, 3) := by decide +kernel
theorem dX6_of_62 : decode cX6_of 62 = .ok (.getfield 95, 3) := by decide +kernel
theorem dX6_of_65 : decode cX6_of 65 = .ok (.iload_n 1, 1) := by decide +kernel
theorem dX6_of_66 : decode cX6_of 66 = .ok (.iaload, 1) := by decide +kernel
theorem dX6_of_67 : decode cX6_of 67 = .ok (.ireturn, 1) := by decide +kernel
theorem dX6_of_68 : decode cX6_of 68 = .ok (.aload_n 0, 1) := by decide +kernel
theorem dX6_of_69 : decode cX6_of 69 = .ok (.getfield 10, 3) := by decide +kernel
theorem dX6_of_72 : decode cX6_of 72 = .ok (.getfield 102, 3) := by decide +kernel
theorem dX6_of_75 : decode cX6_of 75 = .ok (.iload_n 1, 1) := by decide +kernel
theorem dX6_of_76 : decode cX6_of 76 = .ok (.iaload, 1) := by decide +kernel
theorem dX6_of_77 : decode cX6_of 77 = .ok (.ireturn, 1) := by decide +kernel
theorem dX6_of_78 : decode cX6_of 78 = .ok (.aload_n 0, 1) := by decide +kernel
theorem dX6_of_79 : decode cX6_of 79 = .ok (.getfield 10, 3) := by decide +kernel
theorem dX6_of_82 : decode cX6_of 82 = .ok (.iload_n 1, 1) := by decide +kernel
theorem dX6_of_83 : decode cX6_of 83 = .ok (.invokevirtual 105, 3) := by decide +kernel
theorem dX6_of_86 : decode cX6_of 86 = .ok (.ireturn, 1) := by decide +kernel
theorem dX6_of_87 : decode cX6_of 87 = .ok (.aload_n 0, 1) := by decide +kernel
theorem dX6_of_88 : decode cX6_of 88 = .ok (.getfield 10, 3) := by decide +kernel
theorem dX6_of_91 : decode cX6_of 91 = .ok (.iload_n 1, 1) := by decide +kernel
theorem dX6_of_92 : decode cX6_of 92 = .ok (.aload_n 0, 1) := by decide +kernel
theorem dX6_of_93 : decode cX6_of 93 = .ok (.getfield 10, 3) := by decide +kernel
theorem dX6_of_96 : decode cX6_of 96 = .ok (.invokevirtual 109, 3) := by decide +kernel
theorem dX6_of_99 : decode cX6_of 99 = .ok (.invokevirtual 113, 3) := by decide +kernel
theorem dX6_of_102 : decode cX6_of 102 = .ok (.ireturn, 1) := by decide +kernel
theorem dX6_of_103 : decode cX6_of 103 = .ok (.iconst (-1), 1) := by decide +kernel
theorem dX6_of_104 : decode cX6_of 104 = .ok (.ireturn, 1) := by decide +kernel
theorem dX6_at_0 : decode cX6_at 0 = .ok (.aload_n 0, 1) := by decide +kernel
theorem dX6_at_1 : decode cX6_at 1 = .ok (.getfield 10, 3) := by decide +kernel
theorem dX6_at_4 : decode cX6_at 4 = .ok (.iload_n 1, 1) := by decide +kernel
theorem dX6_at_5 : decode cX6_at 5 = .ok (.invokevirtual 117, 3) := by decide +kernel
theorem dX6_at_8 : decode cX6_at 8 = .ok (.ifCond .ne 5, 3) := by decide +kernel
theorem dX6_at_11 : decode cX6_at 11 = .ok (.iconst (-1), 1) := by decide +kernel
theorem dX6_at_12 : decode cX6_at 12 = .ok (.ireturn, 1) := by decide +kernel
theorem dX6_at_13 : decode cX6_at 13 = .ok (.iload_n 2, 1) := by decide +kernel
theorem dX6_at_14 : decode cX6_at 14 = .ok (.tableswitch 83 0 4 #[34, 44, 54, 64, 74], 34) := by decide +kernel
theorem dX6_at_48 : decode cX6_at 48 = .ok (.aload_n 0, 1) := by decide +kernel
theorem dX6_at_49 : decode cX6_at 49 = .ok (.getfield 10, 3) := by decide +kernel
theorem dX6_at_52 : decode cX6_at 52 = .ok (.getfield 120, 3) := by decide +kernel
theorem dX6_at_55 : decode cX6_at 55 = .ok (.iload_n 1, 1) := by decide +kernel
theorem dX6_at_56 : decode cX6_at 56 = .ok (.iaload, 1) := by decide +kernel
theorem dX6_at_57 : decode cX6_at 57 = .ok (.ireturn, 1) := by decide +kernel
theorem dX6_at_58 : decode cX6_at 58 = .ok (.aload_n 0, 1) := by decide +kernel
theorem dX6_at_59 : decode cX6_at 59 = .ok (.getfield 10, 3) := by decide +kernel
theorem dX6_at_62 : decode cX6_at 62 = .ok (.getfield 123, 3) := by decide +kernel
theorem dX6_at_65 : decode cX6_at 65 = .ok (.iload_n 1, 1) := by decide +kernel
theorem dX6_at_66 : decode cX6_at 66 = .ok (.iaload, 1) := by decide +kernel
theorem dX6_at_67 : decode cX6_at 67 = .ok (.ireturn, 1) := by decide +kernel
theorem dX6_at_68 : decode cX6_at 68 = .ok (.aload_n 0, 1) := by decide +kernel
theorem dX6_at_69 : decode cX6_at 69 = .ok (.getfield 10, 3) := by decide +kernel
theorem dX6_at_72 : decode cX6_at 72 = .ok (.getfield 126, 3) := by decide +kernel
theorem dX6_at_75 : decode cX6_at 75 = .ok (.iload_n 1, 1) := by decide +kernel
theorem dX6_at_76 : decode cX6_at 76 = .ok (.iaload, 1) := by decide +kernel
theorem dX6_at_77 : decode cX6_at 77 = .ok (.ireturn, 1) := by decide +kernel
theorem dX6_at_78 : decode cX6_at 78 = .ok (.aload_n 0, 1) := by decide +kernel
theorem dX6_at_79 : decode cX6_at 79 = .ok (.getfield 10, 3) := by decide +kernel
theorem dX6_at_82 : decode cX6_at 82 = .ok (.getfield 129, 3) := by decide +kernel
theorem dX6_at_85 : decode cX6_at 85 = .ok (.iload_n 1, 1) := by decide +kernel
theorem dX6_at_86 : decode cX6_at 86 = .ok (.iaload, 1) := by decide +kernel
theorem dX6_at_87 : decode cX6_at 87 = .ok (.ireturn, 1) := by decide +kernel
theorem dX6_at_88 : decode cX6_at 88 = .ok (.aload_n 0, 1) := by decide +kernel
theorem dX6_at_89 : decode cX6_at 89 = .ok (.getfield 10, 3) := by decide +kernel
theorem dX6_at_92 : decode cX6_at 92 = .ok (.iload_n 1, 1) := by decide +kernel
theorem dX6_at_93 : decode cX6_at 93 = .ok (.invokevirtual 132, 3) := by decide +kernel
theorem dX6_at_96 : decode cX6_at 96 = .ok (.ireturn, 1) := by decide +kernel
theorem dX6_at_97 : decode cX6_at 97 = .ok (.iconst (-1), 1) := by decide +kernel
theorem dX6_at_98 : decode cX6_at 98 = .ok (.ireturn, 1) := by decide +kernel
theorem dX6_type_0 : decode cX6_type 0 = .ok (.iload_n 1, 1) := by decide +kernel
theorem dX6_type_1 : decode cX6_type 1 = .ok (.bipush 32, 2) := by decide +kernel
theorem dX6_type_3 : decode cX6_type 3 = .ok (.bipush 126, 2) := by decide +kernel
theorem dX6_type_5 : decode cX6_type 5 = .ok (.invokestatic 64, 3) := by decide +kernel
theorem dX6_type_8 : decode cX6_type 8 = .ok (.ifCond .ne 5, 3) := by decide +kernel
theorem dX6_type_11 : decode cX6_type 11 = .ok (.iconst (-1), 1) := by decide +kernel
theorem dX6_type_12 : decode cX6_type 12 = .ok (.ireturn, 1) := by decide +kernel
theorem dX6_type_13 : decode cX6_type 13 = .ok (.aload_n 0, 1) := by decide +kernel
theorem dX6_type_14 : decode cX6_type 14 = .ok (.getfield 39, 3) := by decide +kernel
theorem dX6_type_17 : decode cX6_type 17 = .ok (.getfield 135, 3) := by decide +kernel
theorem dX6_type_20 : decode cX6_type 20 = .ok (.bipush 90, 2) := by decide +kernel
theorem dX6_type_22 : decode cX6_type 22 = .ok (.if_icmp .lt 6, 3) := by decide +kernel
theorem dX6_type_25 : decode cX6_type 25 = .ok (.bipush (-3), 2) := by decide +kernel
theorem dX6_type_27 : decode cX6_type 27 = .ok (.ireturn, 1) := by decide +kernel
theorem dX6_type_28 : decode cX6_type 28 = .ok (.aload_n 0, 1) := by decide +kernel
theorem dX6_type_29 : decode cX6_type 29 = .ok (.getfield 39, 3) := by decide +kernel
theorem dX6_type_32 : decode cX6_type 32 = .ok (.iload_n 1, 1) := by decide +kernel
theorem dX6_type_33 : decode cX6_type 33 = .ok (.i2c, 1) := by decide +kernel
theorem dX6_type_34 : decode cX6_type 34 = .ok (.invokevirtual 138, 3) := by decide +kernel
theorem dX6_type_37 : decode cX6_type 37 = .ok (.ireturn, 1) := by decide +kernel
theorem dX6_read_0 : decode cX6_read 0 = .ok (.aload_n 0, 1) := by decide +kernel
theorem dX6_read_1 : decode cX6_read 1 = .ok (.getfield 39, 3) := by decide +kernel
theorem dX6_read_4 : decode cX6_read 4 = .ok (.aload_n 0, 1) := by decide +kernel
theorem dX6_read_5 : decode cX6_read 5 = .ok (.getfield 23, 3) := by decide +kernel
theorem dX6_read_8 : decode cX6_read 8 = .ok (.invokevirtual 142, 3) := by decide +kernel
theorem dX6_read_11 : decode cX6_read 11 = .ok (.istore_n 1, 1) := by decide +kernel
theorem dX6_read_12 : decode cX6_read 12 = .ok (.iload_n 1, 1) := by decide +kernel
theorem dX6_read_13 : decode cX6_read 13 = .ok (.ifCond .eq 5, 3) := by decide +kernel
theorem dX6_read_16 : decode cX6_read 16 = .ok (.iload_n 1, 1) := by decide +kernel
theorem dX6_read_17 : decode cX6_read 17 = .ok (.ireturn, 1) := by decide +kernel
theorem dX6_read_18 : decode cX6_read 18 = .ok (.aload_n 0, 1) := by decide +kernel
theorem dX6_read_19 : decode cX6_read 19 = .ok (.getfield 23, 3) := by decide +kernel
theorem dX6_read_22 : decode cX6_read 22 = .ok (.aload_n 0, 1) := by decide +kernel
theorem dX6_read_23 : decode cX6_read 23 = .ok (.getfield 10, 3) := by decide +kernel
theorem dX6_read_26 : decode cX6_read 26 = .ok (.getfield 146, 3) := by decide +kernel
theorem dX6_read_29 : decode cX6_read 29 = .ok (.putfield 146, 3) := by decide +kernel
theorem dX6_read_32 : decode cX6_read 32 = .ok (.aload_n 0, 1) := by decide +kernel
theorem dX6_read_33 : decode cX6_read 33 = .ok (.getfield 10, 3) := by decide +kernel
theorem dX6_read_36 : decode cX6_read 36 = .ok (.aload_n 0, 1) := by decide +kernel
theorem dX6_read_37 : decode cX6_read 37 = .ok (.getfield 23, 3) := by decide +kernel
theorem dX6_read_40 : decode cX6_read 40 = .ok (.invokevirtual 149, 3) := by decide +kernel
theorem dX6_read_43 : decode cX6_read 43 = .ok (.aload_n 0, 1) := by decide +kernel
theorem dX6_read_44 : decode cX6_read 44 = .ok (.getfield 19, 3) := by decide +kernel
theorem dX6_read_47 : decode cX6_read 47 = .ok (.invokevirtual 76, 3) := by decide +kernel
theorem dX6_read_50 : decode cX6_read 50 = .ok (.aload_n 0, 1) := by decide +kernel
theorem dX6_read_51 : decode cX6_read 51 = .ok (.getfield 10, 3) := by decide +kernel
theorem dX6_read_54 : decode cX6_read 54 = .ok (.getfield 72, 3) := by decide +kernel
theorem dX6_read_57 : decode cX6_read 57 = .ok (.ireturn, 1) := by decide +kernel
theorem dX6_count_0 : decode cX6_count 0 = .ok (.iload_n 1, 1) := by decide +kernel
theorem dX6_count_1 : decode cX6_count 1 = .ok (.tableswitch 111 0 7 #[47, 55, 63, 71, 79, 87, 95, 103], 47) := by decide +kernel
theorem dX6_count_48 : decode cX6_count 48 = .ok (.aload_n 0, 1) := by decide +kernel
theorem dX6_count_49 : decode cX6_count 49 = .ok (.getfield 10, 3) := by decide +kernel
theorem dX6_count_52 : decode cX6_count 52 = .ok (.getfield 72, 3) := by decide +kernel
theorem dX6_count_55 : decode cX6_count 55 = .ok (.ireturn, 1) := by decide +kernel
theorem dX6_count_56 : decode cX6_count 56 = .ok (.aload_n 0, 1) := by decide +kernel
theorem dX6_count_57 : decode cX6_count 57 = .ok (.getfield 10, 3) := by decide +kernel
theorem dX6_count_60 : decode cX6_count 60 = .ok (.getfield 86, 3) := by decide +kernel
theorem dX6_count_63 : decode cX6_count 63 = .ok (.ireturn, 1) := by decide +kernel
theorem dX6_count_64 : decode cX6_count 64 = .ok (.aload_n 0, 1) := by decide +kernel
theorem dX6_count_65 : decode cX6_count 65 = .ok (.getfield 10, 3) := by decide +kernel
theorem dX6_count_68 : decode cX6_count 68 = .ok (.getfield 153, 3) := by decide +kernel
theorem dX6_count_71 : decode cX6_count 71 = .ok (.ireturn, 1) := by decide +kernel
theorem dX6_count_72 : decode cX6_count 72 = .ok (.aload_n 0, 1) := by decide +kernel
theorem dX6_count_73 : decode cX6_count 73 = .ok (.getfield 10, 3) := by decide +kernel
theorem dX6_count_76 : decode cX6_count 76 = .ok (.invokevirtual 156, 3) := by decide +kernel
theorem dX6_count_79 : decode cX6_count 79 = .ok (.ireturn, 1) := by decide +kernel
theorem dX6_count_80 : decode cX6_count 80 = .ok (.aload_n 0, 1) := by decide +kernel
theorem dX6_count_81 : decode cX6_count 81 = .ok (.getfield 10, 3) := by decide +kernel
theorem dX6_count_84 : decode cX6_count 84 = .ok (.invokevirtual 109, 3) := by decide +kernel
theorem dX6_count_87 : decode cX6_count 87 = .ok (.ireturn, 1) := by decide +kernel
theorem dX6_count_88 : decode cX6_count 88 = .ok (.aload_n 0, 1) := by decide +kernel
theorem dX6_count_89 : decode cX6_count 89 = .ok (.getfield 10, 3) := by decide +kernel
theorem dX6_count_92 : decode cX6_count 92 = .ok (.invokevirtual 159, 3) := by decide +kernel
theorem dX6_count_95 : decode cX6_count 95 = .ok (.ireturn, 1) := by decide +kernel
theorem dX6_count_96 : decode cX6_count 96 = .ok (.aload_n 0, 1) := by decide +kernel
theorem dX6_count_97 : decode cX6_count 97 = .ok (.getfield 10, 3) := by decide +kernel
theorem dX6_count_100 : decode cX6_count 100 = .ok (.invokevirtual 162, 3) := by decide +kernel
theorem dX6_count_103 : decode cX6_count 103 = .ok (.ireturn, 1) := by decide +kernel
theorem dX6_count_104 : decode cX6_count 104 = .ok (.aload_n 0, 1) := by decide +kernel
theorem dX6_count_105 : decode cX6_count 105 = .ok (.getfield 19, 3) := by decide +kernel
theorem dX6_count_108 : decode cX6_count 108 = .ok (.getfield 165, 3) := by decide +kernel
theorem dX6_count_111 : decode cX6_count 111 = .ok (.ireturn, 1) := by decide +kernel
theorem dX6_count_112 : decode cX6_count 112 = .ok (.iconst (-1), 1) := by decide +kernel
theorem dX6_count_113 : decode cX6_count 113 = .ok (.ireturn, 1) := by decide +kernel
theorem dX6_hours_0 : decode cX6_hours 0 = .ok (.aload_n 0, 1) := by decide +kernel
theorem dX6_hours_1 : decode cX6_hours 1 = .ok (.iload_n 1, 1) := by decide +kernel
theorem dX6_hours_2 : decode cX6_hours 2 = .ok (.iconst 0, 1) := by decide +kernel
theorem dX6_hours_3 : decode cX6_hours 3 = .ok (.invokevirtual 168, 3) := by decide +kernel
theorem dX6_hours_6 : decode cX6_hours 6 = .ok (.ireturn, 1) := by decide +kernel
theorem dX6_rain_0 : decode cX6_rain 0 = .ok (.iload_n 1, 1) := by decide +kernel
theorem dX6_rain_1 : decode cX6_rain 1 = .ok (.iconst 1, 1) := by decide +kernel
theorem dX6_rain_2 : decode cX6_rain 2 = .ok (.bipush 60, 2) := by decide +kernel
theorem dX6_rain_4 : decode cX6_rain 4 = .ok (.invokestatic 64, 3) := by decide +kernel
theorem dX6_rain_7 : decode cX6_rain 7 = .ok (.ifCond .ne 5, 3) := by decide +kernel
theorem dX6_rain_10 : decode cX6_rain 10 = .ok (.iconst (-1), 1) := by decide +kernel
theorem dX6_rain_11 : decode cX6_rain 11 = .ok (.ireturn, 1) := by decide +kernel
theorem dX6_rain_12 : decode cX6_rain 12 = .ok (.aload_n 0, 1) := by decide +kernel
theorem dX6_rain_13 : decode cX6_rain 13 = .ok (.getfield 19, 3) := by decide +kernel
theorem dX6_rain_16 : decode cX6_rain 16 = .ok (.aload_n 0, 1) := by decide +kernel
theorem dX6_rain_17 : decode cX6_rain 17 = .ok (.getfield 10, 3) := by decide +kernel
theorem dX6_rain_20 : decode cX6_rain 20 = .ok (.invokevirtual 172, 3) := by decide +kernel
theorem dX6_rain_23 : decode cX6_rain 23 = .ok (.aload_n 0, 1) := by decide +kernel
theorem dX6_rain_24 : decode cX6_rain 24 = .ok (.getfield 10, 3) := by decide +kernel
theorem dX6_rain_27 : decode cX6_rain 27 = .ok (.iload_n 1, 1) := by decide +kernel
theorem dX6_rain_28 : decode cX6_rain 28 = .ok (.invokevirtual 175, 3) := by decide +kernel
theorem dX6_rain_31 : decode cX6_rain 31 = .ok (.aload_n 0, 1) := by decide +kernel
theorem dX6_rain_32 : decode cX6_rain 32 = .ok (.getfield 10, 3) := by decide +kernel
theorem dX6_rain_35 : decode cX6_rain 35 = .ok (.invokevirtual 156, 3) := by decide +kernel
theorem dX6_rain_38 : decode cX6_rain 38 = .ok (.ireturn, 1) := by decide +kernel
theorem dX6_drive_0 : decode cX6_drive 0 = .ok (.aload_n 0, 1) := by decide +kernel
theorem dX6_drive_1 : decode cX6_drive 1 = .ok (.getfield 10, 3) := by decide +kernel
theorem dX6_drive_4 : decode cX6_drive 4 = .ok (.iload_n 1, 1) := by decide +kernel
theorem dX6_drive_5 : decode cX6_drive 5 = .ok (.invokevirtual 92, 3) := by decide +kernel
theorem dX6_drive_8 : decode cX6_drive 8 = .ok (.ifCond .ne 5, 3) := by decide +kernel
theorem dX6_drive_11 : decode cX6_drive 11 = .ok (.iconst (-1), 1) := by decide +kernel
theorem dX6_drive_12 : decode cX6_drive 12 = .ok (.ireturn, 1) := by decide +kernel
theorem dX6_drive_13 : decode cX6_drive 13 = .ok (.aload_n 0, 1) := by decide +kernel
theorem dX6_drive_14 : decode cX6_drive 14 = .ok (.getfield 10, 3) := by decide +kernel
theorem dX6_drive_17 : decode cX6_drive 17 = .ok (.iload_n 1, 1) := by decide +kernel
theorem dX6_drive_18 : decode cX6_drive 18 = .ok (.invokevirtual 179, 3) := by decide +kernel
theorem dX6_drive_21 : decode cX6_drive 21 = .ok (.ifCond .eq 6, 3) := by decide +kernel
theorem dX6_drive_24 : decode cX6_drive 24 = .ok (.bipush (-2), 2) := by decide +kernel
theorem dX6_drive_26 : decode cX6_drive 26 = .ok (.ireturn, 1) := by decide +kernel
theorem dX6_drive_27 : decode cX6_drive 27 = .ok (.aload_n 0, 1) := by decide +kernel
theorem dX6_drive_28 : decode cX6_drive 28 = .ok (.getfield 19, 3) := by decide +kernel
theorem dX6_drive_31 : decode cX6_drive 31 = .ok (.aload_n 0, 1) := by decide +kernel
theorem dX6_drive_32 : decode cX6_drive 32 = .ok (.getfield 10, 3) := by decide +kernel
theorem dX6_drive_35 : decode cX6_drive 35 = .ok (.invokevirtual 172, 3) := by decide +kernel
theorem dX6_drive_38 : decode cX6_drive 38 = .ok (.aload_n 0, 1) := by decide +kernel
theorem dX6_drive_39 : decode cX6_drive 39 = .ok (.getfield 10, 3) := by decide +kernel
theorem dX6_drive_42 : decode cX6_drive 42 = .ok (.iload_n 1, 1) := by decide +kernel
theorem dX6_drive_43 : decode cX6_drive 43 = .ok (.invokevirtual 182, 3) := by decide +kernel
theorem dX6_drive_46 : decode cX6_drive 46 = .ok (.aload_n 0, 1) := by decide +kernel
theorem dX6_drive_47 : decode cX6_drive 47 = .ok (.getfield 10, 3) := by decide +kernel
theorem dX6_drive_50 : decode cX6_drive 50 = .ok (.getfield 102, 3) := by decide +kernel
theorem dX6_drive_53 : decode cX6_drive 53 = .ok (.iload_n 1, 1) := by decide +kernel
theorem dX6_drive_54 : decode cX6_drive 54 = .ok (.iaload, 1) := by decide +kernel
theorem dX6_drive_55 : decode cX6_drive 55 = .ok (.ireturn, 1) := by decide +kernel
theorem dX6_send_0 : decode cX6_send 0 = .ok (.aload_n 0, 1) := by decide +kernel
theorem dX6_send_1 : decode cX6_send 1 = .ok (.getfield 10, 3) := by decide +kernel
theorem dX6_send_4 : decode cX6_send 4 = .ok (.iload_n 1, 1) := by decide +kernel
theorem dX6_send_5 : decode cX6_send 5 = .ok (.invokevirtual 117, 3) := by decide +kernel
theorem dX6_send_8 : decode cX6_send 8 = .ok (.ifCond .ne 5, 3) := by decide +kernel
theorem dX6_send_11 : decode cX6_send 11 = .ok (.iconst (-1), 1) := by decide +kernel
theorem dX6_send_12 : decode cX6_send 12 = .ok (.ireturn, 1) := by decide +kernel
theorem dX6_send_13 : decode cX6_send 13 = .ok (.aload_n 0, 1) := by decide +kernel
theorem dX6_send_14 : decode cX6_send 14 = .ok (.getfield 10, 3) := by decide +kernel
theorem dX6_send_17 : decode cX6_send 17 = .ok (.iload_n 1, 1) := by decide +kernel
theorem dX6_send_18 : decode cX6_send 18 = .ok (.invokevirtual 185, 3) := by decide +kernel
theorem dX6_send_21 : decode cX6_send 21 = .ok (.ifCond .ne 6, 3) := by decide +kernel
theorem dX6_send_24 : decode cX6_send 24 = .ok (.bipush (-2), 2) := by decide +kernel
theorem dX6_send_26 : decode cX6_send 26 = .ok (.ireturn, 1) := by decide +kernel
theorem dX6_send_27 : decode cX6_send 27 = .ok (.aload_n 0, 1) := by decide +kernel
theorem dX6_send_28 : decode cX6_send 28 = .ok (.getfield 19, 3) := by decide +kernel
theorem dX6_send_31 : decode cX6_send 31 = .ok (.aload_n 0, 1) := by decide +kernel
theorem dX6_send_32 : decode cX6_send 32 = .ok (.getfield 10, 3) := by decide +kernel
theorem dX6_send_35 : decode cX6_send 35 = .ok (.invokevirtual 172, 3) := by decide +kernel
theorem dX6_send_38 : decode cX6_send 38 = .ok (.aload_n 0, 1) := by decide +kernel
theorem dX6_send_39 : decode cX6_send 39 = .ok (.getfield 10, 3) := by decide +kernel
theorem dX6_send_42 : decode cX6_send 42 = .ok (.getfield 129, 3) := by decide +kernel
theorem dX6_send_45 : decode cX6_send 45 = .ok (.iload_n 1, 1) := by decide +kernel
theorem dX6_send_46 : decode cX6_send 46 = .ok (.iaload, 1) := by decide +kernel
theorem dX6_send_47 : decode cX6_send 47 = .ok (.istore_n 2, 1) := by decide +kernel
theorem dX6_send_48 : decode cX6_send 48 = .ok (.aload_n 0, 1) := by decide +kernel
theorem dX6_send_49 : decode cX6_send 49 = .ok (.getfield 10, 3) := by decide +kernel
theorem dX6_send_52 : decode cX6_send 52 = .ok (.getfield 129, 3) := by decide +kernel
theorem dX6_send_55 : decode cX6_send 55 = .ok (.iload_n 1, 1) := by decide +kernel
theorem dX6_send_56 : decode cX6_send 56 = .ok (.bipush (-4), 2) := by decide +kernel
theorem dX6_send_58 : decode cX6_send 58 = .ok (.iastore, 1) := by decide +kernel
theorem dX6_send_59 : decode cX6_send 59 = .ok (.iload_n 2, 1) := by decide +kernel
theorem dX6_send_60 : decode cX6_send 60 = .ok (.ireturn, 1) := by decide +kernel
theorem dX6_later_0 : decode cX6_later 0 = .ok (.aload_n 0, 1) := by decide +kernel
theorem dX6_later_1 : decode cX6_later 1 = .ok (.getfield 10, 3) := by decide +kernel
theorem dX6_later_4 : decode cX6_later 4 = .ok (.iload_n 1, 1) := by decide +kernel
theorem dX6_later_5 : decode cX6_later 5 = .ok (.invokevirtual 117, 3) := by decide +kernel
theorem dX6_later_8 : decode cX6_later 8 = .ok (.ifCond .eq 10, 3) := by decide +kernel
theorem dX6_later_11 : decode cX6_later 11 = .ok (.iload_n 2, 1) := by decide +kernel
theorem dX6_later_12 : decode cX6_later 12 = .ok (.invokestatic 83, 3) := by decide +kernel
theorem dX6_later_15 : decode cX6_later 15 = .ok (.ifCond .ne 5, 3) := by decide +kernel
theorem dX6_later_18 : decode cX6_later 18 = .ok (.iconst (-1), 1) := by decide +kernel
theorem dX6_later_19 : decode cX6_later 19 = .ok (.ireturn, 1) := by decide +kernel
theorem dX6_later_20 : decode cX6_later 20 = .ok (.aload_n 0, 1) := by decide +kernel
theorem dX6_later_21 : decode cX6_later 21 = .ok (.getfield 10, 3) := by decide +kernel
theorem dX6_later_24 : decode cX6_later 24 = .ok (.getfield 123, 3) := by decide +kernel
theorem dX6_later_27 : decode cX6_later 27 = .ok (.iload_n 1, 1) := by decide +kernel
theorem dX6_later_28 : decode cX6_later 28 = .ok (.iaload, 1) := by decide +kernel
theorem dX6_later_29 : decode cX6_later 29 = .ok (.iload_n 2, 1) := by decide +kernel
theorem dX6_later_30 : decode cX6_later 30 = .ok (.if_icmp .ne 6, 3) := by decide +kernel
theorem dX6_later_33 : decode cX6_later 33 = .ok (.bipush (-2), 2) := by decide +kernel
theorem dX6_later_35 : decode cX6_later 35 = .ok (.ireturn, 1) := by decide +kernel
theorem dX6_later_36 : decode cX6_later 36 = .ok (.aload_n 0, 1) := by decide +kernel
theorem dX6_later_37 : decode cX6_later 37 = .ok (.getfield 19, 3) := by decide +kernel
theorem dX6_later_40 : decode cX6_later 40 = .ok (.aload_n 0, 1) := by decide +kernel
theorem dX6_later_41 : decode cX6_later 41 = .ok (.getfield 10, 3) := by decide +kernel
theorem dX6_later_44 : decode cX6_later 44 = .ok (.invokevirtual 172, 3) := by decide +kernel
theorem dX6_later_47 : decode cX6_later 47 = .ok (.aload_n 0, 1) := by decide +kernel
theorem dX6_later_48 : decode cX6_later 48 = .ok (.getfield 10, 3) := by decide +kernel
theorem dX6_later_51 : decode cX6_later 51 = .ok (.getfield 123, 3) := by decide +kernel
theorem dX6_later_54 : decode cX6_later 54 = .ok (.iload_n 1, 1) := by decide +kernel
theorem dX6_later_55 : decode cX6_later 55 = .ok (.iaload, 1) := by decide +kernel
theorem dX6_later_56 : decode cX6_later 56 = .ok (.istore_n 3, 1) := by decide +kernel
theorem dX6_later_57 : decode cX6_later 57 = .ok (.aload_n 0, 1) := by decide +kernel
theorem dX6_later_58 : decode cX6_later 58 = .ok (.getfield 10, 3) := by decide +kernel
theorem dX6_later_61 : decode cX6_later 61 = .ok (.getfield 123, 3) := by decide +kernel
theorem dX6_later_64 : decode cX6_later 64 = .ok (.iload_n 1, 1) := by decide +kernel
theorem dX6_later_65 : decode cX6_later 65 = .ok (.iload_n 2, 1) := by decide +kernel
theorem dX6_later_66 : decode cX6_later 66 = .ok (.iastore, 1) := by decide +kernel
theorem dX6_later_67 : decode cX6_later 67 = .ok (.iload_n 3, 1) := by decide +kernel
theorem dX6_later_68 : decode cX6_later 68 = .ok (.ireturn, 1) := by decide +kernel
theorem dX6_drift_0 : decode cX6_drift 0 = .ok (.aload_n 0, 1) := by decide +kernel
theorem dX6_drift_1 : decode cX6_drift 1 = .ok (.iload_n 1, 1) := by decide +kernel
theorem dX6_drift_2 : decode cX6_drift 2 = .ok (.iconst 1, 1) := by decide +kernel
theorem dX6_drift_3 : decode cX6_drift 3 = .ok (.invokevirtual 168, 3) := by decide +kernel
theorem dX6_drift_6 : decode cX6_drift 6 = .ok (.ireturn, 1) := by decide +kernel
theorem dX6_undo_0 : decode cX6_undo 0 = .ok (.aload_n 0, 1) := by decide +kernel
theorem dX6_undo_1 : decode cX6_undo 1 = .ok (.getfield 19, 3) := by decide +kernel
theorem dX6_undo_4 : decode cX6_undo 4 = .ok (.aload_n 0, 1) := by decide +kernel
theorem dX6_undo_5 : decode cX6_undo 5 = .ok (.getfield 10, 3) := by decide +kernel
theorem dX6_undo_8 : decode cX6_undo 8 = .ok (.invokevirtual 188, 3) := by decide +kernel
theorem dX6_undo_11 : decode cX6_undo 11 = .ok (.ifCond .eq 13, 3) := by decide +kernel
theorem dX6_undo_14 : decode cX6_undo 14 = .ok (.aload_n 0, 1) := by decide +kernel
theorem dX6_undo_15 : decode cX6_undo 15 = .ok (.getfield 19, 3) := by decide +kernel
theorem dX6_undo_18 : decode cX6_undo 18 = .ok (.getfield 165, 3) := by decide +kernel
theorem dX6_undo_21 : decode cX6_undo 21 = .ok (.goto 5, 3) := by decide +kernel
theorem dX6_undo_24 : decode cX6_undo 24 = .ok (.bipush (-4), 2) := by decide +kernel
theorem dX6_undo_26 : decode cX6_undo 26 = .ok (.ireturn, 1) := by decide +kernel
theorem dX6_seed_0 : decode cX6_seed 0 = .ok (.iload_n 1, 1) := by decide +kernel
theorem dX6_seed_1 : decode cX6_seed 1 = .ok (.ifCond .ge 5, 3) := by decide +kernel
theorem dX6_seed_4 : decode cX6_seed 4 = .ok (.iconst (-1), 1) := by decide +kernel
theorem dX6_seed_5 : decode cX6_seed 5 = .ok (.ireturn, 1) := by decide +kernel
theorem dX6_seed_6 : decode cX6_seed 6 = .ok (.aload_n 0, 1) := by decide +kernel
theorem dX6_seed_7 : decode cX6_seed 7 = .ok (.getfield 10, 3) := by decide +kernel
theorem dX6_seed_10 : decode cX6_seed 10 = .ok (.getfield 146, 3) := by decide +kernel
theorem dX6_seed_13 : decode cX6_seed 13 = .ok (.istore_n 2, 1) := by decide +kernel
theorem dX6_seed_14 : decode cX6_seed 14 = .ok (.aload_n 0, 1) := by decide +kernel
theorem dX6_seed_15 : decode cX6_seed 15 = .ok (.getfield 10, 3) := by decide +kernel
theorem dX6_seed_18 : decode cX6_seed 18 = .ok (.iload_n 1, 1) := by decide +kernel
theorem dX6_seed_19 : decode cX6_seed 19 = .ok (.putfield 146, 3) := by decide +kernel
theorem dX6_seed_22 : decode cX6_seed 22 = .ok (.iload_n 2, 1) := by decide +kernel
theorem dX6_seed_23 : decode cX6_seed 23 = .ok (.ireturn, 1) := by decide +kernel
theorem dX6_ahead_0 : decode cX6_ahead 0 = .ok (.aload_n 0, 1) := by decide +kernel
theorem dX6_ahead_1 : decode cX6_ahead 1 = .ok (.getfield 10, 3) := by decide +kernel
theorem dX6_ahead_4 : decode cX6_ahead 4 = .ok (.iload_n 1, 1) := by decide +kernel
theorem dX6_ahead_5 : decode cX6_ahead 5 = .ok (.invokevirtual 92, 3) := by decide +kernel
theorem dX6_ahead_8 : decode cX6_ahead 8 = .ok (.ifCond .eq 13, 3) := by decide +kernel
theorem dX6_ahead_11 : decode cX6_ahead 11 = .ok (.iload_n 2, 1) := by decide +kernel
theorem dX6_ahead_12 : decode cX6_ahead 12 = .ok (.iconst 0, 1) := by decide +kernel
theorem dX6_ahead_13 : decode cX6_ahead 13 = .ok (.bipush 40, 2) := by decide +kernel
theorem dX6_ahead_15 : decode cX6_ahead 15 = .ok (.invokestatic 64, 3) := by decide +kernel
theorem dX6_ahead_18 : decode cX6_ahead 18 = .ok (.ifCond .ne 5, 3) := by decide +kernel
theorem dX6_ahead_21 : decode cX6_ahead 21 = .ok (.iconst (-1), 1) := by decide +kernel
theorem dX6_ahead_22 : decode cX6_ahead 22 = .ok (.ireturn, 1) := by decide +kernel
theorem dX6_ahead_23 : decode cX6_ahead 23 = .ok (.aload_n 0, 1) := by decide +kernel
theorem dX6_ahead_24 : decode cX6_ahead 24 = .ok (.getfield 23, 3) := by decide +kernel
theorem dX6_ahead_27 : decode cX6_ahead 27 = .ok (.aload_n 0, 1) := by decide +kernel
theorem dX6_ahead_28 : decode cX6_ahead 28 = .ok (.getfield 10, 3) := by decide +kernel
theorem dX6_ahead_31 : decode cX6_ahead 31 = .ok (.invokevirtual 149, 3) := by decide +kernel
theorem dX6_ahead_34 : decode cX6_ahead 34 = .ok (.iconst 0, 1) := by decide +kernel
theorem dX6_ahead_35 : decode cX6_ahead 35 = .ok (.istore_n 3, 1) := by decide +kernel
theorem dX6_ahead_36 : decode cX6_ahead 36 = .ok (.iload_n 3, 1) := by decide +kernel
theorem dX6_ahead_37 : decode cX6_ahead 37 = .ok (.iload_n 2, 1) := by decide +kernel
theorem dX6_ahead_38 : decode cX6_ahead 38 = .ok (.if_icmp .ge 16, 3) := by decide +kernel
theorem dX6_ahead_41 : decode cX6_ahead 41 = .ok (.aload_n 0, 1) := by decide +kernel
theorem dX6_ahead_42 : decode cX6_ahead 42 = .ok (.getfield 23, 3) := by decide +kernel
theorem dX6_ahead_45 : decode cX6_ahead 45 = .ok (.invokevirtual 192, 3) := by decide +kernel
theorem dX6_ahead_48 : decode cX6_ahead 48 = .ok (.iinc 3 1, 3) := by decide +kernel
theorem dX6_ahead_51 : decode cX6_ahead 51 = .ok (.goto (-15), 3) := by decide +kernel
theorem dX6_ahead_54 : decode cX6_ahead 54 = .ok (.aload_n 0, 1) := by decide +kernel
theorem dX6_ahead_55 : decode cX6_ahead 55 = .ok (.getfield 23, 3) := by decide +kernel
theorem dX6_ahead_58 : decode cX6_ahead 58 = .ok (.getfield 102, 3) := by decide +kernel
theorem dX6_ahead_61 : decode cX6_ahead 61 = .ok (.iload_n 1, 1) := by decide +kernel
theorem dX6_ahead_62 : decode cX6_ahead 62 = .ok (.iaload, 1) := by decide +kernel
theorem dX6_ahead_63 : decode cX6_ahead 63 = .ok (.ireturn, 1) := by decide +kernel
theorem dX6_claims_0 : decode cX6_claims 0 = .ok (.aload_n 0, 1) := by decide +kernel
theorem dX6_claims_1 : decode cX6_claims 1 = .ok (.getfield 10, 3) := by decide +kernel
theorem dX6_claims_4 : decode cX6_claims 4 = .ok (.iload_n 1, 1) := by decide +kernel
theorem dX6_claims_5 : decode cX6_claims 5 = .ok (.invokevirtual 117, 3) := by decide +kernel
theorem dX6_claims_8 : decode cX6_claims 8 = .ok (.ifCond .eq 13, 3) := by decide +kernel
theorem dX6_claims_11 : decode cX6_claims 11 = .ok (.iload_n 2, 1) := by decide +kernel
theorem dX6_claims_12 : decode cX6_claims 12 = .ok (.iconst 0, 1) := by decide +kernel
theorem dX6_claims_13 : decode cX6_claims 13 = .ok (.bipush 40, 2) := by decide +kernel
theorem dX6_claims_15 : decode cX6_claims 15 = .ok (.invokestatic 64, 3) := by decide +kernel
theorem dX6_claims_18 : decode cX6_claims 18 = .ok (.ifCond .ne 5, 3) := by decide +kernel
theorem dX6_claims_21 : decode cX6_claims 21 = .ok (.iconst (-1), 1) := by decide +kernel
theorem dX6_claims_22 : decode cX6_claims 22 = .ok (.ireturn, 1) := by decide +kernel
theorem dX6_claims_23 : decode cX6_claims 23 = .ok (.aload_n 0, 1) := by decide +kernel
theorem dX6_claims_24 : decode cX6_claims 24 = .ok (.getfield 23, 3) := by decide +kernel
theorem dX6_claims_27 : decode cX6_claims 27 = .ok (.aload_n 0, 1) := by decide +kernel
theorem dX6_claims_28 : decode cX6_claims 28 = .ok (.getfield 10, 3) := by decide +kernel
theorem dX6_claims_31 : decode cX6_claims 31 = .ok (.invokevirtual 149, 3) := by decide +kernel
theorem dX6_claims_34 : decode cX6_claims 34 = .ok (.aload_n 0, 1) := by decide +kernel
theorem dX6_claims_35 : decode cX6_claims 35 = .ok (.getfield 23, 3) := by decide +kernel
theorem dX6_claims_38 : decode cX6_claims 38 = .ok (.iload_n 2, 1) := by decide +kernel
theorem dX6_claims_39 : decode cX6_claims 39 = .ok (.invokevirtual 195, 3) := by decide +kernel
theorem dX6_claims_42 : decode cX6_claims 42 = .ok (.pop, 1) := by decide +kernel
theorem dX6_claims_43 : decode cX6_claims 43 = .ok (.aload_n 0, 1) := by decide +kernel
theorem dX6_claims_44 : decode cX6_claims 44 = .ok (.getfield 23, 3) := by decide +kernel
theorem dX6_claims_47 : decode cX6_claims 47 = .ok (.getfield 129, 3) := by decide +kernel
theorem dX6_claims_50 : decode cX6_claims 50 = .ok (.iload_n 1, 1) := by decide +kernel
theorem dX6_claims_51 : decode cX6_claims 51 = .ok (.iaload, 1) := by decide +kernel
theorem dX6_claims_52 : decode cX6_claims 52 = .ok (.ireturn, 1) := by decide +kernel
theorem dX6_then_0 : decode cX6_then 0 = .ok (.iload_n 1, 1) := by decide +kernel
theorem dX6_then_1 : decode cX6_then 1 = .ok (.iconst 0, 1) := by decide +kernel
theorem dX6_then_2 : decode cX6_then 2 = .ok (.bipush 40, 2) := by decide +kernel
theorem dX6_then_4 : decode cX6_then 4 = .ok (.invokestatic 64, 3) := by decide +kernel
theorem dX6_then_7 : decode cX6_then 7 = .ok (.ifCond .ne 5, 3) := by decide +kernel
theorem dX6_then_10 : decode cX6_then 10 = .ok (.iconst (-1), 1) := by decide +kernel
theorem dX6_then_11 : decode cX6_then 11 = .ok (.ireturn, 1) := by decide +kernel
theorem dX6_then_12 : decode cX6_then 12 = .ok (.aload_n 0, 1) := by decide +kernel
theorem dX6_then_13 : decode cX6_then 13 = .ok (.getfield 23, 3) := by decide +kernel
theorem dX6_then_16 : decode cX6_then 16 = .ok (.aload_n 0, 1) := by decide +kernel
theorem dX6_then_17 : decode cX6_then 17 = .ok (.getfield 10, 3) := by decide +kernel
theorem dX6_then_20 : decode cX6_then 20 = .ok (.invokevirtual 149, 3) := by decide +kernel
theorem dX6_then_23 : decode cX6_then 23 = .ok (.aload_n 0, 1) := by decide +kernel
theorem dX6_then_24 : decode cX6_then 24 = .ok (.getfield 23, 3) := by decide +kernel
theorem dX6_then_27 : decode cX6_then 27 = .ok (.iload_n 1, 1) := by decide +kernel
theorem dX6_then_28 : decode cX6_then 28 = .ok (.invokevirtual 195, 3) := by decide +kernel
theorem dX6_then_31 : decode cX6_then 31 = .ok (.ireturn, 1) := by decide +kernel
theorem dX6_served_0 : decode cX6_served 0 = .ok (.aload_n 0, 1) := by decide +kernel
theorem dX6_served_1 : decode cX6_served 1 = .ok (.getfield 10, 3) := by decide +kernel
theorem dX6_served_4 : decode cX6_served 4 = .ok (.iload_n 1, 1) := by decide +kernel
theorem dX6_served_5 : decode cX6_served 5 = .ok (.invokevirtual 117, 3) := by decide +kernel
theorem dX6_served_8 : decode cX6_served 8 = .ok (.ifCond .ne 5, 3) := by decide +kernel
theorem dX6_served_11 : decode cX6_served 11 = .ok (.iconst (-1), 1) := by decide +kernel
theorem dX6_served_12 : decode cX6_served 12 = .ok (.ireturn, 1) := by decide +kernel
theorem dX6_served_13 : decode cX6_served 13 = .ok (.aload_n 0, 1) := by decide +kernel
theorem dX6_served_14 : decode cX6_served 14 = .ok (.getfield 23, 3) := by decide +kernel
theorem dX6_served_17 : decode cX6_served 17 = .ok (.aload_n 0, 1) := by decide +kernel
theorem dX6_served_18 : decode cX6_served 18 = .ok (.getfield 10, 3) := by decide +kernel
theorem dX6_served_21 : decode cX6_served 21 = .ok (.invokevirtual 149, 3) := by decide +kernel
theorem dX6_served_24 : decode cX6_served 24 = .ok (.iconst 0, 1) := by decide +kernel
theorem dX6_served_25 : decode cX6_served 25 = .ok (.istore_n 2, 1) := by decide +kernel
theorem dX6_served_26 : decode cX6_served 26 = .ok (.iload_n 2, 1) := by decide +kernel
theorem dX6_served_27 : decode cX6_served 27 = .ok (.bipush 40, 2) := by decide +kernel
theorem dX6_served_29 : decode cX6_served 29 = .ok (.if_icmp .gt 29, 3) := by decide +kernel
theorem dX6_served_32 : decode cX6_served 32 = .ok (.aload_n 0, 1) := by decide +kernel
theorem dX6_served_33 : decode cX6_served 33 = .ok (.getfield 23, 3) := by decide +kernel
theorem dX6_served_36 : decode cX6_served 36 = .ok (.iload_n 1, 1) := by decide +kernel
theorem dX6_served_37 : decode cX6_served 37 = .ok (.invokevirtual 185, 3) := by decide +kernel
theorem dX6_served_40 : decode cX6_served 40 = .ok (.ifCond .eq 5, 3) := by decide +kernel
theorem dX6_served_43 : decode cX6_served 43 = .ok (.iload_n 2, 1) := by decide +kernel
theorem dX6_served_44 : decode cX6_served 44 = .ok (.ireturn, 1) := by decide +kernel
theorem dX6_served_45 : decode cX6_served 45 = .ok (.aload_n 0, 1) := by decide +kernel
theorem dX6_served_46 : decode cX6_served 46 = .ok (.getfield 23, 3) := by decide +kernel
theorem dX6_served_49 : decode cX6_served 49 = .ok (.invokevirtual 192, 3) := by decide +kernel
theorem dX6_served_52 : decode cX6_served 52 = .ok (.iinc 2 1, 3) := by decide +kernel
theorem dX6_served_55 : decode cX6_served 55 = .ok (.goto (-29), 3) := by decide +kernel
theorem dX6_served_58 : decode cX6_served 58 = .ok (.bipush (-4), 2) := by decide +kernel
theorem dX6_served_60 : decode cX6_served 60 = .ok (.ireturn, 1) := by decide +kernel
theorem dX6_dries_0 : decode cX6_dries 0 = .ok (.aload_n 0, 1) := by decide +kernel
theorem dX6_dries_1 : decode cX6_dries 1 = .ok (.getfield 10, 3) := by decide +kernel
theorem dX6_dries_4 : decode cX6_dries 4 = .ok (.iload_n 1, 1) := by decide +kernel
theorem dX6_dries_5 : decode cX6_dries 5 = .ok (.invokevirtual 92, 3) := by decide +kernel
theorem dX6_dries_8 : decode cX6_dries 8 = .ok (.ifCond .ne 5, 3) := by decide +kernel
theorem dX6_dries_11 : decode cX6_dries 11 = .ok (.iconst (-1), 1) := by decide +kernel
theorem dX6_dries_12 : decode cX6_dries 12 = .ok (.ireturn, 1) := by decide +kernel
theorem dX6_dries_13 : decode cX6_dries 13 = .ok (.aload_n 0, 1) := by decide +kernel
theorem dX6_dries_14 : decode cX6_dries 14 = .ok (.getfield 23, 3) := by decide +kernel
theorem dX6_dries_17 : decode cX6_dries 17 = .ok (.aload_n 0, 1) := by decide +kernel
theorem dX6_dries_18 : decode cX6_dries 18 = .ok (.getfield 10, 3) := by decide +kernel
theorem dX6_dries_21 : decode cX6_dries 21 = .ok (.invokevirtual 149, 3) := by decide +kernel
theorem dX6_dries_24 : decode cX6_dries 24 = .ok (.iconst 0, 1) := by decide +kernel
theorem dX6_dries_25 : decode cX6_dries 25 = .ok (.istore_n 2, 1) := by decide +kernel
theorem dX6_dries_26 : decode cX6_dries 26 = .ok (.iload_n 2, 1) := by decide +kernel
theorem dX6_dries_27 : decode cX6_dries 27 = .ok (.bipush 40, 2) := by decide +kernel
theorem dX6_dries_29 : decode cX6_dries 29 = .ok (.if_icmp .gt 29, 3) := by decide +kernel
theorem dX6_dries_32 : decode cX6_dries 32 = .ok (.aload_n 0, 1) := by decide +kernel
theorem dX6_dries_33 : decode cX6_dries 33 = .ok (.getfield 23, 3) := by decide +kernel
theorem dX6_dries_36 : decode cX6_dries 36 = .ok (.iload_n 1, 1) := by decide +kernel
theorem dX6_dries_37 : decode cX6_dries 37 = .ok (.invokevirtual 179, 3) := by decide +kernel
theorem dX6_dries_40 : decode cX6_dries 40 = .ok (.ifCond .eq 5, 3) := by decide +kernel
theorem dX6_dries_43 : decode cX6_dries 43 = .ok (.iload_n 2, 1) := by decide +kernel
theorem dX6_dries_44 : decode cX6_dries 44 = .ok (.ireturn, 1) := by decide +kernel
theorem dX6_dries_45 : decode cX6_dries 45 = .ok (.aload_n 0, 1) := by decide +kernel
theorem dX6_dries_46 : decode cX6_dries 46 = .ok (.getfield 23, 3) := by decide +kernel
theorem dX6_dries_49 : decode cX6_dries 49 = .ok (.invokevirtual 192, 3) := by decide +kernel
theorem dX6_dries_52 : decode cX6_dries 52 = .ok (.iinc 2 1, 3) := by decide +kernel
theorem dX6_dries_55 : decode cX6_dries 55 = .ok (.goto (-29), 3) := by decide +kernel
theorem dX6_dries_58 : decode cX6_dries 58 = .ok (.bipush (-4), 2) := by decide +kernel
theorem dX6_dries_60 : decode cX6_dries 60 = .ok (.ireturn, 1) := by decide +kernel
theorem dX6_match_0 : decode cX6_match 0 = .ok (.aload_n 0, 1) := by decide +kernel
theorem dX6_match_1 : decode cX6_match 1 = .ok (.getfield 53, 3) := by decide +kernel
theorem dX6_match_4 : decode cX6_match 4 = .ok (.aload_n 0, 1) := by decide +kernel
theorem dX6_match_5 : decode cX6_match 5 = .ok (.getfield 10, 3) := by decide +kernel
theorem dX6_match_8 : decode cX6_match 8 = .ok (.invokevirtual 198, 3) := by decide +kernel
theorem dX6_match_11 : decode cX6_match 11 = .ok (.ireturn, 1) := by decide +kernel
theorem dX6_latest_0 : decode cX6_latest 0 = .ok (.aload_n 0, 1) := by decide +kernel
theorem dX6_latest_1 : decode cX6_latest 1 = .ok (.getfield 10, 3) := by decide +kernel
theorem dX6_latest_4 : decode cX6_latest 4 = .ok (.iload_n 1, 1) := by decide +kernel
theorem dX6_latest_5 : decode cX6_latest 5 = .ok (.invokevirtual 117, 3) := by decide +kernel
theorem dX6_latest_8 : decode cX6_latest 8 = .ok (.ifCond .ne 5, 3) := by decide +kernel
theorem dX6_latest_11 : decode cX6_latest 11 = .ok (.iconst (-1), 1) := by decide +kernel
theorem dX6_latest_12 : decode cX6_latest 12 = .ok (.ireturn, 1) := by decide +kernel
theorem dX6_latest_13 : decode cX6_latest 13 = .ok (.bipush 20, 2) := by decide +kernel
theorem dX6_latest_15 : decode cX6_latest 15 = .ok (.istore_n 2, 1) := by decide +kernel
theorem dX6_latest_16 : decode cX6_latest 16 = .ok (.iload_n 2, 1) := by decide +kernel
theorem dX6_latest_17 : decode cX6_latest 17 = .ok (.ifCond .lt 53, 3) := by decide +kernel
theorem dX6_latest_20 : decode cX6_latest 20 = .ok (.aload_n 0, 1) := by decide +kernel
theorem dX6_latest_21 : decode cX6_latest 21 = .ok (.getfield 23, 3) := by decide +kernel
theorem dX6_latest_24 : decode cX6_latest 24 = .ok (.aload_n 0, 1) := by decide +kernel
theorem dX6_latest_25 : decode cX6_latest 25 = .ok (.getfield 10, 3) := by decide +kernel
theorem dX6_latest_28 : decode cX6_latest 28 = .ok (.invokevirtual 149, 3) := by decide +kernel
theorem dX6_latest_31 : decode cX6_latest 31 = .ok (.aload_n 0, 1) := by decide +kernel
theorem dX6_latest_32 : decode cX6_latest 32 = .ok (.getfield 23, 3) := by decide +kernel
theorem dX6_latest_35 : decode cX6_latest 35 = .ok (.getfield 123, 3) := by decide +kernel
theorem dX6_latest_38 : decode cX6_latest 38 = .ok (.iload_n 1, 1) := by decide +kernel
theorem dX6_latest_39 : decode cX6_latest 39 = .ok (.iload_n 2, 1) := by decide +kernel
theorem dX6_latest_40 : decode cX6_latest 40 = .ok (.iastore, 1) := by decide +kernel
theorem dX6_latest_41 : decode cX6_latest 41 = .ok (.aload_n 0, 1) := by decide +kernel
theorem dX6_latest_42 : decode cX6_latest 42 = .ok (.getfield 23, 3) := by decide +kernel
theorem dX6_latest_45 : decode cX6_latest 45 = .ok (.bipush 40, 2) := by decide +kernel
theorem dX6_latest_47 : decode cX6_latest 47 = .ok (.invokevirtual 195, 3) := by decide +kernel
theorem dX6_latest_50 : decode cX6_latest 50 = .ok (.pop, 1) := by decide +kernel
theorem dX6_latest_51 : decode cX6_latest 51 = .ok (.aload_n 0, 1) := by decide +kernel
theorem dX6_latest_52 : decode cX6_latest 52 = .ok (.getfield 23, 3) := by decide +kernel
theorem dX6_latest_55 : decode cX6_latest 55 = .ok (.iload_n 1, 1) := by decide +kernel
theorem dX6_latest_56 : decode cX6_latest 56 = .ok (.invokevirtual 185, 3) := by decide +kernel
theorem dX6_latest_59 : decode cX6_latest 59 = .ok (.ifCond .eq 5, 3) := by decide +kernel
theorem dX6_latest_62 : decode cX6_latest 62 = .ok (.iload_n 2, 1) := by decide +kernel
theorem dX6_latest_63 : decode cX6_latest 63 = .ok (.ireturn, 1) := by decide +kernel
theorem dX6_latest_64 : decode cX6_latest 64 = .ok (.iinc 2 (-1), 3) := by decide +kernel
theorem dX6_latest_67 : decode cX6_latest 67 = .ok (.goto (-51), 3) := by decide +kernel
theorem dX6_latest_70 : decode cX6_latest 70 = .ok (.bipush (-4), 2) := by decide +kernel
theorem dX6_latest_72 : decode cX6_latest 72 = .ok (.ireturn, 1) := by decide +kernel
theorem dX6_order_0 : decode cX6_order 0 = .ok (.iload_n 1, 1) := by decide +kernel
theorem dX6_order_1 : decode cX6_order 1 = .ok (.iconst 1, 1) := by decide +kernel
theorem dX6_order_2 : decode cX6_order 2 = .ok (.bipush 30, 2) := by decide +kernel
theorem dX6_order_4 : decode cX6_order 4 = .ok (.invokestatic 64, 3) := by decide +kernel
theorem dX6_order_7 : decode cX6_order 7 = .ok (.ifCond .eq 8, 3) := by decide +kernel
theorem dX6_order_10 : decode cX6_order 10 = .ok (.iload_n 2, 1) := by decide +kernel
theorem dX6_order_11 : decode cX6_order 11 = .ok (.iconst (-1), 1) := by decide +kernel
theorem dX6_order_12 : decode cX6_order 12 = .ok (.if_icmp .ge 5, 3) := by decide +kernel
theorem dX6_order_15 : decode cX6_order 15 = .ok (.iconst (-1), 1) := by decide +kernel
theorem dX6_order_16 : decode cX6_order 16 = .ok (.ireturn, 1) := by decide +kernel
theorem dX6_order_17 : decode cX6_order 17 = .ok (.aload_n 0, 1) := by decide +kernel
theorem dX6_order_18 : decode cX6_order 18 = .ok (.getfield 23, 3) := by decide +kernel
theorem dX6_order_21 : decode cX6_order 21 = .ok (.aload_n 0, 1) := by decide +kernel
theorem dX6_order_22 : decode cX6_order 22 = .ok (.getfield 10, 3) := by decide +kernel
theorem dX6_order_25 : decode cX6_order 25 = .ok (.invokevirtual 149, 3) := by decide +kernel
theorem dX6_order_28 : decode cX6_order 28 = .ok (.aload_n 0, 1) := by decide +kernel
theorem dX6_order_29 : decode cX6_order 29 = .ok (.getfield 60, 3) := by decide +kernel
theorem dX6_order_32 : decode cX6_order 32 = .ok (.aload_n 0, 1) := by decide +kernel
theorem dX6_order_33 : decode cX6_order 33 = .ok (.getfield 23, 3) := by decide +kernel
theorem dX6_order_36 : decode cX6_order 36 = .ok (.iload_n 1, 1) := by decide +kernel
theorem dX6_order_37 : decode cX6_order 37 = .ok (.invokevirtual 201, 3) := by decide +kernel
theorem dX6_order_40 : decode cX6_order 40 = .ok (.iload_n 2, 1) := by decide +kernel
theorem dX6_order_41 : decode cX6_order 41 = .ok (.iconst (-1), 1) := by decide +kernel
theorem dX6_order_42 : decode cX6_order 42 = .ok (.if_icmp .ne 13, 3) := by decide +kernel
theorem dX6_order_45 : decode cX6_order 45 = .ok (.aload_n 0, 1) := by decide +kernel
theorem dX6_order_46 : decode cX6_order 46 = .ok (.getfield 60, 3) := by decide +kernel
theorem dX6_order_49 : decode cX6_order 49 = .ok (.getfield 205, 3) := by decide +kernel
theorem dX6_order_52 : decode cX6_order 52 = .ok (.goto 11, 3) := by decide +kernel
theorem dX6_order_55 : decode cX6_order 55 = .ok (.aload_n 0, 1) := by decide +kernel
theorem dX6_order_56 : decode cX6_order 56 = .ok (.getfield 60, 3) := by decide +kernel
theorem dX6_order_59 : decode cX6_order 59 = .ok (.iload_n 2, 1) := by decide +kernel
theorem dX6_order_60 : decode cX6_order 60 = .ok (.invokevirtual 208, 3) := by decide +kernel
theorem dX6_order_63 : decode cX6_order 63 = .ok (.ireturn, 1) := by decide +kernel
theorem dX6_wet_0 : decode cX6_wet 0 = .ok (.iload_n 1, 1) := by decide +kernel
theorem dX6_wet_1 : decode cX6_wet 1 = .ok (.iconst 1, 1) := by decide +kernel
theorem dX6_wet_2 : decode cX6_wet 2 = .ok (.bipush 30, 2) := by decide +kernel
theorem dX6_wet_4 : decode cX6_wet 4 = .ok (.invokestatic 64, 3) := by decide +kernel
theorem dX6_wet_7 : decode cX6_wet 7 = .ok (.ifCond .ne 5, 3) := by decide +kernel
theorem dX6_wet_10 : decode cX6_wet 10 = .ok (.iconst (-1), 1) := by decide +kernel
theorem dX6_wet_11 : decode cX6_wet 11 = .ok (.ireturn, 1) := by decide +kernel
theorem dX6_wet_12 : decode cX6_wet 12 = .ok (.iconst 0, 1) := by decide +kernel
theorem dX6_wet_13 : decode cX6_wet 13 = .ok (.istore_n 2, 1) := by decide +kernel
theorem dX6_wet_14 : decode cX6_wet 14 = .ok (.iload_n 2, 1) := by decide +kernel
theorem dX6_wet_15 : decode cX6_wet 15 = .ok (.bipush 60, 2) := by decide +kernel
theorem dX6_wet_17 : decode cX6_wet 17 = .ok (.if_icmp .gt 51, 3) := by decide +kernel
theorem dX6_wet_20 : decode cX6_wet 20 = .ok (.aload_n 0, 1) := by decide +kernel
theorem dX6_wet_21 : decode cX6_wet 21 = .ok (.getfield 23, 3) := by decide +kernel
theorem dX6_wet_24 : decode cX6_wet 24 = .ok (.aload_n 0, 1) := by decide +kernel
theorem dX6_wet_25 : decode cX6_wet 25 = .ok (.getfield 10, 3) := by decide +kernel
theorem dX6_wet_28 : decode cX6_wet 28 = .ok (.invokevirtual 149, 3) := by decide +kernel
theorem dX6_wet_31 : decode cX6_wet 31 = .ok (.aload_n 0, 1) := by decide +kernel
theorem dX6_wet_32 : decode cX6_wet 32 = .ok (.getfield 23, 3) := by decide +kernel
theorem dX6_wet_35 : decode cX6_wet 35 = .ok (.iload_n 2, 1) := by decide +kernel
theorem dX6_wet_36 : decode cX6_wet 36 = .ok (.invokevirtual 175, 3) := by decide +kernel
theorem dX6_wet_39 : decode cX6_wet 39 = .ok (.aload_n 0, 1) := by decide +kernel
theorem dX6_wet_40 : decode cX6_wet 40 = .ok (.getfield 23, 3) := by decide +kernel
theorem dX6_wet_43 : decode cX6_wet 43 = .ok (.iload_n 1, 1) := by decide +kernel
theorem dX6_wet_44 : decode cX6_wet 44 = .ok (.invokevirtual 195, 3) := by decide +kernel
theorem dX6_wet_47 : decode cX6_wet 47 = .ok (.invokestatic 211, 3) := by decide +kernel
theorem dX6_wet_50 : decode cX6_wet 50 = .ok (.aload_n 0, 1) := by decide +kernel
theorem dX6_wet_51 : decode cX6_wet 51 = .ok (.getfield 10, 3) := by decide +kernel
theorem dX6_wet_54 : decode cX6_wet 54 = .ok (.getfield 86, 3) := by decide +kernel
theorem dX6_wet_57 : decode cX6_wet 57 = .ok (.if_icmp .ne 5, 3) := by decide +kernel
theorem dX6_wet_60 : decode cX6_wet 60 = .ok (.iload_n 2, 1) := by decide +kernel
theorem dX6_wet_61 : decode cX6_wet 61 = .ok (.ireturn, 1) := by decide +kernel
theorem dX6_wet_62 : decode cX6_wet 62 = .ok (.iinc 2 1, 3) := by decide +kernel
theorem dX6_wet_65 : decode cX6_wet 65 = .ok (.goto (-51), 3) := by decide +kernel
theorem dX6_wet_68 : decode cX6_wet 68 = .ok (.bipush (-4), 2) := by decide +kernel
theorem dX6_wet_70 : decode cX6_wet 70 = .ok (.ireturn, 1) := by decide +kernel
theorem dX6_matters_0 : decode cX6_matters 0 = .ok (.iload_n 1, 1) := by decide +kernel
theorem dX6_matters_1 : decode cX6_matters 1 = .ok (.iconst 1, 1) := by decide +kernel
theorem dX6_matters_2 : decode cX6_matters 2 = .ok (.bipush 30, 2) := by decide +kernel
theorem dX6_matters_4 : decode cX6_matters 4 = .ok (.invokestatic 64, 3) := by decide +kernel
theorem dX6_matters_7 : decode cX6_matters 7 = .ok (.ifCond .eq 12, 3) := by decide +kernel
theorem dX6_matters_10 : decode cX6_matters 10 = .ok (.iload_n 2, 1) := by decide +kernel
theorem dX6_matters_11 : decode cX6_matters 11 = .ok (.iconst 0, 1) := by decide +kernel
theorem dX6_matters_12 : decode cX6_matters 12 = .ok (.iconst 1, 1) := by decide +kernel
theorem dX6_matters_13 : decode cX6_matters 13 = .ok (.invokestatic 64, 3) := by decide +kernel
theorem dX6_matters_16 : decode cX6_matters 16 = .ok (.ifCond .ne 5, 3) := by decide +kernel
theorem dX6_matters_19 : decode cX6_matters 19 = .ok (.iconst (-1), 1) := by decide +kernel
theorem dX6_matters_20 : decode cX6_matters 20 = .ok (.ireturn, 1) := by decide +kernel
theorem dX6_matters_21 : decode cX6_matters 21 = .ok (.bipush (-4), 2) := by decide +kernel
theorem dX6_matters_23 : decode cX6_matters 23 = .ok (.istore_n 3, 1) := by decide +kernel
theorem dX6_matters_24 : decode cX6_matters 24 = .ok (.bipush (-4), 2) := by decide +kernel
theorem dX6_matters_26 : decode cX6_matters 26 = .ok (.istore 4, 2) := by decide +kernel
theorem dX6_matters_28 : decode cX6_matters 28 = .ok (.iconst 0, 1) := by decide +kernel
theorem dX6_matters_29 : decode cX6_matters 29 = .ok (.istore 5, 2) := by decide +kernel
theorem dX6_matters_31 : decode cX6_matters 31 = .ok (.iload 5, 2) := by decide +kernel
theorem dX6_matters_33 : decode cX6_matters 33 = .ok (.aload_n 0, 1) := by decide +kernel
theorem dX6_matters_34 : decode cX6_matters 34 = .ok (.getfield 10, 3) := by decide +kernel
theorem dX6_matters_37 : decode cX6_matters 37 = .ok (.getfield 72, 3) := by decide +kernel
theorem dX6_matters_40 : decode cX6_matters 40 = .ok (.if_icmp .ge 62, 3) := by decide +kernel
theorem dX6_matters_43 : decode cX6_matters 43 = .ok (.aload_n 0, 1) := by decide +kernel
theorem dX6_matters_44 : decode cX6_matters 44 = .ok (.getfield 23, 3) := by decide +kernel
theorem dX6_matters_47 : decode cX6_matters 47 = .ok (.aload_n 0, 1) := by decide +kernel
theorem dX6_matters_48 : decode cX6_matters 48 = .ok (.getfield 10, 3) := by decide +kernel
theorem dX6_matters_51 : decode cX6_matters 51 = .ok (.invokevirtual 149, 3) := by decide +kernel
theorem dX6_matters_54 : decode cX6_matters 54 = .ok (.aload_n 0, 1) := by decide +kernel
theorem dX6_matters_55 : decode cX6_matters 55 = .ok (.getfield 23, 3) := by decide +kernel
theorem dX6_matters_58 : decode cX6_matters 58 = .ok (.getfield 102, 3) := by decide +kernel
theorem dX6_matters_61 : decode cX6_matters 61 = .ok (.iload 5, 2) := by decide +kernel
theorem dX6_matters_63 : decode cX6_matters 63 = .ok (.iconst 0, 1) := by decide +kernel
theorem dX6_matters_64 : decode cX6_matters 64 = .ok (.iastore, 1) := by decide +kernel
theorem dX6_matters_65 : decode cX6_matters 65 = .ok (.aload_n 0, 1) := by decide +kernel
theorem dX6_matters_66 : decode cX6_matters 66 = .ok (.getfield 23, 3) := by decide +kernel
theorem dX6_matters_69 : decode cX6_matters 69 = .ok (.iload_n 1, 1) := by decide +kernel
theorem dX6_matters_70 : decode cX6_matters 70 = .ok (.invokevirtual 195, 3) := by decide +kernel
theorem dX6_matters_73 : decode cX6_matters 73 = .ok (.invokestatic 211, 3) := by decide +kernel
theorem dX6_matters_76 : decode cX6_matters 76 = .ok (.istore 6, 2) := by decide +kernel
theorem dX6_matters_78 : decode cX6_matters 78 = .ok (.iload_n 3, 1) := by decide +kernel
theorem dX6_matters_79 : decode cX6_matters 79 = .ok (.ifCond .lt 10, 3) := by decide +kernel
theorem dX6_matters_82 : decode cX6_matters 82 = .ok (.iload 6, 2) := by decide +kernel
theorem dX6_matters_84 : decode cX6_matters 84 = .ok (.iload 4, 2) := by decide +kernel
theorem dX6_matters_86 : decode cX6_matters 86 = .ok (.if_icmp .ge 10, 3) := by decide +kernel
theorem dX6_matters_89 : decode cX6_matters 89 = .ok (.iload 5, 2) := by decide +kernel
theorem dX6_matters_91 : decode cX6_matters 91 = .ok (.istore_n 3, 1) := by decide +kernel
theorem dX6_matters_92 : decode cX6_matters 92 = .ok (.iload 6, 2) := by decide +kernel
theorem dX6_matters_94 : decode cX6_matters 94 = .ok (.istore 4, 2) := by decide +kernel
theorem dX6_matters_96 : decode cX6_matters 96 = .ok (.iinc 5 1, 3) := by decide +kernel
theorem dX6_matters_99 : decode cX6_matters 99 = .ok (.goto (-68), 3) := by decide +kernel
theorem dX6_matters_102 : decode cX6_matters 102 = .ok (.iload_n 2, 1) := by decide +kernel
theorem dX6_matters_103 : decode cX6_matters 103 = .ok (.ifCond .ne 7, 3) := by decide +kernel
theorem dX6_matters_106 : decode cX6_matters 106 = .ok (.iload_n 3, 1) := by decide +kernel
theorem dX6_matters_107 : decode cX6_matters 107 = .ok (.goto 5, 3) := by decide +kernel
theorem dX6_matters_110 : decode cX6_matters 110 = .ok (.iload 4, 2) := by decide +kernel
theorem dX6_matters_112 : decode cX6_matters 112 = .ok (.ireturn, 1) := by decide +kernel
theorem dX6_sight_0 : decode cX6_sight 0 = .ok (.aload_n 0, 1) := by decide +kernel
theorem dX6_sight_1 : decode cX6_sight 1 = .ok (.getfield 10, 3) := by decide +kernel
theorem dX6_sight_4 : decode cX6_sight 4 = .ok (.iload_n 1, 1) := by decide +kernel
theorem dX6_sight_5 : decode cX6_sight 5 = .ok (.invokevirtual 92, 3) := by decide +kernel
theorem dX6_sight_8 : decode cX6_sight 8 = .ok (.ifCond .eq 22, 3) := by decide +kernel
theorem dX6_sight_11 : decode cX6_sight 11 = .ok (.iload_n 2, 1) := by decide +kernel
theorem dX6_sight_12 : decode cX6_sight 12 = .ok (.iconst 1, 1) := by decide +kernel
theorem dX6_sight_13 : decode cX6_sight 13 = .ok (.bipush 30, 2) := by decide +kernel
theorem dX6_sight_15 : decode cX6_sight 15 = .ok (.invokestatic 64, 3) := by decide +kernel
theorem dX6_sight_18 : decode cX6_sight 18 = .ok (.ifCond .eq 12, 3) := by decide +kernel
theorem dX6_sight_21 : decode cX6_sight 21 = .ok (.iload_n 3, 1) := by decide +kernel
theorem dX6_sight_22 : decode cX6_sight 22 = .ok (.iconst 0, 1) := by decide +kernel
theorem dX6_sight_23 : decode cX6_sight 23 = .ok (.iconst 1, 1) := by decide +kernel
theorem dX6_sight_24 : decode cX6_sight 24 = .ok (.invokestatic 64, 3) := by decide +kernel
theorem dX6_sight_27 : decode cX6_sight 27 = .ok (.ifCond .ne 5, 3) := by decide +kernel
theorem dX6_sight_30 : decode cX6_sight 30 = .ok (.iconst (-1), 1) := by decide +kernel
theorem dX6_sight_31 : decode cX6_sight 31 = .ok (.ireturn, 1) := by decide +kernel
theorem dX6_sight_32 : decode cX6_sight 32 = .ok (.iconst 0, 1) := by decide +kernel
theorem dX6_sight_33 : decode cX6_sight 33 = .ok (.istore 4, 2) := by decide +kernel
theorem dX6_sight_35 : decode cX6_sight 35 = .ok (.iconst (-1), 1) := by decide +kernel
theorem dX6_sight_36 : decode cX6_sight 36 = .ok (.istore 5, 2) := by decide +kernel
theorem dX6_sight_38 : decode cX6_sight 38 = .ok (.iconst 0, 1) := by decide +kernel
theorem dX6_sight_39 : decode cX6_sight 39 = .ok (.istore 6, 2) := by decide +kernel
theorem dX6_sight_41 : decode cX6_sight 41 = .ok (.iload 6, 2) := by decide +kernel
theorem dX6_sight_43 : decode cX6_sight 43 = .ok (.bipush 8, 2) := by decide +kernel
theorem dX6_sight_45 : decode cX6_sight 45 = .ok (.if_icmp .ge 59, 3) := by decide +kernel
theorem dX6_sight_48 : decode cX6_sight 48 = .ok (.aload_n 0, 1) := by decide +kernel
theorem dX6_sight_49 : decode cX6_sight 49 = .ok (.getfield 23, 3) := by decide +kernel
theorem dX6_sight_52 : decode cX6_sight 52 = .ok (.aload_n 0, 1) := by decide +kernel
theorem dX6_sight_53 : decode cX6_sight 53 = .ok (.getfield 10, 3) := by decide +kernel
theorem dX6_sight_56 : decode cX6_sight 56 = .ok (.invokevirtual 149, 3) := by decide +kernel
theorem dX6_sight_59 : decode cX6_sight 59 = .ok (.aload_n 0, 1) := by decide +kernel
theorem dX6_sight_60 : decode cX6_sight 60 = .ok (.getfield 23, 3) := by decide +kernel
theorem dX6_sight_63 : decode cX6_sight 63 = .ok (.getfield 95, 3) := by decide +kernel
theorem dX6_sight_66 : decode cX6_sight 66 = .ok (.iload_n 1, 1) := by decide +kernel
theorem dX6_sight_67 : decode cX6_sight 67 = .ok (.iload 6, 2) := by decide +kernel
theorem dX6_sight_69 : decode cX6_sight 69 = .ok (.iastore, 1) := by decide +kernel
theorem dX6_sight_70 : decode cX6_sight 70 = .ok (.aload_n 0, 1) := by decide +kernel
theorem dX6_sight_71 : decode cX6_sight 71 = .ok (.getfield 23, 3) := by decide +kernel
theorem dX6_sight_74 : decode cX6_sight 74 = .ok (.iload_n 2, 1) := by decide +kernel
theorem dX6_sight_75 : decode cX6_sight 75 = .ok (.invokevirtual 195, 3) := by decide +kernel
theorem dX6_sight_78 : decode cX6_sight 78 = .ok (.invokestatic 211, 3) := by decide +kernel
theorem dX6_sight_81 : decode cX6_sight 81 = .ok (.istore 7, 2) := by decide +kernel
theorem dX6_sight_83 : decode cX6_sight 83 = .ok (.iload 7, 2) := by decide +kernel
theorem dX6_sight_85 : decode cX6_sight 85 = .ok (.iload 5, 2) := by decide +kernel
theorem dX6_sight_87 : decode cX6_sight 87 = .ok (.if_icmp .le 11, 3) := by decide +kernel
theorem dX6_sight_90 : decode cX6_sight 90 = .ok (.iload 6, 2) := by decide +kernel
theorem dX6_sight_92 : decode cX6_sight 92 = .ok (.istore 4, 2) := by decide +kernel
theorem dX6_sight_94 : decode cX6_sight 94 = .ok (.iload 7, 2) := by decide +kernel
theorem dX6_sight_96 : decode cX6_sight 96 = .ok (.istore 5, 2) := by decide +kernel
theorem dX6_sight_98 : decode cX6_sight 98 = .ok (.iinc 6 1, 3) := by decide +kernel
theorem dX6_sight_101 : decode cX6_sight 101 = .ok (.goto (-60), 3) := by decide +kernel
theorem dX6_sight_104 : decode cX6_sight 104 = .ok (.iload_n 3, 1) := by decide +kernel
theorem dX6_sight_105 : decode cX6_sight 105 = .ok (.ifCond .ne 8, 3) := by decide +kernel
theorem dX6_sight_108 : decode cX6_sight 108 = .ok (.iload 4, 2) := by decide +kernel
theorem dX6_sight_110 : decode cX6_sight 110 = .ok (.goto 5, 3) := by decide +kernel
theorem dX6_sight_113 : decode cX6_sight 113 = .ok (.iload 5, 2) := by decide +kernel
theorem dX6_sight_115 : decode cX6_sight 115 = .ok (.ireturn, 1) := by decide +kernel
theorem dX6_carts_0 : decode cX6_carts 0 = .ok (.aload_n 0, 1) := by decide +kernel
theorem dX6_carts_1 : decode cX6_carts 1 = .ok (.getfield 10, 3) := by decide +kernel
theorem dX6_carts_4 : decode cX6_carts 4 = .ok (.iload_n 1, 1) := by decide +kernel
theorem dX6_carts_5 : decode cX6_carts 5 = .ok (.invokevirtual 117, 3) := by decide +kernel
theorem dX6_carts_8 : decode cX6_carts 8 = .ok (.ifCond .eq 22, 3) := by decide +kernel
theorem dX6_carts_11 : decode cX6_carts 11 = .ok (.iload_n 2, 1) := by decide +kernel
theorem dX6_carts_12 : decode cX6_carts 12 = .ok (.iconst 0, 1) := by decide +kernel
theorem dX6_carts_13 : decode cX6_carts 13 = .ok (.bipush 10, 2) := by decide +kernel
theorem dX6_carts_15 : decode cX6_carts 15 = .ok (.invokestatic 64, 3) := by decide +kernel
theorem dX6_carts_18 : decode cX6_carts 18 = .ok (.ifCond .eq 12, 3) := by decide +kernel
theorem dX6_carts_21 : decode cX6_carts 21 = .ok (.iload_n 3, 1) := by decide +kernel
theorem dX6_carts_22 : decode cX6_carts 22 = .ok (.iconst 0, 1) := by decide +kernel
theorem dX6_carts_23 : decode cX6_carts 23 = .ok (.iconst 1, 1) := by decide +kernel
theorem dX6_carts_24 : decode cX6_carts 24 = .ok (.invokestatic 64, 3) := by decide +kernel
theorem dX6_carts_27 : decode cX6_carts 27 = .ok (.ifCond .ne 5, 3) := by decide +kernel
theorem dX6_carts_30 : decode cX6_carts 30 = .ok (.iconst (-1), 1) := by decide +kernel
theorem dX6_carts_31 : decode cX6_carts 31 = .ok (.ireturn, 1) := by decide +kernel
theorem dX6_carts_32 : decode cX6_carts 32 = .ok (.iconst 0, 1) := by decide +kernel
theorem dX6_carts_33 : decode cX6_carts 33 = .ok (.istore 4, 2) := by decide +kernel
theorem dX6_carts_35 : decode cX6_carts 35 = .ok (.iconst 0, 1) := by decide +kernel
theorem dX6_carts_36 : decode cX6_carts 36 = .ok (.istore 5, 2) := by decide +kernel
theorem dX6_carts_38 : decode cX6_carts 38 = .ok (.iload 5, 2) := by decide +kernel
theorem dX6_carts_40 : decode cX6_carts 40 = .ok (.iconst 1, 1) := by decide +kernel
theorem dX6_carts_41 : decode cX6_carts 41 = .ok (.aload_n 0, 1) := by decide +kernel
theorem dX6_carts_42 : decode cX6_carts 42 = .ok (.getfield 10, 3) := by decide +kernel
theorem dX6_carts_45 : decode cX6_carts 45 = .ok (.getfield 72, 3) := by decide +kernel
theorem dX6_carts_48 : decode cX6_carts 48 = .ok (.ishl, 1) := by decide +kernel
theorem dX6_carts_49 : decode cX6_carts 49 = .ok (.if_icmp .ge 40, 3) := by decide +kernel
theorem dX6_carts_52 : decode cX6_carts 52 = .ok (.aload_n 0, 1) := by decide +kernel
theorem dX6_carts_53 : decode cX6_carts 53 = .ok (.iload 5, 2) := by decide +kernel
theorem dX6_carts_55 : decode cX6_carts 55 = .ok (.iload_n 2, 1) := by decide +kernel
theorem dX6_carts_56 : decode cX6_carts 56 = .ok (.invokevirtual 216, 3) := by decide +kernel
theorem dX6_carts_59 : decode cX6_carts 59 = .ok (.istore 6, 2) := by decide +kernel
theorem dX6_carts_61 : decode cX6_carts 61 = .ok (.iload 6, 2) := by decide +kernel
theorem dX6_carts_63 : decode cX6_carts 63 = .ok (.ifCond .le 20, 3) := by decide +kernel
theorem dX6_carts_66 : decode cX6_carts 66 = .ok (.aload_n 0, 1) := by decide +kernel
theorem dX6_carts_67 : decode cX6_carts 67 = .ok (.iload_n 1, 1) := by decide +kernel
theorem dX6_carts_68 : decode cX6_carts 68 = .ok (.iload 5, 2) := by decide +kernel
theorem dX6_carts_70 : decode cX6_carts 70 = .ok (.invokevirtual 219, 3) := by decide +kernel
theorem dX6_carts_73 : decode cX6_carts 73 = .ok (.ifCond .eq 10, 3) := by decide +kernel
theorem dX6_carts_76 : decode cX6_carts 76 = .ok (.iload 4, 2) := by decide +kernel
theorem dX6_carts_78 : decode cX6_carts 78 = .ok (.iload 6, 2) := by decide +kernel
theorem dX6_carts_80 : decode cX6_carts 80 = .ok (.iadd, 1) := by decide +kernel
theorem dX6_carts_81 : decode cX6_carts 81 = .ok (.istore 4, 2) := by decide +kernel
theorem dX6_carts_83 : decode cX6_carts 83 = .ok (.iinc 5 1, 3) := by decide +kernel
theorem dX6_carts_86 : decode cX6_carts 86 = .ok (.goto (-48), 3) := by decide +kernel
theorem dX6_carts_89 : decode cX6_carts 89 = .ok (.aload_n 0, 1) := by decide +kernel
theorem dX6_carts_90 : decode cX6_carts 90 = .ok (.invokevirtual 223, 3) := by decide +kernel
theorem dX6_carts_93 : decode cX6_carts 93 = .ok (.istore 5, 2) := by decide +kernel
theorem dX6_carts_95 : decode cX6_carts 95 = .ok (.iload 4, 2) := by decide +kernel
theorem dX6_carts_97 : decode cX6_carts 97 = .ok (.iload 5, 2) := by decide +kernel
theorem dX6_carts_99 : decode cX6_carts 99 = .ok (.invokestatic 226, 3) := by decide +kernel
theorem dX6_carts_102 : decode cX6_carts 102 = .ok (.istore 6, 2) := by decide +kernel
theorem dX6_carts_104 : decode cX6_carts 104 = .ok (.iload 6, 2) := by decide +kernel
theorem dX6_carts_106 : decode cX6_carts 106 = .ok (.iconst 1, 1) := by decide +kernel
theorem dX6_carts_107 : decode cX6_carts 107 = .ok (.if_icmp .ge 7, 3) := by decide +kernel
theorem dX6_carts_110 : decode cX6_carts 110 = .ok (.iconst (-1), 1) := by decide +kernel
theorem dX6_carts_111 : decode cX6_carts 111 = .ok (.goto 17, 3) := by decide +kernel
theorem dX6_carts_114 : decode cX6_carts 114 = .ok (.iload_n 3, 1) := by decide +kernel
theorem dX6_carts_115 : decode cX6_carts 115 = .ok (.ifCond .ne 8, 3) := by decide +kernel
theorem dX6_carts_118 : decode cX6_carts 118 = .ok (.iload 4, 2) := by decide +kernel
theorem dX6_carts_120 : decode cX6_carts 120 = .ok (.goto 5, 3) := by decide +kernel
theorem dX6_carts_123 : decode cX6_carts 123 = .ok (.iload 5, 2) := by decide +kernel
theorem dX6_carts_125 : decode cX6_carts 125 = .ok (.iload 6, 2) := by decide +kernel
theorem dX6_carts_127 : decode cX6_carts 127 = .ok (.idiv, 1) := by decide +kernel
theorem dX6_carts_128 : decode cX6_carts 128 = .ok (.ireturn, 1) := by decide +kernel
theorem dX6_image_0 : decode cX6_image 0 = .ok (.aload_n 0, 1) := by decide +kernel
theorem dX6_image_1 : decode cX6_image 1 = .ok (.getfield 26, 3) := by decide +kernel
theorem dX6_image_4 : decode cX6_image 4 = .ok (.aload_n 0, 1) := by decide +kernel
theorem dX6_image_5 : decode cX6_image 5 = .ok (.getfield 10, 3) := by decide +kernel
theorem dX6_image_8 : decode cX6_image 8 = .ok (.invokevirtual 149, 3) := by decide +kernel
theorem dX6_image_11 : decode cX6_image 11 = .ok (.aload_n 0, 1) := by decide +kernel
theorem dX6_image_12 : decode cX6_image 12 = .ok (.getfield 29, 3) := by decide +kernel
theorem dX6_image_15 : decode cX6_image 15 = .ok (.aload_n 0, 1) := by decide +kernel
theorem dX6_image_16 : decode cX6_image 16 = .ok (.getfield 19, 3) := by decide +kernel
theorem dX6_image_19 : decode cX6_image 19 = .ok (.invokevirtual 229, 3) := by decide +kernel
theorem dX6_image_22 : decode cX6_image 22 = .ok (.aload_n 0, 1) := by decide +kernel
theorem dX6_image_23 : decode cX6_image 23 = .ok (.iconst 1, 1) := by decide +kernel
theorem dX6_image_24 : decode cX6_image 24 = .ok (.putfield 32, 3) := by decide +kernel
theorem dX6_image_27 : decode cX6_image 27 = .ok (.iconst 1, 1) := by decide +kernel
theorem dX6_image_28 : decode cX6_image 28 = .ok (.ireturn, 1) := by decide +kernel
theorem dX6_restore_0 : decode cX6_restore 0 = .ok (.aload_n 0, 1) := by decide +kernel
theorem dX6_restore_1 : decode cX6_restore 1 = .ok (.getfield 32, 3) := by decide +kernel
theorem dX6_restore_4 : decode cX6_restore 4 = .ok (.ifCond .ne 6, 3) := by decide +kernel
theorem dX6_restore_7 : decode cX6_restore 7 = .ok (.bipush (-4), 2) := by decide +kernel
theorem dX6_restore_9 : decode cX6_restore 9 = .ok (.ireturn, 1) := by decide +kernel
theorem dX6_restore_10 : decode cX6_restore 10 = .ok (.aload_n 0, 1) := by decide +kernel
theorem dX6_restore_11 : decode cX6_restore 11 = .ok (.getfield 10, 3) := by decide +kernel
theorem dX6_restore_14 : decode cX6_restore 14 = .ok (.aload_n 0, 1) := by decide +kernel
theorem dX6_restore_15 : decode cX6_restore 15 = .ok (.getfield 26, 3) := by decide +kernel
theorem dX6_restore_18 : decode cX6_restore 18 = .ok (.invokevirtual 149, 3) := by decide +kernel
theorem dX6_restore_21 : decode cX6_restore 21 = .ok (.aload_n 0, 1) := by decide +kernel
theorem dX6_restore_22 : decode cX6_restore 22 = .ok (.getfield 19, 3) := by decide +kernel
theorem dX6_restore_25 : decode cX6_restore 25 = .ok (.aload_n 0, 1) := by decide +kernel
theorem dX6_restore_26 : decode cX6_restore 26 = .ok (.getfield 29, 3) := by decide +kernel
theorem dX6_restore_29 : decode cX6_restore 29 = .ok (.invokevirtual 229, 3) := by decide +kernel
theorem dX6_restore_32 : decode cX6_restore 32 = .ok (.iconst 1, 1) := by decide +kernel
theorem dX6_restore_33 : decode cX6_restore 33 = .ok (.ireturn, 1) := by decide +kernel
theorem dX6_dipped_0 : decode cX6_dipped 0 = .ok (.aload_n 0, 1) := by decide +kernel
theorem dX6_dipped_1 : decode cX6_dipped 1 = .ok (.getfield 10, 3) := by decide +kernel
theorem dX6_dipped_4 : decode cX6_dipped 4 = .ok (.iload_n 1, 1) := by decide +kernel
theorem dX6_dipped_5 : decode cX6_dipped 5 = .ok (.invokevirtual 92, 3) := by decide +kernel
theorem dX6_dipped_8 : decode cX6_dipped 8 = .ok (.ifCond .eq 17, 3) := by decide +kernel
theorem dX6_dipped_11 : decode cX6_dipped 11 = .ok (.iload_n 2, 1) := by decide +kernel
theorem dX6_dipped_12 : decode cX6_dipped 12 = .ok (.invokestatic 232, 3) := by decide +kernel
theorem dX6_dipped_15 : decode cX6_dipped 15 = .ok (.ifCond .eq 10, 3) := by decide +kernel
theorem dX6_dipped_18 : decode cX6_dipped 18 = .ok (.iload_n 3, 1) := by decide +kernel
theorem dX6_dipped_19 : decode cX6_dipped 19 = .ok (.invokestatic 235, 3) := by decide +kernel
theorem dX6_dipped_22 : decode cX6_dipped 22 = .ok (.ifCond .ne 5, 3) := by decide +kernel
theorem dX6_dipped_25 : decode cX6_dipped 25 = .ok (.iconst (-1), 1) := by decide +kernel
theorem dX6_dipped_26 : decode cX6_dipped 26 = .ok (.ireturn, 1) := by decide +kernel
theorem dX6_dipped_27 : decode cX6_dipped 27 = .ok (.iload 5, 2) := by decide +kernel
theorem dX6_dipped_29 : decode cX6_dipped 29 = .ok (.iconst 1, 1) := by decide +kernel
theorem dX6_dipped_30 : decode cX6_dipped 30 = .ok (.bipush 8, 2) := by decide +kernel
theorem dX6_dipped_32 : decode cX6_dipped 32 = .ok (.invokestatic 64, 3) := by decide +kernel
theorem dX6_dipped_35 : decode cX6_dipped 35 = .ok (.ifCond .eq 13, 3) := by decide +kernel
theorem dX6_dipped_38 : decode cX6_dipped 38 = .ok (.iload 6, 2) := by decide +kernel
theorem dX6_dipped_40 : decode cX6_dipped 40 = .ok (.iconst 0, 1) := by decide +kernel
theorem dX6_dipped_41 : decode cX6_dipped 41 = .ok (.iconst 2, 1) := by decide +kernel
theorem dX6_dipped_42 : decode cX6_dipped 42 = .ok (.invokestatic 64, 3) := by decide +kernel
theorem dX6_dipped_45 : decode cX6_dipped 45 = .ok (.ifCond .ne 5, 3) := by decide +kernel
theorem dX6_dipped_48 : decode cX6_dipped 48 = .ok (.iconst (-1), 1) := by decide +kernel
theorem dX6_dipped_49 : decode cX6_dipped 49 = .ok (.ireturn, 1) := by decide +kernel
theorem dX6_dipped_50 : decode cX6_dipped 50 = .ok (.aload_n 0, 1) := by decide +kernel
theorem dX6_dipped_51 : decode cX6_dipped 51 = .ok (.getfield 46, 3) := by decide +kernel
theorem dX6_dipped_54 : decode cX6_dipped 54 = .ok (.iload_n 2, 1) := by decide +kernel
theorem dX6_dipped_55 : decode cX6_dipped 55 = .ok (.iload_n 3, 1) := by decide +kernel
theorem dX6_dipped_56 : decode cX6_dipped 56 = .ok (.iload 4, 2) := by decide +kernel
theorem dX6_dipped_58 : decode cX6_dipped 58 = .ok (.iload 5, 2) := by decide +kernel
theorem dX6_dipped_60 : decode cX6_dipped 60 = .ok (.invokevirtual 238, 3) := by decide +kernel
theorem dX6_dipped_63 : decode cX6_dipped 63 = .ok (.istore 7, 2) := by decide +kernel
theorem dX6_dipped_65 : decode cX6_dipped 65 = .ok (.iload 7, 2) := by decide +kernel
theorem dX6_dipped_67 : decode cX6_dipped 67 = .ok (.ifCond .eq 6, 3) := by decide +kernel
theorem dX6_dipped_70 : decode cX6_dipped 70 = .ok (.iload 7, 2) := by decide +kernel
theorem dX6_dipped_72 : decode cX6_dipped 72 = .ok (.ireturn, 1) := by decide +kernel
theorem dX6_dipped_73 : decode cX6_dipped 73 = .ok (.iload 6, 2) := by decide +kernel
theorem dX6_dipped_75 : decode cX6_dipped 75 = .ok (.ifCond .ne 16, 3) := by decide +kernel
theorem dX6_dipped_78 : decode cX6_dipped 78 = .ok (.aload_n 0, 1) := by decide +kernel
theorem dX6_dipped_79 : decode cX6_dipped 79 = .ok (.iload_n 1, 1) := by decide +kernel
theorem dX6_dipped_80 : decode cX6_dipped 80 = .ok (.iload_n 2, 1) := by decide +kernel
theorem dX6_dipped_81 : decode cX6_dipped 81 = .ok (.iload 4, 2) := by decide +kernel
theorem dX6_dipped_83 : decode cX6_dipped 83 = .ok (.iload 5, 2) := by decide +kernel
theorem dX6_dipped_85 : decode cX6_dipped 85 = .ok (.invokevirtual 242, 3) := by decide +kernel
theorem dX6_dipped_88 : decode cX6_dipped 88 = .ok (.goto 24, 3) := by decide +kernel
theorem dX6_dipped_91 : decode cX6_dipped 91 = .ok (.aload_n 0, 1) := by decide +kernel
theorem dX6_dipped_92 : decode cX6_dipped 92 = .ok (.iload_n 1, 1) := by decide +kernel
theorem dX6_dipped_93 : decode cX6_dipped 93 = .ok (.iload_n 2, 1) := by decide +kernel
theorem dX6_dipped_94 : decode cX6_dipped 94 = .ok (.iload 4, 2) := by decide +kernel
theorem dX6_dipped_96 : decode cX6_dipped 96 = .ok (.iload 5, 2) := by decide +kernel
theorem dX6_dipped_98 : decode cX6_dipped 98 = .ok (.iload 6, 2) := by decide +kernel
theorem dX6_dipped_100 : decode cX6_dipped 100 = .ok (.iconst 2, 1) := by decide +kernel
theorem dX6_dipped_101 : decode cX6_dipped 101 = .ok (.if_icmp .ne 7, 3) := by decide +kernel
theorem dX6_dipped_104 : decode cX6_dipped 104 = .ok (.iconst 1, 1) := by decide +kernel
theorem dX6_dipped_105 : decode cX6_dipped 105 = .ok (.goto 4, 3) := by decide +kernel
theorem dX6_dipped_108 : decode cX6_dipped 108 = .ok (.iconst 0, 1) := by decide +kernel
theorem dX6_dipped_109 : decode cX6_dipped 109 = .ok (.invokevirtual 245, 3) := by decide +kernel
theorem dX6_dipped_112 : decode cX6_dipped 112 = .ok (.ireturn, 1) := by decide +kernel
theorem dX6_film_0 : decode cX6_film 0 = .ok (.aload_n 0, 1) := by decide +kernel
theorem dX6_film_1 : decode cX6_film 1 = .ok (.getfield 10, 3) := by decide +kernel
theorem dX6_film_4 : decode cX6_film 4 = .ok (.iload_n 1, 1) := by decide +kernel
theorem dX6_film_5 : decode cX6_film 5 = .ok (.invokevirtual 92, 3) := by decide +kernel
theorem dX6_film_8 : decode cX6_film 8 = .ok (.ifCond .eq 13, 3) := by decide +kernel
theorem dX6_film_11 : decode cX6_film 11 = .ok (.iload_n 2, 1) := by decide +kernel
theorem dX6_film_12 : decode cX6_film 12 = .ok (.iconst 1, 1) := by decide +kernel
theorem dX6_film_13 : decode cX6_film 13 = .ok (.bipush 24, 2) := by decide +kernel
theorem dX6_film_15 : decode cX6_film 15 = .ok (.invokestatic 64, 3) := by decide +kernel
theorem dX6_film_18 : decode cX6_film 18 = .ok (.ifCond .ne 5, 3) := by decide +kernel
theorem dX6_film_21 : decode cX6_film 21 = .ok (.iconst (-1), 1) := by decide +kernel
theorem dX6_film_22 : decode cX6_film 22 = .ok (.ireturn, 1) := by decide +kernel
theorem dX6_film_23 : decode cX6_film 23 = .ok (.iload_n 3, 1) := by decide +kernel
theorem dX6_film_24 : decode cX6_film 24 = .ok (.invokestatic 232, 3) := by decide +kernel
theorem dX6_film_27 : decode cX6_film 27 = .ok (.ifCond .eq 11, 3) := by decide +kernel
theorem dX6_film_30 : decode cX6_film 30 = .ok (.iload 4, 2) := by decide +kernel
theorem dX6_film_32 : decode cX6_film 32 = .ok (.invokestatic 235, 3) := by decide +kernel
theorem dX6_film_35 : decode cX6_film 35 = .ok (.ifCond .ne 5, 3) := by decide +kernel
theorem dX6_film_38 : decode cX6_film 38 = .ok (.iconst (-1), 1) := by decide +kernel
theorem dX6_film_39 : decode cX6_film 39 = .ok (.ireturn, 1) := by decide +kernel
theorem dX6_film_40 : decode cX6_film 40 = .ok (.aload_n 0, 1) := by decide +kernel
theorem dX6_film_41 : decode cX6_film 41 = .ok (.getfield 46, 3) := by decide +kernel
theorem dX6_film_44 : decode cX6_film 44 = .ok (.iload_n 3, 1) := by decide +kernel
theorem dX6_film_45 : decode cX6_film 45 = .ok (.iload 4, 2) := by decide +kernel
theorem dX6_film_47 : decode cX6_film 47 = .ok (.iload 5, 2) := by decide +kernel
theorem dX6_film_49 : decode cX6_film 49 = .ok (.iload_n 2, 1) := by decide +kernel
theorem dX6_film_50 : decode cX6_film 50 = .ok (.invokevirtual 238, 3) := by decide +kernel
theorem dX6_film_53 : decode cX6_film 53 = .ok (.istore 6, 2) := by decide +kernel
theorem dX6_film_55 : decode cX6_film 55 = .ok (.iload 6, 2) := by decide +kernel
theorem dX6_film_57 : decode cX6_film 57 = .ok (.ifCond .eq 6, 3) := by decide +kernel
theorem dX6_film_60 : decode cX6_film 60 = .ok (.iload 6, 2) := by decide +kernel
theorem dX6_film_62 : decode cX6_film 62 = .ok (.ireturn, 1) := by decide +kernel
theorem dX6_film_63 : decode cX6_film 63 = .ok (.aload_n 0, 1) := by decide +kernel
theorem dX6_film_64 : decode cX6_film 64 = .ok (.getfield 23, 3) := by decide +kernel
theorem dX6_film_67 : decode cX6_film 67 = .ok (.aload_n 0, 1) := by decide +kernel
theorem dX6_film_68 : decode cX6_film 68 = .ok (.getfield 10, 3) := by decide +kernel
theorem dX6_film_71 : decode cX6_film 71 = .ok (.invokevirtual 149, 3) := by decide +kernel
theorem dX6_film_74 : decode cX6_film 74 = .ok (.iconst 0, 1) := by decide +kernel
theorem dX6_film_75 : decode cX6_film 75 = .ok (.istore 7, 2) := by decide +kernel
theorem dX6_film_77 : decode cX6_film 77 = .ok (.iload 7, 2) := by decide +kernel
theorem dX6_film_79 : decode cX6_film 79 = .ok (.iload_n 2, 1) := by decide +kernel
theorem dX6_film_80 : decode cX6_film 80 = .ok (.if_icmp .ge 39, 3) := by decide +kernel
theorem dX6_film_83 : decode cX6_film 83 = .ok (.aload_n 0, 1) := by decide +kernel
theorem dX6_film_84 : decode cX6_film 84 = .ok (.getfield 23, 3) := by decide +kernel
theorem dX6_film_87 : decode cX6_film 87 = .ok (.invokevirtual 192, 3) := by decide +kernel
theorem dX6_film_90 : decode cX6_film 90 = .ok (.aload_n 0, 1) := by decide +kernel
theorem dX6_film_91 : decode cX6_film 91 = .ok (.getfield 46, 3) := by decide +kernel
theorem dX6_film_94 : decode cX6_film 94 = .ok (.iload_n 3, 1) := by decide +kernel
theorem dX6_film_95 : decode cX6_film 95 = .ok (.iload 5, 2) := by decide +kernel
theorem dX6_film_97 : decode cX6_film 97 = .ok (.iload 7, 2) := by decide +kernel
theorem dX6_film_99 : decode cX6_film 99 = .ok (.iadd, 1) := by decide +kernel
theorem dX6_film_100 : decode cX6_film 100 = .ok (.aload_n 0, 1) := by decide +kernel
theorem dX6_film_101 : decode cX6_film 101 = .ok (.getfield 23, 3) := by decide +kernel
theorem dX6_film_104 : decode cX6_film 104 = .ok (.getfield 102, 3) := by decide +kernel
theorem dX6_film_107 : decode cX6_film 107 = .ok (.iload_n 1, 1) := by decide +kernel
theorem dX6_film_108 : decode cX6_film 108 = .ok (.iaload, 1) := by decide +kernel
theorem dX6_film_109 : decode cX6_film 109 = .ok (.i2l, 1) := by decide +kernel
theorem dX6_film_110 : decode cX6_film 110 = .ok (.invokevirtual 249, 3) := by decide +kernel
theorem dX6_film_113 : decode cX6_film 113 = .ok (.iinc 7 1, 3) := by decide +kernel
theorem dX6_film_116 : decode cX6_film 116 = .ok (.goto (-39), 3) := by decide +kernel
theorem dX6_film_119 : decode cX6_film 119 = .ok (.iload_n 2, 1) := by decide +kernel
theorem dX6_film_120 : decode cX6_film 120 = .ok (.ireturn, 1) := by decide +kernel
theorem dX6_sheet_0 : decode cX6_sheet 0 = .ok (.iload_n 1, 1) := by decide +kernel
theorem dX6_sheet_1 : decode cX6_sheet 1 = .ok (.invokestatic 232, 3) := by decide +kernel
theorem dX6_sheet_4 : decode cX6_sheet 4 = .ok (.ifCond .eq 16, 3) := by decide +kernel
theorem dX6_sheet_7 : decode cX6_sheet 7 = .ok (.iload_n 2, 1) := by decide +kernel
theorem dX6_sheet_8 : decode cX6_sheet 8 = .ok (.invokestatic 235, 3) := by decide +kernel
theorem dX6_sheet_11 : decode cX6_sheet 11 = .ok (.ifCond .eq 9, 3) := by decide +kernel
theorem dX6_sheet_14 : decode cX6_sheet 14 = .ok (.iload_n 3, 1) := by decide +kernel
theorem dX6_sheet_15 : decode cX6_sheet 15 = .ok (.bipush 24, 2) := by decide +kernel
theorem dX6_sheet_17 : decode cX6_sheet 17 = .ok (.if_icmp .le 5, 3) := by decide +kernel
theorem dX6_sheet_20 : decode cX6_sheet 20 = .ok (.iconst (-1), 1) := by decide +kernel
theorem dX6_sheet_21 : decode cX6_sheet 21 = .ok (.ireturn, 1) := by decide +kernel
theorem dX6_sheet_22 : decode cX6_sheet 22 = .ok (.iload_n 3, 1) := by decide +kernel
theorem dX6_sheet_23 : decode cX6_sheet 23 = .ok (.ifCond .ge 6, 3) := by decide +kernel
theorem dX6_sheet_26 : decode cX6_sheet 26 = .ok (.bipush (-14), 2) := by decide +kernel
theorem dX6_sheet_28 : decode cX6_sheet 28 = .ok (.ireturn, 1) := by decide +kernel
theorem dX6_sheet_29 : decode cX6_sheet 29 = .ok (.aload_n 0, 1) := by decide +kernel
theorem dX6_sheet_30 : decode cX6_sheet 30 = .ok (.getfield 46, 3) := by decide +kernel
theorem dX6_sheet_33 : decode cX6_sheet 33 = .ok (.iload_n 1, 1) := by decide +kernel
theorem dX6_sheet_34 : decode cX6_sheet 34 = .ok (.iload_n 2, 1) := by decide +kernel
theorem dX6_sheet_35 : decode cX6_sheet 35 = .ok (.iload_n 3, 1) := by decide +kernel
theorem dX6_sheet_36 : decode cX6_sheet 36 = .ok (.invokevirtual 253, 3) := by decide +kernel
theorem dX6_sheet_39 : decode cX6_sheet 39 = .ok (.iload_n 3, 1) := by decide +kernel
theorem dX6_sheet_40 : decode cX6_sheet 40 = .ok (.ireturn, 1) := by decide +kernel
theorem dX6_drop_0 : decode cX6_drop 0 = .ok (.iload_n 1, 1) := by decide +kernel
theorem dX6_drop_1 : decode cX6_drop 1 = .ok (.invokestatic 232, 3) := by decide +kernel
theorem dX6_drop_4 : decode cX6_drop 4 = .ok (.ifCond .ne 5, 3) := by decide +kernel
theorem dX6_drop_7 : decode cX6_drop 7 = .ok (.iconst (-1), 1) := by decide +kernel
theorem dX6_drop_8 : decode cX6_drop 8 = .ok (.ireturn, 1) := by decide +kernel
theorem dX6_drop_9 : decode cX6_drop 9 = .ok (.aload_n 0, 1) := by decide +kernel
theorem dX6_drop_10 : decode cX6_drop 10 = .ok (.getfield 46, 3) := by decide +kernel
theorem dX6_drop_13 : decode cX6_drop 13 = .ok (.iload_n 1, 1) := by decide +kernel
theorem dX6_drop_14 : decode cX6_drop 14 = .ok (.invokevirtual 257, 3) := by decide +kernel
theorem dX6_drop_17 : decode cX6_drop 17 = .ok (.ifCond .ne 6, 3) := by decide +kernel
theorem dX6_drop_20 : decode cX6_drop 20 = .ok (.bipush (-11), 2) := by decide +kernel
theorem dX6_drop_22 : decode cX6_drop 22 = .ok (.ireturn, 1) := by decide +kernel
theorem dX6_drop_23 : decode cX6_drop 23 = .ok (.aload_n 0, 1) := by decide +kernel
theorem dX6_drop_24 : decode cX6_drop 24 = .ok (.getfield 46, 3) := by decide +kernel
theorem dX6_drop_27 : decode cX6_drop 27 = .ok (.iload_n 1, 1) := by decide +kernel
theorem dX6_drop_28 : decode cX6_drop 28 = .ok (.invokevirtual 260, 3) := by decide +kernel
theorem dX6_drop_31 : decode cX6_drop 31 = .ok (.ireturn, 1) := by decide +kernel
theorem dX6_item_0 : decode cX6_item 0 = .ok (.iload_n 1, 1) := by decide +kernel
theorem dX6_item_1 : decode cX6_item 1 = .ok (.invokestatic 232, 3) := by decide +kernel
theorem dX6_item_4 : decode cX6_item 4 = .ok (.ifCond .eq 10, 3) := by decide +kernel
theorem dX6_item_7 : decode cX6_item 7 = .ok (.iload_n 2, 1) := by decide +kernel
theorem dX6_item_8 : decode cX6_item 8 = .ok (.invokestatic 235, 3) := by decide +kernel
theorem dX6_item_11 : decode cX6_item 11 = .ok (.ifCond .ne 5, 3) := by decide +kernel
theorem dX6_item_14 : decode cX6_item 14 = .ok (.iconst (-1), 1) := by decide +kernel
theorem dX6_item_15 : decode cX6_item 15 = .ok (.ireturn, 1) := by decide +kernel
theorem dX6_item_16 : decode cX6_item 16 = .ok (.aload_n 0, 1) := by decide +kernel
theorem dX6_item_17 : decode cX6_item 17 = .ok (.getfield 46, 3) := by decide +kernel
theorem dX6_item_20 : decode cX6_item 20 = .ok (.iload_n 1, 1) := by decide +kernel
theorem dX6_item_21 : decode cX6_item 21 = .ok (.iload_n 2, 1) := by decide +kernel
theorem dX6_item_22 : decode cX6_item 22 = .ok (.iload_n 3, 1) := by decide +kernel
theorem dX6_item_23 : decode cX6_item 23 = .ok (.iconst 1, 1) := by decide +kernel
theorem dX6_item_24 : decode cX6_item 24 = .ok (.invokevirtual 238, 3) := by decide +kernel
theorem dX6_item_27 : decode cX6_item 27 = .ok (.istore 6, 2) := by decide +kernel
theorem dX6_item_29 : decode cX6_item 29 = .ok (.iload 6, 2) := by decide +kernel
theorem dX6_item_31 : decode cX6_item 31 = .ok (.ifCond .eq 6, 3) := by decide +kernel
theorem dX6_item_34 : decode cX6_item 34 = .ok (.iload 6, 2) := by decide +kernel
theorem dX6_item_36 : decode cX6_item 36 = .ok (.ireturn, 1) := by decide +kernel
theorem dX6_item_37 : decode cX6_item 37 = .ok (.aload_n 0, 1) := by decide +kernel
theorem dX6_item_38 : decode cX6_item 38 = .ok (.getfield 46, 3) := by decide +kernel
theorem dX6_item_41 : decode cX6_item 41 = .ok (.iload_n 1, 1) := by decide +kernel
theorem dX6_item_42 : decode cX6_item 42 = .ok (.iload_n 3, 1) := by decide +kernel
theorem dX6_item_43 : decode cX6_item 43 = .ok (.lload 4, 2) := by decide +kernel
theorem dX6_item_45 : decode cX6_item 45 = .ok (.invokevirtual 249, 3) := by decide +kernel
theorem dX6_item_48 : decode cX6_item 48 = .ok (.iconst 1, 1) := by decide +kernel
theorem dX6_item_49 : decode cX6_item 49 = .ok (.ireturn, 1) := by decide +kernel
theorem dX6_copy_0 : decode cX6_copy 0 = .ok (.iload_n 1, 1) := by decide +kernel
theorem dX6_copy_1 : decode cX6_copy 1 = .ok (.invokestatic 232, 3) := by decide +kernel
theorem dX6_copy_4 : decode cX6_copy 4 = .ok (.ifCond .eq 10, 3) := by decide +kernel
theorem dX6_copy_7 : decode cX6_copy 7 = .ok (.iload_n 3, 1) := by decide +kernel
theorem dX6_copy_8 : decode cX6_copy 8 = .ok (.invokestatic 232, 3) := by decide +kernel
theorem dX6_copy_11 : decode cX6_copy 11 = .ok (.ifCond .ne 5, 3) := by decide +kernel
theorem dX6_copy_14 : decode cX6_copy 14 = .ok (.iconst (-1), 1) := by decide +kernel
theorem dX6_copy_15 : decode cX6_copy 15 = .ok (.ireturn, 1) := by decide +kernel
theorem dX6_copy_16 : decode cX6_copy 16 = .ok (.aload_n 0, 1) := by decide +kernel
theorem dX6_copy_17 : decode cX6_copy 17 = .ok (.getfield 46, 3) := by decide +kernel
theorem dX6_copy_20 : decode cX6_copy 20 = .ok (.iload_n 1, 1) := by decide +kernel
theorem dX6_copy_21 : decode cX6_copy 21 = .ok (.invokevirtual 257, 3) := by decide +kernel
theorem dX6_copy_24 : decode cX6_copy 24 = .ok (.ifCond .eq 14, 3) := by decide +kernel
theorem dX6_copy_27 : decode cX6_copy 27 = .ok (.aload_n 0, 1) := by decide +kernel
theorem dX6_copy_28 : decode cX6_copy 28 = .ok (.getfield 46, 3) := by decide +kernel
theorem dX6_copy_31 : decode cX6_copy 31 = .ok (.iload_n 3, 1) := by decide +kernel
theorem dX6_copy_32 : decode cX6_copy 32 = .ok (.invokevirtual 257, 3) := by decide +kernel
theorem dX6_copy_35 : decode cX6_copy 35 = .ok (.ifCond .ne 6, 3) := by decide +kernel
theorem dX6_copy_38 : decode cX6_copy 38 = .ok (.bipush (-11), 2) := by decide +kernel
theorem dX6_copy_40 : decode cX6_copy 40 = .ok (.ireturn, 1) := by decide +kernel
theorem dX6_copy_41 : decode cX6_copy 41 = .ok (.aload_n 0, 1) := by decide +kernel
theorem dX6_copy_42 : decode cX6_copy 42 = .ok (.getfield 46, 3) := by decide +kernel
theorem dX6_copy_45 : decode cX6_copy 45 = .ok (.getfield 263, 3) := by decide +kernel
theorem dX6_copy_48 : decode cX6_copy 48 = .ok (.iload_n 1, 1) := by decide +kernel
theorem dX6_copy_49 : decode cX6_copy 49 = .ok (.iaload, 1) := by decide +kernel
theorem dX6_copy_50 : decode cX6_copy 50 = .ok (.aload_n 0, 1) := by decide +kernel
theorem dX6_copy_51 : decode cX6_copy 51 = .ok (.getfield 46, 3) := by decide +kernel
theorem dX6_copy_54 : decode cX6_copy 54 = .ok (.getfield 263, 3) := by decide +kernel
theorem dX6_copy_57 : decode cX6_copy 57 = .ok (.iload_n 3, 1) := by decide +kernel
theorem dX6_copy_58 : decode cX6_copy 58 = .ok (.iaload, 1) := by decide +kernel
theorem dX6_copy_59 : decode cX6_copy 59 = .ok (.if_icmp .eq 6, 3) := by decide +kernel
theorem dX6_copy_62 : decode cX6_copy 62 = .ok (.bipush (-12), 2) := by decide +kernel
theorem dX6_copy_64 : decode cX6_copy 64 = .ok (.ireturn, 1) := by decide +kernel
theorem dX6_copy_65 : decode cX6_copy 65 = .ok (.aload_n 0, 1) := by decide +kernel
theorem dX6_copy_66 : decode cX6_copy 66 = .ok (.getfield 46, 3) := by decide +kernel
theorem dX6_copy_69 : decode cX6_copy 69 = .ok (.iload_n 1, 1) := by decide +kernel
theorem dX6_copy_70 : decode cX6_copy 70 = .ok (.iload_n 2, 1) := by decide +kernel
theorem dX6_copy_71 : decode cX6_copy 71 = .ok (.iload 5, 2) := by decide +kernel
theorem dX6_copy_73 : decode cX6_copy 73 = .ok (.invokevirtual 266, 3) := by decide +kernel
theorem dX6_copy_76 : decode cX6_copy 76 = .ok (.ifCond .eq 18, 3) := by decide +kernel
theorem dX6_copy_79 : decode cX6_copy 79 = .ok (.aload_n 0, 1) := by decide +kernel
theorem dX6_copy_80 : decode cX6_copy 80 = .ok (.getfield 46, 3) := by decide +kernel
theorem dX6_copy_83 : decode cX6_copy 83 = .ok (.iload_n 3, 1) := by decide +kernel
theorem dX6_copy_84 : decode cX6_copy 84 = .ok (.iload 4, 2) := by decide +kernel
theorem dX6_copy_86 : decode cX6_copy 86 = .ok (.iload 5, 2) := by decide +kernel
theorem dX6_copy_88 : decode cX6_copy 88 = .ok (.invokevirtual 266, 3) := by decide +kernel
theorem dX6_copy_91 : decode cX6_copy 91 = .ok (.ifCond .ne 6, 3) := by decide +kernel
theorem dX6_copy_94 : decode cX6_copy 94 = .ok (.bipush (-13), 2) := by decide +kernel
theorem dX6_copy_96 : decode cX6_copy 96 = .ok (.ireturn, 1) := by decide +kernel
theorem dX6_copy_97 : decode cX6_copy 97 = .ok (.aload_n 0, 1) := by decide +kernel
theorem dX6_copy_98 : decode cX6_copy 98 = .ok (.getfield 46, 3) := by decide +kernel
theorem dX6_copy_101 : decode cX6_copy 101 = .ok (.iload_n 1, 1) := by decide +kernel
theorem dX6_copy_102 : decode cX6_copy 102 = .ok (.iload_n 2, 1) := by decide +kernel
theorem dX6_copy_103 : decode cX6_copy 103 = .ok (.iload_n 3, 1) := by decide +kernel
theorem dX6_copy_104 : decode cX6_copy 104 = .ok (.iload 4, 2) := by decide +kernel
theorem dX6_copy_106 : decode cX6_copy 106 = .ok (.iload 5, 2) := by decide +kernel
theorem dX6_copy_108 : decode cX6_copy 108 = .ok (.invokevirtual 269, 3) := by decide +kernel
theorem dX6_copy_111 : decode cX6_copy 111 = .ok (.iload 5, 2) := by decide +kernel
theorem dX6_copy_113 : decode cX6_copy 113 = .ok (.ireturn, 1) := by decide +kernel
theorem dX6_within_0 : decode cX6_within 0 = .ok (.iload_n 0, 1) := by decide +kernel
theorem dX6_within_1 : decode cX6_within 1 = .ok (.iload_n 1, 1) := by decide +kernel
theorem dX6_within_2 : decode cX6_within 2 = .ok (.if_icmp .lt 12, 3) := by decide +kernel
theorem dX6_within_5 : decode cX6_within 5 = .ok (.iload_n 0, 1) := by decide +kernel
theorem dX6_within_6 : decode cX6_within 6 = .ok (.iload_n 2, 1) := by decide +kernel
theorem dX6_within_7 : decode cX6_within 7 = .ok (.if_icmp .gt 7, 3) := by decide +kernel
theorem dX6_within_10 : decode cX6_within 10 = .ok (.iconst 1, 1) := by decide +kernel
theorem dX6_within_11 : decode cX6_within 11 = .ok (.goto 4, 3) := by decide +kernel
theorem dX6_within_14 : decode cX6_within 14 = .ok (.iconst 0, 1) := by decide +kernel
theorem dX6_within_15 : decode cX6_within 15 = .ok (.ireturn, 1) := by decide +kernel
theorem dX6_isSight_0 : decode cX6_isSight 0 = .ok (.iload_n 0, 1) := by decide +kernel
theorem dX6_isSight_1 : decode cX6_isSight 1 = .ok (.iconst 0, 1) := by decide +kernel
theorem dX6_isSight_2 : decode cX6_isSight 2 = .ok (.bipush 7, 2) := by decide +kernel
theorem dX6_isSight_4 : decode cX6_isSight 4 = .ok (.invokestatic 64, 3) := by decide +kernel
theorem dX6_isSight_7 : decode cX6_isSight 7 = .ok (.ireturn, 1) := by decide +kernel
theorem dX6_isComing_0 : decode cX6_isComing 0 = .ok (.iload_n 0, 1) := by decide +kernel
theorem dX6_isComing_1 : decode cX6_isComing 1 = .ok (.iconst 0, 1) := by decide +kernel
theorem dX6_isComing_2 : decode cX6_isComing 2 = .ok (.bipush 20, 2) := by decide +kernel
theorem dX6_isComing_4 : decode cX6_isComing 4 = .ok (.invokestatic 64, 3) := by decide +kernel
theorem dX6_isComing_7 : decode cX6_isComing 7 = .ok (.ireturn, 1) := by decide +kernel
theorem dX6_passHours_0 : decode cX6_passHours 0 = .ok (.iload_n 1, 1) := by decide +kernel
theorem dX6_passHours_1 : decode cX6_passHours 1 = .ok (.iconst 1, 1) := by decide +kernel
theorem dX6_passHours_2 : decode cX6_passHours 2 = .ok (.bipush 40, 2) := by decide +kernel
theorem dX6_passHours_4 : decode cX6_passHours 4 = .ok (.invokestatic 64, 3) := by decide +kernel
theorem dX6_passHours_7 : decode cX6_passHours 7 = .ok (.ifCond .ne 5, 3) := by decide +kernel
theorem dX6_passHours_10 : decode cX6_passHours 10 = .ok (.iconst (-1), 1) := by decide +kernel
theorem dX6_passHours_11 : decode cX6_passHours 11 = .ok (.ireturn, 1) := by decide +kernel
theorem dX6_passHours_12 : decode cX6_passHours 12 = .ok (.aload_n 0, 1) := by decide +kernel
theorem dX6_passHours_13 : decode cX6_passHours 13 = .ok (.getfield 10, 3) := by decide +kernel
theorem dX6_passHours_16 : decode cX6_passHours 16 = .ok (.getfield 153, 3) := by decide +kernel
theorem dX6_passHours_19 : decode cX6_passHours 19 = .ok (.sipush 9999, 3) := by decide +kernel
theorem dX6_passHours_22 : decode cX6_passHours 22 = .ok (.iload_n 1, 1) := by decide +kernel
theorem dX6_passHours_23 : decode cX6_passHours 23 = .ok (.isub, 1) := by decide +kernel
theorem dX6_passHours_24 : decode cX6_passHours 24 = .ok (.if_icmp .le 6, 3) := by decide +kernel
theorem dX6_passHours_27 : decode cX6_passHours 27 = .ok (.bipush (-3), 2) := by decide +kernel
theorem dX6_passHours_29 : decode cX6_passHours 29 = .ok (.ireturn, 1) := by decide +kernel
theorem dX6_passHours_30 : decode cX6_passHours 30 = .ok (.iconst 0, 1) := by decide +kernel
theorem dX6_passHours_31 : decode cX6_passHours 31 = .ok (.istore_n 3, 1) := by decide +kernel
theorem dX6_passHours_32 : decode cX6_passHours 32 = .ok (.iload_n 3, 1) := by decide +kernel
theorem dX6_passHours_33 : decode cX6_passHours 33 = .ok (.iload_n 1, 1) := by decide +kernel
theorem dX6_passHours_34 : decode cX6_passHours 34 = .ok (.if_icmp .ge 38, 3) := by decide +kernel
theorem dX6_passHours_37 : decode cX6_passHours 37 = .ok (.aload_n 0, 1) := by decide +kernel
theorem dX6_passHours_38 : decode cX6_passHours 38 = .ok (.getfield 19, 3) := by decide +kernel
theorem dX6_passHours_41 : decode cX6_passHours 41 = .ok (.aload_n 0, 1) := by decide +kernel
theorem dX6_passHours_42 : decode cX6_passHours 42 = .ok (.getfield 10, 3) := by decide +kernel
theorem dX6_passHours_45 : decode cX6_passHours 45 = .ok (.invokevirtual 172, 3) := by decide +kernel
theorem dX6_passHours_48 : decode cX6_passHours 48 = .ok (.iload_n 2, 1) := by decide +kernel
theorem dX6_passHours_49 : decode cX6_passHours 49 = .ok (.ifCond .eq 10, 3) := by decide +kernel
theorem dX6_passHours_52 : decode cX6_passHours 52 = .ok (.aload_n 0, 1) := by decide +kernel
theorem dX6_passHours_53 : decode cX6_passHours 53 = .ok (.getfield 10, 3) := by decide +kernel
theorem dX6_passHours_56 : decode cX6_passHours 56 = .ok (.invokevirtual 273, 3) := by decide +kernel
theorem dX6_passHours_59 : decode cX6_passHours 59 = .ok (.aload_n 0, 1) := by decide +kernel
theorem dX6_passHours_60 : decode cX6_passHours 60 = .ok (.getfield 10, 3) := by decide +kernel
theorem dX6_passHours_63 : decode cX6_passHours 63 = .ok (.invokevirtual 192, 3) := by decide +kernel
theorem dX6_passHours_66 : decode cX6_passHours 66 = .ok (.iinc 3 1, 3) := by decide +kernel
theorem dX6_passHours_69 : decode cX6_passHours 69 = .ok (.goto (-37), 3) := by decide +kernel
theorem dX6_passHours_72 : decode cX6_passHours 72 = .ok (.aload_n 0, 1) := by decide +kernel
theorem dX6_passHours_73 : decode cX6_passHours 73 = .ok (.getfield 10, 3) := by decide +kernel
theorem dX6_passHours_76 : decode cX6_passHours 76 = .ok (.invokevirtual 159, 3) := by decide +kernel
theorem dX6_passHours_79 : decode cX6_passHours 79 = .ok (.ireturn, 1) := by decide +kernel
theorem dX6_weightOf_0 : decode cX6_weightOf 0 = .ok (.iconst 1, 1) := by decide +kernel
theorem dX6_weightOf_1 : decode cX6_weightOf 1 = .ok (.istore_n 3, 1) := by decide +kernel
theorem dX6_weightOf_2 : decode cX6_weightOf 2 = .ok (.iconst 0, 1) := by decide +kernel
theorem dX6_weightOf_3 : decode cX6_weightOf 3 = .ok (.istore 4, 2) := by decide +kernel
theorem dX6_weightOf_5 : decode cX6_weightOf 5 = .ok (.iload 4, 2) := by decide +kernel
theorem dX6_weightOf_7 : decode cX6_weightOf 7 = .ok (.aload_n 0, 1) := by decide +kernel
theorem dX6_weightOf_8 : decode cX6_weightOf 8 = .ok (.getfield 10, 3) := by decide +kernel
theorem dX6_weightOf_11 : decode cX6_weightOf 11 = .ok (.getfield 72, 3) := by decide +kernel
theorem dX6_weightOf_14 : decode cX6_weightOf 14 = .ok (.if_icmp .ge 67, 3) := by decide +kernel
theorem dX6_weightOf_17 : decode cX6_weightOf 17 = .ok (.iload_n 1, 1) := by decide +kernel
theorem dX6_weightOf_18 : decode cX6_weightOf 18 = .ok (.iload 4, 2) := by decide +kernel
theorem dX6_weightOf_20 : decode cX6_weightOf 20 = .ok (.ishr, 1) := by decide +kernel
theorem dX6_weightOf_21 : decode cX6_weightOf 21 = .ok (.iconst 1, 1) := by decide +kernel
theorem dX6_weightOf_22 : decode cX6_weightOf 22 = .ok (.iand, 1) := by decide +kernel
theorem dX6_weightOf_23 : decode cX6_weightOf 23 = .ok (.ifCond .eq 7, 3) := by decide +kernel
theorem dX6_weightOf_26 : decode cX6_weightOf 26 = .ok (.iconst 1, 1) := by decide +kernel
theorem dX6_weightOf_27 : decode cX6_weightOf 27 = .ok (.goto 4, 3) := by decide +kernel
theorem dX6_weightOf_30 : decode cX6_weightOf 30 = .ok (.iconst 0, 1) := by decide +kernel
theorem dX6_weightOf_31 : decode cX6_weightOf 31 = .ok (.istore 5, 2) := by decide +kernel
theorem dX6_weightOf_33 : decode cX6_weightOf 33 = .ok (.aload_n 0, 1) := by decide +kernel
theorem dX6_weightOf_34 : decode cX6_weightOf 34 = .ok (.getfield 10, 3) := by decide +kernel
theorem dX6_weightOf_37 : decode cX6_weightOf 37 = .ok (.iload 4, 2) := by decide +kernel
theorem dX6_weightOf_39 : decode cX6_weightOf 39 = .ok (.invokevirtual 179, 3) := by decide +kernel
theorem dX6_weightOf_42 : decode cX6_weightOf 42 = .ok (.ifCond .eq 17, 3) := by decide +kernel
theorem dX6_weightOf_45 : decode cX6_weightOf 45 = .ok (.iload 5, 2) := by decide +kernel
theorem dX6_weightOf_47 : decode cX6_weightOf 47 = .ok (.ifCond .eq 7, 3) := by decide +kernel
theorem dX6_weightOf_50 : decode cX6_weightOf 50 = .ok (.iconst 0, 1) := by decide +kernel
theorem dX6_weightOf_51 : decode cX6_weightOf 51 = .ok (.goto 4, 3) := by decide +kernel
theorem dX6_weightOf_54 : decode cX6_weightOf 54 = .ok (.iload_n 3, 1) := by decide +kernel
theorem dX6_weightOf_55 : decode cX6_weightOf 55 = .ok (.istore_n 3, 1) := by decide +kernel
theorem dX6_weightOf_56 : decode cX6_weightOf 56 = .ok (.goto 19, 3) := by decide +kernel
theorem dX6_weightOf_59 : decode cX6_weightOf 59 = .ok (.iload_n 3, 1) := by decide +kernel
theorem dX6_weightOf_60 : decode cX6_weightOf 60 = .ok (.iload 5, 2) := by decide +kernel
theorem dX6_weightOf_62 : decode cX6_weightOf 62 = .ok (.ifCond .eq 7, 3) := by decide +kernel
theorem dX6_weightOf_65 : decode cX6_weightOf 65 = .ok (.iload_n 2, 1) := by decide +kernel
theorem dX6_weightOf_66 : decode cX6_weightOf 66 = .ok (.goto 7, 3) := by decide +kernel
theorem dX6_weightOf_69 : decode cX6_weightOf 69 = .ok (.bipush 10, 2) := by decide +kernel
theorem dX6_weightOf_71 : decode cX6_weightOf 71 = .ok (.iload_n 2, 1) := by decide +kernel
theorem dX6_weightOf_72 : decode cX6_weightOf 72 = .ok (.isub, 1) := by decide +kernel
theorem dX6_weightOf_73 : decode cX6_weightOf 73 = .ok (.imul, 1) := by decide +kernel
theorem dX6_weightOf_74 : decode cX6_weightOf 74 = .ok (.istore_n 3, 1) := by decide +kernel
theorem dX6_weightOf_75 : decode cX6_weightOf 75 = .ok (.iinc 4 1, 3) := by decide +kernel
theorem dX6_weightOf_78 : decode cX6_weightOf 78 = .ok (.goto (-73), 3) := by decide +kernel
theorem dX6_weightOf_81 : decode cX6_weightOf 81 = .ok (.iload_n 3, 1) := by decide +kernel
theorem dX6_weightOf_82 : decode cX6_weightOf 82 = .ok (.ireturn, 1) := by decide +kernel
theorem dX6_weightOfAll_0 : decode cX6_weightOfAll 0 = .ok (.iconst 1, 1) := by decide +kernel
theorem dX6_weightOfAll_1 : decode cX6_weightOfAll 1 = .ok (.istore_n 1, 1) := by decide +kernel
theorem dX6_weightOfAll_2 : decode cX6_weightOfAll 2 = .ok (.iconst 0, 1) := by decide +kernel
theorem dX6_weightOfAll_3 : decode cX6_weightOfAll 3 = .ok (.istore_n 2, 1) := by decide +kernel
theorem dX6_weightOfAll_4 : decode cX6_weightOfAll 4 = .ok (.iload_n 2, 1) := by decide +kernel
theorem dX6_weightOfAll_5 : decode cX6_weightOfAll 5 = .ok (.aload_n 0, 1) := by decide +kernel
theorem dX6_weightOfAll_6 : decode cX6_weightOfAll 6 = .ok (.getfield 10, 3) := by decide +kernel
theorem dX6_weightOfAll_9 : decode cX6_weightOfAll 9 = .ok (.getfield 72, 3) := by decide +kernel
theorem dX6_weightOfAll_12 : decode cX6_weightOfAll 12 = .ok (.if_icmp .ge 29, 3) := by decide +kernel
theorem dX6_weightOfAll_15 : decode cX6_weightOfAll 15 = .ok (.iload_n 1, 1) := by decide +kernel
theorem dX6_weightOfAll_16 : decode cX6_weightOfAll 16 = .ok (.aload_n 0, 1) := by decide +kernel
theorem dX6_weightOfAll_17 : decode cX6_weightOfAll 17 = .ok (.getfield 10, 3) := by decide +kernel
theorem dX6_weightOfAll_20 : decode cX6_weightOfAll 20 = .ok (.iload_n 2, 1) := by decide +kernel
theorem dX6_weightOfAll_21 : decode cX6_weightOfAll 21 = .ok (.invokevirtual 179, 3) := by decide +kernel
theorem dX6_weightOfAll_24 : decode cX6_weightOfAll 24 = .ok (.ifCond .eq 7, 3) := by decide +kernel
theorem dX6_weightOfAll_27 : decode cX6_weightOfAll 27 = .ok (.iconst 1, 1) := by decide +kernel
theorem dX6_weightOfAll_28 : decode cX6_weightOfAll 28 = .ok (.goto 5, 3) := by decide +kernel
theorem dX6_weightOfAll_31 : decode cX6_weightOfAll 31 = .ok (.bipush 10, 2) := by decide +kernel
theorem dX6_weightOfAll_33 : decode cX6_weightOfAll 33 = .ok (.imul, 1) := by decide +kernel
theorem dX6_weightOfAll_34 : decode cX6_weightOfAll 34 = .ok (.istore_n 1, 1) := by decide +kernel
theorem dX6_weightOfAll_35 : decode cX6_weightOfAll 35 = .ok (.iinc 2 1, 3) := by decide +kernel
theorem dX6_weightOfAll_38 : decode cX6_weightOfAll 38 = .ok (.goto (-34), 3) := by decide +kernel
theorem dX6_weightOfAll_41 : decode cX6_weightOfAll 41 = .ok (.iload_n 1, 1) := by decide +kernel
theorem dX6_weightOfAll_42 : decode cX6_weightOfAll 42 = .ok (.ireturn, 1) := by decide +kernel
theorem dX6_hasClaimedBehindCarts_0 : decode cX6_hasClaimedBehindCarts 0 = .ok (.aload_n 0, 1) := by decide +kernel
theorem dX6_hasClaimedBehindCarts_1 : decode cX6_hasClaimedBehindCarts 1 = .ok (.getfield 23, 3) := by decide +kernel
theorem dX6_hasClaimedBehindCarts_4 : decode cX6_hasClaimedBehindCarts 4 = .ok (.aload_n 0, 1) := by decide +kernel
theorem dX6_hasClaimedBehindCarts_5 : decode cX6_hasClaimedBehindCarts 5 = .ok (.getfield 10, 3) := by decide +kernel
theorem dX6_hasClaimedBehindCarts_8 : decode cX6_hasClaimedBehindCarts 8 = .ok (.invokevirtual 149, 3) := by decide +kernel
theorem dX6_hasClaimedBehindCarts_11 : decode cX6_hasClaimedBehindCarts 11 = .ok (.iconst 0, 1) := by decide +kernel
theorem dX6_hasClaimedBehindCarts_12 : decode cX6_hasClaimedBehindCarts 12 = .ok (.istore_n 3, 1) := by decide +kernel
theorem dX6_hasClaimedBehindCarts_13 : decode cX6_hasClaimedBehindCarts 13 = .ok (.iload_n 3, 1) := by decide +kernel
theorem dX6_hasClaimedBehindCarts_14 : decode cX6_hasClaimedBehindCarts 14 = .ok (.aload_n 0, 1) := by decide +kernel
theorem dX6_hasClaimedBehindCarts_15 : decode cX6_hasClaimedBehindCarts 15 = .ok (.getfield 23, 3) := by decide +kernel
theorem dX6_hasClaimedBehindCarts_18 : decode cX6_hasClaimedBehindCarts 18 = .ok (.getfield 72, 3) := by decide +kernel
theorem dX6_hasClaimedBehindCarts_21 : decode cX6_hasClaimedBehindCarts 21 = .ok (.if_icmp .ge 25, 3) := by decide +kernel
theorem dX6_hasClaimedBehindCarts_24 : decode cX6_hasClaimedBehindCarts 24 = .ok (.iload_n 2, 1) := by decide +kernel
theorem dX6_hasClaimedBehindCarts_25 : decode cX6_hasClaimedBehindCarts 25 = .ok (.iload_n 3, 1) := by decide +kernel
theorem dX6_hasClaimedBehindCarts_26 : decode cX6_hasClaimedBehindCarts 26 = .ok (.ishr, 1) := by decide +kernel
theorem dX6_hasClaimedBehindCarts_27 : decode cX6_hasClaimedBehindCarts 27 = .ok (.iconst 1, 1) := by decide +kernel
theorem dX6_hasClaimedBehindCarts_28 : decode cX6_hasClaimedBehindCarts 28 = .ok (.iand, 1) := by decide +kernel
theorem dX6_hasClaimedBehindCarts_29 : decode cX6_hasClaimedBehindCarts 29 = .ok (.ifCond .eq 11, 3) := by decide +kernel
theorem dX6_hasClaimedBehindCarts_32 : decode cX6_hasClaimedBehindCarts 32 = .ok (.aload_n 0, 1) := by decide +kernel
theorem dX6_hasClaimedBehindCarts_33 : decode cX6_hasClaimedBehindCarts 33 = .ok (.getfield 23, 3) := by decide +kernel
theorem dX6_hasClaimedBehindCarts_36 : decode cX6_hasClaimedBehindCarts 36 = .ok (.iload_n 3, 1) := by decide +kernel
theorem dX6_hasClaimedBehindCarts_37 : decode cX6_hasClaimedBehindCarts 37 = .ok (.invokevirtual 182, 3) := by decide +kernel
theorem dX6_hasClaimedBehindCarts_40 : decode cX6_hasClaimedBehindCarts 40 = .ok (.iinc 3 1, 3) := by decide +kernel
theorem dX6_hasClaimedBehindCarts_43 : decode cX6_hasClaimedBehindCarts 43 = .ok (.goto (-30), 3) := by decide +kernel
theorem dX6_hasClaimedBehindCarts_46 : decode cX6_hasClaimedBehindCarts 46 = .ok (.aload_n 0, 1) := by decide +kernel
theorem dX6_hasClaimedBehindCarts_47 : decode cX6_hasClaimedBehindCarts 47 = .ok (.getfield 23, 3) := by decide +kernel
theorem dX6_hasClaimedBehindCarts_50 : decode cX6_hasClaimedBehindCarts 50 = .ok (.invokevirtual 192, 3) := by decide +kernel
theorem dX6_hasClaimedBehindCarts_53 : decode cX6_hasClaimedBehindCarts 53 = .ok (.aload_n 0, 1) := by decide +kernel
theorem dX6_hasClaimedBehindCarts_54 : decode cX6_hasClaimedBehindCarts 54 = .ok (.getfield 23, 3) := by decide +kernel
theorem dX6_hasClaimedBehindCarts_57 : decode cX6_hasClaimedBehindCarts 57 = .ok (.iload_n 1, 1) := by decide +kernel
theorem dX6_hasClaimedBehindCarts_58 : decode cX6_hasClaimedBehindCarts 58 = .ok (.invokevirtual 185, 3) := by decide +kernel
theorem dX6_hasClaimedBehindCarts_61 : decode cX6_hasClaimedBehindCarts 61 = .ok (.ireturn, 1) := by decide +kernel
theorem dX6_commonDivisor_0 : decode cX6_commonDivisor 0 = .ok (.iload_n 0, 1) := by decide +kernel
theorem dX6_commonDivisor_1 : decode cX6_commonDivisor 1 = .ok (.istore_n 2, 1) := by decide +kernel
theorem dX6_commonDivisor_2 : decode cX6_commonDivisor 2 = .ok (.iload_n 1, 1) := by decide +kernel
theorem dX6_commonDivisor_3 : decode cX6_commonDivisor 3 = .ok (.istore_n 3, 1) := by decide +kernel
theorem dX6_commonDivisor_4 : decode cX6_commonDivisor 4 = .ok (.iconst 0, 1) := by decide +kernel
theorem dX6_commonDivisor_5 : decode cX6_commonDivisor 5 = .ok (.istore 4, 2) := by decide +kernel
theorem dX6_commonDivisor_7 : decode cX6_commonDivisor 7 = .ok (.iload 4, 2) := by decide +kernel
theorem dX6_commonDivisor_9 : decode cX6_commonDivisor 9 = .ok (.bipush 64, 2) := by decide +kernel
theorem dX6_commonDivisor_11 : decode cX6_commonDivisor 11 = .ok (.if_icmp .ge 23, 3) := by decide +kernel
theorem dX6_commonDivisor_14 : decode cX6_commonDivisor 14 = .ok (.iload_n 3, 1) := by decide +kernel
theorem dX6_commonDivisor_15 : decode cX6_commonDivisor 15 = .ok (.ifCond .eq 19, 3) := by decide +kernel
theorem dX6_commonDivisor_18 : decode cX6_commonDivisor 18 = .ok (.iload_n 2, 1) := by decide +kernel
theorem dX6_commonDivisor_19 : decode cX6_commonDivisor 19 = .ok (.iload_n 3, 1) := by decide +kernel
theorem dX6_commonDivisor_20 : decode cX6_commonDivisor 20 = .ok (.irem, 1) := by decide +kernel
theorem dX6_commonDivisor_21 : decode cX6_commonDivisor 21 = .ok (.istore 5, 2) := by decide +kernel
theorem dX6_commonDivisor_23 : decode cX6_commonDivisor 23 = .ok (.iload_n 3, 1) := by decide +kernel
theorem dX6_commonDivisor_24 : decode cX6_commonDivisor 24 = .ok (.istore_n 2, 1) := by decide +kernel
theorem dX6_commonDivisor_25 : decode cX6_commonDivisor 25 = .ok (.iload 5, 2) := by decide +kernel
theorem dX6_commonDivisor_27 : decode cX6_commonDivisor 27 = .ok (.istore_n 3, 1) := by decide +kernel
theorem dX6_commonDivisor_28 : decode cX6_commonDivisor 28 = .ok (.iinc 4 1, 3) := by decide +kernel
theorem dX6_commonDivisor_31 : decode cX6_commonDivisor 31 = .ok (.goto (-24), 3) := by decide +kernel
theorem dX6_commonDivisor_34 : decode cX6_commonDivisor 34 = .ok (.iload_n 2, 1) := by decide +kernel
theorem dX6_commonDivisor_35 : decode cX6_commonDivisor 35 = .ok (.ireturn, 1) := by decide +kernel
theorem dX6_kindsDipped_0 : decode cX6_kindsDipped 0 = .ok (.iconst 0, 1) := by decide +kernel
theorem dX6_kindsDipped_1 : decode cX6_kindsDipped 1 = .ok (.istore 5, 2) := by decide +kernel
theorem dX6_kindsDipped_3 : decode cX6_kindsDipped 3 = .ok (.iconst 0, 1) := by decide +kernel
theorem dX6_kindsDipped_4 : decode cX6_kindsDipped 4 = .ok (.istore 6, 2) := by decide +kernel
theorem dX6_kindsDipped_6 : decode cX6_kindsDipped 6 = .ok (.iload 6, 2) := by decide +kernel
theorem dX6_kindsDipped_8 : decode cX6_kindsDipped 8 = .ok (.iconst 5, 1) := by decide +kernel
theorem dX6_kindsDipped_9 : decode cX6_kindsDipped 9 = .ok (.if_icmp .ge 52, 3) := by decide +kernel
theorem dX6_kindsDipped_12 : decode cX6_kindsDipped 12 = .ok (.aload_n 0, 1) := by decide +kernel
theorem dX6_kindsDipped_13 : decode cX6_kindsDipped 13 = .ok (.getfield 23, 3) := by decide +kernel
theorem dX6_kindsDipped_16 : decode cX6_kindsDipped 16 = .ok (.aload_n 0, 1) := by decide +kernel
theorem dX6_kindsDipped_17 : decode cX6_kindsDipped 17 = .ok (.getfield 10, 3) := by decide +kernel
theorem dX6_kindsDipped_20 : decode cX6_kindsDipped 20 = .ok (.invokevirtual 149, 3) := by decide +kernel
theorem dX6_kindsDipped_23 : decode cX6_kindsDipped 23 = .ok (.aload_n 0, 1) := by decide +kernel
theorem dX6_kindsDipped_24 : decode cX6_kindsDipped 24 = .ok (.getfield 23, 3) := by decide +kernel
theorem dX6_kindsDipped_27 : decode cX6_kindsDipped 27 = .ok (.getfield 99, 3) := by decide +kernel
theorem dX6_kindsDipped_30 : decode cX6_kindsDipped 30 = .ok (.iload_n 1, 1) := by decide +kernel
theorem dX6_kindsDipped_31 : decode cX6_kindsDipped 31 = .ok (.iload 6, 2) := by decide +kernel
theorem dX6_kindsDipped_33 : decode cX6_kindsDipped 33 = .ok (.iastore, 1) := by decide +kernel
theorem dX6_kindsDipped_34 : decode cX6_kindsDipped 34 = .ok (.aload_n 0, 1) := by decide +kernel
theorem dX6_kindsDipped_35 : decode cX6_kindsDipped 35 = .ok (.iload_n 1, 1) := by decide +kernel
theorem dX6_kindsDipped_36 : decode cX6_kindsDipped 36 = .ok (.iload_n 2, 1) := by decide +kernel
theorem dX6_kindsDipped_37 : decode cX6_kindsDipped 37 = .ok (.iload_n 3, 1) := by decide +kernel
theorem dX6_kindsDipped_38 : decode cX6_kindsDipped 38 = .ok (.iload 4, 2) := by decide +kernel
theorem dX6_kindsDipped_40 : decode cX6_kindsDipped 40 = .ok (.invokevirtual 276, 3) := by decide +kernel
theorem dX6_kindsDipped_43 : decode cX6_kindsDipped 43 = .ok (.ifCond .eq 12, 3) := by decide +kernel
theorem dX6_kindsDipped_46 : decode cX6_kindsDipped 46 = .ok (.iload 5, 2) := by decide +kernel
theorem dX6_kindsDipped_48 : decode cX6_kindsDipped 48 = .ok (.iconst 1, 1) := by decide +kernel
theorem dX6_kindsDipped_49 : decode cX6_kindsDipped 49 = .ok (.iload 6, 2) := by decide +kernel
theorem dX6_kindsDipped_51 : decode cX6_kindsDipped 51 = .ok (.ishl, 1) := by decide +kernel
theorem dX6_kindsDipped_52 : decode cX6_kindsDipped 52 = .ok (.ior, 1) := by decide +kernel
theorem dX6_kindsDipped_53 : decode cX6_kindsDipped 53 = .ok (.istore 5, 2) := by decide +kernel
theorem dX6_kindsDipped_55 : decode cX6_kindsDipped 55 = .ok (.iinc 6 1, 3) := by decide +kernel
theorem dX6_kindsDipped_58 : decode cX6_kindsDipped 58 = .ok (.goto (-52), 3) := by decide +kernel
theorem dX6_kindsDipped_61 : decode cX6_kindsDipped 61 = .ok (.iload 5, 2) := by decide +kernel
theorem dX6_kindsDipped_63 : decode cX6_kindsDipped 63 = .ok (.ireturn, 1) := by decide +kernel
theorem dX6_depthsDipped_0 : decode cX6_depthsDipped 0 = .ok (.iconst 0, 1) := by decide +kernel
theorem dX6_depthsDipped_1 : decode cX6_depthsDipped 1 = .ok (.istore 6, 2) := by decide +kernel
theorem dX6_depthsDipped_3 : decode cX6_depthsDipped 3 = .ok (.bipush (-4), 2) := by decide +kernel
theorem dX6_depthsDipped_5 : decode cX6_depthsDipped 5 = .ok (.istore 7, 2) := by decide +kernel
theorem dX6_depthsDipped_7 : decode cX6_depthsDipped 7 = .ok (.iconst 0, 1) := by decide +kernel
theorem dX6_depthsDipped_8 : decode cX6_depthsDipped 8 = .ok (.istore 8, 2) := by decide +kernel
theorem dX6_depthsDipped_10 : decode cX6_depthsDipped 10 = .ok (.iload 8, 2) := by decide +kernel
theorem dX6_depthsDipped_12 : decode cX6_depthsDipped 12 = .ok (.bipush 60, 2) := by decide +kernel
theorem dX6_depthsDipped_14 : decode cX6_depthsDipped 14 = .ok (.if_icmp .gt 60, 3) := by decide +kernel
theorem dX6_depthsDipped_17 : decode cX6_depthsDipped 17 = .ok (.aload_n 0, 1) := by decide +kernel
theorem dX6_depthsDipped_18 : decode cX6_depthsDipped 18 = .ok (.getfield 23, 3) := by decide +kernel
theorem dX6_depthsDipped_21 : decode cX6_depthsDipped 21 = .ok (.aload_n 0, 1) := by decide +kernel
theorem dX6_depthsDipped_22 : decode cX6_depthsDipped 22 = .ok (.getfield 10, 3) := by decide +kernel
theorem dX6_depthsDipped_25 : decode cX6_depthsDipped 25 = .ok (.invokevirtual 149, 3) := by decide +kernel
theorem dX6_depthsDipped_28 : decode cX6_depthsDipped 28 = .ok (.aload_n 0, 1) := by decide +kernel
theorem dX6_depthsDipped_29 : decode cX6_depthsDipped 29 = .ok (.getfield 23, 3) := by decide +kernel
theorem dX6_depthsDipped_32 : decode cX6_depthsDipped 32 = .ok (.getfield 102, 3) := by decide +kernel
theorem dX6_depthsDipped_35 : decode cX6_depthsDipped 35 = .ok (.iload_n 1, 1) := by decide +kernel
theorem dX6_depthsDipped_36 : decode cX6_depthsDipped 36 = .ok (.iload 8, 2) := by decide +kernel
theorem dX6_depthsDipped_38 : decode cX6_depthsDipped 38 = .ok (.iastore, 1) := by decide +kernel
theorem dX6_depthsDipped_39 : decode cX6_depthsDipped 39 = .ok (.aload_n 0, 1) := by decide +kernel
theorem dX6_depthsDipped_40 : decode cX6_depthsDipped 40 = .ok (.iload_n 1, 1) := by decide +kernel
theorem dX6_depthsDipped_41 : decode cX6_depthsDipped 41 = .ok (.iload_n 2, 1) := by decide +kernel
theorem dX6_depthsDipped_42 : decode cX6_depthsDipped 42 = .ok (.iload_n 3, 1) := by decide +kernel
theorem dX6_depthsDipped_43 : decode cX6_depthsDipped 43 = .ok (.iload 4, 2) := by decide +kernel
theorem dX6_depthsDipped_45 : decode cX6_depthsDipped 45 = .ok (.invokevirtual 276, 3) := by decide +kernel
theorem dX6_depthsDipped_48 : decode cX6_depthsDipped 48 = .ok (.ifCond .eq 20, 3) := by decide +kernel
theorem dX6_depthsDipped_51 : decode cX6_depthsDipped 51 = .ok (.iload 6, 2) := by decide +kernel
theorem dX6_depthsDipped_53 : decode cX6_depthsDipped 53 = .ok (.ifCond .ne 8, 3) := by decide +kernel
theorem dX6_depthsDipped_56 : decode cX6_depthsDipped 56 = .ok (.iload 8, 2) := by decide +kernel
theorem dX6_depthsDipped_58 : decode cX6_depthsDipped 58 = .ok (.goto 5, 3) := by decide +kernel
theorem dX6_depthsDipped_61 : decode cX6_depthsDipped 61 = .ok (.iload 7, 2) := by decide +kernel
theorem dX6_depthsDipped_63 : decode cX6_depthsDipped 63 = .ok (.istore 7, 2) := by decide +kernel
theorem dX6_depthsDipped_65 : decode cX6_depthsDipped 65 = .ok (.iinc 6 1, 3) := by decide +kernel
theorem dX6_depthsDipped_68 : decode cX6_depthsDipped 68 = .ok (.iinc 8 1, 3) := by decide +kernel
theorem dX6_depthsDipped_71 : decode cX6_depthsDipped 71 = .ok (.goto (-61), 3) := by decide +kernel
theorem dX6_depthsDipped_74 : decode cX6_depthsDipped 74 = .ok (.iload 5, 2) := by decide +kernel
theorem dX6_depthsDipped_76 : decode cX6_depthsDipped 76 = .ok (.ifCond .eq 8, 3) := by decide +kernel
theorem dX6_depthsDipped_79 : decode cX6_depthsDipped 79 = .ok (.iload 7, 2) := by decide +kernel
theorem dX6_depthsDipped_81 : decode cX6_depthsDipped 81 = .ok (.goto 5, 3) := by decide +kernel
theorem dX6_depthsDipped_84 : decode cX6_depthsDipped 84 = .ok (.iload 6, 2) := by decide +kernel
theorem dX6_depthsDipped_86 : decode cX6_depthsDipped 86 = .ok (.ireturn, 1) := by decide +kernel
theorem dX6_draftAgrees_0 : decode cX6_draftAgrees 0 = .ok (.iconst 0, 1) := by decide +kernel
theorem dX6_draftAgrees_1 : decode cX6_draftAgrees 1 = .ok (.istore 5, 2) := by decide +kernel
theorem dX6_draftAgrees_3 : decode cX6_draftAgrees 3 = .ok (.iload 5, 2) := by decide +kernel
theorem dX6_draftAgrees_5 : decode cX6_draftAgrees 5 = .ok (.iload 4, 2) := by decide +kernel
theorem dX6_draftAgrees_7 : decode cX6_draftAgrees 7 = .ok (.if_icmp .ge 44, 3) := by decide +kernel
theorem dX6_draftAgrees_10 : decode cX6_draftAgrees 10 = .ok (.aload_n 0, 1) := by decide +kernel
theorem dX6_draftAgrees_11 : decode cX6_draftAgrees 11 = .ok (.getfield 23, 3) := by decide +kernel
theorem dX6_draftAgrees_14 : decode cX6_draftAgrees 14 = .ok (.invokevirtual 192, 3) := by decide +kernel
theorem dX6_draftAgrees_17 : decode cX6_draftAgrees 17 = .ok (.aload_n 0, 1) := by decide +kernel
theorem dX6_draftAgrees_18 : decode cX6_draftAgrees 18 = .ok (.getfield 46, 3) := by decide +kernel
theorem dX6_draftAgrees_21 : decode cX6_draftAgrees 21 = .ok (.iload_n 2, 1) := by decide +kernel
theorem dX6_draftAgrees_22 : decode cX6_draftAgrees 22 = .ok (.iload_n 3, 1) := by decide +kernel
theorem dX6_draftAgrees_23 : decode cX6_draftAgrees 23 = .ok (.iload 5, 2) := by decide +kernel
theorem dX6_draftAgrees_25 : decode cX6_draftAgrees 25 = .ok (.iadd, 1) := by decide +kernel
theorem dX6_draftAgrees_26 : decode cX6_draftAgrees 26 = .ok (.invokevirtual 280, 3) := by decide +kernel
theorem dX6_draftAgrees_29 : decode cX6_draftAgrees 29 = .ok (.aload_n 0, 1) := by decide +kernel
theorem dX6_draftAgrees_30 : decode cX6_draftAgrees 30 = .ok (.getfield 23, 3) := by decide +kernel
theorem dX6_draftAgrees_33 : decode cX6_draftAgrees 33 = .ok (.getfield 102, 3) := by decide +kernel
theorem dX6_draftAgrees_36 : decode cX6_draftAgrees 36 = .ok (.iload_n 1, 1) := by decide +kernel
theorem dX6_draftAgrees_37 : decode cX6_draftAgrees 37 = .ok (.iaload, 1) := by decide +kernel
theorem dX6_draftAgrees_38 : decode cX6_draftAgrees 38 = .ok (.i2l, 1) := by decide +kernel
theorem dX6_draftAgrees_39 : decode cX6_draftAgrees 39 = .ok (.lcmp, 1) := by decide +kernel
theorem dX6_draftAgrees_40 : decode cX6_draftAgrees 40 = .ok (.ifCond .eq 5, 3) := by decide +kernel
theorem dX6_draftAgrees_43 : decode cX6_draftAgrees 43 = .ok (.iconst 0, 1) := by decide +kernel
theorem dX6_draftAgrees_44 : decode cX6_draftAgrees 44 = .ok (.ireturn, 1) := by decide +kernel
theorem dX6_draftAgrees_45 : decode cX6_draftAgrees 45 = .ok (.iinc 5 1, 3) := by decide +kernel
theorem dX6_draftAgrees_48 : decode cX6_draftAgrees 48 = .ok (.goto (-45), 3) := by decide +kernel
theorem dX6_draftAgrees_51 : decode cX6_draftAgrees 51 = .ok (.iconst 1, 1) := by decide +kernel
theorem dX6_draftAgrees_52 : decode cX6_draftAgrees 52 = .ok (.ireturn, 1) := by decide +kernel
end
section
theorem dX7_in_0 : decode cX7_in 0 = .ok (.lload_n 0, 1) := by decide +kernel
theorem dX7_in_1 : decode cX7_in 1 = .ok (.lload_n 2, 1) := by decide +kernel
theorem dX7_in_2 : decode cX7_in 2 = .ok (.lcmp, 1) := by decide +kernel
theorem dX7_in_3 : decode cX7_in 3 = .ok (.ifCond .lt 14, 3) := by decide +kernel
theorem dX7_in_6 : decode cX7_in 6 = .ok (.lload_n 0, 1) := by decide +kernel
theorem dX7_in_7 : decode cX7_in 7 = .ok (.lload 4, 2) := by decide +kernel
theorem dX7_in_9 : decode cX7_in 9 = .ok (.lcmp, 1) := by decide +kernel
theorem dX7_in_10 : decode cX7_in 10 = .ok (.ifCond .gt 7, 3) := by decide +kernel
theorem dX7_in_13 : decode cX7_in 13 = .ok (.iconst 1, 1) := by decide +kernel
theorem dX7_in_14 : decode cX7_in 14 = .ok (.goto 4, 3) := by decide +kernel
theorem dX7_in_17 : decode cX7_in 17 = .ok (.iconst 0, 1) := by decide +kernel
theorem dX7_in_18 : decode cX7_in 18 = .ok (.ireturn, 1) := by decide +kernel
theorem dX7_init_0 : decode cX7_init 0 = .ok (.aload_n 0, 1) := by decide +kernel
theorem dX7_init_1 : decode cX7_init 1 = .ok (.invokespecial 1, 3) := by decide +kernel
theorem dX7_init_4 : decode cX7_init 4 = .ok (.aload_n 0, 1) := by decide +kernel
theorem dX7_init_5 : decode cX7_init 5 = .ok (.bipush 49, 2) := by decide +kernel
theorem dX7_init_7 : decode cX7_init 7 = .ok (.newarray .int, 2) := by decide +kernel
theorem dX7_init_9 : decode cX7_init 9 = .ok (.putfield 7, 3) := by decide +kernel
theorem dX7_init_12 : decode cX7_init 12 = .ok (.aload_n 0, 1) := by decide +kernel
theorem dX7_init_13 : decode cX7_init 13 = .ok (.bipush 7, 2) := by decide +kernel
theorem dX7_init_15 : decode cX7_init 15 = .ok (.newarray .int, 2) := by decide +kernel
theorem dX7_init_17 : decode cX7_init 17 = .ok (.putfield 13, 3) := by decide +kernel
theorem dX7_init_20 : decode cX7_init 20 = .ok (.aload_n 0, 1) := by decide +kernel
theorem dX7_init_21 : decode cX7_init 21 = .ok (.bipush 90, 2) := by decide +kernel
theorem dX7_init_23 : decode cX7_init 23 = .ok (.newarray .int, 2) := by decide +kernel
theorem dX7_init_25 : decode cX7_init 25 = .ok (.putfield 16, 3) := by decide +kernel
theorem dX7_init_28 : decode cX7_init 28 = .ok (.aload_n 0, 1) := by decide +kernel
theorem dX7_init_29 : decode cX7_init 29 = .ok (.bipush 21, 2) := by decide +kernel
theorem dX7_init_31 : decode cX7_init 31 = .ok (.newarray .int, 2) := by decide +kernel
theorem dX7_init_33 : decode cX7_init 33 = .ok (.putfield 19, 3) := by decide +kernel
theorem dX7_init_36 : decode cX7_init 36 = .ok (.aload_n 0, 1) := by decide +kernel
theorem dX7_init_37 : decode cX7_init 37 = .ok (.bipush 18, 2) := by decide +kernel
theorem dX7_init_39 : decode cX7_init 39 = .ok (.newarray .int, 2) := by decide +kernel
theorem dX7_init_41 : decode cX7_init 41 = .ok (.putfield 22, 3) := by decide +kernel
theorem dX7_init_44 : decode cX7_init 44 = .ok (.aload_n 0, 1) := by decide +kernel
theorem dX7_init_45 : decode cX7_init 45 = .ok (.sipush 168, 3) := by decide +kernel
theorem dX7_init_48 : decode cX7_init 48 = .ok (.newarray .int, 2) := by decide +kernel
theorem dX7_init_50 : decode cX7_init 50 = .ok (.putfield 25, 3) := by decide +kernel
theorem dX7_init_53 : decode cX7_init 53 = .ok (.aload_n 0, 1) := by decide +kernel
theorem dX7_init_54 : decode cX7_init 54 = .ok (.bipush 49, 2) := by decide +kernel
theorem dX7_init_56 : decode cX7_init 56 = .ok (.newarray .int, 2) := by decide +kernel
theorem dX7_init_58 : decode cX7_init 58 = .ok (.putfield 28, 3) := by decide +kernel
theorem dX7_init_61 : decode cX7_init 61 = .ok (.aload_n 0, 1) := by decide +kernel
theorem dX7_init_62 : decode cX7_init 62 = .ok (.sipush 128, 3) := by decide +kernel
theorem dX7_init_65 : decode cX7_init 65 = .ok (.newarray .int, 2) := by decide +kernel
theorem dX7_init_67 : decode cX7_init 67 = .ok (.putfield 31, 3) := by decide +kernel
theorem dX7_init_70 : decode cX7_init 70 = .ok (.aload_n 0, 1) := by decide +kernel
theorem dX7_init_71 : decode cX7_init 71 = .ok (.bipush 6, 2) := by decide +kernel
theorem dX7_init_73 : decode cX7_init 73 = .ok (.newarray .int, 2) := by decide +kernel
theorem dX7_init_75 : decode cX7_init 75 = .ok (.putfield 34, 3) := by decide +kernel
theorem dX7_init_78 : decode cX7_init 78 = .ok (.aload_n 0, 1) := by decide +kernel
theorem dX7_init_79 : decode cX7_init 79 = .ok (.bipush 6, 2) := by decide +kernel
theorem dX7_init_81 : decode cX7_init 81 = .ok (.newarray .int, 2) := by decide +kernel
theorem dX7_init_83 : decode cX7_init 83 = .ok (.putfield 37, 3) := by decide +kernel
theorem dX7_init_86 : decode cX7_init 86 = .ok (.aload_n 0, 1) := by decide +kernel
theorem dX7_init_87 : decode cX7_init 87 = .ok (.bipush 6, 2) := by decide +kernel
theorem dX7_init_89 : decode cX7_init 89 = .ok (.newarray .int, 2) := by decide +kernel
theorem dX7_init_91 : decode cX7_init 91 = .ok (.putfield 40, 3) := by decide +kernel
theorem dX7_init_94 : decode cX7_init 94 = .ok (.aload_n 0, 1) := by decide +kernel
theorem dX7_init_95 : decode cX7_init 95 = .ok (.sipush 217, 3) := by decide +kernel
theorem dX7_init_98 : decode cX7_init 98 = .ok (.newarray .int, 2) := by decide +kernel
theorem dX7_init_100 : decode cX7_init 100 = .ok (.putfield 43, 3) := by decide +kernel
theorem dX7_init_103 : decode cX7_init 103 = .ok (.aload_n 0, 1) := by decide +kernel
theorem dX7_init_104 : decode cX7_init 104 = .ok (.iconst 4, 1) := by decide +kernel
theorem dX7_init_105 : decode cX7_init 105 = .ok (.newarray .int, 2) := by decide +kernel
theorem dX7_init_107 : decode cX7_init 107 = .ok (.putfield 46, 3) := by decide +kernel
theorem dX7_init_110 : decode cX7_init 110 = .ok (.aload_n 0, 1) := by decide +kernel
theorem dX7_init_111 : decode cX7_init 111 = .ok (.iconst 4, 1) := by decide +kernel
theorem dX7_init_112 : decode cX7_init 112 = .ok (.newarray .int, 2) := by decide +kernel
theorem dX7_init_114 : decode cX7_init 114 = .ok (.putfield 49, 3) := by decide +kernel
theorem dX7_init_117 : decode cX7_init 117 = .ok (.aload_n 0, 1) := by decide +kernel
theorem dX7_init_118 : decode cX7_init 118 = .ok (.bipush 96, 2) := by decide +kernel
theorem dX7_init_120 : decode cX7_init 120 = .ok (.newarray .long, 2) := by decide +kernel
theorem dX7_init_122 : decode cX7_init 122 = .ok (.putfield 52, 3) := by decide +kernel
theorem dX7_init_125 : decode cX7_init 125 = .ok (.aload_n 0, 1) := by decide +kernel
theorem dX7_init_126 : decode cX7_init 126 = .ok (.bipush 24, 2) := by decide +kernel
theorem dX7_init_128 : decode cX7_init 128 = .ok (.newarray .long, 2) := by decide +kernel
theorem dX7_init_130 : decode cX7_init 130 = .ok (.putfield 56, 3) := by decide +kernel
theorem dX7_init_133 : decode cX7_init 133 = .ok (.aload_n 0, 1) := by decide +kernel
theorem dX7_init_134 : decode cX7_init 134 = .ok (.getfield 7, 3) := by decide +kernel
theorem dX7_init_137 : decode cX7_init 137 = .ok (.iconst 3, 1) := by decide +kernel
theorem dX7_init_138 : decode cX7_init 138 = .ok (.iconst 1, 1) := by decide +kernel
theorem dX7_init_139 : decode cX7_init 139 = .ok (.iastore, 1) := by decide +kernel
theorem dX7_init_140 : decode cX7_init 140 = .ok (.iconst 0, 1) := by decide +kernel
theorem dX7_init_141 : decode cX7_init 141 = .ok (.istore_n 1, 1) := by decide +kernel
theorem dX7_init_142 : decode cX7_init 142 = .ok (.iload_n 1, 1) := by decide +kernel
theorem dX7_init_143 : decode cX7_init 143 = .ok (.iconst 4, 1) := by decide +kernel
theorem dX7_init_144 : decode cX7_init 144 = .ok (.if_icmp .ge 16, 3) := by decide +kernel
theorem dX7_init_147 : decode cX7_init 147 = .ok (.aload_n 0, 1) := by decide +kernel
theorem dX7_init_148 : decode cX7_init 148 = .ok (.getfield 46, 3) := by decide +kernel
theorem dX7_init_151 : decode cX7_init 151 = .ok (.iload_n 1, 1) := by decide +kernel
theorem dX7_init_152 : decode cX7_init 152 = .ok (.iconst (-1), 1) := by decide +kernel
theorem dX7_init_153 : decode cX7_init 153 = .ok (.iastore, 1) := by decide +kernel
theorem dX7_init_154 : decode cX7_init 154 = .ok (.iinc 1 1, 3) := by decide +kernel
theorem dX7_init_157 : decode cX7_init 157 = .ok (.goto (-15), 3) := by decide +kernel
theorem dX7_init_160 : decode cX7_init 160 = .ok (.return_, 1) := by decide +kernel
theorem dX7_isPuddle_0 : decode cX7_isPuddle 0 = .ok (.iload_n 1, 1) := by decide +kernel
theorem dX7_isPuddle_1 : decode cX7_isPuddle 1 = .ok (.i2l, 1) := by decide +kernel
theorem dX7_isPuddle_2 : decode cX7_isPuddle 2 = .ok (.lconst 0, 1) := by decide +kernel
theorem dX7_isPuddle_3 : decode cX7_isPuddle 3 = .ok (.aload_n 0, 1) := by decide +kernel
theorem dX7_isPuddle_4 : decode cX7_isPuddle 4 = .ok (.getfield 7, 3) := by decide +kernel
theorem dX7_isPuddle_7 : decode cX7_isPuddle 7 = .ok (.iconst 0, 1) := by decide +kernel
theorem dX7_isPuddle_8 : decode cX7_isPuddle 8 = .ok (.iaload, 1) := by decide +kernel
theorem dX7_isPuddle_9 : decode cX7_isPuddle 9 = .ok (.iconst 1, 1) := by decide +kernel
theorem dX7_isPuddle_10 : decode cX7_isPuddle 10 = .ok (.isub, 1) := by decide +kernel
theorem dX7_isPuddle_11 : decode cX7_isPuddle 11 = .ok (.i2l, 1) := by decide +kernel
theorem dX7_isPuddle_12 : decode cX7_isPuddle 12 = .ok (.invokestatic 59, 3) := by decide +kernel
theorem dX7_isPuddle_15 : decode cX7_isPuddle 15 = .ok (.ireturn, 1) := by decide +kernel
theorem dX7_isPerson_0 : decode cX7_isPerson 0 = .ok (.iload_n 1, 1) := by decide +kernel
theorem dX7_isPerson_1 : decode cX7_isPerson 1 = .ok (.i2l, 1) := by decide +kernel
theorem dX7_isPerson_2 : decode cX7_isPerson 2 = .ok (.lconst 0, 1) := by decide +kernel
theorem dX7_isPerson_3 : decode cX7_isPerson 3 = .ok (.aload_n 0, 1) := by decide +kernel
theorem dX7_isPerson_4 : decode cX7_isPerson 4 = .ok (.getfield 7, 3) := by decide +kernel
theorem dX7_isPerson_7 : decode cX7_isPerson 7 = .ok (.iconst 1, 1) := by decide +kernel
theorem dX7_isPerson_8 : decode cX7_isPerson 8 = .ok (.iaload, 1) := by decide +kernel
theorem dX7_isPerson_9 : decode cX7_isPerson 9 = .ok (.iconst 1, 1) := by decide +kernel
theorem dX7_isPerson_10 : decode cX7_isPerson 10 = .ok (.isub, 1) := by decide +kernel
theorem dX7_isPerson_11 : decode cX7_isPerson 11 = .ok (.i2l, 1) := by decide +kernel
theorem dX7_isPerson_12 : decode cX7_isPerson 12 = .ok (.invokestatic 59, 3) := by decide +kernel
theorem dX7_isPerson_15 : decode cX7_isPerson 15 = .ok (.ireturn, 1) := by decide +kernel
theorem dX7_ofPuddle_0 : decode cX7_ofPuddle 0 = .ok (.aload_n 0, 1) := by decide +kernel
theorem dX7_ofPuddle_1 : decode cX7_ofPuddle 1 = .ok (.getfield 7, 3) := by decide +kernel
theorem dX7_ofPuddle_4 : decode cX7_ofPuddle 4 = .ok (.iconst 4, 1) := by decide +kernel
theorem dX7_ofPuddle_5 : decode cX7_ofPuddle 5 = .ok (.iconst 3, 1) := by decide +kernel
theorem dX7_ofPuddle_6 : decode cX7_ofPuddle 6 = .ok (.iload_n 1, 1) := by decide +kernel
theorem dX7_ofPuddle_7 : decode cX7_ofPuddle 7 = .ok (.imul, 1) := by decide +kernel
theorem dX7_ofPuddle_8 : decode cX7_ofPuddle 8 = .ok (.iadd, 1) := by decide +kernel
theorem dX7_ofPuddle_9 : decode cX7_ofPuddle 9 = .ok (.iload_n 2, 1) := by decide +kernel
theorem dX7_ofPuddle_10 : decode cX7_ofPuddle 10 = .ok (.iadd, 1) := by decide +kernel
theorem dX7_ofPuddle_11 : decode cX7_ofPuddle 11 = .ok (.iaload, 1) := by decide +kernel
theorem dX7_ofPuddle_12 : decode cX7_ofPuddle 12 = .ok (.ireturn, 1) := by decide +kernel
theorem dX7_deep_0 : decode cX7_deep 0 = .ok (.aload_n 0, 1) := by decide +kernel
theorem dX7_deep_1 : decode cX7_deep 1 = .ok (.iload_n 1, 1) := by decide +kernel
theorem dX7_deep_2 : decode cX7_deep 2 = .ok (.iconst 2, 1) := by decide +kernel
theorem dX7_deep_3 : decode cX7_deep 3 = .ok (.invokevirtual 63, 3) := by decide +kernel
theorem dX7_deep_6 : decode cX7_deep 6 = .ok (.ireturn, 1) := by decide +kernel
theorem dX7_deeps_0 : decode cX7_deeps 0 = .ok (.aload_n 0, 1) := by decide +kernel
theorem dX7_deeps_1 : decode cX7_deeps 1 = .ok (.getfield 7, 3) := by decide +kernel
theorem dX7_deeps_4 : decode cX7_deeps 4 = .ok (.iconst 4, 1) := by decide +kernel
theorem dX7_deeps_5 : decode cX7_deeps 5 = .ok (.iconst 3, 1) := by decide +kernel
theorem dX7_deeps_6 : decode cX7_deeps 6 = .ok (.iload_n 1, 1) := by decide +kernel
theorem dX7_deeps_7 : decode cX7_deeps 7 = .ok (.imul, 1) := by decide +kernel
theorem dX7_deeps_8 : decode cX7_deeps 8 = .ok (.iadd, 1) := by decide +kernel
theorem dX7_deeps_9 : decode cX7_deeps 9 = .ok (.iconst 2, 1) := by decide +kernel
theorem dX7_deeps_10 : decode cX7_deeps 10 = .ok (.iadd, 1) := by decide +kernel
theorem dX7_deeps_11 : decode cX7_deeps 11 = .ok (.iload_n 2, 1) := by decide +kernel
theorem dX7_deeps_12 : decode cX7_deeps 12 = .ok (.ifCond .ge 7, 3) := by decide +kernel
theorem dX7_deeps_15 : decode cX7_deeps 15 = .ok (.iconst 0, 1) := by decide +kernel
theorem dX7_deeps_16 : decode cX7_deeps 16 = .ok (.goto 15, 3) := by decide +kernel
theorem dX7_deeps_19 : decode cX7_deeps 19 = .ok (.iload_n 2, 1) := by decide +kernel
theorem dX7_deeps_20 : decode cX7_deeps 20 = .ok (.bipush 60, 2) := by decide +kernel
theorem dX7_deeps_22 : decode cX7_deeps 22 = .ok (.if_icmp .le 8, 3) := by decide +kernel
theorem dX7_deeps_25 : decode cX7_deeps 25 = .ok (.bipush 60, 2) := by decide +kernel
theorem dX7_deeps_27 : decode cX7_deeps 27 = .ok (.goto 4, 3) := by decide +kernel
theorem dX7_deeps_30 : decode cX7_deeps 30 = .ok (.iload_n 2, 1) := by decide +kernel
theorem dX7_deeps_31 : decode cX7_deeps 31 = .ok (.iastore, 1) := by decide +kernel
theorem dX7_deeps_32 : decode cX7_deeps 32 = .ok (.return_, 1) := by decide +kernel
theorem dX7_ofPerson_0 : decode cX7_ofPerson 0 = .ok (.aload_n 0, 1) := by decide +kernel
theorem dX7_ofPerson_1 : decode cX7_ofPerson 1 = .ok (.getfield 7, 3) := by decide +kernel
theorem dX7_ofPerson_4 : decode cX7_ofPerson 4 = .ok (.bipush 25, 2) := by decide +kernel
theorem dX7_ofPerson_6 : decode cX7_ofPerson 6 = .ok (.iconst 4, 1) := by decide +kernel
theorem dX7_ofPerson_7 : decode cX7_ofPerson 7 = .ok (.iload_n 1, 1) := by decide +kernel
theorem dX7_ofPerson_8 : decode cX7_ofPerson 8 = .ok (.imul, 1) := by decide +kernel
theorem dX7_ofPerson_9 : decode cX7_ofPerson 9 = .ok (.iadd, 1) := by decide +kernel
theorem dX7_ofPerson_10 : decode cX7_ofPerson 10 = .ok (.iload_n 2, 1) := by decide +kernel
theorem dX7_ofPerson_11 : decode cX7_ofPerson 11 = .ok (.iadd, 1) := by decide +kernel
theorem dX7_ofPerson_12 : decode cX7_ofPerson 12 = .ok (.iaload, 1) := by decide +kernel
theorem dX7_ofPerson_13 : decode cX7_ofPerson 13 = .ok (.ireturn, 1) := by decide +kernel
theorem dX7_claimed_0 : decode cX7_claimed 0 = .ok (.aload_n 0, 1) := by decide +kernel
theorem dX7_claimed_1 : decode cX7_claimed 1 = .ok (.iload_n 1, 1) := by decide +kernel
theorem dX7_claimed_2 : decode cX7_claimed 2 = .ok (.iconst 3, 1) := by decide +kernel
theorem dX7_claimed_3 : decode cX7_claimed 3 = .ok (.invokevirtual 67, 3) := by decide +kernel
theorem dX7_claimed_6 : decode cX7_claimed 6 = .ok (.ireturn, 1) := by decide +kernel
theorem dX7_tells_0 : decode cX7_tells 0 = .ok (.aload_n 0, 1) := by decide +kernel
theorem dX7_tells_1 : decode cX7_tells 1 = .ok (.getfield 7, 3) := by decide +kernel
theorem dX7_tells_4 : decode cX7_tells 4 = .ok (.bipush 25, 2) := by decide +kernel
theorem dX7_tells_6 : decode cX7_tells 6 = .ok (.iconst 4, 1) := by decide +kernel
theorem dX7_tells_7 : decode cX7_tells 7 = .ok (.iload_n 1, 1) := by decide +kernel
theorem dX7_tells_8 : decode cX7_tells 8 = .ok (.imul, 1) := by decide +kernel
theorem dX7_tells_9 : decode cX7_tells 9 = .ok (.iadd, 1) := by decide +kernel
theorem dX7_tells_10 : decode cX7_tells 10 = .ok (.iload_n 3, 1) := by decide +kernel
theorem dX7_tells_11 : decode cX7_tells 11 = .ok (.iadd, 1) := by decide +kernel
theorem dX7_tells_12 : decode cX7_tells 12 = .ok (.iload_n 2, 1) := by decide +kernel
theorem dX7_tells_13 : decode cX7_tells 13 = .ok (.iastore, 1) := by decide +kernel
theorem dX7_tells_14 : decode cX7_tells 14 = .ok (.return_, 1) := by decide +kernel
theorem dX7_whoClaimed_0 : decode cX7_whoClaimed 0 = .ok (.bipush (-4), 2) := by decide +kernel
theorem dX7_whoClaimed_2 : decode cX7_whoClaimed 2 = .ok (.istore_n 2, 1) := by decide +kernel
theorem dX7_whoClaimed_3 : decode cX7_whoClaimed 3 = .ok (.iconst 0, 1) := by decide +kernel
theorem dX7_whoClaimed_4 : decode cX7_whoClaimed 4 = .ok (.istore_n 3, 1) := by decide +kernel
theorem dX7_whoClaimed_5 : decode cX7_whoClaimed 5 = .ok (.iload_n 3, 1) := by decide +kernel
theorem dX7_whoClaimed_6 : decode cX7_whoClaimed 6 = .ok (.aload_n 0, 1) := by decide +kernel
theorem dX7_whoClaimed_7 : decode cX7_whoClaimed 7 = .ok (.getfield 7, 3) := by decide +kernel
theorem dX7_whoClaimed_10 : decode cX7_whoClaimed 10 = .ok (.iconst 1, 1) := by decide +kernel
theorem dX7_whoClaimed_11 : decode cX7_whoClaimed 11 = .ok (.iaload, 1) := by decide +kernel
theorem dX7_whoClaimed_12 : decode cX7_whoClaimed 12 = .ok (.if_icmp .ge 24, 3) := by decide +kernel
theorem dX7_whoClaimed_15 : decode cX7_whoClaimed 15 = .ok (.aload_n 0, 1) := by decide +kernel
theorem dX7_whoClaimed_16 : decode cX7_whoClaimed 16 = .ok (.iload_n 3, 1) := by decide +kernel
theorem dX7_whoClaimed_17 : decode cX7_whoClaimed 17 = .ok (.invokevirtual 70, 3) := by decide +kernel
theorem dX7_whoClaimed_20 : decode cX7_whoClaimed 20 = .ok (.iload_n 1, 1) := by decide +kernel
theorem dX7_whoClaimed_21 : decode cX7_whoClaimed 21 = .ok (.if_icmp .ne 7, 3) := by decide +kernel
theorem dX7_whoClaimed_24 : decode cX7_whoClaimed 24 = .ok (.iload_n 3, 1) := by decide +kernel
theorem dX7_whoClaimed_25 : decode cX7_whoClaimed 25 = .ok (.goto 4, 3) := by decide +kernel
theorem dX7_whoClaimed_28 : decode cX7_whoClaimed 28 = .ok (.iload_n 2, 1) := by decide +kernel
theorem dX7_whoClaimed_29 : decode cX7_whoClaimed 29 = .ok (.istore_n 2, 1) := by decide +kernel
theorem dX7_whoClaimed_30 : decode cX7_whoClaimed 30 = .ok (.iinc 3 1, 3) := by decide +kernel
theorem dX7_whoClaimed_33 : decode cX7_whoClaimed 33 = .ok (.goto (-28), 3) := by decide +kernel
theorem dX7_whoClaimed_36 : decode cX7_whoClaimed 36 = .ok (.iload_n 2, 1) := by decide +kernel
theorem dX7_whoClaimed_37 : decode cX7_whoClaimed 37 = .ok (.ireturn, 1) := by decide +kernel
theorem dX7_isDry_0 : decode cX7_isDry 0 = .ok (.aload_n 0, 1) := by decide +kernel
theorem dX7_isDry_1 : decode cX7_isDry 1 = .ok (.iload_n 1, 1) := by decide +kernel
theorem dX7_isDry_2 : decode cX7_isDry 2 = .ok (.invokevirtual 74, 3) := by decide +kernel
theorem dX7_isDry_5 : decode cX7_isDry 5 = .ok (.ifCond .eq 15, 3) := by decide +kernel
theorem dX7_isDry_8 : decode cX7_isDry 8 = .ok (.aload_n 0, 1) := by decide +kernel
theorem dX7_isDry_9 : decode cX7_isDry 9 = .ok (.iload_n 1, 1) := by decide +kernel
theorem dX7_isDry_10 : decode cX7_isDry 10 = .ok (.invokevirtual 78, 3) := by decide +kernel
theorem dX7_isDry_13 : decode cX7_isDry 13 = .ok (.ifCond .ne 7, 3) := by decide +kernel
theorem dX7_isDry_16 : decode cX7_isDry 16 = .ok (.iconst 1, 1) := by decide +kernel
theorem dX7_isDry_17 : decode cX7_isDry 17 = .ok (.goto 4, 3) := by decide +kernel
theorem dX7_isDry_20 : decode cX7_isDry 20 = .ok (.iconst 0, 1) := by decide +kernel
theorem dX7_isDry_21 : decode cX7_isDry 21 = .ok (.ireturn, 1) := by decide +kernel
theorem dX7_less_0 : decode cX7_less 0 = .ok (.aload_n 0, 1) := by decide +kernel
theorem dX7_less_1 : decode cX7_less 1 = .ok (.getfield 7, 3) := by decide +kernel
theorem dX7_less_4 : decode cX7_less 4 = .ok (.iconst 2, 1) := by decide +kernel
theorem dX7_less_5 : decode cX7_less 5 = .ok (.iaload, 1) := by decide +kernel
theorem dX7_less_6 : decode cX7_less 6 = .ok (.iconst 2, 1) := by decide +kernel
theorem dX7_less_7 : decode cX7_less 7 = .ok (.irem, 1) := by decide +kernel
theorem dX7_less_8 : decode cX7_less 8 = .ok (.ifCond .ne 7, 3) := by decide +kernel
theorem dX7_less_11 : decode cX7_less 11 = .ok (.iconst 4, 1) := by decide +kernel
theorem dX7_less_12 : decode cX7_less 12 = .ok (.goto 4, 3) := by decide +kernel
theorem dX7_less_15 : decode cX7_less 15 = .ok (.iconst 2, 1) := by decide +kernel
theorem dX7_less_16 : decode cX7_less 16 = .ok (.istore_n 2, 1) := by decide +kernel
theorem dX7_less_17 : decode cX7_less 17 = .ok (.aload_n 0, 1) := by decide +kernel
theorem dX7_less_18 : decode cX7_less 18 = .ok (.iload_n 1, 1) := by decide +kernel
theorem dX7_less_19 : decode cX7_less 19 = .ok (.iconst 0, 1) := by decide +kernel
theorem dX7_less_20 : decode cX7_less 20 = .ok (.invokevirtual 63, 3) := by decide +kernel
theorem dX7_less_23 : decode cX7_less 23 = .ok (.tableswitch 51 0 3 #[29, 31, 33, 35], 29) := by decide +kernel
theorem dX7_less_52 : decode cX7_less 52 = .ok (.iconst 2, 1) := by decide +kernel
theorem dX7_less_53 : decode cX7_less 53 = .ok (.ireturn, 1) := by decide +kernel
theorem dX7_less_54 : decode cX7_less 54 = .ok (.iconst 1, 1) := by decide +kernel
theorem dX7_less_55 : decode cX7_less 55 = .ok (.ireturn, 1) := by decide +kernel
theorem dX7_less_56 : decode cX7_less 56 = .ok (.iload_n 2, 1) := by decide +kernel
theorem dX7_less_57 : decode cX7_less 57 = .ok (.ireturn, 1) := by decide +kernel
theorem dX7_less_58 : decode cX7_less 58 = .ok (.aload_n 0, 1) := by decide +kernel
theorem dX7_less_59 : decode cX7_less 59 = .ok (.iload_n 1, 1) := by decide +kernel
theorem dX7_less_60 : decode cX7_less 60 = .ok (.invokevirtual 78, 3) := by decide +kernel
theorem dX7_less_63 : decode cX7_less 63 = .ok (.bipush 30, 2) := by decide +kernel
theorem dX7_less_65 : decode cX7_less 65 = .ok (.if_icmp .lt 7, 3) := by decide +kernel
theorem dX7_less_68 : decode cX7_less 68 = .ok (.iconst 0, 1) := by decide +kernel
theorem dX7_less_69 : decode cX7_less 69 = .ok (.goto 4, 3) := by decide +kernel
theorem dX7_less_72 : decode cX7_less 72 = .ok (.iconst 1, 1) := by decide +kernel
theorem dX7_less_73 : decode cX7_less 73 = .ok (.ireturn, 1) := by decide +kernel
theorem dX7_less_74 : decode cX7_less 74 = .ok (.iload_n 2, 1) := by decide +kernel
theorem dX7_less_75 : decode cX7_less 75 = .ok (.aload_n 0, 1) := by decide +kernel
theorem dX7_less_76 : decode cX7_less 76 = .ok (.iload_n 1, 1) := by decide +kernel
theorem dX7_less_77 : decode cX7_less 77 = .ok (.iconst 1, 1) := by decide +kernel
theorem dX7_less_78 : decode cX7_less 78 = .ok (.isub, 1) := by decide +kernel
theorem dX7_less_79 : decode cX7_less 79 = .ok (.invokevirtual 81, 3) := by decide +kernel
theorem dX7_less_82 : decode cX7_less 82 = .ok (.ifCond .eq 7, 3) := by decide +kernel
theorem dX7_less_85 : decode cX7_less 85 = .ok (.iconst 2, 1) := by decide +kernel
theorem dX7_less_86 : decode cX7_less 86 = .ok (.goto 4, 3) := by decide +kernel
theorem dX7_less_89 : decode cX7_less 89 = .ok (.iconst 0, 1) := by decide +kernel
theorem dX7_less_90 : decode cX7_less 90 = .ok (.iadd, 1) := by decide +kernel
theorem dX7_less_91 : decode cX7_less 91 = .ok (.aload_n 0, 1) := by decide +kernel
theorem dX7_less_92 : decode cX7_less 92 = .ok (.iload_n 1, 1) := by decide +kernel
theorem dX7_less_93 : decode cX7_less 93 = .ok (.iconst 1, 1) := by decide +kernel
theorem dX7_less_94 : decode cX7_less 94 = .ok (.iadd, 1) := by decide +kernel
theorem dX7_less_95 : decode cX7_less 95 = .ok (.invokevirtual 81, 3) := by decide +kernel
theorem dX7_less_98 : decode cX7_less 98 = .ok (.ifCond .eq 7, 3) := by decide +kernel
theorem dX7_less_101 : decode cX7_less 101 = .ok (.iconst 2, 1) := by decide +kernel
theorem dX7_less_102 : decode cX7_less 102 = .ok (.goto 4, 3) := by decide +kernel
theorem dX7_less_105 : decode cX7_less 105 = .ok (.iconst 0, 1) := by decide +kernel
theorem dX7_less_106 : decode cX7_less 106 = .ok (.iadd, 1) := by decide +kernel
theorem dX7_less_107 : decode cX7_less 107 = .ok (.ireturn, 1) := by decide +kernel
theorem dX7_fits_0 : decode cX7_fits 0 = .ok (.aload_n 0, 1) := by decide +kernel
theorem dX7_fits_1 : decode cX7_fits 1 = .ok (.iload_n 2, 1) := by decide +kernel
theorem dX7_fits_2 : decode cX7_fits 2 = .ok (.iconst 1, 1) := by decide +kernel
theorem dX7_fits_3 : decode cX7_fits 3 = .ok (.invokevirtual 63, 3) := by decide +kernel
theorem dX7_fits_6 : decode cX7_fits 6 = .ok (.aload_n 0, 1) := by decide +kernel
theorem dX7_fits_7 : decode cX7_fits 7 = .ok (.iload_n 1, 1) := by decide +kernel
theorem dX7_fits_8 : decode cX7_fits 8 = .ok (.iconst 0, 1) := by decide +kernel
theorem dX7_fits_9 : decode cX7_fits 9 = .ok (.invokevirtual 67, 3) := by decide +kernel
theorem dX7_fits_12 : decode cX7_fits 12 = .ok (.if_icmp .ne 31, 3) := by decide +kernel
theorem dX7_fits_15 : decode cX7_fits 15 = .ok (.aload_n 0, 1) := by decide +kernel
theorem dX7_fits_16 : decode cX7_fits 16 = .ok (.iload_n 2, 1) := by decide +kernel
theorem dX7_fits_17 : decode cX7_fits 17 = .ok (.invokevirtual 78, 3) := by decide +kernel
theorem dX7_fits_20 : decode cX7_fits 20 = .ok (.aload_n 0, 1) := by decide +kernel
theorem dX7_fits_21 : decode cX7_fits 21 = .ok (.iload_n 1, 1) := by decide +kernel
theorem dX7_fits_22 : decode cX7_fits 22 = .ok (.iconst 2, 1) := by decide +kernel
theorem dX7_fits_23 : decode cX7_fits 23 = .ok (.invokevirtual 67, 3) := by decide +kernel
theorem dX7_fits_26 : decode cX7_fits 26 = .ok (.if_icmp .lt 17, 3) := by decide +kernel
theorem dX7_fits_29 : decode cX7_fits 29 = .ok (.aload_n 0, 1) := by decide +kernel
theorem dX7_fits_30 : decode cX7_fits 30 = .ok (.iload_n 2, 1) := by decide +kernel
theorem dX7_fits_31 : decode cX7_fits 31 = .ok (.invokevirtual 84, 3) := by decide +kernel
theorem dX7_fits_34 : decode cX7_fits 34 = .ok (.bipush (-4), 2) := by decide +kernel
theorem dX7_fits_36 : decode cX7_fits 36 = .ok (.if_icmp .ne 7, 3) := by decide +kernel
theorem dX7_fits_39 : decode cX7_fits 39 = .ok (.iconst 1, 1) := by decide +kernel
theorem dX7_fits_40 : decode cX7_fits 40 = .ok (.goto 4, 3) := by decide +kernel
theorem dX7_fits_43 : decode cX7_fits 43 = .ok (.iconst 0, 1) := by decide +kernel
theorem dX7_fits_44 : decode cX7_fits 44 = .ok (.ireturn, 1) := by decide +kernel
theorem dX7_fitsFor_0 : decode cX7_fitsFor 0 = .ok (.iconst 0, 1) := by decide +kernel
theorem dX7_fitsFor_1 : decode cX7_fitsFor 1 = .ok (.istore_n 2, 1) := by decide +kernel
theorem dX7_fitsFor_2 : decode cX7_fitsFor 2 = .ok (.iconst 0, 1) := by decide +kernel
theorem dX7_fitsFor_3 : decode cX7_fitsFor 3 = .ok (.istore_n 3, 1) := by decide +kernel
theorem dX7_fitsFor_4 : decode cX7_fitsFor 4 = .ok (.iload_n 3, 1) := by decide +kernel
theorem dX7_fitsFor_5 : decode cX7_fitsFor 5 = .ok (.aload_n 0, 1) := by decide +kernel
theorem dX7_fitsFor_6 : decode cX7_fitsFor 6 = .ok (.getfield 7, 3) := by decide +kernel
theorem dX7_fitsFor_9 : decode cX7_fitsFor 9 = .ok (.iconst 0, 1) := by decide +kernel
theorem dX7_fitsFor_10 : decode cX7_fitsFor 10 = .ok (.iaload, 1) := by decide +kernel
theorem dX7_fitsFor_11 : decode cX7_fitsFor 11 = .ok (.if_icmp .ge 28, 3) := by decide +kernel
theorem dX7_fitsFor_14 : decode cX7_fitsFor 14 = .ok (.iload_n 2, 1) := by decide +kernel
theorem dX7_fitsFor_15 : decode cX7_fitsFor 15 = .ok (.aload_n 0, 1) := by decide +kernel
theorem dX7_fitsFor_16 : decode cX7_fitsFor 16 = .ok (.iload_n 1, 1) := by decide +kernel
theorem dX7_fitsFor_17 : decode cX7_fitsFor 17 = .ok (.iload_n 3, 1) := by decide +kernel
theorem dX7_fitsFor_18 : decode cX7_fitsFor 18 = .ok (.invokevirtual 87, 3) := by decide +kernel
theorem dX7_fitsFor_21 : decode cX7_fitsFor 21 = .ok (.ifCond .eq 9, 3) := by decide +kernel
theorem dX7_fitsFor_24 : decode cX7_fitsFor 24 = .ok (.iconst 1, 1) := by decide +kernel
theorem dX7_fitsFor_25 : decode cX7_fitsFor 25 = .ok (.iload_n 3, 1) := by decide +kernel
theorem dX7_fitsFor_26 : decode cX7_fitsFor 26 = .ok (.ishl, 1) := by decide +kernel
theorem dX7_fitsFor_27 : decode cX7_fitsFor 27 = .ok (.goto 4, 3) := by decide +kernel
theorem dX7_fitsFor_30 : decode cX7_fitsFor 30 = .ok (.iconst 0, 1) := by decide +kernel
theorem dX7_fitsFor_31 : decode cX7_fitsFor 31 = .ok (.ior, 1) := by decide +kernel
theorem dX7_fitsFor_32 : decode cX7_fitsFor 32 = .ok (.istore_n 2, 1) := by decide +kernel
theorem dX7_fitsFor_33 : decode cX7_fitsFor 33 = .ok (.iinc 3 1, 3) := by decide +kernel
theorem dX7_fitsFor_36 : decode cX7_fitsFor 36 = .ok (.goto (-32), 3) := by decide +kernel
theorem dX7_fitsFor_39 : decode cX7_fitsFor 39 = .ok (.iload_n 2, 1) := by decide +kernel
theorem dX7_fitsFor_40 : decode cX7_fitsFor 40 = .ok (.ireturn, 1) := by decide +kernel
theorem dX7_looks_0 : decode cX7_looks 0 = .ok (.bipush (-4), 2) := by decide +kernel
theorem dX7_looks_2 : decode cX7_looks 2 = .ok (.istore_n 2, 1) := by decide +kernel
theorem dX7_looks_3 : decode cX7_looks 3 = .ok (.iconst 0, 1) := by decide +kernel
theorem dX7_looks_4 : decode cX7_looks 4 = .ok (.istore_n 3, 1) := by decide +kernel
theorem dX7_looks_5 : decode cX7_looks 5 = .ok (.iload_n 3, 1) := by decide +kernel
theorem dX7_looks_6 : decode cX7_looks 6 = .ok (.aload_n 0, 1) := by decide +kernel
theorem dX7_looks_7 : decode cX7_looks 7 = .ok (.getfield 7, 3) := by decide +kernel
theorem dX7_looks_10 : decode cX7_looks 10 = .ok (.iconst 0, 1) := by decide +kernel
theorem dX7_looks_11 : decode cX7_looks 11 = .ok (.iaload, 1) := by decide +kernel
theorem dX7_looks_12 : decode cX7_looks 12 = .ok (.if_icmp .ge 43, 3) := by decide +kernel
theorem dX7_looks_15 : decode cX7_looks 15 = .ok (.aload_n 0, 1) := by decide +kernel
theorem dX7_looks_16 : decode cX7_looks 16 = .ok (.iload_n 1, 1) := by decide +kernel
theorem dX7_looks_17 : decode cX7_looks 17 = .ok (.iload_n 3, 1) := by decide +kernel
theorem dX7_looks_18 : decode cX7_looks 18 = .ok (.invokevirtual 87, 3) := by decide +kernel
theorem dX7_looks_21 : decode cX7_looks 21 = .ok (.ifCond .eq 26, 3) := by decide +kernel
theorem dX7_looks_24 : decode cX7_looks 24 = .ok (.iload_n 2, 1) := by decide +kernel
theorem dX7_looks_25 : decode cX7_looks 25 = .ok (.bipush (-4), 2) := by decide +kernel
theorem dX7_looks_27 : decode cX7_looks 27 = .ok (.if_icmp .eq 16, 3) := by decide +kernel
theorem dX7_looks_30 : decode cX7_looks 30 = .ok (.aload_n 0, 1) := by decide +kernel
theorem dX7_looks_31 : decode cX7_looks 31 = .ok (.iload_n 3, 1) := by decide +kernel
theorem dX7_looks_32 : decode cX7_looks 32 = .ok (.invokevirtual 78, 3) := by decide +kernel
theorem dX7_looks_35 : decode cX7_looks 35 = .ok (.aload_n 0, 1) := by decide +kernel
theorem dX7_looks_36 : decode cX7_looks 36 = .ok (.iload_n 2, 1) := by decide +kernel
theorem dX7_looks_37 : decode cX7_looks 37 = .ok (.invokevirtual 78, 3) := by decide +kernel
theorem dX7_looks_40 : decode cX7_looks 40 = .ok (.if_icmp .le 7, 3) := by decide +kernel
theorem dX7_looks_43 : decode cX7_looks 43 = .ok (.iload_n 3, 1) := by decide +kernel
theorem dX7_looks_44 : decode cX7_looks 44 = .ok (.goto 4, 3) := by decide +kernel
theorem dX7_looks_47 : decode cX7_looks 47 = .ok (.iload_n 2, 1) := by decide +kernel
theorem dX7_looks_48 : decode cX7_looks 48 = .ok (.istore_n 2, 1) := by decide +kernel
theorem dX7_looks_49 : decode cX7_looks 49 = .ok (.iinc 3 1, 3) := by decide +kernel
theorem dX7_looks_52 : decode cX7_looks 52 = .ok (.goto (-47), 3) := by decide +kernel
theorem dX7_looks_55 : decode cX7_looks 55 = .ok (.aload_n 0, 1) := by decide +kernel
theorem dX7_looks_56 : decode cX7_looks 56 = .ok (.iload_n 1, 1) := by decide +kernel
theorem dX7_looks_57 : decode cX7_looks 57 = .ok (.iload_n 2, 1) := by decide +kernel
theorem dX7_looks_58 : decode cX7_looks 58 = .ok (.iconst 3, 1) := by decide +kernel
theorem dX7_looks_59 : decode cX7_looks 59 = .ok (.invokevirtual 91, 3) := by decide +kernel
theorem dX7_looks_62 : decode cX7_looks 62 = .ok (.return_, 1) := by decide +kernel
theorem dX7_goesBy_0 : decode cX7_goesBy 0 = .ok (.iconst 0, 1) := by decide +kernel
theorem dX7_goesBy_1 : decode cX7_goesBy 1 = .ok (.istore_n 1, 1) := by decide +kernel
theorem dX7_goesBy_2 : decode cX7_goesBy 2 = .ok (.iload_n 1, 1) := by decide +kernel
theorem dX7_goesBy_3 : decode cX7_goesBy 3 = .ok (.aload_n 0, 1) := by decide +kernel
theorem dX7_goesBy_4 : decode cX7_goesBy 4 = .ok (.getfield 7, 3) := by decide +kernel
theorem dX7_goesBy_7 : decode cX7_goesBy 7 = .ok (.iconst 1, 1) := by decide +kernel
theorem dX7_goesBy_8 : decode cX7_goesBy 8 = .ok (.iaload, 1) := by decide +kernel
theorem dX7_goesBy_9 : decode cX7_goesBy 9 = .ok (.if_icmp .ge 39, 3) := by decide +kernel
theorem dX7_goesBy_12 : decode cX7_goesBy 12 = .ok (.aload_n 0, 1) := by decide +kernel
theorem dX7_goesBy_13 : decode cX7_goesBy 13 = .ok (.iload_n 1, 1) := by decide +kernel
theorem dX7_goesBy_14 : decode cX7_goesBy 14 = .ok (.invokevirtual 70, 3) := by decide +kernel
theorem dX7_goesBy_17 : decode cX7_goesBy 17 = .ok (.bipush (-4), 2) := by decide +kernel
theorem dX7_goesBy_19 : decode cX7_goesBy 19 = .ok (.if_icmp .ne 23, 3) := by decide +kernel
theorem dX7_goesBy_22 : decode cX7_goesBy 22 = .ok (.aload_n 0, 1) := by decide +kernel
theorem dX7_goesBy_23 : decode cX7_goesBy 23 = .ok (.iload_n 1, 1) := by decide +kernel
theorem dX7_goesBy_24 : decode cX7_goesBy 24 = .ok (.iconst 1, 1) := by decide +kernel
theorem dX7_goesBy_25 : decode cX7_goesBy 25 = .ok (.invokevirtual 67, 3) := by decide +kernel
theorem dX7_goesBy_28 : decode cX7_goesBy 28 = .ok (.aload_n 0, 1) := by decide +kernel
theorem dX7_goesBy_29 : decode cX7_goesBy 29 = .ok (.getfield 7, 3) := by decide +kernel
theorem dX7_goesBy_32 : decode cX7_goesBy 32 = .ok (.iconst 2, 1) := by decide +kernel
theorem dX7_goesBy_33 : decode cX7_goesBy 33 = .ok (.iaload, 1) := by decide +kernel
theorem dX7_goesBy_34 : decode cX7_goesBy 34 = .ok (.if_icmp .gt 8, 3) := by decide +kernel
theorem dX7_goesBy_37 : decode cX7_goesBy 37 = .ok (.aload_n 0, 1) := by decide +kernel
theorem dX7_goesBy_38 : decode cX7_goesBy 38 = .ok (.iload_n 1, 1) := by decide +kernel
theorem dX7_goesBy_39 : decode cX7_goesBy 39 = .ok (.invokevirtual 95, 3) := by decide +kernel
theorem dX7_goesBy_42 : decode cX7_goesBy 42 = .ok (.iinc 1 1, 3) := by decide +kernel
theorem dX7_goesBy_45 : decode cX7_goesBy 45 = .ok (.goto (-43), 3) := by decide +kernel
theorem dX7_goesBy_48 : decode cX7_goesBy 48 = .ok (.iconst 0, 1) := by decide +kernel
theorem dX7_goesBy_49 : decode cX7_goesBy 49 = .ok (.istore_n 1, 1) := by decide +kernel
theorem dX7_goesBy_50 : decode cX7_goesBy 50 = .ok (.iload_n 1, 1) := by decide +kernel
theorem dX7_goesBy_51 : decode cX7_goesBy 51 = .ok (.aload_n 0, 1) := by decide +kernel
theorem dX7_goesBy_52 : decode cX7_goesBy 52 = .ok (.getfield 7, 3) := by decide +kernel
theorem dX7_goesBy_55 : decode cX7_goesBy 55 = .ok (.iconst 0, 1) := by decide +kernel
theorem dX7_goesBy_56 : decode cX7_goesBy 56 = .ok (.iaload, 1) := by decide +kernel
theorem dX7_goesBy_57 : decode cX7_goesBy 57 = .ok (.if_icmp .ge 20, 3) := by decide +kernel
theorem dX7_goesBy_60 : decode cX7_goesBy 60 = .ok (.aload_n 0, 1) := by decide +kernel
theorem dX7_goesBy_61 : decode cX7_goesBy 61 = .ok (.getfield 13, 3) := by decide +kernel
theorem dX7_goesBy_64 : decode cX7_goesBy 64 = .ok (.iload_n 1, 1) := by decide +kernel
theorem dX7_goesBy_65 : decode cX7_goesBy 65 = .ok (.aload_n 0, 1) := by decide +kernel
theorem dX7_goesBy_66 : decode cX7_goesBy 66 = .ok (.iload_n 1, 1) := by decide +kernel
theorem dX7_goesBy_67 : decode cX7_goesBy 67 = .ok (.invokevirtual 99, 3) := by decide +kernel
theorem dX7_goesBy_70 : decode cX7_goesBy 70 = .ok (.iastore, 1) := by decide +kernel
theorem dX7_goesBy_71 : decode cX7_goesBy 71 = .ok (.iinc 1 1, 3) := by decide +kernel
theorem dX7_goesBy_74 : decode cX7_goesBy 74 = .ok (.goto (-24), 3) := by decide +kernel
theorem dX7_goesBy_77 : decode cX7_goesBy 77 = .ok (.iconst 0, 1) := by decide +kernel
theorem dX7_goesBy_78 : decode cX7_goesBy 78 = .ok (.istore_n 1, 1) := by decide +kernel
theorem dX7_goesBy_79 : decode cX7_goesBy 79 = .ok (.iload_n 1, 1) := by decide +kernel
theorem dX7_goesBy_80 : decode cX7_goesBy 80 = .ok (.aload_n 0, 1) := by decide +kernel
theorem dX7_goesBy_81 : decode cX7_goesBy 81 = .ok (.getfield 7, 3) := by decide +kernel
theorem dX7_goesBy_84 : decode cX7_goesBy 84 = .ok (.iconst 0, 1) := by decide +kernel
theorem dX7_goesBy_85 : decode cX7_goesBy 85 = .ok (.iaload, 1) := by decide +kernel
theorem dX7_goesBy_86 : decode cX7_goesBy 86 = .ok (.if_icmp .ge 26, 3) := by decide +kernel
theorem dX7_goesBy_89 : decode cX7_goesBy 89 = .ok (.aload_n 0, 1) := by decide +kernel
theorem dX7_goesBy_90 : decode cX7_goesBy 90 = .ok (.iload_n 1, 1) := by decide +kernel
theorem dX7_goesBy_91 : decode cX7_goesBy 91 = .ok (.aload_n 0, 1) := by decide +kernel
theorem dX7_goesBy_92 : decode cX7_goesBy 92 = .ok (.iload_n 1, 1) := by decide +kernel
theorem dX7_goesBy_93 : decode cX7_goesBy 93 = .ok (.invokevirtual 78, 3) := by decide +kernel
theorem dX7_goesBy_96 : decode cX7_goesBy 96 = .ok (.aload_n 0, 1) := by decide +kernel
theorem dX7_goesBy_97 : decode cX7_goesBy 97 = .ok (.getfield 13, 3) := by decide +kernel
theorem dX7_goesBy_100 : decode cX7_goesBy 100 = .ok (.iload_n 1, 1) := by decide +kernel
theorem dX7_goesBy_101 : decode cX7_goesBy 101 = .ok (.iaload, 1) := by decide +kernel
theorem dX7_goesBy_102 : decode cX7_goesBy 102 = .ok (.isub, 1) := by decide +kernel
theorem dX7_goesBy_103 : decode cX7_goesBy 103 = .ok (.invokevirtual 102, 3) := by decide +kernel
theorem dX7_goesBy_106 : decode cX7_goesBy 106 = .ok (.iinc 1 1, 3) := by decide +kernel
theorem dX7_goesBy_109 : decode cX7_goesBy 109 = .ok (.goto (-30), 3) := by decide +kernel
theorem dX7_goesBy_112 : decode cX7_goesBy 112 = .ok (.aload_n 0, 1) := by decide +kernel
theorem dX7_goesBy_113 : decode cX7_goesBy 113 = .ok (.getfield 7, 3) := by decide +kernel
theorem dX7_goesBy_116 : decode cX7_goesBy 116 = .ok (.iconst 2, 1) := by decide +kernel
theorem dX7_goesBy_117 : decode cX7_goesBy 117 = .ok (.dup2, 1) := by decide +kernel
theorem dX7_goesBy_118 : decode cX7_goesBy 118 = .ok (.iaload, 1) := by decide +kernel
theorem dX7_goesBy_119 : decode cX7_goesBy 119 = .ok (.iconst 1, 1) := by decide +kernel
theorem dX7_goesBy_120 : decode cX7_goesBy 120 = .ok (.iadd, 1) := by decide +kernel
theorem dX7_goesBy_121 : decode cX7_goesBy 121 = .ok (.iastore, 1) := by decide +kernel
theorem dX7_goesBy_122 : decode cX7_goesBy 122 = .ok (.return_, 1) := by decide +kernel
theorem dX7_goesOn_0 : decode cX7_goesOn 0 = .ok (.iconst 0, 1) := by decide +kernel
theorem dX7_goesOn_1 : decode cX7_goesOn 1 = .ok (.istore_n 2, 1) := by decide +kernel
theorem dX7_goesOn_2 : decode cX7_goesOn 2 = .ok (.iload_n 2, 1) := by decide +kernel
theorem dX7_goesOn_3 : decode cX7_goesOn 3 = .ok (.iload_n 1, 1) := by decide +kernel
theorem dX7_goesOn_4 : decode cX7_goesOn 4 = .ok (.if_icmp .ge 13, 3) := by decide +kernel
theorem dX7_goesOn_7 : decode cX7_goesOn 7 = .ok (.aload_n 0, 1) := by decide +kernel
theorem dX7_goesOn_8 : decode cX7_goesOn 8 = .ok (.invokevirtual 106, 3) := by decide +kernel
theorem dX7_goesOn_11 : decode cX7_goesOn 11 = .ok (.iinc 2 1, 3) := by decide +kernel
theorem dX7_goesOn_14 : decode cX7_goesOn 14 = .ok (.goto (-12), 3) := by decide +kernel
theorem dX7_goesOn_17 : decode cX7_goesOn 17 = .ok (.return_, 1) := by decide +kernel
theorem dX7_many_0 : decode cX7_many 0 = .ok (.iconst 0, 1) := by decide +kernel
theorem dX7_many_1 : decode cX7_many 1 = .ok (.istore_n 1, 1) := by decide +kernel
theorem dX7_many_2 : decode cX7_many 2 = .ok (.iload_n 0, 1) := by decide +kernel
theorem dX7_many_3 : decode cX7_many 3 = .ok (.istore_n 2, 1) := by decide +kernel
theorem dX7_many_4 : decode cX7_many 4 = .ok (.iload_n 2, 1) := by decide +kernel
theorem dX7_many_5 : decode cX7_many 5 = .ok (.ifCond .eq 15, 3) := by decide +kernel
theorem dX7_many_8 : decode cX7_many 8 = .ok (.iinc 1 1, 3) := by decide +kernel
theorem dX7_many_11 : decode cX7_many 11 = .ok (.iload_n 2, 1) := by decide +kernel
theorem dX7_many_12 : decode cX7_many 12 = .ok (.iload_n 2, 1) := by decide +kernel
theorem dX7_many_13 : decode cX7_many 13 = .ok (.iconst 1, 1) := by decide +kernel
theorem dX7_many_14 : decode cX7_many 14 = .ok (.isub, 1) := by decide +kernel
theorem dX7_many_15 : decode cX7_many 15 = .ok (.iand, 1) := by decide +kernel
theorem dX7_many_16 : decode cX7_many 16 = .ok (.istore_n 2, 1) := by decide +kernel
theorem dX7_many_17 : decode cX7_many 17 = .ok (.goto (-13), 3) := by decide +kernel
theorem dX7_many_20 : decode cX7_many 20 = .ok (.iload_n 1, 1) := by decide +kernel
theorem dX7_many_21 : decode cX7_many 21 = .ok (.ireturn, 1) := by decide +kernel
theorem dX7_servedNow_0 : decode cX7_servedNow 0 = .ok (.iconst 0, 1) := by decide +kernel
theorem dX7_servedNow_1 : decode cX7_servedNow 1 = .ok (.istore_n 1, 1) := by decide +kernel
theorem dX7_servedNow_2 : decode cX7_servedNow 2 = .ok (.iconst 0, 1) := by decide +kernel
theorem dX7_servedNow_3 : decode cX7_servedNow 3 = .ok (.istore_n 2, 1) := by decide +kernel
theorem dX7_servedNow_4 : decode cX7_servedNow 4 = .ok (.iload_n 2, 1) := by decide +kernel
theorem dX7_servedNow_5 : decode cX7_servedNow 5 = .ok (.aload_n 0, 1) := by decide +kernel
theorem dX7_servedNow_6 : decode cX7_servedNow 6 = .ok (.getfield 7, 3) := by decide +kernel
theorem dX7_servedNow_9 : decode cX7_servedNow 9 = .ok (.iconst 1, 1) := by decide +kernel
theorem dX7_servedNow_10 : decode cX7_servedNow 10 = .ok (.iaload, 1) := by decide +kernel
theorem dX7_servedNow_11 : decode cX7_servedNow 11 = .ok (.if_icmp .ge 29, 3) := by decide +kernel
theorem dX7_servedNow_14 : decode cX7_servedNow 14 = .ok (.iload_n 1, 1) := by decide +kernel
theorem dX7_servedNow_15 : decode cX7_servedNow 15 = .ok (.aload_n 0, 1) := by decide +kernel
theorem dX7_servedNow_16 : decode cX7_servedNow 16 = .ok (.iload_n 2, 1) := by decide +kernel
theorem dX7_servedNow_17 : decode cX7_servedNow 17 = .ok (.invokevirtual 70, 3) := by decide +kernel
theorem dX7_servedNow_20 : decode cX7_servedNow 20 = .ok (.bipush (-4), 2) := by decide +kernel
theorem dX7_servedNow_22 : decode cX7_servedNow 22 = .ok (.if_icmp .ne 7, 3) := by decide +kernel
theorem dX7_servedNow_25 : decode cX7_servedNow 25 = .ok (.iconst 0, 1) := by decide +kernel
theorem dX7_servedNow_26 : decode cX7_servedNow 26 = .ok (.goto 6, 3) := by decide +kernel
theorem dX7_servedNow_29 : decode cX7_servedNow 29 = .ok (.iconst 1, 1) := by decide +kernel
theorem dX7_servedNow_30 : decode cX7_servedNow 30 = .ok (.iload_n 2, 1) := by decide +kernel
theorem dX7_servedNow_31 : decode cX7_servedNow 31 = .ok (.ishl, 1) := by decide +kernel
theorem dX7_servedNow_32 : decode cX7_servedNow 32 = .ok (.ior, 1) := by decide +kernel
theorem dX7_servedNow_33 : decode cX7_servedNow 33 = .ok (.istore_n 1, 1) := by decide +kernel
theorem dX7_servedNow_34 : decode cX7_servedNow 34 = .ok (.iinc 2 1, 3) := by decide +kernel
theorem dX7_servedNow_37 : decode cX7_servedNow 37 = .ok (.goto (-33), 3) := by decide +kernel
theorem dX7_servedNow_40 : decode cX7_servedNow 40 = .ok (.iload_n 1, 1) := by decide +kernel
theorem dX7_servedNow_41 : decode cX7_servedNow 41 = .ok (.ireturn, 1) := by decide +kernel
theorem dX7_puddleComes_0 : decode cX7_puddleComes 0 = .ok (.iconst 4, 1) := by decide +kernel
theorem dX7_puddleComes_1 : decode cX7_puddleComes 1 = .ok (.iconst 3, 1) := by decide +kernel
theorem dX7_puddleComes_2 : decode cX7_puddleComes 2 = .ok (.aload_n 0, 1) := by decide +kernel
theorem dX7_puddleComes_3 : decode cX7_puddleComes 3 = .ok (.getfield 7, 3) := by decide +kernel
theorem dX7_puddleComes_6 : decode cX7_puddleComes 6 = .ok (.iconst 0, 1) := by decide +kernel
theorem dX7_puddleComes_7 : decode cX7_puddleComes 7 = .ok (.iaload, 1) := by decide +kernel
theorem dX7_puddleComes_8 : decode cX7_puddleComes 8 = .ok (.imul, 1) := by decide +kernel
theorem dX7_puddleComes_9 : decode cX7_puddleComes 9 = .ok (.iadd, 1) := by decide +kernel
theorem dX7_puddleComes_10 : decode cX7_puddleComes 10 = .ok (.istore 4, 2) := by decide +kernel
theorem dX7_puddleComes_12 : decode cX7_puddleComes 12 = .ok (.aload_n 0, 1) := by decide +kernel
theorem dX7_puddleComes_13 : decode cX7_puddleComes 13 = .ok (.getfield 7, 3) := by decide +kernel
theorem dX7_puddleComes_16 : decode cX7_puddleComes 16 = .ok (.iload 4, 2) := by decide +kernel
theorem dX7_puddleComes_18 : decode cX7_puddleComes 18 = .ok (.iload_n 1, 1) := by decide +kernel
theorem dX7_puddleComes_19 : decode cX7_puddleComes 19 = .ok (.iastore, 1) := by decide +kernel
theorem dX7_puddleComes_20 : decode cX7_puddleComes 20 = .ok (.aload_n 0, 1) := by decide +kernel
theorem dX7_puddleComes_21 : decode cX7_puddleComes 21 = .ok (.getfield 7, 3) := by decide +kernel
theorem dX7_puddleComes_24 : decode cX7_puddleComes 24 = .ok (.iload 4, 2) := by decide +kernel
theorem dX7_puddleComes_26 : decode cX7_puddleComes 26 = .ok (.iconst 1, 1) := by decide +kernel
theorem dX7_puddleComes_27 : decode cX7_puddleComes 27 = .ok (.iadd, 1) := by decide +kernel
theorem dX7_puddleComes_28 : decode cX7_puddleComes 28 = .ok (.iload_n 2, 1) := by decide +kernel
theorem dX7_puddleComes_29 : decode cX7_puddleComes 29 = .ok (.iastore, 1) := by decide +kernel
theorem dX7_puddleComes_30 : decode cX7_puddleComes 30 = .ok (.aload_n 0, 1) := by decide +kernel
theorem dX7_puddleComes_31 : decode cX7_puddleComes 31 = .ok (.getfield 7, 3) := by decide +kernel
theorem dX7_puddleComes_34 : decode cX7_puddleComes 34 = .ok (.iload 4, 2) := by decide +kernel
theorem dX7_puddleComes_36 : decode cX7_puddleComes 36 = .ok (.iconst 2, 1) := by decide +kernel
theorem dX7_puddleComes_37 : decode cX7_puddleComes 37 = .ok (.iadd, 1) := by decide +kernel
theorem dX7_puddleComes_38 : decode cX7_puddleComes 38 = .ok (.iload_n 3, 1) := by decide +kernel
theorem dX7_puddleComes_39 : decode cX7_puddleComes 39 = .ok (.iastore, 1) := by decide +kernel
theorem dX7_puddleComes_40 : decode cX7_puddleComes 40 = .ok (.aload_n 0, 1) := by decide +kernel
theorem dX7_puddleComes_41 : decode cX7_puddleComes 41 = .ok (.getfield 7, 3) := by decide +kernel
theorem dX7_puddleComes_44 : decode cX7_puddleComes 44 = .ok (.iconst 0, 1) := by decide +kernel
theorem dX7_puddleComes_45 : decode cX7_puddleComes 45 = .ok (.dup2, 1) := by decide +kernel
theorem dX7_puddleComes_46 : decode cX7_puddleComes 46 = .ok (.iaload, 1) := by decide +kernel
theorem dX7_puddleComes_47 : decode cX7_puddleComes 47 = .ok (.iconst 1, 1) := by decide +kernel
theorem dX7_puddleComes_48 : decode cX7_puddleComes 48 = .ok (.iadd, 1) := by decide +kernel
theorem dX7_puddleComes_49 : decode cX7_puddleComes 49 = .ok (.iastore, 1) := by decide +kernel
theorem dX7_puddleComes_50 : decode cX7_puddleComes 50 = .ok (.aload_n 0, 1) := by decide +kernel
theorem dX7_puddleComes_51 : decode cX7_puddleComes 51 = .ok (.iconst 0, 1) := by decide +kernel
theorem dX7_puddleComes_52 : decode cX7_puddleComes 52 = .ok (.putfield 109, 3) := by decide +kernel
theorem dX7_puddleComes_55 : decode cX7_puddleComes 55 = .ok (.return_, 1) := by decide +kernel
theorem dX7_personComes_0 : decode cX7_personComes 0 = .ok (.aload_n 0, 1) := by decide +kernel
theorem dX7_personComes_1 : decode cX7_personComes 1 = .ok (.getfield 7, 3) := by decide +kernel
theorem dX7_personComes_4 : decode cX7_personComes 4 = .ok (.iconst 1, 1) := by decide +kernel
theorem dX7_personComes_5 : decode cX7_personComes 5 = .ok (.iaload, 1) := by decide +kernel
theorem dX7_personComes_6 : decode cX7_personComes 6 = .ok (.istore 4, 2) := by decide +kernel
theorem dX7_personComes_8 : decode cX7_personComes 8 = .ok (.aload_n 0, 1) := by decide +kernel
theorem dX7_personComes_9 : decode cX7_personComes 9 = .ok (.iload 4, 2) := by decide +kernel
theorem dX7_personComes_11 : decode cX7_personComes 11 = .ok (.iload_n 1, 1) := by decide +kernel
theorem dX7_personComes_12 : decode cX7_personComes 12 = .ok (.iconst 0, 1) := by decide +kernel
theorem dX7_personComes_13 : decode cX7_personComes 13 = .ok (.invokevirtual 91, 3) := by decide +kernel
theorem dX7_personComes_16 : decode cX7_personComes 16 = .ok (.aload_n 0, 1) := by decide +kernel
theorem dX7_personComes_17 : decode cX7_personComes 17 = .ok (.iload 4, 2) := by decide +kernel
theorem dX7_personComes_19 : decode cX7_personComes 19 = .ok (.iload_n 2, 1) := by decide +kernel
theorem dX7_personComes_20 : decode cX7_personComes 20 = .ok (.iconst 1, 1) := by decide +kernel
theorem dX7_personComes_21 : decode cX7_personComes 21 = .ok (.invokevirtual 91, 3) := by decide +kernel
theorem dX7_personComes_24 : decode cX7_personComes 24 = .ok (.aload_n 0, 1) := by decide +kernel
theorem dX7_personComes_25 : decode cX7_personComes 25 = .ok (.iload 4, 2) := by decide +kernel
theorem dX7_personComes_27 : decode cX7_personComes 27 = .ok (.iload_n 3, 1) := by decide +kernel
theorem dX7_personComes_28 : decode cX7_personComes 28 = .ok (.iconst 2, 1) := by decide +kernel
theorem dX7_personComes_29 : decode cX7_personComes 29 = .ok (.invokevirtual 91, 3) := by decide +kernel
theorem dX7_personComes_32 : decode cX7_personComes 32 = .ok (.aload_n 0, 1) := by decide +kernel
theorem dX7_personComes_33 : decode cX7_personComes 33 = .ok (.iload 4, 2) := by decide +kernel
theorem dX7_personComes_35 : decode cX7_personComes 35 = .ok (.bipush (-4), 2) := by decide +kernel
theorem dX7_personComes_37 : decode cX7_personComes 37 = .ok (.iconst 3, 1) := by decide +kernel
theorem dX7_personComes_38 : decode cX7_personComes 38 = .ok (.invokevirtual 91, 3) := by decide +kernel
theorem dX7_personComes_41 : decode cX7_personComes 41 = .ok (.aload_n 0, 1) := by decide +kernel
theorem dX7_personComes_42 : decode cX7_personComes 42 = .ok (.getfield 7, 3) := by decide +kernel
theorem dX7_personComes_45 : decode cX7_personComes 45 = .ok (.iconst 1, 1) := by decide +kernel
theorem dX7_personComes_46 : decode cX7_personComes 46 = .ok (.dup2, 1) := by decide +kernel
theorem dX7_personComes_47 : decode cX7_personComes 47 = .ok (.iaload, 1) := by decide +kernel
theorem dX7_personComes_48 : decode cX7_personComes 48 = .ok (.iconst 1, 1) := by decide +kernel
theorem dX7_personComes_49 : decode cX7_personComes 49 = .ok (.iadd, 1) := by decide +kernel
theorem dX7_personComes_50 : decode cX7_personComes 50 = .ok (.iastore, 1) := by decide +kernel
theorem dX7_personComes_51 : decode cX7_personComes 51 = .ok (.aload_n 0, 1) := by decide +kernel
theorem dX7_personComes_52 : decode cX7_personComes 52 = .ok (.iconst 0, 1) := by decide +kernel
theorem dX7_personComes_53 : decode cX7_personComes 53 = .ok (.putfield 109, 3) := by decide +kernel
theorem dX7_personComes_56 : decode cX7_personComes 56 = .ok (.return_, 1) := by decide +kernel
theorem dX7_puddle_0 : decode cX7_puddle 0 = .ok (.iload_n 1, 1) := by decide +kernel
theorem dX7_puddle_1 : decode cX7_puddle 1 = .ok (.i2l, 1) := by decide +kernel
theorem dX7_puddle_2 : decode cX7_puddle 2 = .ok (.lconst 0, 1) := by decide +kernel
theorem dX7_puddle_3 : decode cX7_puddle 3 = .ok (.ldc2_w 113, 3) := by decide +kernel
theorem dX7_puddle_6 : decode cX7_puddle 6 = .ok (.invokestatic 59, 3) := by decide +kernel
theorem dX7_puddle_9 : decode cX7_puddle 9 = .ok (.ifCond .eq 27, 3) := by decide +kernel
theorem dX7_puddle_12 : decode cX7_puddle 12 = .ok (.iload_n 2, 1) := by decide +kernel
theorem dX7_puddle_13 : decode cX7_puddle 13 = .ok (.i2l, 1) := by decide +kernel
theorem dX7_puddle_14 : decode cX7_puddle 14 = .ok (.lconst 0, 1) := by decide +kernel
theorem dX7_puddle_15 : decode cX7_puddle 15 = .ok (.ldc2_w 115, 3) := by decide +kernel
theorem dX7_puddle_18 : decode cX7_puddle 18 = .ok (.invokestatic 59, 3) := by decide +kernel
theorem dX7_puddle_21 : decode cX7_puddle 21 = .ok (.ifCond .eq 15, 3) := by decide +kernel
theorem dX7_puddle_24 : decode cX7_puddle 24 = .ok (.iload_n 3, 1) := by decide +kernel
theorem dX7_puddle_25 : decode cX7_puddle 25 = .ok (.i2l, 1) := by decide +kernel
theorem dX7_puddle_26 : decode cX7_puddle 26 = .ok (.lconst 0, 1) := by decide +kernel
theorem dX7_puddle_27 : decode cX7_puddle 27 = .ok (.ldc2_w 117, 3) := by decide +kernel
theorem dX7_puddle_30 : decode cX7_puddle 30 = .ok (.invokestatic 59, 3) := by decide +kernel
theorem dX7_puddle_33 : decode cX7_puddle 33 = .ok (.ifCond .ne 5, 3) := by decide +kernel
theorem dX7_puddle_36 : decode cX7_puddle 36 = .ok (.iconst (-1), 1) := by decide +kernel
theorem dX7_puddle_37 : decode cX7_puddle 37 = .ok (.ireturn, 1) := by decide +kernel
theorem dX7_puddle_38 : decode cX7_puddle 38 = .ok (.aload_n 0, 1) := by decide +kernel
theorem dX7_puddle_39 : decode cX7_puddle 39 = .ok (.getfield 7, 3) := by decide +kernel
theorem dX7_puddle_42 : decode cX7_puddle 42 = .ok (.iconst 0, 1) := by decide +kernel
theorem dX7_puddle_43 : decode cX7_puddle 43 = .ok (.iaload, 1) := by decide +kernel
theorem dX7_puddle_44 : decode cX7_puddle 44 = .ok (.bipush 7, 2) := by decide +kernel
theorem dX7_puddle_46 : decode cX7_puddle 46 = .ok (.if_icmp .ne 6, 3) := by decide +kernel
theorem dX7_puddle_49 : decode cX7_puddle 49 = .ok (.bipush (-3), 2) := by decide +kernel
theorem dX7_puddle_51 : decode cX7_puddle 51 = .ok (.ireturn, 1) := by decide +kernel
theorem dX7_puddle_52 : decode cX7_puddle 52 = .ok (.aload_n 0, 1) := by decide +kernel
theorem dX7_puddle_53 : decode cX7_puddle 53 = .ok (.iload_n 1, 1) := by decide +kernel
theorem dX7_puddle_54 : decode cX7_puddle 54 = .ok (.iload_n 2, 1) := by decide +kernel
theorem dX7_puddle_55 : decode cX7_puddle 55 = .ok (.iload_n 3, 1) := by decide +kernel
theorem dX7_puddle_56 : decode cX7_puddle 56 = .ok (.invokevirtual 119, 3) := by decide +kernel
theorem dX7_puddle_59 : decode cX7_puddle 59 = .ok (.aload_n 0, 1) := by decide +kernel
theorem dX7_puddle_60 : decode cX7_puddle 60 = .ok (.getfield 7, 3) := by decide +kernel
theorem dX7_puddle_63 : decode cX7_puddle 63 = .ok (.iconst 0, 1) := by decide +kernel
theorem dX7_puddle_64 : decode cX7_puddle 64 = .ok (.iaload, 1) := by decide +kernel
theorem dX7_puddle_65 : decode cX7_puddle 65 = .ok (.iconst 1, 1) := by decide +kernel
theorem dX7_puddle_66 : decode cX7_puddle 66 = .ok (.isub, 1) := by decide +kernel
theorem dX7_puddle_67 : decode cX7_puddle 67 = .ok (.ireturn, 1) := by decide +kernel
theorem dX7_person_0 : decode cX7_person 0 = .ok (.iload_n 1, 1) := by decide +kernel
theorem dX7_person_1 : decode cX7_person 1 = .ok (.i2l, 1) := by decide +kernel
theorem dX7_person_2 : decode cX7_person 2 = .ok (.lconst 0, 1) := by decide +kernel
theorem dX7_person_3 : decode cX7_person 3 = .ok (.ldc2_w 115, 3) := by decide +kernel
theorem dX7_person_6 : decode cX7_person 6 = .ok (.invokestatic 59, 3) := by decide +kernel
theorem dX7_person_9 : decode cX7_person 9 = .ok (.ifCond .eq 27, 3) := by decide +kernel
theorem dX7_person_12 : decode cX7_person 12 = .ok (.iload_n 2, 1) := by decide +kernel
theorem dX7_person_13 : decode cX7_person 13 = .ok (.i2l, 1) := by decide +kernel
theorem dX7_person_14 : decode cX7_person 14 = .ok (.lconst 0, 1) := by decide +kernel
theorem dX7_person_15 : decode cX7_person 15 = .ok (.ldc2_w 122, 3) := by decide +kernel
theorem dX7_person_18 : decode cX7_person 18 = .ok (.invokestatic 59, 3) := by decide +kernel
theorem dX7_person_21 : decode cX7_person 21 = .ok (.ifCond .eq 15, 3) := by decide +kernel
theorem dX7_person_24 : decode cX7_person 24 = .ok (.iload_n 3, 1) := by decide +kernel
theorem dX7_person_25 : decode cX7_person 25 = .ok (.i2l, 1) := by decide +kernel
theorem dX7_person_26 : decode cX7_person 26 = .ok (.lconst 1, 1) := by decide +kernel
theorem dX7_person_27 : decode cX7_person 27 = .ok (.ldc2_w 124, 3) := by decide +kernel
theorem dX7_person_30 : decode cX7_person 30 = .ok (.invokestatic 59, 3) := by decide +kernel
theorem dX7_person_33 : decode cX7_person 33 = .ok (.ifCond .ne 5, 3) := by decide +kernel
theorem dX7_person_36 : decode cX7_person 36 = .ok (.iconst (-1), 1) := by decide +kernel
theorem dX7_person_37 : decode cX7_person 37 = .ok (.ireturn, 1) := by decide +kernel
theorem dX7_person_38 : decode cX7_person 38 = .ok (.aload_n 0, 1) := by decide +kernel
theorem dX7_person_39 : decode cX7_person 39 = .ok (.getfield 7, 3) := by decide +kernel
theorem dX7_person_42 : decode cX7_person 42 = .ok (.iconst 1, 1) := by decide +kernel
theorem dX7_person_43 : decode cX7_person 43 = .ok (.iaload, 1) := by decide +kernel
theorem dX7_person_44 : decode cX7_person 44 = .ok (.bipush 6, 2) := by decide +kernel
theorem dX7_person_46 : decode cX7_person 46 = .ok (.if_icmp .ne 6, 3) := by decide +kernel
theorem dX7_person_49 : decode cX7_person 49 = .ok (.bipush (-3), 2) := by decide +kernel
theorem dX7_person_51 : decode cX7_person 51 = .ok (.ireturn, 1) := by decide +kernel
theorem dX7_person_52 : decode cX7_person 52 = .ok (.aload_n 0, 1) := by decide +kernel
theorem dX7_person_53 : decode cX7_person 53 = .ok (.iload_n 1, 1) := by decide +kernel
theorem dX7_person_54 : decode cX7_person 54 = .ok (.iload_n 2, 1) := by decide +kernel
theorem dX7_person_55 : decode cX7_person 55 = .ok (.iload_n 3, 1) := by decide +kernel
theorem dX7_person_56 : decode cX7_person 56 = .ok (.invokevirtual 126, 3) := by decide +kernel
theorem dX7_person_59 : decode cX7_person 59 = .ok (.aload_n 0, 1) := by decide +kernel
theorem dX7_person_60 : decode cX7_person 60 = .ok (.getfield 7, 3) := by decide +kernel
theorem dX7_person_63 : decode cX7_person 63 = .ok (.iconst 1, 1) := by decide +kernel
theorem dX7_person_64 : decode cX7_person 64 = .ok (.iaload, 1) := by decide +kernel
theorem dX7_person_65 : decode cX7_person 65 = .ok (.iconst 1, 1) := by decide +kernel
theorem dX7_person_66 : decode cX7_person 66 = .ok (.isub, 1) := by decide +kernel
theorem dX7_person_67 : decode cX7_person 67 = .ok (.ireturn, 1) := by decide +kernel
theorem dX7_show_0 : decode cX7_show 0 = .ok (.aload_n 0, 1) := by decide +kernel
theorem dX7_show_1 : decode cX7_show 1 = .ok (.iload_n 1, 1) := by decide +kernel
theorem dX7_show_2 : decode cX7_show 2 = .ok (.invokevirtual 74, 3) := by decide +kernel
theorem dX7_show_5 : decode cX7_show 5 = .ok (.ifCond .eq 15, 3) := by decide +kernel
theorem dX7_show_8 : decode cX7_show 8 = .ok (.iload_n 2, 1) := by decide +kernel
theorem dX7_show_9 : decode cX7_show 9 = .ok (.i2l, 1) := by decide +kernel
theorem dX7_show_10 : decode cX7_show 10 = .ok (.lconst 0, 1) := by decide +kernel
theorem dX7_show_11 : decode cX7_show 11 = .ok (.ldc2_w 115, 3) := by decide +kernel
theorem dX7_show_14 : decode cX7_show 14 = .ok (.invokestatic 59, 3) := by decide +kernel
theorem dX7_show_17 : decode cX7_show 17 = .ok (.ifCond .ne 5, 3) := by decide +kernel
theorem dX7_show_20 : decode cX7_show 20 = .ok (.iconst (-1), 1) := by decide +kernel
theorem dX7_show_21 : decode cX7_show 21 = .ok (.ireturn, 1) := by decide +kernel
theorem dX7_show_22 : decode cX7_show 22 = .ok (.aload_n 0, 1) := by decide +kernel
theorem dX7_show_23 : decode cX7_show 23 = .ok (.iload_n 1, 1) := by decide +kernel
theorem dX7_show_24 : decode cX7_show 24 = .ok (.iconst 1, 1) := by decide +kernel
theorem dX7_show_25 : decode cX7_show 25 = .ok (.invokevirtual 63, 3) := by decide +kernel
theorem dX7_show_28 : decode cX7_show 28 = .ok (.istore_n 3, 1) := by decide +kernel
theorem dX7_show_29 : decode cX7_show 29 = .ok (.aload_n 0, 1) := by decide +kernel
theorem dX7_show_30 : decode cX7_show 30 = .ok (.getfield 7, 3) := by decide +kernel
theorem dX7_show_33 : decode cX7_show 33 = .ok (.iconst 4, 1) := by decide +kernel
theorem dX7_show_34 : decode cX7_show 34 = .ok (.iconst 3, 1) := by decide +kernel
theorem dX7_show_35 : decode cX7_show 35 = .ok (.iload_n 1, 1) := by decide +kernel
theorem dX7_show_36 : decode cX7_show 36 = .ok (.imul, 1) := by decide +kernel
theorem dX7_show_37 : decode cX7_show 37 = .ok (.iadd, 1) := by decide +kernel
theorem dX7_show_38 : decode cX7_show 38 = .ok (.iconst 1, 1) := by decide +kernel
theorem dX7_show_39 : decode cX7_show 39 = .ok (.iadd, 1) := by decide +kernel
theorem dX7_show_40 : decode cX7_show 40 = .ok (.iload_n 2, 1) := by decide +kernel
theorem dX7_show_41 : decode cX7_show 41 = .ok (.iastore, 1) := by decide +kernel
theorem dX7_show_42 : decode cX7_show 42 = .ok (.iload_n 3, 1) := by decide +kernel
theorem dX7_show_43 : decode cX7_show 43 = .ok (.ireturn, 1) := by decide +kernel
theorem dX7_of_0 : decode cX7_of 0 = .ok (.aload_n 0, 1) := by decide +kernel
theorem dX7_of_1 : decode cX7_of 1 = .ok (.iload_n 1, 1) := by decide +kernel
theorem dX7_of_2 : decode cX7_of 2 = .ok (.invokevirtual 74, 3) := by decide +kernel
theorem dX7_of_5 : decode cX7_of 5 = .ok (.ifCond .eq 15, 3) := by decide +kernel
theorem dX7_of_8 : decode cX7_of 8 = .ok (.iload_n 2, 1) := by decide +kernel
theorem dX7_of_9 : decode cX7_of 9 = .ok (.i2l, 1) := by decide +kernel
theorem dX7_of_10 : decode cX7_of 10 = .ok (.lconst 0, 1) := by decide +kernel
theorem dX7_of_11 : decode cX7_of 11 = .ok (.ldc2_w 113, 3) := by decide +kernel
theorem dX7_of_14 : decode cX7_of 14 = .ok (.invokestatic 59, 3) := by decide +kernel
theorem dX7_of_17 : decode cX7_of 17 = .ok (.ifCond .ne 5, 3) := by decide +kernel
theorem dX7_of_20 : decode cX7_of 20 = .ok (.iconst (-1), 1) := by decide +kernel
theorem dX7_of_21 : decode cX7_of 21 = .ok (.ireturn, 1) := by decide +kernel
theorem dX7_of_22 : decode cX7_of 22 = .ok (.iload_n 2, 1) := by decide +kernel
theorem dX7_of_23 : decode cX7_of 23 = .ok (.iconst 3, 1) := by decide +kernel
theorem dX7_of_24 : decode cX7_of 24 = .ok (.if_icmp .ge 12, 3) := by decide +kernel
theorem dX7_of_27 : decode cX7_of 27 = .ok (.aload_n 0, 1) := by decide +kernel
theorem dX7_of_28 : decode cX7_of 28 = .ok (.iload_n 1, 1) := by decide +kernel
theorem dX7_of_29 : decode cX7_of 29 = .ok (.iload_n 2, 1) := by decide +kernel
theorem dX7_of_30 : decode cX7_of 30 = .ok (.invokevirtual 63, 3) := by decide +kernel
theorem dX7_of_33 : decode cX7_of 33 = .ok (.goto 21, 3) := by decide +kernel
theorem dX7_of_36 : decode cX7_of 36 = .ok (.iload_n 2, 1) := by decide +kernel
theorem dX7_of_37 : decode cX7_of 37 = .ok (.iconst 3, 1) := by decide +kernel
theorem dX7_of_38 : decode cX7_of 38 = .ok (.if_icmp .ne 11, 3) := by decide +kernel
theorem dX7_of_41 : decode cX7_of 41 = .ok (.aload_n 0, 1) := by decide +kernel
theorem dX7_of_42 : decode cX7_of 42 = .ok (.iload_n 1, 1) := by decide +kernel
theorem dX7_of_43 : decode cX7_of 43 = .ok (.invokevirtual 84, 3) := by decide +kernel
theorem dX7_of_46 : decode cX7_of 46 = .ok (.goto 8, 3) := by decide +kernel
theorem dX7_of_49 : decode cX7_of 49 = .ok (.aload_n 0, 1) := by decide +kernel
theorem dX7_of_50 : decode cX7_of 50 = .ok (.iload_n 1, 1) := by decide +kernel
theorem dX7_of_51 : decode cX7_of 51 = .ok (.invokevirtual 99, 3) := by decide +kernel
theorem dX7_of_54 : decode cX7_of 54 = .ok (.ireturn, 1) := by decide +kernel
theorem dX7_at_0 : decode cX7_at 0 = .ok (.aload_n 0, 1) := by decide +kernel
theorem dX7_at_1 : decode cX7_at 1 = .ok (.iload_n 1, 1) := by decide +kernel
theorem dX7_at_2 : decode cX7_at 2 = .ok (.invokevirtual 129, 3) := by decide +kernel
theorem dX7_at_5 : decode cX7_at 5 = .ok (.ifCond .eq 15, 3) := by decide +kernel
theorem dX7_at_8 : decode cX7_at 8 = .ok (.iload_n 2, 1) := by decide +kernel
theorem dX7_at_9 : decode cX7_at 9 = .ok (.i2l, 1) := by decide +kernel
theorem dX7_at_10 : decode cX7_at 10 = .ok (.lconst 0, 1) := by decide +kernel
theorem dX7_at_11 : decode cX7_at 11 = .ok (.ldc2_w 113, 3) := by decide +kernel
theorem dX7_at_14 : decode cX7_at 14 = .ok (.invokestatic 59, 3) := by decide +kernel
theorem dX7_at_17 : decode cX7_at 17 = .ok (.ifCond .ne 5, 3) := by decide +kernel
theorem dX7_at_20 : decode cX7_at 20 = .ok (.iconst (-1), 1) := by decide +kernel
theorem dX7_at_21 : decode cX7_at 21 = .ok (.ireturn, 1) := by decide +kernel
theorem dX7_at_22 : decode cX7_at 22 = .ok (.iload_n 2, 1) := by decide +kernel
theorem dX7_at_23 : decode cX7_at 23 = .ok (.iconst 4, 1) := by decide +kernel
theorem dX7_at_24 : decode cX7_at 24 = .ok (.if_icmp .ge 12, 3) := by decide +kernel
theorem dX7_at_27 : decode cX7_at 27 = .ok (.aload_n 0, 1) := by decide +kernel
theorem dX7_at_28 : decode cX7_at 28 = .ok (.iload_n 1, 1) := by decide +kernel
theorem dX7_at_29 : decode cX7_at 29 = .ok (.iload_n 2, 1) := by decide +kernel
theorem dX7_at_30 : decode cX7_at 30 = .ok (.invokevirtual 67, 3) := by decide +kernel
theorem dX7_at_33 : decode cX7_at 33 = .ok (.goto 8, 3) := by decide +kernel
theorem dX7_at_36 : decode cX7_at 36 = .ok (.aload_n 0, 1) := by decide +kernel
theorem dX7_at_37 : decode cX7_at 37 = .ok (.iload_n 1, 1) := by decide +kernel
theorem dX7_at_38 : decode cX7_at 38 = .ok (.invokevirtual 132, 3) := by decide +kernel
theorem dX7_at_41 : decode cX7_at 41 = .ok (.ireturn, 1) := by decide +kernel
theorem dX7_deepAll_0 : decode cX7_deepAll 0 = .ok (.iconst 0, 1) := by decide +kernel
theorem dX7_deepAll_1 : decode cX7_deepAll 1 = .ok (.istore_n 1, 1) := by decide +kernel
theorem dX7_deepAll_2 : decode cX7_deepAll 2 = .ok (.iconst 0, 1) := by decide +kernel
theorem dX7_deepAll_3 : decode cX7_deepAll 3 = .ok (.istore_n 2, 1) := by decide +kernel
theorem dX7_deepAll_4 : decode cX7_deepAll 4 = .ok (.iload_n 2, 1) := by decide +kernel
theorem dX7_deepAll_5 : decode cX7_deepAll 5 = .ok (.aload_n 0, 1) := by decide +kernel
theorem dX7_deepAll_6 : decode cX7_deepAll 6 = .ok (.getfield 7, 3) := by decide +kernel
theorem dX7_deepAll_9 : decode cX7_deepAll 9 = .ok (.iconst 0, 1) := by decide +kernel
theorem dX7_deepAll_10 : decode cX7_deepAll 10 = .ok (.iaload, 1) := by decide +kernel
theorem dX7_deepAll_11 : decode cX7_deepAll 11 = .ok (.if_icmp .ge 17, 3) := by decide +kernel
theorem dX7_deepAll_14 : decode cX7_deepAll 14 = .ok (.iload_n 1, 1) := by decide +kernel
theorem dX7_deepAll_15 : decode cX7_deepAll 15 = .ok (.aload_n 0, 1) := by decide +kernel
theorem dX7_deepAll_16 : decode cX7_deepAll 16 = .ok (.iload_n 2, 1) := by decide +kernel
theorem dX7_deepAll_17 : decode cX7_deepAll 17 = .ok (.invokevirtual 78, 3) := by decide +kernel
theorem dX7_deepAll_20 : decode cX7_deepAll 20 = .ok (.iadd, 1) := by decide +kernel
theorem dX7_deepAll_21 : decode cX7_deepAll 21 = .ok (.istore_n 1, 1) := by decide +kernel
theorem dX7_deepAll_22 : decode cX7_deepAll 22 = .ok (.iinc 2 1, 3) := by decide +kernel
theorem dX7_deepAll_25 : decode cX7_deepAll 25 = .ok (.goto (-21), 3) := by decide +kernel
theorem dX7_deepAll_28 : decode cX7_deepAll 28 = .ok (.iload_n 1, 1) := by decide +kernel
theorem dX7_deepAll_29 : decode cX7_deepAll 29 = .ok (.ireturn, 1) := by decide +kernel
theorem dX7_dryOnes_0 : decode cX7_dryOnes 0 = .ok (.iconst 0, 1) := by decide +kernel
theorem dX7_dryOnes_1 : decode cX7_dryOnes 1 = .ok (.istore_n 1, 1) := by decide +kernel
theorem dX7_dryOnes_2 : decode cX7_dryOnes 2 = .ok (.iconst 0, 1) := by decide +kernel
theorem dX7_dryOnes_3 : decode cX7_dryOnes 3 = .ok (.istore_n 2, 1) := by decide +kernel
theorem dX7_dryOnes_4 : decode cX7_dryOnes 4 = .ok (.iload_n 2, 1) := by decide +kernel
theorem dX7_dryOnes_5 : decode cX7_dryOnes 5 = .ok (.aload_n 0, 1) := by decide +kernel
theorem dX7_dryOnes_6 : decode cX7_dryOnes 6 = .ok (.getfield 7, 3) := by decide +kernel
theorem dX7_dryOnes_9 : decode cX7_dryOnes 9 = .ok (.iconst 0, 1) := by decide +kernel
theorem dX7_dryOnes_10 : decode cX7_dryOnes 10 = .ok (.iaload, 1) := by decide +kernel
theorem dX7_dryOnes_11 : decode cX7_dryOnes 11 = .ok (.if_icmp .ge 27, 3) := by decide +kernel
theorem dX7_dryOnes_14 : decode cX7_dryOnes 14 = .ok (.iload_n 1, 1) := by decide +kernel
theorem dX7_dryOnes_15 : decode cX7_dryOnes 15 = .ok (.aload_n 0, 1) := by decide +kernel
theorem dX7_dryOnes_16 : decode cX7_dryOnes 16 = .ok (.iload_n 2, 1) := by decide +kernel
theorem dX7_dryOnes_17 : decode cX7_dryOnes 17 = .ok (.invokevirtual 81, 3) := by decide +kernel
theorem dX7_dryOnes_20 : decode cX7_dryOnes 20 = .ok (.ifCond .eq 9, 3) := by decide +kernel
theorem dX7_dryOnes_23 : decode cX7_dryOnes 23 = .ok (.iconst 1, 1) := by decide +kernel
theorem dX7_dryOnes_24 : decode cX7_dryOnes 24 = .ok (.iload_n 2, 1) := by decide +kernel
theorem dX7_dryOnes_25 : decode cX7_dryOnes 25 = .ok (.ishl, 1) := by decide +kernel
theorem dX7_dryOnes_26 : decode cX7_dryOnes 26 = .ok (.goto 4, 3) := by decide +kernel
theorem dX7_dryOnes_29 : decode cX7_dryOnes 29 = .ok (.iconst 0, 1) := by decide +kernel
theorem dX7_dryOnes_30 : decode cX7_dryOnes 30 = .ok (.ior, 1) := by decide +kernel
theorem dX7_dryOnes_31 : decode cX7_dryOnes 31 = .ok (.istore_n 1, 1) := by decide +kernel
theorem dX7_dryOnes_32 : decode cX7_dryOnes 32 = .ok (.iinc 2 1, 3) := by decide +kernel
theorem dX7_dryOnes_35 : decode cX7_dryOnes 35 = .ok (.goto (-31), 3) := by decide +kernel
theorem dX7_dryOnes_38 : decode cX7_dryOnes 38 = .ok (.iload_n 1, 1) := by decide +kernel
theorem dX7_dryOnes_39 : decode cX7_dryOnes 39 = .ok (.ireturn, 1) := by decide +kernel
theorem dX7_claimedOnes_0 : decode cX7_claimedOnes 0 = .ok (.iconst 0, 1) := by decide +kernel
theorem dX7_claimedOnes_1 : decode cX7_claimedOnes 1 = .ok (.istore_n 1, 1) := by decide +kernel
theorem dX7_claimedOnes_2 : decode cX7_claimedOnes 2 = .ok (.iconst 0, 1) := by decide +kernel
theorem dX7_claimedOnes_3 : decode cX7_claimedOnes 3 = .ok (.istore_n 2, 1) := by decide +kernel
theorem dX7_claimedOnes_4 : decode cX7_claimedOnes 4 = .ok (.iload_n 2, 1) := by decide +kernel
theorem dX7_claimedOnes_5 : decode cX7_claimedOnes 5 = .ok (.aload_n 0, 1) := by decide +kernel
theorem dX7_claimedOnes_6 : decode cX7_claimedOnes 6 = .ok (.getfield 7, 3) := by decide +kernel
theorem dX7_claimedOnes_9 : decode cX7_claimedOnes 9 = .ok (.iconst 1, 1) := by decide +kernel
theorem dX7_claimedOnes_10 : decode cX7_claimedOnes 10 = .ok (.iaload, 1) := by decide +kernel
theorem dX7_claimedOnes_11 : decode cX7_claimedOnes 11 = .ok (.if_icmp .ge 33, 3) := by decide +kernel
theorem dX7_claimedOnes_14 : decode cX7_claimedOnes 14 = .ok (.iload_n 1, 1) := by decide +kernel
theorem dX7_claimedOnes_15 : decode cX7_claimedOnes 15 = .ok (.aload_n 0, 1) := by decide +kernel
theorem dX7_claimedOnes_16 : decode cX7_claimedOnes 16 = .ok (.iload_n 2, 1) := by decide +kernel
theorem dX7_claimedOnes_17 : decode cX7_claimedOnes 17 = .ok (.invokevirtual 70, 3) := by decide +kernel
theorem dX7_claimedOnes_20 : decode cX7_claimedOnes 20 = .ok (.bipush (-4), 2) := by decide +kernel
theorem dX7_claimedOnes_22 : decode cX7_claimedOnes 22 = .ok (.if_icmp .ne 7, 3) := by decide +kernel
theorem dX7_claimedOnes_25 : decode cX7_claimedOnes 25 = .ok (.iconst 0, 1) := by decide +kernel
theorem dX7_claimedOnes_26 : decode cX7_claimedOnes 26 = .ok (.goto 10, 3) := by decide +kernel
theorem dX7_claimedOnes_29 : decode cX7_claimedOnes 29 = .ok (.iconst 1, 1) := by decide +kernel
theorem dX7_claimedOnes_30 : decode cX7_claimedOnes 30 = .ok (.aload_n 0, 1) := by decide +kernel
theorem dX7_claimedOnes_31 : decode cX7_claimedOnes 31 = .ok (.iload_n 2, 1) := by decide +kernel
theorem dX7_claimedOnes_32 : decode cX7_claimedOnes 32 = .ok (.invokevirtual 70, 3) := by decide +kernel
theorem dX7_claimedOnes_35 : decode cX7_claimedOnes 35 = .ok (.ishl, 1) := by decide +kernel
theorem dX7_claimedOnes_36 : decode cX7_claimedOnes 36 = .ok (.ior, 1) := by decide +kernel
theorem dX7_claimedOnes_37 : decode cX7_claimedOnes 37 = .ok (.istore_n 1, 1) := by decide +kernel
theorem dX7_claimedOnes_38 : decode cX7_claimedOnes 38 = .ok (.iinc 2 1, 3) := by decide +kernel
theorem dX7_claimedOnes_41 : decode cX7_claimedOnes 41 = .ok (.goto (-37), 3) := by decide +kernel
theorem dX7_claimedOnes_44 : decode cX7_claimedOnes 44 = .ok (.iload_n 1, 1) := by decide +kernel
theorem dX7_claimedOnes_45 : decode cX7_claimedOnes 45 = .ok (.ireturn, 1) := by decide +kernel
theorem dX7_count_0 : decode cX7_count 0 = .ok (.iload_n 1, 1) := by decide +kernel
theorem dX7_count_1 : decode cX7_count 1 = .ok (.tableswitch 79 0 7 #[47, 47, 47, 54, 59, 64, 69, 74], 47) := by decide +kernel
theorem dX7_count_48 : decode cX7_count 48 = .ok (.aload_n 0, 1) := by decide +kernel
theorem dX7_count_49 : decode cX7_count 49 = .ok (.getfield 7, 3) := by decide +kernel
theorem dX7_count_52 : decode cX7_count 52 = .ok (.iload_n 1, 1) := by decide +kernel
theorem dX7_count_53 : decode cX7_count 53 = .ok (.iaload, 1) := by decide +kernel
theorem dX7_count_54 : decode cX7_count 54 = .ok (.ireturn, 1) := by decide +kernel
theorem dX7_count_55 : decode cX7_count 55 = .ok (.aload_n 0, 1) := by decide +kernel
theorem dX7_count_56 : decode cX7_count 56 = .ok (.invokevirtual 135, 3) := by decide +kernel
theorem dX7_count_59 : decode cX7_count 59 = .ok (.ireturn, 1) := by decide +kernel
theorem dX7_count_60 : decode cX7_count 60 = .ok (.aload_n 0, 1) := by decide +kernel
theorem dX7_count_61 : decode cX7_count 61 = .ok (.invokevirtual 139, 3) := by decide +kernel
theorem dX7_count_64 : decode cX7_count 64 = .ok (.ireturn, 1) := by decide +kernel
theorem dX7_count_65 : decode cX7_count 65 = .ok (.aload_n 0, 1) := by decide +kernel
theorem dX7_count_66 : decode cX7_count 66 = .ok (.invokevirtual 142, 3) := by decide +kernel
theorem dX7_count_69 : decode cX7_count 69 = .ok (.ireturn, 1) := by decide +kernel
theorem dX7_count_70 : decode cX7_count 70 = .ok (.aload_n 0, 1) := by decide +kernel
theorem dX7_count_71 : decode cX7_count 71 = .ok (.invokevirtual 145, 3) := by decide +kernel
theorem dX7_count_74 : decode cX7_count 74 = .ok (.ireturn, 1) := by decide +kernel
theorem dX7_count_75 : decode cX7_count 75 = .ok (.aload_n 0, 1) := by decide +kernel
theorem dX7_count_76 : decode cX7_count 76 = .ok (.getfield 109, 3) := by decide +kernel
theorem dX7_count_79 : decode cX7_count 79 = .ok (.ireturn, 1) := by decide +kernel
theorem dX7_count_80 : decode cX7_count 80 = .ok (.iconst (-1), 1) := by decide +kernel
theorem dX7_count_81 : decode cX7_count 81 = .ok (.ireturn, 1) := by decide +kernel
theorem dX7_type_0 : decode cX7_type 0 = .ok (.iload_n 1, 1) := by decide +kernel
theorem dX7_type_1 : decode cX7_type 1 = .ok (.i2l, 1) := by decide +kernel
theorem dX7_type_2 : decode cX7_type 2 = .ok (.ldc2_w 148, 3) := by decide +kernel
theorem dX7_type_5 : decode cX7_type 5 = .ok (.ldc2_w 150, 3) := by decide +kernel
theorem dX7_type_8 : decode cX7_type 8 = .ok (.invokestatic 59, 3) := by decide +kernel
theorem dX7_type_11 : decode cX7_type 11 = .ok (.ifCond .ne 5, 3) := by decide +kernel
theorem dX7_type_14 : decode cX7_type 14 = .ok (.iconst (-1), 1) := by decide +kernel
theorem dX7_type_15 : decode cX7_type 15 = .ok (.ireturn, 1) := by decide +kernel
theorem dX7_type_16 : decode cX7_type 16 = .ok (.aload_n 0, 1) := by decide +kernel
theorem dX7_type_17 : decode cX7_type 17 = .ok (.getfield 152, 3) := by decide +kernel
theorem dX7_type_20 : decode cX7_type 20 = .ok (.bipush 90, 2) := by decide +kernel
theorem dX7_type_22 : decode cX7_type 22 = .ok (.if_icmp .ne 6, 3) := by decide +kernel
theorem dX7_type_25 : decode cX7_type 25 = .ok (.bipush (-3), 2) := by decide +kernel
theorem dX7_type_27 : decode cX7_type 27 = .ok (.ireturn, 1) := by decide +kernel
theorem dX7_type_28 : decode cX7_type 28 = .ok (.aload_n 0, 1) := by decide +kernel
theorem dX7_type_29 : decode cX7_type 29 = .ok (.getfield 16, 3) := by decide +kernel
theorem dX7_type_32 : decode cX7_type 32 = .ok (.aload_n 0, 1) := by decide +kernel
theorem dX7_type_33 : decode cX7_type 33 = .ok (.getfield 152, 3) := by decide +kernel
theorem dX7_type_36 : decode cX7_type 36 = .ok (.iload_n 1, 1) := by decide +kernel
theorem dX7_type_37 : decode cX7_type 37 = .ok (.iastore, 1) := by decide +kernel
theorem dX7_type_38 : decode cX7_type 38 = .ok (.aload_n 0, 1) := by decide +kernel
theorem dX7_type_39 : decode cX7_type 39 = .ok (.dup, 1) := by decide +kernel
theorem dX7_type_40 : decode cX7_type 40 = .ok (.getfield 152, 3) := by decide +kernel
theorem dX7_type_43 : decode cX7_type 43 = .ok (.iconst 1, 1) := by decide +kernel
theorem dX7_type_44 : decode cX7_type 44 = .ok (.iadd, 1) := by decide +kernel
theorem dX7_type_45 : decode cX7_type 45 = .ok (.putfield 152, 3) := by decide +kernel
theorem dX7_type_48 : decode cX7_type 48 = .ok (.aload_n 0, 1) := by decide +kernel
theorem dX7_type_49 : decode cX7_type 49 = .ok (.getfield 152, 3) := by decide +kernel
theorem dX7_type_52 : decode cX7_type 52 = .ok (.ireturn, 1) := by decide +kernel
theorem dX7_here_0 : decode cX7_here 0 = .ok (.aload_n 0, 1) := by decide +kernel
theorem dX7_here_1 : decode cX7_here 1 = .ok (.getfield 155, 3) := by decide +kernel
theorem dX7_here_4 : decode cX7_here 4 = .ok (.aload_n 0, 1) := by decide +kernel
theorem dX7_here_5 : decode cX7_here 5 = .ok (.getfield 152, 3) := by decide +kernel
theorem dX7_here_8 : decode cX7_here 8 = .ok (.if_icmp .ge 30, 3) := by decide +kernel
theorem dX7_here_11 : decode cX7_here 11 = .ok (.aload_n 0, 1) := by decide +kernel
theorem dX7_here_12 : decode cX7_here 12 = .ok (.getfield 16, 3) := by decide +kernel
theorem dX7_here_15 : decode cX7_here 15 = .ok (.aload_n 0, 1) := by decide +kernel
theorem dX7_here_16 : decode cX7_here 16 = .ok (.getfield 155, 3) := by decide +kernel
theorem dX7_here_19 : decode cX7_here 19 = .ok (.iaload, 1) := by decide +kernel
theorem dX7_here_20 : decode cX7_here 20 = .ok (.bipush 32, 2) := by decide +kernel
theorem dX7_here_22 : decode cX7_here 22 = .ok (.if_icmp .ne 16, 3) := by decide +kernel
theorem dX7_here_25 : decode cX7_here 25 = .ok (.aload_n 0, 1) := by decide +kernel
theorem dX7_here_26 : decode cX7_here 26 = .ok (.dup, 1) := by decide +kernel
theorem dX7_here_27 : decode cX7_here 27 = .ok (.getfield 155, 3) := by decide +kernel
theorem dX7_here_30 : decode cX7_here 30 = .ok (.iconst 1, 1) := by decide +kernel
theorem dX7_here_31 : decode cX7_here 31 = .ok (.iadd, 1) := by decide +kernel
theorem dX7_here_32 : decode cX7_here 32 = .ok (.putfield 155, 3) := by decide +kernel
theorem dX7_here_35 : decode cX7_here 35 = .ok (.goto (-35), 3) := by decide +kernel
theorem dX7_here_38 : decode cX7_here 38 = .ok (.aload_n 0, 1) := by decide +kernel
theorem dX7_here_39 : decode cX7_here 39 = .ok (.getfield 155, 3) := by decide +kernel
theorem dX7_here_42 : decode cX7_here 42 = .ok (.aload_n 0, 1) := by decide +kernel
theorem dX7_here_43 : decode cX7_here 43 = .ok (.getfield 152, 3) := by decide +kernel
theorem dX7_here_46 : decode cX7_here 46 = .ok (.if_icmp .ge 15, 3) := by decide +kernel
theorem dX7_here_49 : decode cX7_here 49 = .ok (.aload_n 0, 1) := by decide +kernel
theorem dX7_here_50 : decode cX7_here 50 = .ok (.getfield 16, 3) := by decide +kernel
theorem dX7_here_53 : decode cX7_here 53 = .ok (.aload_n 0, 1) := by decide +kernel
theorem dX7_here_54 : decode cX7_here 54 = .ok (.getfield 155, 3) := by decide +kernel
theorem dX7_here_57 : decode cX7_here 57 = .ok (.iaload, 1) := by decide +kernel
theorem dX7_here_58 : decode cX7_here 58 = .ok (.goto 4, 3) := by decide +kernel
theorem dX7_here_61 : decode cX7_here 61 = .ok (.iconst 0, 1) := by decide +kernel
theorem dX7_here_62 : decode cX7_here 62 = .ok (.ireturn, 1) := by decide +kernel
theorem dX7_must_0 : decode cX7_must 0 = .ok (.aload_n 0, 1) := by decide +kernel
theorem dX7_must_1 : decode cX7_must 1 = .ok (.aload_n 0, 1) := by decide +kernel
theorem dX7_must_2 : decode cX7_must 2 = .ok (.getfield 158, 3) := by decide +kernel
theorem dX7_must_5 : decode cX7_must 5 = .ok (.ifCond .ne 7, 3) := by decide +kernel
theorem dX7_must_8 : decode cX7_must 8 = .ok (.iload_n 1, 1) := by decide +kernel
theorem dX7_must_9 : decode cX7_must 9 = .ok (.ifCond .ne 7, 3) := by decide +kernel
theorem dX7_must_12 : decode cX7_must 12 = .ok (.iconst 1, 1) := by decide +kernel
theorem dX7_must_13 : decode cX7_must 13 = .ok (.goto 4, 3) := by decide +kernel
theorem dX7_must_16 : decode cX7_must 16 = .ok (.iconst 0, 1) := by decide +kernel
theorem dX7_must_17 : decode cX7_must 17 = .ok (.putfield 158, 3) := by decide +kernel
theorem dX7_must_20 : decode cX7_must 20 = .ok (.aload_n 0, 1) := by decide +kernel
theorem dX7_must_21 : decode cX7_must 21 = .ok (.dup, 1) := by decide +kernel
theorem dX7_must_22 : decode cX7_must 22 = .ok (.getfield 155, 3) := by decide +kernel
theorem dX7_must_25 : decode cX7_must 25 = .ok (.aload_n 0, 1) := by decide +kernel
theorem dX7_must_26 : decode cX7_must 26 = .ok (.getfield 158, 3) := by decide +kernel
theorem dX7_must_29 : decode cX7_must 29 = .ok (.ifCond .eq 7, 3) := by decide +kernel
theorem dX7_must_32 : decode cX7_must 32 = .ok (.iconst 0, 1) := by decide +kernel
theorem dX7_must_33 : decode cX7_must 33 = .ok (.goto 4, 3) := by decide +kernel
theorem dX7_must_36 : decode cX7_must 36 = .ok (.iconst 1, 1) := by decide +kernel
theorem dX7_must_37 : decode cX7_must 37 = .ok (.iadd, 1) := by decide +kernel
theorem dX7_must_38 : decode cX7_must 38 = .ok (.putfield 155, 3) := by decide +kernel
theorem dX7_must_41 : decode cX7_must 41 = .ok (.return_, 1) := by decide +kernel
theorem dX7_digit_0 : decode cX7_digit 0 = .ok (.aload_n 0, 1) := by decide +kernel
theorem dX7_digit_1 : decode cX7_digit 1 = .ok (.getfield 158, 3) := by decide +kernel
theorem dX7_digit_4 : decode cX7_digit 4 = .ok (.ifCond .eq 7, 3) := by decide +kernel
theorem dX7_digit_7 : decode cX7_digit 7 = .ok (.iconst (-1), 1) := by decide +kernel
theorem dX7_digit_8 : decode cX7_digit 8 = .ok (.goto 10, 3) := by decide +kernel
theorem dX7_digit_11 : decode cX7_digit 11 = .ok (.aload_n 0, 1) := by decide +kernel
theorem dX7_digit_12 : decode cX7_digit 12 = .ok (.invokevirtual 162, 3) := by decide +kernel
theorem dX7_digit_15 : decode cX7_digit 15 = .ok (.bipush 48, 2) := by decide +kernel
theorem dX7_digit_17 : decode cX7_digit 17 = .ok (.isub, 1) := by decide +kernel
theorem dX7_digit_18 : decode cX7_digit 18 = .ok (.istore_n 2, 1) := by decide +kernel
theorem dX7_digit_19 : decode cX7_digit 19 = .ok (.aload_n 0, 1) := by decide +kernel
theorem dX7_digit_20 : decode cX7_digit 20 = .ok (.iload_n 2, 1) := by decide +kernel
theorem dX7_digit_21 : decode cX7_digit 21 = .ok (.i2l, 1) := by decide +kernel
theorem dX7_digit_22 : decode cX7_digit 22 = .ok (.lconst 0, 1) := by decide +kernel
theorem dX7_digit_23 : decode cX7_digit 23 = .ok (.iload_n 1, 1) := by decide +kernel
theorem dX7_digit_24 : decode cX7_digit 24 = .ok (.i2l, 1) := by decide +kernel
theorem dX7_digit_25 : decode cX7_digit 25 = .ok (.invokestatic 59, 3) := by decide +kernel
theorem dX7_digit_28 : decode cX7_digit 28 = .ok (.invokevirtual 165, 3) := by decide +kernel
theorem dX7_digit_31 : decode cX7_digit 31 = .ok (.iload_n 2, 1) := by decide +kernel
theorem dX7_digit_32 : decode cX7_digit 32 = .ok (.ireturn, 1) := by decide +kernel
theorem dX7_number_0 : decode cX7_number 0 = .ok (.aload_n 0, 1) := by decide +kernel
theorem dX7_number_1 : decode cX7_number 1 = .ok (.getfield 158, 3) := by decide +kernel
theorem dX7_number_4 : decode cX7_number 4 = .ok (.ifCond .eq 7, 3) := by decide +kernel
theorem dX7_number_7 : decode cX7_number 7 = .ok (.iconst 0, 1) := by decide +kernel
theorem dX7_number_8 : decode cX7_number 8 = .ok (.goto 7, 3) := by decide +kernel
theorem dX7_number_11 : decode cX7_number 11 = .ok (.aload_n 0, 1) := by decide +kernel
theorem dX7_number_12 : decode cX7_number 12 = .ok (.invokevirtual 162, 3) := by decide +kernel
theorem dX7_number_15 : decode cX7_number 15 = .ok (.istore_n 3, 1) := by decide +kernel
theorem dX7_number_16 : decode cX7_number 16 = .ok (.aload_n 0, 1) := by decide +kernel
theorem dX7_number_17 : decode cX7_number 17 = .ok (.getfield 155, 3) := by decide +kernel
theorem dX7_number_20 : decode cX7_number 20 = .ok (.istore 4, 2) := by decide +kernel
theorem dX7_number_22 : decode cX7_number 22 = .ok (.iconst 0, 1) := by decide +kernel
theorem dX7_number_23 : decode cX7_number 23 = .ok (.istore 5, 2) := by decide +kernel
theorem dX7_number_25 : decode cX7_number 25 = .ok (.aload_n 0, 1) := by decide +kernel
theorem dX7_number_26 : decode cX7_number 26 = .ok (.aload_n 0, 1) := by decide +kernel
theorem dX7_number_27 : decode cX7_number 27 = .ok (.getfield 158, 3) := by decide +kernel
theorem dX7_number_30 : decode cX7_number 30 = .ok (.ifCond .ne 17, 3) := by decide +kernel
theorem dX7_number_33 : decode cX7_number 33 = .ok (.iload_n 3, 1) := by decide +kernel
theorem dX7_number_34 : decode cX7_number 34 = .ok (.i2l, 1) := by decide +kernel
theorem dX7_number_35 : decode cX7_number 35 = .ok (.ldc2_w 169, 3) := by decide +kernel
theorem dX7_number_38 : decode cX7_number 38 = .ok (.ldc2_w 171, 3) := by decide +kernel
theorem dX7_number_41 : decode cX7_number 41 = .ok (.invokestatic 59, 3) := by decide +kernel
theorem dX7_number_44 : decode cX7_number 44 = .ok (.ifCond .ne 7, 3) := by decide +kernel
theorem dX7_number_47 : decode cX7_number 47 = .ok (.iconst 1, 1) := by decide +kernel
theorem dX7_number_48 : decode cX7_number 48 = .ok (.goto 4, 3) := by decide +kernel
theorem dX7_number_51 : decode cX7_number 51 = .ok (.iconst 0, 1) := by decide +kernel
theorem dX7_number_52 : decode cX7_number 52 = .ok (.putfield 158, 3) := by decide +kernel
theorem dX7_number_55 : decode cX7_number 55 = .ok (.aload_n 0, 1) := by decide +kernel
theorem dX7_number_56 : decode cX7_number 56 = .ok (.getfield 158, 3) := by decide +kernel
theorem dX7_number_59 : decode cX7_number 59 = .ok (.ifCond .ne 80, 3) := by decide +kernel
theorem dX7_number_62 : decode cX7_number 62 = .ok (.aload_n 0, 1) := by decide +kernel
theorem dX7_number_63 : decode cX7_number 63 = .ok (.getfield 155, 3) := by decide +kernel
theorem dX7_number_66 : decode cX7_number 66 = .ok (.aload_n 0, 1) := by decide +kernel
theorem dX7_number_67 : decode cX7_number 67 = .ok (.getfield 152, 3) := by decide +kernel
theorem dX7_number_70 : decode cX7_number 70 = .ok (.if_icmp .ge 69, 3) := by decide +kernel
theorem dX7_number_73 : decode cX7_number 73 = .ok (.aload_n 0, 1) := by decide +kernel
theorem dX7_number_74 : decode cX7_number 74 = .ok (.getfield 155, 3) := by decide +kernel
theorem dX7_number_77 : decode cX7_number 77 = .ok (.iload 4, 2) := by decide +kernel
theorem dX7_number_79 : decode cX7_number 79 = .ok (.isub, 1) := by decide +kernel
theorem dX7_number_80 : decode cX7_number 80 = .ok (.iconst 2, 1) := by decide +kernel
theorem dX7_number_81 : decode cX7_number 81 = .ok (.if_icmp .ge 58, 3) := by decide +kernel
theorem dX7_number_84 : decode cX7_number 84 = .ok (.aload_n 0, 1) := by decide +kernel
theorem dX7_number_85 : decode cX7_number 85 = .ok (.getfield 16, 3) := by decide +kernel
theorem dX7_number_88 : decode cX7_number 88 = .ok (.aload_n 0, 1) := by decide +kernel
theorem dX7_number_89 : decode cX7_number 89 = .ok (.getfield 155, 3) := by decide +kernel
theorem dX7_number_92 : decode cX7_number 92 = .ok (.iaload, 1) := by decide +kernel
theorem dX7_number_93 : decode cX7_number 93 = .ok (.i2l, 1) := by decide +kernel
theorem dX7_number_94 : decode cX7_number 94 = .ok (.ldc2_w 169, 3) := by decide +kernel
theorem dX7_number_97 : decode cX7_number 97 = .ok (.ldc2_w 171, 3) := by decide +kernel
theorem dX7_number_100 : decode cX7_number 100 = .ok (.invokestatic 59, 3) := by decide +kernel
theorem dX7_number_103 : decode cX7_number 103 = .ok (.ifCond .eq 36, 3) := by decide +kernel
theorem dX7_number_106 : decode cX7_number 106 = .ok (.bipush 10, 2) := by decide +kernel
theorem dX7_number_108 : decode cX7_number 108 = .ok (.iload 5, 2) := by decide +kernel
theorem dX7_number_110 : decode cX7_number 110 = .ok (.imul, 1) := by decide +kernel
theorem dX7_number_111 : decode cX7_number 111 = .ok (.aload_n 0, 1) := by decide +kernel
theorem dX7_number_112 : decode cX7_number 112 = .ok (.getfield 16, 3) := by decide +kernel
theorem dX7_number_115 : decode cX7_number 115 = .ok (.aload_n 0, 1) := by decide +kernel
theorem dX7_number_116 : decode cX7_number 116 = .ok (.getfield 155, 3) := by decide +kernel
theorem dX7_number_119 : decode cX7_number 119 = .ok (.iaload, 1) := by decide +kernel
theorem dX7_number_120 : decode cX7_number 120 = .ok (.iadd, 1) := by decide +kernel
theorem dX7_number_121 : decode cX7_number 121 = .ok (.bipush 48, 2) := by decide +kernel
theorem dX7_number_123 : decode cX7_number 123 = .ok (.isub, 1) := by decide +kernel
theorem dX7_number_124 : decode cX7_number 124 = .ok (.istore 5, 2) := by decide +kernel
theorem dX7_number_126 : decode cX7_number 126 = .ok (.aload_n 0, 1) := by decide +kernel
theorem dX7_number_127 : decode cX7_number 127 = .ok (.dup, 1) := by decide +kernel
theorem dX7_number_128 : decode cX7_number 128 = .ok (.getfield 155, 3) := by decide +kernel
theorem dX7_number_131 : decode cX7_number 131 = .ok (.iconst 1, 1) := by decide +kernel
theorem dX7_number_132 : decode cX7_number 132 = .ok (.iadd, 1) := by decide +kernel
theorem dX7_number_133 : decode cX7_number 133 = .ok (.putfield 155, 3) := by decide +kernel
theorem dX7_number_136 : decode cX7_number 136 = .ok (.goto (-81), 3) := by decide +kernel
theorem dX7_number_139 : decode cX7_number 139 = .ok (.aload_n 0, 1) := by decide +kernel
theorem dX7_number_140 : decode cX7_number 140 = .ok (.getfield 158, 3) := by decide +kernel
theorem dX7_number_143 : decode cX7_number 143 = .ok (.ifCond .ne 27, 3) := by decide +kernel
theorem dX7_number_146 : decode cX7_number 146 = .ok (.iload 5, 2) := by decide +kernel
theorem dX7_number_148 : decode cX7_number 148 = .ok (.i2l, 1) := by decide +kernel
theorem dX7_number_149 : decode cX7_number 149 = .ok (.iload_n 1, 1) := by decide +kernel
theorem dX7_number_150 : decode cX7_number 150 = .ok (.i2l, 1) := by decide +kernel
theorem dX7_number_151 : decode cX7_number 151 = .ok (.iload_n 2, 1) := by decide +kernel
theorem dX7_number_152 : decode cX7_number 152 = .ok (.i2l, 1) := by decide +kernel
theorem dX7_number_153 : decode cX7_number 153 = .ok (.invokestatic 59, 3) := by decide +kernel
theorem dX7_number_156 : decode cX7_number 156 = .ok (.ifCond .ne 14, 3) := by decide +kernel
theorem dX7_number_159 : decode cX7_number 159 = .ok (.aload_n 0, 1) := by decide +kernel
theorem dX7_number_160 : decode cX7_number 160 = .ok (.iconst 1, 1) := by decide +kernel
theorem dX7_number_161 : decode cX7_number 161 = .ok (.putfield 158, 3) := by decide +kernel
theorem dX7_number_164 : decode cX7_number 164 = .ok (.aload_n 0, 1) := by decide +kernel
theorem dX7_number_165 : decode cX7_number 165 = .ok (.iload 4, 2) := by decide +kernel
theorem dX7_number_167 : decode cX7_number 167 = .ok (.putfield 155, 3) := by decide +kernel
theorem dX7_number_170 : decode cX7_number 170 = .ok (.iload 5, 2) := by decide +kernel
theorem dX7_number_172 : decode cX7_number 172 = .ok (.ireturn, 1) := by decide +kernel
theorem dX7_numberBehind_0 : decode cX7_numberBehind 0 = .ok (.aload_n 0, 1) := by decide +kernel
theorem dX7_numberBehind_1 : decode cX7_numberBehind 1 = .ok (.getfield 158, 3) := by decide +kernel
theorem dX7_numberBehind_4 : decode cX7_numberBehind 4 = .ok (.ifCond .ne 11, 3) := by decide +kernel
theorem dX7_numberBehind_7 : decode cX7_numberBehind 7 = .ok (.aload_n 0, 1) := by decide +kernel
theorem dX7_numberBehind_8 : decode cX7_numberBehind 8 = .ok (.invokevirtual 162, 3) := by decide +kernel
theorem dX7_numberBehind_11 : decode cX7_numberBehind 11 = .ok (.iload_n 1, 1) := by decide +kernel
theorem dX7_numberBehind_12 : decode cX7_numberBehind 12 = .ok (.if_icmp .eq 6, 3) := by decide +kernel
theorem dX7_numberBehind_15 : decode cX7_numberBehind 15 = .ok (.iload 4, 2) := by decide +kernel
theorem dX7_numberBehind_17 : decode cX7_numberBehind 17 = .ok (.ireturn, 1) := by decide +kernel
theorem dX7_numberBehind_18 : decode cX7_numberBehind 18 = .ok (.aload_n 0, 1) := by decide +kernel
theorem dX7_numberBehind_19 : decode cX7_numberBehind 19 = .ok (.dup, 1) := by decide +kernel
theorem dX7_numberBehind_20 : decode cX7_numberBehind 20 = .ok (.getfield 155, 3) := by decide +kernel
theorem dX7_numberBehind_23 : decode cX7_numberBehind 23 = .ok (.iconst 1, 1) := by decide +kernel
theorem dX7_numberBehind_24 : decode cX7_numberBehind 24 = .ok (.iadd, 1) := by decide +kernel
theorem dX7_numberBehind_25 : decode cX7_numberBehind 25 = .ok (.putfield 155, 3) := by decide +kernel
theorem dX7_numberBehind_28 : decode cX7_numberBehind 28 = .ok (.aload_n 0, 1) := by decide +kernel
theorem dX7_numberBehind_29 : decode cX7_numberBehind 29 = .ok (.iload_n 2, 1) := by decide +kernel
theorem dX7_numberBehind_30 : decode cX7_numberBehind 30 = .ok (.iload_n 3, 1) := by decide +kernel
theorem dX7_numberBehind_31 : decode cX7_numberBehind 31 = .ok (.invokevirtual 173, 3) := by decide +kernel
theorem dX7_numberBehind_34 : decode cX7_numberBehind 34 = .ok (.ireturn, 1) := by decide +kernel
theorem dX7_puddlesRead_0 : decode cX7_puddlesRead 0 = .ok (.iconst 0, 1) := by decide +kernel
theorem dX7_puddlesRead_1 : decode cX7_puddlesRead 1 = .ok (.istore_n 1, 1) := by decide +kernel
theorem dX7_puddlesRead_2 : decode cX7_puddlesRead 2 = .ok (.aload_n 0, 1) := by decide +kernel
theorem dX7_puddlesRead_3 : decode cX7_puddlesRead 3 = .ok (.getfield 158, 3) := by decide +kernel
theorem dX7_puddlesRead_6 : decode cX7_puddlesRead 6 = .ok (.ifCond .ne 179, 3) := by decide +kernel
theorem dX7_puddlesRead_9 : decode cX7_puddlesRead 9 = .ok (.iload_n 1, 1) := by decide +kernel
theorem dX7_puddlesRead_10 : decode cX7_puddlesRead 10 = .ok (.ifCond .eq 12, 3) := by decide +kernel
theorem dX7_puddlesRead_13 : decode cX7_puddlesRead 13 = .ok (.aload_n 0, 1) := by decide +kernel
theorem dX7_puddlesRead_14 : decode cX7_puddlesRead 14 = .ok (.invokevirtual 162, 3) := by decide +kernel
theorem dX7_puddlesRead_17 : decode cX7_puddlesRead 17 = .ok (.bipush 44, 2) := by decide +kernel
theorem dX7_puddlesRead_19 : decode cX7_puddlesRead 19 = .ok (.if_icmp .ne 166, 3) := by decide +kernel
theorem dX7_puddlesRead_22 : decode cX7_puddlesRead 22 = .ok (.iload_n 1, 1) := by decide +kernel
theorem dX7_puddlesRead_23 : decode cX7_puddlesRead 23 = .ok (.ifCond .le 18, 3) := by decide +kernel
theorem dX7_puddlesRead_26 : decode cX7_puddlesRead 26 = .ok (.aload_n 0, 1) := by decide +kernel
theorem dX7_puddlesRead_27 : decode cX7_puddlesRead 27 = .ok (.iload_n 1, 1) := by decide +kernel
theorem dX7_puddlesRead_28 : decode cX7_puddlesRead 28 = .ok (.bipush 7, 2) := by decide +kernel
theorem dX7_puddlesRead_30 : decode cX7_puddlesRead 30 = .ok (.if_icmp .ge 7, 3) := by decide +kernel
theorem dX7_puddlesRead_33 : decode cX7_puddlesRead 33 = .ok (.iconst 1, 1) := by decide +kernel
theorem dX7_puddlesRead_34 : decode cX7_puddlesRead 34 = .ok (.goto 4, 3) := by decide +kernel
theorem dX7_puddlesRead_37 : decode cX7_puddlesRead 37 = .ok (.iconst 0, 1) := by decide +kernel
theorem dX7_puddlesRead_38 : decode cX7_puddlesRead 38 = .ok (.invokevirtual 165, 3) := by decide +kernel
theorem dX7_puddlesRead_41 : decode cX7_puddlesRead 41 = .ok (.aload_n 0, 1) := by decide +kernel
theorem dX7_puddlesRead_42 : decode cX7_puddlesRead 42 = .ok (.getfield 158, 3) := by decide +kernel
theorem dX7_puddlesRead_45 : decode cX7_puddlesRead 45 = .ok (.ifCond .eq 7, 3) := by decide +kernel
theorem dX7_puddlesRead_48 : decode cX7_puddlesRead 48 = .ok (.iconst 0, 1) := by decide +kernel
theorem dX7_puddlesRead_49 : decode cX7_puddlesRead 49 = .ok (.goto 7, 3) := by decide +kernel
theorem dX7_puddlesRead_52 : decode cX7_puddlesRead 52 = .ok (.aload_n 0, 1) := by decide +kernel
theorem dX7_puddlesRead_53 : decode cX7_puddlesRead 53 = .ok (.invokevirtual 162, 3) := by decide +kernel
theorem dX7_puddlesRead_56 : decode cX7_puddlesRead 56 = .ok (.istore_n 2, 1) := by decide +kernel
theorem dX7_puddlesRead_57 : decode cX7_puddlesRead 57 = .ok (.iload_n 2, 1) := by decide +kernel
theorem dX7_puddlesRead_58 : decode cX7_puddlesRead 58 = .ok (.bipush 112, 2) := by decide +kernel
theorem dX7_puddlesRead_60 : decode cX7_puddlesRead 60 = .ok (.if_icmp .ne 7, 3) := by decide +kernel
theorem dX7_puddlesRead_63 : decode cX7_puddlesRead 63 = .ok (.iconst 0, 1) := by decide +kernel
theorem dX7_puddlesRead_64 : decode cX7_puddlesRead 64 = .ok (.goto 44, 3) := by decide +kernel
theorem dX7_puddlesRead_67 : decode cX7_puddlesRead 67 = .ok (.iload_n 2, 1) := by decide +kernel
theorem dX7_puddlesRead_68 : decode cX7_puddlesRead 68 = .ok (.bipush 115, 2) := by decide +kernel
theorem dX7_puddlesRead_70 : decode cX7_puddlesRead 70 = .ok (.if_icmp .ne 7, 3) := by decide +kernel
theorem dX7_puddlesRead_73 : decode cX7_puddlesRead 73 = .ok (.iconst 1, 1) := by decide +kernel
theorem dX7_puddlesRead_74 : decode cX7_puddlesRead 74 = .ok (.goto 34, 3) := by decide +kernel
theorem dX7_puddlesRead_77 : decode cX7_puddlesRead 77 = .ok (.iload_n 2, 1) := by decide +kernel
theorem dX7_puddlesRead_78 : decode cX7_puddlesRead 78 = .ok (.bipush 107, 2) := by decide +kernel
theorem dX7_puddlesRead_80 : decode cX7_puddlesRead 80 = .ok (.if_icmp .ne 7, 3) := by decide +kernel
theorem dX7_puddlesRead_83 : decode cX7_puddlesRead 83 = .ok (.iconst 2, 1) := by decide +kernel
theorem dX7_puddlesRead_84 : decode cX7_puddlesRead 84 = .ok (.goto 24, 3) := by decide +kernel
theorem dX7_puddlesRead_87 : decode cX7_puddlesRead 87 = .ok (.iload_n 2, 1) := by decide +kernel
theorem dX7_puddlesRead_88 : decode cX7_puddlesRead 88 = .ok (.bipush 119, 2) := by decide +kernel
theorem dX7_puddlesRead_90 : decode cX7_puddlesRead 90 = .ok (.if_icmp .ne 7, 3) := by decide +kernel
theorem dX7_puddlesRead_93 : decode cX7_puddlesRead 93 = .ok (.iconst 3, 1) := by decide +kernel
theorem dX7_puddlesRead_94 : decode cX7_puddlesRead 94 = .ok (.goto 14, 3) := by decide +kernel
theorem dX7_puddlesRead_97 : decode cX7_puddlesRead 97 = .ok (.iload_n 2, 1) := by decide +kernel
theorem dX7_puddlesRead_98 : decode cX7_puddlesRead 98 = .ok (.bipush 103, 2) := by decide +kernel
theorem dX7_puddlesRead_100 : decode cX7_puddlesRead 100 = .ok (.if_icmp .ne 7, 3) := by decide +kernel
theorem dX7_puddlesRead_103 : decode cX7_puddlesRead 103 = .ok (.iconst 4, 1) := by decide +kernel
theorem dX7_puddlesRead_104 : decode cX7_puddlesRead 104 = .ok (.goto 4, 3) := by decide +kernel
theorem dX7_puddlesRead_107 : decode cX7_puddlesRead 107 = .ok (.iconst (-1), 1) := by decide +kernel
theorem dX7_puddlesRead_108 : decode cX7_puddlesRead 108 = .ok (.istore_n 3, 1) := by decide +kernel
theorem dX7_puddlesRead_109 : decode cX7_puddlesRead 109 = .ok (.aload_n 0, 1) := by decide +kernel
theorem dX7_puddlesRead_110 : decode cX7_puddlesRead 110 = .ok (.iload_n 3, 1) := by decide +kernel
theorem dX7_puddlesRead_111 : decode cX7_puddlesRead 111 = .ok (.ifCond .lt 7, 3) := by decide +kernel
theorem dX7_puddlesRead_114 : decode cX7_puddlesRead 114 = .ok (.iconst 1, 1) := by decide +kernel
theorem dX7_puddlesRead_115 : decode cX7_puddlesRead 115 = .ok (.goto 4, 3) := by decide +kernel
theorem dX7_puddlesRead_118 : decode cX7_puddlesRead 118 = .ok (.iconst 0, 1) := by decide +kernel
theorem dX7_puddlesRead_119 : decode cX7_puddlesRead 119 = .ok (.invokevirtual 165, 3) := by decide +kernel
theorem dX7_puddlesRead_122 : decode cX7_puddlesRead 122 = .ok (.aload_n 0, 1) := by decide +kernel
theorem dX7_puddlesRead_123 : decode cX7_puddlesRead 123 = .ok (.bipush 7, 2) := by decide +kernel
theorem dX7_puddlesRead_125 : decode cX7_puddlesRead 125 = .ok (.invokevirtual 176, 3) := by decide +kernel
theorem dX7_puddlesRead_128 : decode cX7_puddlesRead 128 = .ok (.istore 4, 2) := by decide +kernel
theorem dX7_puddlesRead_130 : decode cX7_puddlesRead 130 = .ok (.aload_n 0, 1) := by decide +kernel
theorem dX7_puddlesRead_131 : decode cX7_puddlesRead 131 = .ok (.iconst 0, 1) := by decide +kernel
theorem dX7_puddlesRead_132 : decode cX7_puddlesRead 132 = .ok (.bipush 60, 2) := by decide +kernel
theorem dX7_puddlesRead_134 : decode cX7_puddlesRead 134 = .ok (.invokevirtual 173, 3) := by decide +kernel
theorem dX7_puddlesRead_137 : decode cX7_puddlesRead 137 = .ok (.istore 5, 2) := by decide +kernel
theorem dX7_puddlesRead_139 : decode cX7_puddlesRead 139 = .ok (.aload_n 0, 1) := by decide +kernel
theorem dX7_puddlesRead_140 : decode cX7_puddlesRead 140 = .ok (.getfield 158, 3) := by decide +kernel
theorem dX7_puddlesRead_143 : decode cX7_puddlesRead 143 = .ok (.ifCond .ne 36, 3) := by decide +kernel
theorem dX7_puddlesRead_146 : decode cX7_puddlesRead 146 = .ok (.aload_n 0, 1) := by decide +kernel
theorem dX7_puddlesRead_147 : decode cX7_puddlesRead 147 = .ok (.getfield 19, 3) := by decide +kernel
theorem dX7_puddlesRead_150 : decode cX7_puddlesRead 150 = .ok (.iconst 3, 1) := by decide +kernel
theorem dX7_puddlesRead_151 : decode cX7_puddlesRead 151 = .ok (.iload_n 1, 1) := by decide +kernel
theorem dX7_puddlesRead_152 : decode cX7_puddlesRead 152 = .ok (.imul, 1) := by decide +kernel
theorem dX7_puddlesRead_153 : decode cX7_puddlesRead 153 = .ok (.iload_n 3, 1) := by decide +kernel
theorem dX7_puddlesRead_154 : decode cX7_puddlesRead 154 = .ok (.iastore, 1) := by decide +kernel
theorem dX7_puddlesRead_155 : decode cX7_puddlesRead 155 = .ok (.aload_n 0, 1) := by decide +kernel
theorem dX7_puddlesRead_156 : decode cX7_puddlesRead 156 = .ok (.getfield 19, 3) := by decide +kernel
theorem dX7_puddlesRead_159 : decode cX7_puddlesRead 159 = .ok (.iconst 3, 1) := by decide +kernel
theorem dX7_puddlesRead_160 : decode cX7_puddlesRead 160 = .ok (.iload_n 1, 1) := by decide +kernel
theorem dX7_puddlesRead_161 : decode cX7_puddlesRead 161 = .ok (.imul, 1) := by decide +kernel
theorem dX7_puddlesRead_162 : decode cX7_puddlesRead 162 = .ok (.iconst 1, 1) := by decide +kernel
theorem dX7_puddlesRead_163 : decode cX7_puddlesRead 163 = .ok (.iadd, 1) := by decide +kernel
theorem dX7_puddlesRead_164 : decode cX7_puddlesRead 164 = .ok (.iload 4, 2) := by decide +kernel
theorem dX7_puddlesRead_166 : decode cX7_puddlesRead 166 = .ok (.iastore, 1) := by decide +kernel
theorem dX7_puddlesRead_167 : decode cX7_puddlesRead 167 = .ok (.aload_n 0, 1) := by decide +kernel
theorem dX7_puddlesRead_168 : decode cX7_puddlesRead 168 = .ok (.getfield 19, 3) := by decide +kernel
theorem dX7_puddlesRead_171 : decode cX7_puddlesRead 171 = .ok (.iconst 3, 1) := by decide +kernel
theorem dX7_puddlesRead_172 : decode cX7_puddlesRead 172 = .ok (.iload_n 1, 1) := by decide +kernel
theorem dX7_puddlesRead_173 : decode cX7_puddlesRead 173 = .ok (.imul, 1) := by decide +kernel
theorem dX7_puddlesRead_174 : decode cX7_puddlesRead 174 = .ok (.iconst 2, 1) := by decide +kernel
theorem dX7_puddlesRead_175 : decode cX7_puddlesRead 175 = .ok (.iadd, 1) := by decide +kernel
theorem dX7_puddlesRead_176 : decode cX7_puddlesRead 176 = .ok (.iload 5, 2) := by decide +kernel
theorem dX7_puddlesRead_178 : decode cX7_puddlesRead 178 = .ok (.iastore, 1) := by decide +kernel
theorem dX7_puddlesRead_179 : decode cX7_puddlesRead 179 = .ok (.iinc 1 1, 3) := by decide +kernel
theorem dX7_puddlesRead_182 : decode cX7_puddlesRead 182 = .ok (.goto (-180), 3) := by decide +kernel
theorem dX7_puddlesRead_185 : decode cX7_puddlesRead 185 = .ok (.iload_n 1, 1) := by decide +kernel
theorem dX7_puddlesRead_186 : decode cX7_puddlesRead 186 = .ok (.ireturn, 1) := by decide +kernel
theorem dX7_peopleRead_0 : decode cX7_peopleRead 0 = .ok (.iconst 0, 1) := by decide +kernel
theorem dX7_peopleRead_1 : decode cX7_peopleRead 1 = .ok (.istore_n 1, 1) := by decide +kernel
theorem dX7_peopleRead_2 : decode cX7_peopleRead 2 = .ok (.aload_n 0, 1) := by decide +kernel
theorem dX7_peopleRead_3 : decode cX7_peopleRead 3 = .ok (.getfield 158, 3) := by decide +kernel
theorem dX7_peopleRead_6 : decode cX7_peopleRead 6 = .ok (.ifCond .ne 110, 3) := by decide +kernel
theorem dX7_peopleRead_9 : decode cX7_peopleRead 9 = .ok (.iload_n 1, 1) := by decide +kernel
theorem dX7_peopleRead_10 : decode cX7_peopleRead 10 = .ok (.ifCond .eq 12, 3) := by decide +kernel
theorem dX7_peopleRead_13 : decode cX7_peopleRead 13 = .ok (.aload_n 0, 1) := by decide +kernel
theorem dX7_peopleRead_14 : decode cX7_peopleRead 14 = .ok (.invokevirtual 162, 3) := by decide +kernel
theorem dX7_peopleRead_17 : decode cX7_peopleRead 17 = .ok (.bipush 44, 2) := by decide +kernel
theorem dX7_peopleRead_19 : decode cX7_peopleRead 19 = .ok (.if_icmp .ne 97, 3) := by decide +kernel
theorem dX7_peopleRead_22 : decode cX7_peopleRead 22 = .ok (.iload_n 1, 1) := by decide +kernel
theorem dX7_peopleRead_23 : decode cX7_peopleRead 23 = .ok (.ifCond .le 18, 3) := by decide +kernel
theorem dX7_peopleRead_26 : decode cX7_peopleRead 26 = .ok (.aload_n 0, 1) := by decide +kernel
theorem dX7_peopleRead_27 : decode cX7_peopleRead 27 = .ok (.iload_n 1, 1) := by decide +kernel
theorem dX7_peopleRead_28 : decode cX7_peopleRead 28 = .ok (.bipush 6, 2) := by decide +kernel
theorem dX7_peopleRead_30 : decode cX7_peopleRead 30 = .ok (.if_icmp .ge 7, 3) := by decide +kernel
theorem dX7_peopleRead_33 : decode cX7_peopleRead 33 = .ok (.iconst 1, 1) := by decide +kernel
theorem dX7_peopleRead_34 : decode cX7_peopleRead 34 = .ok (.goto 4, 3) := by decide +kernel
theorem dX7_peopleRead_37 : decode cX7_peopleRead 37 = .ok (.iconst 0, 1) := by decide +kernel
theorem dX7_peopleRead_38 : decode cX7_peopleRead 38 = .ok (.invokevirtual 165, 3) := by decide +kernel
theorem dX7_peopleRead_41 : decode cX7_peopleRead 41 = .ok (.aload_n 0, 1) := by decide +kernel
theorem dX7_peopleRead_42 : decode cX7_peopleRead 42 = .ok (.bipush 7, 2) := by decide +kernel
theorem dX7_peopleRead_44 : decode cX7_peopleRead 44 = .ok (.invokevirtual 176, 3) := by decide +kernel
theorem dX7_peopleRead_47 : decode cX7_peopleRead 47 = .ok (.istore_n 2, 1) := by decide +kernel
theorem dX7_peopleRead_48 : decode cX7_peopleRead 48 = .ok (.aload_n 0, 1) := by decide +kernel
theorem dX7_peopleRead_49 : decode cX7_peopleRead 49 = .ok (.bipush 64, 2) := by decide +kernel
theorem dX7_peopleRead_51 : decode cX7_peopleRead 51 = .ok (.iconst 0, 1) := by decide +kernel
theorem dX7_peopleRead_52 : decode cX7_peopleRead 52 = .ok (.bipush 20, 2) := by decide +kernel
theorem dX7_peopleRead_54 : decode cX7_peopleRead 54 = .ok (.iconst 0, 1) := by decide +kernel
theorem dX7_peopleRead_55 : decode cX7_peopleRead 55 = .ok (.invokevirtual 179, 3) := by decide +kernel
theorem dX7_peopleRead_58 : decode cX7_peopleRead 58 = .ok (.istore_n 3, 1) := by decide +kernel
theorem dX7_peopleRead_59 : decode cX7_peopleRead 59 = .ok (.aload_n 0, 1) := by decide +kernel
theorem dX7_peopleRead_60 : decode cX7_peopleRead 60 = .ok (.bipush 47, 2) := by decide +kernel
theorem dX7_peopleRead_62 : decode cX7_peopleRead 62 = .ok (.iconst 1, 1) := by decide +kernel
theorem dX7_peopleRead_63 : decode cX7_peopleRead 63 = .ok (.bipush 30, 2) := by decide +kernel
theorem dX7_peopleRead_65 : decode cX7_peopleRead 65 = .ok (.iconst 1, 1) := by decide +kernel
theorem dX7_peopleRead_66 : decode cX7_peopleRead 66 = .ok (.invokevirtual 179, 3) := by decide +kernel
theorem dX7_peopleRead_69 : decode cX7_peopleRead 69 = .ok (.istore 4, 2) := by decide +kernel
theorem dX7_peopleRead_71 : decode cX7_peopleRead 71 = .ok (.aload_n 0, 1) := by decide +kernel
theorem dX7_peopleRead_72 : decode cX7_peopleRead 72 = .ok (.getfield 158, 3) := by decide +kernel
theorem dX7_peopleRead_75 : decode cX7_peopleRead 75 = .ok (.ifCond .ne 35, 3) := by decide +kernel
theorem dX7_peopleRead_78 : decode cX7_peopleRead 78 = .ok (.aload_n 0, 1) := by decide +kernel
theorem dX7_peopleRead_79 : decode cX7_peopleRead 79 = .ok (.getfield 22, 3) := by decide +kernel
theorem dX7_peopleRead_82 : decode cX7_peopleRead 82 = .ok (.iconst 3, 1) := by decide +kernel
theorem dX7_peopleRead_83 : decode cX7_peopleRead 83 = .ok (.iload_n 1, 1) := by decide +kernel
theorem dX7_peopleRead_84 : decode cX7_peopleRead 84 = .ok (.imul, 1) := by decide +kernel
theorem dX7_peopleRead_85 : decode cX7_peopleRead 85 = .ok (.iload_n 2, 1) := by decide +kernel
theorem dX7_peopleRead_86 : decode cX7_peopleRead 86 = .ok (.iastore, 1) := by decide +kernel
theorem dX7_peopleRead_87 : decode cX7_peopleRead 87 = .ok (.aload_n 0, 1) := by decide +kernel
theorem dX7_peopleRead_88 : decode cX7_peopleRead 88 = .ok (.getfield 22, 3) := by decide +kernel
theorem dX7_peopleRead_91 : decode cX7_peopleRead 91 = .ok (.iconst 3, 1) := by decide +kernel
theorem dX7_peopleRead_92 : decode cX7_peopleRead 92 = .ok (.iload_n 1, 1) := by decide +kernel
theorem dX7_peopleRead_93 : decode cX7_peopleRead 93 = .ok (.imul, 1) := by decide +kernel
theorem dX7_peopleRead_94 : decode cX7_peopleRead 94 = .ok (.iconst 1, 1) := by decide +kernel
theorem dX7_peopleRead_95 : decode cX7_peopleRead 95 = .ok (.iadd, 1) := by decide +kernel
theorem dX7_peopleRead_96 : decode cX7_peopleRead 96 = .ok (.iload_n 3, 1) := by decide +kernel
theorem dX7_peopleRead_97 : decode cX7_peopleRead 97 = .ok (.iastore, 1) := by decide +kernel
theorem dX7_peopleRead_98 : decode cX7_peopleRead 98 = .ok (.aload_n 0, 1) := by decide +kernel
theorem dX7_peopleRead_99 : decode cX7_peopleRead 99 = .ok (.getfield 22, 3) := by decide +kernel
theorem dX7_peopleRead_102 : decode cX7_peopleRead 102 = .ok (.iconst 3, 1) := by decide +kernel
theorem dX7_peopleRead_103 : decode cX7_peopleRead 103 = .ok (.iload_n 1, 1) := by decide +kernel
theorem dX7_peopleRead_104 : decode cX7_peopleRead 104 = .ok (.imul, 1) := by decide +kernel
theorem dX7_peopleRead_105 : decode cX7_peopleRead 105 = .ok (.iconst 2, 1) := by decide +kernel
theorem dX7_peopleRead_106 : decode cX7_peopleRead 106 = .ok (.iadd, 1) := by decide +kernel
theorem dX7_peopleRead_107 : decode cX7_peopleRead 107 = .ok (.iload 4, 2) := by decide +kernel
theorem dX7_peopleRead_109 : decode cX7_peopleRead 109 = .ok (.iastore, 1) := by decide +kernel
theorem dX7_peopleRead_110 : decode cX7_peopleRead 110 = .ok (.iinc 1 1, 3) := by decide +kernel
theorem dX7_peopleRead_113 : decode cX7_peopleRead 113 = .ok (.goto (-111), 3) := by decide +kernel
theorem dX7_peopleRead_116 : decode cX7_peopleRead 116 = .ok (.iload_n 1, 1) := by decide +kernel
theorem dX7_peopleRead_117 : decode cX7_peopleRead 117 = .ok (.ireturn, 1) := by decide +kernel
theorem dX7_read_0 : decode cX7_read 0 = .ok (.aload_n 0, 1) := by decide +kernel
theorem dX7_read_1 : decode cX7_read 1 = .ok (.iconst 0, 1) := by decide +kernel
theorem dX7_read_2 : decode cX7_read 2 = .ok (.putfield 155, 3) := by decide +kernel
theorem dX7_read_5 : decode cX7_read 5 = .ok (.aload_n 0, 1) := by decide +kernel
theorem dX7_read_6 : decode cX7_read 6 = .ok (.iconst 0, 1) := by decide +kernel
theorem dX7_read_7 : decode cX7_read 7 = .ok (.putfield 158, 3) := by decide +kernel
theorem dX7_read_10 : decode cX7_read 10 = .ok (.aload_n 0, 1) := by decide +kernel
theorem dX7_read_11 : decode cX7_read 11 = .ok (.invokevirtual 183, 3) := by decide +kernel
theorem dX7_read_14 : decode cX7_read 14 = .ok (.istore_n 1, 1) := by decide +kernel
theorem dX7_read_15 : decode cX7_read 15 = .ok (.iconst 0, 1) := by decide +kernel
theorem dX7_read_16 : decode cX7_read 16 = .ok (.istore_n 2, 1) := by decide +kernel
theorem dX7_read_17 : decode cX7_read 17 = .ok (.aload_n 0, 1) := by decide +kernel
theorem dX7_read_18 : decode cX7_read 18 = .ok (.getfield 158, 3) := by decide +kernel
theorem dX7_read_21 : decode cX7_read 21 = .ok (.ifCond .ne 27, 3) := by decide +kernel
theorem dX7_read_24 : decode cX7_read 24 = .ok (.aload_n 0, 1) := by decide +kernel
theorem dX7_read_25 : decode cX7_read 25 = .ok (.invokevirtual 162, 3) := by decide +kernel
theorem dX7_read_28 : decode cX7_read 28 = .ok (.bipush 59, 2) := by decide +kernel
theorem dX7_read_30 : decode cX7_read 30 = .ok (.if_icmp .ne 18, 3) := by decide +kernel
theorem dX7_read_33 : decode cX7_read 33 = .ok (.aload_n 0, 1) := by decide +kernel
theorem dX7_read_34 : decode cX7_read 34 = .ok (.dup, 1) := by decide +kernel
theorem dX7_read_35 : decode cX7_read 35 = .ok (.getfield 155, 3) := by decide +kernel
theorem dX7_read_38 : decode cX7_read 38 = .ok (.iconst 1, 1) := by decide +kernel
theorem dX7_read_39 : decode cX7_read 39 = .ok (.iadd, 1) := by decide +kernel
theorem dX7_read_40 : decode cX7_read 40 = .ok (.putfield 155, 3) := by decide +kernel
theorem dX7_read_43 : decode cX7_read 43 = .ok (.aload_n 0, 1) := by decide +kernel
theorem dX7_read_44 : decode cX7_read 44 = .ok (.invokevirtual 186, 3) := by decide +kernel
theorem dX7_read_47 : decode cX7_read 47 = .ok (.istore_n 2, 1) := by decide +kernel
theorem dX7_read_48 : decode cX7_read 48 = .ok (.aload_n 0, 1) := by decide +kernel
theorem dX7_read_49 : decode cX7_read 49 = .ok (.aload_n 0, 1) := by decide +kernel
theorem dX7_read_50 : decode cX7_read 50 = .ok (.getfield 158, 3) := by decide +kernel
theorem dX7_read_53 : decode cX7_read 53 = .ok (.ifCond .ne 10, 3) := by decide +kernel
theorem dX7_read_56 : decode cX7_read 56 = .ok (.aload_n 0, 1) := by decide +kernel
theorem dX7_read_57 : decode cX7_read 57 = .ok (.invokevirtual 162, 3) := by decide +kernel
theorem dX7_read_60 : decode cX7_read 60 = .ok (.ifCond .eq 7, 3) := by decide +kernel
theorem dX7_read_63 : decode cX7_read 63 = .ok (.iconst 1, 1) := by decide +kernel
theorem dX7_read_64 : decode cX7_read 64 = .ok (.goto 4, 3) := by decide +kernel
theorem dX7_read_67 : decode cX7_read 67 = .ok (.iconst 0, 1) := by decide +kernel
theorem dX7_read_68 : decode cX7_read 68 = .ok (.putfield 158, 3) := by decide +kernel
theorem dX7_read_71 : decode cX7_read 71 = .ok (.aload_n 0, 1) := by decide +kernel
theorem dX7_read_72 : decode cX7_read 72 = .ok (.iconst 0, 1) := by decide +kernel
theorem dX7_read_73 : decode cX7_read 73 = .ok (.putfield 152, 3) := by decide +kernel
theorem dX7_read_76 : decode cX7_read 76 = .ok (.aload_n 0, 1) := by decide +kernel
theorem dX7_read_77 : decode cX7_read 77 = .ok (.getfield 158, 3) := by decide +kernel
theorem dX7_read_80 : decode cX7_read 80 = .ok (.ifCond .eq 11, 3) := by decide +kernel
theorem dX7_read_83 : decode cX7_read 83 = .ok (.bipush (-20), 2) := by decide +kernel
theorem dX7_read_85 : decode cX7_read 85 = .ok (.aload_n 0, 1) := by decide +kernel
theorem dX7_read_86 : decode cX7_read 86 = .ok (.getfield 155, 3) := by decide +kernel
theorem dX7_read_89 : decode cX7_read 89 = .ok (.isub, 1) := by decide +kernel
theorem dX7_read_90 : decode cX7_read 90 = .ok (.ireturn, 1) := by decide +kernel
theorem dX7_read_91 : decode cX7_read 91 = .ok (.aload_n 0, 1) := by decide +kernel
theorem dX7_read_92 : decode cX7_read 92 = .ok (.getfield 7, 3) := by decide +kernel
theorem dX7_read_95 : decode cX7_read 95 = .ok (.iconst 0, 1) := by decide +kernel
theorem dX7_read_96 : decode cX7_read 96 = .ok (.iconst 0, 1) := by decide +kernel
theorem dX7_read_97 : decode cX7_read 97 = .ok (.iastore, 1) := by decide +kernel
theorem dX7_read_98 : decode cX7_read 98 = .ok (.aload_n 0, 1) := by decide +kernel
theorem dX7_read_99 : decode cX7_read 99 = .ok (.getfield 7, 3) := by decide +kernel
theorem dX7_read_102 : decode cX7_read 102 = .ok (.iconst 1, 1) := by decide +kernel
theorem dX7_read_103 : decode cX7_read 103 = .ok (.iconst 0, 1) := by decide +kernel
theorem dX7_read_104 : decode cX7_read 104 = .ok (.iastore, 1) := by decide +kernel
theorem dX7_read_105 : decode cX7_read 105 = .ok (.aload_n 0, 1) := by decide +kernel
theorem dX7_read_106 : decode cX7_read 106 = .ok (.getfield 7, 3) := by decide +kernel
theorem dX7_read_109 : decode cX7_read 109 = .ok (.iconst 2, 1) := by decide +kernel
theorem dX7_read_110 : decode cX7_read 110 = .ok (.iconst 0, 1) := by decide +kernel
theorem dX7_read_111 : decode cX7_read 111 = .ok (.iastore, 1) := by decide +kernel
theorem dX7_read_112 : decode cX7_read 112 = .ok (.iconst 0, 1) := by decide +kernel
theorem dX7_read_113 : decode cX7_read 113 = .ok (.istore_n 3, 1) := by decide +kernel
theorem dX7_read_114 : decode cX7_read 114 = .ok (.iload_n 3, 1) := by decide +kernel
theorem dX7_read_115 : decode cX7_read 115 = .ok (.iload_n 1, 1) := by decide +kernel
theorem dX7_read_116 : decode cX7_read 116 = .ok (.if_icmp .ge 41, 3) := by decide +kernel
theorem dX7_read_119 : decode cX7_read 119 = .ok (.aload_n 0, 1) := by decide +kernel
theorem dX7_read_120 : decode cX7_read 120 = .ok (.aload_n 0, 1) := by decide +kernel
theorem dX7_read_121 : decode cX7_read 121 = .ok (.getfield 19, 3) := by decide +kernel
theorem dX7_read_124 : decode cX7_read 124 = .ok (.iconst 3, 1) := by decide +kernel
theorem dX7_read_125 : decode cX7_read 125 = .ok (.iload_n 3, 1) := by decide +kernel
theorem dX7_read_126 : decode cX7_read 126 = .ok (.imul, 1) := by decide +kernel
theorem dX7_read_127 : decode cX7_read 127 = .ok (.iaload, 1) := by decide +kernel
theorem dX7_read_128 : decode cX7_read 128 = .ok (.aload_n 0, 1) := by decide +kernel
theorem dX7_read_129 : decode cX7_read 129 = .ok (.getfield 19, 3) := by decide +kernel
theorem dX7_read_132 : decode cX7_read 132 = .ok (.iconst 3, 1) := by decide +kernel
theorem dX7_read_133 : decode cX7_read 133 = .ok (.iload_n 3, 1) := by decide +kernel
theorem dX7_read_134 : decode cX7_read 134 = .ok (.imul, 1) := by decide +kernel
theorem dX7_read_135 : decode cX7_read 135 = .ok (.iconst 1, 1) := by decide +kernel
theorem dX7_read_136 : decode cX7_read 136 = .ok (.iadd, 1) := by decide +kernel
theorem dX7_read_137 : decode cX7_read 137 = .ok (.iaload, 1) := by decide +kernel
theorem dX7_read_138 : decode cX7_read 138 = .ok (.aload_n 0, 1) := by decide +kernel
theorem dX7_read_139 : decode cX7_read 139 = .ok (.getfield 19, 3) := by decide +kernel
theorem dX7_read_142 : decode cX7_read 142 = .ok (.iconst 3, 1) := by decide +kernel
theorem dX7_read_143 : decode cX7_read 143 = .ok (.iload_n 3, 1) := by decide +kernel
theorem dX7_read_144 : decode cX7_read 144 = .ok (.imul, 1) := by decide +kernel
theorem dX7_read_145 : decode cX7_read 145 = .ok (.iconst 2, 1) := by decide +kernel
theorem dX7_read_146 : decode cX7_read 146 = .ok (.iadd, 1) := by decide +kernel
theorem dX7_read_147 : decode cX7_read 147 = .ok (.iaload, 1) := by decide +kernel
theorem dX7_read_148 : decode cX7_read 148 = .ok (.invokevirtual 119, 3) := by decide +kernel
theorem dX7_read_151 : decode cX7_read 151 = .ok (.iinc 3 1, 3) := by decide +kernel
theorem dX7_read_154 : decode cX7_read 154 = .ok (.goto (-40), 3) := by decide +kernel
theorem dX7_read_157 : decode cX7_read 157 = .ok (.iconst 0, 1) := by decide +kernel
theorem dX7_read_158 : decode cX7_read 158 = .ok (.istore_n 3, 1) := by decide +kernel
theorem dX7_read_159 : decode cX7_read 159 = .ok (.iload_n 3, 1) := by decide +kernel
theorem dX7_read_160 : decode cX7_read 160 = .ok (.iload_n 2, 1) := by decide +kernel
theorem dX7_read_161 : decode cX7_read 161 = .ok (.if_icmp .ge 41, 3) := by decide +kernel
theorem dX7_read_164 : decode cX7_read 164 = .ok (.aload_n 0, 1) := by decide +kernel
theorem dX7_read_165 : decode cX7_read 165 = .ok (.aload_n 0, 1) := by decide +kernel
theorem dX7_read_166 : decode cX7_read 166 = .ok (.getfield 22, 3) := by decide +kernel
theorem dX7_read_169 : decode cX7_read 169 = .ok (.iconst 3, 1) := by decide +kernel
theorem dX7_read_170 : decode cX7_read 170 = .ok (.iload_n 3, 1) := by decide +kernel
theorem dX7_read_171 : decode cX7_read 171 = .ok (.imul, 1) := by decide +kernel
theorem dX7_read_172 : decode cX7_read 172 = .ok (.iaload, 1) := by decide +kernel
theorem dX7_read_173 : decode cX7_read 173 = .ok (.aload_n 0, 1) := by decide +kernel
theorem dX7_read_174 : decode cX7_read 174 = .ok (.getfield 22, 3) := by decide +kernel
theorem dX7_read_177 : decode cX7_read 177 = .ok (.iconst 3, 1) := by decide +kernel
theorem dX7_read_178 : decode cX7_read 178 = .ok (.iload_n 3, 1) := by decide +kernel
theorem dX7_read_179 : decode cX7_read 179 = .ok (.imul, 1) := by decide +kernel
theorem dX7_read_180 : decode cX7_read 180 = .ok (.iconst 1, 1) := by decide +kernel
theorem dX7_read_181 : decode cX7_read 181 = .ok (.iadd, 1) := by decide +kernel
theorem dX7_read_182 : decode cX7_read 182 = .ok (.iaload, 1) := by decide +kernel
theorem dX7_read_183 : decode cX7_read 183 = .ok (.aload_n 0, 1) := by decide +kernel
theorem dX7_read_184 : decode cX7_read 184 = .ok (.getfield 22, 3) := by decide +kernel
theorem dX7_read_187 : decode cX7_read 187 = .ok (.iconst 3, 1) := by decide +kernel
theorem dX7_read_188 : decode cX7_read 188 = .ok (.iload_n 3, 1) := by decide +kernel
theorem dX7_read_189 : decode cX7_read 189 = .ok (.imul, 1) := by decide +kernel
theorem dX7_read_190 : decode cX7_read 190 = .ok (.iconst 2, 1) := by decide +kernel
theorem dX7_read_191 : decode cX7_read 191 = .ok (.iadd, 1) := by decide +kernel
theorem dX7_read_192 : decode cX7_read 192 = .ok (.iaload, 1) := by decide +kernel
theorem dX7_read_193 : decode cX7_read 193 = .ok (.invokevirtual 126, 3) := by decide +kernel
theorem dX7_read_196 : decode cX7_read 196 = .ok (.iinc 3 1, 3) := by decide +kernel
theorem dX7_read_199 : decode cX7_read 199 = .ok (.goto (-40), 3) := by decide +kernel
theorem dX7_read_202 : decode cX7_read 202 = .ok (.iload_n 1, 1) := by decide +kernel
theorem dX7_read_203 : decode cX7_read 203 = .ok (.ireturn, 1) := by decide +kernel
theorem dX7_notes_0 : decode cX7_notes 0 = .ok (.aload_n 0, 1) := by decide +kernel
theorem dX7_notes_1 : decode cX7_notes 1 = .ok (.getfield 109, 3) := by decide +kernel
theorem dX7_notes_4 : decode cX7_notes 4 = .ok (.bipush 8, 2) := by decide +kernel
theorem dX7_notes_6 : decode cX7_notes 6 = .ok (.if_icmp .ne 40, 3) := by decide +kernel
theorem dX7_notes_9 : decode cX7_notes 9 = .ok (.bipush 21, 2) := by decide +kernel
theorem dX7_notes_11 : decode cX7_notes 11 = .ok (.istore_n 1, 1) := by decide +kernel
theorem dX7_notes_12 : decode cX7_notes 12 = .ok (.iload_n 1, 1) := by decide +kernel
theorem dX7_notes_13 : decode cX7_notes 13 = .ok (.sipush 168, 3) := by decide +kernel
theorem dX7_notes_16 : decode cX7_notes 16 = .ok (.if_icmp .ge 24, 3) := by decide +kernel
theorem dX7_notes_19 : decode cX7_notes 19 = .ok (.aload_n 0, 1) := by decide +kernel
theorem dX7_notes_20 : decode cX7_notes 20 = .ok (.getfield 25, 3) := by decide +kernel
theorem dX7_notes_23 : decode cX7_notes 23 = .ok (.iload_n 1, 1) := by decide +kernel
theorem dX7_notes_24 : decode cX7_notes 24 = .ok (.bipush 21, 2) := by decide +kernel
theorem dX7_notes_26 : decode cX7_notes 26 = .ok (.isub, 1) := by decide +kernel
theorem dX7_notes_27 : decode cX7_notes 27 = .ok (.aload_n 0, 1) := by decide +kernel
theorem dX7_notes_28 : decode cX7_notes 28 = .ok (.getfield 25, 3) := by decide +kernel
theorem dX7_notes_31 : decode cX7_notes 31 = .ok (.iload_n 1, 1) := by decide +kernel
theorem dX7_notes_32 : decode cX7_notes 32 = .ok (.iaload, 1) := by decide +kernel
theorem dX7_notes_33 : decode cX7_notes 33 = .ok (.iastore, 1) := by decide +kernel
theorem dX7_notes_34 : decode cX7_notes 34 = .ok (.iinc 1 1, 3) := by decide +kernel
theorem dX7_notes_37 : decode cX7_notes 37 = .ok (.goto (-25), 3) := by decide +kernel
theorem dX7_notes_40 : decode cX7_notes 40 = .ok (.aload_n 0, 1) := by decide +kernel
theorem dX7_notes_41 : decode cX7_notes 41 = .ok (.bipush 7, 2) := by decide +kernel
theorem dX7_notes_43 : decode cX7_notes 43 = .ok (.putfield 109, 3) := by decide +kernel
theorem dX7_notes_46 : decode cX7_notes 46 = .ok (.bipush 21, 2) := by decide +kernel
theorem dX7_notes_48 : decode cX7_notes 48 = .ok (.aload_n 0, 1) := by decide +kernel
theorem dX7_notes_49 : decode cX7_notes 49 = .ok (.getfield 109, 3) := by decide +kernel
theorem dX7_notes_52 : decode cX7_notes 52 = .ok (.imul, 1) := by decide +kernel
theorem dX7_notes_53 : decode cX7_notes 53 = .ok (.istore_n 1, 1) := by decide +kernel
theorem dX7_notes_54 : decode cX7_notes 54 = .ok (.aload_n 0, 1) := by decide +kernel
theorem dX7_notes_55 : decode cX7_notes 55 = .ok (.getfield 25, 3) := by decide +kernel
theorem dX7_notes_58 : decode cX7_notes 58 = .ok (.iload_n 1, 1) := by decide +kernel
theorem dX7_notes_59 : decode cX7_notes 59 = .ok (.aload_n 0, 1) := by decide +kernel
theorem dX7_notes_60 : decode cX7_notes 60 = .ok (.getfield 7, 3) := by decide +kernel
theorem dX7_notes_63 : decode cX7_notes 63 = .ok (.iconst 2, 1) := by decide +kernel
theorem dX7_notes_64 : decode cX7_notes 64 = .ok (.iaload, 1) := by decide +kernel
theorem dX7_notes_65 : decode cX7_notes 65 = .ok (.iastore, 1) := by decide +kernel
theorem dX7_notes_66 : decode cX7_notes 66 = .ok (.aload_n 0, 1) := by decide +kernel
theorem dX7_notes_67 : decode cX7_notes 67 = .ok (.getfield 25, 3) := by decide +kernel
theorem dX7_notes_70 : decode cX7_notes 70 = .ok (.iload_n 1, 1) := by decide +kernel
theorem dX7_notes_71 : decode cX7_notes 71 = .ok (.iconst 1, 1) := by decide +kernel
theorem dX7_notes_72 : decode cX7_notes 72 = .ok (.iadd, 1) := by decide +kernel
theorem dX7_notes_73 : decode cX7_notes 73 = .ok (.aload_n 0, 1) := by decide +kernel
theorem dX7_notes_74 : decode cX7_notes 74 = .ok (.getfield 7, 3) := by decide +kernel
theorem dX7_notes_77 : decode cX7_notes 77 = .ok (.iconst 3, 1) := by decide +kernel
theorem dX7_notes_78 : decode cX7_notes 78 = .ok (.iaload, 1) := by decide +kernel
theorem dX7_notes_79 : decode cX7_notes 79 = .ok (.iastore, 1) := by decide +kernel
theorem dX7_notes_80 : decode cX7_notes 80 = .ok (.iconst 0, 1) := by decide +kernel
theorem dX7_notes_81 : decode cX7_notes 81 = .ok (.istore_n 2, 1) := by decide +kernel
theorem dX7_notes_82 : decode cX7_notes 82 = .ok (.iload_n 2, 1) := by decide +kernel
theorem dX7_notes_83 : decode cX7_notes 83 = .ok (.bipush 7, 2) := by decide +kernel
theorem dX7_notes_85 : decode cX7_notes 85 = .ok (.if_icmp .ge 24, 3) := by decide +kernel
theorem dX7_notes_88 : decode cX7_notes 88 = .ok (.aload_n 0, 1) := by decide +kernel
theorem dX7_notes_89 : decode cX7_notes 89 = .ok (.getfield 25, 3) := by decide +kernel
theorem dX7_notes_92 : decode cX7_notes 92 = .ok (.iload_n 1, 1) := by decide +kernel
theorem dX7_notes_93 : decode cX7_notes 93 = .ok (.iconst 2, 1) := by decide +kernel
theorem dX7_notes_94 : decode cX7_notes 94 = .ok (.iadd, 1) := by decide +kernel
theorem dX7_notes_95 : decode cX7_notes 95 = .ok (.iload_n 2, 1) := by decide +kernel
theorem dX7_notes_96 : decode cX7_notes 96 = .ok (.iadd, 1) := by decide +kernel
theorem dX7_notes_97 : decode cX7_notes 97 = .ok (.aload_n 0, 1) := by decide +kernel
theorem dX7_notes_98 : decode cX7_notes 98 = .ok (.iload_n 2, 1) := by decide +kernel
theorem dX7_notes_99 : decode cX7_notes 99 = .ok (.invokevirtual 78, 3) := by decide +kernel
theorem dX7_notes_102 : decode cX7_notes 102 = .ok (.iastore, 1) := by decide +kernel
theorem dX7_notes_103 : decode cX7_notes 103 = .ok (.iinc 2 1, 3) := by decide +kernel
theorem dX7_notes_106 : decode cX7_notes 106 = .ok (.goto (-24), 3) := by decide +kernel
theorem dX7_notes_109 : decode cX7_notes 109 = .ok (.iconst 0, 1) := by decide +kernel
theorem dX7_notes_110 : decode cX7_notes 110 = .ok (.istore_n 2, 1) := by decide +kernel
theorem dX7_notes_111 : decode cX7_notes 111 = .ok (.iload_n 2, 1) := by decide +kernel
theorem dX7_notes_112 : decode cX7_notes 112 = .ok (.bipush 6, 2) := by decide +kernel
theorem dX7_notes_114 : decode cX7_notes 114 = .ok (.if_icmp .ge 43, 3) := by decide +kernel
theorem dX7_notes_117 : decode cX7_notes 117 = .ok (.aload_n 0, 1) := by decide +kernel
theorem dX7_notes_118 : decode cX7_notes 118 = .ok (.getfield 25, 3) := by decide +kernel
theorem dX7_notes_121 : decode cX7_notes 121 = .ok (.iload_n 1, 1) := by decide +kernel
theorem dX7_notes_122 : decode cX7_notes 122 = .ok (.bipush 9, 2) := by decide +kernel
theorem dX7_notes_124 : decode cX7_notes 124 = .ok (.iadd, 1) := by decide +kernel
theorem dX7_notes_125 : decode cX7_notes 125 = .ok (.iload_n 2, 1) := by decide +kernel
theorem dX7_notes_126 : decode cX7_notes 126 = .ok (.iadd, 1) := by decide +kernel
theorem dX7_notes_127 : decode cX7_notes 127 = .ok (.aload_n 0, 1) := by decide +kernel
theorem dX7_notes_128 : decode cX7_notes 128 = .ok (.iload_n 2, 1) := by decide +kernel
theorem dX7_notes_129 : decode cX7_notes 129 = .ok (.iconst 1, 1) := by decide +kernel
theorem dX7_notes_130 : decode cX7_notes 130 = .ok (.invokevirtual 67, 3) := by decide +kernel
theorem dX7_notes_133 : decode cX7_notes 133 = .ok (.iastore, 1) := by decide +kernel
theorem dX7_notes_134 : decode cX7_notes 134 = .ok (.aload_n 0, 1) := by decide +kernel
theorem dX7_notes_135 : decode cX7_notes 135 = .ok (.getfield 25, 3) := by decide +kernel
theorem dX7_notes_138 : decode cX7_notes 138 = .ok (.iload_n 1, 1) := by decide +kernel
theorem dX7_notes_139 : decode cX7_notes 139 = .ok (.bipush 15, 2) := by decide +kernel
theorem dX7_notes_141 : decode cX7_notes 141 = .ok (.iadd, 1) := by decide +kernel
theorem dX7_notes_142 : decode cX7_notes 142 = .ok (.iload_n 2, 1) := by decide +kernel
theorem dX7_notes_143 : decode cX7_notes 143 = .ok (.iadd, 1) := by decide +kernel
theorem dX7_notes_144 : decode cX7_notes 144 = .ok (.aload_n 0, 1) := by decide +kernel
theorem dX7_notes_145 : decode cX7_notes 145 = .ok (.iload_n 2, 1) := by decide +kernel
theorem dX7_notes_146 : decode cX7_notes 146 = .ok (.iconst 3, 1) := by decide +kernel
theorem dX7_notes_147 : decode cX7_notes 147 = .ok (.invokevirtual 67, 3) := by decide +kernel
theorem dX7_notes_150 : decode cX7_notes 150 = .ok (.iastore, 1) := by decide +kernel
theorem dX7_notes_151 : decode cX7_notes 151 = .ok (.iinc 2 1, 3) := by decide +kernel
theorem dX7_notes_154 : decode cX7_notes 154 = .ok (.goto (-43), 3) := by decide +kernel
theorem dX7_notes_157 : decode cX7_notes 157 = .ok (.aload_n 0, 1) := by decide +kernel
theorem dX7_notes_158 : decode cX7_notes 158 = .ok (.dup, 1) := by decide +kernel
theorem dX7_notes_159 : decode cX7_notes 159 = .ok (.getfield 109, 3) := by decide +kernel
theorem dX7_notes_162 : decode cX7_notes 162 = .ok (.iconst 1, 1) := by decide +kernel
theorem dX7_notes_163 : decode cX7_notes 163 = .ok (.iadd, 1) := by decide +kernel
theorem dX7_notes_164 : decode cX7_notes 164 = .ok (.putfield 109, 3) := by decide +kernel
theorem dX7_notes_167 : decode cX7_notes 167 = .ok (.return_, 1) := by decide +kernel
theorem dX7_hours_0 : decode cX7_hours 0 = .ok (.iload_n 1, 1) := by decide +kernel
theorem dX7_hours_1 : decode cX7_hours 1 = .ok (.i2l, 1) := by decide +kernel
theorem dX7_hours_2 : decode cX7_hours 2 = .ok (.lconst 1, 1) := by decide +kernel
theorem dX7_hours_3 : decode cX7_hours 3 = .ok (.ldc2_w 189, 3) := by decide +kernel
theorem dX7_hours_6 : decode cX7_hours 6 = .ok (.invokestatic 59, 3) := by decide +kernel
theorem dX7_hours_9 : decode cX7_hours 9 = .ok (.ifCond .ne 5, 3) := by decide +kernel
theorem dX7_hours_12 : decode cX7_hours 12 = .ok (.iconst (-1), 1) := by decide +kernel
theorem dX7_hours_13 : decode cX7_hours 13 = .ok (.ireturn, 1) := by decide +kernel
theorem dX7_hours_14 : decode cX7_hours 14 = .ok (.aload_n 0, 1) := by decide +kernel
theorem dX7_hours_15 : decode cX7_hours 15 = .ok (.getfield 7, 3) := by decide +kernel
theorem dX7_hours_18 : decode cX7_hours 18 = .ok (.iconst 2, 1) := by decide +kernel
theorem dX7_hours_19 : decode cX7_hours 19 = .ok (.iaload, 1) := by decide +kernel
theorem dX7_hours_20 : decode cX7_hours 20 = .ok (.iload_n 1, 1) := by decide +kernel
theorem dX7_hours_21 : decode cX7_hours 21 = .ok (.iadd, 1) := by decide +kernel
theorem dX7_hours_22 : decode cX7_hours 22 = .ok (.sipush 9999, 3) := by decide +kernel
theorem dX7_hours_25 : decode cX7_hours 25 = .ok (.if_icmp .le 6, 3) := by decide +kernel
theorem dX7_hours_28 : decode cX7_hours 28 = .ok (.bipush (-3), 2) := by decide +kernel
theorem dX7_hours_30 : decode cX7_hours 30 = .ok (.ireturn, 1) := by decide +kernel
theorem dX7_hours_31 : decode cX7_hours 31 = .ok (.iconst 0, 1) := by decide +kernel
theorem dX7_hours_32 : decode cX7_hours 32 = .ok (.istore_n 2, 1) := by decide +kernel
theorem dX7_hours_33 : decode cX7_hours 33 = .ok (.iload_n 2, 1) := by decide +kernel
theorem dX7_hours_34 : decode cX7_hours 34 = .ok (.iload_n 1, 1) := by decide +kernel
theorem dX7_hours_35 : decode cX7_hours 35 = .ok (.if_icmp .ge 17, 3) := by decide +kernel
theorem dX7_hours_38 : decode cX7_hours 38 = .ok (.aload_n 0, 1) := by decide +kernel
theorem dX7_hours_39 : decode cX7_hours 39 = .ok (.invokevirtual 191, 3) := by decide +kernel
theorem dX7_hours_42 : decode cX7_hours 42 = .ok (.aload_n 0, 1) := by decide +kernel
theorem dX7_hours_43 : decode cX7_hours 43 = .ok (.invokevirtual 106, 3) := by decide +kernel
theorem dX7_hours_46 : decode cX7_hours 46 = .ok (.iinc 2 1, 3) := by decide +kernel
theorem dX7_hours_49 : decode cX7_hours 49 = .ok (.goto (-16), 3) := by decide +kernel
theorem dX7_hours_52 : decode cX7_hours 52 = .ok (.aload_n 0, 1) := by decide +kernel
theorem dX7_hours_53 : decode cX7_hours 53 = .ok (.invokevirtual 142, 3) := by decide +kernel
theorem dX7_hours_56 : decode cX7_hours 56 = .ok (.ireturn, 1) := by decide +kernel
theorem dX7_rains_0 : decode cX7_rains 0 = .ok (.iconst 0, 1) := by decide +kernel
theorem dX7_rains_1 : decode cX7_rains 1 = .ok (.istore_n 2, 1) := by decide +kernel
theorem dX7_rains_2 : decode cX7_rains 2 = .ok (.iload_n 2, 1) := by decide +kernel
theorem dX7_rains_3 : decode cX7_rains 3 = .ok (.aload_n 0, 1) := by decide +kernel
theorem dX7_rains_4 : decode cX7_rains 4 = .ok (.getfield 7, 3) := by decide +kernel
theorem dX7_rains_7 : decode cX7_rains 7 = .ok (.iconst 0, 1) := by decide +kernel
theorem dX7_rains_8 : decode cX7_rains 8 = .ok (.iaload, 1) := by decide +kernel
theorem dX7_rains_9 : decode cX7_rains 9 = .ok (.if_icmp .ge 21, 3) := by decide +kernel
theorem dX7_rains_12 : decode cX7_rains 12 = .ok (.aload_n 0, 1) := by decide +kernel
theorem dX7_rains_13 : decode cX7_rains 13 = .ok (.iload_n 2, 1) := by decide +kernel
theorem dX7_rains_14 : decode cX7_rains 14 = .ok (.aload_n 0, 1) := by decide +kernel
theorem dX7_rains_15 : decode cX7_rains 15 = .ok (.iload_n 2, 1) := by decide +kernel
theorem dX7_rains_16 : decode cX7_rains 16 = .ok (.invokevirtual 78, 3) := by decide +kernel
theorem dX7_rains_19 : decode cX7_rains 19 = .ok (.iload_n 1, 1) := by decide +kernel
theorem dX7_rains_20 : decode cX7_rains 20 = .ok (.iadd, 1) := by decide +kernel
theorem dX7_rains_21 : decode cX7_rains 21 = .ok (.invokevirtual 102, 3) := by decide +kernel
theorem dX7_rains_24 : decode cX7_rains 24 = .ok (.iinc 2 1, 3) := by decide +kernel
theorem dX7_rains_27 : decode cX7_rains 27 = .ok (.goto (-25), 3) := by decide +kernel
theorem dX7_rains_30 : decode cX7_rains 30 = .ok (.return_, 1) := by decide +kernel
theorem dX7_rain_0 : decode cX7_rain 0 = .ok (.iload_n 1, 1) := by decide +kernel
theorem dX7_rain_1 : decode cX7_rain 1 = .ok (.i2l, 1) := by decide +kernel
theorem dX7_rain_2 : decode cX7_rain 2 = .ok (.lconst 1, 1) := by decide +kernel
theorem dX7_rain_3 : decode cX7_rain 3 = .ok (.ldc2_w 117, 3) := by decide +kernel
theorem dX7_rain_6 : decode cX7_rain 6 = .ok (.invokestatic 59, 3) := by decide +kernel
theorem dX7_rain_9 : decode cX7_rain 9 = .ok (.ifCond .ne 5, 3) := by decide +kernel
theorem dX7_rain_12 : decode cX7_rain 12 = .ok (.iconst (-1), 1) := by decide +kernel
theorem dX7_rain_13 : decode cX7_rain 13 = .ok (.ireturn, 1) := by decide +kernel
theorem dX7_rain_14 : decode cX7_rain 14 = .ok (.aload_n 0, 1) := by decide +kernel
theorem dX7_rain_15 : decode cX7_rain 15 = .ok (.invokevirtual 191, 3) := by decide +kernel
theorem dX7_rain_18 : decode cX7_rain 18 = .ok (.aload_n 0, 1) := by decide +kernel
theorem dX7_rain_19 : decode cX7_rain 19 = .ok (.iload_n 1, 1) := by decide +kernel
theorem dX7_rain_20 : decode cX7_rain 20 = .ok (.invokevirtual 194, 3) := by decide +kernel
theorem dX7_rain_23 : decode cX7_rain 23 = .ok (.aload_n 0, 1) := by decide +kernel
theorem dX7_rain_24 : decode cX7_rain 24 = .ok (.invokevirtual 135, 3) := by decide +kernel
theorem dX7_rain_27 : decode cX7_rain 27 = .ok (.ireturn, 1) := by decide +kernel
theorem dX7_drive_0 : decode cX7_drive 0 = .ok (.aload_n 0, 1) := by decide +kernel
theorem dX7_drive_1 : decode cX7_drive 1 = .ok (.iload_n 1, 1) := by decide +kernel
theorem dX7_drive_2 : decode cX7_drive 2 = .ok (.invokevirtual 74, 3) := by decide +kernel
theorem dX7_drive_5 : decode cX7_drive 5 = .ok (.ifCond .ne 5, 3) := by decide +kernel
theorem dX7_drive_8 : decode cX7_drive 8 = .ok (.iconst (-1), 1) := by decide +kernel
theorem dX7_drive_9 : decode cX7_drive 9 = .ok (.ireturn, 1) := by decide +kernel
theorem dX7_drive_10 : decode cX7_drive 10 = .ok (.aload_n 0, 1) := by decide +kernel
theorem dX7_drive_11 : decode cX7_drive 11 = .ok (.iload_n 1, 1) := by decide +kernel
theorem dX7_drive_12 : decode cX7_drive 12 = .ok (.invokevirtual 81, 3) := by decide +kernel
theorem dX7_drive_15 : decode cX7_drive 15 = .ok (.ifCond .eq 6, 3) := by decide +kernel
theorem dX7_drive_18 : decode cX7_drive 18 = .ok (.bipush (-2), 2) := by decide +kernel
theorem dX7_drive_20 : decode cX7_drive 20 = .ok (.ireturn, 1) := by decide +kernel
theorem dX7_drive_21 : decode cX7_drive 21 = .ok (.aload_n 0, 1) := by decide +kernel
theorem dX7_drive_22 : decode cX7_drive 22 = .ok (.invokevirtual 191, 3) := by decide +kernel
theorem dX7_drive_25 : decode cX7_drive 25 = .ok (.aload_n 0, 1) := by decide +kernel
theorem dX7_drive_26 : decode cX7_drive 26 = .ok (.iload_n 1, 1) := by decide +kernel
theorem dX7_drive_27 : decode cX7_drive 27 = .ok (.aload_n 0, 1) := by decide +kernel
theorem dX7_drive_28 : decode cX7_drive 28 = .ok (.iload_n 1, 1) := by decide +kernel
theorem dX7_drive_29 : decode cX7_drive 29 = .ok (.invokevirtual 78, 3) := by decide +kernel
theorem dX7_drive_32 : decode cX7_drive 32 = .ok (.iconst 2, 1) := by decide +kernel
theorem dX7_drive_33 : decode cX7_drive 33 = .ok (.idiv, 1) := by decide +kernel
theorem dX7_drive_34 : decode cX7_drive 34 = .ok (.invokevirtual 102, 3) := by decide +kernel
theorem dX7_drive_37 : decode cX7_drive 37 = .ok (.aload_n 0, 1) := by decide +kernel
theorem dX7_drive_38 : decode cX7_drive 38 = .ok (.iload_n 1, 1) := by decide +kernel
theorem dX7_drive_39 : decode cX7_drive 39 = .ok (.invokevirtual 78, 3) := by decide +kernel
theorem dX7_drive_42 : decode cX7_drive 42 = .ok (.ireturn, 1) := by decide +kernel
theorem dX7_send_0 : decode cX7_send 0 = .ok (.aload_n 0, 1) := by decide +kernel
theorem dX7_send_1 : decode cX7_send 1 = .ok (.iload_n 1, 1) := by decide +kernel
theorem dX7_send_2 : decode cX7_send 2 = .ok (.invokevirtual 129, 3) := by decide +kernel
theorem dX7_send_5 : decode cX7_send 5 = .ok (.ifCond .ne 5, 3) := by decide +kernel
theorem dX7_send_8 : decode cX7_send 8 = .ok (.iconst (-1), 1) := by decide +kernel
theorem dX7_send_9 : decode cX7_send 9 = .ok (.ireturn, 1) := by decide +kernel
theorem dX7_send_10 : decode cX7_send 10 = .ok (.aload_n 0, 1) := by decide +kernel
theorem dX7_send_11 : decode cX7_send 11 = .ok (.iload_n 1, 1) := by decide +kernel
theorem dX7_send_12 : decode cX7_send 12 = .ok (.invokevirtual 70, 3) := by decide +kernel
theorem dX7_send_15 : decode cX7_send 15 = .ok (.istore_n 2, 1) := by decide +kernel
theorem dX7_send_16 : decode cX7_send 16 = .ok (.iload_n 2, 1) := by decide +kernel
theorem dX7_send_17 : decode cX7_send 17 = .ok (.bipush (-4), 2) := by decide +kernel
theorem dX7_send_19 : decode cX7_send 19 = .ok (.if_icmp .ne 6, 3) := by decide +kernel
theorem dX7_send_22 : decode cX7_send 22 = .ok (.bipush (-2), 2) := by decide +kernel
theorem dX7_send_24 : decode cX7_send 24 = .ok (.ireturn, 1) := by decide +kernel
theorem dX7_send_25 : decode cX7_send 25 = .ok (.aload_n 0, 1) := by decide +kernel
theorem dX7_send_26 : decode cX7_send 26 = .ok (.invokevirtual 191, 3) := by decide +kernel
theorem dX7_send_29 : decode cX7_send 29 = .ok (.aload_n 0, 1) := by decide +kernel
theorem dX7_send_30 : decode cX7_send 30 = .ok (.iload_n 1, 1) := by decide +kernel
theorem dX7_send_31 : decode cX7_send 31 = .ok (.bipush (-4), 2) := by decide +kernel
theorem dX7_send_33 : decode cX7_send 33 = .ok (.iconst 3, 1) := by decide +kernel
theorem dX7_send_34 : decode cX7_send 34 = .ok (.invokevirtual 91, 3) := by decide +kernel
theorem dX7_send_37 : decode cX7_send 37 = .ok (.iload_n 2, 1) := by decide +kernel
theorem dX7_send_38 : decode cX7_send 38 = .ok (.ireturn, 1) := by decide +kernel
theorem dX7_later_0 : decode cX7_later 0 = .ok (.aload_n 0, 1) := by decide +kernel
theorem dX7_later_1 : decode cX7_later 1 = .ok (.iload_n 1, 1) := by decide +kernel
theorem dX7_later_2 : decode cX7_later 2 = .ok (.invokevirtual 129, 3) := by decide +kernel
theorem dX7_later_5 : decode cX7_later 5 = .ok (.ifCond .eq 15, 3) := by decide +kernel
theorem dX7_later_8 : decode cX7_later 8 = .ok (.iload_n 2, 1) := by decide +kernel
theorem dX7_later_9 : decode cX7_later 9 = .ok (.i2l, 1) := by decide +kernel
theorem dX7_later_10 : decode cX7_later 10 = .ok (.lconst 0, 1) := by decide +kernel
theorem dX7_later_11 : decode cX7_later 11 = .ok (.ldc2_w 122, 3) := by decide +kernel
theorem dX7_later_14 : decode cX7_later 14 = .ok (.invokestatic 59, 3) := by decide +kernel
theorem dX7_later_17 : decode cX7_later 17 = .ok (.ifCond .ne 5, 3) := by decide +kernel
end
section
theorem dX7_later_20 : decode cX7_later 20 = .ok (.iconst (-1), 1) := by decide +kernel
theorem dX7_later_21 : decode cX7_later 21 = .ok (.ireturn, 1) := by decide +kernel
theorem dX7_later_22 : decode cX7_later 22 = .ok (.aload_n 0, 1) := by decide +kernel
theorem dX7_later_23 : decode cX7_later 23 = .ok (.iload_n 1, 1) := by decide +kernel
theorem dX7_later_24 : decode cX7_later 24 = .ok (.iconst 1, 1) := by decide +kernel
theorem dX7_later_25 : decode cX7_later 25 = .ok (.invokevirtual 67, 3) := by decide +kernel
theorem dX7_later_28 : decode cX7_later 28 = .ok (.istore_n 3, 1) := by decide +kernel
theorem dX7_later_29 : decode cX7_later 29 = .ok (.iload_n 3, 1) := by decide +kernel
theorem dX7_later_30 : decode cX7_later 30 = .ok (.iload_n 2, 1) := by decide +kernel
theorem dX7_later_31 : decode cX7_later 31 = .ok (.if_icmp .ne 6, 3) := by decide +kernel
theorem dX7_later_34 : decode cX7_later 34 = .ok (.bipush (-2), 2) := by decide +kernel
theorem dX7_later_36 : decode cX7_later 36 = .ok (.ireturn, 1) := by decide +kernel
theorem dX7_later_37 : decode cX7_later 37 = .ok (.aload_n 0, 1) := by decide +kernel
theorem dX7_later_38 : decode cX7_later 38 = .ok (.invokevirtual 191, 3) := by decide +kernel
theorem dX7_later_41 : decode cX7_later 41 = .ok (.aload_n 0, 1) := by decide +kernel
theorem dX7_later_42 : decode cX7_later 42 = .ok (.iload_n 1, 1) := by decide +kernel
theorem dX7_later_43 : decode cX7_later 43 = .ok (.iload_n 2, 1) := by decide +kernel
theorem dX7_later_44 : decode cX7_later 44 = .ok (.iconst 1, 1) := by decide +kernel
theorem dX7_later_45 : decode cX7_later 45 = .ok (.invokevirtual 91, 3) := by decide +kernel
theorem dX7_later_48 : decode cX7_later 48 = .ok (.iload_n 3, 1) := by decide +kernel
theorem dX7_later_49 : decode cX7_later 49 = .ok (.ireturn, 1) := by decide +kernel
theorem dX7_drift_0 : decode cX7_drift 0 = .ok (.iload_n 1, 1) := by decide +kernel
theorem dX7_drift_1 : decode cX7_drift 1 = .ok (.i2l, 1) := by decide +kernel
theorem dX7_drift_2 : decode cX7_drift 2 = .ok (.lconst 1, 1) := by decide +kernel
theorem dX7_drift_3 : decode cX7_drift 3 = .ok (.ldc2_w 189, 3) := by decide +kernel
theorem dX7_drift_6 : decode cX7_drift 6 = .ok (.invokestatic 59, 3) := by decide +kernel
theorem dX7_drift_9 : decode cX7_drift 9 = .ok (.ifCond .ne 5, 3) := by decide +kernel
theorem dX7_drift_12 : decode cX7_drift 12 = .ok (.iconst (-1), 1) := by decide +kernel
theorem dX7_drift_13 : decode cX7_drift 13 = .ok (.ireturn, 1) := by decide +kernel
theorem dX7_drift_14 : decode cX7_drift 14 = .ok (.aload_n 0, 1) := by decide +kernel
theorem dX7_drift_15 : decode cX7_drift 15 = .ok (.getfield 7, 3) := by decide +kernel
theorem dX7_drift_18 : decode cX7_drift 18 = .ok (.iconst 2, 1) := by decide +kernel
theorem dX7_drift_19 : decode cX7_drift 19 = .ok (.iaload, 1) := by decide +kernel
theorem dX7_drift_20 : decode cX7_drift 20 = .ok (.iload_n 1, 1) := by decide +kernel
theorem dX7_drift_21 : decode cX7_drift 21 = .ok (.iadd, 1) := by decide +kernel
theorem dX7_drift_22 : decode cX7_drift 22 = .ok (.sipush 9999, 3) := by decide +kernel
theorem dX7_drift_25 : decode cX7_drift 25 = .ok (.if_icmp .le 6, 3) := by decide +kernel
theorem dX7_drift_28 : decode cX7_drift 28 = .ok (.bipush (-3), 2) := by decide +kernel
theorem dX7_drift_30 : decode cX7_drift 30 = .ok (.ireturn, 1) := by decide +kernel
theorem dX7_drift_31 : decode cX7_drift 31 = .ok (.iconst 0, 1) := by decide +kernel
theorem dX7_drift_32 : decode cX7_drift 32 = .ok (.istore_n 2, 1) := by decide +kernel
theorem dX7_drift_33 : decode cX7_drift 33 = .ok (.iload_n 2, 1) := by decide +kernel
theorem dX7_drift_34 : decode cX7_drift 34 = .ok (.iload_n 1, 1) := by decide +kernel
theorem dX7_drift_35 : decode cX7_drift 35 = .ok (.if_icmp .ge 96, 3) := by decide +kernel
theorem dX7_drift_38 : decode cX7_drift 38 = .ok (.aload_n 0, 1) := by decide +kernel
theorem dX7_drift_39 : decode cX7_drift 39 = .ok (.invokevirtual 191, 3) := by decide +kernel
theorem dX7_drift_42 : decode cX7_drift 42 = .ok (.aload_n 0, 1) := by decide +kernel
theorem dX7_drift_43 : decode cX7_drift 43 = .ok (.getfield 7, 3) := by decide +kernel
theorem dX7_drift_46 : decode cX7_drift 46 = .ok (.iconst 3, 1) := by decide +kernel
theorem dX7_drift_47 : decode cX7_drift 47 = .ok (.aload_n 0, 1) := by decide +kernel
theorem dX7_drift_48 : decode cX7_drift 48 = .ok (.getfield 7, 3) := by decide +kernel
theorem dX7_drift_51 : decode cX7_drift 51 = .ok (.iconst 3, 1) := by decide +kernel
theorem dX7_drift_52 : decode cX7_drift 52 = .ok (.iaload, 1) := by decide +kernel
theorem dX7_drift_53 : decode cX7_drift 53 = .ok (.i2l, 1) := by decide +kernel
theorem dX7_drift_54 : decode cX7_drift 54 = .ok (.ldc2_w 197, 3) := by decide +kernel
theorem dX7_drift_57 : decode cX7_drift 57 = .ok (.lmul, 1) := by decide +kernel
theorem dX7_drift_58 : decode cX7_drift 58 = .ok (.ldc2_w 199, 3) := by decide +kernel
theorem dX7_drift_61 : decode cX7_drift 61 = .ok (.ladd, 1) := by decide +kernel
theorem dX7_drift_62 : decode cX7_drift 62 = .ok (.ldc2_w 201, 3) := by decide +kernel
theorem dX7_drift_65 : decode cX7_drift 65 = .ok (.land, 1) := by decide +kernel
theorem dX7_drift_66 : decode cX7_drift 66 = .ok (.l2i, 1) := by decide +kernel
theorem dX7_drift_67 : decode cX7_drift 67 = .ok (.iastore, 1) := by decide +kernel
theorem dX7_drift_68 : decode cX7_drift 68 = .ok (.aload_n 0, 1) := by decide +kernel
theorem dX7_drift_69 : decode cX7_drift 69 = .ok (.getfield 7, 3) := by decide +kernel
theorem dX7_drift_72 : decode cX7_drift 72 = .ok (.iconst 0, 1) := by decide +kernel
theorem dX7_drift_73 : decode cX7_drift 73 = .ok (.iaload, 1) := by decide +kernel
theorem dX7_drift_74 : decode cX7_drift 74 = .ok (.ifCond .le 47, 3) := by decide +kernel
theorem dX7_drift_77 : decode cX7_drift 77 = .ok (.aload_n 0, 1) := by decide +kernel
theorem dX7_drift_78 : decode cX7_drift 78 = .ok (.getfield 7, 3) := by decide +kernel
theorem dX7_drift_81 : decode cX7_drift 81 = .ok (.iconst 3, 1) := by decide +kernel
theorem dX7_drift_82 : decode cX7_drift 82 = .ok (.iaload, 1) := by decide +kernel
theorem dX7_drift_83 : decode cX7_drift 83 = .ok (.ldc 203, 2) := by decide +kernel
theorem dX7_drift_85 : decode cX7_drift 85 = .ok (.idiv, 1) := by decide +kernel
theorem dX7_drift_86 : decode cX7_drift 86 = .ok (.iconst 3, 1) := by decide +kernel
theorem dX7_drift_87 : decode cX7_drift 87 = .ok (.irem, 1) := by decide +kernel
theorem dX7_drift_88 : decode cX7_drift 88 = .ok (.ifCond .ne 33, 3) := by decide +kernel
theorem dX7_drift_91 : decode cX7_drift 91 = .ok (.aload_n 0, 1) := by decide +kernel
theorem dX7_drift_92 : decode cX7_drift 92 = .ok (.getfield 7, 3) := by decide +kernel
theorem dX7_drift_95 : decode cX7_drift 95 = .ok (.iconst 3, 1) := by decide +kernel
theorem dX7_drift_96 : decode cX7_drift 96 = .ok (.iaload, 1) := by decide +kernel
theorem dX7_drift_97 : decode cX7_drift 97 = .ok (.sipush 128, 3) := by decide +kernel
theorem dX7_drift_100 : decode cX7_drift 100 = .ok (.idiv, 1) := by decide +kernel
theorem dX7_drift_101 : decode cX7_drift 101 = .ok (.aload_n 0, 1) := by decide +kernel
theorem dX7_drift_102 : decode cX7_drift 102 = .ok (.getfield 7, 3) := by decide +kernel
theorem dX7_drift_105 : decode cX7_drift 105 = .ok (.iconst 0, 1) := by decide +kernel
theorem dX7_drift_106 : decode cX7_drift 106 = .ok (.iaload, 1) := by decide +kernel
theorem dX7_drift_107 : decode cX7_drift 107 = .ok (.irem, 1) := by decide +kernel
theorem dX7_drift_108 : decode cX7_drift 108 = .ok (.istore_n 3, 1) := by decide +kernel
theorem dX7_drift_109 : decode cX7_drift 109 = .ok (.aload_n 0, 1) := by decide +kernel
theorem dX7_drift_110 : decode cX7_drift 110 = .ok (.iload_n 3, 1) := by decide +kernel
theorem dX7_drift_111 : decode cX7_drift 111 = .ok (.aload_n 0, 1) := by decide +kernel
theorem dX7_drift_112 : decode cX7_drift 112 = .ok (.iload_n 3, 1) := by decide +kernel
theorem dX7_drift_113 : decode cX7_drift 113 = .ok (.invokevirtual 78, 3) := by decide +kernel
theorem dX7_drift_116 : decode cX7_drift 116 = .ok (.iconst 2, 1) := by decide +kernel
theorem dX7_drift_117 : decode cX7_drift 117 = .ok (.idiv, 1) := by decide +kernel
theorem dX7_drift_118 : decode cX7_drift 118 = .ok (.invokevirtual 102, 3) := by decide +kernel
theorem dX7_drift_121 : decode cX7_drift 121 = .ok (.aload_n 0, 1) := by decide +kernel
theorem dX7_drift_122 : decode cX7_drift 122 = .ok (.invokevirtual 106, 3) := by decide +kernel
theorem dX7_drift_125 : decode cX7_drift 125 = .ok (.iinc 2 1, 3) := by decide +kernel
theorem dX7_drift_128 : decode cX7_drift 128 = .ok (.goto (-95), 3) := by decide +kernel
theorem dX7_drift_131 : decode cX7_drift 131 = .ok (.aload_n 0, 1) := by decide +kernel
theorem dX7_drift_132 : decode cX7_drift 132 = .ok (.invokevirtual 142, 3) := by decide +kernel
theorem dX7_drift_135 : decode cX7_drift 135 = .ok (.ireturn, 1) := by decide +kernel
theorem dX7_undo_0 : decode cX7_undo 0 = .ok (.aload_n 0, 1) := by decide +kernel
theorem dX7_undo_1 : decode cX7_undo 1 = .ok (.getfield 109, 3) := by decide +kernel
theorem dX7_undo_4 : decode cX7_undo 4 = .ok (.ifCond .ne 6, 3) := by decide +kernel
theorem dX7_undo_7 : decode cX7_undo 7 = .ok (.bipush (-4), 2) := by decide +kernel
theorem dX7_undo_9 : decode cX7_undo 9 = .ok (.ireturn, 1) := by decide +kernel
theorem dX7_undo_10 : decode cX7_undo 10 = .ok (.aload_n 0, 1) := by decide +kernel
theorem dX7_undo_11 : decode cX7_undo 11 = .ok (.dup, 1) := by decide +kernel
theorem dX7_undo_12 : decode cX7_undo 12 = .ok (.getfield 109, 3) := by decide +kernel
theorem dX7_undo_15 : decode cX7_undo 15 = .ok (.iconst 1, 1) := by decide +kernel
theorem dX7_undo_16 : decode cX7_undo 16 = .ok (.isub, 1) := by decide +kernel
theorem dX7_undo_17 : decode cX7_undo 17 = .ok (.putfield 109, 3) := by decide +kernel
theorem dX7_undo_20 : decode cX7_undo 20 = .ok (.bipush 21, 2) := by decide +kernel
theorem dX7_undo_22 : decode cX7_undo 22 = .ok (.aload_n 0, 1) := by decide +kernel
theorem dX7_undo_23 : decode cX7_undo 23 = .ok (.getfield 109, 3) := by decide +kernel
theorem dX7_undo_26 : decode cX7_undo 26 = .ok (.imul, 1) := by decide +kernel
theorem dX7_undo_27 : decode cX7_undo 27 = .ok (.istore_n 1, 1) := by decide +kernel
theorem dX7_undo_28 : decode cX7_undo 28 = .ok (.aload_n 0, 1) := by decide +kernel
theorem dX7_undo_29 : decode cX7_undo 29 = .ok (.getfield 7, 3) := by decide +kernel
theorem dX7_undo_32 : decode cX7_undo 32 = .ok (.iconst 2, 1) := by decide +kernel
theorem dX7_undo_33 : decode cX7_undo 33 = .ok (.aload_n 0, 1) := by decide +kernel
theorem dX7_undo_34 : decode cX7_undo 34 = .ok (.getfield 25, 3) := by decide +kernel
theorem dX7_undo_37 : decode cX7_undo 37 = .ok (.iload_n 1, 1) := by decide +kernel
theorem dX7_undo_38 : decode cX7_undo 38 = .ok (.iaload, 1) := by decide +kernel
theorem dX7_undo_39 : decode cX7_undo 39 = .ok (.iastore, 1) := by decide +kernel
theorem dX7_undo_40 : decode cX7_undo 40 = .ok (.aload_n 0, 1) := by decide +kernel
theorem dX7_undo_41 : decode cX7_undo 41 = .ok (.getfield 7, 3) := by decide +kernel
theorem dX7_undo_44 : decode cX7_undo 44 = .ok (.iconst 3, 1) := by decide +kernel
theorem dX7_undo_45 : decode cX7_undo 45 = .ok (.aload_n 0, 1) := by decide +kernel
theorem dX7_undo_46 : decode cX7_undo 46 = .ok (.getfield 25, 3) := by decide +kernel
theorem dX7_undo_49 : decode cX7_undo 49 = .ok (.iload_n 1, 1) := by decide +kernel
theorem dX7_undo_50 : decode cX7_undo 50 = .ok (.iconst 1, 1) := by decide +kernel
theorem dX7_undo_51 : decode cX7_undo 51 = .ok (.iadd, 1) := by decide +kernel
theorem dX7_undo_52 : decode cX7_undo 52 = .ok (.iaload, 1) := by decide +kernel
theorem dX7_undo_53 : decode cX7_undo 53 = .ok (.iastore, 1) := by decide +kernel
theorem dX7_undo_54 : decode cX7_undo 54 = .ok (.iconst 0, 1) := by decide +kernel
theorem dX7_undo_55 : decode cX7_undo 55 = .ok (.istore_n 2, 1) := by decide +kernel
theorem dX7_undo_56 : decode cX7_undo 56 = .ok (.iload_n 2, 1) := by decide +kernel
theorem dX7_undo_57 : decode cX7_undo 57 = .ok (.bipush 7, 2) := by decide +kernel
theorem dX7_undo_59 : decode cX7_undo 59 = .ok (.if_icmp .ge 31, 3) := by decide +kernel
theorem dX7_undo_62 : decode cX7_undo 62 = .ok (.aload_n 0, 1) := by decide +kernel
theorem dX7_undo_63 : decode cX7_undo 63 = .ok (.getfield 7, 3) := by decide +kernel
theorem dX7_undo_66 : decode cX7_undo 66 = .ok (.iconst 4, 1) := by decide +kernel
theorem dX7_undo_67 : decode cX7_undo 67 = .ok (.iconst 3, 1) := by decide +kernel
theorem dX7_undo_68 : decode cX7_undo 68 = .ok (.iload_n 2, 1) := by decide +kernel
theorem dX7_undo_69 : decode cX7_undo 69 = .ok (.imul, 1) := by decide +kernel
theorem dX7_undo_70 : decode cX7_undo 70 = .ok (.iadd, 1) := by decide +kernel
theorem dX7_undo_71 : decode cX7_undo 71 = .ok (.iconst 2, 1) := by decide +kernel
theorem dX7_undo_72 : decode cX7_undo 72 = .ok (.iadd, 1) := by decide +kernel
theorem dX7_undo_73 : decode cX7_undo 73 = .ok (.aload_n 0, 1) := by decide +kernel
theorem dX7_undo_74 : decode cX7_undo 74 = .ok (.getfield 25, 3) := by decide +kernel
theorem dX7_undo_77 : decode cX7_undo 77 = .ok (.iload_n 1, 1) := by decide +kernel
theorem dX7_undo_78 : decode cX7_undo 78 = .ok (.iconst 2, 1) := by decide +kernel
theorem dX7_undo_79 : decode cX7_undo 79 = .ok (.iadd, 1) := by decide +kernel
theorem dX7_undo_80 : decode cX7_undo 80 = .ok (.iload_n 2, 1) := by decide +kernel
theorem dX7_undo_81 : decode cX7_undo 81 = .ok (.iadd, 1) := by decide +kernel
theorem dX7_undo_82 : decode cX7_undo 82 = .ok (.iaload, 1) := by decide +kernel
theorem dX7_undo_83 : decode cX7_undo 83 = .ok (.iastore, 1) := by decide +kernel
theorem dX7_undo_84 : decode cX7_undo 84 = .ok (.iinc 2 1, 3) := by decide +kernel
theorem dX7_undo_87 : decode cX7_undo 87 = .ok (.goto (-31), 3) := by decide +kernel
theorem dX7_undo_90 : decode cX7_undo 90 = .ok (.iconst 0, 1) := by decide +kernel
theorem dX7_undo_91 : decode cX7_undo 91 = .ok (.istore_n 2, 1) := by decide +kernel
theorem dX7_undo_92 : decode cX7_undo 92 = .ok (.iload_n 2, 1) := by decide +kernel
theorem dX7_undo_93 : decode cX7_undo 93 = .ok (.bipush 6, 2) := by decide +kernel
theorem dX7_undo_95 : decode cX7_undo 95 = .ok (.if_icmp .ge 43, 3) := by decide +kernel
theorem dX7_undo_98 : decode cX7_undo 98 = .ok (.aload_n 0, 1) := by decide +kernel
theorem dX7_undo_99 : decode cX7_undo 99 = .ok (.iload_n 2, 1) := by decide +kernel
theorem dX7_undo_100 : decode cX7_undo 100 = .ok (.aload_n 0, 1) := by decide +kernel
theorem dX7_undo_101 : decode cX7_undo 101 = .ok (.getfield 25, 3) := by decide +kernel
theorem dX7_undo_104 : decode cX7_undo 104 = .ok (.iload_n 1, 1) := by decide +kernel
theorem dX7_undo_105 : decode cX7_undo 105 = .ok (.bipush 9, 2) := by decide +kernel
theorem dX7_undo_107 : decode cX7_undo 107 = .ok (.iadd, 1) := by decide +kernel
theorem dX7_undo_108 : decode cX7_undo 108 = .ok (.iload_n 2, 1) := by decide +kernel
theorem dX7_undo_109 : decode cX7_undo 109 = .ok (.iadd, 1) := by decide +kernel
theorem dX7_undo_110 : decode cX7_undo 110 = .ok (.iaload, 1) := by decide +kernel
theorem dX7_undo_111 : decode cX7_undo 111 = .ok (.iconst 1, 1) := by decide +kernel
theorem dX7_undo_112 : decode cX7_undo 112 = .ok (.invokevirtual 91, 3) := by decide +kernel
theorem dX7_undo_115 : decode cX7_undo 115 = .ok (.aload_n 0, 1) := by decide +kernel
theorem dX7_undo_116 : decode cX7_undo 116 = .ok (.iload_n 2, 1) := by decide +kernel
theorem dX7_undo_117 : decode cX7_undo 117 = .ok (.aload_n 0, 1) := by decide +kernel
theorem dX7_undo_118 : decode cX7_undo 118 = .ok (.getfield 25, 3) := by decide +kernel
theorem dX7_undo_121 : decode cX7_undo 121 = .ok (.iload_n 1, 1) := by decide +kernel
theorem dX7_undo_122 : decode cX7_undo 122 = .ok (.bipush 15, 2) := by decide +kernel
theorem dX7_undo_124 : decode cX7_undo 124 = .ok (.iadd, 1) := by decide +kernel
theorem dX7_undo_125 : decode cX7_undo 125 = .ok (.iload_n 2, 1) := by decide +kernel
theorem dX7_undo_126 : decode cX7_undo 126 = .ok (.iadd, 1) := by decide +kernel
theorem dX7_undo_127 : decode cX7_undo 127 = .ok (.iaload, 1) := by decide +kernel
theorem dX7_undo_128 : decode cX7_undo 128 = .ok (.iconst 3, 1) := by decide +kernel
theorem dX7_undo_129 : decode cX7_undo 129 = .ok (.invokevirtual 91, 3) := by decide +kernel
theorem dX7_undo_132 : decode cX7_undo 132 = .ok (.iinc 2 1, 3) := by decide +kernel
theorem dX7_undo_135 : decode cX7_undo 135 = .ok (.goto (-43), 3) := by decide +kernel
theorem dX7_undo_138 : decode cX7_undo 138 = .ok (.aload_n 0, 1) := by decide +kernel
theorem dX7_undo_139 : decode cX7_undo 139 = .ok (.getfield 109, 3) := by decide +kernel
theorem dX7_undo_142 : decode cX7_undo 142 = .ok (.ireturn, 1) := by decide +kernel
theorem dX7_seed_0 : decode cX7_seed 0 = .ok (.iload_n 1, 1) := by decide +kernel
theorem dX7_seed_1 : decode cX7_seed 1 = .ok (.ifCond .ge 5, 3) := by decide +kernel
theorem dX7_seed_4 : decode cX7_seed 4 = .ok (.iconst (-1), 1) := by decide +kernel
theorem dX7_seed_5 : decode cX7_seed 5 = .ok (.ireturn, 1) := by decide +kernel
theorem dX7_seed_6 : decode cX7_seed 6 = .ok (.aload_n 0, 1) := by decide +kernel
theorem dX7_seed_7 : decode cX7_seed 7 = .ok (.getfield 7, 3) := by decide +kernel
theorem dX7_seed_10 : decode cX7_seed 10 = .ok (.iconst 3, 1) := by decide +kernel
theorem dX7_seed_11 : decode cX7_seed 11 = .ok (.iaload, 1) := by decide +kernel
theorem dX7_seed_12 : decode cX7_seed 12 = .ok (.istore_n 2, 1) := by decide +kernel
theorem dX7_seed_13 : decode cX7_seed 13 = .ok (.aload_n 0, 1) := by decide +kernel
theorem dX7_seed_14 : decode cX7_seed 14 = .ok (.getfield 7, 3) := by decide +kernel
theorem dX7_seed_17 : decode cX7_seed 17 = .ok (.iconst 3, 1) := by decide +kernel
theorem dX7_seed_18 : decode cX7_seed 18 = .ok (.iload_n 1, 1) := by decide +kernel
theorem dX7_seed_19 : decode cX7_seed 19 = .ok (.iastore, 1) := by decide +kernel
theorem dX7_seed_20 : decode cX7_seed 20 = .ok (.iload_n 2, 1) := by decide +kernel
theorem dX7_seed_21 : decode cX7_seed 21 = .ok (.ireturn, 1) := by decide +kernel
theorem dX7_asides_0 : decode cX7_asides 0 = .ok (.iconst 0, 1) := by decide +kernel
theorem dX7_asides_1 : decode cX7_asides 1 = .ok (.istore_n 1, 1) := by decide +kernel
theorem dX7_asides_2 : decode cX7_asides 2 = .ok (.iload_n 1, 1) := by decide +kernel
theorem dX7_asides_3 : decode cX7_asides 3 = .ok (.bipush 49, 2) := by decide +kernel
theorem dX7_asides_5 : decode cX7_asides 5 = .ok (.if_icmp .ge 21, 3) := by decide +kernel
theorem dX7_asides_8 : decode cX7_asides 8 = .ok (.aload_n 0, 1) := by decide +kernel
theorem dX7_asides_9 : decode cX7_asides 9 = .ok (.getfield 28, 3) := by decide +kernel
theorem dX7_asides_12 : decode cX7_asides 12 = .ok (.iload_n 1, 1) := by decide +kernel
theorem dX7_asides_13 : decode cX7_asides 13 = .ok (.aload_n 0, 1) := by decide +kernel
theorem dX7_asides_14 : decode cX7_asides 14 = .ok (.getfield 7, 3) := by decide +kernel
theorem dX7_asides_17 : decode cX7_asides 17 = .ok (.iload_n 1, 1) := by decide +kernel
theorem dX7_asides_18 : decode cX7_asides 18 = .ok (.iaload, 1) := by decide +kernel
theorem dX7_asides_19 : decode cX7_asides 19 = .ok (.iastore, 1) := by decide +kernel
theorem dX7_asides_20 : decode cX7_asides 20 = .ok (.iinc 1 1, 3) := by decide +kernel
theorem dX7_asides_23 : decode cX7_asides 23 = .ok (.goto (-21), 3) := by decide +kernel
theorem dX7_asides_26 : decode cX7_asides 26 = .ok (.return_, 1) := by decide +kernel
theorem dX7_backs_0 : decode cX7_backs 0 = .ok (.iconst 0, 1) := by decide +kernel
theorem dX7_backs_1 : decode cX7_backs 1 = .ok (.istore_n 1, 1) := by decide +kernel
theorem dX7_backs_2 : decode cX7_backs 2 = .ok (.iload_n 1, 1) := by decide +kernel
theorem dX7_backs_3 : decode cX7_backs 3 = .ok (.bipush 49, 2) := by decide +kernel
theorem dX7_backs_5 : decode cX7_backs 5 = .ok (.if_icmp .ge 21, 3) := by decide +kernel
theorem dX7_backs_8 : decode cX7_backs 8 = .ok (.aload_n 0, 1) := by decide +kernel
theorem dX7_backs_9 : decode cX7_backs 9 = .ok (.getfield 7, 3) := by decide +kernel
theorem dX7_backs_12 : decode cX7_backs 12 = .ok (.iload_n 1, 1) := by decide +kernel
theorem dX7_backs_13 : decode cX7_backs 13 = .ok (.aload_n 0, 1) := by decide +kernel
theorem dX7_backs_14 : decode cX7_backs 14 = .ok (.getfield 28, 3) := by decide +kernel
theorem dX7_backs_17 : decode cX7_backs 17 = .ok (.iload_n 1, 1) := by decide +kernel
theorem dX7_backs_18 : decode cX7_backs 18 = .ok (.iaload, 1) := by decide +kernel
theorem dX7_backs_19 : decode cX7_backs 19 = .ok (.iastore, 1) := by decide +kernel
theorem dX7_backs_20 : decode cX7_backs 20 = .ok (.iinc 1 1, 3) := by decide +kernel
theorem dX7_backs_23 : decode cX7_backs 23 = .ok (.goto (-21), 3) := by decide +kernel
theorem dX7_backs_26 : decode cX7_backs 26 = .ok (.return_, 1) := by decide +kernel
theorem dX7_ahead_0 : decode cX7_ahead 0 = .ok (.aload_n 0, 1) := by decide +kernel
theorem dX7_ahead_1 : decode cX7_ahead 1 = .ok (.iload_n 1, 1) := by decide +kernel
theorem dX7_ahead_2 : decode cX7_ahead 2 = .ok (.invokevirtual 74, 3) := by decide +kernel
theorem dX7_ahead_5 : decode cX7_ahead 5 = .ok (.ifCond .eq 15, 3) := by decide +kernel
theorem dX7_ahead_8 : decode cX7_ahead 8 = .ok (.iload_n 2, 1) := by decide +kernel
theorem dX7_ahead_9 : decode cX7_ahead 9 = .ok (.i2l, 1) := by decide +kernel
theorem dX7_ahead_10 : decode cX7_ahead 10 = .ok (.lconst 0, 1) := by decide +kernel
theorem dX7_ahead_11 : decode cX7_ahead 11 = .ok (.ldc2_w 189, 3) := by decide +kernel
theorem dX7_ahead_14 : decode cX7_ahead 14 = .ok (.invokestatic 59, 3) := by decide +kernel
theorem dX7_ahead_17 : decode cX7_ahead 17 = .ok (.ifCond .ne 5, 3) := by decide +kernel
theorem dX7_ahead_20 : decode cX7_ahead 20 = .ok (.iconst (-1), 1) := by decide +kernel
theorem dX7_ahead_21 : decode cX7_ahead 21 = .ok (.ireturn, 1) := by decide +kernel
theorem dX7_ahead_22 : decode cX7_ahead 22 = .ok (.aload_n 0, 1) := by decide +kernel
theorem dX7_ahead_23 : decode cX7_ahead 23 = .ok (.invokevirtual 204, 3) := by decide +kernel
theorem dX7_ahead_26 : decode cX7_ahead 26 = .ok (.aload_n 0, 1) := by decide +kernel
theorem dX7_ahead_27 : decode cX7_ahead 27 = .ok (.iload_n 2, 1) := by decide +kernel
theorem dX7_ahead_28 : decode cX7_ahead 28 = .ok (.invokevirtual 207, 3) := by decide +kernel
theorem dX7_ahead_31 : decode cX7_ahead 31 = .ok (.aload_n 0, 1) := by decide +kernel
theorem dX7_ahead_32 : decode cX7_ahead 32 = .ok (.iload_n 1, 1) := by decide +kernel
theorem dX7_ahead_33 : decode cX7_ahead 33 = .ok (.invokevirtual 78, 3) := by decide +kernel
theorem dX7_ahead_36 : decode cX7_ahead 36 = .ok (.istore_n 3, 1) := by decide +kernel
theorem dX7_ahead_37 : decode cX7_ahead 37 = .ok (.aload_n 0, 1) := by decide +kernel
theorem dX7_ahead_38 : decode cX7_ahead 38 = .ok (.invokevirtual 210, 3) := by decide +kernel
theorem dX7_ahead_41 : decode cX7_ahead 41 = .ok (.iload_n 3, 1) := by decide +kernel
theorem dX7_ahead_42 : decode cX7_ahead 42 = .ok (.ireturn, 1) := by decide +kernel
theorem dX7_claims_0 : decode cX7_claims 0 = .ok (.aload_n 0, 1) := by decide +kernel
theorem dX7_claims_1 : decode cX7_claims 1 = .ok (.iload_n 1, 1) := by decide +kernel
theorem dX7_claims_2 : decode cX7_claims 2 = .ok (.invokevirtual 129, 3) := by decide +kernel
theorem dX7_claims_5 : decode cX7_claims 5 = .ok (.ifCond .eq 15, 3) := by decide +kernel
theorem dX7_claims_8 : decode cX7_claims 8 = .ok (.iload_n 2, 1) := by decide +kernel
theorem dX7_claims_9 : decode cX7_claims 9 = .ok (.i2l, 1) := by decide +kernel
theorem dX7_claims_10 : decode cX7_claims 10 = .ok (.lconst 0, 1) := by decide +kernel
theorem dX7_claims_11 : decode cX7_claims 11 = .ok (.ldc2_w 189, 3) := by decide +kernel
theorem dX7_claims_14 : decode cX7_claims 14 = .ok (.invokestatic 59, 3) := by decide +kernel
theorem dX7_claims_17 : decode cX7_claims 17 = .ok (.ifCond .ne 5, 3) := by decide +kernel
theorem dX7_claims_20 : decode cX7_claims 20 = .ok (.iconst (-1), 1) := by decide +kernel
theorem dX7_claims_21 : decode cX7_claims 21 = .ok (.ireturn, 1) := by decide +kernel
theorem dX7_claims_22 : decode cX7_claims 22 = .ok (.aload_n 0, 1) := by decide +kernel
theorem dX7_claims_23 : decode cX7_claims 23 = .ok (.invokevirtual 204, 3) := by decide +kernel
theorem dX7_claims_26 : decode cX7_claims 26 = .ok (.aload_n 0, 1) := by decide +kernel
theorem dX7_claims_27 : decode cX7_claims 27 = .ok (.iload_n 2, 1) := by decide +kernel
theorem dX7_claims_28 : decode cX7_claims 28 = .ok (.invokevirtual 207, 3) := by decide +kernel
theorem dX7_claims_31 : decode cX7_claims 31 = .ok (.aload_n 0, 1) := by decide +kernel
theorem dX7_claims_32 : decode cX7_claims 32 = .ok (.iload_n 1, 1) := by decide +kernel
theorem dX7_claims_33 : decode cX7_claims 33 = .ok (.invokevirtual 70, 3) := by decide +kernel
theorem dX7_claims_36 : decode cX7_claims 36 = .ok (.istore_n 3, 1) := by decide +kernel
theorem dX7_claims_37 : decode cX7_claims 37 = .ok (.aload_n 0, 1) := by decide +kernel
theorem dX7_claims_38 : decode cX7_claims 38 = .ok (.invokevirtual 210, 3) := by decide +kernel
theorem dX7_claims_41 : decode cX7_claims 41 = .ok (.iload_n 3, 1) := by decide +kernel
theorem dX7_claims_42 : decode cX7_claims 42 = .ok (.ireturn, 1) := by decide +kernel
theorem dX7_then_0 : decode cX7_then 0 = .ok (.iload_n 1, 1) := by decide +kernel
theorem dX7_then_1 : decode cX7_then 1 = .ok (.i2l, 1) := by decide +kernel
theorem dX7_then_2 : decode cX7_then 2 = .ok (.lconst 0, 1) := by decide +kernel
theorem dX7_then_3 : decode cX7_then 3 = .ok (.ldc2_w 189, 3) := by decide +kernel
theorem dX7_then_6 : decode cX7_then 6 = .ok (.invokestatic 59, 3) := by decide +kernel
theorem dX7_then_9 : decode cX7_then 9 = .ok (.ifCond .ne 5, 3) := by decide +kernel
theorem dX7_then_12 : decode cX7_then 12 = .ok (.iconst (-1), 1) := by decide +kernel
theorem dX7_then_13 : decode cX7_then 13 = .ok (.ireturn, 1) := by decide +kernel
theorem dX7_then_14 : decode cX7_then 14 = .ok (.aload_n 0, 1) := by decide +kernel
theorem dX7_then_15 : decode cX7_then 15 = .ok (.invokevirtual 204, 3) := by decide +kernel
theorem dX7_then_18 : decode cX7_then 18 = .ok (.aload_n 0, 1) := by decide +kernel
theorem dX7_then_19 : decode cX7_then 19 = .ok (.iload_n 1, 1) := by decide +kernel
theorem dX7_then_20 : decode cX7_then 20 = .ok (.invokevirtual 207, 3) := by decide +kernel
theorem dX7_then_23 : decode cX7_then 23 = .ok (.aload_n 0, 1) := by decide +kernel
theorem dX7_then_24 : decode cX7_then 24 = .ok (.invokevirtual 142, 3) := by decide +kernel
theorem dX7_then_27 : decode cX7_then 27 = .ok (.istore_n 2, 1) := by decide +kernel
theorem dX7_then_28 : decode cX7_then 28 = .ok (.aload_n 0, 1) := by decide +kernel
theorem dX7_then_29 : decode cX7_then 29 = .ok (.invokevirtual 210, 3) := by decide +kernel
theorem dX7_then_32 : decode cX7_then 32 = .ok (.iload_n 2, 1) := by decide +kernel
theorem dX7_then_33 : decode cX7_then 33 = .ok (.ireturn, 1) := by decide +kernel
theorem dX7_served_0 : decode cX7_served 0 = .ok (.aload_n 0, 1) := by decide +kernel
theorem dX7_served_1 : decode cX7_served 1 = .ok (.iload_n 1, 1) := by decide +kernel
theorem dX7_served_2 : decode cX7_served 2 = .ok (.invokevirtual 129, 3) := by decide +kernel
theorem dX7_served_5 : decode cX7_served 5 = .ok (.ifCond .ne 5, 3) := by decide +kernel
theorem dX7_served_8 : decode cX7_served 8 = .ok (.iconst (-1), 1) := by decide +kernel
theorem dX7_served_9 : decode cX7_served 9 = .ok (.ireturn, 1) := by decide +kernel
theorem dX7_served_10 : decode cX7_served 10 = .ok (.aload_n 0, 1) := by decide +kernel
theorem dX7_served_11 : decode cX7_served 11 = .ok (.invokevirtual 204, 3) := by decide +kernel
theorem dX7_served_14 : decode cX7_served 14 = .ok (.iconst 0, 1) := by decide +kernel
theorem dX7_served_15 : decode cX7_served 15 = .ok (.istore_n 2, 1) := by decide +kernel
theorem dX7_served_16 : decode cX7_served 16 = .ok (.iload_n 2, 1) := by decide +kernel
theorem dX7_served_17 : decode cX7_served 17 = .ok (.bipush 41, 2) := by decide +kernel
theorem dX7_served_19 : decode cX7_served 19 = .ok (.if_icmp .ge 23, 3) := by decide +kernel
theorem dX7_served_22 : decode cX7_served 22 = .ok (.aload_n 0, 1) := by decide +kernel
theorem dX7_served_23 : decode cX7_served 23 = .ok (.iload_n 1, 1) := by decide +kernel
theorem dX7_served_24 : decode cX7_served 24 = .ok (.invokevirtual 70, 3) := by decide +kernel
theorem dX7_served_27 : decode cX7_served 27 = .ok (.bipush (-4), 2) := by decide +kernel
theorem dX7_served_29 : decode cX7_served 29 = .ok (.if_icmp .ne 13, 3) := by decide +kernel
theorem dX7_served_32 : decode cX7_served 32 = .ok (.aload_n 0, 1) := by decide +kernel
theorem dX7_served_33 : decode cX7_served 33 = .ok (.invokevirtual 106, 3) := by decide +kernel
theorem dX7_served_36 : decode cX7_served 36 = .ok (.iinc 2 1, 3) := by decide +kernel
theorem dX7_served_39 : decode cX7_served 39 = .ok (.goto (-23), 3) := by decide +kernel
theorem dX7_served_42 : decode cX7_served 42 = .ok (.aload_n 0, 1) := by decide +kernel
theorem dX7_served_43 : decode cX7_served 43 = .ok (.invokevirtual 210, 3) := by decide +kernel
theorem dX7_served_46 : decode cX7_served 46 = .ok (.iload_n 2, 1) := by decide +kernel
theorem dX7_served_47 : decode cX7_served 47 = .ok (.bipush 41, 2) := by decide +kernel
theorem dX7_served_49 : decode cX7_served 49 = .ok (.if_icmp .ge 7, 3) := by decide +kernel
theorem dX7_served_52 : decode cX7_served 52 = .ok (.iload_n 2, 1) := by decide +kernel
theorem dX7_served_53 : decode cX7_served 53 = .ok (.goto 5, 3) := by decide +kernel
theorem dX7_served_56 : decode cX7_served 56 = .ok (.bipush (-4), 2) := by decide +kernel
theorem dX7_served_58 : decode cX7_served 58 = .ok (.ireturn, 1) := by decide +kernel
theorem dX7_dries_0 : decode cX7_dries 0 = .ok (.aload_n 0, 1) := by decide +kernel
theorem dX7_dries_1 : decode cX7_dries 1 = .ok (.iload_n 1, 1) := by decide +kernel
theorem dX7_dries_2 : decode cX7_dries 2 = .ok (.invokevirtual 74, 3) := by decide +kernel
theorem dX7_dries_5 : decode cX7_dries 5 = .ok (.ifCond .ne 5, 3) := by decide +kernel
theorem dX7_dries_8 : decode cX7_dries 8 = .ok (.iconst (-1), 1) := by decide +kernel
theorem dX7_dries_9 : decode cX7_dries 9 = .ok (.ireturn, 1) := by decide +kernel
theorem dX7_dries_10 : decode cX7_dries 10 = .ok (.aload_n 0, 1) := by decide +kernel
theorem dX7_dries_11 : decode cX7_dries 11 = .ok (.invokevirtual 204, 3) := by decide +kernel
theorem dX7_dries_14 : decode cX7_dries 14 = .ok (.iconst 0, 1) := by decide +kernel
theorem dX7_dries_15 : decode cX7_dries 15 = .ok (.istore_n 2, 1) := by decide +kernel
theorem dX7_dries_16 : decode cX7_dries 16 = .ok (.iload_n 2, 1) := by decide +kernel
theorem dX7_dries_17 : decode cX7_dries 17 = .ok (.bipush 41, 2) := by decide +kernel
theorem dX7_dries_19 : decode cX7_dries 19 = .ok (.if_icmp .ge 21, 3) := by decide +kernel
theorem dX7_dries_22 : decode cX7_dries 22 = .ok (.aload_n 0, 1) := by decide +kernel
theorem dX7_dries_23 : decode cX7_dries 23 = .ok (.iload_n 1, 1) := by decide +kernel
theorem dX7_dries_24 : decode cX7_dries 24 = .ok (.invokevirtual 81, 3) := by decide +kernel
theorem dX7_dries_27 : decode cX7_dries 27 = .ok (.ifCond .ne 13, 3) := by decide +kernel
theorem dX7_dries_30 : decode cX7_dries 30 = .ok (.aload_n 0, 1) := by decide +kernel
theorem dX7_dries_31 : decode cX7_dries 31 = .ok (.invokevirtual 106, 3) := by decide +kernel
theorem dX7_dries_34 : decode cX7_dries 34 = .ok (.iinc 2 1, 3) := by decide +kernel
theorem dX7_dries_37 : decode cX7_dries 37 = .ok (.goto (-21), 3) := by decide +kernel
theorem dX7_dries_40 : decode cX7_dries 40 = .ok (.aload_n 0, 1) := by decide +kernel
theorem dX7_dries_41 : decode cX7_dries 41 = .ok (.invokevirtual 210, 3) := by decide +kernel
theorem dX7_dries_44 : decode cX7_dries 44 = .ok (.iload_n 2, 1) := by decide +kernel
theorem dX7_dries_45 : decode cX7_dries 45 = .ok (.bipush 41, 2) := by decide +kernel
theorem dX7_dries_47 : decode cX7_dries 47 = .ok (.if_icmp .ge 7, 3) := by decide +kernel
theorem dX7_dries_50 : decode cX7_dries 50 = .ok (.iload_n 2, 1) := by decide +kernel
theorem dX7_dries_51 : decode cX7_dries 51 = .ok (.goto 5, 3) := by decide +kernel
theorem dX7_dries_54 : decode cX7_dries 54 = .ok (.bipush (-4), 2) := by decide +kernel
theorem dX7_dries_56 : decode cX7_dries 56 = .ok (.ireturn, 1) := by decide +kernel
theorem dX7_match_0 : decode cX7_match 0 = .ok (.iconst 0, 1) := by decide +kernel
theorem dX7_match_1 : decode cX7_match 1 = .ok (.istore_n 1, 1) := by decide +kernel
theorem dX7_match_2 : decode cX7_match 2 = .ok (.iload_n 1, 1) := by decide +kernel
theorem dX7_match_3 : decode cX7_match 3 = .ok (.sipush 128, 3) := by decide +kernel
theorem dX7_match_6 : decode cX7_match 6 = .ok (.if_icmp .ge 16, 3) := by decide +kernel
theorem dX7_match_9 : decode cX7_match 9 = .ok (.aload_n 0, 1) := by decide +kernel
theorem dX7_match_10 : decode cX7_match 10 = .ok (.getfield 31, 3) := by decide +kernel
theorem dX7_match_13 : decode cX7_match 13 = .ok (.iload_n 1, 1) := by decide +kernel
theorem dX7_match_14 : decode cX7_match 14 = .ok (.iconst 0, 1) := by decide +kernel
theorem dX7_match_15 : decode cX7_match 15 = .ok (.iastore, 1) := by decide +kernel
theorem dX7_match_16 : decode cX7_match 16 = .ok (.iinc 1 1, 3) := by decide +kernel
theorem dX7_match_19 : decode cX7_match 19 = .ok (.goto (-17), 3) := by decide +kernel
theorem dX7_match_22 : decode cX7_match 22 = .ok (.iconst 0, 1) := by decide +kernel
theorem dX7_match_23 : decode cX7_match 23 = .ok (.istore_n 1, 1) := by decide +kernel
theorem dX7_match_24 : decode cX7_match 24 = .ok (.iload_n 1, 1) := by decide +kernel
theorem dX7_match_25 : decode cX7_match 25 = .ok (.aload_n 0, 1) := by decide +kernel
theorem dX7_match_26 : decode cX7_match 26 = .ok (.getfield 7, 3) := by decide +kernel
theorem dX7_match_29 : decode cX7_match 29 = .ok (.iconst 1, 1) := by decide +kernel
theorem dX7_match_30 : decode cX7_match 30 = .ok (.iaload, 1) := by decide +kernel
theorem dX7_match_31 : decode cX7_match 31 = .ok (.if_icmp .ge 133, 3) := by decide +kernel
theorem dX7_match_34 : decode cX7_match 34 = .ok (.aload_n 0, 1) := by decide +kernel
theorem dX7_match_35 : decode cX7_match 35 = .ok (.iload_n 1, 1) := by decide +kernel
theorem dX7_match_36 : decode cX7_match 36 = .ok (.invokevirtual 70, 3) := by decide +kernel
theorem dX7_match_39 : decode cX7_match 39 = .ok (.bipush (-4), 2) := by decide +kernel
theorem dX7_match_41 : decode cX7_match 41 = .ok (.if_icmp .ne 11, 3) := by decide +kernel
theorem dX7_match_44 : decode cX7_match 44 = .ok (.aload_n 0, 1) := by decide +kernel
theorem dX7_match_45 : decode cX7_match 45 = .ok (.iload_n 1, 1) := by decide +kernel
theorem dX7_match_46 : decode cX7_match 46 = .ok (.invokevirtual 132, 3) := by decide +kernel
theorem dX7_match_49 : decode cX7_match 49 = .ok (.goto 4, 3) := by decide +kernel
theorem dX7_match_52 : decode cX7_match 52 = .ok (.iconst 0, 1) := by decide +kernel
theorem dX7_match_53 : decode cX7_match 53 = .ok (.istore_n 2, 1) := by decide +kernel
theorem dX7_match_54 : decode cX7_match 54 = .ok (.bipush 127, 2) := by decide +kernel
theorem dX7_match_56 : decode cX7_match 56 = .ok (.istore_n 3, 1) := by decide +kernel
theorem dX7_match_57 : decode cX7_match 57 = .ok (.iload_n 3, 1) := by decide +kernel
theorem dX7_match_58 : decode cX7_match 58 = .ok (.ifCond .lt 100, 3) := by decide +kernel
theorem dX7_match_61 : decode cX7_match 61 = .ok (.aload_n 0, 1) := by decide +kernel
theorem dX7_match_62 : decode cX7_match 62 = .ok (.getfield 31, 3) := by decide +kernel
theorem dX7_match_65 : decode cX7_match 65 = .ok (.iload_n 3, 1) := by decide +kernel
theorem dX7_match_66 : decode cX7_match 66 = .ok (.iaload, 1) := by decide +kernel
theorem dX7_match_67 : decode cX7_match 67 = .ok (.istore 4, 2) := by decide +kernel
theorem dX7_match_69 : decode cX7_match 69 = .ok (.iconst 0, 1) := by decide +kernel
theorem dX7_match_70 : decode cX7_match 70 = .ok (.istore 5, 2) := by decide +kernel
theorem dX7_match_72 : decode cX7_match 72 = .ok (.iload 5, 2) := by decide +kernel
theorem dX7_match_74 : decode cX7_match 74 = .ok (.bipush 7, 2) := by decide +kernel
theorem dX7_match_76 : decode cX7_match 76 = .ok (.if_icmp .ge 68, 3) := by decide +kernel
theorem dX7_match_79 : decode cX7_match 79 = .ok (.iload_n 3, 1) := by decide +kernel
theorem dX7_match_80 : decode cX7_match 80 = .ok (.iload_n 2, 1) := by decide +kernel
theorem dX7_match_81 : decode cX7_match 81 = .ok (.iand, 1) := by decide +kernel
theorem dX7_match_82 : decode cX7_match 82 = .ok (.iload 5, 2) := by decide +kernel
theorem dX7_match_84 : decode cX7_match 84 = .ok (.ishr, 1) := by decide +kernel
theorem dX7_match_85 : decode cX7_match 85 = .ok (.iconst 1, 1) := by decide +kernel
theorem dX7_match_86 : decode cX7_match 86 = .ok (.iand, 1) := by decide +kernel
theorem dX7_match_87 : decode cX7_match 87 = .ok (.iconst 1, 1) := by decide +kernel
theorem dX7_match_88 : decode cX7_match 88 = .ok (.if_icmp .ne 7, 3) := by decide +kernel
theorem dX7_match_91 : decode cX7_match 91 = .ok (.iconst 1, 1) := by decide +kernel
theorem dX7_match_92 : decode cX7_match 92 = .ok (.goto 4, 3) := by decide +kernel
theorem dX7_match_95 : decode cX7_match 95 = .ok (.iconst 0, 1) := by decide +kernel
theorem dX7_match_96 : decode cX7_match 96 = .ok (.istore 6, 2) := by decide +kernel
theorem dX7_match_98 : decode cX7_match 98 = .ok (.iload 6, 2) := by decide +kernel
theorem dX7_match_100 : decode cX7_match 100 = .ok (.ifCond .eq 19, 3) := by decide +kernel
theorem dX7_match_103 : decode cX7_match 103 = .ok (.aload_n 0, 1) := by decide +kernel
theorem dX7_match_104 : decode cX7_match 104 = .ok (.getfield 31, 3) := by decide +kernel
theorem dX7_match_107 : decode cX7_match 107 = .ok (.iload_n 3, 1) := by decide +kernel
theorem dX7_match_108 : decode cX7_match 108 = .ok (.iconst 1, 1) := by decide +kernel
theorem dX7_match_109 : decode cX7_match 109 = .ok (.iload 5, 2) := by decide +kernel
theorem dX7_match_111 : decode cX7_match 111 = .ok (.ishl, 1) := by decide +kernel
theorem dX7_match_112 : decode cX7_match 112 = .ok (.ixor, 1) := by decide +kernel
theorem dX7_match_113 : decode cX7_match 113 = .ok (.iaload, 1) := by decide +kernel
theorem dX7_match_114 : decode cX7_match 114 = .ok (.iconst 1, 1) := by decide +kernel
theorem dX7_match_115 : decode cX7_match 115 = .ok (.iadd, 1) := by decide +kernel
theorem dX7_match_116 : decode cX7_match 116 = .ok (.goto 4, 3) := by decide +kernel
theorem dX7_match_119 : decode cX7_match 119 = .ok (.iconst 0, 1) := by decide +kernel
theorem dX7_match_120 : decode cX7_match 120 = .ok (.istore 7, 2) := by decide +kernel
theorem dX7_match_122 : decode cX7_match 122 = .ok (.iload 7, 2) := by decide +kernel
theorem dX7_match_124 : decode cX7_match 124 = .ok (.iload 4, 2) := by decide +kernel
theorem dX7_match_126 : decode cX7_match 126 = .ok (.if_icmp .le 8, 3) := by decide +kernel
theorem dX7_match_129 : decode cX7_match 129 = .ok (.iload 7, 2) := by decide +kernel
theorem dX7_match_131 : decode cX7_match 131 = .ok (.goto 5, 3) := by decide +kernel
theorem dX7_match_134 : decode cX7_match 134 = .ok (.iload 4, 2) := by decide +kernel
theorem dX7_match_136 : decode cX7_match 136 = .ok (.istore 4, 2) := by decide +kernel
theorem dX7_match_138 : decode cX7_match 138 = .ok (.iinc 5 1, 3) := by decide +kernel
theorem dX7_match_141 : decode cX7_match 141 = .ok (.goto (-69), 3) := by decide +kernel
theorem dX7_match_144 : decode cX7_match 144 = .ok (.aload_n 0, 1) := by decide +kernel
theorem dX7_match_145 : decode cX7_match 145 = .ok (.getfield 31, 3) := by decide +kernel
theorem dX7_match_148 : decode cX7_match 148 = .ok (.iload_n 3, 1) := by decide +kernel
theorem dX7_match_149 : decode cX7_match 149 = .ok (.iload 4, 2) := by decide +kernel
theorem dX7_match_151 : decode cX7_match 151 = .ok (.iastore, 1) := by decide +kernel
theorem dX7_match_152 : decode cX7_match 152 = .ok (.iinc 3 (-1), 3) := by decide +kernel
theorem dX7_match_155 : decode cX7_match 155 = .ok (.goto (-98), 3) := by decide +kernel
theorem dX7_match_158 : decode cX7_match 158 = .ok (.iinc 1 1, 3) := by decide +kernel
theorem dX7_match_161 : decode cX7_match 161 = .ok (.goto (-137), 3) := by decide +kernel
theorem dX7_match_164 : decode cX7_match 164 = .ok (.aload_n 0, 1) := by decide +kernel
theorem dX7_match_165 : decode cX7_match 165 = .ok (.getfield 31, 3) := by decide +kernel
theorem dX7_match_168 : decode cX7_match 168 = .ok (.bipush 127, 2) := by decide +kernel
theorem dX7_match_170 : decode cX7_match 170 = .ok (.iaload, 1) := by decide +kernel
theorem dX7_match_171 : decode cX7_match 171 = .ok (.ireturn, 1) := by decide +kernel
theorem dX7_latest_0 : decode cX7_latest 0 = .ok (.aload_n 0, 1) := by decide +kernel
theorem dX7_latest_1 : decode cX7_latest 1 = .ok (.iload_n 1, 1) := by decide +kernel
theorem dX7_latest_2 : decode cX7_latest 2 = .ok (.invokevirtual 129, 3) := by decide +kernel
theorem dX7_latest_5 : decode cX7_latest 5 = .ok (.ifCond .ne 5, 3) := by decide +kernel
theorem dX7_latest_8 : decode cX7_latest 8 = .ok (.iconst (-1), 1) := by decide +kernel
theorem dX7_latest_9 : decode cX7_latest 9 = .ok (.ireturn, 1) := by decide +kernel
theorem dX7_latest_10 : decode cX7_latest 10 = .ok (.bipush (-4), 2) := by decide +kernel
theorem dX7_latest_12 : decode cX7_latest 12 = .ok (.istore_n 2, 1) := by decide +kernel
theorem dX7_latest_13 : decode cX7_latest 13 = .ok (.aload_n 0, 1) := by decide +kernel
theorem dX7_latest_14 : decode cX7_latest 14 = .ok (.invokevirtual 204, 3) := by decide +kernel
theorem dX7_latest_17 : decode cX7_latest 17 = .ok (.bipush 20, 2) := by decide +kernel
theorem dX7_latest_19 : decode cX7_latest 19 = .ok (.istore_n 3, 1) := by decide +kernel
theorem dX7_latest_20 : decode cX7_latest 20 = .ok (.iload_n 3, 1) := by decide +kernel
theorem dX7_latest_21 : decode cX7_latest 21 = .ok (.ifCond .lt 49, 3) := by decide +kernel
theorem dX7_latest_24 : decode cX7_latest 24 = .ok (.iload_n 2, 1) := by decide +kernel
theorem dX7_latest_25 : decode cX7_latest 25 = .ok (.bipush (-4), 2) := by decide +kernel
theorem dX7_latest_27 : decode cX7_latest 27 = .ok (.if_icmp .ne 43, 3) := by decide +kernel
theorem dX7_latest_30 : decode cX7_latest 30 = .ok (.aload_n 0, 1) := by decide +kernel
theorem dX7_latest_31 : decode cX7_latest 31 = .ok (.iload_n 1, 1) := by decide +kernel
theorem dX7_latest_32 : decode cX7_latest 32 = .ok (.iload_n 3, 1) := by decide +kernel
theorem dX7_latest_33 : decode cX7_latest 33 = .ok (.iconst 1, 1) := by decide +kernel
theorem dX7_latest_34 : decode cX7_latest 34 = .ok (.invokevirtual 91, 3) := by decide +kernel
theorem dX7_latest_37 : decode cX7_latest 37 = .ok (.aload_n 0, 1) := by decide +kernel
theorem dX7_latest_38 : decode cX7_latest 38 = .ok (.bipush 40, 2) := by decide +kernel
theorem dX7_latest_40 : decode cX7_latest 40 = .ok (.invokevirtual 207, 3) := by decide +kernel
theorem dX7_latest_43 : decode cX7_latest 43 = .ok (.aload_n 0, 1) := by decide +kernel
theorem dX7_latest_44 : decode cX7_latest 44 = .ok (.iload_n 1, 1) := by decide +kernel
theorem dX7_latest_45 : decode cX7_latest 45 = .ok (.invokevirtual 70, 3) := by decide +kernel
theorem dX7_latest_48 : decode cX7_latest 48 = .ok (.bipush (-4), 2) := by decide +kernel
theorem dX7_latest_50 : decode cX7_latest 50 = .ok (.if_icmp .ne 8, 3) := by decide +kernel
theorem dX7_latest_53 : decode cX7_latest 53 = .ok (.bipush (-4), 2) := by decide +kernel
theorem dX7_latest_55 : decode cX7_latest 55 = .ok (.goto 4, 3) := by decide +kernel
theorem dX7_latest_58 : decode cX7_latest 58 = .ok (.iload_n 3, 1) := by decide +kernel
theorem dX7_latest_59 : decode cX7_latest 59 = .ok (.istore_n 2, 1) := by decide +kernel
theorem dX7_latest_60 : decode cX7_latest 60 = .ok (.aload_n 0, 1) := by decide +kernel
theorem dX7_latest_61 : decode cX7_latest 61 = .ok (.invokevirtual 210, 3) := by decide +kernel
theorem dX7_latest_64 : decode cX7_latest 64 = .ok (.iinc 3 (-1), 3) := by decide +kernel
theorem dX7_latest_67 : decode cX7_latest 67 = .ok (.goto (-47), 3) := by decide +kernel
theorem dX7_latest_70 : decode cX7_latest 70 = .ok (.iload_n 2, 1) := by decide +kernel
theorem dX7_latest_71 : decode cX7_latest 71 = .ok (.ireturn, 1) := by decide +kernel
theorem dX7_isOrder_0 : decode cX7_isOrder 0 = .ok (.iload_n 1, 1) := by decide +kernel
theorem dX7_isOrder_1 : decode cX7_isOrder 1 = .ok (.istore_n 3, 1) := by decide +kernel
theorem dX7_isOrder_2 : decode cX7_isOrder 2 = .ok (.iconst 0, 1) := by decide +kernel
theorem dX7_isOrder_3 : decode cX7_isOrder 3 = .ok (.istore 4, 2) := by decide +kernel
theorem dX7_isOrder_5 : decode cX7_isOrder 5 = .ok (.iload_n 2, 1) := by decide +kernel
theorem dX7_isOrder_6 : decode cX7_isOrder 6 = .ok (.iconst 1, 1) := by decide +kernel
theorem dX7_isOrder_7 : decode cX7_isOrder 7 = .ok (.isub, 1) := by decide +kernel
theorem dX7_isOrder_8 : decode cX7_isOrder 8 = .ok (.istore 5, 2) := by decide +kernel
theorem dX7_isOrder_10 : decode cX7_isOrder 10 = .ok (.iload 5, 2) := by decide +kernel
theorem dX7_isOrder_12 : decode cX7_isOrder 12 = .ok (.ifCond .lt 38, 3) := by decide +kernel
theorem dX7_isOrder_15 : decode cX7_isOrder 15 = .ok (.aload_n 0, 1) := by decide +kernel
theorem dX7_isOrder_16 : decode cX7_isOrder 16 = .ok (.getfield 37, 3) := by decide +kernel
theorem dX7_isOrder_19 : decode cX7_isOrder 19 = .ok (.iload 5, 2) := by decide +kernel
theorem dX7_isOrder_21 : decode cX7_isOrder 21 = .ok (.aload_n 0, 1) := by decide +kernel
theorem dX7_isOrder_22 : decode cX7_isOrder 22 = .ok (.getfield 34, 3) := by decide +kernel
theorem dX7_isOrder_25 : decode cX7_isOrder 25 = .ok (.iload_n 3, 1) := by decide +kernel
theorem dX7_isOrder_26 : decode cX7_isOrder 26 = .ok (.iload_n 2, 1) := by decide +kernel
theorem dX7_isOrder_27 : decode cX7_isOrder 27 = .ok (.irem, 1) := by decide +kernel
theorem dX7_isOrder_28 : decode cX7_isOrder 28 = .ok (.iaload, 1) := by decide +kernel
theorem dX7_isOrder_29 : decode cX7_isOrder 29 = .ok (.iastore, 1) := by decide +kernel
theorem dX7_isOrder_30 : decode cX7_isOrder 30 = .ok (.iload 4, 2) := by decide +kernel
theorem dX7_isOrder_32 : decode cX7_isOrder 32 = .ok (.iconst 1, 1) := by decide +kernel
theorem dX7_isOrder_33 : decode cX7_isOrder 33 = .ok (.iload_n 3, 1) := by decide +kernel
theorem dX7_isOrder_34 : decode cX7_isOrder 34 = .ok (.iload_n 2, 1) := by decide +kernel
theorem dX7_isOrder_35 : decode cX7_isOrder 35 = .ok (.irem, 1) := by decide +kernel
theorem dX7_isOrder_36 : decode cX7_isOrder 36 = .ok (.ishl, 1) := by decide +kernel
theorem dX7_isOrder_37 : decode cX7_isOrder 37 = .ok (.ior, 1) := by decide +kernel
theorem dX7_isOrder_38 : decode cX7_isOrder 38 = .ok (.istore 4, 2) := by decide +kernel
theorem dX7_isOrder_40 : decode cX7_isOrder 40 = .ok (.iload_n 3, 1) := by decide +kernel
theorem dX7_isOrder_41 : decode cX7_isOrder 41 = .ok (.iload_n 2, 1) := by decide +kernel
theorem dX7_isOrder_42 : decode cX7_isOrder 42 = .ok (.idiv, 1) := by decide +kernel
theorem dX7_isOrder_43 : decode cX7_isOrder 43 = .ok (.istore_n 3, 1) := by decide +kernel
theorem dX7_isOrder_44 : decode cX7_isOrder 44 = .ok (.iinc 5 (-1), 3) := by decide +kernel
theorem dX7_isOrder_47 : decode cX7_isOrder 47 = .ok (.goto (-37), 3) := by decide +kernel
theorem dX7_isOrder_50 : decode cX7_isOrder 50 = .ok (.iload 4, 2) := by decide +kernel
theorem dX7_isOrder_52 : decode cX7_isOrder 52 = .ok (.iconst 1, 1) := by decide +kernel
theorem dX7_isOrder_53 : decode cX7_isOrder 53 = .ok (.iload_n 2, 1) := by decide +kernel
theorem dX7_isOrder_54 : decode cX7_isOrder 54 = .ok (.ishl, 1) := by decide +kernel
theorem dX7_isOrder_55 : decode cX7_isOrder 55 = .ok (.iconst 1, 1) := by decide +kernel
theorem dX7_isOrder_56 : decode cX7_isOrder 56 = .ok (.isub, 1) := by decide +kernel
theorem dX7_isOrder_57 : decode cX7_isOrder 57 = .ok (.if_icmp .ne 7, 3) := by decide +kernel
theorem dX7_isOrder_60 : decode cX7_isOrder 60 = .ok (.iconst 1, 1) := by decide +kernel
theorem dX7_isOrder_61 : decode cX7_isOrder 61 = .ok (.goto 4, 3) := by decide +kernel
theorem dX7_isOrder_64 : decode cX7_isOrder 64 = .ok (.iconst 0, 1) := by decide +kernel
theorem dX7_isOrder_65 : decode cX7_isOrder 65 = .ok (.ireturn, 1) := by decide +kernel
theorem dX7_comesBy_0 : decode cX7_comesBy 0 = .ok (.iconst 0, 1) := by decide +kernel
theorem dX7_comesBy_1 : decode cX7_comesBy 1 = .ok (.istore_n 2, 1) := by decide +kernel
theorem dX7_comesBy_2 : decode cX7_comesBy 2 = .ok (.iload_n 2, 1) := by decide +kernel
theorem dX7_comesBy_3 : decode cX7_comesBy 3 = .ok (.iload_n 1, 1) := by decide +kernel
theorem dX7_comesBy_4 : decode cX7_comesBy 4 = .ok (.if_icmp .ge 28, 3) := by decide +kernel
theorem dX7_comesBy_7 : decode cX7_comesBy 7 = .ok (.aload_n 0, 1) := by decide +kernel
theorem dX7_comesBy_8 : decode cX7_comesBy 8 = .ok (.aload_n 0, 1) := by decide +kernel
theorem dX7_comesBy_9 : decode cX7_comesBy 9 = .ok (.getfield 37, 3) := by decide +kernel
theorem dX7_comesBy_12 : decode cX7_comesBy 12 = .ok (.iload_n 2, 1) := by decide +kernel
theorem dX7_comesBy_13 : decode cX7_comesBy 13 = .ok (.iaload, 1) := by decide +kernel
theorem dX7_comesBy_14 : decode cX7_comesBy 14 = .ok (.aload_n 0, 1) := by decide +kernel
theorem dX7_comesBy_15 : decode cX7_comesBy 15 = .ok (.getfield 7, 3) := by decide +kernel
theorem dX7_comesBy_18 : decode cX7_comesBy 18 = .ok (.iconst 2, 1) := by decide +kernel
theorem dX7_comesBy_19 : decode cX7_comesBy 19 = .ok (.iaload, 1) := by decide +kernel
theorem dX7_comesBy_20 : decode cX7_comesBy 20 = .ok (.iload_n 2, 1) := by decide +kernel
theorem dX7_comesBy_21 : decode cX7_comesBy 21 = .ok (.iadd, 1) := by decide +kernel
theorem dX7_comesBy_22 : decode cX7_comesBy 22 = .ok (.iconst 1, 1) := by decide +kernel
theorem dX7_comesBy_23 : decode cX7_comesBy 23 = .ok (.invokevirtual 91, 3) := by decide +kernel
theorem dX7_comesBy_26 : decode cX7_comesBy 26 = .ok (.iinc 2 1, 3) := by decide +kernel
theorem dX7_comesBy_29 : decode cX7_comesBy 29 = .ok (.goto (-27), 3) := by decide +kernel
theorem dX7_comesBy_32 : decode cX7_comesBy 32 = .ok (.return_, 1) := by decide +kernel
theorem dX7_order_0 : decode cX7_order 0 = .ok (.iload_n 1, 1) := by decide +kernel
theorem dX7_order_1 : decode cX7_order 1 = .ok (.i2l, 1) := by decide +kernel
theorem dX7_order_2 : decode cX7_order 2 = .ok (.lconst 1, 1) := by decide +kernel
theorem dX7_order_3 : decode cX7_order 3 = .ok (.ldc2_w 124, 3) := by decide +kernel
theorem dX7_order_6 : decode cX7_order 6 = .ok (.invokestatic 59, 3) := by decide +kernel
theorem dX7_order_9 : decode cX7_order 9 = .ok (.ifCond .eq 8, 3) := by decide +kernel
theorem dX7_order_12 : decode cX7_order 12 = .ok (.iload_n 2, 1) := by decide +kernel
theorem dX7_order_13 : decode cX7_order 13 = .ok (.iconst (-1), 1) := by decide +kernel
theorem dX7_order_14 : decode cX7_order 14 = .ok (.if_icmp .ge 5, 3) := by decide +kernel
theorem dX7_order_17 : decode cX7_order 17 = .ok (.iconst (-1), 1) := by decide +kernel
theorem dX7_order_18 : decode cX7_order 18 = .ok (.ireturn, 1) := by decide +kernel
theorem dX7_order_19 : decode cX7_order 19 = .ok (.iconst 0, 1) := by decide +kernel
theorem dX7_order_20 : decode cX7_order 20 = .ok (.istore_n 3, 1) := by decide +kernel
theorem dX7_order_21 : decode cX7_order 21 = .ok (.iconst 1, 1) := by decide +kernel
theorem dX7_order_22 : decode cX7_order 22 = .ok (.istore 4, 2) := by decide +kernel
theorem dX7_order_24 : decode cX7_order 24 = .ok (.iconst 0, 1) := by decide +kernel
theorem dX7_order_25 : decode cX7_order 25 = .ok (.istore 5, 2) := by decide +kernel
theorem dX7_order_27 : decode cX7_order 27 = .ok (.iload 5, 2) := by decide +kernel
theorem dX7_order_29 : decode cX7_order 29 = .ok (.aload_n 0, 1) := by decide +kernel
theorem dX7_order_30 : decode cX7_order 30 = .ok (.getfield 7, 3) := by decide +kernel
theorem dX7_order_33 : decode cX7_order 33 = .ok (.iconst 1, 1) := by decide +kernel
theorem dX7_order_34 : decode cX7_order 34 = .ok (.iaload, 1) := by decide +kernel
theorem dX7_order_35 : decode cX7_order 35 = .ok (.if_icmp .ge 31, 3) := by decide +kernel
theorem dX7_order_38 : decode cX7_order 38 = .ok (.aload_n 0, 1) := by decide +kernel
theorem dX7_order_39 : decode cX7_order 39 = .ok (.iload 5, 2) := by decide +kernel
theorem dX7_order_41 : decode cX7_order 41 = .ok (.invokevirtual 70, 3) := by decide +kernel
theorem dX7_order_44 : decode cX7_order 44 = .ok (.bipush (-4), 2) := by decide +kernel
theorem dX7_order_46 : decode cX7_order 46 = .ok (.if_icmp .ne 14, 3) := by decide +kernel
theorem dX7_order_49 : decode cX7_order 49 = .ok (.aload_n 0, 1) := by decide +kernel
theorem dX7_order_50 : decode cX7_order 50 = .ok (.getfield 34, 3) := by decide +kernel
theorem dX7_order_53 : decode cX7_order 53 = .ok (.iload_n 3, 1) := by decide +kernel
theorem dX7_order_54 : decode cX7_order 54 = .ok (.iload 5, 2) := by decide +kernel
theorem dX7_order_56 : decode cX7_order 56 = .ok (.iastore, 1) := by decide +kernel
theorem dX7_order_57 : decode cX7_order 57 = .ok (.iinc 3 1, 3) := by decide +kernel
theorem dX7_order_60 : decode cX7_order 60 = .ok (.iinc 5 1, 3) := by decide +kernel
theorem dX7_order_63 : decode cX7_order 63 = .ok (.goto (-36), 3) := by decide +kernel
theorem dX7_order_66 : decode cX7_order 66 = .ok (.iconst 0, 1) := by decide +kernel
theorem dX7_order_67 : decode cX7_order 67 = .ok (.istore 5, 2) := by decide +kernel
theorem dX7_order_69 : decode cX7_order 69 = .ok (.iload 5, 2) := by decide +kernel
theorem dX7_order_71 : decode cX7_order 71 = .ok (.iload_n 3, 1) := by decide +kernel
theorem dX7_order_72 : decode cX7_order 72 = .ok (.if_icmp .ge 15, 3) := by decide +kernel
theorem dX7_order_75 : decode cX7_order 75 = .ok (.iload 4, 2) := by decide +kernel
theorem dX7_order_77 : decode cX7_order 77 = .ok (.iload_n 3, 1) := by decide +kernel
theorem dX7_order_78 : decode cX7_order 78 = .ok (.imul, 1) := by decide +kernel
theorem dX7_order_79 : decode cX7_order 79 = .ok (.istore 4, 2) := by decide +kernel
theorem dX7_order_81 : decode cX7_order 81 = .ok (.iinc 5 1, 3) := by decide +kernel
theorem dX7_order_84 : decode cX7_order 84 = .ok (.goto (-15), 3) := by decide +kernel
theorem dX7_order_87 : decode cX7_order 87 = .ok (.iconst (-1), 1) := by decide +kernel
theorem dX7_order_88 : decode cX7_order 88 = .ok (.istore 5, 2) := by decide +kernel
theorem dX7_order_90 : decode cX7_order 90 = .ok (.aload_n 0, 1) := by decide +kernel
theorem dX7_order_91 : decode cX7_order 91 = .ok (.invokevirtual 204, 3) := by decide +kernel
theorem dX7_order_94 : decode cX7_order 94 = .ok (.iconst 0, 1) := by decide +kernel
theorem dX7_order_95 : decode cX7_order 95 = .ok (.istore 6, 2) := by decide +kernel
theorem dX7_order_97 : decode cX7_order 97 = .ok (.iload 6, 2) := by decide +kernel
theorem dX7_order_99 : decode cX7_order 99 = .ok (.iload 4, 2) := by decide +kernel
theorem dX7_order_101 : decode cX7_order 101 = .ok (.if_icmp .ge 94, 3) := by decide +kernel
theorem dX7_order_104 : decode cX7_order 104 = .ok (.aload_n 0, 1) := by decide +kernel
theorem dX7_order_105 : decode cX7_order 105 = .ok (.iload 6, 2) := by decide +kernel
theorem dX7_order_107 : decode cX7_order 107 = .ok (.iload_n 3, 1) := by decide +kernel
theorem dX7_order_108 : decode cX7_order 108 = .ok (.invokevirtual 213, 3) := by decide +kernel
theorem dX7_order_111 : decode cX7_order 111 = .ok (.ifCond .eq 78, 3) := by decide +kernel
theorem dX7_order_114 : decode cX7_order 114 = .ok (.aload_n 0, 1) := by decide +kernel
theorem dX7_order_115 : decode cX7_order 115 = .ok (.iload_n 3, 1) := by decide +kernel
theorem dX7_order_116 : decode cX7_order 116 = .ok (.invokevirtual 216, 3) := by decide +kernel
theorem dX7_order_119 : decode cX7_order 119 = .ok (.aload_n 0, 1) := by decide +kernel
theorem dX7_order_120 : decode cX7_order 120 = .ok (.iload_n 1, 1) := by decide +kernel
theorem dX7_order_121 : decode cX7_order 121 = .ok (.invokevirtual 207, 3) := by decide +kernel
theorem dX7_order_124 : decode cX7_order 124 = .ok (.aload_n 0, 1) := by decide +kernel
theorem dX7_order_125 : decode cX7_order 125 = .ok (.invokevirtual 142, 3) := by decide +kernel
theorem dX7_order_128 : decode cX7_order 128 = .ok (.invokestatic 219, 3) := by decide +kernel
theorem dX7_order_131 : decode cX7_order 131 = .ok (.istore 7, 2) := by decide +kernel
theorem dX7_order_133 : decode cX7_order 133 = .ok (.aload_n 0, 1) := by decide +kernel
theorem dX7_order_134 : decode cX7_order 134 = .ok (.invokevirtual 210, 3) := by decide +kernel
theorem dX7_order_137 : decode cX7_order 137 = .ok (.iconst 0, 1) := by decide +kernel
theorem dX7_order_138 : decode cX7_order 138 = .ok (.istore 8, 2) := by decide +kernel
theorem dX7_order_140 : decode cX7_order 140 = .ok (.iload 8, 2) := by decide +kernel
theorem dX7_order_142 : decode cX7_order 142 = .ok (.iload_n 3, 1) := by decide +kernel
theorem dX7_order_143 : decode cX7_order 143 = .ok (.if_icmp .ge 30, 3) := by decide +kernel
theorem dX7_order_146 : decode cX7_order 146 = .ok (.iload 7, 2) := by decide +kernel
theorem dX7_order_148 : decode cX7_order 148 = .ok (.iload 5, 2) := by decide +kernel
theorem dX7_order_150 : decode cX7_order 150 = .ok (.if_icmp .le 23, 3) := by decide +kernel
theorem dX7_order_153 : decode cX7_order 153 = .ok (.aload_n 0, 1) := by decide +kernel
theorem dX7_order_154 : decode cX7_order 154 = .ok (.getfield 40, 3) := by decide +kernel
theorem dX7_order_157 : decode cX7_order 157 = .ok (.iload 8, 2) := by decide +kernel
theorem dX7_order_159 : decode cX7_order 159 = .ok (.aload_n 0, 1) := by decide +kernel
theorem dX7_order_160 : decode cX7_order 160 = .ok (.getfield 37, 3) := by decide +kernel
theorem dX7_order_163 : decode cX7_order 163 = .ok (.iload 8, 2) := by decide +kernel
theorem dX7_order_165 : decode cX7_order 165 = .ok (.iaload, 1) := by decide +kernel
theorem dX7_order_166 : decode cX7_order 166 = .ok (.iastore, 1) := by decide +kernel
theorem dX7_order_167 : decode cX7_order 167 = .ok (.iinc 8 1, 3) := by decide +kernel
theorem dX7_order_170 : decode cX7_order 170 = .ok (.goto (-30), 3) := by decide +kernel
theorem dX7_order_173 : decode cX7_order 173 = .ok (.iload 7, 2) := by decide +kernel
theorem dX7_order_175 : decode cX7_order 175 = .ok (.iload 5, 2) := by decide +kernel
theorem dX7_order_177 : decode cX7_order 177 = .ok (.if_icmp .le 8, 3) := by decide +kernel
theorem dX7_order_180 : decode cX7_order 180 = .ok (.iload 7, 2) := by decide +kernel
theorem dX7_order_182 : decode cX7_order 182 = .ok (.goto 5, 3) := by decide +kernel
theorem dX7_order_185 : decode cX7_order 185 = .ok (.iload 5, 2) := by decide +kernel
theorem dX7_order_187 : decode cX7_order 187 = .ok (.istore 5, 2) := by decide +kernel
theorem dX7_order_189 : decode cX7_order 189 = .ok (.iinc 6 1, 3) := by decide +kernel
theorem dX7_order_192 : decode cX7_order 192 = .ok (.goto (-95), 3) := by decide +kernel
theorem dX7_order_195 : decode cX7_order 195 = .ok (.iload_n 2, 1) := by decide +kernel
theorem dX7_order_196 : decode cX7_order 196 = .ok (.ifCond .ge 8, 3) := by decide +kernel
theorem dX7_order_199 : decode cX7_order 199 = .ok (.iload 5, 2) := by decide +kernel
theorem dX7_order_201 : decode cX7_order 201 = .ok (.goto 19, 3) := by decide +kernel
theorem dX7_order_204 : decode cX7_order 204 = .ok (.iload_n 2, 1) := by decide +kernel
theorem dX7_order_205 : decode cX7_order 205 = .ok (.iload_n 3, 1) := by decide +kernel
theorem dX7_order_206 : decode cX7_order 206 = .ok (.if_icmp .ge 12, 3) := by decide +kernel
theorem dX7_order_209 : decode cX7_order 209 = .ok (.aload_n 0, 1) := by decide +kernel
theorem dX7_order_210 : decode cX7_order 210 = .ok (.getfield 40, 3) := by decide +kernel
theorem dX7_order_213 : decode cX7_order 213 = .ok (.iload_n 2, 1) := by decide +kernel
theorem dX7_order_214 : decode cX7_order 214 = .ok (.iaload, 1) := by decide +kernel
theorem dX7_order_215 : decode cX7_order 215 = .ok (.goto 5, 3) := by decide +kernel
theorem dX7_order_218 : decode cX7_order 218 = .ok (.bipush (-4), 2) := by decide +kernel
theorem dX7_order_220 : decode cX7_order 220 = .ok (.ireturn, 1) := by decide +kernel
theorem dX7_wet_0 : decode cX7_wet 0 = .ok (.iload_n 1, 1) := by decide +kernel
theorem dX7_wet_1 : decode cX7_wet 1 = .ok (.i2l, 1) := by decide +kernel
theorem dX7_wet_2 : decode cX7_wet 2 = .ok (.lconst 1, 1) := by decide +kernel
theorem dX7_wet_3 : decode cX7_wet 3 = .ok (.ldc2_w 124, 3) := by decide +kernel
theorem dX7_wet_6 : decode cX7_wet 6 = .ok (.invokestatic 59, 3) := by decide +kernel
theorem dX7_wet_9 : decode cX7_wet 9 = .ok (.ifCond .ne 5, 3) := by decide +kernel
theorem dX7_wet_12 : decode cX7_wet 12 = .ok (.iconst (-1), 1) := by decide +kernel
theorem dX7_wet_13 : decode cX7_wet 13 = .ok (.ireturn, 1) := by decide +kernel
theorem dX7_wet_14 : decode cX7_wet 14 = .ok (.bipush (-4), 2) := by decide +kernel
theorem dX7_wet_16 : decode cX7_wet 16 = .ok (.istore_n 2, 1) := by decide +kernel
theorem dX7_wet_17 : decode cX7_wet 17 = .ok (.aload_n 0, 1) := by decide +kernel
theorem dX7_wet_18 : decode cX7_wet 18 = .ok (.invokevirtual 204, 3) := by decide +kernel
theorem dX7_wet_21 : decode cX7_wet 21 = .ok (.iconst 0, 1) := by decide +kernel
theorem dX7_wet_22 : decode cX7_wet 22 = .ok (.istore_n 3, 1) := by decide +kernel
theorem dX7_wet_23 : decode cX7_wet 23 = .ok (.iload_n 3, 1) := by decide +kernel
theorem dX7_wet_24 : decode cX7_wet 24 = .ok (.bipush 61, 2) := by decide +kernel
theorem dX7_wet_26 : decode cX7_wet 26 = .ok (.if_icmp .ge 53, 3) := by decide +kernel
theorem dX7_wet_29 : decode cX7_wet 29 = .ok (.iload_n 2, 1) := by decide +kernel
theorem dX7_wet_30 : decode cX7_wet 30 = .ok (.bipush (-4), 2) := by decide +kernel
theorem dX7_wet_32 : decode cX7_wet 32 = .ok (.if_icmp .ne 47, 3) := by decide +kernel
theorem dX7_wet_35 : decode cX7_wet 35 = .ok (.aload_n 0, 1) := by decide +kernel
theorem dX7_wet_36 : decode cX7_wet 36 = .ok (.iload_n 3, 1) := by decide +kernel
theorem dX7_wet_37 : decode cX7_wet 37 = .ok (.invokevirtual 194, 3) := by decide +kernel
theorem dX7_wet_40 : decode cX7_wet 40 = .ok (.aload_n 0, 1) := by decide +kernel
theorem dX7_wet_41 : decode cX7_wet 41 = .ok (.iload_n 1, 1) := by decide +kernel
theorem dX7_wet_42 : decode cX7_wet 42 = .ok (.invokevirtual 207, 3) := by decide +kernel
theorem dX7_wet_45 : decode cX7_wet 45 = .ok (.aload_n 0, 1) := by decide +kernel
theorem dX7_wet_46 : decode cX7_wet 46 = .ok (.invokevirtual 142, 3) := by decide +kernel
theorem dX7_wet_49 : decode cX7_wet 49 = .ok (.iconst 1, 1) := by decide +kernel
theorem dX7_wet_50 : decode cX7_wet 50 = .ok (.aload_n 0, 1) := by decide +kernel
theorem dX7_wet_51 : decode cX7_wet 51 = .ok (.getfield 7, 3) := by decide +kernel
theorem dX7_wet_54 : decode cX7_wet 54 = .ok (.iconst 1, 1) := by decide +kernel
theorem dX7_wet_55 : decode cX7_wet 55 = .ok (.iaload, 1) := by decide +kernel
theorem dX7_wet_56 : decode cX7_wet 56 = .ok (.ishl, 1) := by decide +kernel
theorem dX7_wet_57 : decode cX7_wet 57 = .ok (.iconst 1, 1) := by decide +kernel
theorem dX7_wet_58 : decode cX7_wet 58 = .ok (.isub, 1) := by decide +kernel
theorem dX7_wet_59 : decode cX7_wet 59 = .ok (.if_icmp .ne 7, 3) := by decide +kernel
theorem dX7_wet_62 : decode cX7_wet 62 = .ok (.iload_n 3, 1) := by decide +kernel
theorem dX7_wet_63 : decode cX7_wet 63 = .ok (.goto 5, 3) := by decide +kernel
theorem dX7_wet_66 : decode cX7_wet 66 = .ok (.bipush (-4), 2) := by decide +kernel
theorem dX7_wet_68 : decode cX7_wet 68 = .ok (.istore_n 2, 1) := by decide +kernel
theorem dX7_wet_69 : decode cX7_wet 69 = .ok (.aload_n 0, 1) := by decide +kernel
theorem dX7_wet_70 : decode cX7_wet 70 = .ok (.invokevirtual 210, 3) := by decide +kernel
theorem dX7_wet_73 : decode cX7_wet 73 = .ok (.iinc 3 1, 3) := by decide +kernel
theorem dX7_wet_76 : decode cX7_wet 76 = .ok (.goto (-53), 3) := by decide +kernel
theorem dX7_wet_79 : decode cX7_wet 79 = .ok (.iload_n 2, 1) := by decide +kernel
theorem dX7_wet_80 : decode cX7_wet 80 = .ok (.ireturn, 1) := by decide +kernel
theorem dX7_matters_0 : decode cX7_matters 0 = .ok (.iload_n 1, 1) := by decide +kernel
theorem dX7_matters_1 : decode cX7_matters 1 = .ok (.i2l, 1) := by decide +kernel
theorem dX7_matters_2 : decode cX7_matters 2 = .ok (.lconst 1, 1) := by decide +kernel
theorem dX7_matters_3 : decode cX7_matters 3 = .ok (.ldc2_w 124, 3) := by decide +kernel
theorem dX7_matters_6 : decode cX7_matters 6 = .ok (.invokestatic 59, 3) := by decide +kernel
theorem dX7_matters_9 : decode cX7_matters 9 = .ok (.ifCond .eq 13, 3) := by decide +kernel
theorem dX7_matters_12 : decode cX7_matters 12 = .ok (.iload_n 2, 1) := by decide +kernel
theorem dX7_matters_13 : decode cX7_matters 13 = .ok (.i2l, 1) := by decide +kernel
theorem dX7_matters_14 : decode cX7_matters 14 = .ok (.lconst 0, 1) := by decide +kernel
theorem dX7_matters_15 : decode cX7_matters 15 = .ok (.lconst 1, 1) := by decide +kernel
theorem dX7_matters_16 : decode cX7_matters 16 = .ok (.invokestatic 59, 3) := by decide +kernel
theorem dX7_matters_19 : decode cX7_matters 19 = .ok (.ifCond .ne 5, 3) := by decide +kernel
theorem dX7_matters_22 : decode cX7_matters 22 = .ok (.iconst (-1), 1) := by decide +kernel
theorem dX7_matters_23 : decode cX7_matters 23 = .ok (.ireturn, 1) := by decide +kernel
theorem dX7_matters_24 : decode cX7_matters 24 = .ok (.bipush (-4), 2) := by decide +kernel
theorem dX7_matters_26 : decode cX7_matters 26 = .ok (.istore_n 3, 1) := by decide +kernel
theorem dX7_matters_27 : decode cX7_matters 27 = .ok (.bipush 99, 2) := by decide +kernel
theorem dX7_matters_29 : decode cX7_matters 29 = .ok (.istore 4, 2) := by decide +kernel
theorem dX7_matters_31 : decode cX7_matters 31 = .ok (.aload_n 0, 1) := by decide +kernel
theorem dX7_matters_32 : decode cX7_matters 32 = .ok (.invokevirtual 204, 3) := by decide +kernel
theorem dX7_matters_35 : decode cX7_matters 35 = .ok (.iconst 0, 1) := by decide +kernel
theorem dX7_matters_36 : decode cX7_matters 36 = .ok (.istore 5, 2) := by decide +kernel
theorem dX7_matters_38 : decode cX7_matters 38 = .ok (.iload 5, 2) := by decide +kernel
theorem dX7_matters_40 : decode cX7_matters 40 = .ok (.aload_n 0, 1) := by decide +kernel
theorem dX7_matters_41 : decode cX7_matters 41 = .ok (.getfield 7, 3) := by decide +kernel
theorem dX7_matters_44 : decode cX7_matters 44 = .ok (.iconst 0, 1) := by decide +kernel
theorem dX7_matters_45 : decode cX7_matters 45 = .ok (.iaload, 1) := by decide +kernel
theorem dX7_matters_46 : decode cX7_matters 46 = .ok (.if_icmp .ge 64, 3) := by decide +kernel
theorem dX7_matters_49 : decode cX7_matters 49 = .ok (.aload_n 0, 1) := by decide +kernel
theorem dX7_matters_50 : decode cX7_matters 50 = .ok (.iload 5, 2) := by decide +kernel
theorem dX7_matters_52 : decode cX7_matters 52 = .ok (.iconst 0, 1) := by decide +kernel
theorem dX7_matters_53 : decode cX7_matters 53 = .ok (.invokevirtual 102, 3) := by decide +kernel
theorem dX7_matters_56 : decode cX7_matters 56 = .ok (.aload_n 0, 1) := by decide +kernel
theorem dX7_matters_57 : decode cX7_matters 57 = .ok (.iload_n 1, 1) := by decide +kernel
theorem dX7_matters_58 : decode cX7_matters 58 = .ok (.invokevirtual 207, 3) := by decide +kernel
theorem dX7_matters_61 : decode cX7_matters 61 = .ok (.aload_n 0, 1) := by decide +kernel
theorem dX7_matters_62 : decode cX7_matters 62 = .ok (.invokevirtual 142, 3) := by decide +kernel
theorem dX7_matters_65 : decode cX7_matters 65 = .ok (.invokestatic 219, 3) := by decide +kernel
theorem dX7_matters_68 : decode cX7_matters 68 = .ok (.istore 6, 2) := by decide +kernel
theorem dX7_matters_70 : decode cX7_matters 70 = .ok (.aload_n 0, 1) := by decide +kernel
theorem dX7_matters_71 : decode cX7_matters 71 = .ok (.invokevirtual 210, 3) := by decide +kernel
theorem dX7_matters_74 : decode cX7_matters 74 = .ok (.iload 6, 2) := by decide +kernel
theorem dX7_matters_76 : decode cX7_matters 76 = .ok (.iload 4, 2) := by decide +kernel
theorem dX7_matters_78 : decode cX7_matters 78 = .ok (.if_icmp .ge 8, 3) := by decide +kernel
theorem dX7_matters_81 : decode cX7_matters 81 = .ok (.iload 5, 2) := by decide +kernel
theorem dX7_matters_83 : decode cX7_matters 83 = .ok (.goto 4, 3) := by decide +kernel
theorem dX7_matters_86 : decode cX7_matters 86 = .ok (.iload_n 3, 1) := by decide +kernel
theorem dX7_matters_87 : decode cX7_matters 87 = .ok (.istore_n 3, 1) := by decide +kernel
theorem dX7_matters_88 : decode cX7_matters 88 = .ok (.iload 6, 2) := by decide +kernel
theorem dX7_matters_90 : decode cX7_matters 90 = .ok (.iload 4, 2) := by decide +kernel
theorem dX7_matters_92 : decode cX7_matters 92 = .ok (.if_icmp .ge 8, 3) := by decide +kernel
theorem dX7_matters_95 : decode cX7_matters 95 = .ok (.iload 6, 2) := by decide +kernel
theorem dX7_matters_97 : decode cX7_matters 97 = .ok (.goto 5, 3) := by decide +kernel
theorem dX7_matters_100 : decode cX7_matters 100 = .ok (.iload 4, 2) := by decide +kernel
theorem dX7_matters_102 : decode cX7_matters 102 = .ok (.istore 4, 2) := by decide +kernel
theorem dX7_matters_104 : decode cX7_matters 104 = .ok (.iinc 5 1, 3) := by decide +kernel
theorem dX7_matters_107 : decode cX7_matters 107 = .ok (.goto (-69), 3) := by decide +kernel
theorem dX7_matters_110 : decode cX7_matters 110 = .ok (.iload_n 2, 1) := by decide +kernel
theorem dX7_matters_111 : decode cX7_matters 111 = .ok (.ifCond .eq 9, 3) := by decide +kernel
theorem dX7_matters_114 : decode cX7_matters 114 = .ok (.iload_n 3, 1) := by decide +kernel
theorem dX7_matters_115 : decode cX7_matters 115 = .ok (.bipush (-4), 2) := by decide +kernel
theorem dX7_matters_117 : decode cX7_matters 117 = .ok (.if_icmp .ne 7, 3) := by decide +kernel
theorem dX7_matters_120 : decode cX7_matters 120 = .ok (.iload_n 3, 1) := by decide +kernel
theorem dX7_matters_121 : decode cX7_matters 121 = .ok (.goto 5, 3) := by decide +kernel
theorem dX7_matters_124 : decode cX7_matters 124 = .ok (.iload 4, 2) := by decide +kernel
theorem dX7_matters_126 : decode cX7_matters 126 = .ok (.ireturn, 1) := by decide +kernel
theorem dX7_sight_0 : decode cX7_sight 0 = .ok (.aload_n 0, 1) := by decide +kernel
theorem dX7_sight_1 : decode cX7_sight 1 = .ok (.iload_n 1, 1) := by decide +kernel
theorem dX7_sight_2 : decode cX7_sight 2 = .ok (.invokevirtual 74, 3) := by decide +kernel
theorem dX7_sight_5 : decode cX7_sight 5 = .ok (.ifCond .eq 25, 3) := by decide +kernel
theorem dX7_sight_8 : decode cX7_sight 8 = .ok (.iload_n 2, 1) := by decide +kernel
theorem dX7_sight_9 : decode cX7_sight 9 = .ok (.i2l, 1) := by decide +kernel
theorem dX7_sight_10 : decode cX7_sight 10 = .ok (.lconst 1, 1) := by decide +kernel
theorem dX7_sight_11 : decode cX7_sight 11 = .ok (.ldc2_w 124, 3) := by decide +kernel
theorem dX7_sight_14 : decode cX7_sight 14 = .ok (.invokestatic 59, 3) := by decide +kernel
theorem dX7_sight_17 : decode cX7_sight 17 = .ok (.ifCond .eq 13, 3) := by decide +kernel
theorem dX7_sight_20 : decode cX7_sight 20 = .ok (.iload_n 3, 1) := by decide +kernel
theorem dX7_sight_21 : decode cX7_sight 21 = .ok (.i2l, 1) := by decide +kernel
theorem dX7_sight_22 : decode cX7_sight 22 = .ok (.lconst 0, 1) := by decide +kernel
theorem dX7_sight_23 : decode cX7_sight 23 = .ok (.lconst 1, 1) := by decide +kernel
theorem dX7_sight_24 : decode cX7_sight 24 = .ok (.invokestatic 59, 3) := by decide +kernel
theorem dX7_sight_27 : decode cX7_sight 27 = .ok (.ifCond .ne 5, 3) := by decide +kernel
theorem dX7_sight_30 : decode cX7_sight 30 = .ok (.iconst (-1), 1) := by decide +kernel
theorem dX7_sight_31 : decode cX7_sight 31 = .ok (.ireturn, 1) := by decide +kernel
theorem dX7_sight_32 : decode cX7_sight 32 = .ok (.iconst 0, 1) := by decide +kernel
theorem dX7_sight_33 : decode cX7_sight 33 = .ok (.istore 4, 2) := by decide +kernel
theorem dX7_sight_35 : decode cX7_sight 35 = .ok (.iconst (-1), 1) := by decide +kernel
theorem dX7_sight_36 : decode cX7_sight 36 = .ok (.istore 5, 2) := by decide +kernel
theorem dX7_sight_38 : decode cX7_sight 38 = .ok (.aload_n 0, 1) := by decide +kernel
theorem dX7_sight_39 : decode cX7_sight 39 = .ok (.invokevirtual 204, 3) := by decide +kernel
theorem dX7_sight_42 : decode cX7_sight 42 = .ok (.iconst 0, 1) := by decide +kernel
theorem dX7_sight_43 : decode cX7_sight 43 = .ok (.istore 6, 2) := by decide +kernel
theorem dX7_sight_45 : decode cX7_sight 45 = .ok (.iload 6, 2) := by decide +kernel
theorem dX7_sight_47 : decode cX7_sight 47 = .ok (.bipush 8, 2) := by decide +kernel
theorem dX7_sight_49 : decode cX7_sight 49 = .ok (.if_icmp .ge 73, 3) := by decide +kernel
theorem dX7_sight_52 : decode cX7_sight 52 = .ok (.aload_n 0, 1) := by decide +kernel
theorem dX7_sight_53 : decode cX7_sight 53 = .ok (.getfield 7, 3) := by decide +kernel
theorem dX7_sight_56 : decode cX7_sight 56 = .ok (.iconst 4, 1) := by decide +kernel
theorem dX7_sight_57 : decode cX7_sight 57 = .ok (.iconst 3, 1) := by decide +kernel
theorem dX7_sight_58 : decode cX7_sight 58 = .ok (.iload_n 1, 1) := by decide +kernel
theorem dX7_sight_59 : decode cX7_sight 59 = .ok (.imul, 1) := by decide +kernel
theorem dX7_sight_60 : decode cX7_sight 60 = .ok (.iadd, 1) := by decide +kernel
theorem dX7_sight_61 : decode cX7_sight 61 = .ok (.iconst 1, 1) := by decide +kernel
theorem dX7_sight_62 : decode cX7_sight 62 = .ok (.iadd, 1) := by decide +kernel
theorem dX7_sight_63 : decode cX7_sight 63 = .ok (.iload 6, 2) := by decide +kernel
theorem dX7_sight_65 : decode cX7_sight 65 = .ok (.iastore, 1) := by decide +kernel
theorem dX7_sight_66 : decode cX7_sight 66 = .ok (.aload_n 0, 1) := by decide +kernel
theorem dX7_sight_67 : decode cX7_sight 67 = .ok (.iload_n 2, 1) := by decide +kernel
theorem dX7_sight_68 : decode cX7_sight 68 = .ok (.invokevirtual 207, 3) := by decide +kernel
theorem dX7_sight_71 : decode cX7_sight 71 = .ok (.aload_n 0, 1) := by decide +kernel
theorem dX7_sight_72 : decode cX7_sight 72 = .ok (.invokevirtual 142, 3) := by decide +kernel
theorem dX7_sight_75 : decode cX7_sight 75 = .ok (.invokestatic 219, 3) := by decide +kernel
theorem dX7_sight_78 : decode cX7_sight 78 = .ok (.istore 7, 2) := by decide +kernel
theorem dX7_sight_80 : decode cX7_sight 80 = .ok (.aload_n 0, 1) := by decide +kernel
theorem dX7_sight_81 : decode cX7_sight 81 = .ok (.invokevirtual 210, 3) := by decide +kernel
theorem dX7_sight_84 : decode cX7_sight 84 = .ok (.iload 7, 2) := by decide +kernel
theorem dX7_sight_86 : decode cX7_sight 86 = .ok (.iload 5, 2) := by decide +kernel
theorem dX7_sight_88 : decode cX7_sight 88 = .ok (.if_icmp .le 8, 3) := by decide +kernel
theorem dX7_sight_91 : decode cX7_sight 91 = .ok (.iload 6, 2) := by decide +kernel
theorem dX7_sight_93 : decode cX7_sight 93 = .ok (.goto 5, 3) := by decide +kernel
theorem dX7_sight_96 : decode cX7_sight 96 = .ok (.iload 4, 2) := by decide +kernel
theorem dX7_sight_98 : decode cX7_sight 98 = .ok (.istore 4, 2) := by decide +kernel
theorem dX7_sight_100 : decode cX7_sight 100 = .ok (.iload 7, 2) := by decide +kernel
theorem dX7_sight_102 : decode cX7_sight 102 = .ok (.iload 5, 2) := by decide +kernel
theorem dX7_sight_104 : decode cX7_sight 104 = .ok (.if_icmp .le 8, 3) := by decide +kernel
theorem dX7_sight_107 : decode cX7_sight 107 = .ok (.iload 7, 2) := by decide +kernel
theorem dX7_sight_109 : decode cX7_sight 109 = .ok (.goto 5, 3) := by decide +kernel
theorem dX7_sight_112 : decode cX7_sight 112 = .ok (.iload 5, 2) := by decide +kernel
theorem dX7_sight_114 : decode cX7_sight 114 = .ok (.istore 5, 2) := by decide +kernel
theorem dX7_sight_116 : decode cX7_sight 116 = .ok (.iinc 6 1, 3) := by decide +kernel
theorem dX7_sight_119 : decode cX7_sight 119 = .ok (.goto (-74), 3) := by decide +kernel
theorem dX7_sight_122 : decode cX7_sight 122 = .ok (.iload_n 3, 1) := by decide +kernel
theorem dX7_sight_123 : decode cX7_sight 123 = .ok (.ifCond .ne 8, 3) := by decide +kernel
theorem dX7_sight_126 : decode cX7_sight 126 = .ok (.iload 4, 2) := by decide +kernel
theorem dX7_sight_128 : decode cX7_sight 128 = .ok (.goto 5, 3) := by decide +kernel
theorem dX7_sight_131 : decode cX7_sight 131 = .ok (.iload 5, 2) := by decide +kernel
theorem dX7_sight_133 : decode cX7_sight 133 = .ok (.ireturn, 1) := by decide +kernel
theorem dX7_carts_0 : decode cX7_carts 0 = .ok (.aload_n 0, 1) := by decide +kernel
theorem dX7_carts_1 : decode cX7_carts 1 = .ok (.iload_n 1, 1) := by decide +kernel
theorem dX7_carts_2 : decode cX7_carts 2 = .ok (.invokevirtual 129, 3) := by decide +kernel
theorem dX7_carts_5 : decode cX7_carts 5 = .ok (.ifCond .eq 25, 3) := by decide +kernel
theorem dX7_carts_8 : decode cX7_carts 8 = .ok (.iload_n 2, 1) := by decide +kernel
theorem dX7_carts_9 : decode cX7_carts 9 = .ok (.i2l, 1) := by decide +kernel
theorem dX7_carts_10 : decode cX7_carts 10 = .ok (.lconst 0, 1) := by decide +kernel
theorem dX7_carts_11 : decode cX7_carts 11 = .ok (.ldc2_w 222, 3) := by decide +kernel
theorem dX7_carts_14 : decode cX7_carts 14 = .ok (.invokestatic 59, 3) := by decide +kernel
theorem dX7_carts_17 : decode cX7_carts 17 = .ok (.ifCond .eq 13, 3) := by decide +kernel
theorem dX7_carts_20 : decode cX7_carts 20 = .ok (.iload_n 3, 1) := by decide +kernel
theorem dX7_carts_21 : decode cX7_carts 21 = .ok (.i2l, 1) := by decide +kernel
theorem dX7_carts_22 : decode cX7_carts 22 = .ok (.lconst 0, 1) := by decide +kernel
theorem dX7_carts_23 : decode cX7_carts 23 = .ok (.lconst 1, 1) := by decide +kernel
theorem dX7_carts_24 : decode cX7_carts 24 = .ok (.invokestatic 59, 3) := by decide +kernel
theorem dX7_carts_27 : decode cX7_carts 27 = .ok (.ifCond .ne 5, 3) := by decide +kernel
theorem dX7_carts_30 : decode cX7_carts 30 = .ok (.iconst (-1), 1) := by decide +kernel
theorem dX7_carts_31 : decode cX7_carts 31 = .ok (.ireturn, 1) := by decide +kernel
theorem dX7_carts_32 : decode cX7_carts 32 = .ok (.iconst 1, 1) := by decide +kernel
theorem dX7_carts_33 : decode cX7_carts 33 = .ok (.aload_n 0, 1) := by decide +kernel
theorem dX7_carts_34 : decode cX7_carts 34 = .ok (.getfield 7, 3) := by decide +kernel
theorem dX7_carts_37 : decode cX7_carts 37 = .ok (.iconst 0, 1) := by decide +kernel
theorem dX7_carts_38 : decode cX7_carts 38 = .ok (.iaload, 1) := by decide +kernel
theorem dX7_carts_39 : decode cX7_carts 39 = .ok (.ishl, 1) := by decide +kernel
theorem dX7_carts_40 : decode cX7_carts 40 = .ok (.iconst 1, 1) := by decide +kernel
theorem dX7_carts_41 : decode cX7_carts 41 = .ok (.isub, 1) := by decide +kernel
theorem dX7_carts_42 : decode cX7_carts 42 = .ok (.aload_n 0, 1) := by decide +kernel
theorem dX7_carts_43 : decode cX7_carts 43 = .ok (.invokevirtual 139, 3) := by decide +kernel
theorem dX7_carts_46 : decode cX7_carts 46 = .ok (.iconst (-1), 1) := by decide +kernel
theorem dX7_carts_47 : decode cX7_carts 47 = .ok (.ixor, 1) := by decide +kernel
theorem dX7_carts_48 : decode cX7_carts 48 = .ok (.iand, 1) := by decide +kernel
theorem dX7_carts_49 : decode cX7_carts 49 = .ok (.istore 4, 2) := by decide +kernel
theorem dX7_carts_51 : decode cX7_carts 51 = .ok (.iconst 0, 1) := by decide +kernel
theorem dX7_carts_52 : decode cX7_carts 52 = .ok (.istore 5, 2) := by decide +kernel
theorem dX7_carts_54 : decode cX7_carts 54 = .ok (.iconst 0, 1) := by decide +kernel
theorem dX7_carts_55 : decode cX7_carts 55 = .ok (.istore 6, 2) := by decide +kernel
theorem dX7_carts_57 : decode cX7_carts 57 = .ok (.aload_n 0, 1) := by decide +kernel
theorem dX7_carts_58 : decode cX7_carts 58 = .ok (.invokevirtual 204, 3) := by decide +kernel
theorem dX7_carts_61 : decode cX7_carts 61 = .ok (.iconst 0, 1) := by decide +kernel
theorem dX7_carts_62 : decode cX7_carts 62 = .ok (.istore 7, 2) := by decide +kernel
theorem dX7_carts_64 : decode cX7_carts 64 = .ok (.iload 7, 2) := by decide +kernel
theorem dX7_carts_66 : decode cX7_carts 66 = .ok (.sipush 128, 3) := by decide +kernel
theorem dX7_carts_69 : decode cX7_carts 69 = .ok (.if_icmp .ge 156, 3) := by decide +kernel
theorem dX7_carts_72 : decode cX7_carts 72 = .ok (.iload 7, 2) := by decide +kernel
theorem dX7_carts_74 : decode cX7_carts 74 = .ok (.iload 4, 2) := by decide +kernel
theorem dX7_carts_76 : decode cX7_carts 76 = .ok (.iconst (-1), 1) := by decide +kernel
theorem dX7_carts_77 : decode cX7_carts 77 = .ok (.ixor, 1) := by decide +kernel
theorem dX7_carts_78 : decode cX7_carts 78 = .ok (.iand, 1) := by decide +kernel
theorem dX7_carts_79 : decode cX7_carts 79 = .ok (.ifCond .ne 140, 3) := by decide +kernel
theorem dX7_carts_82 : decode cX7_carts 82 = .ok (.iconst 1, 1) := by decide +kernel
theorem dX7_carts_83 : decode cX7_carts 83 = .ok (.istore 8, 2) := by decide +kernel
theorem dX7_carts_85 : decode cX7_carts 85 = .ok (.iconst 0, 1) := by decide +kernel
theorem dX7_carts_86 : decode cX7_carts 86 = .ok (.istore 9, 2) := by decide +kernel
theorem dX7_carts_88 : decode cX7_carts 88 = .ok (.iload 9, 2) := by decide +kernel
theorem dX7_carts_90 : decode cX7_carts 90 = .ok (.aload_n 0, 1) := by decide +kernel
theorem dX7_carts_91 : decode cX7_carts 91 = .ok (.getfield 7, 3) := by decide +kernel
theorem dX7_carts_94 : decode cX7_carts 94 = .ok (.iconst 0, 1) := by decide +kernel
theorem dX7_carts_95 : decode cX7_carts 95 = .ok (.iaload, 1) := by decide +kernel
theorem dX7_carts_96 : decode cX7_carts 96 = .ok (.if_icmp .ge 87, 3) := by decide +kernel
theorem dX7_carts_99 : decode cX7_carts 99 = .ok (.iload 7, 2) := by decide +kernel
theorem dX7_carts_101 : decode cX7_carts 101 = .ok (.iload 9, 2) := by decide +kernel
theorem dX7_carts_103 : decode cX7_carts 103 = .ok (.ishr, 1) := by decide +kernel
theorem dX7_carts_104 : decode cX7_carts 104 = .ok (.iconst 1, 1) := by decide +kernel
theorem dX7_carts_105 : decode cX7_carts 105 = .ok (.iand, 1) := by decide +kernel
theorem dX7_carts_106 : decode cX7_carts 106 = .ok (.iconst 1, 1) := by decide +kernel
theorem dX7_carts_107 : decode cX7_carts 107 = .ok (.if_icmp .ne 7, 3) := by decide +kernel
theorem dX7_carts_110 : decode cX7_carts 110 = .ok (.iconst 1, 1) := by decide +kernel
theorem dX7_carts_111 : decode cX7_carts 111 = .ok (.goto 4, 3) := by decide +kernel
theorem dX7_carts_114 : decode cX7_carts 114 = .ok (.iconst 0, 1) := by decide +kernel
theorem dX7_carts_115 : decode cX7_carts 115 = .ok (.istore 10, 2) := by decide +kernel
theorem dX7_carts_117 : decode cX7_carts 117 = .ok (.iload 8, 2) := by decide +kernel
theorem dX7_carts_119 : decode cX7_carts 119 = .ok (.iload 4, 2) := by decide +kernel
theorem dX7_carts_121 : decode cX7_carts 121 = .ok (.iload 9, 2) := by decide +kernel
theorem dX7_carts_123 : decode cX7_carts 123 = .ok (.ishr, 1) := by decide +kernel
theorem dX7_carts_124 : decode cX7_carts 124 = .ok (.iconst 1, 1) := by decide +kernel
theorem dX7_carts_125 : decode cX7_carts 125 = .ok (.iand, 1) := by decide +kernel
theorem dX7_carts_126 : decode cX7_carts 126 = .ok (.ifCond .ne 7, 3) := by decide +kernel
theorem dX7_carts_129 : decode cX7_carts 129 = .ok (.iconst 1, 1) := by decide +kernel
theorem dX7_carts_130 : decode cX7_carts 130 = .ok (.goto 16, 3) := by decide +kernel
theorem dX7_carts_133 : decode cX7_carts 133 = .ok (.iload 10, 2) := by decide +kernel
theorem dX7_carts_135 : decode cX7_carts 135 = .ok (.ifCond .eq 7, 3) := by decide +kernel
theorem dX7_carts_138 : decode cX7_carts 138 = .ok (.iload_n 2, 1) := by decide +kernel
theorem dX7_carts_139 : decode cX7_carts 139 = .ok (.goto 7, 3) := by decide +kernel
theorem dX7_carts_142 : decode cX7_carts 142 = .ok (.bipush 10, 2) := by decide +kernel
theorem dX7_carts_144 : decode cX7_carts 144 = .ok (.iload_n 2, 1) := by decide +kernel
theorem dX7_carts_145 : decode cX7_carts 145 = .ok (.isub, 1) := by decide +kernel
theorem dX7_carts_146 : decode cX7_carts 146 = .ok (.imul, 1) := by decide +kernel
theorem dX7_carts_147 : decode cX7_carts 147 = .ok (.istore 8, 2) := by decide +kernel
theorem dX7_carts_149 : decode cX7_carts 149 = .ok (.aload_n 0, 1) := by decide +kernel
theorem dX7_carts_150 : decode cX7_carts 150 = .ok (.iload 9, 2) := by decide +kernel
theorem dX7_carts_152 : decode cX7_carts 152 = .ok (.iload 10, 2) := by decide +kernel
theorem dX7_carts_154 : decode cX7_carts 154 = .ok (.ifCond .eq 14, 3) := by decide +kernel
theorem dX7_carts_157 : decode cX7_carts 157 = .ok (.aload_n 0, 1) := by decide +kernel
theorem dX7_carts_158 : decode cX7_carts 158 = .ok (.iload 9, 2) := by decide +kernel
theorem dX7_carts_160 : decode cX7_carts 160 = .ok (.invokevirtual 78, 3) := by decide +kernel
theorem dX7_carts_163 : decode cX7_carts 163 = .ok (.iconst 2, 1) := by decide +kernel
theorem dX7_carts_164 : decode cX7_carts 164 = .ok (.idiv, 1) := by decide +kernel
theorem dX7_carts_165 : decode cX7_carts 165 = .ok (.goto 9, 3) := by decide +kernel
theorem dX7_carts_168 : decode cX7_carts 168 = .ok (.aload_n 0, 1) := by decide +kernel
theorem dX7_carts_169 : decode cX7_carts 169 = .ok (.iload 9, 2) := by decide +kernel
theorem dX7_carts_171 : decode cX7_carts 171 = .ok (.invokevirtual 78, 3) := by decide +kernel
theorem dX7_carts_174 : decode cX7_carts 174 = .ok (.invokevirtual 102, 3) := by decide +kernel
theorem dX7_carts_177 : decode cX7_carts 177 = .ok (.iinc 9 1, 3) := by decide +kernel
theorem dX7_carts_180 : decode cX7_carts 180 = .ok (.goto (-92), 3) := by decide +kernel
theorem dX7_carts_183 : decode cX7_carts 183 = .ok (.aload_n 0, 1) := by decide +kernel
theorem dX7_carts_184 : decode cX7_carts 184 = .ok (.invokevirtual 106, 3) := by decide +kernel
theorem dX7_carts_187 : decode cX7_carts 187 = .ok (.iload 6, 2) := by decide +kernel
theorem dX7_carts_189 : decode cX7_carts 189 = .ok (.iload 8, 2) := by decide +kernel
theorem dX7_carts_191 : decode cX7_carts 191 = .ok (.iadd, 1) := by decide +kernel
theorem dX7_carts_192 : decode cX7_carts 192 = .ok (.istore 6, 2) := by decide +kernel
theorem dX7_carts_194 : decode cX7_carts 194 = .ok (.iload 5, 2) := by decide +kernel
theorem dX7_carts_196 : decode cX7_carts 196 = .ok (.aload_n 0, 1) := by decide +kernel
theorem dX7_carts_197 : decode cX7_carts 197 = .ok (.iload_n 1, 1) := by decide +kernel
theorem dX7_carts_198 : decode cX7_carts 198 = .ok (.invokevirtual 70, 3) := by decide +kernel
theorem dX7_carts_201 : decode cX7_carts 201 = .ok (.bipush (-4), 2) := by decide +kernel
theorem dX7_carts_203 : decode cX7_carts 203 = .ok (.if_icmp .ne 7, 3) := by decide +kernel
theorem dX7_carts_206 : decode cX7_carts 206 = .ok (.iconst 0, 1) := by decide +kernel
theorem dX7_carts_207 : decode cX7_carts 207 = .ok (.goto 5, 3) := by decide +kernel
theorem dX7_carts_210 : decode cX7_carts 210 = .ok (.iload 8, 2) := by decide +kernel
theorem dX7_carts_212 : decode cX7_carts 212 = .ok (.iadd, 1) := by decide +kernel
theorem dX7_carts_213 : decode cX7_carts 213 = .ok (.istore 5, 2) := by decide +kernel
theorem dX7_carts_215 : decode cX7_carts 215 = .ok (.aload_n 0, 1) := by decide +kernel
theorem dX7_carts_216 : decode cX7_carts 216 = .ok (.invokevirtual 210, 3) := by decide +kernel
theorem dX7_carts_219 : decode cX7_carts 219 = .ok (.iinc 7 1, 3) := by decide +kernel
theorem dX7_carts_222 : decode cX7_carts 222 = .ok (.goto (-158), 3) := by decide +kernel
theorem dX7_carts_225 : decode cX7_carts 225 = .ok (.iload 5, 2) := by decide +kernel
theorem dX7_carts_227 : decode cX7_carts 227 = .ok (.istore 7, 2) := by decide +kernel
theorem dX7_carts_229 : decode cX7_carts 229 = .ok (.iload 6, 2) := by decide +kernel
theorem dX7_carts_231 : decode cX7_carts 231 = .ok (.istore 8, 2) := by decide +kernel
theorem dX7_carts_233 : decode cX7_carts 233 = .ok (.iload 8, 2) := by decide +kernel
theorem dX7_carts_235 : decode cX7_carts 235 = .ok (.ifCond .eq 21, 3) := by decide +kernel
theorem dX7_carts_238 : decode cX7_carts 238 = .ok (.iload 7, 2) := by decide +kernel
theorem dX7_carts_240 : decode cX7_carts 240 = .ok (.iload 8, 2) := by decide +kernel
theorem dX7_carts_242 : decode cX7_carts 242 = .ok (.irem, 1) := by decide +kernel
theorem dX7_carts_243 : decode cX7_carts 243 = .ok (.istore 9, 2) := by decide +kernel
theorem dX7_carts_245 : decode cX7_carts 245 = .ok (.iload 8, 2) := by decide +kernel
theorem dX7_carts_247 : decode cX7_carts 247 = .ok (.istore 7, 2) := by decide +kernel
theorem dX7_carts_249 : decode cX7_carts 249 = .ok (.iload 9, 2) := by decide +kernel
theorem dX7_carts_251 : decode cX7_carts 251 = .ok (.istore 8, 2) := by decide +kernel
theorem dX7_carts_253 : decode cX7_carts 253 = .ok (.goto (-20), 3) := by decide +kernel
theorem dX7_carts_256 : decode cX7_carts 256 = .ok (.iload_n 3, 1) := by decide +kernel
theorem dX7_carts_257 : decode cX7_carts 257 = .ok (.ifCond .ne 11, 3) := by decide +kernel
theorem dX7_carts_260 : decode cX7_carts 260 = .ok (.iload 5, 2) := by decide +kernel
theorem dX7_carts_262 : decode cX7_carts 262 = .ok (.iload 7, 2) := by decide +kernel
theorem dX7_carts_264 : decode cX7_carts 264 = .ok (.idiv, 1) := by decide +kernel
theorem dX7_carts_265 : decode cX7_carts 265 = .ok (.goto 8, 3) := by decide +kernel
theorem dX7_carts_268 : decode cX7_carts 268 = .ok (.iload 6, 2) := by decide +kernel
theorem dX7_carts_270 : decode cX7_carts 270 = .ok (.iload 7, 2) := by decide +kernel
theorem dX7_carts_272 : decode cX7_carts 272 = .ok (.idiv, 1) := by decide +kernel
theorem dX7_carts_273 : decode cX7_carts 273 = .ok (.ireturn, 1) := by decide +kernel
theorem dX7_image_0 : decode cX7_image 0 = .ok (.iconst 0, 1) := by decide +kernel
theorem dX7_image_1 : decode cX7_image 1 = .ok (.istore_n 1, 1) := by decide +kernel
theorem dX7_image_2 : decode cX7_image 2 = .ok (.iload_n 1, 1) := by decide +kernel
theorem dX7_image_3 : decode cX7_image 3 = .ok (.bipush 49, 2) := by decide +kernel
theorem dX7_image_5 : decode cX7_image 5 = .ok (.if_icmp .ge 21, 3) := by decide +kernel
theorem dX7_image_8 : decode cX7_image 8 = .ok (.aload_n 0, 1) := by decide +kernel
theorem dX7_image_9 : decode cX7_image 9 = .ok (.getfield 43, 3) := by decide +kernel
theorem dX7_image_12 : decode cX7_image 12 = .ok (.iload_n 1, 1) := by decide +kernel
theorem dX7_image_13 : decode cX7_image 13 = .ok (.aload_n 0, 1) := by decide +kernel
theorem dX7_image_14 : decode cX7_image 14 = .ok (.getfield 7, 3) := by decide +kernel
theorem dX7_image_17 : decode cX7_image 17 = .ok (.iload_n 1, 1) := by decide +kernel
theorem dX7_image_18 : decode cX7_image 18 = .ok (.iaload, 1) := by decide +kernel
theorem dX7_image_19 : decode cX7_image 19 = .ok (.iastore, 1) := by decide +kernel
theorem dX7_image_20 : decode cX7_image 20 = .ok (.iinc 1 1, 3) := by decide +kernel
theorem dX7_image_23 : decode cX7_image 23 = .ok (.goto (-21), 3) := by decide +kernel
theorem dX7_image_26 : decode cX7_image 26 = .ok (.iconst 0, 1) := by decide +kernel
theorem dX7_image_27 : decode cX7_image 27 = .ok (.istore_n 1, 1) := by decide +kernel
theorem dX7_image_28 : decode cX7_image 28 = .ok (.iload_n 1, 1) := by decide +kernel
theorem dX7_image_29 : decode cX7_image 29 = .ok (.sipush 168, 3) := by decide +kernel
theorem dX7_image_32 : decode cX7_image 32 = .ok (.if_icmp .ge 24, 3) := by decide +kernel
theorem dX7_image_35 : decode cX7_image 35 = .ok (.aload_n 0, 1) := by decide +kernel
theorem dX7_image_36 : decode cX7_image 36 = .ok (.getfield 43, 3) := by decide +kernel
theorem dX7_image_39 : decode cX7_image 39 = .ok (.bipush 49, 2) := by decide +kernel
theorem dX7_image_41 : decode cX7_image 41 = .ok (.iload_n 1, 1) := by decide +kernel
theorem dX7_image_42 : decode cX7_image 42 = .ok (.iadd, 1) := by decide +kernel
theorem dX7_image_43 : decode cX7_image 43 = .ok (.aload_n 0, 1) := by decide +kernel
theorem dX7_image_44 : decode cX7_image 44 = .ok (.getfield 25, 3) := by decide +kernel
theorem dX7_image_47 : decode cX7_image 47 = .ok (.iload_n 1, 1) := by decide +kernel
theorem dX7_image_48 : decode cX7_image 48 = .ok (.iaload, 1) := by decide +kernel
theorem dX7_image_49 : decode cX7_image 49 = .ok (.iastore, 1) := by decide +kernel
theorem dX7_image_50 : decode cX7_image 50 = .ok (.iinc 1 1, 3) := by decide +kernel
theorem dX7_image_53 : decode cX7_image 53 = .ok (.goto (-25), 3) := by decide +kernel
theorem dX7_image_56 : decode cX7_image 56 = .ok (.aload_n 0, 1) := by decide +kernel
theorem dX7_image_57 : decode cX7_image 57 = .ok (.aload_n 0, 1) := by decide +kernel
theorem dX7_image_58 : decode cX7_image 58 = .ok (.getfield 109, 3) := by decide +kernel
theorem dX7_image_61 : decode cX7_image 61 = .ok (.putfield 224, 3) := by decide +kernel
theorem dX7_image_64 : decode cX7_image 64 = .ok (.aload_n 0, 1) := by decide +kernel
theorem dX7_image_65 : decode cX7_image 65 = .ok (.iconst 1, 1) := by decide +kernel
theorem dX7_image_66 : decode cX7_image 66 = .ok (.putfield 227, 3) := by decide +kernel
theorem dX7_image_69 : decode cX7_image 69 = .ok (.iconst 1, 1) := by decide +kernel
theorem dX7_image_70 : decode cX7_image 70 = .ok (.ireturn, 1) := by decide +kernel
theorem dX7_restore_0 : decode cX7_restore 0 = .ok (.aload_n 0, 1) := by decide +kernel
theorem dX7_restore_1 : decode cX7_restore 1 = .ok (.getfield 227, 3) := by decide +kernel
theorem dX7_restore_4 : decode cX7_restore 4 = .ok (.ifCond .ne 6, 3) := by decide +kernel
theorem dX7_restore_7 : decode cX7_restore 7 = .ok (.bipush (-4), 2) := by decide +kernel
theorem dX7_restore_9 : decode cX7_restore 9 = .ok (.ireturn, 1) := by decide +kernel
theorem dX7_restore_10 : decode cX7_restore 10 = .ok (.iconst 0, 1) := by decide +kernel
theorem dX7_restore_11 : decode cX7_restore 11 = .ok (.istore_n 1, 1) := by decide +kernel
theorem dX7_restore_12 : decode cX7_restore 12 = .ok (.iload_n 1, 1) := by decide +kernel
theorem dX7_restore_13 : decode cX7_restore 13 = .ok (.bipush 49, 2) := by decide +kernel
theorem dX7_restore_15 : decode cX7_restore 15 = .ok (.if_icmp .ge 21, 3) := by decide +kernel
theorem dX7_restore_18 : decode cX7_restore 18 = .ok (.aload_n 0, 1) := by decide +kernel
theorem dX7_restore_19 : decode cX7_restore 19 = .ok (.getfield 7, 3) := by decide +kernel
theorem dX7_restore_22 : decode cX7_restore 22 = .ok (.iload_n 1, 1) := by decide +kernel
theorem dX7_restore_23 : decode cX7_restore 23 = .ok (.aload_n 0, 1) := by decide +kernel
theorem dX7_restore_24 : decode cX7_restore 24 = .ok (.getfield 43, 3) := by decide +kernel
theorem dX7_restore_27 : decode cX7_restore 27 = .ok (.iload_n 1, 1) := by decide +kernel
theorem dX7_restore_28 : decode cX7_restore 28 = .ok (.iaload, 1) := by decide +kernel
theorem dX7_restore_29 : decode cX7_restore 29 = .ok (.iastore, 1) := by decide +kernel
theorem dX7_restore_30 : decode cX7_restore 30 = .ok (.iinc 1 1, 3) := by decide +kernel
theorem dX7_restore_33 : decode cX7_restore 33 = .ok (.goto (-21), 3) := by decide +kernel
theorem dX7_restore_36 : decode cX7_restore 36 = .ok (.iconst 0, 1) := by decide +kernel
theorem dX7_restore_37 : decode cX7_restore 37 = .ok (.istore_n 1, 1) := by decide +kernel
theorem dX7_restore_38 : decode cX7_restore 38 = .ok (.iload_n 1, 1) := by decide +kernel
theorem dX7_restore_39 : decode cX7_restore 39 = .ok (.sipush 168, 3) := by decide +kernel
theorem dX7_restore_42 : decode cX7_restore 42 = .ok (.if_icmp .ge 24, 3) := by decide +kernel
theorem dX7_restore_45 : decode cX7_restore 45 = .ok (.aload_n 0, 1) := by decide +kernel
theorem dX7_restore_46 : decode cX7_restore 46 = .ok (.getfield 25, 3) := by decide +kernel
theorem dX7_restore_49 : decode cX7_restore 49 = .ok (.iload_n 1, 1) := by decide +kernel
theorem dX7_restore_50 : decode cX7_restore 50 = .ok (.aload_n 0, 1) := by decide +kernel
theorem dX7_restore_51 : decode cX7_restore 51 = .ok (.getfield 43, 3) := by decide +kernel
theorem dX7_restore_54 : decode cX7_restore 54 = .ok (.bipush 49, 2) := by decide +kernel
theorem dX7_restore_56 : decode cX7_restore 56 = .ok (.iload_n 1, 1) := by decide +kernel
theorem dX7_restore_57 : decode cX7_restore 57 = .ok (.iadd, 1) := by decide +kernel
theorem dX7_restore_58 : decode cX7_restore 58 = .ok (.iaload, 1) := by decide +kernel
theorem dX7_restore_59 : decode cX7_restore 59 = .ok (.iastore, 1) := by decide +kernel
theorem dX7_restore_60 : decode cX7_restore 60 = .ok (.iinc 1 1, 3) := by decide +kernel
theorem dX7_restore_63 : decode cX7_restore 63 = .ok (.goto (-25), 3) := by decide +kernel
theorem dX7_restore_66 : decode cX7_restore 66 = .ok (.aload_n 0, 1) := by decide +kernel
theorem dX7_restore_67 : decode cX7_restore 67 = .ok (.aload_n 0, 1) := by decide +kernel
theorem dX7_restore_68 : decode cX7_restore 68 = .ok (.getfield 224, 3) := by decide +kernel
theorem dX7_restore_71 : decode cX7_restore 71 = .ok (.putfield 109, 3) := by decide +kernel
theorem dX7_restore_74 : decode cX7_restore 74 = .ok (.iconst 1, 1) := by decide +kernel
theorem dX7_restore_75 : decode cX7_restore 75 = .ok (.ireturn, 1) := by decide +kernel
theorem dX7_isSheet_0 : decode cX7_isSheet 0 = .ok (.iload_n 0, 1) := by decide +kernel
theorem dX7_isSheet_1 : decode cX7_isSheet 1 = .ok (.i2l, 1) := by decide +kernel
theorem dX7_isSheet_2 : decode cX7_isSheet 2 = .ok (.lconst 0, 1) := by decide +kernel
theorem dX7_isSheet_3 : decode cX7_isSheet 3 = .ok (.ldc2_w 230, 3) := by decide +kernel
theorem dX7_isSheet_6 : decode cX7_isSheet 6 = .ok (.invokestatic 59, 3) := by decide +kernel
theorem dX7_isSheet_9 : decode cX7_isSheet 9 = .ok (.ireturn, 1) := by decide +kernel
theorem dX7_isLane_0 : decode cX7_isLane 0 = .ok (.iload_n 0, 1) := by decide +kernel
theorem dX7_isLane_1 : decode cX7_isLane 1 = .ok (.i2l, 1) := by decide +kernel
theorem dX7_isLane_2 : decode cX7_isLane 2 = .ok (.lconst 0, 1) := by decide +kernel
theorem dX7_isLane_3 : decode cX7_isLane 3 = .ok (.ldc2_w 230, 3) := by decide +kernel
theorem dX7_isLane_6 : decode cX7_isLane 6 = .ok (.invokestatic 59, 3) := by decide +kernel
theorem dX7_isLane_9 : decode cX7_isLane 9 = .ok (.ireturn, 1) := by decide +kernel
theorem dX7_why_0 : decode cX7_why 0 = .ok (.aload_n 0, 1) := by decide +kernel
theorem dX7_why_1 : decode cX7_why 1 = .ok (.getfield 46, 3) := by decide +kernel
theorem dX7_why_4 : decode cX7_why 4 = .ok (.iload_n 1, 1) := by decide +kernel
theorem dX7_why_5 : decode cX7_why 5 = .ok (.iaload, 1) := by decide +kernel
theorem dX7_why_6 : decode cX7_why 6 = .ok (.ifCond .ge 6, 3) := by decide +kernel
theorem dX7_why_9 : decode cX7_why 9 = .ok (.bipush (-11), 2) := by decide +kernel
theorem dX7_why_11 : decode cX7_why 11 = .ok (.ireturn, 1) := by decide +kernel
theorem dX7_why_12 : decode cX7_why 12 = .ok (.aload_n 0, 1) := by decide +kernel
theorem dX7_why_13 : decode cX7_why 13 = .ok (.getfield 46, 3) := by decide +kernel
theorem dX7_why_16 : decode cX7_why 16 = .ok (.iload_n 1, 1) := by decide +kernel
theorem dX7_why_17 : decode cX7_why 17 = .ok (.iaload, 1) := by decide +kernel
theorem dX7_why_18 : decode cX7_why 18 = .ok (.iload_n 2, 1) := by decide +kernel
theorem dX7_why_19 : decode cX7_why 19 = .ok (.if_icmp .eq 6, 3) := by decide +kernel
theorem dX7_why_22 : decode cX7_why 22 = .ok (.bipush (-12), 2) := by decide +kernel
theorem dX7_why_24 : decode cX7_why 24 = .ok (.ireturn, 1) := by decide +kernel
theorem dX7_why_25 : decode cX7_why 25 = .ok (.iload_n 3, 1) := by decide +kernel
theorem dX7_why_26 : decode cX7_why 26 = .ok (.ifCond .lt 25, 3) := by decide +kernel
theorem dX7_why_29 : decode cX7_why 29 = .ok (.iload 4, 2) := by decide +kernel
theorem dX7_why_31 : decode cX7_why 31 = .ok (.ifCond .lt 20, 3) := by decide +kernel
theorem dX7_why_34 : decode cX7_why 34 = .ok (.iload_n 3, 1) := by decide +kernel
theorem dX7_why_35 : decode cX7_why 35 = .ok (.i2l, 1) := by decide +kernel
theorem dX7_why_36 : decode cX7_why 36 = .ok (.iload 4, 2) := by decide +kernel
theorem dX7_why_38 : decode cX7_why 38 = .ok (.i2l, 1) := by decide +kernel
theorem dX7_why_39 : decode cX7_why 39 = .ok (.ladd, 1) := by decide +kernel
theorem dX7_why_40 : decode cX7_why 40 = .ok (.aload_n 0, 1) := by decide +kernel
theorem dX7_why_41 : decode cX7_why 41 = .ok (.getfield 49, 3) := by decide +kernel
theorem dX7_why_44 : decode cX7_why 44 = .ok (.iload_n 1, 1) := by decide +kernel
theorem dX7_why_45 : decode cX7_why 45 = .ok (.iaload, 1) := by decide +kernel
theorem dX7_why_46 : decode cX7_why 46 = .ok (.i2l, 1) := by decide +kernel
theorem dX7_why_47 : decode cX7_why 47 = .ok (.lcmp, 1) := by decide +kernel
theorem dX7_why_48 : decode cX7_why 48 = .ok (.ifCond .le 8, 3) := by decide +kernel
theorem dX7_why_51 : decode cX7_why 51 = .ok (.bipush (-13), 2) := by decide +kernel
theorem dX7_why_53 : decode cX7_why 53 = .ok (.goto 4, 3) := by decide +kernel
theorem dX7_why_56 : decode cX7_why 56 = .ok (.iconst 0, 1) := by decide +kernel
theorem dX7_why_57 : decode cX7_why 57 = .ok (.ireturn, 1) := by decide +kernel
theorem dX7_isSo_0 : decode cX7_isSo 0 = .ok (.iconst 1, 1) := by decide +kernel
theorem dX7_isSo_1 : decode cX7_isSo 1 = .ok (.istore 4, 2) := by decide +kernel
theorem dX7_isSo_3 : decode cX7_isSo 3 = .ok (.iconst 0, 1) := by decide +kernel
theorem dX7_isSo_4 : decode cX7_isSo 4 = .ok (.istore 5, 2) := by decide +kernel
theorem dX7_isSo_6 : decode cX7_isSo 6 = .ok (.iload 5, 2) := by decide +kernel
theorem dX7_isSo_8 : decode cX7_isSo 8 = .ok (.iload_n 3, 1) := by decide +kernel
theorem dX7_isSo_9 : decode cX7_isSo 9 = .ok (.if_icmp .ge 44, 3) := by decide +kernel
theorem dX7_isSo_12 : decode cX7_isSo 12 = .ok (.aload_n 0, 1) := by decide +kernel
theorem dX7_isSo_13 : decode cX7_isSo 13 = .ok (.invokevirtual 106, 3) := by decide +kernel
theorem dX7_isSo_16 : decode cX7_isSo 16 = .ok (.iload 4, 2) := by decide +kernel
theorem dX7_isSo_18 : decode cX7_isSo 18 = .ok (.ifCond .eq 26, 3) := by decide +kernel
theorem dX7_isSo_21 : decode cX7_isSo 21 = .ok (.aload_n 0, 1) := by decide +kernel
theorem dX7_isSo_22 : decode cX7_isSo 22 = .ok (.iload_n 1, 1) := by decide +kernel
theorem dX7_isSo_23 : decode cX7_isSo 23 = .ok (.invokevirtual 78, 3) := by decide +kernel
theorem dX7_isSo_26 : decode cX7_isSo 26 = .ok (.i2l, 1) := by decide +kernel
theorem dX7_isSo_27 : decode cX7_isSo 27 = .ok (.aload_n 0, 1) := by decide +kernel
theorem dX7_isSo_28 : decode cX7_isSo 28 = .ok (.getfield 52, 3) := by decide +kernel
theorem dX7_isSo_31 : decode cX7_isSo 31 = .ok (.iload_n 2, 1) := by decide +kernel
theorem dX7_isSo_32 : decode cX7_isSo 32 = .ok (.iload 5, 2) := by decide +kernel
theorem dX7_isSo_34 : decode cX7_isSo 34 = .ok (.iadd, 1) := by decide +kernel
theorem dX7_isSo_35 : decode cX7_isSo 35 = .ok (.laload, 1) := by decide +kernel
theorem dX7_isSo_36 : decode cX7_isSo 36 = .ok (.lcmp, 1) := by decide +kernel
theorem dX7_isSo_37 : decode cX7_isSo 37 = .ok (.ifCond .ne 7, 3) := by decide +kernel
theorem dX7_isSo_40 : decode cX7_isSo 40 = .ok (.iconst 1, 1) := by decide +kernel
theorem dX7_isSo_41 : decode cX7_isSo 41 = .ok (.goto 4, 3) := by decide +kernel
theorem dX7_isSo_44 : decode cX7_isSo 44 = .ok (.iconst 0, 1) := by decide +kernel
theorem dX7_isSo_45 : decode cX7_isSo 45 = .ok (.istore 4, 2) := by decide +kernel
theorem dX7_isSo_47 : decode cX7_isSo 47 = .ok (.iinc 5 1, 3) := by decide +kernel
theorem dX7_isSo_50 : decode cX7_isSo 50 = .ok (.goto (-44), 3) := by decide +kernel
theorem dX7_isSo_53 : decode cX7_isSo 53 = .ok (.aload_n 0, 1) := by decide +kernel
theorem dX7_isSo_54 : decode cX7_isSo 54 = .ok (.invokevirtual 210, 3) := by decide +kernel
theorem dX7_isSo_57 : decode cX7_isSo 57 = .ok (.iload 4, 2) := by decide +kernel
theorem dX7_isSo_59 : decode cX7_isSo 59 = .ok (.ireturn, 1) := by decide +kernel
theorem dX7_dipped_0 : decode cX7_dipped 0 = .ok (.aload_n 0, 1) := by decide +kernel
theorem dX7_dipped_1 : decode cX7_dipped 1 = .ok (.iload_n 1, 1) := by decide +kernel
theorem dX7_dipped_2 : decode cX7_dipped 2 = .ok (.invokevirtual 74, 3) := by decide +kernel
theorem dX7_dipped_5 : decode cX7_dipped 5 = .ok (.ifCond .eq 43, 3) := by decide +kernel
theorem dX7_dipped_8 : decode cX7_dipped 8 = .ok (.iload_n 2, 1) := by decide +kernel
theorem dX7_dipped_9 : decode cX7_dipped 9 = .ok (.invokestatic 232, 3) := by decide +kernel
theorem dX7_dipped_12 : decode cX7_dipped 12 = .ok (.ifCond .eq 36, 3) := by decide +kernel
theorem dX7_dipped_15 : decode cX7_dipped 15 = .ok (.iload_n 3, 1) := by decide +kernel
theorem dX7_dipped_16 : decode cX7_dipped 16 = .ok (.invokestatic 235, 3) := by decide +kernel
theorem dX7_dipped_19 : decode cX7_dipped 19 = .ok (.ifCond .eq 29, 3) := by decide +kernel
theorem dX7_dipped_22 : decode cX7_dipped 22 = .ok (.iload 5, 2) := by decide +kernel
theorem dX7_dipped_24 : decode cX7_dipped 24 = .ok (.i2l, 1) := by decide +kernel
theorem dX7_dipped_25 : decode cX7_dipped 25 = .ok (.lconst 1, 1) := by decide +kernel
theorem dX7_dipped_26 : decode cX7_dipped 26 = .ok (.ldc2_w 238, 3) := by decide +kernel
theorem dX7_dipped_29 : decode cX7_dipped 29 = .ok (.invokestatic 59, 3) := by decide +kernel
theorem dX7_dipped_32 : decode cX7_dipped 32 = .ok (.ifCond .eq 16, 3) := by decide +kernel
theorem dX7_dipped_35 : decode cX7_dipped 35 = .ok (.iload 6, 2) := by decide +kernel
theorem dX7_dipped_37 : decode cX7_dipped 37 = .ok (.i2l, 1) := by decide +kernel
theorem dX7_dipped_38 : decode cX7_dipped 38 = .ok (.lconst 0, 1) := by decide +kernel
theorem dX7_dipped_39 : decode cX7_dipped 39 = .ok (.ldc2_w 240, 3) := by decide +kernel
theorem dX7_dipped_42 : decode cX7_dipped 42 = .ok (.invokestatic 59, 3) := by decide +kernel
theorem dX7_dipped_45 : decode cX7_dipped 45 = .ok (.ifCond .ne 5, 3) := by decide +kernel
theorem dX7_dipped_48 : decode cX7_dipped 48 = .ok (.iconst (-1), 1) := by decide +kernel
theorem dX7_dipped_49 : decode cX7_dipped 49 = .ok (.ireturn, 1) := by decide +kernel
theorem dX7_dipped_50 : decode cX7_dipped 50 = .ok (.aload_n 0, 1) := by decide +kernel
theorem dX7_dipped_51 : decode cX7_dipped 51 = .ok (.iload_n 2, 1) := by decide +kernel
theorem dX7_dipped_52 : decode cX7_dipped 52 = .ok (.iload_n 3, 1) := by decide +kernel
theorem dX7_dipped_53 : decode cX7_dipped 53 = .ok (.iload 4, 2) := by decide +kernel
theorem dX7_dipped_55 : decode cX7_dipped 55 = .ok (.iload 5, 2) := by decide +kernel
theorem dX7_dipped_57 : decode cX7_dipped 57 = .ok (.invokevirtual 242, 3) := by decide +kernel
theorem dX7_dipped_60 : decode cX7_dipped 60 = .ok (.istore 7, 2) := by decide +kernel
theorem dX7_dipped_62 : decode cX7_dipped 62 = .ok (.iload 7, 2) := by decide +kernel
theorem dX7_dipped_64 : decode cX7_dipped 64 = .ok (.ifCond .ge 6, 3) := by decide +kernel
theorem dX7_dipped_67 : decode cX7_dipped 67 = .ok (.iload 7, 2) := by decide +kernel
theorem dX7_dipped_69 : decode cX7_dipped 69 = .ok (.ireturn, 1) := by decide +kernel
theorem dX7_dipped_70 : decode cX7_dipped 70 = .ok (.iconst 0, 1) := by decide +kernel
theorem dX7_dipped_71 : decode cX7_dipped 71 = .ok (.istore 8, 2) := by decide +kernel
theorem dX7_dipped_73 : decode cX7_dipped 73 = .ok (.iconst 0, 1) := by decide +kernel
theorem dX7_dipped_74 : decode cX7_dipped 74 = .ok (.istore 9, 2) := by decide +kernel
theorem dX7_dipped_76 : decode cX7_dipped 76 = .ok (.bipush (-4), 2) := by decide +kernel
theorem dX7_dipped_78 : decode cX7_dipped 78 = .ok (.istore 10, 2) := by decide +kernel
theorem dX7_dipped_80 : decode cX7_dipped 80 = .ok (.iconst 4, 1) := by decide +kernel
theorem dX7_dipped_81 : decode cX7_dipped 81 = .ok (.iconst 3, 1) := by decide +kernel
theorem dX7_dipped_82 : decode cX7_dipped 82 = .ok (.iload_n 1, 1) := by decide +kernel
theorem dX7_dipped_83 : decode cX7_dipped 83 = .ok (.imul, 1) := by decide +kernel
theorem dX7_dipped_84 : decode cX7_dipped 84 = .ok (.iadd, 1) := by decide +kernel
theorem dX7_dipped_85 : decode cX7_dipped 85 = .ok (.iload 6, 2) := by decide +kernel
theorem dX7_dipped_87 : decode cX7_dipped 87 = .ok (.ifCond .ne 7, 3) := by decide +kernel
theorem dX7_dipped_90 : decode cX7_dipped 90 = .ok (.iconst 0, 1) := by decide +kernel
theorem dX7_dipped_91 : decode cX7_dipped 91 = .ok (.goto 4, 3) := by decide +kernel
theorem dX7_dipped_94 : decode cX7_dipped 94 = .ok (.iconst 2, 1) := by decide +kernel
theorem dX7_dipped_95 : decode cX7_dipped 95 = .ok (.iadd, 1) := by decide +kernel
theorem dX7_dipped_96 : decode cX7_dipped 96 = .ok (.istore 11, 2) := by decide +kernel
theorem dX7_dipped_98 : decode cX7_dipped 98 = .ok (.aload_n 0, 1) := by decide +kernel
theorem dX7_dipped_99 : decode cX7_dipped 99 = .ok (.invokevirtual 204, 3) := by decide +kernel
theorem dX7_dipped_102 : decode cX7_dipped 102 = .ok (.iconst 0, 1) := by decide +kernel
theorem dX7_dipped_103 : decode cX7_dipped 103 = .ok (.istore 12, 2) := by decide +kernel
theorem dX7_dipped_105 : decode cX7_dipped 105 = .ok (.iload 12, 2) := by decide +kernel
theorem dX7_dipped_107 : decode cX7_dipped 107 = .ok (.iload 6, 2) := by decide +kernel
theorem dX7_dipped_109 : decode cX7_dipped 109 = .ok (.ifCond .ne 7, 3) := by decide +kernel
theorem dX7_dipped_112 : decode cX7_dipped 112 = .ok (.iconst 5, 1) := by decide +kernel
theorem dX7_dipped_113 : decode cX7_dipped 113 = .ok (.goto 5, 3) := by decide +kernel
theorem dX7_dipped_116 : decode cX7_dipped 116 = .ok (.bipush 61, 2) := by decide +kernel
theorem dX7_dipped_118 : decode cX7_dipped 118 = .ok (.if_icmp .ge 91, 3) := by decide +kernel
theorem dX7_dipped_121 : decode cX7_dipped 121 = .ok (.aload_n 0, 1) := by decide +kernel
theorem dX7_dipped_122 : decode cX7_dipped 122 = .ok (.getfield 7, 3) := by decide +kernel
theorem dX7_dipped_125 : decode cX7_dipped 125 = .ok (.iload 11, 2) := by decide +kernel
theorem dX7_dipped_127 : decode cX7_dipped 127 = .ok (.iload 12, 2) := by decide +kernel
theorem dX7_dipped_129 : decode cX7_dipped 129 = .ok (.iastore, 1) := by decide +kernel
theorem dX7_dipped_130 : decode cX7_dipped 130 = .ok (.aload_n 0, 1) := by decide +kernel
theorem dX7_dipped_131 : decode cX7_dipped 131 = .ok (.iload_n 1, 1) := by decide +kernel
theorem dX7_dipped_132 : decode cX7_dipped 132 = .ok (.bipush 24, 2) := by decide +kernel
theorem dX7_dipped_134 : decode cX7_dipped 134 = .ok (.iload_n 2, 1) := by decide +kernel
theorem dX7_dipped_135 : decode cX7_dipped 135 = .ok (.imul, 1) := by decide +kernel
theorem dX7_dipped_136 : decode cX7_dipped 136 = .ok (.iload 4, 2) := by decide +kernel
theorem dX7_dipped_138 : decode cX7_dipped 138 = .ok (.iadd, 1) := by decide +kernel
theorem dX7_dipped_139 : decode cX7_dipped 139 = .ok (.iload 5, 2) := by decide +kernel
theorem dX7_dipped_141 : decode cX7_dipped 141 = .ok (.invokevirtual 245, 3) := by decide +kernel
theorem dX7_dipped_144 : decode cX7_dipped 144 = .ok (.istore 13, 2) := by decide +kernel
theorem dX7_dipped_146 : decode cX7_dipped 146 = .ok (.iload 8, 2) := by decide +kernel
theorem dX7_dipped_148 : decode cX7_dipped 148 = .ok (.iload 13, 2) := by decide +kernel
theorem dX7_dipped_150 : decode cX7_dipped 150 = .ok (.ifCond .eq 15, 3) := by decide +kernel
theorem dX7_dipped_153 : decode cX7_dipped 153 = .ok (.iload 6, 2) := by decide +kernel
theorem dX7_dipped_155 : decode cX7_dipped 155 = .ok (.ifCond .ne 10, 3) := by decide +kernel
theorem dX7_dipped_158 : decode cX7_dipped 158 = .ok (.iconst 1, 1) := by decide +kernel
theorem dX7_dipped_159 : decode cX7_dipped 159 = .ok (.iload 12, 2) := by decide +kernel
theorem dX7_dipped_161 : decode cX7_dipped 161 = .ok (.ishl, 1) := by decide +kernel
theorem dX7_dipped_162 : decode cX7_dipped 162 = .ok (.goto 4, 3) := by decide +kernel
theorem dX7_dipped_165 : decode cX7_dipped 165 = .ok (.iconst 0, 1) := by decide +kernel
theorem dX7_dipped_166 : decode cX7_dipped 166 = .ok (.ior, 1) := by decide +kernel
theorem dX7_dipped_167 : decode cX7_dipped 167 = .ok (.istore 8, 2) := by decide +kernel
theorem dX7_dipped_169 : decode cX7_dipped 169 = .ok (.iload 13, 2) := by decide +kernel
theorem dX7_dipped_171 : decode cX7_dipped 171 = .ok (.ifCond .eq 13, 3) := by decide +kernel
theorem dX7_dipped_174 : decode cX7_dipped 174 = .ok (.iload 9, 2) := by decide +kernel
theorem dX7_dipped_176 : decode cX7_dipped 176 = .ok (.ifCond .ne 8, 3) := by decide +kernel
theorem dX7_dipped_179 : decode cX7_dipped 179 = .ok (.iload 12, 2) := by decide +kernel
theorem dX7_dipped_181 : decode cX7_dipped 181 = .ok (.goto 5, 3) := by decide +kernel
theorem dX7_dipped_184 : decode cX7_dipped 184 = .ok (.iload 10, 2) := by decide +kernel
theorem dX7_dipped_186 : decode cX7_dipped 186 = .ok (.istore 10, 2) := by decide +kernel
theorem dX7_dipped_188 : decode cX7_dipped 188 = .ok (.iload 9, 2) := by decide +kernel
theorem dX7_dipped_190 : decode cX7_dipped 190 = .ok (.iload 13, 2) := by decide +kernel
theorem dX7_dipped_192 : decode cX7_dipped 192 = .ok (.ifCond .eq 7, 3) := by decide +kernel
theorem dX7_dipped_195 : decode cX7_dipped 195 = .ok (.iconst 1, 1) := by decide +kernel
theorem dX7_dipped_196 : decode cX7_dipped 196 = .ok (.goto 4, 3) := by decide +kernel
theorem dX7_dipped_199 : decode cX7_dipped 199 = .ok (.iconst 0, 1) := by decide +kernel
theorem dX7_dipped_200 : decode cX7_dipped 200 = .ok (.iadd, 1) := by decide +kernel
theorem dX7_dipped_201 : decode cX7_dipped 201 = .ok (.istore 9, 2) := by decide +kernel
theorem dX7_dipped_203 : decode cX7_dipped 203 = .ok (.iinc 12 1, 3) := by decide +kernel
theorem dX7_dipped_206 : decode cX7_dipped 206 = .ok (.goto (-101), 3) := by decide +kernel
theorem dX7_dipped_209 : decode cX7_dipped 209 = .ok (.iload 6, 2) := by decide +kernel
theorem dX7_dipped_211 : decode cX7_dipped 211 = .ok (.ifCond .ne 8, 3) := by decide +kernel
theorem dX7_dipped_214 : decode cX7_dipped 214 = .ok (.iload 8, 2) := by decide +kernel
theorem dX7_dipped_216 : decode cX7_dipped 216 = .ok (.goto 16, 3) := by decide +kernel
theorem dX7_dipped_219 : decode cX7_dipped 219 = .ok (.iload 6, 2) := by decide +kernel
theorem dX7_dipped_221 : decode cX7_dipped 221 = .ok (.iconst 1, 1) := by decide +kernel
theorem dX7_dipped_222 : decode cX7_dipped 222 = .ok (.if_icmp .ne 8, 3) := by decide +kernel
theorem dX7_dipped_225 : decode cX7_dipped 225 = .ok (.iload 9, 2) := by decide +kernel
theorem dX7_dipped_227 : decode cX7_dipped 227 = .ok (.goto 5, 3) := by decide +kernel
theorem dX7_dipped_230 : decode cX7_dipped 230 = .ok (.iload 10, 2) := by decide +kernel
theorem dX7_dipped_232 : decode cX7_dipped 232 = .ok (.ireturn, 1) := by decide +kernel
theorem dX7_film_0 : decode cX7_film 0 = .ok (.aload_n 0, 1) := by decide +kernel
theorem dX7_film_1 : decode cX7_film 1 = .ok (.iload_n 1, 1) := by decide +kernel
theorem dX7_film_2 : decode cX7_film 2 = .ok (.invokevirtual 74, 3) := by decide +kernel
theorem dX7_film_5 : decode cX7_film 5 = .ok (.ifCond .eq 30, 3) := by decide +kernel
theorem dX7_film_8 : decode cX7_film 8 = .ok (.iload_n 2, 1) := by decide +kernel
theorem dX7_film_9 : decode cX7_film 9 = .ok (.i2l, 1) := by decide +kernel
theorem dX7_film_10 : decode cX7_film 10 = .ok (.lconst 1, 1) := by decide +kernel
theorem dX7_film_11 : decode cX7_film 11 = .ok (.ldc2_w 249, 3) := by decide +kernel
theorem dX7_film_14 : decode cX7_film 14 = .ok (.invokestatic 59, 3) := by decide +kernel
theorem dX7_film_17 : decode cX7_film 17 = .ok (.ifCond .eq 18, 3) := by decide +kernel
theorem dX7_film_20 : decode cX7_film 20 = .ok (.iload_n 3, 1) := by decide +kernel
theorem dX7_film_21 : decode cX7_film 21 = .ok (.invokestatic 232, 3) := by decide +kernel
theorem dX7_film_24 : decode cX7_film 24 = .ok (.ifCond .eq 11, 3) := by decide +kernel
theorem dX7_film_27 : decode cX7_film 27 = .ok (.iload 4, 2) := by decide +kernel
theorem dX7_film_29 : decode cX7_film 29 = .ok (.invokestatic 235, 3) := by decide +kernel
theorem dX7_film_32 : decode cX7_film 32 = .ok (.ifCond .ne 5, 3) := by decide +kernel
theorem dX7_film_35 : decode cX7_film 35 = .ok (.iconst (-1), 1) := by decide +kernel
theorem dX7_film_36 : decode cX7_film 36 = .ok (.ireturn, 1) := by decide +kernel
theorem dX7_film_37 : decode cX7_film 37 = .ok (.aload_n 0, 1) := by decide +kernel
theorem dX7_film_38 : decode cX7_film 38 = .ok (.iload_n 3, 1) := by decide +kernel
theorem dX7_film_39 : decode cX7_film 39 = .ok (.iload 4, 2) := by decide +kernel
theorem dX7_film_41 : decode cX7_film 41 = .ok (.iload 5, 2) := by decide +kernel
theorem dX7_film_43 : decode cX7_film 43 = .ok (.iload_n 2, 1) := by decide +kernel
theorem dX7_film_44 : decode cX7_film 44 = .ok (.invokevirtual 242, 3) := by decide +kernel
theorem dX7_film_47 : decode cX7_film 47 = .ok (.istore 6, 2) := by decide +kernel
theorem dX7_film_49 : decode cX7_film 49 = .ok (.iload 6, 2) := by decide +kernel
theorem dX7_film_51 : decode cX7_film 51 = .ok (.ifCond .ge 6, 3) := by decide +kernel
theorem dX7_film_54 : decode cX7_film 54 = .ok (.iload 6, 2) := by decide +kernel
theorem dX7_film_56 : decode cX7_film 56 = .ok (.ireturn, 1) := by decide +kernel
theorem dX7_film_57 : decode cX7_film 57 = .ok (.aload_n 0, 1) := by decide +kernel
theorem dX7_film_58 : decode cX7_film 58 = .ok (.invokevirtual 204, 3) := by decide +kernel
theorem dX7_film_61 : decode cX7_film 61 = .ok (.iconst 0, 1) := by decide +kernel
theorem dX7_film_62 : decode cX7_film 62 = .ok (.istore 7, 2) := by decide +kernel
theorem dX7_film_64 : decode cX7_film 64 = .ok (.iload 7, 2) := by decide +kernel
theorem dX7_film_66 : decode cX7_film 66 = .ok (.iload_n 2, 1) := by decide +kernel
theorem dX7_film_67 : decode cX7_film 67 = .ok (.if_icmp .ge 34, 3) := by decide +kernel
theorem dX7_film_70 : decode cX7_film 70 = .ok (.aload_n 0, 1) := by decide +kernel
theorem dX7_film_71 : decode cX7_film 71 = .ok (.invokevirtual 106, 3) := by decide +kernel
theorem dX7_film_74 : decode cX7_film 74 = .ok (.aload_n 0, 1) := by decide +kernel
theorem dX7_film_75 : decode cX7_film 75 = .ok (.getfield 52, 3) := by decide +kernel
theorem dX7_film_78 : decode cX7_film 78 = .ok (.bipush 24, 2) := by decide +kernel
theorem dX7_film_80 : decode cX7_film 80 = .ok (.iload_n 3, 1) := by decide +kernel
theorem dX7_film_81 : decode cX7_film 81 = .ok (.imul, 1) := by decide +kernel
theorem dX7_film_82 : decode cX7_film 82 = .ok (.iload 5, 2) := by decide +kernel
theorem dX7_film_84 : decode cX7_film 84 = .ok (.iadd, 1) := by decide +kernel
theorem dX7_film_85 : decode cX7_film 85 = .ok (.iload 7, 2) := by decide +kernel
theorem dX7_film_87 : decode cX7_film 87 = .ok (.iadd, 1) := by decide +kernel
theorem dX7_film_88 : decode cX7_film 88 = .ok (.aload_n 0, 1) := by decide +kernel
theorem dX7_film_89 : decode cX7_film 89 = .ok (.iload_n 1, 1) := by decide +kernel
theorem dX7_film_90 : decode cX7_film 90 = .ok (.invokevirtual 78, 3) := by decide +kernel
theorem dX7_film_93 : decode cX7_film 93 = .ok (.i2l, 1) := by decide +kernel
theorem dX7_film_94 : decode cX7_film 94 = .ok (.lastore, 1) := by decide +kernel
theorem dX7_film_95 : decode cX7_film 95 = .ok (.iinc 7 1, 3) := by decide +kernel
theorem dX7_film_98 : decode cX7_film 98 = .ok (.goto (-34), 3) := by decide +kernel
theorem dX7_film_101 : decode cX7_film 101 = .ok (.aload_n 0, 1) := by decide +kernel
theorem dX7_film_102 : decode cX7_film 102 = .ok (.invokevirtual 210, 3) := by decide +kernel
theorem dX7_film_105 : decode cX7_film 105 = .ok (.iload_n 2, 1) := by decide +kernel
theorem dX7_film_106 : decode cX7_film 106 = .ok (.ireturn, 1) := by decide +kernel
theorem dX7_sheet_0 : decode cX7_sheet 0 = .ok (.iload_n 1, 1) := by decide +kernel
theorem dX7_sheet_1 : decode cX7_sheet 1 = .ok (.invokestatic 232, 3) := by decide +kernel
theorem dX7_sheet_4 : decode cX7_sheet 4 = .ok (.ifCond .eq 16, 3) := by decide +kernel
theorem dX7_sheet_7 : decode cX7_sheet 7 = .ok (.iload_n 2, 1) := by decide +kernel
theorem dX7_sheet_8 : decode cX7_sheet 8 = .ok (.invokestatic 235, 3) := by decide +kernel
theorem dX7_sheet_11 : decode cX7_sheet 11 = .ok (.ifCond .eq 9, 3) := by decide +kernel
theorem dX7_sheet_14 : decode cX7_sheet 14 = .ok (.iload_n 3, 1) := by decide +kernel
theorem dX7_sheet_15 : decode cX7_sheet 15 = .ok (.bipush 24, 2) := by decide +kernel
theorem dX7_sheet_17 : decode cX7_sheet 17 = .ok (.if_icmp .le 5, 3) := by decide +kernel
theorem dX7_sheet_20 : decode cX7_sheet 20 = .ok (.iconst (-1), 1) := by decide +kernel
theorem dX7_sheet_21 : decode cX7_sheet 21 = .ok (.ireturn, 1) := by decide +kernel
theorem dX7_sheet_22 : decode cX7_sheet 22 = .ok (.iload_n 3, 1) := by decide +kernel
theorem dX7_sheet_23 : decode cX7_sheet 23 = .ok (.ifCond .ge 6, 3) := by decide +kernel
theorem dX7_sheet_26 : decode cX7_sheet 26 = .ok (.bipush (-14), 2) := by decide +kernel
theorem dX7_sheet_28 : decode cX7_sheet 28 = .ok (.ireturn, 1) := by decide +kernel
theorem dX7_sheet_29 : decode cX7_sheet 29 = .ok (.aload_n 0, 1) := by decide +kernel
theorem dX7_sheet_30 : decode cX7_sheet 30 = .ok (.getfield 46, 3) := by decide +kernel
theorem dX7_sheet_33 : decode cX7_sheet 33 = .ok (.iload_n 1, 1) := by decide +kernel
theorem dX7_sheet_34 : decode cX7_sheet 34 = .ok (.iload_n 2, 1) := by decide +kernel
theorem dX7_sheet_35 : decode cX7_sheet 35 = .ok (.iastore, 1) := by decide +kernel
theorem dX7_sheet_36 : decode cX7_sheet 36 = .ok (.aload_n 0, 1) := by decide +kernel
theorem dX7_sheet_37 : decode cX7_sheet 37 = .ok (.getfield 49, 3) := by decide +kernel
theorem dX7_sheet_40 : decode cX7_sheet 40 = .ok (.iload_n 1, 1) := by decide +kernel
theorem dX7_sheet_41 : decode cX7_sheet 41 = .ok (.iload_n 3, 1) := by decide +kernel
theorem dX7_sheet_42 : decode cX7_sheet 42 = .ok (.iastore, 1) := by decide +kernel
theorem dX7_sheet_43 : decode cX7_sheet 43 = .ok (.iconst 0, 1) := by decide +kernel
theorem dX7_sheet_44 : decode cX7_sheet 44 = .ok (.istore 4, 2) := by decide +kernel
theorem dX7_sheet_46 : decode cX7_sheet 46 = .ok (.iload 4, 2) := by decide +kernel
theorem dX7_sheet_48 : decode cX7_sheet 48 = .ok (.bipush 24, 2) := by decide +kernel
theorem dX7_sheet_50 : decode cX7_sheet 50 = .ok (.if_icmp .ge 22, 3) := by decide +kernel
theorem dX7_sheet_53 : decode cX7_sheet 53 = .ok (.aload_n 0, 1) := by decide +kernel
theorem dX7_sheet_54 : decode cX7_sheet 54 = .ok (.getfield 52, 3) := by decide +kernel
theorem dX7_sheet_57 : decode cX7_sheet 57 = .ok (.bipush 24, 2) := by decide +kernel
theorem dX7_sheet_59 : decode cX7_sheet 59 = .ok (.iload_n 1, 1) := by decide +kernel
theorem dX7_sheet_60 : decode cX7_sheet 60 = .ok (.imul, 1) := by decide +kernel
theorem dX7_sheet_61 : decode cX7_sheet 61 = .ok (.iload 4, 2) := by decide +kernel
theorem dX7_sheet_63 : decode cX7_sheet 63 = .ok (.iadd, 1) := by decide +kernel
theorem dX7_sheet_64 : decode cX7_sheet 64 = .ok (.lconst 0, 1) := by decide +kernel
theorem dX7_sheet_65 : decode cX7_sheet 65 = .ok (.lastore, 1) := by decide +kernel
theorem dX7_sheet_66 : decode cX7_sheet 66 = .ok (.iinc 4 1, 3) := by decide +kernel
theorem dX7_sheet_69 : decode cX7_sheet 69 = .ok (.goto (-23), 3) := by decide +kernel
theorem dX7_sheet_72 : decode cX7_sheet 72 = .ok (.iload_n 3, 1) := by decide +kernel
theorem dX7_sheet_73 : decode cX7_sheet 73 = .ok (.ireturn, 1) := by decide +kernel
theorem dX7_drop_0 : decode cX7_drop 0 = .ok (.iload_n 1, 1) := by decide +kernel
theorem dX7_drop_1 : decode cX7_drop 1 = .ok (.invokestatic 232, 3) := by decide +kernel
theorem dX7_drop_4 : decode cX7_drop 4 = .ok (.ifCond .ne 5, 3) := by decide +kernel
theorem dX7_drop_7 : decode cX7_drop 7 = .ok (.iconst (-1), 1) := by decide +kernel
theorem dX7_drop_8 : decode cX7_drop 8 = .ok (.ireturn, 1) := by decide +kernel
theorem dX7_drop_9 : decode cX7_drop 9 = .ok (.aload_n 0, 1) := by decide +kernel
theorem dX7_drop_10 : decode cX7_drop 10 = .ok (.getfield 46, 3) := by decide +kernel
theorem dX7_drop_13 : decode cX7_drop 13 = .ok (.iload_n 1, 1) := by decide +kernel
theorem dX7_drop_14 : decode cX7_drop 14 = .ok (.iaload, 1) := by decide +kernel
theorem dX7_drop_15 : decode cX7_drop 15 = .ok (.ifCond .ge 6, 3) := by decide +kernel
theorem dX7_drop_18 : decode cX7_drop 18 = .ok (.bipush (-11), 2) := by decide +kernel
theorem dX7_drop_20 : decode cX7_drop 20 = .ok (.ireturn, 1) := by decide +kernel
theorem dX7_drop_21 : decode cX7_drop 21 = .ok (.aload_n 0, 1) := by decide +kernel
theorem dX7_drop_22 : decode cX7_drop 22 = .ok (.getfield 46, 3) := by decide +kernel
theorem dX7_drop_25 : decode cX7_drop 25 = .ok (.iload_n 1, 1) := by decide +kernel
theorem dX7_drop_26 : decode cX7_drop 26 = .ok (.iconst (-1), 1) := by decide +kernel
theorem dX7_drop_27 : decode cX7_drop 27 = .ok (.iastore, 1) := by decide +kernel
theorem dX7_drop_28 : decode cX7_drop 28 = .ok (.aload_n 0, 1) := by decide +kernel
theorem dX7_drop_29 : decode cX7_drop 29 = .ok (.getfield 49, 3) := by decide +kernel
theorem dX7_drop_32 : decode cX7_drop 32 = .ok (.iload_n 1, 1) := by decide +kernel
theorem dX7_drop_33 : decode cX7_drop 33 = .ok (.iaload, 1) := by decide +kernel
theorem dX7_drop_34 : decode cX7_drop 34 = .ok (.ireturn, 1) := by decide +kernel
theorem dX7_item_0 : decode cX7_item 0 = .ok (.iload_n 1, 1) := by decide +kernel
theorem dX7_item_1 : decode cX7_item 1 = .ok (.invokestatic 232, 3) := by decide +kernel
theorem dX7_item_4 : decode cX7_item 4 = .ok (.ifCond .eq 10, 3) := by decide +kernel
theorem dX7_item_7 : decode cX7_item 7 = .ok (.iload_n 2, 1) := by decide +kernel
theorem dX7_item_8 : decode cX7_item 8 = .ok (.invokestatic 235, 3) := by decide +kernel
theorem dX7_item_11 : decode cX7_item 11 = .ok (.ifCond .ne 5, 3) := by decide +kernel
theorem dX7_item_14 : decode cX7_item 14 = .ok (.iconst (-1), 1) := by decide +kernel
theorem dX7_item_15 : decode cX7_item 15 = .ok (.ireturn, 1) := by decide +kernel
theorem dX7_item_16 : decode cX7_item 16 = .ok (.aload_n 0, 1) := by decide +kernel
theorem dX7_item_17 : decode cX7_item 17 = .ok (.iload_n 1, 1) := by decide +kernel
theorem dX7_item_18 : decode cX7_item 18 = .ok (.iload_n 2, 1) := by decide +kernel
theorem dX7_item_19 : decode cX7_item 19 = .ok (.iload_n 3, 1) := by decide +kernel
theorem dX7_item_20 : decode cX7_item 20 = .ok (.iconst 1, 1) := by decide +kernel
theorem dX7_item_21 : decode cX7_item 21 = .ok (.invokevirtual 242, 3) := by decide +kernel
theorem dX7_item_24 : decode cX7_item 24 = .ok (.istore 6, 2) := by decide +kernel
theorem dX7_item_26 : decode cX7_item 26 = .ok (.iload 6, 2) := by decide +kernel
theorem dX7_item_28 : decode cX7_item 28 = .ok (.ifCond .ge 6, 3) := by decide +kernel
theorem dX7_item_31 : decode cX7_item 31 = .ok (.iload 6, 2) := by decide +kernel
theorem dX7_item_33 : decode cX7_item 33 = .ok (.ireturn, 1) := by decide +kernel
theorem dX7_item_34 : decode cX7_item 34 = .ok (.aload_n 0, 1) := by decide +kernel
theorem dX7_item_35 : decode cX7_item 35 = .ok (.getfield 52, 3) := by decide +kernel
theorem dX7_item_38 : decode cX7_item 38 = .ok (.bipush 24, 2) := by decide +kernel
theorem dX7_item_40 : decode cX7_item 40 = .ok (.iload_n 1, 1) := by decide +kernel
theorem dX7_item_41 : decode cX7_item 41 = .ok (.imul, 1) := by decide +kernel
theorem dX7_item_42 : decode cX7_item 42 = .ok (.iload_n 3, 1) := by decide +kernel
theorem dX7_item_43 : decode cX7_item 43 = .ok (.iadd, 1) := by decide +kernel
theorem dX7_item_44 : decode cX7_item 44 = .ok (.iload_n 2, 1) := by decide +kernel
theorem dX7_item_45 : decode cX7_item 45 = .ok (.ifCond .ne 11, 3) := by decide +kernel
theorem dX7_item_48 : decode cX7_item 48 = .ok (.lload 4, 2) := by decide +kernel
theorem dX7_item_50 : decode cX7_item 50 = .ok (.l2i, 1) := by decide +kernel
theorem dX7_item_51 : decode cX7_item 51 = .ok (.i2b, 1) := by decide +kernel
theorem dX7_item_52 : decode cX7_item 52 = .ok (.i2l, 1) := by decide +kernel
theorem dX7_item_53 : decode cX7_item 53 = .ok (.goto 30, 3) := by decide +kernel
theorem dX7_item_56 : decode cX7_item 56 = .ok (.iload_n 2, 1) := by decide +kernel
theorem dX7_item_57 : decode cX7_item 57 = .ok (.iconst 1, 1) := by decide +kernel
theorem dX7_item_58 : decode cX7_item 58 = .ok (.if_icmp .ne 11, 3) := by decide +kernel
theorem dX7_item_61 : decode cX7_item 61 = .ok (.lload 4, 2) := by decide +kernel
theorem dX7_item_63 : decode cX7_item 63 = .ok (.l2i, 1) := by decide +kernel
theorem dX7_item_64 : decode cX7_item 64 = .ok (.i2s, 1) := by decide +kernel
theorem dX7_item_65 : decode cX7_item 65 = .ok (.i2l, 1) := by decide +kernel
theorem dX7_item_66 : decode cX7_item 66 = .ok (.goto 17, 3) := by decide +kernel
theorem dX7_item_69 : decode cX7_item 69 = .ok (.iload_n 2, 1) := by decide +kernel
theorem dX7_item_70 : decode cX7_item 70 = .ok (.iconst 2, 1) := by decide +kernel
theorem dX7_item_71 : decode cX7_item 71 = .ok (.if_icmp .ne 10, 3) := by decide +kernel
theorem dX7_item_74 : decode cX7_item 74 = .ok (.lload 4, 2) := by decide +kernel
theorem dX7_item_76 : decode cX7_item 76 = .ok (.l2i, 1) := by decide +kernel
theorem dX7_item_77 : decode cX7_item 77 = .ok (.i2l, 1) := by decide +kernel
theorem dX7_item_78 : decode cX7_item 78 = .ok (.goto 5, 3) := by decide +kernel
theorem dX7_item_81 : decode cX7_item 81 = .ok (.lload 4, 2) := by decide +kernel
theorem dX7_item_83 : decode cX7_item 83 = .ok (.lastore, 1) := by decide +kernel
theorem dX7_item_84 : decode cX7_item 84 = .ok (.iconst 1, 1) := by decide +kernel
theorem dX7_item_85 : decode cX7_item 85 = .ok (.ireturn, 1) := by decide +kernel
theorem dX7_copy_0 : decode cX7_copy 0 = .ok (.iload_n 1, 1) := by decide +kernel
theorem dX7_copy_1 : decode cX7_copy 1 = .ok (.invokestatic 232, 3) := by decide +kernel
theorem dX7_copy_4 : decode cX7_copy 4 = .ok (.ifCond .eq 10, 3) := by decide +kernel
theorem dX7_copy_7 : decode cX7_copy 7 = .ok (.iload_n 3, 1) := by decide +kernel
theorem dX7_copy_8 : decode cX7_copy 8 = .ok (.invokestatic 232, 3) := by decide +kernel
theorem dX7_copy_11 : decode cX7_copy 11 = .ok (.ifCond .ne 5, 3) := by decide +kernel
theorem dX7_copy_14 : decode cX7_copy 14 = .ok (.iconst (-1), 1) := by decide +kernel
theorem dX7_copy_15 : decode cX7_copy 15 = .ok (.ireturn, 1) := by decide +kernel
theorem dX7_copy_16 : decode cX7_copy 16 = .ok (.aload_n 0, 1) := by decide +kernel
theorem dX7_copy_17 : decode cX7_copy 17 = .ok (.getfield 46, 3) := by decide +kernel
theorem dX7_copy_20 : decode cX7_copy 20 = .ok (.iload_n 1, 1) := by decide +kernel
theorem dX7_copy_21 : decode cX7_copy 21 = .ok (.iaload, 1) := by decide +kernel
theorem dX7_copy_22 : decode cX7_copy 22 = .ok (.ifCond .lt 12, 3) := by decide +kernel
theorem dX7_copy_25 : decode cX7_copy 25 = .ok (.aload_n 0, 1) := by decide +kernel
theorem dX7_copy_26 : decode cX7_copy 26 = .ok (.getfield 46, 3) := by decide +kernel
theorem dX7_copy_29 : decode cX7_copy 29 = .ok (.iload_n 3, 1) := by decide +kernel
theorem dX7_copy_30 : decode cX7_copy 30 = .ok (.iaload, 1) := by decide +kernel
theorem dX7_copy_31 : decode cX7_copy 31 = .ok (.ifCond .ge 6, 3) := by decide +kernel
theorem dX7_copy_34 : decode cX7_copy 34 = .ok (.bipush (-11), 2) := by decide +kernel
theorem dX7_copy_36 : decode cX7_copy 36 = .ok (.ireturn, 1) := by decide +kernel
theorem dX7_copy_37 : decode cX7_copy 37 = .ok (.aload_n 0, 1) := by decide +kernel
theorem dX7_copy_38 : decode cX7_copy 38 = .ok (.iload_n 3, 1) := by decide +kernel
theorem dX7_copy_39 : decode cX7_copy 39 = .ok (.aload_n 0, 1) := by decide +kernel
theorem dX7_copy_40 : decode cX7_copy 40 = .ok (.getfield 46, 3) := by decide +kernel
theorem dX7_copy_43 : decode cX7_copy 43 = .ok (.iload_n 1, 1) := by decide +kernel
theorem dX7_copy_44 : decode cX7_copy 44 = .ok (.iaload, 1) := by decide +kernel
theorem dX7_copy_45 : decode cX7_copy 45 = .ok (.iload 4, 2) := by decide +kernel
theorem dX7_copy_47 : decode cX7_copy 47 = .ok (.iload 5, 2) := by decide +kernel
theorem dX7_copy_49 : decode cX7_copy 49 = .ok (.invokevirtual 242, 3) := by decide +kernel
theorem dX7_copy_52 : decode cX7_copy 52 = .ok (.istore 6, 2) := by decide +kernel
theorem dX7_copy_54 : decode cX7_copy 54 = .ok (.iload 6, 2) := by decide +kernel
theorem dX7_copy_56 : decode cX7_copy 56 = .ok (.ifCond .ne 20, 3) := by decide +kernel
theorem dX7_copy_59 : decode cX7_copy 59 = .ok (.aload_n 0, 1) := by decide +kernel
theorem dX7_copy_60 : decode cX7_copy 60 = .ok (.iload_n 1, 1) := by decide +kernel
theorem dX7_copy_61 : decode cX7_copy 61 = .ok (.aload_n 0, 1) := by decide +kernel
theorem dX7_copy_62 : decode cX7_copy 62 = .ok (.getfield 46, 3) := by decide +kernel
theorem dX7_copy_65 : decode cX7_copy 65 = .ok (.iload_n 1, 1) := by decide +kernel
theorem dX7_copy_66 : decode cX7_copy 66 = .ok (.iaload, 1) := by decide +kernel
theorem dX7_copy_67 : decode cX7_copy 67 = .ok (.iload_n 2, 1) := by decide +kernel
theorem dX7_copy_68 : decode cX7_copy 68 = .ok (.iload 5, 2) := by decide +kernel
theorem dX7_copy_70 : decode cX7_copy 70 = .ok (.invokevirtual 242, 3) := by decide +kernel
theorem dX7_copy_73 : decode cX7_copy 73 = .ok (.goto 5, 3) := by decide +kernel
theorem dX7_copy_76 : decode cX7_copy 76 = .ok (.iload 6, 2) := by decide +kernel
theorem dX7_copy_78 : decode cX7_copy 78 = .ok (.istore 6, 2) := by decide +kernel
theorem dX7_copy_80 : decode cX7_copy 80 = .ok (.iload 6, 2) := by decide +kernel
theorem dX7_copy_82 : decode cX7_copy 82 = .ok (.ifCond .ge 6, 3) := by decide +kernel
theorem dX7_copy_85 : decode cX7_copy 85 = .ok (.iload 6, 2) := by decide +kernel
theorem dX7_copy_87 : decode cX7_copy 87 = .ok (.ireturn, 1) := by decide +kernel
theorem dX7_copy_88 : decode cX7_copy 88 = .ok (.iconst 0, 1) := by decide +kernel
theorem dX7_copy_89 : decode cX7_copy 89 = .ok (.istore 7, 2) := by decide +kernel
theorem dX7_copy_91 : decode cX7_copy 91 = .ok (.iload 7, 2) := by decide +kernel
theorem dX7_copy_93 : decode cX7_copy 93 = .ok (.iload 5, 2) := by decide +kernel
theorem dX7_copy_95 : decode cX7_copy 95 = .ok (.if_icmp .ge 30, 3) := by decide +kernel
theorem dX7_copy_98 : decode cX7_copy 98 = .ok (.aload_n 0, 1) := by decide +kernel
theorem dX7_copy_99 : decode cX7_copy 99 = .ok (.getfield 56, 3) := by decide +kernel
theorem dX7_copy_102 : decode cX7_copy 102 = .ok (.iload 7, 2) := by decide +kernel
theorem dX7_copy_104 : decode cX7_copy 104 = .ok (.aload_n 0, 1) := by decide +kernel
theorem dX7_copy_105 : decode cX7_copy 105 = .ok (.getfield 52, 3) := by decide +kernel
theorem dX7_copy_108 : decode cX7_copy 108 = .ok (.bipush 24, 2) := by decide +kernel
theorem dX7_copy_110 : decode cX7_copy 110 = .ok (.iload_n 1, 1) := by decide +kernel
theorem dX7_copy_111 : decode cX7_copy 111 = .ok (.imul, 1) := by decide +kernel
theorem dX7_copy_112 : decode cX7_copy 112 = .ok (.iload_n 2, 1) := by decide +kernel
theorem dX7_copy_113 : decode cX7_copy 113 = .ok (.iadd, 1) := by decide +kernel
theorem dX7_copy_114 : decode cX7_copy 114 = .ok (.iload 7, 2) := by decide +kernel
theorem dX7_copy_116 : decode cX7_copy 116 = .ok (.iadd, 1) := by decide +kernel
theorem dX7_copy_117 : decode cX7_copy 117 = .ok (.laload, 1) := by decide +kernel
theorem dX7_copy_118 : decode cX7_copy 118 = .ok (.lastore, 1) := by decide +kernel
theorem dX7_copy_119 : decode cX7_copy 119 = .ok (.iinc 7 1, 3) := by decide +kernel
theorem dX7_copy_122 : decode cX7_copy 122 = .ok (.goto (-31), 3) := by decide +kernel
theorem dX7_copy_125 : decode cX7_copy 125 = .ok (.iconst 0, 1) := by decide +kernel
theorem dX7_copy_126 : decode cX7_copy 126 = .ok (.istore 7, 2) := by decide +kernel
theorem dX7_copy_128 : decode cX7_copy 128 = .ok (.iload 7, 2) := by decide +kernel
theorem dX7_copy_130 : decode cX7_copy 130 = .ok (.iload 5, 2) := by decide +kernel
theorem dX7_copy_132 : decode cX7_copy 132 = .ok (.if_icmp .ge 31, 3) := by decide +kernel
theorem dX7_copy_135 : decode cX7_copy 135 = .ok (.aload_n 0, 1) := by decide +kernel
theorem dX7_copy_136 : decode cX7_copy 136 = .ok (.getfield 52, 3) := by decide +kernel
theorem dX7_copy_139 : decode cX7_copy 139 = .ok (.bipush 24, 2) := by decide +kernel
theorem dX7_copy_141 : decode cX7_copy 141 = .ok (.iload_n 3, 1) := by decide +kernel
theorem dX7_copy_142 : decode cX7_copy 142 = .ok (.imul, 1) := by decide +kernel
theorem dX7_copy_143 : decode cX7_copy 143 = .ok (.iload 4, 2) := by decide +kernel
theorem dX7_copy_145 : decode cX7_copy 145 = .ok (.iadd, 1) := by decide +kernel
theorem dX7_copy_146 : decode cX7_copy 146 = .ok (.iload 7, 2) := by decide +kernel
theorem dX7_copy_148 : decode cX7_copy 148 = .ok (.iadd, 1) := by decide +kernel
theorem dX7_copy_149 : decode cX7_copy 149 = .ok (.aload_n 0, 1) := by decide +kernel
theorem dX7_copy_150 : decode cX7_copy 150 = .ok (.getfield 56, 3) := by decide +kernel
theorem dX7_copy_153 : decode cX7_copy 153 = .ok (.iload 7, 2) := by decide +kernel
theorem dX7_copy_155 : decode cX7_copy 155 = .ok (.laload, 1) := by decide +kernel
theorem dX7_copy_156 : decode cX7_copy 156 = .ok (.lastore, 1) := by decide +kernel
theorem dX7_copy_157 : decode cX7_copy 157 = .ok (.iinc 7 1, 3) := by decide +kernel
theorem dX7_copy_160 : decode cX7_copy 160 = .ok (.goto (-32), 3) := by decide +kernel
theorem dX7_copy_163 : decode cX7_copy 163 = .ok (.iload 5, 2) := by decide +kernel
theorem dX7_copy_165 : decode cX7_copy 165 = .ok (.ireturn, 1) := by decide +kernel
end
section
theorem dL_law_0 : decode cL_law 0 = .ok (.new 7, 3) := by decide +kernel
theorem dL_law_3 : decode cL_law 3 = .ok (.dup, 1) := by decide +kernel
theorem dL_law_4 : decode cL_law 4 = .ok (.invokespecial 9, 3) := by decide +kernel
theorem dL_law_7 : decode cL_law 7 = .ok (.astore_n 1, 1) := by decide +kernel
theorem dL_law_8 : decode cL_law 8 = .ok (.new 10, 3) := by decide +kernel
theorem dL_law_11 : decode cL_law 11 = .ok (.dup, 1) := by decide +kernel
theorem dL_law_12 : decode cL_law 12 = .ok (.invokespecial 12, 3) := by decide +kernel
theorem dL_law_15 : decode cL_law 15 = .ok (.astore_n 2, 1) := by decide +kernel
theorem dL_law_16 : decode cL_law 16 = .ok (.iconst 0, 1) := by decide +kernel
theorem dL_law_17 : decode cL_law 17 = .ok (.istore_n 3, 1) := by decide +kernel
theorem dL_law_18 : decode cL_law 18 = .ok (.iload_n 3, 1) := by decide +kernel
theorem dL_law_19 : decode cL_law 19 = .ok (.aload_n 0, 1) := by decide +kernel
theorem dL_law_20 : decode cL_law 20 = .ok (.arraylength, 1) := by decide +kernel
theorem dL_law_21 : decode cL_law 21 = .ok (.bipush 7, 2) := by decide +kernel
theorem dL_law_23 : decode cL_law 23 = .ok (.isub, 1) := by decide +kernel
theorem dL_law_24 : decode cL_law 24 = .ok (.if_icmp .gt 1324, 3) := by decide +kernel
theorem dL_law_27 : decode cL_law 27 = .ok (.aload_n 0, 1) := by decide +kernel
theorem dL_law_28 : decode cL_law 28 = .ok (.iload_n 3, 1) := by decide +kernel
theorem dL_law_29 : decode cL_law 29 = .ok (.iaload, 1) := by decide +kernel
theorem dL_law_30 : decode cL_law 30 = .ok (.bipush 63, 2) := by decide +kernel
theorem dL_law_32 : decode cL_law 32 = .ok (.iand, 1) := by decide +kernel
theorem dL_law_33 : decode cL_law 33 = .ok (.tableswitch 1309 0 35 #[159, 202, 245, 278, 311, 344, 367, 380, 403, 426, 449, 472, 495, 528, 551, 564, 587, 620, 653, 676, 699, 722, 735, 758, 791, 814, 847, 890, 933, 946, 959, 1034, 1097, 1140, 1163, 1246], 159) := by decide +kernel
theorem dL_law_192 : decode cL_law 192 = .ok (.aload_n 1, 1) := by decide +kernel
theorem dL_law_193 : decode cL_law 193 = .ok (.aload_n 0, 1) := by decide +kernel
theorem dL_law_194 : decode cL_law 194 = .ok (.iload_n 3, 1) := by decide +kernel
theorem dL_law_195 : decode cL_law 195 = .ok (.iconst 1, 1) := by decide +kernel
theorem dL_law_196 : decode cL_law 196 = .ok (.iadd, 1) := by decide +kernel
theorem dL_law_197 : decode cL_law 197 = .ok (.iaload, 1) := by decide +kernel
theorem dL_law_198 : decode cL_law 198 = .ok (.aload_n 0, 1) := by decide +kernel
theorem dL_law_199 : decode cL_law 199 = .ok (.iload_n 3, 1) := by decide +kernel
theorem dL_law_200 : decode cL_law 200 = .ok (.iconst 2, 1) := by decide +kernel
theorem dL_law_201 : decode cL_law 201 = .ok (.iadd, 1) := by decide +kernel
theorem dL_law_202 : decode cL_law 202 = .ok (.iaload, 1) := by decide +kernel
theorem dL_law_203 : decode cL_law 203 = .ok (.aload_n 0, 1) := by decide +kernel
theorem dL_law_204 : decode cL_law 204 = .ok (.iload_n 3, 1) := by decide +kernel
theorem dL_law_205 : decode cL_law 205 = .ok (.iconst 3, 1) := by decide +kernel
theorem dL_law_206 : decode cL_law 206 = .ok (.iadd, 1) := by decide +kernel
theorem dL_law_207 : decode cL_law 207 = .ok (.iaload, 1) := by decide +kernel
theorem dL_law_208 : decode cL_law 208 = .ok (.invokevirtual 13, 3) := by decide +kernel
theorem dL_law_211 : decode cL_law 211 = .ok (.aload_n 2, 1) := by decide +kernel
theorem dL_law_212 : decode cL_law 212 = .ok (.aload_n 0, 1) := by decide +kernel
theorem dL_law_213 : decode cL_law 213 = .ok (.iload_n 3, 1) := by decide +kernel
theorem dL_law_214 : decode cL_law 214 = .ok (.iconst 1, 1) := by decide +kernel
theorem dL_law_215 : decode cL_law 215 = .ok (.iadd, 1) := by decide +kernel
theorem dL_law_216 : decode cL_law 216 = .ok (.iaload, 1) := by decide +kernel
theorem dL_law_217 : decode cL_law 217 = .ok (.aload_n 0, 1) := by decide +kernel
theorem dL_law_218 : decode cL_law 218 = .ok (.iload_n 3, 1) := by decide +kernel
theorem dL_law_219 : decode cL_law 219 = .ok (.iconst 2, 1) := by decide +kernel
theorem dL_law_220 : decode cL_law 220 = .ok (.iadd, 1) := by decide +kernel
theorem dL_law_221 : decode cL_law 221 = .ok (.iaload, 1) := by decide +kernel
theorem dL_law_222 : decode cL_law 222 = .ok (.aload_n 0, 1) := by decide +kernel
theorem dL_law_223 : decode cL_law 223 = .ok (.iload_n 3, 1) := by decide +kernel
theorem dL_law_224 : decode cL_law 224 = .ok (.iconst 3, 1) := by decide +kernel
theorem dL_law_225 : decode cL_law 225 = .ok (.iadd, 1) := by decide +kernel
theorem dL_law_226 : decode cL_law 226 = .ok (.iaload, 1) := by decide +kernel
theorem dL_law_227 : decode cL_law 227 = .ok (.invokevirtual 17, 3) := by decide +kernel
theorem dL_law_230 : decode cL_law 230 = .ok (.if_icmp .eq 1112, 3) := by decide +kernel
theorem dL_law_233 : decode cL_law 233 = .ok (.iconst 0, 1) := by decide +kernel
theorem dL_law_234 : decode cL_law 234 = .ok (.ireturn, 1) := by decide +kernel
theorem dL_law_235 : decode cL_law 235 = .ok (.aload_n 1, 1) := by decide +kernel
theorem dL_law_236 : decode cL_law 236 = .ok (.aload_n 0, 1) := by decide +kernel
theorem dL_law_237 : decode cL_law 237 = .ok (.iload_n 3, 1) := by decide +kernel
theorem dL_law_238 : decode cL_law 238 = .ok (.iconst 1, 1) := by decide +kernel
theorem dL_law_239 : decode cL_law 239 = .ok (.iadd, 1) := by decide +kernel
theorem dL_law_240 : decode cL_law 240 = .ok (.iaload, 1) := by decide +kernel
theorem dL_law_241 : decode cL_law 241 = .ok (.aload_n 0, 1) := by decide +kernel
theorem dL_law_242 : decode cL_law 242 = .ok (.iload_n 3, 1) := by decide +kernel
theorem dL_law_243 : decode cL_law 243 = .ok (.iconst 2, 1) := by decide +kernel
theorem dL_law_244 : decode cL_law 244 = .ok (.iadd, 1) := by decide +kernel
theorem dL_law_245 : decode cL_law 245 = .ok (.iaload, 1) := by decide +kernel
theorem dL_law_246 : decode cL_law 246 = .ok (.aload_n 0, 1) := by decide +kernel
theorem dL_law_247 : decode cL_law 247 = .ok (.iload_n 3, 1) := by decide +kernel
theorem dL_law_248 : decode cL_law 248 = .ok (.iconst 3, 1) := by decide +kernel
theorem dL_law_249 : decode cL_law 249 = .ok (.iadd, 1) := by decide +kernel
theorem dL_law_250 : decode cL_law 250 = .ok (.iaload, 1) := by decide +kernel
theorem dL_law_251 : decode cL_law 251 = .ok (.invokevirtual 18, 3) := by decide +kernel
theorem dL_law_254 : decode cL_law 254 = .ok (.aload_n 2, 1) := by decide +kernel
theorem dL_law_255 : decode cL_law 255 = .ok (.aload_n 0, 1) := by decide +kernel
theorem dL_law_256 : decode cL_law 256 = .ok (.iload_n 3, 1) := by decide +kernel
theorem dL_law_257 : decode cL_law 257 = .ok (.iconst 1, 1) := by decide +kernel
theorem dL_law_258 : decode cL_law 258 = .ok (.iadd, 1) := by decide +kernel
theorem dL_law_259 : decode cL_law 259 = .ok (.iaload, 1) := by decide +kernel
theorem dL_law_260 : decode cL_law 260 = .ok (.aload_n 0, 1) := by decide +kernel
theorem dL_law_261 : decode cL_law 261 = .ok (.iload_n 3, 1) := by decide +kernel
theorem dL_law_262 : decode cL_law 262 = .ok (.iconst 2, 1) := by decide +kernel
theorem dL_law_263 : decode cL_law 263 = .ok (.iadd, 1) := by decide +kernel
theorem dL_law_264 : decode cL_law 264 = .ok (.iaload, 1) := by decide +kernel
theorem dL_law_265 : decode cL_law 265 = .ok (.aload_n 0, 1) := by decide +kernel
theorem dL_law_266 : decode cL_law 266 = .ok (.iload_n 3, 1) := by decide +kernel
theorem dL_law_267 : decode cL_law 267 = .ok (.iconst 3, 1) := by decide +kernel
theorem dL_law_268 : decode cL_law 268 = .ok (.iadd, 1) := by decide +kernel
theorem dL_law_269 : decode cL_law 269 = .ok (.iaload, 1) := by decide +kernel
theorem dL_law_270 : decode cL_law 270 = .ok (.invokevirtual 21, 3) := by decide +kernel
theorem dL_law_273 : decode cL_law 273 = .ok (.if_icmp .eq 1069, 3) := by decide +kernel
theorem dL_law_276 : decode cL_law 276 = .ok (.iconst 0, 1) := by decide +kernel
theorem dL_law_277 : decode cL_law 277 = .ok (.ireturn, 1) := by decide +kernel
theorem dL_law_278 : decode cL_law 278 = .ok (.aload_n 1, 1) := by decide +kernel
theorem dL_law_279 : decode cL_law 279 = .ok (.aload_n 0, 1) := by decide +kernel
theorem dL_law_280 : decode cL_law 280 = .ok (.iload_n 3, 1) := by decide +kernel
theorem dL_law_281 : decode cL_law 281 = .ok (.iconst 1, 1) := by decide +kernel
theorem dL_law_282 : decode cL_law 282 = .ok (.iadd, 1) := by decide +kernel
theorem dL_law_283 : decode cL_law 283 = .ok (.iaload, 1) := by decide +kernel
theorem dL_law_284 : decode cL_law 284 = .ok (.aload_n 0, 1) := by decide +kernel
theorem dL_law_285 : decode cL_law 285 = .ok (.iload_n 3, 1) := by decide +kernel
theorem dL_law_286 : decode cL_law 286 = .ok (.iconst 2, 1) := by decide +kernel
theorem dL_law_287 : decode cL_law 287 = .ok (.iadd, 1) := by decide +kernel
theorem dL_law_288 : decode cL_law 288 = .ok (.iaload, 1) := by decide +kernel
theorem dL_law_289 : decode cL_law 289 = .ok (.invokevirtual 22, 3) := by decide +kernel
theorem dL_law_292 : decode cL_law 292 = .ok (.aload_n 2, 1) := by decide +kernel
theorem dL_law_293 : decode cL_law 293 = .ok (.aload_n 0, 1) := by decide +kernel
theorem dL_law_294 : decode cL_law 294 = .ok (.iload_n 3, 1) := by decide +kernel
theorem dL_law_295 : decode cL_law 295 = .ok (.iconst 1, 1) := by decide +kernel
theorem dL_law_296 : decode cL_law 296 = .ok (.iadd, 1) := by decide +kernel
theorem dL_law_297 : decode cL_law 297 = .ok (.iaload, 1) := by decide +kernel
theorem dL_law_298 : decode cL_law 298 = .ok (.aload_n 0, 1) := by decide +kernel
theorem dL_law_299 : decode cL_law 299 = .ok (.iload_n 3, 1) := by decide +kernel
theorem dL_law_300 : decode cL_law 300 = .ok (.iconst 2, 1) := by decide +kernel
theorem dL_law_301 : decode cL_law 301 = .ok (.iadd, 1) := by decide +kernel
theorem dL_law_302 : decode cL_law 302 = .ok (.iaload, 1) := by decide +kernel
theorem dL_law_303 : decode cL_law 303 = .ok (.invokevirtual 26, 3) := by decide +kernel
theorem dL_law_306 : decode cL_law 306 = .ok (.if_icmp .eq 1036, 3) := by decide +kernel
theorem dL_law_309 : decode cL_law 309 = .ok (.iconst 0, 1) := by decide +kernel
theorem dL_law_310 : decode cL_law 310 = .ok (.ireturn, 1) := by decide +kernel
theorem dL_law_311 : decode cL_law 311 = .ok (.aload_n 1, 1) := by decide +kernel
theorem dL_law_312 : decode cL_law 312 = .ok (.aload_n 0, 1) := by decide +kernel
theorem dL_law_313 : decode cL_law 313 = .ok (.iload_n 3, 1) := by decide +kernel
theorem dL_law_314 : decode cL_law 314 = .ok (.iconst 1, 1) := by decide +kernel
theorem dL_law_315 : decode cL_law 315 = .ok (.iadd, 1) := by decide +kernel
theorem dL_law_316 : decode cL_law 316 = .ok (.iaload, 1) := by decide +kernel
theorem dL_law_317 : decode cL_law 317 = .ok (.aload_n 0, 1) := by decide +kernel
theorem dL_law_318 : decode cL_law 318 = .ok (.iload_n 3, 1) := by decide +kernel
theorem dL_law_319 : decode cL_law 319 = .ok (.iconst 2, 1) := by decide +kernel
theorem dL_law_320 : decode cL_law 320 = .ok (.iadd, 1) := by decide +kernel
theorem dL_law_321 : decode cL_law 321 = .ok (.iaload, 1) := by decide +kernel
theorem dL_law_322 : decode cL_law 322 = .ok (.invokevirtual 27, 3) := by decide +kernel
theorem dL_law_325 : decode cL_law 325 = .ok (.aload_n 2, 1) := by decide +kernel
theorem dL_law_326 : decode cL_law 326 = .ok (.aload_n 0, 1) := by decide +kernel
theorem dL_law_327 : decode cL_law 327 = .ok (.iload_n 3, 1) := by decide +kernel
theorem dL_law_328 : decode cL_law 328 = .ok (.iconst 1, 1) := by decide +kernel
theorem dL_law_329 : decode cL_law 329 = .ok (.iadd, 1) := by decide +kernel
theorem dL_law_330 : decode cL_law 330 = .ok (.iaload, 1) := by decide +kernel
theorem dL_law_331 : decode cL_law 331 = .ok (.aload_n 0, 1) := by decide +kernel
theorem dL_law_332 : decode cL_law 332 = .ok (.iload_n 3, 1) := by decide +kernel
theorem dL_law_333 : decode cL_law 333 = .ok (.iconst 2, 1) := by decide +kernel
theorem dL_law_334 : decode cL_law 334 = .ok (.iadd, 1) := by decide +kernel
theorem dL_law_335 : decode cL_law 335 = .ok (.iaload, 1) := by decide +kernel
theorem dL_law_336 : decode cL_law 336 = .ok (.invokevirtual 30, 3) := by decide +kernel
theorem dL_law_339 : decode cL_law 339 = .ok (.if_icmp .eq 1003, 3) := by decide +kernel
theorem dL_law_342 : decode cL_law 342 = .ok (.iconst 0, 1) := by decide +kernel
theorem dL_law_343 : decode cL_law 343 = .ok (.ireturn, 1) := by decide +kernel
theorem dL_law_344 : decode cL_law 344 = .ok (.aload_n 1, 1) := by decide +kernel
theorem dL_law_345 : decode cL_law 345 = .ok (.aload_n 0, 1) := by decide +kernel
theorem dL_law_346 : decode cL_law 346 = .ok (.iload_n 3, 1) := by decide +kernel
theorem dL_law_347 : decode cL_law 347 = .ok (.iconst 1, 1) := by decide +kernel
theorem dL_law_348 : decode cL_law 348 = .ok (.iadd, 1) := by decide +kernel
theorem dL_law_349 : decode cL_law 349 = .ok (.iaload, 1) := by decide +kernel
theorem dL_law_350 : decode cL_law 350 = .ok (.aload_n 0, 1) := by decide +kernel
theorem dL_law_351 : decode cL_law 351 = .ok (.iload_n 3, 1) := by decide +kernel
theorem dL_law_352 : decode cL_law 352 = .ok (.iconst 2, 1) := by decide +kernel
theorem dL_law_353 : decode cL_law 353 = .ok (.iadd, 1) := by decide +kernel
theorem dL_law_354 : decode cL_law 354 = .ok (.iaload, 1) := by decide +kernel
theorem dL_law_355 : decode cL_law 355 = .ok (.invokevirtual 31, 3) := by decide +kernel
theorem dL_law_358 : decode cL_law 358 = .ok (.aload_n 2, 1) := by decide +kernel
theorem dL_law_359 : decode cL_law 359 = .ok (.aload_n 0, 1) := by decide +kernel
theorem dL_law_360 : decode cL_law 360 = .ok (.iload_n 3, 1) := by decide +kernel
theorem dL_law_361 : decode cL_law 361 = .ok (.iconst 1, 1) := by decide +kernel
theorem dL_law_362 : decode cL_law 362 = .ok (.iadd, 1) := by decide +kernel
theorem dL_law_363 : decode cL_law 363 = .ok (.iaload, 1) := by decide +kernel
theorem dL_law_364 : decode cL_law 364 = .ok (.aload_n 0, 1) := by decide +kernel
theorem dL_law_365 : decode cL_law 365 = .ok (.iload_n 3, 1) := by decide +kernel
theorem dL_law_366 : decode cL_law 366 = .ok (.iconst 2, 1) := by decide +kernel
theorem dL_law_367 : decode cL_law 367 = .ok (.iadd, 1) := by decide +kernel
theorem dL_law_368 : decode cL_law 368 = .ok (.iaload, 1) := by decide +kernel
theorem dL_law_369 : decode cL_law 369 = .ok (.invokevirtual 34, 3) := by decide +kernel
theorem dL_law_372 : decode cL_law 372 = .ok (.if_icmp .eq 970, 3) := by decide +kernel
theorem dL_law_375 : decode cL_law 375 = .ok (.iconst 0, 1) := by decide +kernel
theorem dL_law_376 : decode cL_law 376 = .ok (.ireturn, 1) := by decide +kernel
theorem dL_law_377 : decode cL_law 377 = .ok (.aload_n 1, 1) := by decide +kernel
theorem dL_law_378 : decode cL_law 378 = .ok (.aload_n 0, 1) := by decide +kernel
theorem dL_law_379 : decode cL_law 379 = .ok (.iload_n 3, 1) := by decide +kernel
theorem dL_law_380 : decode cL_law 380 = .ok (.iconst 1, 1) := by decide +kernel
theorem dL_law_381 : decode cL_law 381 = .ok (.iadd, 1) := by decide +kernel
theorem dL_law_382 : decode cL_law 382 = .ok (.iaload, 1) := by decide +kernel
theorem dL_law_383 : decode cL_law 383 = .ok (.invokevirtual 35, 3) := by decide +kernel
theorem dL_law_386 : decode cL_law 386 = .ok (.aload_n 2, 1) := by decide +kernel
theorem dL_law_387 : decode cL_law 387 = .ok (.aload_n 0, 1) := by decide +kernel
theorem dL_law_388 : decode cL_law 388 = .ok (.iload_n 3, 1) := by decide +kernel
theorem dL_law_389 : decode cL_law 389 = .ok (.iconst 1, 1) := by decide +kernel
theorem dL_law_390 : decode cL_law 390 = .ok (.iadd, 1) := by decide +kernel
theorem dL_law_391 : decode cL_law 391 = .ok (.iaload, 1) := by decide +kernel
theorem dL_law_392 : decode cL_law 392 = .ok (.invokevirtual 39, 3) := by decide +kernel
theorem dL_law_395 : decode cL_law 395 = .ok (.if_icmp .eq 947, 3) := by decide +kernel
theorem dL_law_398 : decode cL_law 398 = .ok (.iconst 0, 1) := by decide +kernel
theorem dL_law_399 : decode cL_law 399 = .ok (.ireturn, 1) := by decide +kernel
theorem dL_law_400 : decode cL_law 400 = .ok (.aload_n 1, 1) := by decide +kernel
theorem dL_law_401 : decode cL_law 401 = .ok (.invokevirtual 40, 3) := by decide +kernel
theorem dL_law_404 : decode cL_law 404 = .ok (.aload_n 2, 1) := by decide +kernel
theorem dL_law_405 : decode cL_law 405 = .ok (.invokevirtual 44, 3) := by decide +kernel
theorem dL_law_408 : decode cL_law 408 = .ok (.if_icmp .eq 934, 3) := by decide +kernel
theorem dL_law_411 : decode cL_law 411 = .ok (.iconst 0, 1) := by decide +kernel
theorem dL_law_412 : decode cL_law 412 = .ok (.ireturn, 1) := by decide +kernel
theorem dL_law_413 : decode cL_law 413 = .ok (.aload_n 1, 1) := by decide +kernel
theorem dL_law_414 : decode cL_law 414 = .ok (.aload_n 0, 1) := by decide +kernel
theorem dL_law_415 : decode cL_law 415 = .ok (.iload_n 3, 1) := by decide +kernel
theorem dL_law_416 : decode cL_law 416 = .ok (.iconst 1, 1) := by decide +kernel
theorem dL_law_417 : decode cL_law 417 = .ok (.iadd, 1) := by decide +kernel
theorem dL_law_418 : decode cL_law 418 = .ok (.iaload, 1) := by decide +kernel
theorem dL_law_419 : decode cL_law 419 = .ok (.invokevirtual 45, 3) := by decide +kernel
theorem dL_law_422 : decode cL_law 422 = .ok (.aload_n 2, 1) := by decide +kernel
theorem dL_law_423 : decode cL_law 423 = .ok (.aload_n 0, 1) := by decide +kernel
theorem dL_law_424 : decode cL_law 424 = .ok (.iload_n 3, 1) := by decide +kernel
theorem dL_law_425 : decode cL_law 425 = .ok (.iconst 1, 1) := by decide +kernel
theorem dL_law_426 : decode cL_law 426 = .ok (.iadd, 1) := by decide +kernel
theorem dL_law_427 : decode cL_law 427 = .ok (.iaload, 1) := by decide +kernel
theorem dL_law_428 : decode cL_law 428 = .ok (.invokevirtual 48, 3) := by decide +kernel
theorem dL_law_431 : decode cL_law 431 = .ok (.if_icmp .eq 911, 3) := by decide +kernel
theorem dL_law_434 : decode cL_law 434 = .ok (.iconst 0, 1) := by decide +kernel
theorem dL_law_435 : decode cL_law 435 = .ok (.ireturn, 1) := by decide +kernel
theorem dL_law_436 : decode cL_law 436 = .ok (.aload_n 1, 1) := by decide +kernel
theorem dL_law_437 : decode cL_law 437 = .ok (.aload_n 0, 1) := by decide +kernel
theorem dL_law_438 : decode cL_law 438 = .ok (.iload_n 3, 1) := by decide +kernel
theorem dL_law_439 : decode cL_law 439 = .ok (.iconst 1, 1) := by decide +kernel
theorem dL_law_440 : decode cL_law 440 = .ok (.iadd, 1) := by decide +kernel
theorem dL_law_441 : decode cL_law 441 = .ok (.iaload, 1) := by decide +kernel
theorem dL_law_442 : decode cL_law 442 = .ok (.invokevirtual 49, 3) := by decide +kernel
theorem dL_law_445 : decode cL_law 445 = .ok (.aload_n 2, 1) := by decide +kernel
theorem dL_law_446 : decode cL_law 446 = .ok (.aload_n 0, 1) := by decide +kernel
theorem dL_law_447 : decode cL_law 447 = .ok (.iload_n 3, 1) := by decide +kernel
theorem dL_law_448 : decode cL_law 448 = .ok (.iconst 1, 1) := by decide +kernel
theorem dL_law_449 : decode cL_law 449 = .ok (.iadd, 1) := by decide +kernel
theorem dL_law_450 : decode cL_law 450 = .ok (.iaload, 1) := by decide +kernel
theorem dL_law_451 : decode cL_law 451 = .ok (.invokevirtual 52, 3) := by decide +kernel
theorem dL_law_454 : decode cL_law 454 = .ok (.if_icmp .eq 888, 3) := by decide +kernel
theorem dL_law_457 : decode cL_law 457 = .ok (.iconst 0, 1) := by decide +kernel
theorem dL_law_458 : decode cL_law 458 = .ok (.ireturn, 1) := by decide +kernel
theorem dL_law_459 : decode cL_law 459 = .ok (.aload_n 1, 1) := by decide +kernel
theorem dL_law_460 : decode cL_law 460 = .ok (.aload_n 0, 1) := by decide +kernel
theorem dL_law_461 : decode cL_law 461 = .ok (.iload_n 3, 1) := by decide +kernel
theorem dL_law_462 : decode cL_law 462 = .ok (.iconst 1, 1) := by decide +kernel
theorem dL_law_463 : decode cL_law 463 = .ok (.iadd, 1) := by decide +kernel
theorem dL_law_464 : decode cL_law 464 = .ok (.iaload, 1) := by decide +kernel
theorem dL_law_465 : decode cL_law 465 = .ok (.invokevirtual 53, 3) := by decide +kernel
theorem dL_law_468 : decode cL_law 468 = .ok (.aload_n 2, 1) := by decide +kernel
theorem dL_law_469 : decode cL_law 469 = .ok (.aload_n 0, 1) := by decide +kernel
theorem dL_law_470 : decode cL_law 470 = .ok (.iload_n 3, 1) := by decide +kernel
theorem dL_law_471 : decode cL_law 471 = .ok (.iconst 1, 1) := by decide +kernel
theorem dL_law_472 : decode cL_law 472 = .ok (.iadd, 1) := by decide +kernel
theorem dL_law_473 : decode cL_law 473 = .ok (.iaload, 1) := by decide +kernel
theorem dL_law_474 : decode cL_law 474 = .ok (.invokevirtual 56, 3) := by decide +kernel
theorem dL_law_477 : decode cL_law 477 = .ok (.if_icmp .eq 865, 3) := by decide +kernel
theorem dL_law_480 : decode cL_law 480 = .ok (.iconst 0, 1) := by decide +kernel
theorem dL_law_481 : decode cL_law 481 = .ok (.ireturn, 1) := by decide +kernel
theorem dL_law_482 : decode cL_law 482 = .ok (.aload_n 1, 1) := by decide +kernel
theorem dL_law_483 : decode cL_law 483 = .ok (.aload_n 0, 1) := by decide +kernel
theorem dL_law_484 : decode cL_law 484 = .ok (.iload_n 3, 1) := by decide +kernel
theorem dL_law_485 : decode cL_law 485 = .ok (.iconst 1, 1) := by decide +kernel
theorem dL_law_486 : decode cL_law 486 = .ok (.iadd, 1) := by decide +kernel
theorem dL_law_487 : decode cL_law 487 = .ok (.iaload, 1) := by decide +kernel
theorem dL_law_488 : decode cL_law 488 = .ok (.invokevirtual 57, 3) := by decide +kernel
theorem dL_law_491 : decode cL_law 491 = .ok (.aload_n 2, 1) := by decide +kernel
theorem dL_law_492 : decode cL_law 492 = .ok (.aload_n 0, 1) := by decide +kernel
theorem dL_law_493 : decode cL_law 493 = .ok (.iload_n 3, 1) := by decide +kernel
theorem dL_law_494 : decode cL_law 494 = .ok (.iconst 1, 1) := by decide +kernel
theorem dL_law_495 : decode cL_law 495 = .ok (.iadd, 1) := by decide +kernel
theorem dL_law_496 : decode cL_law 496 = .ok (.iaload, 1) := by decide +kernel
theorem dL_law_497 : decode cL_law 497 = .ok (.invokevirtual 60, 3) := by decide +kernel
theorem dL_law_500 : decode cL_law 500 = .ok (.if_icmp .eq 842, 3) := by decide +kernel
theorem dL_law_503 : decode cL_law 503 = .ok (.iconst 0, 1) := by decide +kernel
theorem dL_law_504 : decode cL_law 504 = .ok (.ireturn, 1) := by decide +kernel
theorem dL_law_505 : decode cL_law 505 = .ok (.aload_n 1, 1) := by decide +kernel
theorem dL_law_506 : decode cL_law 506 = .ok (.aload_n 0, 1) := by decide +kernel
theorem dL_law_507 : decode cL_law 507 = .ok (.iload_n 3, 1) := by decide +kernel
theorem dL_law_508 : decode cL_law 508 = .ok (.iconst 1, 1) := by decide +kernel
theorem dL_law_509 : decode cL_law 509 = .ok (.iadd, 1) := by decide +kernel
theorem dL_law_510 : decode cL_law 510 = .ok (.iaload, 1) := by decide +kernel
theorem dL_law_511 : decode cL_law 511 = .ok (.invokevirtual 61, 3) := by decide +kernel
theorem dL_law_514 : decode cL_law 514 = .ok (.aload_n 2, 1) := by decide +kernel
theorem dL_law_515 : decode cL_law 515 = .ok (.aload_n 0, 1) := by decide +kernel
theorem dL_law_516 : decode cL_law 516 = .ok (.iload_n 3, 1) := by decide +kernel
theorem dL_law_517 : decode cL_law 517 = .ok (.iconst 1, 1) := by decide +kernel
theorem dL_law_518 : decode cL_law 518 = .ok (.iadd, 1) := by decide +kernel
theorem dL_law_519 : decode cL_law 519 = .ok (.iaload, 1) := by decide +kernel
theorem dL_law_520 : decode cL_law 520 = .ok (.invokevirtual 64, 3) := by decide +kernel
theorem dL_law_523 : decode cL_law 523 = .ok (.if_icmp .eq 819, 3) := by decide +kernel
theorem dL_law_526 : decode cL_law 526 = .ok (.iconst 0, 1) := by decide +kernel
theorem dL_law_527 : decode cL_law 527 = .ok (.ireturn, 1) := by decide +kernel
theorem dL_law_528 : decode cL_law 528 = .ok (.aload_n 1, 1) := by decide +kernel
theorem dL_law_529 : decode cL_law 529 = .ok (.aload_n 0, 1) := by decide +kernel
theorem dL_law_530 : decode cL_law 530 = .ok (.iload_n 3, 1) := by decide +kernel
theorem dL_law_531 : decode cL_law 531 = .ok (.iconst 1, 1) := by decide +kernel
theorem dL_law_532 : decode cL_law 532 = .ok (.iadd, 1) := by decide +kernel
theorem dL_law_533 : decode cL_law 533 = .ok (.iaload, 1) := by decide +kernel
theorem dL_law_534 : decode cL_law 534 = .ok (.aload_n 0, 1) := by decide +kernel
theorem dL_law_535 : decode cL_law 535 = .ok (.iload_n 3, 1) := by decide +kernel
theorem dL_law_536 : decode cL_law 536 = .ok (.iconst 2, 1) := by decide +kernel
theorem dL_law_537 : decode cL_law 537 = .ok (.iadd, 1) := by decide +kernel
theorem dL_law_538 : decode cL_law 538 = .ok (.iaload, 1) := by decide +kernel
theorem dL_law_539 : decode cL_law 539 = .ok (.invokevirtual 65, 3) := by decide +kernel
theorem dL_law_542 : decode cL_law 542 = .ok (.aload_n 2, 1) := by decide +kernel
theorem dL_law_543 : decode cL_law 543 = .ok (.aload_n 0, 1) := by decide +kernel
theorem dL_law_544 : decode cL_law 544 = .ok (.iload_n 3, 1) := by decide +kernel
theorem dL_law_545 : decode cL_law 545 = .ok (.iconst 1, 1) := by decide +kernel
theorem dL_law_546 : decode cL_law 546 = .ok (.iadd, 1) := by decide +kernel
theorem dL_law_547 : decode cL_law 547 = .ok (.iaload, 1) := by decide +kernel
theorem dL_law_548 : decode cL_law 548 = .ok (.aload_n 0, 1) := by decide +kernel
theorem dL_law_549 : decode cL_law 549 = .ok (.iload_n 3, 1) := by decide +kernel
theorem dL_law_550 : decode cL_law 550 = .ok (.iconst 2, 1) := by decide +kernel
theorem dL_law_551 : decode cL_law 551 = .ok (.iadd, 1) := by decide +kernel
theorem dL_law_552 : decode cL_law 552 = .ok (.iaload, 1) := by decide +kernel
theorem dL_law_553 : decode cL_law 553 = .ok (.invokevirtual 68, 3) := by decide +kernel
theorem dL_law_556 : decode cL_law 556 = .ok (.if_icmp .eq 786, 3) := by decide +kernel
theorem dL_law_559 : decode cL_law 559 = .ok (.iconst 0, 1) := by decide +kernel
theorem dL_law_560 : decode cL_law 560 = .ok (.ireturn, 1) := by decide +kernel
theorem dL_law_561 : decode cL_law 561 = .ok (.aload_n 1, 1) := by decide +kernel
theorem dL_law_562 : decode cL_law 562 = .ok (.aload_n 0, 1) := by decide +kernel
theorem dL_law_563 : decode cL_law 563 = .ok (.iload_n 3, 1) := by decide +kernel
theorem dL_law_564 : decode cL_law 564 = .ok (.iconst 1, 1) := by decide +kernel
theorem dL_law_565 : decode cL_law 565 = .ok (.iadd, 1) := by decide +kernel
theorem dL_law_566 : decode cL_law 566 = .ok (.iaload, 1) := by decide +kernel
theorem dL_law_567 : decode cL_law 567 = .ok (.invokevirtual 69, 3) := by decide +kernel
theorem dL_law_570 : decode cL_law 570 = .ok (.aload_n 2, 1) := by decide +kernel
theorem dL_law_571 : decode cL_law 571 = .ok (.aload_n 0, 1) := by decide +kernel
theorem dL_law_572 : decode cL_law 572 = .ok (.iload_n 3, 1) := by decide +kernel
theorem dL_law_573 : decode cL_law 573 = .ok (.iconst 1, 1) := by decide +kernel
theorem dL_law_574 : decode cL_law 574 = .ok (.iadd, 1) := by decide +kernel
theorem dL_law_575 : decode cL_law 575 = .ok (.iaload, 1) := by decide +kernel
theorem dL_law_576 : decode cL_law 576 = .ok (.invokevirtual 72, 3) := by decide +kernel
theorem dL_law_579 : decode cL_law 579 = .ok (.if_icmp .eq 763, 3) := by decide +kernel
theorem dL_law_582 : decode cL_law 582 = .ok (.iconst 0, 1) := by decide +kernel
theorem dL_law_583 : decode cL_law 583 = .ok (.ireturn, 1) := by decide +kernel
theorem dL_law_584 : decode cL_law 584 = .ok (.aload_n 1, 1) := by decide +kernel
theorem dL_law_585 : decode cL_law 585 = .ok (.invokevirtual 73, 3) := by decide +kernel
theorem dL_law_588 : decode cL_law 588 = .ok (.aload_n 2, 1) := by decide +kernel
theorem dL_law_589 : decode cL_law 589 = .ok (.invokevirtual 76, 3) := by decide +kernel
theorem dL_law_592 : decode cL_law 592 = .ok (.if_icmp .eq 750, 3) := by decide +kernel
theorem dL_law_595 : decode cL_law 595 = .ok (.iconst 0, 1) := by decide +kernel
theorem dL_law_596 : decode cL_law 596 = .ok (.ireturn, 1) := by decide +kernel
theorem dL_law_597 : decode cL_law 597 = .ok (.aload_n 1, 1) := by decide +kernel
theorem dL_law_598 : decode cL_law 598 = .ok (.aload_n 0, 1) := by decide +kernel
theorem dL_law_599 : decode cL_law 599 = .ok (.iload_n 3, 1) := by decide +kernel
theorem dL_law_600 : decode cL_law 600 = .ok (.iconst 1, 1) := by decide +kernel
theorem dL_law_601 : decode cL_law 601 = .ok (.iadd, 1) := by decide +kernel
theorem dL_law_602 : decode cL_law 602 = .ok (.iaload, 1) := by decide +kernel
theorem dL_law_603 : decode cL_law 603 = .ok (.invokevirtual 77, 3) := by decide +kernel
theorem dL_law_606 : decode cL_law 606 = .ok (.aload_n 2, 1) := by decide +kernel
theorem dL_law_607 : decode cL_law 607 = .ok (.aload_n 0, 1) := by decide +kernel
theorem dL_law_608 : decode cL_law 608 = .ok (.iload_n 3, 1) := by decide +kernel
theorem dL_law_609 : decode cL_law 609 = .ok (.iconst 1, 1) := by decide +kernel
theorem dL_law_610 : decode cL_law 610 = .ok (.iadd, 1) := by decide +kernel
theorem dL_law_611 : decode cL_law 611 = .ok (.iaload, 1) := by decide +kernel
theorem dL_law_612 : decode cL_law 612 = .ok (.invokevirtual 80, 3) := by decide +kernel
theorem dL_law_615 : decode cL_law 615 = .ok (.if_icmp .eq 727, 3) := by decide +kernel
theorem dL_law_618 : decode cL_law 618 = .ok (.iconst 0, 1) := by decide +kernel
theorem dL_law_619 : decode cL_law 619 = .ok (.ireturn, 1) := by decide +kernel
theorem dL_law_620 : decode cL_law 620 = .ok (.aload_n 1, 1) := by decide +kernel
theorem dL_law_621 : decode cL_law 621 = .ok (.aload_n 0, 1) := by decide +kernel
theorem dL_law_622 : decode cL_law 622 = .ok (.iload_n 3, 1) := by decide +kernel
theorem dL_law_623 : decode cL_law 623 = .ok (.iconst 1, 1) := by decide +kernel
theorem dL_law_624 : decode cL_law 624 = .ok (.iadd, 1) := by decide +kernel
theorem dL_law_625 : decode cL_law 625 = .ok (.iaload, 1) := by decide +kernel
theorem dL_law_626 : decode cL_law 626 = .ok (.aload_n 0, 1) := by decide +kernel
theorem dL_law_627 : decode cL_law 627 = .ok (.iload_n 3, 1) := by decide +kernel
theorem dL_law_628 : decode cL_law 628 = .ok (.iconst 2, 1) := by decide +kernel
theorem dL_law_629 : decode cL_law 629 = .ok (.iadd, 1) := by decide +kernel
theorem dL_law_630 : decode cL_law 630 = .ok (.iaload, 1) := by decide +kernel
theorem dL_law_631 : decode cL_law 631 = .ok (.invokevirtual 81, 3) := by decide +kernel
theorem dL_law_634 : decode cL_law 634 = .ok (.aload_n 2, 1) := by decide +kernel
theorem dL_law_635 : decode cL_law 635 = .ok (.aload_n 0, 1) := by decide +kernel
theorem dL_law_636 : decode cL_law 636 = .ok (.iload_n 3, 1) := by decide +kernel
theorem dL_law_637 : decode cL_law 637 = .ok (.iconst 1, 1) := by decide +kernel
theorem dL_law_638 : decode cL_law 638 = .ok (.iadd, 1) := by decide +kernel
theorem dL_law_639 : decode cL_law 639 = .ok (.iaload, 1) := by decide +kernel
theorem dL_law_640 : decode cL_law 640 = .ok (.aload_n 0, 1) := by decide +kernel
theorem dL_law_641 : decode cL_law 641 = .ok (.iload_n 3, 1) := by decide +kernel
theorem dL_law_642 : decode cL_law 642 = .ok (.iconst 2, 1) := by decide +kernel
theorem dL_law_643 : decode cL_law 643 = .ok (.iadd, 1) := by decide +kernel
theorem dL_law_644 : decode cL_law 644 = .ok (.iaload, 1) := by decide +kernel
theorem dL_law_645 : decode cL_law 645 = .ok (.invokevirtual 84, 3) := by decide +kernel
theorem dL_law_648 : decode cL_law 648 = .ok (.if_icmp .eq 694, 3) := by decide +kernel
theorem dL_law_651 : decode cL_law 651 = .ok (.iconst 0, 1) := by decide +kernel
theorem dL_law_652 : decode cL_law 652 = .ok (.ireturn, 1) := by decide +kernel
theorem dL_law_653 : decode cL_law 653 = .ok (.aload_n 1, 1) := by decide +kernel
theorem dL_law_654 : decode cL_law 654 = .ok (.aload_n 0, 1) := by decide +kernel
theorem dL_law_655 : decode cL_law 655 = .ok (.iload_n 3, 1) := by decide +kernel
theorem dL_law_656 : decode cL_law 656 = .ok (.iconst 1, 1) := by decide +kernel
theorem dL_law_657 : decode cL_law 657 = .ok (.iadd, 1) := by decide +kernel
theorem dL_law_658 : decode cL_law 658 = .ok (.iaload, 1) := by decide +kernel
theorem dL_law_659 : decode cL_law 659 = .ok (.aload_n 0, 1) := by decide +kernel
theorem dL_law_660 : decode cL_law 660 = .ok (.iload_n 3, 1) := by decide +kernel
theorem dL_law_661 : decode cL_law 661 = .ok (.iconst 2, 1) := by decide +kernel
theorem dL_law_662 : decode cL_law 662 = .ok (.iadd, 1) := by decide +kernel
theorem dL_law_663 : decode cL_law 663 = .ok (.iaload, 1) := by decide +kernel
theorem dL_law_664 : decode cL_law 664 = .ok (.invokevirtual 85, 3) := by decide +kernel
theorem dL_law_667 : decode cL_law 667 = .ok (.aload_n 2, 1) := by decide +kernel
theorem dL_law_668 : decode cL_law 668 = .ok (.aload_n 0, 1) := by decide +kernel
theorem dL_law_669 : decode cL_law 669 = .ok (.iload_n 3, 1) := by decide +kernel
theorem dL_law_670 : decode cL_law 670 = .ok (.iconst 1, 1) := by decide +kernel
theorem dL_law_671 : decode cL_law 671 = .ok (.iadd, 1) := by decide +kernel
theorem dL_law_672 : decode cL_law 672 = .ok (.iaload, 1) := by decide +kernel
theorem dL_law_673 : decode cL_law 673 = .ok (.aload_n 0, 1) := by decide +kernel
theorem dL_law_674 : decode cL_law 674 = .ok (.iload_n 3, 1) := by decide +kernel
theorem dL_law_675 : decode cL_law 675 = .ok (.iconst 2, 1) := by decide +kernel
theorem dL_law_676 : decode cL_law 676 = .ok (.iadd, 1) := by decide +kernel
theorem dL_law_677 : decode cL_law 677 = .ok (.iaload, 1) := by decide +kernel
theorem dL_law_678 : decode cL_law 678 = .ok (.invokevirtual 88, 3) := by decide +kernel
theorem dL_law_681 : decode cL_law 681 = .ok (.if_icmp .eq 661, 3) := by decide +kernel
theorem dL_law_684 : decode cL_law 684 = .ok (.iconst 0, 1) := by decide +kernel
theorem dL_law_685 : decode cL_law 685 = .ok (.ireturn, 1) := by decide +kernel
theorem dL_law_686 : decode cL_law 686 = .ok (.aload_n 1, 1) := by decide +kernel
theorem dL_law_687 : decode cL_law 687 = .ok (.aload_n 0, 1) := by decide +kernel
theorem dL_law_688 : decode cL_law 688 = .ok (.iload_n 3, 1) := by decide +kernel
theorem dL_law_689 : decode cL_law 689 = .ok (.iconst 1, 1) := by decide +kernel
theorem dL_law_690 : decode cL_law 690 = .ok (.iadd, 1) := by decide +kernel
theorem dL_law_691 : decode cL_law 691 = .ok (.iaload, 1) := by decide +kernel
theorem dL_law_692 : decode cL_law 692 = .ok (.invokevirtual 89, 3) := by decide +kernel
theorem dL_law_695 : decode cL_law 695 = .ok (.aload_n 2, 1) := by decide +kernel
theorem dL_law_696 : decode cL_law 696 = .ok (.aload_n 0, 1) := by decide +kernel
theorem dL_law_697 : decode cL_law 697 = .ok (.iload_n 3, 1) := by decide +kernel
theorem dL_law_698 : decode cL_law 698 = .ok (.iconst 1, 1) := by decide +kernel
theorem dL_law_699 : decode cL_law 699 = .ok (.iadd, 1) := by decide +kernel
theorem dL_law_700 : decode cL_law 700 = .ok (.iaload, 1) := by decide +kernel
theorem dL_law_701 : decode cL_law 701 = .ok (.invokevirtual 92, 3) := by decide +kernel
theorem dL_law_704 : decode cL_law 704 = .ok (.if_icmp .eq 638, 3) := by decide +kernel
theorem dL_law_707 : decode cL_law 707 = .ok (.iconst 0, 1) := by decide +kernel
theorem dL_law_708 : decode cL_law 708 = .ok (.ireturn, 1) := by decide +kernel
theorem dL_law_709 : decode cL_law 709 = .ok (.aload_n 1, 1) := by decide +kernel
theorem dL_law_710 : decode cL_law 710 = .ok (.aload_n 0, 1) := by decide +kernel
theorem dL_law_711 : decode cL_law 711 = .ok (.iload_n 3, 1) := by decide +kernel
theorem dL_law_712 : decode cL_law 712 = .ok (.iconst 1, 1) := by decide +kernel
theorem dL_law_713 : decode cL_law 713 = .ok (.iadd, 1) := by decide +kernel
theorem dL_law_714 : decode cL_law 714 = .ok (.iaload, 1) := by decide +kernel
theorem dL_law_715 : decode cL_law 715 = .ok (.invokevirtual 93, 3) := by decide +kernel
theorem dL_law_718 : decode cL_law 718 = .ok (.aload_n 2, 1) := by decide +kernel
theorem dL_law_719 : decode cL_law 719 = .ok (.aload_n 0, 1) := by decide +kernel
theorem dL_law_720 : decode cL_law 720 = .ok (.iload_n 3, 1) := by decide +kernel
theorem dL_law_721 : decode cL_law 721 = .ok (.iconst 1, 1) := by decide +kernel
theorem dL_law_722 : decode cL_law 722 = .ok (.iadd, 1) := by decide +kernel
theorem dL_law_723 : decode cL_law 723 = .ok (.iaload, 1) := by decide +kernel
theorem dL_law_724 : decode cL_law 724 = .ok (.invokevirtual 96, 3) := by decide +kernel
theorem dL_law_727 : decode cL_law 727 = .ok (.if_icmp .eq 615, 3) := by decide +kernel
theorem dL_law_730 : decode cL_law 730 = .ok (.iconst 0, 1) := by decide +kernel
theorem dL_law_731 : decode cL_law 731 = .ok (.ireturn, 1) := by decide +kernel
theorem dL_law_732 : decode cL_law 732 = .ok (.aload_n 1, 1) := by decide +kernel
theorem dL_law_733 : decode cL_law 733 = .ok (.aload_n 0, 1) := by decide +kernel
theorem dL_law_734 : decode cL_law 734 = .ok (.iload_n 3, 1) := by decide +kernel
theorem dL_law_735 : decode cL_law 735 = .ok (.iconst 1, 1) := by decide +kernel
theorem dL_law_736 : decode cL_law 736 = .ok (.iadd, 1) := by decide +kernel
theorem dL_law_737 : decode cL_law 737 = .ok (.iaload, 1) := by decide +kernel
theorem dL_law_738 : decode cL_law 738 = .ok (.invokevirtual 97, 3) := by decide +kernel
theorem dL_law_741 : decode cL_law 741 = .ok (.aload_n 2, 1) := by decide +kernel
theorem dL_law_742 : decode cL_law 742 = .ok (.aload_n 0, 1) := by decide +kernel
theorem dL_law_743 : decode cL_law 743 = .ok (.iload_n 3, 1) := by decide +kernel
theorem dL_law_744 : decode cL_law 744 = .ok (.iconst 1, 1) := by decide +kernel
theorem dL_law_745 : decode cL_law 745 = .ok (.iadd, 1) := by decide +kernel
theorem dL_law_746 : decode cL_law 746 = .ok (.iaload, 1) := by decide +kernel
theorem dL_law_747 : decode cL_law 747 = .ok (.invokevirtual 100, 3) := by decide +kernel
theorem dL_law_750 : decode cL_law 750 = .ok (.if_icmp .eq 592, 3) := by decide +kernel
theorem dL_law_753 : decode cL_law 753 = .ok (.iconst 0, 1) := by decide +kernel
theorem dL_law_754 : decode cL_law 754 = .ok (.ireturn, 1) := by decide +kernel
theorem dL_law_755 : decode cL_law 755 = .ok (.aload_n 1, 1) := by decide +kernel
theorem dL_law_756 : decode cL_law 756 = .ok (.invokevirtual 101, 3) := by decide +kernel
theorem dL_law_759 : decode cL_law 759 = .ok (.aload_n 2, 1) := by decide +kernel
theorem dL_law_760 : decode cL_law 760 = .ok (.invokevirtual 104, 3) := by decide +kernel
theorem dL_law_763 : decode cL_law 763 = .ok (.if_icmp .eq 579, 3) := by decide +kernel
theorem dL_law_766 : decode cL_law 766 = .ok (.iconst 0, 1) := by decide +kernel
theorem dL_law_767 : decode cL_law 767 = .ok (.ireturn, 1) := by decide +kernel
theorem dL_law_768 : decode cL_law 768 = .ok (.aload_n 1, 1) := by decide +kernel
theorem dL_law_769 : decode cL_law 769 = .ok (.aload_n 0, 1) := by decide +kernel
theorem dL_law_770 : decode cL_law 770 = .ok (.iload_n 3, 1) := by decide +kernel
theorem dL_law_771 : decode cL_law 771 = .ok (.iconst 1, 1) := by decide +kernel
theorem dL_law_772 : decode cL_law 772 = .ok (.iadd, 1) := by decide +kernel
theorem dL_law_773 : decode cL_law 773 = .ok (.iaload, 1) := by decide +kernel
theorem dL_law_774 : decode cL_law 774 = .ok (.invokevirtual 105, 3) := by decide +kernel
theorem dL_law_777 : decode cL_law 777 = .ok (.aload_n 2, 1) := by decide +kernel
theorem dL_law_778 : decode cL_law 778 = .ok (.aload_n 0, 1) := by decide +kernel
theorem dL_law_779 : decode cL_law 779 = .ok (.iload_n 3, 1) := by decide +kernel
theorem dL_law_780 : decode cL_law 780 = .ok (.iconst 1, 1) := by decide +kernel
theorem dL_law_781 : decode cL_law 781 = .ok (.iadd, 1) := by decide +kernel
theorem dL_law_782 : decode cL_law 782 = .ok (.iaload, 1) := by decide +kernel
theorem dL_law_783 : decode cL_law 783 = .ok (.invokevirtual 108, 3) := by decide +kernel
theorem dL_law_786 : decode cL_law 786 = .ok (.if_icmp .eq 556, 3) := by decide +kernel
theorem dL_law_789 : decode cL_law 789 = .ok (.iconst 0, 1) := by decide +kernel
theorem dL_law_790 : decode cL_law 790 = .ok (.ireturn, 1) := by decide +kernel
theorem dL_law_791 : decode cL_law 791 = .ok (.aload_n 1, 1) := by decide +kernel
theorem dL_law_792 : decode cL_law 792 = .ok (.aload_n 0, 1) := by decide +kernel
theorem dL_law_793 : decode cL_law 793 = .ok (.iload_n 3, 1) := by decide +kernel
theorem dL_law_794 : decode cL_law 794 = .ok (.iconst 1, 1) := by decide +kernel
theorem dL_law_795 : decode cL_law 795 = .ok (.iadd, 1) := by decide +kernel
theorem dL_law_796 : decode cL_law 796 = .ok (.iaload, 1) := by decide +kernel
theorem dL_law_797 : decode cL_law 797 = .ok (.aload_n 0, 1) := by decide +kernel
theorem dL_law_798 : decode cL_law 798 = .ok (.iload_n 3, 1) := by decide +kernel
theorem dL_law_799 : decode cL_law 799 = .ok (.iconst 2, 1) := by decide +kernel
theorem dL_law_800 : decode cL_law 800 = .ok (.iadd, 1) := by decide +kernel
theorem dL_law_801 : decode cL_law 801 = .ok (.iaload, 1) := by decide +kernel
theorem dL_law_802 : decode cL_law 802 = .ok (.invokevirtual 109, 3) := by decide +kernel
theorem dL_law_805 : decode cL_law 805 = .ok (.aload_n 2, 1) := by decide +kernel
theorem dL_law_806 : decode cL_law 806 = .ok (.aload_n 0, 1) := by decide +kernel
theorem dL_law_807 : decode cL_law 807 = .ok (.iload_n 3, 1) := by decide +kernel
theorem dL_law_808 : decode cL_law 808 = .ok (.iconst 1, 1) := by decide +kernel
theorem dL_law_809 : decode cL_law 809 = .ok (.iadd, 1) := by decide +kernel
theorem dL_law_810 : decode cL_law 810 = .ok (.iaload, 1) := by decide +kernel
theorem dL_law_811 : decode cL_law 811 = .ok (.aload_n 0, 1) := by decide +kernel
theorem dL_law_812 : decode cL_law 812 = .ok (.iload_n 3, 1) := by decide +kernel
theorem dL_law_813 : decode cL_law 813 = .ok (.iconst 2, 1) := by decide +kernel
theorem dL_law_814 : decode cL_law 814 = .ok (.iadd, 1) := by decide +kernel
theorem dL_law_815 : decode cL_law 815 = .ok (.iaload, 1) := by decide +kernel
theorem dL_law_816 : decode cL_law 816 = .ok (.invokevirtual 112, 3) := by decide +kernel
theorem dL_law_819 : decode cL_law 819 = .ok (.if_icmp .eq 523, 3) := by decide +kernel
theorem dL_law_822 : decode cL_law 822 = .ok (.iconst 0, 1) := by decide +kernel
theorem dL_law_823 : decode cL_law 823 = .ok (.ireturn, 1) := by decide +kernel
theorem dL_law_824 : decode cL_law 824 = .ok (.aload_n 1, 1) := by decide +kernel
theorem dL_law_825 : decode cL_law 825 = .ok (.aload_n 0, 1) := by decide +kernel
theorem dL_law_826 : decode cL_law 826 = .ok (.iload_n 3, 1) := by decide +kernel
theorem dL_law_827 : decode cL_law 827 = .ok (.iconst 1, 1) := by decide +kernel
theorem dL_law_828 : decode cL_law 828 = .ok (.iadd, 1) := by decide +kernel
theorem dL_law_829 : decode cL_law 829 = .ok (.iaload, 1) := by decide +kernel
theorem dL_law_830 : decode cL_law 830 = .ok (.invokevirtual 113, 3) := by decide +kernel
theorem dL_law_833 : decode cL_law 833 = .ok (.aload_n 2, 1) := by decide +kernel
theorem dL_law_834 : decode cL_law 834 = .ok (.aload_n 0, 1) := by decide +kernel
theorem dL_law_835 : decode cL_law 835 = .ok (.iload_n 3, 1) := by decide +kernel
theorem dL_law_836 : decode cL_law 836 = .ok (.iconst 1, 1) := by decide +kernel
theorem dL_law_837 : decode cL_law 837 = .ok (.iadd, 1) := by decide +kernel
theorem dL_law_838 : decode cL_law 838 = .ok (.iaload, 1) := by decide +kernel
theorem dL_law_839 : decode cL_law 839 = .ok (.invokevirtual 116, 3) := by decide +kernel
theorem dL_law_842 : decode cL_law 842 = .ok (.if_icmp .eq 500, 3) := by decide +kernel
theorem dL_law_845 : decode cL_law 845 = .ok (.iconst 0, 1) := by decide +kernel
theorem dL_law_846 : decode cL_law 846 = .ok (.ireturn, 1) := by decide +kernel
theorem dL_law_847 : decode cL_law 847 = .ok (.aload_n 1, 1) := by decide +kernel
theorem dL_law_848 : decode cL_law 848 = .ok (.aload_n 0, 1) := by decide +kernel
theorem dL_law_849 : decode cL_law 849 = .ok (.iload_n 3, 1) := by decide +kernel
theorem dL_law_850 : decode cL_law 850 = .ok (.iconst 1, 1) := by decide +kernel
theorem dL_law_851 : decode cL_law 851 = .ok (.iadd, 1) := by decide +kernel
theorem dL_law_852 : decode cL_law 852 = .ok (.iaload, 1) := by decide +kernel
theorem dL_law_853 : decode cL_law 853 = .ok (.aload_n 0, 1) := by decide +kernel
theorem dL_law_854 : decode cL_law 854 = .ok (.iload_n 3, 1) := by decide +kernel
theorem dL_law_855 : decode cL_law 855 = .ok (.iconst 2, 1) := by decide +kernel
theorem dL_law_856 : decode cL_law 856 = .ok (.iadd, 1) := by decide +kernel
theorem dL_law_857 : decode cL_law 857 = .ok (.iaload, 1) := by decide +kernel
theorem dL_law_858 : decode cL_law 858 = .ok (.invokevirtual 117, 3) := by decide +kernel
theorem dL_law_861 : decode cL_law 861 = .ok (.aload_n 2, 1) := by decide +kernel
theorem dL_law_862 : decode cL_law 862 = .ok (.aload_n 0, 1) := by decide +kernel
theorem dL_law_863 : decode cL_law 863 = .ok (.iload_n 3, 1) := by decide +kernel
theorem dL_law_864 : decode cL_law 864 = .ok (.iconst 1, 1) := by decide +kernel
theorem dL_law_865 : decode cL_law 865 = .ok (.iadd, 1) := by decide +kernel
theorem dL_law_866 : decode cL_law 866 = .ok (.iaload, 1) := by decide +kernel
theorem dL_law_867 : decode cL_law 867 = .ok (.aload_n 0, 1) := by decide +kernel
theorem dL_law_868 : decode cL_law 868 = .ok (.iload_n 3, 1) := by decide +kernel
theorem dL_law_869 : decode cL_law 869 = .ok (.iconst 2, 1) := by decide +kernel
theorem dL_law_870 : decode cL_law 870 = .ok (.iadd, 1) := by decide +kernel
theorem dL_law_871 : decode cL_law 871 = .ok (.iaload, 1) := by decide +kernel
theorem dL_law_872 : decode cL_law 872 = .ok (.invokevirtual 120, 3) := by decide +kernel
theorem dL_law_875 : decode cL_law 875 = .ok (.if_icmp .eq 467, 3) := by decide +kernel
theorem dL_law_878 : decode cL_law 878 = .ok (.iconst 0, 1) := by decide +kernel
theorem dL_law_879 : decode cL_law 879 = .ok (.ireturn, 1) := by decide +kernel
theorem dL_law_880 : decode cL_law 880 = .ok (.aload_n 1, 1) := by decide +kernel
theorem dL_law_881 : decode cL_law 881 = .ok (.aload_n 0, 1) := by decide +kernel
theorem dL_law_882 : decode cL_law 882 = .ok (.iload_n 3, 1) := by decide +kernel
theorem dL_law_883 : decode cL_law 883 = .ok (.iconst 1, 1) := by decide +kernel
theorem dL_law_884 : decode cL_law 884 = .ok (.iadd, 1) := by decide +kernel
theorem dL_law_885 : decode cL_law 885 = .ok (.iaload, 1) := by decide +kernel
theorem dL_law_886 : decode cL_law 886 = .ok (.aload_n 0, 1) := by decide +kernel
theorem dL_law_887 : decode cL_law 887 = .ok (.iload_n 3, 1) := by decide +kernel
theorem dL_law_888 : decode cL_law 888 = .ok (.iconst 2, 1) := by decide +kernel
theorem dL_law_889 : decode cL_law 889 = .ok (.iadd, 1) := by decide +kernel
theorem dL_law_890 : decode cL_law 890 = .ok (.iaload, 1) := by decide +kernel
theorem dL_law_891 : decode cL_law 891 = .ok (.aload_n 0, 1) := by decide +kernel
theorem dL_law_892 : decode cL_law 892 = .ok (.iload_n 3, 1) := by decide +kernel
theorem dL_law_893 : decode cL_law 893 = .ok (.iconst 3, 1) := by decide +kernel
theorem dL_law_894 : decode cL_law 894 = .ok (.iadd, 1) := by decide +kernel
theorem dL_law_895 : decode cL_law 895 = .ok (.iaload, 1) := by decide +kernel
theorem dL_law_896 : decode cL_law 896 = .ok (.invokevirtual 121, 3) := by decide +kernel
theorem dL_law_899 : decode cL_law 899 = .ok (.aload_n 2, 1) := by decide +kernel
theorem dL_law_900 : decode cL_law 900 = .ok (.aload_n 0, 1) := by decide +kernel
theorem dL_law_901 : decode cL_law 901 = .ok (.iload_n 3, 1) := by decide +kernel
theorem dL_law_902 : decode cL_law 902 = .ok (.iconst 1, 1) := by decide +kernel
theorem dL_law_903 : decode cL_law 903 = .ok (.iadd, 1) := by decide +kernel
theorem dL_law_904 : decode cL_law 904 = .ok (.iaload, 1) := by decide +kernel
theorem dL_law_905 : decode cL_law 905 = .ok (.aload_n 0, 1) := by decide +kernel
theorem dL_law_906 : decode cL_law 906 = .ok (.iload_n 3, 1) := by decide +kernel
theorem dL_law_907 : decode cL_law 907 = .ok (.iconst 2, 1) := by decide +kernel
theorem dL_law_908 : decode cL_law 908 = .ok (.iadd, 1) := by decide +kernel
theorem dL_law_909 : decode cL_law 909 = .ok (.iaload, 1) := by decide +kernel
theorem dL_law_910 : decode cL_law 910 = .ok (.aload_n 0, 1) := by decide +kernel
theorem dL_law_911 : decode cL_law 911 = .ok (.iload_n 3, 1) := by decide +kernel
theorem dL_law_912 : decode cL_law 912 = .ok (.iconst 3, 1) := by decide +kernel
theorem dL_law_913 : decode cL_law 913 = .ok (.iadd, 1) := by decide +kernel
theorem dL_law_914 : decode cL_law 914 = .ok (.iaload, 1) := by decide +kernel
theorem dL_law_915 : decode cL_law 915 = .ok (.invokevirtual 124, 3) := by decide +kernel
theorem dL_law_918 : decode cL_law 918 = .ok (.if_icmp .eq 424, 3) := by decide +kernel
theorem dL_law_921 : decode cL_law 921 = .ok (.iconst 0, 1) := by decide +kernel
theorem dL_law_922 : decode cL_law 922 = .ok (.ireturn, 1) := by decide +kernel
theorem dL_law_923 : decode cL_law 923 = .ok (.aload_n 1, 1) := by decide +kernel
theorem dL_law_924 : decode cL_law 924 = .ok (.aload_n 0, 1) := by decide +kernel
theorem dL_law_925 : decode cL_law 925 = .ok (.iload_n 3, 1) := by decide +kernel
theorem dL_law_926 : decode cL_law 926 = .ok (.iconst 1, 1) := by decide +kernel
theorem dL_law_927 : decode cL_law 927 = .ok (.iadd, 1) := by decide +kernel
theorem dL_law_928 : decode cL_law 928 = .ok (.iaload, 1) := by decide +kernel
theorem dL_law_929 : decode cL_law 929 = .ok (.aload_n 0, 1) := by decide +kernel
theorem dL_law_930 : decode cL_law 930 = .ok (.iload_n 3, 1) := by decide +kernel
theorem dL_law_931 : decode cL_law 931 = .ok (.iconst 2, 1) := by decide +kernel
theorem dL_law_932 : decode cL_law 932 = .ok (.iadd, 1) := by decide +kernel
theorem dL_law_933 : decode cL_law 933 = .ok (.iaload, 1) := by decide +kernel
theorem dL_law_934 : decode cL_law 934 = .ok (.aload_n 0, 1) := by decide +kernel
theorem dL_law_935 : decode cL_law 935 = .ok (.iload_n 3, 1) := by decide +kernel
theorem dL_law_936 : decode cL_law 936 = .ok (.iconst 3, 1) := by decide +kernel
theorem dL_law_937 : decode cL_law 937 = .ok (.iadd, 1) := by decide +kernel
theorem dL_law_938 : decode cL_law 938 = .ok (.iaload, 1) := by decide +kernel
theorem dL_law_939 : decode cL_law 939 = .ok (.invokevirtual 125, 3) := by decide +kernel
theorem dL_law_942 : decode cL_law 942 = .ok (.aload_n 2, 1) := by decide +kernel
theorem dL_law_943 : decode cL_law 943 = .ok (.aload_n 0, 1) := by decide +kernel
theorem dL_law_944 : decode cL_law 944 = .ok (.iload_n 3, 1) := by decide +kernel
theorem dL_law_945 : decode cL_law 945 = .ok (.iconst 1, 1) := by decide +kernel
theorem dL_law_946 : decode cL_law 946 = .ok (.iadd, 1) := by decide +kernel
theorem dL_law_947 : decode cL_law 947 = .ok (.iaload, 1) := by decide +kernel
theorem dL_law_948 : decode cL_law 948 = .ok (.aload_n 0, 1) := by decide +kernel
theorem dL_law_949 : decode cL_law 949 = .ok (.iload_n 3, 1) := by decide +kernel
theorem dL_law_950 : decode cL_law 950 = .ok (.iconst 2, 1) := by decide +kernel
theorem dL_law_951 : decode cL_law 951 = .ok (.iadd, 1) := by decide +kernel
theorem dL_law_952 : decode cL_law 952 = .ok (.iaload, 1) := by decide +kernel
theorem dL_law_953 : decode cL_law 953 = .ok (.aload_n 0, 1) := by decide +kernel
theorem dL_law_954 : decode cL_law 954 = .ok (.iload_n 3, 1) := by decide +kernel
theorem dL_law_955 : decode cL_law 955 = .ok (.iconst 3, 1) := by decide +kernel
theorem dL_law_956 : decode cL_law 956 = .ok (.iadd, 1) := by decide +kernel
theorem dL_law_957 : decode cL_law 957 = .ok (.iaload, 1) := by decide +kernel
theorem dL_law_958 : decode cL_law 958 = .ok (.invokevirtual 128, 3) := by decide +kernel
theorem dL_law_961 : decode cL_law 961 = .ok (.if_icmp .eq 381, 3) := by decide +kernel
theorem dL_law_964 : decode cL_law 964 = .ok (.iconst 0, 1) := by decide +kernel
theorem dL_law_965 : decode cL_law 965 = .ok (.ireturn, 1) := by decide +kernel
theorem dL_law_966 : decode cL_law 966 = .ok (.aload_n 1, 1) := by decide +kernel
theorem dL_law_967 : decode cL_law 967 = .ok (.invokevirtual 129, 3) := by decide +kernel
theorem dL_law_970 : decode cL_law 970 = .ok (.aload_n 2, 1) := by decide +kernel
theorem dL_law_971 : decode cL_law 971 = .ok (.invokevirtual 132, 3) := by decide +kernel
theorem dL_law_974 : decode cL_law 974 = .ok (.if_icmp .eq 368, 3) := by decide +kernel
theorem dL_law_977 : decode cL_law 977 = .ok (.iconst 0, 1) := by decide +kernel
theorem dL_law_978 : decode cL_law 978 = .ok (.ireturn, 1) := by decide +kernel
theorem dL_law_979 : decode cL_law 979 = .ok (.aload_n 1, 1) := by decide +kernel
theorem dL_law_980 : decode cL_law 980 = .ok (.invokevirtual 133, 3) := by decide +kernel
theorem dL_law_983 : decode cL_law 983 = .ok (.aload_n 2, 1) := by decide +kernel
theorem dL_law_984 : decode cL_law 984 = .ok (.invokevirtual 136, 3) := by decide +kernel
theorem dL_law_987 : decode cL_law 987 = .ok (.if_icmp .eq 355, 3) := by decide +kernel
theorem dL_law_990 : decode cL_law 990 = .ok (.iconst 0, 1) := by decide +kernel
theorem dL_law_991 : decode cL_law 991 = .ok (.ireturn, 1) := by decide +kernel
theorem dL_law_992 : decode cL_law 992 = .ok (.aload_n 1, 1) := by decide +kernel
theorem dL_law_993 : decode cL_law 993 = .ok (.aload_n 0, 1) := by decide +kernel
theorem dL_law_994 : decode cL_law 994 = .ok (.iload_n 3, 1) := by decide +kernel
theorem dL_law_995 : decode cL_law 995 = .ok (.iconst 1, 1) := by decide +kernel
theorem dL_law_996 : decode cL_law 996 = .ok (.iadd, 1) := by decide +kernel
theorem dL_law_997 : decode cL_law 997 = .ok (.iaload, 1) := by decide +kernel
theorem dL_law_998 : decode cL_law 998 = .ok (.aload_n 0, 1) := by decide +kernel
theorem dL_law_999 : decode cL_law 999 = .ok (.iload_n 3, 1) := by decide +kernel
theorem dL_law_1000 : decode cL_law 1000 = .ok (.iconst 2, 1) := by decide +kernel
theorem dL_law_1001 : decode cL_law 1001 = .ok (.iadd, 1) := by decide +kernel
theorem dL_law_1002 : decode cL_law 1002 = .ok (.iaload, 1) := by decide +kernel
theorem dL_law_1003 : decode cL_law 1003 = .ok (.aload_n 0, 1) := by decide +kernel
theorem dL_law_1004 : decode cL_law 1004 = .ok (.iload_n 3, 1) := by decide +kernel
theorem dL_law_1005 : decode cL_law 1005 = .ok (.iconst 3, 1) := by decide +kernel
theorem dL_law_1006 : decode cL_law 1006 = .ok (.iadd, 1) := by decide +kernel
theorem dL_law_1007 : decode cL_law 1007 = .ok (.iaload, 1) := by decide +kernel
theorem dL_law_1008 : decode cL_law 1008 = .ok (.aload_n 0, 1) := by decide +kernel
theorem dL_law_1009 : decode cL_law 1009 = .ok (.iload_n 3, 1) := by decide +kernel
theorem dL_law_1010 : decode cL_law 1010 = .ok (.iconst 4, 1) := by decide +kernel
theorem dL_law_1011 : decode cL_law 1011 = .ok (.iadd, 1) := by decide +kernel
theorem dL_law_1012 : decode cL_law 1012 = .ok (.iaload, 1) := by decide +kernel
theorem dL_law_1013 : decode cL_law 1013 = .ok (.aload_n 0, 1) := by decide +kernel
theorem dL_law_1014 : decode cL_law 1014 = .ok (.iload_n 3, 1) := by decide +kernel
theorem dL_law_1015 : decode cL_law 1015 = .ok (.iconst 5, 1) := by decide +kernel
theorem dL_law_1016 : decode cL_law 1016 = .ok (.iadd, 1) := by decide +kernel
theorem dL_law_1017 : decode cL_law 1017 = .ok (.iaload, 1) := by decide +kernel
theorem dL_law_1018 : decode cL_law 1018 = .ok (.aload_n 0, 1) := by decide +kernel
theorem dL_law_1019 : decode cL_law 1019 = .ok (.iload_n 3, 1) := by decide +kernel
theorem dL_law_1020 : decode cL_law 1020 = .ok (.bipush 6, 2) := by decide +kernel
theorem dL_law_1022 : decode cL_law 1022 = .ok (.iadd, 1) := by decide +kernel
theorem dL_law_1023 : decode cL_law 1023 = .ok (.iaload, 1) := by decide +kernel
theorem dL_law_1024 : decode cL_law 1024 = .ok (.invokevirtual 137, 3) := by decide +kernel
theorem dL_law_1027 : decode cL_law 1027 = .ok (.aload_n 2, 1) := by decide +kernel
theorem dL_law_1028 : decode cL_law 1028 = .ok (.aload_n 0, 1) := by decide +kernel
theorem dL_law_1029 : decode cL_law 1029 = .ok (.iload_n 3, 1) := by decide +kernel
theorem dL_law_1030 : decode cL_law 1030 = .ok (.iconst 1, 1) := by decide +kernel
theorem dL_law_1031 : decode cL_law 1031 = .ok (.iadd, 1) := by decide +kernel
theorem dL_law_1032 : decode cL_law 1032 = .ok (.iaload, 1) := by decide +kernel
theorem dL_law_1033 : decode cL_law 1033 = .ok (.aload_n 0, 1) := by decide +kernel
theorem dL_law_1034 : decode cL_law 1034 = .ok (.iload_n 3, 1) := by decide +kernel
theorem dL_law_1035 : decode cL_law 1035 = .ok (.iconst 2, 1) := by decide +kernel
theorem dL_law_1036 : decode cL_law 1036 = .ok (.iadd, 1) := by decide +kernel
theorem dL_law_1037 : decode cL_law 1037 = .ok (.iaload, 1) := by decide +kernel
theorem dL_law_1038 : decode cL_law 1038 = .ok (.aload_n 0, 1) := by decide +kernel
theorem dL_law_1039 : decode cL_law 1039 = .ok (.iload_n 3, 1) := by decide +kernel
theorem dL_law_1040 : decode cL_law 1040 = .ok (.iconst 3, 1) := by decide +kernel
theorem dL_law_1041 : decode cL_law 1041 = .ok (.iadd, 1) := by decide +kernel
theorem dL_law_1042 : decode cL_law 1042 = .ok (.iaload, 1) := by decide +kernel
theorem dL_law_1043 : decode cL_law 1043 = .ok (.aload_n 0, 1) := by decide +kernel
theorem dL_law_1044 : decode cL_law 1044 = .ok (.iload_n 3, 1) := by decide +kernel
theorem dL_law_1045 : decode cL_law 1045 = .ok (.iconst 4, 1) := by decide +kernel
theorem dL_law_1046 : decode cL_law 1046 = .ok (.iadd, 1) := by decide +kernel
theorem dL_law_1047 : decode cL_law 1047 = .ok (.iaload, 1) := by decide +kernel
theorem dL_law_1048 : decode cL_law 1048 = .ok (.aload_n 0, 1) := by decide +kernel
theorem dL_law_1049 : decode cL_law 1049 = .ok (.iload_n 3, 1) := by decide +kernel
theorem dL_law_1050 : decode cL_law 1050 = .ok (.iconst 5, 1) := by decide +kernel
theorem dL_law_1051 : decode cL_law 1051 = .ok (.iadd, 1) := by decide +kernel
theorem dL_law_1052 : decode cL_law 1052 = .ok (.iaload, 1) := by decide +kernel
theorem dL_law_1053 : decode cL_law 1053 = .ok (.aload_n 0, 1) := by decide +kernel
theorem dL_law_1054 : decode cL_law 1054 = .ok (.iload_n 3, 1) := by decide +kernel
theorem dL_law_1055 : decode cL_law 1055 = .ok (.bipush 6, 2) := by decide +kernel
theorem dL_law_1057 : decode cL_law 1057 = .ok (.iadd, 1) := by decide +kernel
theorem dL_law_1058 : decode cL_law 1058 = .ok (.iaload, 1) := by decide +kernel
theorem dL_law_1059 : decode cL_law 1059 = .ok (.invokevirtual 141, 3) := by decide +kernel
theorem dL_law_1062 : decode cL_law 1062 = .ok (.if_icmp .eq 280, 3) := by decide +kernel
theorem dL_law_1065 : decode cL_law 1065 = .ok (.iconst 0, 1) := by decide +kernel
theorem dL_law_1066 : decode cL_law 1066 = .ok (.ireturn, 1) := by decide +kernel
theorem dL_law_1067 : decode cL_law 1067 = .ok (.aload_n 1, 1) := by decide +kernel
theorem dL_law_1068 : decode cL_law 1068 = .ok (.aload_n 0, 1) := by decide +kernel
theorem dL_law_1069 : decode cL_law 1069 = .ok (.iload_n 3, 1) := by decide +kernel
theorem dL_law_1070 : decode cL_law 1070 = .ok (.iconst 1, 1) := by decide +kernel
theorem dL_law_1071 : decode cL_law 1071 = .ok (.iadd, 1) := by decide +kernel
theorem dL_law_1072 : decode cL_law 1072 = .ok (.iaload, 1) := by decide +kernel
theorem dL_law_1073 : decode cL_law 1073 = .ok (.aload_n 0, 1) := by decide +kernel
theorem dL_law_1074 : decode cL_law 1074 = .ok (.iload_n 3, 1) := by decide +kernel
theorem dL_law_1075 : decode cL_law 1075 = .ok (.iconst 2, 1) := by decide +kernel
theorem dL_law_1076 : decode cL_law 1076 = .ok (.iadd, 1) := by decide +kernel
theorem dL_law_1077 : decode cL_law 1077 = .ok (.iaload, 1) := by decide +kernel
theorem dL_law_1078 : decode cL_law 1078 = .ok (.aload_n 0, 1) := by decide +kernel
theorem dL_law_1079 : decode cL_law 1079 = .ok (.iload_n 3, 1) := by decide +kernel
theorem dL_law_1080 : decode cL_law 1080 = .ok (.iconst 3, 1) := by decide +kernel
theorem dL_law_1081 : decode cL_law 1081 = .ok (.iadd, 1) := by decide +kernel
theorem dL_law_1082 : decode cL_law 1082 = .ok (.iaload, 1) := by decide +kernel
theorem dL_law_1083 : decode cL_law 1083 = .ok (.aload_n 0, 1) := by decide +kernel
theorem dL_law_1084 : decode cL_law 1084 = .ok (.iload_n 3, 1) := by decide +kernel
theorem dL_law_1085 : decode cL_law 1085 = .ok (.iconst 4, 1) := by decide +kernel
theorem dL_law_1086 : decode cL_law 1086 = .ok (.iadd, 1) := by decide +kernel
theorem dL_law_1087 : decode cL_law 1087 = .ok (.iaload, 1) := by decide +kernel
theorem dL_law_1088 : decode cL_law 1088 = .ok (.aload_n 0, 1) := by decide +kernel
theorem dL_law_1089 : decode cL_law 1089 = .ok (.iload_n 3, 1) := by decide +kernel
theorem dL_law_1090 : decode cL_law 1090 = .ok (.iconst 5, 1) := by decide +kernel
theorem dL_law_1091 : decode cL_law 1091 = .ok (.iadd, 1) := by decide +kernel
theorem dL_law_1092 : decode cL_law 1092 = .ok (.iaload, 1) := by decide +kernel
theorem dL_law_1093 : decode cL_law 1093 = .ok (.invokevirtual 142, 3) := by decide +kernel
theorem dL_law_1096 : decode cL_law 1096 = .ok (.aload_n 2, 1) := by decide +kernel
theorem dL_law_1097 : decode cL_law 1097 = .ok (.aload_n 0, 1) := by decide +kernel
theorem dL_law_1098 : decode cL_law 1098 = .ok (.iload_n 3, 1) := by decide +kernel
theorem dL_law_1099 : decode cL_law 1099 = .ok (.iconst 1, 1) := by decide +kernel
theorem dL_law_1100 : decode cL_law 1100 = .ok (.iadd, 1) := by decide +kernel
theorem dL_law_1101 : decode cL_law 1101 = .ok (.iaload, 1) := by decide +kernel
theorem dL_law_1102 : decode cL_law 1102 = .ok (.aload_n 0, 1) := by decide +kernel
theorem dL_law_1103 : decode cL_law 1103 = .ok (.iload_n 3, 1) := by decide +kernel
theorem dL_law_1104 : decode cL_law 1104 = .ok (.iconst 2, 1) := by decide +kernel
theorem dL_law_1105 : decode cL_law 1105 = .ok (.iadd, 1) := by decide +kernel
theorem dL_law_1106 : decode cL_law 1106 = .ok (.iaload, 1) := by decide +kernel
theorem dL_law_1107 : decode cL_law 1107 = .ok (.aload_n 0, 1) := by decide +kernel
theorem dL_law_1108 : decode cL_law 1108 = .ok (.iload_n 3, 1) := by decide +kernel
theorem dL_law_1109 : decode cL_law 1109 = .ok (.iconst 3, 1) := by decide +kernel
theorem dL_law_1110 : decode cL_law 1110 = .ok (.iadd, 1) := by decide +kernel
theorem dL_law_1111 : decode cL_law 1111 = .ok (.iaload, 1) := by decide +kernel
theorem dL_law_1112 : decode cL_law 1112 = .ok (.aload_n 0, 1) := by decide +kernel
theorem dL_law_1113 : decode cL_law 1113 = .ok (.iload_n 3, 1) := by decide +kernel
theorem dL_law_1114 : decode cL_law 1114 = .ok (.iconst 4, 1) := by decide +kernel
theorem dL_law_1115 : decode cL_law 1115 = .ok (.iadd, 1) := by decide +kernel
theorem dL_law_1116 : decode cL_law 1116 = .ok (.iaload, 1) := by decide +kernel
theorem dL_law_1117 : decode cL_law 1117 = .ok (.aload_n 0, 1) := by decide +kernel
theorem dL_law_1118 : decode cL_law 1118 = .ok (.iload_n 3, 1) := by decide +kernel
theorem dL_law_1119 : decode cL_law 1119 = .ok (.iconst 5, 1) := by decide +kernel
theorem dL_law_1120 : decode cL_law 1120 = .ok (.iadd, 1) := by decide +kernel
theorem dL_law_1121 : decode cL_law 1121 = .ok (.iaload, 1) := by decide +kernel
theorem dL_law_1122 : decode cL_law 1122 = .ok (.invokevirtual 146, 3) := by decide +kernel
theorem dL_law_1125 : decode cL_law 1125 = .ok (.if_icmp .eq 217, 3) := by decide +kernel
theorem dL_law_1128 : decode cL_law 1128 = .ok (.iconst 0, 1) := by decide +kernel
theorem dL_law_1129 : decode cL_law 1129 = .ok (.ireturn, 1) := by decide +kernel
theorem dL_law_1130 : decode cL_law 1130 = .ok (.aload_n 1, 1) := by decide +kernel
theorem dL_law_1131 : decode cL_law 1131 = .ok (.aload_n 0, 1) := by decide +kernel
theorem dL_law_1132 : decode cL_law 1132 = .ok (.iload_n 3, 1) := by decide +kernel
theorem dL_law_1133 : decode cL_law 1133 = .ok (.iconst 1, 1) := by decide +kernel
theorem dL_law_1134 : decode cL_law 1134 = .ok (.iadd, 1) := by decide +kernel
theorem dL_law_1135 : decode cL_law 1135 = .ok (.iaload, 1) := by decide +kernel
theorem dL_law_1136 : decode cL_law 1136 = .ok (.aload_n 0, 1) := by decide +kernel
theorem dL_law_1137 : decode cL_law 1137 = .ok (.iload_n 3, 1) := by decide +kernel
theorem dL_law_1138 : decode cL_law 1138 = .ok (.iconst 2, 1) := by decide +kernel
theorem dL_law_1139 : decode cL_law 1139 = .ok (.iadd, 1) := by decide +kernel
theorem dL_law_1140 : decode cL_law 1140 = .ok (.iaload, 1) := by decide +kernel
theorem dL_law_1141 : decode cL_law 1141 = .ok (.aload_n 0, 1) := by decide +kernel
theorem dL_law_1142 : decode cL_law 1142 = .ok (.iload_n 3, 1) := by decide +kernel
theorem dL_law_1143 : decode cL_law 1143 = .ok (.iconst 3, 1) := by decide +kernel
theorem dL_law_1144 : decode cL_law 1144 = .ok (.iadd, 1) := by decide +kernel
theorem dL_law_1145 : decode cL_law 1145 = .ok (.iaload, 1) := by decide +kernel
theorem dL_law_1146 : decode cL_law 1146 = .ok (.invokevirtual 147, 3) := by decide +kernel
theorem dL_law_1149 : decode cL_law 1149 = .ok (.aload_n 2, 1) := by decide +kernel
theorem dL_law_1150 : decode cL_law 1150 = .ok (.aload_n 0, 1) := by decide +kernel
theorem dL_law_1151 : decode cL_law 1151 = .ok (.iload_n 3, 1) := by decide +kernel
theorem dL_law_1152 : decode cL_law 1152 = .ok (.iconst 1, 1) := by decide +kernel
theorem dL_law_1153 : decode cL_law 1153 = .ok (.iadd, 1) := by decide +kernel
theorem dL_law_1154 : decode cL_law 1154 = .ok (.iaload, 1) := by decide +kernel
theorem dL_law_1155 : decode cL_law 1155 = .ok (.aload_n 0, 1) := by decide +kernel
theorem dL_law_1156 : decode cL_law 1156 = .ok (.iload_n 3, 1) := by decide +kernel
theorem dL_law_1157 : decode cL_law 1157 = .ok (.iconst 2, 1) := by decide +kernel
theorem dL_law_1158 : decode cL_law 1158 = .ok (.iadd, 1) := by decide +kernel
theorem dL_law_1159 : decode cL_law 1159 = .ok (.iaload, 1) := by decide +kernel
theorem dL_law_1160 : decode cL_law 1160 = .ok (.aload_n 0, 1) := by decide +kernel
theorem dL_law_1161 : decode cL_law 1161 = .ok (.iload_n 3, 1) := by decide +kernel
theorem dL_law_1162 : decode cL_law 1162 = .ok (.iconst 3, 1) := by decide +kernel
theorem dL_law_1163 : decode cL_law 1163 = .ok (.iadd, 1) := by decide +kernel
theorem dL_law_1164 : decode cL_law 1164 = .ok (.iaload, 1) := by decide +kernel
theorem dL_law_1165 : decode cL_law 1165 = .ok (.invokevirtual 150, 3) := by decide +kernel
theorem dL_law_1168 : decode cL_law 1168 = .ok (.if_icmp .eq 174, 3) := by decide +kernel
theorem dL_law_1171 : decode cL_law 1171 = .ok (.iconst 0, 1) := by decide +kernel
theorem dL_law_1172 : decode cL_law 1172 = .ok (.ireturn, 1) := by decide +kernel
theorem dL_law_1173 : decode cL_law 1173 = .ok (.aload_n 1, 1) := by decide +kernel
theorem dL_law_1174 : decode cL_law 1174 = .ok (.aload_n 0, 1) := by decide +kernel
theorem dL_law_1175 : decode cL_law 1175 = .ok (.iload_n 3, 1) := by decide +kernel
theorem dL_law_1176 : decode cL_law 1176 = .ok (.iconst 1, 1) := by decide +kernel
theorem dL_law_1177 : decode cL_law 1177 = .ok (.iadd, 1) := by decide +kernel
theorem dL_law_1178 : decode cL_law 1178 = .ok (.iaload, 1) := by decide +kernel
theorem dL_law_1179 : decode cL_law 1179 = .ok (.invokevirtual 151, 3) := by decide +kernel
theorem dL_law_1182 : decode cL_law 1182 = .ok (.aload_n 2, 1) := by decide +kernel
theorem dL_law_1183 : decode cL_law 1183 = .ok (.aload_n 0, 1) := by decide +kernel
theorem dL_law_1184 : decode cL_law 1184 = .ok (.iload_n 3, 1) := by decide +kernel
theorem dL_law_1185 : decode cL_law 1185 = .ok (.iconst 1, 1) := by decide +kernel
theorem dL_law_1186 : decode cL_law 1186 = .ok (.iadd, 1) := by decide +kernel
theorem dL_law_1187 : decode cL_law 1187 = .ok (.iaload, 1) := by decide +kernel
theorem dL_law_1188 : decode cL_law 1188 = .ok (.invokevirtual 154, 3) := by decide +kernel
theorem dL_law_1191 : decode cL_law 1191 = .ok (.if_icmp .eq 151, 3) := by decide +kernel
theorem dL_law_1194 : decode cL_law 1194 = .ok (.iconst 0, 1) := by decide +kernel
theorem dL_law_1195 : decode cL_law 1195 = .ok (.ireturn, 1) := by decide +kernel
theorem dL_law_1196 : decode cL_law 1196 = .ok (.aload_n 1, 1) := by decide +kernel
theorem dL_law_1197 : decode cL_law 1197 = .ok (.aload_n 0, 1) := by decide +kernel
theorem dL_law_1198 : decode cL_law 1198 = .ok (.iload_n 3, 1) := by decide +kernel
theorem dL_law_1199 : decode cL_law 1199 = .ok (.iconst 1, 1) := by decide +kernel
theorem dL_law_1200 : decode cL_law 1200 = .ok (.iadd, 1) := by decide +kernel
theorem dL_law_1201 : decode cL_law 1201 = .ok (.iaload, 1) := by decide +kernel
theorem dL_law_1202 : decode cL_law 1202 = .ok (.aload_n 0, 1) := by decide +kernel
theorem dL_law_1203 : decode cL_law 1203 = .ok (.iload_n 3, 1) := by decide +kernel
theorem dL_law_1204 : decode cL_law 1204 = .ok (.iconst 2, 1) := by decide +kernel
theorem dL_law_1205 : decode cL_law 1205 = .ok (.iadd, 1) := by decide +kernel
theorem dL_law_1206 : decode cL_law 1206 = .ok (.iaload, 1) := by decide +kernel
theorem dL_law_1207 : decode cL_law 1207 = .ok (.aload_n 0, 1) := by decide +kernel
theorem dL_law_1208 : decode cL_law 1208 = .ok (.iload_n 3, 1) := by decide +kernel
theorem dL_law_1209 : decode cL_law 1209 = .ok (.iconst 3, 1) := by decide +kernel
theorem dL_law_1210 : decode cL_law 1210 = .ok (.iadd, 1) := by decide +kernel
theorem dL_law_1211 : decode cL_law 1211 = .ok (.iaload, 1) := by decide +kernel
theorem dL_law_1212 : decode cL_law 1212 = .ok (.aload_n 0, 1) := by decide +kernel
theorem dL_law_1213 : decode cL_law 1213 = .ok (.iload_n 3, 1) := by decide +kernel
theorem dL_law_1214 : decode cL_law 1214 = .ok (.iconst 4, 1) := by decide +kernel
theorem dL_law_1215 : decode cL_law 1215 = .ok (.iadd, 1) := by decide +kernel
theorem dL_law_1216 : decode cL_law 1216 = .ok (.iaload, 1) := by decide +kernel
theorem dL_law_1217 : decode cL_law 1217 = .ok (.i2l, 1) := by decide +kernel
theorem dL_law_1218 : decode cL_law 1218 = .ok (.bipush 32, 2) := by decide +kernel
theorem dL_law_1220 : decode cL_law 1220 = .ok (.lshl, 1) := by decide +kernel
theorem dL_law_1221 : decode cL_law 1221 = .ok (.aload_n 0, 1) := by decide +kernel
theorem dL_law_1222 : decode cL_law 1222 = .ok (.iload_n 3, 1) := by decide +kernel
theorem dL_law_1223 : decode cL_law 1223 = .ok (.iconst 5, 1) := by decide +kernel
theorem dL_law_1224 : decode cL_law 1224 = .ok (.iadd, 1) := by decide +kernel
theorem dL_law_1225 : decode cL_law 1225 = .ok (.iaload, 1) := by decide +kernel
theorem dL_law_1226 : decode cL_law 1226 = .ok (.i2l, 1) := by decide +kernel
theorem dL_law_1227 : decode cL_law 1227 = .ok (.ldc2_w 155, 3) := by decide +kernel
theorem dL_law_1230 : decode cL_law 1230 = .ok (.land, 1) := by decide +kernel
theorem dL_law_1231 : decode cL_law 1231 = .ok (.lor, 1) := by decide +kernel
theorem dL_law_1232 : decode cL_law 1232 = .ok (.invokevirtual 157, 3) := by decide +kernel
theorem dL_law_1235 : decode cL_law 1235 = .ok (.aload_n 2, 1) := by decide +kernel
theorem dL_law_1236 : decode cL_law 1236 = .ok (.aload_n 0, 1) := by decide +kernel
theorem dL_law_1237 : decode cL_law 1237 = .ok (.iload_n 3, 1) := by decide +kernel
theorem dL_law_1238 : decode cL_law 1238 = .ok (.iconst 1, 1) := by decide +kernel
theorem dL_law_1239 : decode cL_law 1239 = .ok (.iadd, 1) := by decide +kernel
theorem dL_law_1240 : decode cL_law 1240 = .ok (.iaload, 1) := by decide +kernel
theorem dL_law_1241 : decode cL_law 1241 = .ok (.aload_n 0, 1) := by decide +kernel
theorem dL_law_1242 : decode cL_law 1242 = .ok (.iload_n 3, 1) := by decide +kernel
theorem dL_law_1243 : decode cL_law 1243 = .ok (.iconst 2, 1) := by decide +kernel
theorem dL_law_1244 : decode cL_law 1244 = .ok (.iadd, 1) := by decide +kernel
theorem dL_law_1245 : decode cL_law 1245 = .ok (.iaload, 1) := by decide +kernel
theorem dL_law_1246 : decode cL_law 1246 = .ok (.aload_n 0, 1) := by decide +kernel
theorem dL_law_1247 : decode cL_law 1247 = .ok (.iload_n 3, 1) := by decide +kernel
theorem dL_law_1248 : decode cL_law 1248 = .ok (.iconst 3, 1) := by decide +kernel
theorem dL_law_1249 : decode cL_law 1249 = .ok (.iadd, 1) := by decide +kernel
theorem dL_law_1250 : decode cL_law 1250 = .ok (.iaload, 1) := by decide +kernel
theorem dL_law_1251 : decode cL_law 1251 = .ok (.aload_n 0, 1) := by decide +kernel
theorem dL_law_1252 : decode cL_law 1252 = .ok (.iload_n 3, 1) := by decide +kernel
theorem dL_law_1253 : decode cL_law 1253 = .ok (.iconst 4, 1) := by decide +kernel
theorem dL_law_1254 : decode cL_law 1254 = .ok (.iadd, 1) := by decide +kernel
theorem dL_law_1255 : decode cL_law 1255 = .ok (.iaload, 1) := by decide +kernel
theorem dL_law_1256 : decode cL_law 1256 = .ok (.i2l, 1) := by decide +kernel
theorem dL_law_1257 : decode cL_law 1257 = .ok (.bipush 32, 2) := by decide +kernel
theorem dL_law_1259 : decode cL_law 1259 = .ok (.lshl, 1) := by decide +kernel
theorem dL_law_1260 : decode cL_law 1260 = .ok (.aload_n 0, 1) := by decide +kernel
theorem dL_law_1261 : decode cL_law 1261 = .ok (.iload_n 3, 1) := by decide +kernel
theorem dL_law_1262 : decode cL_law 1262 = .ok (.iconst 5, 1) := by decide +kernel
theorem dL_law_1263 : decode cL_law 1263 = .ok (.iadd, 1) := by decide +kernel
theorem dL_law_1264 : decode cL_law 1264 = .ok (.iaload, 1) := by decide +kernel
theorem dL_law_1265 : decode cL_law 1265 = .ok (.i2l, 1) := by decide +kernel
theorem dL_law_1266 : decode cL_law 1266 = .ok (.ldc2_w 155, 3) := by decide +kernel
theorem dL_law_1269 : decode cL_law 1269 = .ok (.land, 1) := by decide +kernel
theorem dL_law_1270 : decode cL_law 1270 = .ok (.lor, 1) := by decide +kernel
theorem dL_law_1271 : decode cL_law 1271 = .ok (.invokevirtual 161, 3) := by decide +kernel
theorem dL_law_1274 : decode cL_law 1274 = .ok (.if_icmp .eq 68, 3) := by decide +kernel
theorem dL_law_1277 : decode cL_law 1277 = .ok (.iconst 0, 1) := by decide +kernel
theorem dL_law_1278 : decode cL_law 1278 = .ok (.ireturn, 1) := by decide +kernel
theorem dL_law_1279 : decode cL_law 1279 = .ok (.aload_n 1, 1) := by decide +kernel
theorem dL_law_1280 : decode cL_law 1280 = .ok (.aload_n 0, 1) := by decide +kernel
theorem dL_law_1281 : decode cL_law 1281 = .ok (.iload_n 3, 1) := by decide +kernel
theorem dL_law_1282 : decode cL_law 1282 = .ok (.iconst 1, 1) := by decide +kernel
theorem dL_law_1283 : decode cL_law 1283 = .ok (.iadd, 1) := by decide +kernel
theorem dL_law_1284 : decode cL_law 1284 = .ok (.iaload, 1) := by decide +kernel
theorem dL_law_1285 : decode cL_law 1285 = .ok (.aload_n 0, 1) := by decide +kernel
theorem dL_law_1286 : decode cL_law 1286 = .ok (.iload_n 3, 1) := by decide +kernel
theorem dL_law_1287 : decode cL_law 1287 = .ok (.iconst 2, 1) := by decide +kernel
theorem dL_law_1288 : decode cL_law 1288 = .ok (.iadd, 1) := by decide +kernel
theorem dL_law_1289 : decode cL_law 1289 = .ok (.iaload, 1) := by decide +kernel
theorem dL_law_1290 : decode cL_law 1290 = .ok (.aload_n 0, 1) := by decide +kernel
theorem dL_law_1291 : decode cL_law 1291 = .ok (.iload_n 3, 1) := by decide +kernel
theorem dL_law_1292 : decode cL_law 1292 = .ok (.iconst 3, 1) := by decide +kernel
theorem dL_law_1293 : decode cL_law 1293 = .ok (.iadd, 1) := by decide +kernel
theorem dL_law_1294 : decode cL_law 1294 = .ok (.iaload, 1) := by decide +kernel
theorem dL_law_1295 : decode cL_law 1295 = .ok (.aload_n 0, 1) := by decide +kernel
theorem dL_law_1296 : decode cL_law 1296 = .ok (.iload_n 3, 1) := by decide +kernel
theorem dL_law_1297 : decode cL_law 1297 = .ok (.iconst 4, 1) := by decide +kernel
theorem dL_law_1298 : decode cL_law 1298 = .ok (.iadd, 1) := by decide +kernel
theorem dL_law_1299 : decode cL_law 1299 = .ok (.iaload, 1) := by decide +kernel
theorem dL_law_1300 : decode cL_law 1300 = .ok (.aload_n 0, 1) := by decide +kernel
theorem dL_law_1301 : decode cL_law 1301 = .ok (.iload_n 3, 1) := by decide +kernel
theorem dL_law_1302 : decode cL_law 1302 = .ok (.iconst 5, 1) := by decide +kernel
theorem dL_law_1303 : decode cL_law 1303 = .ok (.iadd, 1) := by decide +kernel
theorem dL_law_1304 : decode cL_law 1304 = .ok (.iaload, 1) := by decide +kernel
theorem dL_law_1305 : decode cL_law 1305 = .ok (.invokevirtual 162, 3) := by decide +kernel
theorem dL_law_1308 : decode cL_law 1308 = .ok (.aload_n 2, 1) := by decide +kernel
theorem dL_law_1309 : decode cL_law 1309 = .ok (.aload_n 0, 1) := by decide +kernel
theorem dL_law_1310 : decode cL_law 1310 = .ok (.iload_n 3, 1) := by decide +kernel
theorem dL_law_1311 : decode cL_law 1311 = .ok (.iconst 1, 1) := by decide +kernel
theorem dL_law_1312 : decode cL_law 1312 = .ok (.iadd, 1) := by decide +kernel
theorem dL_law_1313 : decode cL_law 1313 = .ok (.iaload, 1) := by decide +kernel
theorem dL_law_1314 : decode cL_law 1314 = .ok (.aload_n 0, 1) := by decide +kernel
theorem dL_law_1315 : decode cL_law 1315 = .ok (.iload_n 3, 1) := by decide +kernel
theorem dL_law_1316 : decode cL_law 1316 = .ok (.iconst 2, 1) := by decide +kernel
theorem dL_law_1317 : decode cL_law 1317 = .ok (.iadd, 1) := by decide +kernel
theorem dL_law_1318 : decode cL_law 1318 = .ok (.iaload, 1) := by decide +kernel
theorem dL_law_1319 : decode cL_law 1319 = .ok (.aload_n 0, 1) := by decide +kernel
theorem dL_law_1320 : decode cL_law 1320 = .ok (.iload_n 3, 1) := by decide +kernel
theorem dL_law_1321 : decode cL_law 1321 = .ok (.iconst 3, 1) := by decide +kernel
theorem dL_law_1322 : decode cL_law 1322 = .ok (.iadd, 1) := by decide +kernel
theorem dL_law_1323 : decode cL_law 1323 = .ok (.iaload, 1) := by decide +kernel
theorem dL_law_1324 : decode cL_law 1324 = .ok (.aload_n 0, 1) := by decide +kernel
theorem dL_law_1325 : decode cL_law 1325 = .ok (.iload_n 3, 1) := by decide +kernel
theorem dL_law_1326 : decode cL_law 1326 = .ok (.iconst 4, 1) := by decide +kernel
theorem dL_law_1327 : decode cL_law 1327 = .ok (.iadd, 1) := by decide +kernel
theorem dL_law_1328 : decode cL_law 1328 = .ok (.iaload, 1) := by decide +kernel
theorem dL_law_1329 : decode cL_law 1329 = .ok (.aload_n 0, 1) := by decide +kernel
theorem dL_law_1330 : decode cL_law 1330 = .ok (.iload_n 3, 1) := by decide +kernel
theorem dL_law_1331 : decode cL_law 1331 = .ok (.iconst 5, 1) := by decide +kernel
theorem dL_law_1332 : decode cL_law 1332 = .ok (.iadd, 1) := by decide +kernel
theorem dL_law_1333 : decode cL_law 1333 = .ok (.iaload, 1) := by decide +kernel
theorem dL_law_1334 : decode cL_law 1334 = .ok (.invokevirtual 165, 3) := by decide +kernel
theorem dL_law_1337 : decode cL_law 1337 = .ok (.if_icmp .eq 5, 3) := by decide +kernel
theorem dL_law_1340 : decode cL_law 1340 = .ok (.iconst 0, 1) := by decide +kernel
theorem dL_law_1341 : decode cL_law 1341 = .ok (.ireturn, 1) := by decide +kernel
theorem dL_law_1342 : decode cL_law 1342 = .ok (.iinc 3 7, 3) := by decide +kernel
theorem dL_law_1345 : decode cL_law 1345 = .ok (.goto (-1327), 3) := by decide +kernel
theorem dL_law_1348 : decode cL_law 1348 = .ok (.iconst 1, 1) := by decide +kernel
theorem dL_law_1349 : decode cL_law 1349 = .ok (.ireturn, 1) := by decide +kernel
end
section
/-- the tables' words that every state behind keeps -/
def g_tbl : List Cond := lw_tbl.filter goodWord
theorem g_mem {w : Cond} (h : w ∈ lw_tbl) (hg : goodWord w = true) : w ∈ g_tbl := List.mem_filter.mpr ⟨h, hg⟩
theorem g_at {w : Cond} (i : Nat) (h : lw_tbl[i]? = some w) (hg : goodWord w = true) : w ∈ g_tbl := g_mem (List.mem_of_getElem? h) hg
theorem g_sub {w : Cond} (h : w ∈ g_tbl) : w ∈ lw_tbl := (List.mem_filter.mp h).1
theorem g_good : ∀ w ∈ g_tbl, (w.onTables && w.keeps) = true ∨ ∃ ty, w = .arrayClass ty := fun w h => good_of_word (List.mem_filter.mp h).2
theorem g_all {ws : List Cond} (h : ∀ w ∈ ws, w ∈ lw_tbl) (hg : ws.all goodWord = true) : ∀ w ∈ ws, w ∈ g_tbl := fun w hw => g_mem (h w hw) (List.all_eq_true.mp hg w hw)
theorem ginX0 : ∀ w ∈ wsX00, w ∈ g_tbl := g_all inX0 (by decide +kernel)
theorem ginX1 : ∀ w ∈ wsX10, w ∈ g_tbl := g_all inX1 (by decide +kernel)
theorem ginX2 : ∀ w ∈ wsX20, w ∈ g_tbl := g_all inX2 (by decide +kernel)
theorem ginX3 : ∀ w ∈ wsX30, w ∈ g_tbl := g_all inX3 (by decide +kernel)
theorem ginX4 : ∀ w ∈ wsX40, w ∈ g_tbl := g_all inX4 (by decide +kernel)
theorem ginX5 : ∀ w ∈ wsX50, w ∈ g_tbl := g_all inX5 (by decide +kernel)
theorem ginX6 : ∀ w ∈ wsX60, w ∈ g_tbl := g_all inX6 (by decide +kernel)
theorem ginX7 : ∀ w ∈ wsX70, w ∈ g_tbl := g_all inX7 (by decide +kernel)
end
section
abbrev PE : Type := (Nat × vp_A) ⊕ (Nat × List Value)
abbrev Wd : Type := Nat → Option PE
abbrev EE : Type := Nat × (Nat → Nat)
def rl_ad (E : EE) (i : Nat) : Nat := if i < 1000000 then E.1 + i else E.2 (i - 1000000)
def rl_tv (E : EE) (v : Value) : Value := match v with
  | .ref i => .ref (rl_ad E i)
  | v => v
def rl_te (dA : Nat → ClassId) (E : EE) (c : PE) : va_E := match c with
  | .inl a => .inl (dA a.1, a.2)
  | .inr o => .inr (o.1, o.2.map (rl_tv E))
def rl_tw (dA : Nat → ClassId) (E : EE) (n : Nat) (σ : Wd) : va_W := (List.range n).map fun i => (rl_ad E i, rl_te dA E ((σ i).getD (.inr (0, []))))
def rl_up (σ : Wd) (i : Nat) (c : PE) : Wd := fun j => if j = i then some c else σ j
theorem rl_up_s {σ : Wd} {i : Nat} {c : PE} : rl_up σ i c i = some c := by simp [rl_up]
theorem rl_up_n {σ : Wd} {i j : Nat} {c : PE} (h : j ≠ i) : rl_up σ i c j = σ j := by simp [rl_up, h]
def rl_tys (dA : Nat → ClassId) : List (ClassId × FieldType) := [(dA 0, .int), (dA 1, .long), (dA 2, .char)]
theorem rl_cat (E : EE) (v : Value) : (rl_tv E v).category = v.category := by cases v <;> rfl
theorem rl_cats (E : EE) (st : List Value) : ((st.map (rl_tv E)).map fun v => v.category).sum = (st.map fun v => v.category).sum := by
  rw [List.map_map]
  congr 1
  exact List.map_congr_left (fun v _ => rl_cat E v)
theorem rl_tw_at {dA : Nat → ClassId} {E : EE} {n i : Nat} {σ : Wd} {c : PE} (h : σ i = some c) (hi : i < n) : (rl_tw dA E n σ)[i]? = some (rl_ad E i, rl_te dA E c) := by
  simp [rl_tw, h, hi]
theorem rl_tw_set {dA : Nat → ClassId} {E : EE} {n i : Nat} {σ : Wd} {c : PE} : (rl_tw dA E n σ).set i (rl_ad E i, rl_te dA E c) = rl_tw dA E n (rl_up σ i c) := by
  refine List.ext_getElem? fun j => ?_
  rw [List.getElem?_set]
  by_cases hj : i = j
  · subst hj
    by_cases hi : i < n
    · simp [rl_tw, rl_up, hi]
    · simp [rl_tw, hi]
  · rw [if_neg hj]
    by_cases hi : j < n
    · simp [rl_tw, rl_up, hi, Ne.symm hj]
    · simp [rl_tw, hi]
theorem rl_tw_push {dA : Nat → ClassId} {E : EE} {n : Nat} {σ : Wd} {c : PE} : rl_tw dA E (n + 1) (rl_up σ n c) = rl_tw dA E n σ ++ [(rl_ad E n, rl_te dA E c)] := by
  unfold rl_tw
  rw [List.range_succ, List.map_append]
  congr 1
  · refine List.map_congr_left (fun i hi => ?_)
    have := List.mem_range.mp hi
    rw [rl_up_n (by omega)]
  · simp [rl_up_s]
def rl_Hw (dC : Nat → ClassId) (dI : Nat → Nat → Nat) (dA : Nat → ClassId) (E : EE) (n : Nat) (σ : Wd) (H : Heap) : Prop :=
  n ≤ 1000000 ∧ (∀ i, (σ i).isSome = true ↔ i < n) ∧ va_P (dC, dI) vwCl (rl_tw dA E n σ) H
theorem rl_D {dA : Nat → ClassId} {E : EE} {n : Nat} {σ : Wd} (hn : n ≤ 1000000) : va_D (fun q : Nat => E.1 ≤ q) (rl_tw dA E n σ) := by
  have key : ∀ (i : Nat) (p : Nat × va_E), (rl_tw dA E n σ)[i]? = some p → i < n ∧ p.1 = E.1 + i := by
    intro i p h
    have hi : i < n := by
      have := (List.getElem?_eq_some_iff.mp h).1
      simpa [rl_tw] using this
    refine ⟨hi, ?_⟩
    simp [rl_tw, hi] at h
    rw [← h]
    simp [rl_ad, show i < 1000000 by omega]
  refine ⟨fun i j p q hi hj hpq => ?_, fun k q hk => ?_⟩
  · have a := key i p hi
    have b := key j q hj
    omega
  · have a := key k q hk
    show E.1 ≤ q.1
    omega
theorem rl_lt {dC : Nat → ClassId} {dI : Nat → Nat → Nat} {dA : Nat → ClassId} {E : EE} {n : Nat} {σ : Wd} {H : Heap} (h : rl_Hw dC dI dA E n σ H) {i : Nat} {c : PE} (hi : σ i = some c) : i < n := (h.2.1 i).mp (by rw [hi]; rfl)
def rl_nest : List (String × Nat × MethodName × String) := [(RX6, 9, yX4_init, RX6), (RX6, 18, yX0_init, RX6), (RX6, 38, yX5_init, RX6), (RX6, 45, yX3_init, RX6), (RX6, 52, yX1_init, RX6), (RX6, 59, yX2_init, RX6)]
/-- what lies outside the world: a static, the literal, the script -/
def rl_XE (X : Nat × (Nat → Int32)) (E : EE) (U : State) : Prop :=
  va_Z "java/lang/String" "COMPACT_STRINGS" "Z" (.int 1) (fun q => E.1 ≤ q) U U.heap ∧ vk_R "PuddleClaims$Tape" 63 "pskwg" (E.2 1) U ∧ vk_S 1 [5] [[112, 115, 107, 119, 103]] (fun _ => E.2 1) (fun _ => E.2 2) (fun q => E.1 ≤ q) U U.heap ∧ va_X (E.2 0) X.1 X.2 U U.heap ∧ E.2 0 < E.1 ∧ ∀ q ∈ rl_nest, va_Nw (.methodLinkNest q.1 q.2.1 q.2.2.1 q.2.2.2) U
abbrev Cx : Type := Launch × MethodName × ByteArray × Nat × Option FieldType × Nat × Nat × Nat × Nat × (Nat × (Nat → Int32)) × (Option Value → Nat → Wd → Prop)
def rl_rm (d mc ms : Nat) : Room := { frames := d, cells := mc, slots := ms, locals := 64 * d }
def rl_Qp (Q : Option Value → Nat → Wd → Prop) (dC : Nat → ClassId) (dI : Nat → Nat → Nat) (dA : Nat → ClassId) (E : EE) : Array Value → State → Outcome → State → Prop := fun _ st o t =>
  (∃ (v : Option Value) (n' : Nat) (σ' : Wd), o = .returned (v.map (rl_tv E)) ∧ Q v n' σ' ∧ rl_Hw dC dI dA E n' σ' t.heap) ∧ va_F (fun q => E.1 ≤ q) st t
def rl_Fx (cx : Cx) (p : Program) (s : State) (m : MethodId) (args : Array Value) (meth : Method) (c : Code) (dC : Nat → ClassId) (dI : Nat → Nat → Nat) (dA : Nat → ClassId) (E : EE) : Prop :=
  p.tables.exec = Jvm.exec ∧ c.code = cx.2.2.1 ∧ meth.sig.returnType = cx.2.2.2.2.1 ∧ c.maxLocals = cx.2.2.2.1 ∧ s.vm.findClass cx.2.1.cls = some m.cls ∧ (∀ w ∈ g_tbl, w.before args s = true) ∧ meth.locks = false ∧ va_K (dC, dI) vwCl (rl_tys dA) s ∧ rl_XE cx.2.2.2.2.2.2.2.2.2.1 E s ∧ E.1 ≤ s.heap.size ∧ meth.name = cx.2.1.name ∧ (cx.2.2.2.2.2.2.1 = 0 ∨ s.heap.size ≤ E.1 + cx.2.2.2.2.2.2.2.2.1)
def rl_tl (E : EE) : Nat → List (Option Value) → List (Nat × Value)
  | _, [] => []
  | i, none :: l => rl_tl E (i + 1) l
  | i, some v :: l => (i, rl_tv E v) :: rl_tl E (i + 1) l
/-- the judgement: from this frame, over this world, the method comes to its end with Q -/
def R (cx : Cx) (kc ks n : Nat) (σ : Wd) (pc : Nat) (ls : List (Option Value)) (st : List Value) : Prop :=
  ∀ (p : Program) (e : Env) (s : State) (m : MethodId) (args : Array Value) (below : List Frame) (meth : Method) (c : Code) (dC : Nat → ClassId) (dI : Nat → Nat → Nat) (dA : Nat → ClassId) (E : EE) (H : Heap) (locs : List Loc) (la : Array Slot),
    rl_Fx cx p s m args meth c dC dI dA E → rl_Hw dC dI dA E n σ H → va_S (fun q => E.1 ≤ q) s.heap H locs → lv_has la cx.2.2.2.1 (rl_tl E 0 ls) →
    W p cx.1 e (rl_rm cx.2.2.2.2.2.1 cx.2.2.2.2.2.2.1 cx.2.2.2.2.2.2.2.1) s m args below meth c H locs kc ks (MQ below (rl_Qp cx.2.2.2.2.2.2.2.2.2.2 dC dI dA E) args s cx.2.2.2.2.2.2.1 cx.2.2.2.2.2.2.2.1 (fun q => E.1 ≤ q)) (F0 m pc la (st.map (rl_tv E)))
def Con (l : Launch) (y : MethodName) (cc : ByteArray) (nL : Nat) (ret : Option FieldType) (d mc ms : Nat) (X : Nat × (Nat → Int32)) (n : Nat) (args : List Value) (σ : Wd) (Q : Option Value → Nat → Wd → Prop) : Prop :=
  ∀ (dC : Nat → ClassId) (dI : Nat → Nat → Nat) (dA : Nat → ClassId) (E : EE), Met l y (.code y cc nL ret :: g_tbl) (rl_rm d mc ms) (va_Pc (args.map (rl_tv E)) (fun U => rl_Hw dC dI dA E n σ U.heap ∧ va_K (dC, dI) vwCl (rl_tys dA) U ∧ rl_XE X E U ∧ E.1 ≤ U.heap.size ∧ (mc = 0 ∨ U.heap.size ≤ E.1 + n))) (rl_Qp Q dC dI dA E) mc ms (fun q => E.1 ≤ q)
theorem rl_tl_mem {E : EE} : ∀ (ls : List (Option Value)) (i : Nat) (q : Nat × Value), q ∈ rl_tl E i ls ↔ ∃ (j : Nat) (v : Value), ls[j]? = some (some v) ∧ q = (i + j, rl_tv E v) := by
  intro ls
  induction ls with
  | nil => intro i q; simp [rl_tl]
  | cons a ls ih =>
    intro i q
    cases a with
    | none =>
      rw [rl_tl, ih]
      constructor
      · rintro ⟨j, v, h1, h2⟩
        exact ⟨j + 1, v, by simpa using h1, by rw [h2]; congr 1; omega⟩
      · rintro ⟨j, v, h1, h2⟩
        cases j with
        | zero => simp at h1
        | succ j => exact ⟨j, v, by simpa using h1, by rw [h2]; congr 1; omega⟩
    | some x =>
      rw [rl_tl, List.mem_cons, ih]
      constructor
      · rintro (h | ⟨j, v, h1, h2⟩)
        · exact ⟨0, x, rfl, by rw [h]; rfl⟩
        · exact ⟨j + 1, v, by simpa using h1, by rw [h2]; congr 1; omega⟩
      · rintro ⟨j, v, h1, h2⟩
        cases j with
        | zero => simp at h1; subst h1; exact Or.inl h2
        | succ j => exact Or.inr ⟨j, v, by simpa using h1, by rw [h2]; congr 1; omega⟩
theorem rl_at {E : EE} {la : Array Slot} {nL : Nat} {ls : List (Option Value)} (h : lv_has la nL (rl_tl E 0 ls)) {k : Nat} {v : Value} (hk : ls[k]? = some (some v)) : la[k]? = some (.val (rl_tv E v)) :=
  h.2.2 (k, rl_tv E v) ((rl_tl_mem ls 0 _).mpr ⟨k, v, hk, by simp⟩)
/-- no value of two slots just below -/
def rl_ok1 (ls : List (Option Value)) (k : Nat) : Bool := match k with
  | 0 => true
  | k + 1 => match ls[k]? with
    | some (some v) => v.category == 1
    | _ => true
theorem rl_store {E : EE} {la : Array Slot} {nL : Nat} {ls : List (Option Value)} {k : Nat} {v : Value} {f : Nat × Value → Bool} (hf : ∀ q : Nat × Value, q.1 ≠ k → ¬ (q.1 + 1 = k ∧ q.2.category = 2) → f q = true) (ho : rl_ok1 ls k = true) (h : lv_has la nL ((k, rl_tv E v) :: (rl_tl E 0 ls).filter f)) : lv_has la nL (rl_tl E 0 (ls.set k (some v))) := by
  refine ⟨h.1, h.2.1, fun q hq => h.2.2 q ?_⟩
  obtain ⟨j, w, h1, h2⟩ := (rl_tl_mem _ 0 _).mp hq
  rw [List.getElem?_set] at h1
  by_cases hj : k = j
  · subst hj
    rw [if_pos rfl] at h1
    split at h1
    · cases h1
      rw [h2]
      simp
    · cases h1
  · rw [if_neg hj] at h1
    refine List.mem_cons_of_mem _ (List.mem_filter.mpr ⟨(rl_tl_mem _ 0 _).mpr ⟨j, w, h1, h2⟩, hf q ?_ ?_⟩)
    · rw [h2]; simp; omega
    · rw [h2]
      rintro ⟨a, b⟩
      simp at a
      rw [rl_cat] at b
      subst a
      simp [rl_ok1, h1] at ho
      omega
theorem rl_acN : Cond.native arraycopyName ∈ g_tbl := g_mem (by decide +kernel) rfl
theorem rl_acS : Cond.static arraycopyName ∈ g_tbl := g_mem (by decide +kernel) rfl
theorem rl_acI : Cond.initialized "java/lang/System" ∈ g_tbl := g_mem (by decide +kernel) rfl
section RL
variable {cx : Cx} {l : Launch} {y : MethodName} {cc : ByteArray} {nL : Nat} {ret : Option FieldType} {d mc ms n0 : Nat} {X : Nat × (Nat → Int32)} {Q : Option Value → Nat → Wd → Prop} {kc ks n : Nat} {σ : Wd} {pc : Nat} {ls : List (Option Value)} {st : List Value}
theorem R.at {pc' : Nat} (h : pc = pc') (k : R cx kc ks n σ pc' ls st) : R cx kc ks n σ pc ls st := h ▸ k

theorem R.iconst (hc : cx = (l, y, cc, nL, ret, d, mc, ms, n0, X, Q)) {j : Int} {v : Int32} (hv : Int32.ofInt j = v) (hd : decode cc pc = .ok (.iconst j, 1)) (k : R cx kc ks n σ (pc + 1) ls (.int v :: st)) : R cx kc ks n σ pc ls (st) := by
  subst hc
  intro p e s m args below meth c dC dI dA E H locs la F hH hS hl
  exact lv_iconst F.1 F.2.1 hd hv (k p e s m args below meth c dC dI dA E H locs la F hH hS hl)
theorem R.bipush (hc : cx = (l, y, cc, nL, ret, d, mc, ms, n0, X, Q)) {j : Int} {v : Int32} (hv : (Int8.ofInt j).toInt32 = v) (hd : decode cc pc = .ok (.bipush j, 2)) (k : R cx kc ks n σ (pc + 2) ls (.int v :: st)) : R cx kc ks n σ pc ls (st) := by
  subst hc
  intro p e s m args below meth c dC dI dA E H locs la F hH hS hl
  exact lv_bipush F.1 F.2.1 hd hv (k p e s m args below meth c dC dI dA E H locs la F hH hS hl)
theorem R.sipush (hc : cx = (l, y, cc, nL, ret, d, mc, ms, n0, X, Q)) {j : Int} {v : Int32} (hv : (Int16.ofInt j).toInt32 = v) (hd : decode cc pc = .ok (.sipush j, 3)) (k : R cx kc ks n σ (pc + 3) ls (.int v :: st)) : R cx kc ks n σ pc ls (st) := by
  subst hc
  intro p e s m args below meth c dC dI dA E H locs la F hH hS hl
  exact lv_sipush F.1 F.2.1 hd hv (k p e s m args below meth c dC dI dA E H locs la F hH hS hl)
theorem R.lconst (hc : cx = (l, y, cc, nL, ret, d, mc, ms, n0, X, Q)) {j : Fin 2} {v : Int64} (hv : Int64.ofNat (j : Nat) = v) (hd : decode cc pc = .ok (.lconst j, 1)) (k : R cx kc ks n σ (pc + 1) ls (.long v :: st)) : R cx kc ks n σ pc ls (st) := by
  subst hc
  intro p e s m args below meth c dC dI dA E H locs la F hH hS hl
  exact lv_lconst F.1 F.2.1 hd hv (k p e s m args below meth c dC dI dA E H locs la F hH hS hl)
theorem R.ldc (hc : cx = (l, y, cc, nL, ret, d, mc, ms, n0, X, Q)) {idx : Nat} {v : Int32} (hw : Cond.constant y.cls idx v ∈ g_tbl) (hd : decode cc pc = .ok (.ldc idx, 2)) (k : R cx kc ks n σ (pc + 2) ls (.int v :: st)) : R cx kc ks n σ pc ls (st) := by
  subst hc
  intro p e s m args below meth c dC dI dA E H locs la F hH hS hl
  exact lv_ldc F.1 F.2.1 F.2.2.2.2.1 (F.2.2.2.2.2.1 _ hw) hd (k p e s m args below meth c dC dI dA E H locs la F hH hS hl)
theorem R.ldcw (hc : cx = (l, y, cc, nL, ret, d, mc, ms, n0, X, Q)) {idx : Nat} {v : Int32} (hw : Cond.constant y.cls idx v ∈ g_tbl) (hd : decode cc pc = .ok (.ldc_w idx, 3)) (k : R cx kc ks n σ (pc + 3) ls (.int v :: st)) : R cx kc ks n σ pc ls (st) := by
  subst hc
  intro p e s m args below meth c dC dI dA E H locs la F hH hS hl
  exact lv_ldcw F.1 F.2.1 F.2.2.2.2.1 (F.2.2.2.2.2.1 _ hw) hd (k p e s m args below meth c dC dI dA E H locs la F hH hS hl)
theorem R.ldc2 (hc : cx = (l, y, cc, nL, ret, d, mc, ms, n0, X, Q)) {idx : Nat} {v : Int64} (hw : Cond.constantLong y.cls idx v ∈ g_tbl) (hd : decode cc pc = .ok (.ldc2_w idx, 3)) (k : R cx kc ks n σ (pc + 3) ls (.long v :: st)) : R cx kc ks n σ pc ls (st) := by
  subst hc
  intro p e s m args below meth c dC dI dA E H locs la F hH hS hl
  exact lv_ldc2 F.1 F.2.1 F.2.2.2.2.1 (F.2.2.2.2.2.1 _ hw) hd (k p e s m args below meth c dC dI dA E H locs la F hH hS hl)
theorem R.iload_n (hc : cx = (l, y, cc, nL, ret, d, mc, ms, n0, X, Q)) {j : Fin 4} {i : Nat} {x : Int32} (hi : (j : Nat) = i) (hk : ls[i]? = some (some (.int x))) (hd : decode cc pc = .ok (.iload_n j, 1)) (k : R cx kc ks n σ (pc + 1) ls (.int x :: st)) : R cx kc ks n σ pc ls (st) := by
  subst hc
  intro p e s m args below meth c dC dI dA E H locs la F hH hS hl
  exact lv_iload_n F.1 F.2.1 hd hi (rl_at hl hk) (k p e s m args below meth c dC dI dA E H locs la F hH hS hl)
theorem R.iload (hc : cx = (l, y, cc, nL, ret, d, mc, ms, n0, X, Q)) {i : Nat} {x : Int32} (hk : ls[i]? = some (some (.int x))) (hd : decode cc pc = .ok (.iload i, 2)) (k : R cx kc ks n σ (pc + 2) ls (.int x :: st)) : R cx kc ks n σ pc ls (st) := by
  subst hc
  intro p e s m args below meth c dC dI dA E H locs la F hH hS hl
  exact lv_iload F.1 F.2.1 hd (rl_at hl hk) (k p e s m args below meth c dC dI dA E H locs la F hH hS hl)
theorem R.lload_n (hc : cx = (l, y, cc, nL, ret, d, mc, ms, n0, X, Q)) {j : Fin 4} {i : Nat} {x : Int64} (hi : (j : Nat) = i) (hk : ls[i]? = some (some (.long x))) (hd : decode cc pc = .ok (.lload_n j, 1)) (k : R cx kc ks n σ (pc + 1) ls (.long x :: st)) : R cx kc ks n σ pc ls (st) := by
  subst hc
  intro p e s m args below meth c dC dI dA E H locs la F hH hS hl
  exact lv_lload_n F.1 F.2.1 hd hi (rl_at hl hk) (k p e s m args below meth c dC dI dA E H locs la F hH hS hl)
theorem R.lload (hc : cx = (l, y, cc, nL, ret, d, mc, ms, n0, X, Q)) {i : Nat} {x : Int64} (hk : ls[i]? = some (some (.long x))) (hd : decode cc pc = .ok (.lload i, 2)) (k : R cx kc ks n σ (pc + 2) ls (.long x :: st)) : R cx kc ks n σ pc ls (st) := by
  subst hc
  intro p e s m args below meth c dC dI dA E H locs la F hH hS hl
  exact lv_lload F.1 F.2.1 hd (rl_at hl hk) (k p e s m args below meth c dC dI dA E H locs la F hH hS hl)
theorem R.aload_n (hc : cx = (l, y, cc, nL, ret, d, mc, ms, n0, X, Q)) {j : Fin 4} {i : Nat} {x : Nat} (hi : (j : Nat) = i) (hk : ls[i]? = some (some (.ref x))) (hd : decode cc pc = .ok (.aload_n j, 1)) (k : R cx kc ks n σ (pc + 1) ls (.ref x :: st)) : R cx kc ks n σ pc ls (st) := by
  subst hc
  intro p e s m args below meth c dC dI dA E H locs la F hH hS hl
  exact lv_aload_n F.1 F.2.1 hd hi (rl_at hl hk) (k p e s m args below meth c dC dI dA E H locs la F hH hS hl)
theorem R.aload (hc : cx = (l, y, cc, nL, ret, d, mc, ms, n0, X, Q)) {i : Nat} {x : Nat} (hk : ls[i]? = some (some (.ref x))) (hd : decode cc pc = .ok (.aload i, 2)) (k : R cx kc ks n σ (pc + 2) ls (.ref x :: st)) : R cx kc ks n σ pc ls (st) := by
  subst hc
  intro p e s m args below meth c dC dI dA E H locs la F hH hS hl
  exact lv_aload F.1 F.2.1 hd (rl_at hl hk) (k p e s m args below meth c dC dI dA E H locs la F hH hS hl)
theorem R.iadd (hc : cx = (l, y, cc, nL, ret, d, mc, ms, n0, X, Q)) {x z : Int32} (hd : decode cc pc = .ok (.iadd, 1)) (k : R cx kc ks n σ (pc + 1) ls (.int (x + z) :: st)) : R cx kc ks n σ pc ls (.int z :: .int x :: st) := by
  subst hc
  intro p e s m args below meth c dC dI dA E H locs la F hH hS hl
  exact lv_iadd F.1 F.2.1 hd (k p e s m args below meth c dC dI dA E H locs la F hH hS hl)
theorem R.isub (hc : cx = (l, y, cc, nL, ret, d, mc, ms, n0, X, Q)) {x z : Int32} (hd : decode cc pc = .ok (.isub, 1)) (k : R cx kc ks n σ (pc + 1) ls (.int (x - z) :: st)) : R cx kc ks n σ pc ls (.int z :: .int x :: st) := by
  subst hc
  intro p e s m args below meth c dC dI dA E H locs la F hH hS hl
  exact lv_isub F.1 F.2.1 hd (k p e s m args below meth c dC dI dA E H locs la F hH hS hl)
theorem R.imul (hc : cx = (l, y, cc, nL, ret, d, mc, ms, n0, X, Q)) {x z : Int32} (hd : decode cc pc = .ok (.imul, 1)) (k : R cx kc ks n σ (pc + 1) ls (.int (x * z) :: st)) : R cx kc ks n σ pc ls (.int z :: .int x :: st) := by
  subst hc
  intro p e s m args below meth c dC dI dA E H locs la F hH hS hl
  exact lv_imul F.1 F.2.1 hd (k p e s m args below meth c dC dI dA E H locs la F hH hS hl)
theorem R.iand (hc : cx = (l, y, cc, nL, ret, d, mc, ms, n0, X, Q)) {x z : Int32} (hd : decode cc pc = .ok (.iand, 1)) (k : R cx kc ks n σ (pc + 1) ls (.int (x &&& z) :: st)) : R cx kc ks n σ pc ls (.int z :: .int x :: st) := by
  subst hc
  intro p e s m args below meth c dC dI dA E H locs la F hH hS hl
  exact lv_iand F.1 F.2.1 hd (k p e s m args below meth c dC dI dA E H locs la F hH hS hl)
theorem R.ior (hc : cx = (l, y, cc, nL, ret, d, mc, ms, n0, X, Q)) {x z : Int32} (hd : decode cc pc = .ok (.ior, 1)) (k : R cx kc ks n σ (pc + 1) ls (.int (x ||| z) :: st)) : R cx kc ks n σ pc ls (.int z :: .int x :: st) := by
  subst hc
  intro p e s m args below meth c dC dI dA E H locs la F hH hS hl
  exact lv_ior F.1 F.2.1 hd (k p e s m args below meth c dC dI dA E H locs la F hH hS hl)
theorem R.ixor (hc : cx = (l, y, cc, nL, ret, d, mc, ms, n0, X, Q)) {x z : Int32} (hd : decode cc pc = .ok (.ixor, 1)) (k : R cx kc ks n σ (pc + 1) ls (.int (x ^^^ z) :: st)) : R cx kc ks n σ pc ls (.int z :: .int x :: st) := by
  subst hc
  intro p e s m args below meth c dC dI dA E H locs la F hH hS hl
  exact lv_ixor F.1 F.2.1 hd (k p e s m args below meth c dC dI dA E H locs la F hH hS hl)
theorem R.ishl (hc : cx = (l, y, cc, nL, ret, d, mc, ms, n0, X, Q)) {x z : Int32} (hd : decode cc pc = .ok (.ishl, 1)) (k : R cx kc ks n σ (pc + 1) ls (.int (x <<< (z &&& 31)) :: st)) : R cx kc ks n σ pc ls (.int z :: .int x :: st) := by
  subst hc
  intro p e s m args below meth c dC dI dA E H locs la F hH hS hl
  exact lv_ishl F.1 F.2.1 hd (k p e s m args below meth c dC dI dA E H locs la F hH hS hl)
theorem R.ishr (hc : cx = (l, y, cc, nL, ret, d, mc, ms, n0, X, Q)) {x z : Int32} (hd : decode cc pc = .ok (.ishr, 1)) (k : R cx kc ks n σ (pc + 1) ls (.int (x >>> (z &&& 31)) :: st)) : R cx kc ks n σ pc ls (.int z :: .int x :: st) := by
  subst hc
  intro p e s m args below meth c dC dI dA E H locs la F hH hS hl
  exact lv_ishr F.1 F.2.1 hd (k p e s m args below meth c dC dI dA E H locs la F hH hS hl)
theorem R.idiv (hc : cx = (l, y, cc, nL, ret, d, mc, ms, n0, X, Q)) {x z : Int32} (hne : ¬ z = 0) (hd : decode cc pc = .ok (.idiv, 1)) (k : R cx kc ks n σ (pc + 1) ls (.int (x / z) :: st)) : R cx kc ks n σ pc ls (.int z :: .int x :: st) := by
  subst hc
  intro p e s m args below meth c dC dI dA E H locs la F hH hS hl
  exact lv_idiv F.1 F.2.1 hd hne (k p e s m args below meth c dC dI dA E H locs la F hH hS hl)
theorem R.irem (hc : cx = (l, y, cc, nL, ret, d, mc, ms, n0, X, Q)) {x z : Int32} (hne : ¬ z = 0) (hd : decode cc pc = .ok (.irem, 1)) (k : R cx kc ks n σ (pc + 1) ls (.int (x - x / z * z) :: st)) : R cx kc ks n σ pc ls (.int z :: .int x :: st) := by
  subst hc
  intro p e s m args below meth c dC dI dA E H locs la F hH hS hl
  exact lv_irem F.1 F.2.1 hd hne (k p e s m args below meth c dC dI dA E H locs la F hH hS hl)
theorem R.iushr (hc : cx = (l, y, cc, nL, ret, d, mc, ms, n0, X, Q)) {x z : Int32} (hd : decode cc pc = .ok (.iushr, 1)) (k : R cx kc ks n σ (pc + 1) ls (.int (x.toUInt32 >>> (z.toUInt32 &&& Int32.toUInt32 31)).toInt32 :: st)) : R cx kc ks n σ pc ls (.int z :: .int x :: st) := by
  subst hc
  intro p e s m args below meth c dC dI dA E H locs la F hH hS hl
  exact lv_iushr F.1 F.2.1 hd rfl (k p e s m args below meth c dC dI dA E H locs la F hH hS hl)
theorem R.ladd (hc : cx = (l, y, cc, nL, ret, d, mc, ms, n0, X, Q)) {x z : Int64} (hd : decode cc pc = .ok (.ladd, 1)) (k : R cx kc ks n σ (pc + 1) ls (.long (x + z) :: st)) : R cx kc ks n σ pc ls (.long z :: .long x :: st) := by
  subst hc
  intro p e s m args below meth c dC dI dA E H locs la F hH hS hl
  exact lv_ladd F.1 F.2.1 hd (k p e s m args below meth c dC dI dA E H locs la F hH hS hl)
theorem R.lmul (hc : cx = (l, y, cc, nL, ret, d, mc, ms, n0, X, Q)) {x z : Int64} (hd : decode cc pc = .ok (.lmul, 1)) (k : R cx kc ks n σ (pc + 1) ls (.long (x * z) :: st)) : R cx kc ks n σ pc ls (.long z :: .long x :: st) := by
  subst hc
  intro p e s m args below meth c dC dI dA E H locs la F hH hS hl
  exact lv_lmul F.1 F.2.1 hd (k p e s m args below meth c dC dI dA E H locs la F hH hS hl)
theorem R.land (hc : cx = (l, y, cc, nL, ret, d, mc, ms, n0, X, Q)) {x z : Int64} (hd : decode cc pc = .ok (.land, 1)) (k : R cx kc ks n σ (pc + 1) ls (.long (x &&& z) :: st)) : R cx kc ks n σ pc ls (.long z :: .long x :: st) := by
  subst hc
  intro p e s m args below meth c dC dI dA E H locs la F hH hS hl
  exact lv_land F.1 F.2.1 hd (k p e s m args below meth c dC dI dA E H locs la F hH hS hl)
theorem R.lor (hc : cx = (l, y, cc, nL, ret, d, mc, ms, n0, X, Q)) {x z : Int64} (hd : decode cc pc = .ok (.lor, 1)) (k : R cx kc ks n σ (pc + 1) ls (.long (x ||| z) :: st)) : R cx kc ks n σ pc ls (.long z :: .long x :: st) := by
  subst hc
  intro p e s m args below meth c dC dI dA E H locs la F hH hS hl
  exact lv_lor F.1 F.2.1 hd (k p e s m args below meth c dC dI dA E H locs la F hH hS hl)
theorem R.lshl (hc : cx = (l, y, cc, nL, ret, d, mc, ms, n0, X, Q)) {x : Int64} {z : Int32} (hd : decode cc pc = .ok (.lshl, 1)) (k : R cx kc ks n σ (pc + 1) ls (.long (x <<< (z.toInt64 &&& 63)) :: st)) : R cx kc ks n σ pc ls (.int z :: .long x :: st) := by
  subst hc
  intro p e s m args below meth c dC dI dA E H locs la F hH hS hl
  exact lv_lshl F.1 F.2.1 hd rfl (k p e s m args below meth c dC dI dA E H locs la F hH hS hl)
theorem R.lcmp (hc : cx = (l, y, cc, nL, ret, d, mc, ms, n0, X, Q)) {x z : Int64} (hd : decode cc pc = .ok (.lcmp, 1)) (k : R cx kc ks n σ (pc + 1) ls (.int (lg_cmp x z) :: st)) : R cx kc ks n σ pc ls (.long z :: .long x :: st) := by
  subst hc
  intro p e s m args below meth c dC dI dA E H locs la F hH hS hl
  exact W.lcmp F.1 F.2.1 hd (k p e s m args below meth c dC dI dA E H locs la F hH hS hl)
theorem R.i2l (hc : cx = (l, y, cc, nL, ret, d, mc, ms, n0, X, Q)) {x : Int32} (hd : decode cc pc = .ok (.i2l, 1)) (k : R cx kc ks n σ (pc + 1) ls (.long x.toInt64 :: st)) : R cx kc ks n σ pc ls (.int x :: st) := by
  subst hc
  intro p e s m args below meth c dC dI dA E H locs la F hH hS hl
  exact lv_i2l F.1 F.2.1 hd rfl (k p e s m args below meth c dC dI dA E H locs la F hH hS hl)
theorem R.l2i (hc : cx = (l, y, cc, nL, ret, d, mc, ms, n0, X, Q)) {x : Int64} (hd : decode cc pc = .ok (.l2i, 1)) (k : R cx kc ks n σ (pc + 1) ls (.int x.toInt32 :: st)) : R cx kc ks n σ pc ls (.long x :: st) := by
  subst hc
  intro p e s m args below meth c dC dI dA E H locs la F hH hS hl
  exact lv_l2i F.1 F.2.1 hd rfl (k p e s m args below meth c dC dI dA E H locs la F hH hS hl)
theorem R.i2b (hc : cx = (l, y, cc, nL, ret, d, mc, ms, n0, X, Q)) {x : Int32} (hd : decode cc pc = .ok (.i2b, 1)) (k : R cx kc ks n σ (pc + 1) ls (.int x.toInt8.toInt32 :: st)) : R cx kc ks n σ pc ls (.int x :: st) := by
  subst hc
  intro p e s m args below meth c dC dI dA E H locs la F hH hS hl
  exact lv_i2b F.1 F.2.1 hd rfl (k p e s m args below meth c dC dI dA E H locs la F hH hS hl)
theorem R.i2s (hc : cx = (l, y, cc, nL, ret, d, mc, ms, n0, X, Q)) {x : Int32} (hd : decode cc pc = .ok (.i2s, 1)) (k : R cx kc ks n σ (pc + 1) ls (.int x.toInt16.toInt32 :: st)) : R cx kc ks n σ pc ls (.int x :: st) := by
  subst hc
  intro p e s m args below meth c dC dI dA E H locs la F hH hS hl
  exact lv_i2s F.1 F.2.1 hd rfl (k p e s m args below meth c dC dI dA E H locs la F hH hS hl)
theorem R.i2c (hc : cx = (l, y, cc, nL, ret, d, mc, ms, n0, X, Q)) {x : Int32} (hd : decode cc pc = .ok (.i2c, 1)) (k : R cx kc ks n σ (pc + 1) ls (.int (x.toUInt32 % 65536).toInt32 :: st)) : R cx kc ks n σ pc ls (.int x :: st) := by
  subst hc
  intro p e s m args below meth c dC dI dA E H locs la F hH hS hl
  exact lv_i2c F.1 F.2.1 hd rfl (k p e s m args below meth c dC dI dA E H locs la F hH hS hl)
theorem R.dup (hc : cx = (l, y, cc, nL, ret, d, mc, ms, n0, X, Q)) {v : Value} (hv : v.category = 1) (hd : decode cc pc = .ok (.dup, 1)) (k : R cx kc ks n σ (pc + 1) ls (v :: v :: st)) : R cx kc ks n σ pc ls (v :: st) := by
  subst hc
  intro p e s m args below meth c dC dI dA E H locs la F hH hS hl
  exact lv_dup F.1 F.2.1 hd ((rl_cat E v).trans hv) (k p e s m args below meth c dC dI dA E H locs la F hH hS hl)
theorem R.pop (hc : cx = (l, y, cc, nL, ret, d, mc, ms, n0, X, Q)) {v : Value} (hv : v.category = 1) (hd : decode cc pc = .ok (.pop, 1)) (k : R cx kc ks n σ (pc + 1) ls (st)) : R cx kc ks n σ pc ls (v :: st) := by
  subst hc
  intro p e s m args below meth c dC dI dA E H locs la F hH hS hl
  exact lv_pop F.1 F.2.1 hd ((rl_cat E v).trans hv) (k p e s m args below meth c dC dI dA E H locs la F hH hS hl)
theorem R.dup2 (hc : cx = (l, y, cc, nL, ret, d, mc, ms, n0, X, Q)) {v u : Value} (hv : v.category = 1) (hu : u.category = 1) (hd : decode cc pc = .ok (.dup2, 1)) (k : R cx kc ks n σ (pc + 1) ls (v :: u :: v :: u :: st)) : R cx kc ks n σ pc ls (v :: u :: st) := by
  subst hc
  intro p e s m args below meth c dC dI dA E H locs la F hH hS hl
  exact lv_dup2_11 F.1 F.2.1 hd ((rl_cat E v).trans hv) ((rl_cat E u).trans hu) (k p e s m args below meth c dC dI dA E H locs la F hH hS hl)
theorem R.if_eq (hc : cx = (l, y, cc, nL, ret, d, mc, ms, n0, X, Q)) {x : Int32} {off : Int} {tgt : Nat} (hd : decode cc pc = .ok (.ifCond .eq off, 3)) (ht : (pc : Int) + off = (tgt : Int)) (kt : x = 0 → R cx kc ks n σ tgt ls st) (kf : ¬ x = 0 → R cx kc ks n σ (pc + 3) ls st) : R cx kc ks n σ pc ls (.int x :: st) := by
  subst hc
  intro p e s m args below meth c dC dI dA E H locs la F hH hS hl
  exact lv_if_eq F.1 F.2.1 hd ht (fun q => kt q p e s m args below meth c dC dI dA E H locs la F hH hS hl) (fun q => kf q p e s m args below meth c dC dI dA E H locs la F hH hS hl)
theorem R.icmp_eq (hc : cx = (l, y, cc, nL, ret, d, mc, ms, n0, X, Q)) {x z : Int32} {off : Int} {tgt : Nat} (hd : decode cc pc = .ok (.if_icmp .eq off, 3)) (ht : (pc : Int) + off = (tgt : Int)) (kt : x = z → R cx kc ks n σ tgt ls st) (kf : ¬ x = z → R cx kc ks n σ (pc + 3) ls st) : R cx kc ks n σ pc ls (.int z :: .int x :: st) := by
  subst hc
  intro p e s m args below meth c dC dI dA E H locs la F hH hS hl
  exact lv_icmp_eq F.1 F.2.1 hd ht (fun q => kt q p e s m args below meth c dC dI dA E H locs la F hH hS hl) (fun q => kf q p e s m args below meth c dC dI dA E H locs la F hH hS hl)
theorem R.if_ne (hc : cx = (l, y, cc, nL, ret, d, mc, ms, n0, X, Q)) {x : Int32} {off : Int} {tgt : Nat} (hd : decode cc pc = .ok (.ifCond .ne off, 3)) (ht : (pc : Int) + off = (tgt : Int)) (kt : ¬ x = 0 → R cx kc ks n σ tgt ls st) (kf : x = 0 → R cx kc ks n σ (pc + 3) ls st) : R cx kc ks n σ pc ls (.int x :: st) := by
  subst hc
  intro p e s m args below meth c dC dI dA E H locs la F hH hS hl
  exact lv_if_ne F.1 F.2.1 hd ht (fun q => kt q p e s m args below meth c dC dI dA E H locs la F hH hS hl) (fun q => kf q p e s m args below meth c dC dI dA E H locs la F hH hS hl)
theorem R.icmp_ne (hc : cx = (l, y, cc, nL, ret, d, mc, ms, n0, X, Q)) {x z : Int32} {off : Int} {tgt : Nat} (hd : decode cc pc = .ok (.if_icmp .ne off, 3)) (ht : (pc : Int) + off = (tgt : Int)) (kt : ¬ x = z → R cx kc ks n σ tgt ls st) (kf : x = z → R cx kc ks n σ (pc + 3) ls st) : R cx kc ks n σ pc ls (.int z :: .int x :: st) := by
  subst hc
  intro p e s m args below meth c dC dI dA E H locs la F hH hS hl
  exact lv_icmp_ne F.1 F.2.1 hd ht (fun q => kt q p e s m args below meth c dC dI dA E H locs la F hH hS hl) (fun q => kf q p e s m args below meth c dC dI dA E H locs la F hH hS hl)
theorem R.if_lt (hc : cx = (l, y, cc, nL, ret, d, mc, ms, n0, X, Q)) {x : Int32} {off : Int} {tgt : Nat} (hd : decode cc pc = .ok (.ifCond .lt off, 3)) (ht : (pc : Int) + off = (tgt : Int)) (kt : x < 0 → R cx kc ks n σ tgt ls st) (kf : ¬ x < 0 → R cx kc ks n σ (pc + 3) ls st) : R cx kc ks n σ pc ls (.int x :: st) := by
  subst hc
  intro p e s m args below meth c dC dI dA E H locs la F hH hS hl
  exact lv_if_lt F.1 F.2.1 hd ht (fun q => kt q p e s m args below meth c dC dI dA E H locs la F hH hS hl) (fun q => kf q p e s m args below meth c dC dI dA E H locs la F hH hS hl)
theorem R.icmp_lt (hc : cx = (l, y, cc, nL, ret, d, mc, ms, n0, X, Q)) {x z : Int32} {off : Int} {tgt : Nat} (hd : decode cc pc = .ok (.if_icmp .lt off, 3)) (ht : (pc : Int) + off = (tgt : Int)) (kt : x < z → R cx kc ks n σ tgt ls st) (kf : ¬ x < z → R cx kc ks n σ (pc + 3) ls st) : R cx kc ks n σ pc ls (.int z :: .int x :: st) := by
  subst hc
  intro p e s m args below meth c dC dI dA E H locs la F hH hS hl
  exact lv_icmp_lt F.1 F.2.1 hd ht (fun q => kt q p e s m args below meth c dC dI dA E H locs la F hH hS hl) (fun q => kf q p e s m args below meth c dC dI dA E H locs la F hH hS hl)
theorem R.if_ge (hc : cx = (l, y, cc, nL, ret, d, mc, ms, n0, X, Q)) {x : Int32} {off : Int} {tgt : Nat} (hd : decode cc pc = .ok (.ifCond .ge off, 3)) (ht : (pc : Int) + off = (tgt : Int)) (kt : 0 ≤ x → R cx kc ks n σ tgt ls st) (kf : ¬ 0 ≤ x → R cx kc ks n σ (pc + 3) ls st) : R cx kc ks n σ pc ls (.int x :: st) := by
  subst hc
  intro p e s m args below meth c dC dI dA E H locs la F hH hS hl
  exact lv_if_ge F.1 F.2.1 hd ht (fun q => kt q p e s m args below meth c dC dI dA E H locs la F hH hS hl) (fun q => kf q p e s m args below meth c dC dI dA E H locs la F hH hS hl)
theorem R.icmp_ge (hc : cx = (l, y, cc, nL, ret, d, mc, ms, n0, X, Q)) {x z : Int32} {off : Int} {tgt : Nat} (hd : decode cc pc = .ok (.if_icmp .ge off, 3)) (ht : (pc : Int) + off = (tgt : Int)) (kt : z ≤ x → R cx kc ks n σ tgt ls st) (kf : ¬ z ≤ x → R cx kc ks n σ (pc + 3) ls st) : R cx kc ks n σ pc ls (.int z :: .int x :: st) := by
  subst hc
  intro p e s m args below meth c dC dI dA E H locs la F hH hS hl
  exact lv_icmp_ge F.1 F.2.1 hd ht (fun q => kt q p e s m args below meth c dC dI dA E H locs la F hH hS hl) (fun q => kf q p e s m args below meth c dC dI dA E H locs la F hH hS hl)
theorem R.if_gt (hc : cx = (l, y, cc, nL, ret, d, mc, ms, n0, X, Q)) {x : Int32} {off : Int} {tgt : Nat} (hd : decode cc pc = .ok (.ifCond .gt off, 3)) (ht : (pc : Int) + off = (tgt : Int)) (kt : 0 < x → R cx kc ks n σ tgt ls st) (kf : ¬ 0 < x → R cx kc ks n σ (pc + 3) ls st) : R cx kc ks n σ pc ls (.int x :: st) := by
  subst hc
  intro p e s m args below meth c dC dI dA E H locs la F hH hS hl
  exact lv_if_gt F.1 F.2.1 hd ht (fun q => kt q p e s m args below meth c dC dI dA E H locs la F hH hS hl) (fun q => kf q p e s m args below meth c dC dI dA E H locs la F hH hS hl)
theorem R.icmp_gt (hc : cx = (l, y, cc, nL, ret, d, mc, ms, n0, X, Q)) {x z : Int32} {off : Int} {tgt : Nat} (hd : decode cc pc = .ok (.if_icmp .gt off, 3)) (ht : (pc : Int) + off = (tgt : Int)) (kt : z < x → R cx kc ks n σ tgt ls st) (kf : ¬ z < x → R cx kc ks n σ (pc + 3) ls st) : R cx kc ks n σ pc ls (.int z :: .int x :: st) := by
  subst hc
  intro p e s m args below meth c dC dI dA E H locs la F hH hS hl
  exact lv_icmp_gt F.1 F.2.1 hd ht (fun q => kt q p e s m args below meth c dC dI dA E H locs la F hH hS hl) (fun q => kf q p e s m args below meth c dC dI dA E H locs la F hH hS hl)
theorem R.if_le (hc : cx = (l, y, cc, nL, ret, d, mc, ms, n0, X, Q)) {x : Int32} {off : Int} {tgt : Nat} (hd : decode cc pc = .ok (.ifCond .le off, 3)) (ht : (pc : Int) + off = (tgt : Int)) (kt : x ≤ 0 → R cx kc ks n σ tgt ls st) (kf : ¬ x ≤ 0 → R cx kc ks n σ (pc + 3) ls st) : R cx kc ks n σ pc ls (.int x :: st) := by
  subst hc
  intro p e s m args below meth c dC dI dA E H locs la F hH hS hl
  exact lv_if_le F.1 F.2.1 hd ht (fun q => kt q p e s m args below meth c dC dI dA E H locs la F hH hS hl) (fun q => kf q p e s m args below meth c dC dI dA E H locs la F hH hS hl)
theorem R.icmp_le (hc : cx = (l, y, cc, nL, ret, d, mc, ms, n0, X, Q)) {x z : Int32} {off : Int} {tgt : Nat} (hd : decode cc pc = .ok (.if_icmp .le off, 3)) (ht : (pc : Int) + off = (tgt : Int)) (kt : x ≤ z → R cx kc ks n σ tgt ls st) (kf : ¬ x ≤ z → R cx kc ks n σ (pc + 3) ls st) : R cx kc ks n σ pc ls (.int z :: .int x :: st) := by
  subst hc
  intro p e s m args below meth c dC dI dA E H locs la F hH hS hl
  exact lv_icmp_le F.1 F.2.1 hd ht (fun q => kt q p e s m args below meth c dC dI dA E H locs la F hH hS hl) (fun q => kf q p e s m args below meth c dC dI dA E H locs la F hH hS hl)
theorem R.goto (hc : cx = (l, y, cc, nL, ret, d, mc, ms, n0, X, Q)) {off : Int} {tgt : Nat} (hd : decode cc pc = .ok (.goto off, 3)) (ht : (pc : Int) + off = (tgt : Int)) (k : R cx kc ks n σ tgt ls st) : R cx kc ks n σ pc ls st := by
  subst hc
  intro p e s m args below meth c dC dI dA E H locs la F hH hS hl
  exact lv_goto F.1 F.2.1 hd ht (k p e s m args below meth c dC dI dA E H locs la F hH hS hl)
theorem R.tabIn (hc : cx = (l, y, cc, nL, ret, d, mc, ms, n0, X, Q)) {dflt lo hi : Int} {offs : Array Int} {len : Nat} {x : Int32} {off : Int} {tgt : Nat} (hd : decode cc pc = .ok (.tableswitch dflt lo hi offs, len)) (h1 : ¬ x.toInt < lo) (h2 : ¬ hi < x.toInt) (ho : offs[(x.toInt - lo).toNat]? = some off) (ht : (pc : Int) + off = (tgt : Int)) (k : R cx kc ks n σ tgt ls st) : R cx kc ks n σ pc ls (.int x :: st) := by
  subst hc
  intro p e s m args below meth c dC dI dA E H locs la F hH hS hl
  exact lv_tableIn F.1 F.2.1 hd h1 h2 ho ht (k p e s m args below meth c dC dI dA E H locs la F hH hS hl)
theorem R.tabOut (hc : cx = (l, y, cc, nL, ret, d, mc, ms, n0, X, Q)) {dflt lo hi : Int} {offs : Array Int} {len : Nat} {x : Int32} {tgt : Nat} (hd : decode cc pc = .ok (.tableswitch dflt lo hi offs, len)) (h : x.toInt < lo ∨ hi < x.toInt) (ht : (pc : Int) + dflt = (tgt : Int)) (k : R cx kc ks n σ tgt ls st) : R cx kc ks n σ pc ls (.int x :: st) := by
  subst hc
  intro p e s m args below meth c dC dI dA E H locs la F hH hS hl
  exact lv_tableOut F.1 F.2.1 hd h ht (k p e s m args below meth c dC dI dA E H locs la F hH hS hl)
theorem R.istore_n (hc : cx = (l, y, cc, nL, ret, d, mc, ms, n0, X, Q)) {j : Fin 4} {i : Nat} (hi : (j : Nat) = i) {x : Int32} {ls' : List (Option Value)} (hd : decode cc pc = .ok (.istore_n j, 1)) (hn : i < nL) (ho : rl_ok1 ls i = true) (hs : ls.set i (some (.int x)) = ls') (k : R cx kc ks n σ (pc + 1) ls' st) : R cx kc ks n σ pc ls (.int x :: st) := by
  subst hc
  intro p e s m args below meth c dC dI dA E H locs la F hH hS hl
  subst hs
  refine lv_istore_n F.1 F.2.1 hd hi hl hn rfl (fun la hl => k p e s m args below meth c dC dI dA E H locs la F hH hS (rl_store (v := .int x) (fun q a b => by simp only [Bool.and_eq_true, Bool.not_eq_true', beq_eq_false_iff_ne, ne_eq, Bool.and_eq_false_iff]; exact ⟨a, by by_cases z : q.1 + 1 = i; exact Or.inr (fun y => b ⟨z, y⟩); exact Or.inl z⟩) ho hl))
theorem R.istore (hc : cx = (l, y, cc, nL, ret, d, mc, ms, n0, X, Q)) {i : Nat} {x : Int32} {ls' : List (Option Value)} (hd : decode cc pc = .ok (.istore i, 2)) (hn : i < nL) (ho : rl_ok1 ls i = true) (hs : ls.set i (some (.int x)) = ls') (k : R cx kc ks n σ (pc + 2) ls' st) : R cx kc ks n σ pc ls (.int x :: st) := by
  subst hc
  intro p e s m args below meth c dC dI dA E H locs la F hH hS hl
  subst hs
  refine lv_istore F.1 F.2.1 hd hl hn rfl (fun la hl => k p e s m args below meth c dC dI dA E H locs la F hH hS (rl_store (v := .int x) (fun q a b => by simp only [Bool.and_eq_true, Bool.not_eq_true', beq_eq_false_iff_ne, ne_eq, Bool.and_eq_false_iff]; exact ⟨a, by by_cases z : q.1 + 1 = i; exact Or.inr (fun y => b ⟨z, y⟩); exact Or.inl z⟩) ho hl))
theorem R.astore_n (hc : cx = (l, y, cc, nL, ret, d, mc, ms, n0, X, Q)) {j : Fin 4} {i : Nat} (hi : (j : Nat) = i) {x : Nat} {ls' : List (Option Value)} (hd : decode cc pc = .ok (.astore_n j, 1)) (hn : i < nL) (ho : rl_ok1 ls i = true) (hs : ls.set i (some (.ref x)) = ls') (k : R cx kc ks n σ (pc + 1) ls' st) : R cx kc ks n σ pc ls (.ref x :: st) := by
  subst hc
  intro p e s m args below meth c dC dI dA E H locs la F hH hS hl
  subst hs
  refine lv_astore_n F.1 F.2.1 hd hi hl hn rfl (fun la hl => k p e s m args below meth c dC dI dA E H locs la F hH hS (rl_store (v := .ref x) (fun q a b => by simp only [Bool.and_eq_true, Bool.not_eq_true', beq_eq_false_iff_ne, ne_eq, Bool.and_eq_false_iff]; exact ⟨a, by by_cases z : q.1 + 1 = i; exact Or.inr (fun y => b ⟨z, y⟩); exact Or.inl z⟩) ho hl))
theorem R.astore (hc : cx = (l, y, cc, nL, ret, d, mc, ms, n0, X, Q)) {i : Nat} {x : Nat} {ls' : List (Option Value)} (hd : decode cc pc = .ok (.astore i, 2)) (hn : i < nL) (ho : rl_ok1 ls i = true) (hs : ls.set i (some (.ref x)) = ls') (k : R cx kc ks n σ (pc + 2) ls' st) : R cx kc ks n σ pc ls (.ref x :: st) := by
  subst hc
  intro p e s m args below meth c dC dI dA E H locs la F hH hS hl
  subst hs
  refine lv_astore F.1 F.2.1 hd hl hn rfl (fun la hl => k p e s m args below meth c dC dI dA E H locs la F hH hS (rl_store (v := .ref x) (fun q a b => by simp only [Bool.and_eq_true, Bool.not_eq_true', beq_eq_false_iff_ne, ne_eq, Bool.and_eq_false_iff]; exact ⟨a, by by_cases z : q.1 + 1 = i; exact Or.inr (fun y => b ⟨z, y⟩); exact Or.inl z⟩) ho hl))
theorem R.iinc (hc : cx = (l, y, cc, nL, ret, d, mc, ms, n0, X, Q)) {i : Nat} {j : Int} {x v : Int32} {ls' : List (Option Value)} (hd : decode cc pc = .ok (.iinc i j, 3)) (hv : x + Int32.ofInt j = v) (hk : ls[i]? = some (some (.int x))) (hn : i < nL) (ho : rl_ok1 ls i = true) (hs : ls.set i (some (.int v)) = ls') (k : R cx kc ks n σ (pc + 3) ls' st) : R cx kc ks n σ pc ls st := by
  subst hc
  intro p e s m args below meth c dC dI dA E H locs la F hH hS hl
  subst hs
  obtain ⟨k9, hk9⟩ := List.getElem?_of_mem ((rl_tl_mem (E := E) ls 0 (i, .int x)).mpr ⟨i, .int x, hk, by simp [rl_tv]⟩)
  refine lv_iinc F.1 F.2.1 hd hl hk9 hv hn rfl (fun la hl => k p e s m args below meth c dC dI dA E H locs la F hH hS (rl_store (v := .int v) (fun q a b => by simp only [Bool.and_eq_true, Bool.not_eq_true', beq_eq_false_iff_ne, ne_eq, Bool.and_eq_false_iff]; exact ⟨a, by by_cases z : q.1 + 1 = i; exact Or.inr (fun y => b ⟨z, y⟩); exact Or.inl z⟩) ho hl))
theorem R.iret (hc : cx = (l, y, cc, nL, ret, d, mc, ms, n0, X, Q)) {v : Int32} (hr : ret = some .int) (hd : decode cc pc = .ok (.ireturn, 1)) (hq : Q (some (.int v)) n σ) : R cx mc ms n σ pc ls [.int v] := by
  subst hc
  intro p e s m args below meth c dC dI dA E H locs la F hH hS hl
  exact W.iret (v := v) F.1 F.2.1 (F.2.2.1.trans hr) (fun t ht hW => ⟨⟨some (.int v), n, σ, rfl, hq, by rw [ht]; exact hH⟩, hS.F ht⟩) hS.2.2 hd F.2.2.2.2.2.2.1
theorem R.lret (hc : cx = (l, y, cc, nL, ret, d, mc, ms, n0, X, Q)) {v : Int64} (hr : ret = some .long) (hd : decode cc pc = .ok (.lreturn, 1)) (hq : Q (some (.long v)) n σ) : R cx mc ms n σ pc ls [.long v] := by
  subst hc
  intro p e s m args below meth c dC dI dA E H locs la F hH hS hl
  exact W.lret (v := v) F.1 F.2.1 (F.2.2.1.trans hr) (fun t ht hW => ⟨⟨some (.long v), n, σ, rfl, hq, by rw [ht]; exact hH⟩, hS.F ht⟩) hS.2.2 hd F.2.2.2.2.2.2.1
theorem R.vret (hc : cx = (l, y, cc, nL, ret, d, mc, ms, n0, X, Q)) (hr : ret = none) (hd : decode cc pc = .ok (.return_, 1)) (hq : Q (none) n σ) : R cx mc ms n σ pc ls [] := by
  subst hc
  intro p e s m args below meth c dC dI dA E H locs la F hH hS hl
  exact W.vret F.1 F.2.1 (F.2.2.1.trans hr) (fun t ht hW => ⟨⟨none, n, σ, rfl, hq, by rw [ht]; exact hH⟩, hS.F ht⟩) hS.2.2 hd F.2.2.2.2.2.2.1
theorem R.zret (hc : cx = (l, y, cc, nL, ret, d, mc, ms, n0, X, Q)) {v : Int32} {ty : FieldType} (hr : ret = some ty) (hn : narrow ty (.int v) = .int v) (hd : decode cc pc = .ok (.ireturn, 1)) (hq : Q (some (.int v)) n σ) : R cx mc ms n σ pc ls [.int v] := by
  subst hc
  intro p e s m args below meth c dC dI dA E H locs la F hH hS hl
  exact W.zret (v := v) F.1 F.2.1 (F.2.2.1.trans hr) hn (fun t ht hW => ⟨⟨some (.int v), n, σ, rfl, hq, by rw [ht]; exact hH⟩, hS.F ht⟩) hS.2.2 hd F.2.2.2.2.2.2.1
/-- a field's place: its class in the world's list, its slot, what the tables say -/
def rl_GF (own : String) (idx ci k : Nat) (fin : Bool) (ty : FieldType) : Prop := ∃ (C : String) (T : u_T) (N : Nat) (ty0 : Nat → FieldType), vwCl[ci]? = some (C, T, N) ∧ (∀ w ∈ u_ws C T N, w ∈ g_tbl) ∧ (∀ k, k < N → parseFieldDescriptor (T k).2.2.1 = some (ty0 k)) ∧ (∀ a, a < N → ∀ b, b < N → a ≠ b → (T a).2.1 ≠ (T b).2.1) ∧ k < N ∧ Cond.fieldLink own idx (T k).1 (T k).2.1 (T k).2.2.1 ∈ g_tbl ∧ (T k).2.2.2 = fin ∧ ty0 k = ty ∧ (fin = true → (T k).1 = own)
theorem R.getf (hc : cx = (l, y, cc, nL, ret, d, mc, ms, n0, X, Q)) {i idx ci k : Nat} {fin : Bool} {ty : FieldType} {fs : List Value} {v : Value} (hg : rl_GF y.cls idx ci k fin ty) (he : σ i = some (.inr (ci, fs))) (hv : fs[k]? = some v) (hd : decode cc pc = .ok (.getfield idx, 3)) (kk : R cx kc ks n σ (pc + 3) ls (v :: st)) : R cx kc ks n σ pc ls (.ref i :: st) := by
  subst hc
  intro p e s m args below meth c dC dI dA E H locs la F hH hS hl
  obtain ⟨C, T, N, ty0, g1, g2, g3, g4, g5, g6, g7, g8, -⟩ := hg
  exact va_get (v := rl_tv E v) (fs := fs.map (rl_tv E)) F.1 F.2.1 F.2.2.2.2.2.1 g2 F.2.2.2.2.1 F.2.2.2.2.2.2.2.1 hH.2.2 i (rl_tw_at he (rl_lt hH he)) g1 k g5 (F.2.2.2.2.2.1 _ g6) (fun _ h => h) (by rw [List.getElem?_map, hv]; rfl) hd (kk p e s m args below meth c dC dI dA E H locs la F hH hS hl)
theorem rl_Hw.up {dC : Nat → ClassId} {dI : Nat → Nat → Nat} {dA : Nat → ClassId} {E : EE} {n i : Nat} {σ : Wd} {H H1 : Heap} {c0 c : PE} (h : rl_Hw dC dI dA E n σ H) (hi : σ i = some c0) (hP : va_P (dC, dI) vwCl ((rl_tw dA E n σ).set i (rl_ad E i, rl_te dA E c)) H1) : rl_Hw dC dI dA E n (rl_up σ i c) H1 := by
  refine ⟨h.1, fun j => ?_, ?_⟩
  · by_cases hj : j = i
    · subst hj
      rw [rl_up_s]
      exact ⟨fun _ => rl_lt h hi, fun _ => rfl⟩
    · rw [rl_up_n hj]
      exact h.2.1 j
  · rw [rl_tw_set] at hP
    exact hP
/-- where a new cell comes to lie -/
theorem rl_Hw.push {dC : Nat → ClassId} {dI : Nat → Nat → Nat} {dA : Nat → ClassId} {E : EE} {n q : Nat} {σ : Wd} {H1 : Heap} {c : PE} (h : n + 1 ≤ 1000000 ∧ ∀ i, (σ i).isSome = true ↔ i < n) (hP : va_P (dC, dI) vwCl (rl_tw dA E n σ ++ [(q, rl_te dA E c)]) H1) (hD : va_D (fun q => E.1 ≤ q) (rl_tw dA E n σ ++ [(q, rl_te dA E c)])) (hz : H1.size ≤ E.1 + n + 1) : q = rl_ad E n ∧ rl_Hw dC dI dA E (n + 1) (rl_up σ n c) H1 := by
  have hl : (rl_tw dA E n σ).length = n := by simp [rl_tw]
  have hq : (rl_tw dA E n σ ++ [(q, rl_te dA E c)])[n]? = some (q, rl_te dA E c) := by
    rw [List.getElem?_append_right (by omega), hl]
    simp
  have hlt : q < H1.size := (hP n _ hq).lt
  have hA : E.1 ≤ q := hD.2 n _ hq
  have e : q = rl_ad E n := by
    by_cases hx : q = E.1 + n
    · rw [hx]; simp [rl_ad, show n < 1000000 by omega]
    · exfalso
      have hi : q - E.1 < n := by omega
      have h2 : (rl_tw dA E n σ ++ [(q, rl_te dA E c)])[q - E.1]? = some (q, rl_te dA E ((σ (q - E.1)).getD (.inr (0, [])))) := by
        rw [List.getElem?_append_left (by omega)]
        simp [rl_tw, hi]
        simp [rl_ad, show q - E.1 < 1000000 by omega]
        omega
      have := hD.1 n (q - E.1) _ _ hq h2 rfl
      omega
  subst e
  refine ⟨rfl, h.1, fun j => ?_, ?_⟩
  · by_cases hj : j = n
    · subst hj
      rw [rl_up_s]
      exact ⟨fun _ => by omega, fun _ => rfl⟩
    · rw [rl_up_n hj, h.2 j]
      omega
  · rw [rl_tw_push]
    exact hP
theorem rl_known {p : Program} {l : Launch} {e : Env} {Rm : Room} {s : State} {m : MethodId} {args : Array Value} {below : List Frame} {meth : Method} {c : Code} {H : Heap} {locs : List Loc} {cells slots : Nat} {Q : State → Prop} {g : JFrame} (k : H.size ≤ s.heap.size + cells → W p l e Rm s m args below meth c H locs cells slots Q g) : W p l e Rm s m args below meth c H locs cells slots Q g := fun T hT X => k (by rw [← hT]; exact X.heapSize) T hT X
theorem R.putf (hc : cx = (l, y, cc, nL, ret, d, mc, ms, n0, X, Q)) {i idx ci k : Nat} {ty : FieldType} {fs fs' : List Value} {v : Value} (hg : rl_GF y.cls idx ci k false ty) (he : σ i = some (.inr (ci, fs))) (hl9 : k < fs.length) (hn : ∀ E, narrow ty (rl_tv E v) = rl_tv E v) (hfit : ∀ E, fits ty (rl_tv E v) = true) (hs : fs.set k v = fs') (hd : decode cc pc = .ok (.putfield idx, 3)) (kk : R cx kc ks n (rl_up σ i (.inr (ci, fs'))) (pc + 3) ls st) : R cx kc ks n σ pc ls (v :: .ref i :: st) := by
  subst hc
  intro p e s m args below meth c dC dI dA E H locs la F hH hS hl
  subst hs
  obtain ⟨C, T, N, ty0, g1, g2, g3, g4, g5, g6, g7, g8, g9⟩ := hg
  refine va_put F.1 F.2.1 F.2.2.2.2.2.1 g2 ty0 g3 g4 F.2.2.2.2.1 F.2.2.2.2.2.2.2.1 hH.2.2 (rl_D hH.1) hS i (rl_tw_at he (rl_lt hH he)) g1 k g5 (F.2.2.2.2.2.1 _ g6) (fun _ h => h) g7 (by rw [g3 k g5, g8]) (hn E) (hfit E) (by rw [List.length_map]; exact hl9) hd (fun H1 locs1 hP _ hS1 => ?_)
  exact kk p e s m args below meth c dC dI dA E H1 locs1 la F (hH.up (c := .inr (ci, fs.set k v)) he (by rw [← List.map_set] at hP; exact hP)) hS1 hl
theorem R.putF (hc : cx = (l, y, cc, nL, ret, d, mc, ms, n0, X, Q)) {i idx ci k : Nat} {ty : FieldType} {fs fs' : List Value} {v : Value} (hy : y.name = "<init>") (hg : rl_GF y.cls idx ci k true ty) (he : σ i = some (.inr (ci, fs))) (hl9 : k < fs.length) (hn : ∀ E, narrow ty (rl_tv E v) = rl_tv E v) (hfit : ∀ E, fits ty (rl_tv E v) = true) (hs : fs.set k v = fs') (hd : decode cc pc = .ok (.putfield idx, 3)) (kk : R cx kc ks n (rl_up σ i (.inr (ci, fs'))) (pc + 3) ls st) : R cx kc ks n σ pc ls (v :: .ref i :: st) := by
  subst hc
  intro p e s m args below meth c dC dI dA E H locs la F hH hS hl
  subst hs
  obtain ⟨C, T, N, ty0, g1, g2, g3, g4, g5, g6, g7, g8, g9⟩ := hg
  refine va_putF F.1 F.2.1 F.2.2.2.2.2.1 g2 ty0 g3 g4 F.2.2.2.2.1 F.2.2.2.2.2.2.2.1 hH.2.2 (rl_D hH.1) hS i (rl_tw_at he (rl_lt hH he)) g1 k g5 (F.2.2.2.2.2.1 _ g6) (fun _ h => h) g7 (F.2.2.2.2.2.2.2.2.2.2.1.trans hy) (g9 rfl) (by rw [g3 k g5, g8]) (hn E) (hfit E) (by rw [List.length_map]; exact hl9) hd (fun H1 locs1 hP _ hS1 => ?_)
  exact kk p e s m args below meth c dC dI dA E H1 locs1 la F (hH.up (c := .inr (ci, fs.set k v)) he (by rw [← List.map_set] at hP; exact hP)) hS1 hl
theorem R.iald (hc : cx = (l, y, cc, nL, ret, d, mc, ms, n0, X, Q)) {i m9 j : Nat} {f : Nat → Int32} (he : σ i = some (.inl (0, m9, .inl f))) (hj : j < m9) (hm : m9 < 2 ^ 31) (hd : decode cc pc = .ok (.iaload, 1)) (k : R cx kc ks n σ (pc + 1) ls (.int (f j) :: st)) : R cx kc ks n σ pc ls (.int (nI j) :: .ref i :: st) := by
  subst hc
  intro p e s m args below meth c dC dI dA E H locs la F hH hS hl
  refine va_iald F.1 F.2.1 F.2.2.2.2.2.2.2.1 hH.2.2 i 0 (rl_tw_at he (rl_lt hH he)) rfl (vp_in_nI hj hm) hd ?_
  rw [nI_clamp (by omega)]
  exact k p e s m args below meth c dC dI dA E H locs la F hH hS hl
theorem R.cald (hc : cx = (l, y, cc, nL, ret, d, mc, ms, n0, X, Q)) {i m9 j : Nat} {f : Nat → Int32} (he : σ i = some (.inl (2, m9, .inl f))) (hj : j < m9) (hm : m9 < 2 ^ 31) (hd : decode cc pc = .ok (.caload, 1)) (k : R cx kc ks n σ (pc + 1) ls (.int (f j) :: st)) : R cx kc ks n σ pc ls (.int (nI j) :: .ref i :: st) := by
  subst hc
  intro p e s m args below meth c dC dI dA E H locs la F hH hS hl
  refine va_cald F.1 F.2.1 F.2.2.2.2.2.2.2.1 hH.2.2 i 2 (rl_tw_at he (rl_lt hH he)) rfl (vp_in_nI hj hm) hd ?_
  rw [nI_clamp (by omega)]
  exact k p e s m args below meth c dC dI dA E H locs la F hH hS hl
theorem R.lald (hc : cx = (l, y, cc, nL, ret, d, mc, ms, n0, X, Q)) {i m9 j : Nat} {f : Nat → Int64} (he : σ i = some (.inl (1, m9, .inr (.inl f)))) (hj : j < m9) (hm : m9 < 2 ^ 31) (hd : decode cc pc = .ok (.laload, 1)) (k : R cx kc ks n σ (pc + 1) ls (.long (f j) :: st)) : R cx kc ks n σ pc ls (.int (nI j) :: .ref i :: st) := by
  subst hc
  intro p e s m args below meth c dC dI dA E H locs la F hH hS hl
  refine va_lald F.1 F.2.1 F.2.2.2.2.2.2.2.1 hH.2.2 i 1 (rl_tw_at he (rl_lt hH he)) rfl (vp_in_nI hj hm) hd ?_
  rw [nI_clamp (by omega)]
  exact k p e s m args below meth c dC dI dA E H locs la F hH hS hl
theorem R.iast (hc : cx = (l, y, cc, nL, ret, d, mc, ms, n0, X, Q)) {i m9 j : Nat} {f : Nat → Int32} {x : Int32} (he : σ i = some (.inl (0, m9, .inl f))) (hj : j < m9) (hm : m9 < 2 ^ 31) (hd : decode cc pc = .ok (.iastore, 1)) (k : R cx kc ks n (rl_up σ i (.inl (0, m9, .inl (upd f j x)))) (pc + 1) ls st) : R cx kc ks n σ pc ls (.int x :: .int (nI j) :: .ref i :: st) := by
  subst hc
  intro p e s m args below meth c dC dI dA E H locs la F hH hS hl
  refine va_iast F.1 F.2.1 F.2.2.2.2.2.2.2.1 hH.2.2 (rl_D hH.1) hS i 0 (rl_tw_at he (rl_lt hH he)) rfl (vp_in_nI hj hm) hd (fun H1 locs1 hP _ hS1 => ?_)
  rw [nI_clamp (by omega)] at hP
  exact k p e s m args below meth c dC dI dA E H1 locs1 la F (hH.up (c := .inl (0, m9, .inl (upd f j x))) he hP) hS1 hl
theorem R.cast (hc : cx = (l, y, cc, nL, ret, d, mc, ms, n0, X, Q)) {i m9 j : Nat} {f : Nat → Int32} {x : Int32} (he : σ i = some (.inl (2, m9, .inl f))) (hj : j < m9) (hm : m9 < 2 ^ 31) (hd : decode cc pc = .ok (.castore, 1)) (k : R cx kc ks n (rl_up σ i (.inl (2, m9, .inl (upd f j (vp_nar .char x))))) (pc + 1) ls st) : R cx kc ks n σ pc ls (.int x :: .int (nI j) :: .ref i :: st) := by
  subst hc
  intro p e s m args below meth c dC dI dA E H locs la F hH hS hl
  refine va_cast F.1 F.2.1 F.2.2.2.2.2.2.2.1 hH.2.2 (rl_D hH.1) hS i 2 (rl_tw_at he (rl_lt hH he)) rfl (vp_in_nI hj hm) hd (fun H1 locs1 hP _ hS1 => ?_)
  rw [nI_clamp (by omega)] at hP
  exact k p e s m args below meth c dC dI dA E H1 locs1 la F (hH.up (c := .inl (2, m9, .inl (upd f j (vp_nar .char x)))) he hP) hS1 hl
theorem R.last (hc : cx = (l, y, cc, nL, ret, d, mc, ms, n0, X, Q)) {i m9 j : Nat} {f : Nat → Int64} {x : Int64} (he : σ i = some (.inl (1, m9, .inr (.inl f)))) (hj : j < m9) (hm : m9 < 2 ^ 31) (hd : decode cc pc = .ok (.lastore, 1)) (k : R cx kc ks n (rl_up σ i (.inl (1, m9, .inr (.inl (vp_updL f j x))))) (pc + 1) ls st) : R cx kc ks n σ pc ls (.long x :: .int (nI j) :: .ref i :: st) := by
  subst hc
  intro p e s m args below meth c dC dI dA E H locs la F hH hS hl
  refine va_last F.1 F.2.1 F.2.2.2.2.2.2.2.1 hH.2.2 (rl_D hH.1) hS i 1 (rl_tw_at he (rl_lt hH he)) rfl (vp_in_nI hj hm) hd (fun H1 locs1 hP _ hS1 => ?_)
  rw [nI_clamp (by omega)] at hP
  exact k p e s m args below meth c dC dI dA E H1 locs1 la F (hH.up (c := .inl (1, m9, .inr (.inl (vp_updL f j x)))) he hP) hS1 hl
theorem R.alen (hc : cx = (l, y, cc, nL, ret, d, mc, ms, n0, X, Q)) {i t9 m9 : Nat} {x : (Nat → Int32) ⊕ (Nat → Int64) ⊕ (Nat → UInt32) ⊕ (Nat → UInt64) ⊕ (Nat → Option Nat)} {ty : FieldType} (he : σ i = some (.inl (t9, m9, x))) (ht : ∀ dA, (rl_tys dA)[t9]? = some (dA t9, ty)) (hd : decode cc pc = .ok (.arraylength, 1)) (k : R cx kc ks n σ (pc + 1) ls (.int (nI m9) :: st)) : R cx kc ks n σ pc ls (.ref i :: st) := by
  subst hc
  intro p e s m args below meth c dC dI dA E H locs la F hH hS hl
  exact va_alen F.1 F.2.1 F.2.2.2.2.2.2.2.1 hH.2.2 i t9 (rl_tw_at he (rl_lt hH he)) (ht dA) rfl hd (k p e s m args below meth c dC dI dA E H locs la F hH hS hl)
theorem R.copyi (hc : cx = (l, y, cc, nL, ret, d, mc, ms, n0, X, Q)) {idx i0 i1 m0 m1 sp dp j : Nat} {f g : Nat → Int32} (hw : Cond.methodLink y.cls idx arraycopyName ∈ g_tbl) (h0 : σ i0 = some (.inl (0, m0, .inl f))) (h1 : σ i1 = some (.inl (0, m1, .inl g))) (ha : sp + j ≤ m0) (hb : dp + j ≤ m1) (hm0 : m0 < 2 ^ 31) (hm1 : m1 < 2 ^ 31) (hd1 : 1 ≤ d) (hcat : (st.map fun v => v.category).sum ≤ 8) (hd : decode cc pc = .ok (.invokestatic idx, 3)) (k : R cx kc ks n (rl_up σ i1 (.inl (0, m1, .inl (va_cpy f g sp dp j)))) (pc + 3) ls st) : R cx kc ks n σ pc ls (.int (nI j) :: .int (nI dp) :: .ref i1 :: .int (nI sp) :: .ref i0 :: st) := by
  subst hc
  intro p e s m args below meth c dC dI dA E H locs la F hH hS hl
  refine va_copyi (f := f) (g := g) F.1 F.2.1 (F.2.2.2.1.trans hl.1.symm) F.2.2.2.2.1 (F.2.2.2.2.2.1 _ hw) (F.2.2.2.2.2.1 _ rl_acN) (F.2.2.2.2.2.1 _ rl_acS) (F.2.2.2.2.2.1 _ rl_acI) F.2.2.2.2.2.2.2.1 hH.2.2 (rl_D hH.1) hS i0 i1 0 0 (rl_tw_at h0 (rl_lt hH h0)) (rl_tw_at h1 (rl_lt hH h1)) rfl rfl (by decide) (ty := .int) (nI_pos (by omega)) (nI_pos (by omega)) (nI_pos (by omega)) (by rw [nI_clamp (by omega), nI_clamp (by omega)]; exact ha) (by rw [nI_clamp (by omega), nI_clamp (by omega)]; exact hb) (fun _ _ => rfl) (show 1 ≤ d from hd1) ?_ hd (fun H1 locs1 hP _ hS1 => ?_)
  · rw [rl_cats]
    have : nativeFrameWords "java/lang/System" "arraycopy" 5 + 11 ≤ 56 := by decide
    show _ ≤ 64 * d
    omega
  · rw [nI_clamp (by omega), nI_clamp (by omega), nI_clamp (by omega)] at hP
    exact k p e s m args below meth c dC dI dA E H1 locs1 la F (hH.up (c := .inl (0, m1, .inl (va_cpy f g sp dp j))) h1 hP) hS1 hl
theorem R.copyl (hc : cx = (l, y, cc, nL, ret, d, mc, ms, n0, X, Q)) {idx i0 i1 m0 m1 sp dp j : Nat} {f g : Nat → Int64} (hw : Cond.methodLink y.cls idx arraycopyName ∈ g_tbl) (h0 : σ i0 = some (.inl (1, m0, .inr (.inl f)))) (h1 : σ i1 = some (.inl (1, m1, .inr (.inl g)))) (ha : sp + j ≤ m0) (hb : dp + j ≤ m1) (hm0 : m0 < 2 ^ 31) (hm1 : m1 < 2 ^ 31) (hd1 : 1 ≤ d) (hcat : (st.map fun v => v.category).sum ≤ 8) (hd : decode cc pc = .ok (.invokestatic idx, 3)) (k : R cx kc ks n (rl_up σ i1 (.inl (1, m1, .inr (.inl (va_cpy f g sp dp j))))) (pc + 3) ls st) : R cx kc ks n σ pc ls (.int (nI j) :: .int (nI dp) :: .ref i1 :: .int (nI sp) :: .ref i0 :: st) := by
  subst hc
  intro p e s m args below meth c dC dI dA E H locs la F hH hS hl
  refine va_copyl (f := f) (g := g) F.1 F.2.1 (F.2.2.2.1.trans hl.1.symm) F.2.2.2.2.1 (F.2.2.2.2.2.1 _ hw) (F.2.2.2.2.2.1 _ rl_acN) (F.2.2.2.2.2.1 _ rl_acS) (F.2.2.2.2.2.1 _ rl_acI) F.2.2.2.2.2.2.2.1 hH.2.2 (rl_D hH.1) hS i0 i1 1 1 (rl_tw_at h0 (rl_lt hH h0)) (rl_tw_at h1 (rl_lt hH h1)) rfl rfl (by decide) (ty := .long) (nI_pos (by omega)) (nI_pos (by omega)) (nI_pos (by omega)) (by rw [nI_clamp (by omega), nI_clamp (by omega)]; exact ha) (by rw [nI_clamp (by omega), nI_clamp (by omega)]; exact hb) (fun _ _ => rfl) (show 1 ≤ d from hd1) ?_ hd (fun H1 locs1 hP _ hS1 => ?_)
  · rw [rl_cats]
    have : nativeFrameWords "java/lang/System" "arraycopy" 5 + 11 ≤ 56 := by decide
    show _ ≤ 64 * d
    omega
  · rw [nI_clamp (by omega), nI_clamp (by omega), nI_clamp (by omega)] at hP
    exact k p e s m args below meth c dC dI dA E H1 locs1 la F (hH.up (c := .inl (1, m1, .inr (.inl (va_cpy f g sp dp j)))) h1 hP) hS1 hl
end RL
end
section
theorem rl_XE.next {X : Nat × (Nat → Int32)} {E : EE} {s U : State} {H : Heap} {locs : List Loc} (h : rl_XE X E s) (hE : E.1 ≤ s.heap.size) (hS : va_S (fun q => E.1 ≤ q) s.heap H locs) (hW : s.WarmedH U.vm) (hU : U.heap = H) : rl_XE X E U := by
  obtain ⟨h1, h2, h3, h4, h5, h6⟩ := h
  rw [← hU] at hS
  exact ⟨va_Z.moved hW.alike (h1.kept hS.2.1), h2.warm hW, vk_S.moved hW.alike (h3.kept hS.2.1), va_X.moved hW.alike (h4.kept (hS.2.1 _ (by omega) (by omega))), h5, fun q hq => (h6 q hq).warmM hW⟩
section RC
variable {cx : Cx} {l : Launch} {y : MethodName} {cc : ByteArray} {nL : Nat} {ret : Option FieldType} {d mc ms n0 : Nat} {X : Nat × (Nat → Int32)} {Q : Option Value → Nat → Wd → Prop} {kc ks n : Nat} {σ : Wd} {pc : Nat} {ls : List (Option Value)} {st : List Value}
/-- a method's contract out of the walk from its entry -/
theorem Con.of {args : List Value} (hy : plainName y.cls = true) (ls : List (Option Value)) (hlen : ∀ E, (lg_sl (args.map (rl_tv E))).length ≤ nL) (hls : ∀ E, rl_tl E 0 ls = lv_args 0 (args.map (rl_tv E)))
    (k : ∀ cx : Cx, cx = (l, y, cc, nL, ret, d, mc, ms, n, X, Q) → R cx 0 0 n σ 0 ls []) : Con l y cc nL ret d mc ms X n args σ Q := by
  intro dC dI dA E
  refine Met.ofW (cc := cc) (maxL := nL) (ret := ret) hy rfl ?_
  intro p e s m args' below meth c s₁ B hml hv
  obtain ⟨rfl, hH, hK, hX, hz, hz2⟩ := hv
  have hts := atoms_spec (ws := .code y cc nL ret :: g_tbl) B.pre
  have h1 := lv_entry (args.map (rl_tv E)) (n := nL) (hlen E)
  rw [lg_entry_eq]
  rw [← hls E] at h1
  exact k _ rfl p e s m _ below meth c dC dI dA E s.heap [] _ ⟨B.exec, B.bytes, B.returns, hml, findClass_of_methodNamed B.named, fun w h => hts w (List.mem_cons_of_mem _ h), B.notSynchronized, hK, hX, hz, (name_of_methodNamed B.named B.method).1, hz2⟩ hH va_S.rf h1
/-- behind a call -/
theorem rl_back {p : Program} {e : Env} {Rm : Room} {s : State} {m : MethodId} {args : Array Value} {below : List Frame} {meth : Method} {c : Code} {H : Heap} {locs : List Loc} {cells slots mc' ms' : Nat} {Qf : State → Prop} {la : Array Slot} {rest0 st0 : List Value} {a : Array Value} {E : EE} {dC : Nat → ClassId} {dI : Nat → Nat → Nat} {dA : Nat → ClassId} {Q' : Option Value → Nat → Wd → Prop} {H0 : Heap}
    (hr : va_Run p l e Rm s m args below meth c H locs cells slots mc' ms' (F0 m pc la st0) rest0 (rl_Qp Q' dC dI dA E a) (fun q => E.1 ≤ q)) (hS : va_S (fun q => E.1 ≤ q) H0 H locs)
    (kk : ∀ (v : Option Value) (n' : Nat) (σ' : Wd) (H1 : Heap) (locs1 : List Loc), Q' v n' σ' → rl_Hw dC dI dA E n' σ' H1 → va_S (fun q => E.1 ≤ q) H0 H1 locs1 → W p l e Rm s m args below meth c H1 locs1 (cells + mc') (slots + ms') Qf (F0 m (pc + 3) la ((v.map (rl_tv E)).toList ++ rest0))) : W p l e Rm s m args below meth c H locs cells slots Qf (F0 m pc la st0) := by
  intro T hT Y
  obtain ⟨v, st₀, t, T', L, h0, X', hL, e1, e2, ⟨⟨v1, n', σ', hv, hp, hb⟩, hz, hk⟩, st⟩ := hr T hT Y
  cases hv
  rw [h0] at hz hk
  obtain ⟨t2, a1, b1⟩ := kk v1 n' σ' T'.heap (locs ++ L) hp (by rw [e1]; exact hb) ⟨Nat.le_trans hS.1 (by rw [e1]; exact hz), fun q g1 g2 => by rw [e1, hk q (Nat.lt_of_lt_of_le g1 hS.1) g2]; exact hS.2.1 q g1 g2, fun q hq => by
      rcases List.mem_append.mp hq with h | h
      · exact hS.2.2 q h
      · exact hL q h⟩ T' rfl X'
  exact ⟨t2, st t2 a1, b1⟩
theorem rl_toList (E : EE) (v : Option Value) (rest : List Value) : (v.map (rl_tv E)).toList ++ rest.map (rl_tv E) = (v.toList ++ rest).map (rl_tv E) := by cases v <;> rfl
/-- what the tables say of a method that is called by its object -/
def rl_MV (y : MethodName) (cc : ByteArray) (nL : Nat) (ret : Option FieldType) (k : Nat) : Prop := Cond.instanceMethod y ∈ g_tbl ∧ Cond.selects y.cls y y ∈ g_tbl ∧ Cond.initialized y.cls ∈ g_tbl ∧ Cond.code y cc nL ret ∈ g_tbl ∧ (y.cls ≠ "java/lang/invoke/MethodHandle" ∧ y.cls ≠ "java/lang/invoke/VarHandle" ∧ (parseMethodDescriptor y.desc).map (fun d => d.parameters.length) = some k) ∧ nL ≤ 40
def rl_MS (y : MethodName) (cc : ByteArray) (nL : Nat) (ret : Option FieldType) (k : Nat) : Prop := Cond.static y ∈ g_tbl ∧ Cond.initialized y.cls ∈ g_tbl ∧ Cond.code y cc nL ret ∈ g_tbl ∧ (y.cls ≠ "java/lang/invoke/MethodHandle" ∧ y.cls ≠ "java/lang/invoke/VarHandle" ∧ (parseMethodDescriptor y.desc).map (fun d => d.parameters.length) = some k) ∧ nL ≤ 40
def rl_MI (y : MethodName) (cc : ByteArray) (nL : Nat) (k : Nat) : Prop := Cond.instanceMethod y ∈ g_tbl ∧ y.name = "<init>" ∧ Cond.initialized y.cls ∈ g_tbl ∧ Cond.code y cc nL none ∈ g_tbl ∧ (y.cls ≠ "java/lang/invoke/MethodHandle" ∧ y.cls ≠ "java/lang/invoke/VarHandle" ∧ (parseMethodDescriptor y.desc).map (fun d => d.parameters.length) = some k) ∧ nL ≤ 40
theorem rl_words {ws : List Cond} {c0 : Cond} (h0 : c0 ∈ g_tbl) (h : ∀ w ∈ ws, w ∈ g_tbl) : GoodIn g_tbl (ws ++ (c0 :: g_tbl)) := by
  intro w hw
  have hm : w ∈ g_tbl := by
    rcases List.mem_append.mp hw with a | a
    · exact h w a
    · rcases List.mem_cons.mp a with rfl | a
      · exact h0
      · exact a
  exact ⟨hm, g_good w hm⟩
/-- the callee's start -/
theorem rl_pre {dC : Nat → ClassId} {dI : Nat → Nat → Nat} {dA : Nat → ClassId} {E : EE} {s : State} {H : Heap} {locs : List Loc} {mc' : Nat} {av : List Value} (hH : rl_Hw dC dI dA E n σ H) (hK : va_K (dC, dI) vwCl (rl_tys dA) s) (hX : rl_XE X E s) (hE : E.1 ≤ s.heap.size) (hS : va_S (fun q => E.1 ≤ q) s.heap H locs) (hz : mc' = 0 ∨ H.size ≤ E.1 + n) : PreS s H (va_Pc (av.map (rl_tv E)) (fun U => rl_Hw dC dI dA E n σ U.heap ∧ va_K (dC, dI) vwCl (rl_tys dA) U ∧ rl_XE X E U ∧ E.1 ≤ U.heap.size ∧ (mc' = 0 ∨ U.heap.size ≤ E.1 + n))) (av.map (rl_tv E)) := by
  refine ⟨fun a U g mk q => ?_, fun U hU hW => ?_⟩
  · obtain ⟨q0, q1, q2, q3, q4, q5⟩ := q
    refine ⟨q0, q1, va_K.moved (u := U) (U := U.calling g mk a) (Vm.Alike.refl U.vm) q2, ?_, q4, q5⟩
    obtain ⟨x1, x2, x3, x4, x5, x6⟩ := q3
    exact ⟨va_Z.moved (u := U) (U := U.calling g mk a) (Vm.Alike.refl U.vm) x1, vk_R.same (u := U) (U := U.calling g mk a) rfl x2, vk_S.moved (u := U) (U := U.calling g mk a) (Vm.Alike.refl U.vm) x3, va_X.moved (u := U) (U := U.calling g mk a) (Vm.Alike.refl U.vm) x4, x5, fun q hq => va_Nw.same rfl (u := U) (U := U.calling g mk a) rfl (x6 q hq)⟩
  · exact ⟨rfl, by rw [hU]; exact hH, va_K.moved hW.alike hK, hX.next hE hS hW hU, by rw [hU]; exact Nat.le_trans hE hS.1, by rw [hU]; exact hz⟩

theorem R.callV (hc : cx = (l, y, cc, nL, ret, d, mc, ms, n0, X, Q)) {y' : MethodName} {cc' : ByteArray} {nL' : Nat} {ret' : Option FieldType} {d' mc' ms' k9 idx : Nat} {As rest : List Value} {Q' : Option Value → Nat → Wd → Prop} {b ci : Nat} {fs : List Value} (hM : rl_MV y' cc' nL' ret' k9) (hL : Cond.methodLink y.cls idx y' ∈ g_tbl) (hC : Con l y' cc' nL' ret' d' mc' ms' X n (.ref b :: As) σ Q') (hb : σ b = some (.inr (ci, fs))) (hci : (vwCl[ci]?).map (fun q => q.1) = some y'.cls) (hk : As.length = k9) (hdd : d' + 1 ≤ d) (hm : kc + mc' ≤ mc ∧ ks + ms' ≤ ms) (hnn : mc' = 0 ∨ n = n0 + kc) (hcat : (rest.map fun v => v.category).sum ≤ 8) (hd : decode cc pc = .ok (.invokevirtual idx, 3)) (kk : ∀ (v : Option Value) (n' : Nat) (σ' : Wd), Q' v n' σ' → R cx (kc + mc') (ks + ms') n' σ' (pc + 3) ls (v.toList ++ rest)) : R cx kc ks n σ pc ls (As.reverse ++ .ref b :: rest) := by
  subst hc
  intro p e s m args below meth c dC dI dA E H locs la F hH hS hl
  refine rl_known (fun hsz => ?_)
  have hz : mc' = 0 ∨ H.size ≤ E.1 + n := by
    rcases hnn with h | h
    · exact Or.inl h
    · by_cases h0 : mc' = 0
      · exact Or.inl h0
      · rcases F.2.2.2.2.2.2.2.2.2.2.2 with g | g
        · exact absurd g (by show ¬ mc = 0; omega)
        · have g : s.heap.size ≤ E.1 + n0 := g
          exact Or.inr (by omega)
  obtain ⟨m1, m2, m3, m4, m5, m6⟩ := hM
  obtain ⟨q9, hq9, hq8⟩ : ∃ q, vwCl[ci]? = some q ∧ q.1 = y'.cls := by
    cases hz9 : vwCl[ci]? with
    | none => rw [hz9] at hci; cases hci
    | some q => rw [hz9] at hci; exact ⟨q, rfl, Option.some.inj hci⟩
  have hpre := rl_pre (av := .ref b :: As) (mc' := mc') hH F.2.2.2.2.2.2.2.1 F.2.2.2.2.2.2.2.2.1 F.2.2.2.2.2.2.2.2.2.1 hS hz
  have hrv := va_recv (q0 := b) F.2.2.2.2.2.2.2.1 hH.2.2 hq9 (rl_tw_at hb (rl_lt hH hb))
  rw [hq8] at hrv
  refine rl_back (rest0 := rest.map (rl_tv E)) (va_runV (C := y'.cls) (bytes := cc') (maxL := nL') (ret := ret') (ws := .code y' cc' nL' ret' :: g_tbl) (Ts := g_tbl) (cc := cc) (nL := nL) (own := y.cls) (As := As.map (rl_tv E)) (b := rl_ad E b) (n := k9) ⟨F.1, F.2.1, F.2.2.2.1, F.2.2.2.2.1, F.2.2.2.2.2.1⟩ (hC dC dI dA E) (cwV (ws' := g_tbl) k9 F.2.2.2.2.2.1 (by unfold wsV; exact rl_words m4 (fun w hw => by simp only [List.mem_cons, List.not_mem_nil, or_false] at hw; rcases hw with rfl | rfl | rfl | rfl; exact hL; exact m1; exact m2; exact m3)) rfl rfl rfl ⟨rfl, m5⟩ ⟨hdd, by show 8 + (nL' + 11) + 64 * d' ≤ 64 * d; omega⟩) ⟨hpre.1, hrv, hpre.2⟩ rfl (by rw [List.length_map]; exact hk) hl.1 (by simp [rl_tv]) (lv_room (by rw [rl_cats]; exact hcat)) hd hm) hS (fun v n' σ' H1 locs1 hq hH1 hS1 => ?_)
  rw [rl_toList]
  exact kk v n' σ' hq p e s m args below meth c dC dI dA E H1 locs1 la F hH1 hS1 hl
theorem R.callS (hc : cx = (l, y, cc, nL, ret, d, mc, ms, n0, X, Q)) {y' : MethodName} {cc' : ByteArray} {nL' : Nat} {ret' : Option FieldType} {d' mc' ms' k9 idx : Nat} {As rest : List Value} {Q' : Option Value → Nat → Wd → Prop} (hM : rl_MS y' cc' nL' ret' k9) (hL : Cond.methodLink y.cls idx y' ∈ g_tbl) (hC : Con l y' cc' nL' ret' d' mc' ms' X n As σ Q') (hk : As.length = k9) (hdd : d' + 1 ≤ d) (hm : kc + mc' ≤ mc ∧ ks + ms' ≤ ms) (hnn : mc' = 0 ∨ n = n0 + kc) (hcat : (rest.map fun v => v.category).sum ≤ 8) (hd : decode cc pc = .ok (.invokestatic idx, 3)) (kk : ∀ (v : Option Value) (n' : Nat) (σ' : Wd), Q' v n' σ' → R cx (kc + mc') (ks + ms') n' σ' (pc + 3) ls (v.toList ++ rest)) : R cx kc ks n σ pc ls (As.reverse ++ rest) := by
  subst hc
  intro p e s m args below meth c dC dI dA E H locs la F hH hS hl
  refine rl_known (fun hsz => ?_)
  have hz : mc' = 0 ∨ H.size ≤ E.1 + n := by
    rcases hnn with h | h
    · exact Or.inl h
    · by_cases h0 : mc' = 0
      · exact Or.inl h0
      · rcases F.2.2.2.2.2.2.2.2.2.2.2 with g | g
        · exact absurd g (by show ¬ mc = 0; omega)
        · have g : s.heap.size ≤ E.1 + n0 := g
          exact Or.inr (by omega)
  obtain ⟨m2, m3, m4, m5, m6⟩ := hM
  have hpre := rl_pre (av := As) (mc' := mc') hH F.2.2.2.2.2.2.2.1 F.2.2.2.2.2.2.2.2.1 F.2.2.2.2.2.2.2.2.2.1 hS hz
  refine rl_back (rest0 := rest.map (rl_tv E)) (va_runS (bytes := cc') (maxL := nL') (ret := ret') (ws := .code y' cc' nL' ret' :: g_tbl) (Ts := g_tbl) (cc := cc) (nL := nL) (own := y.cls) (As := As.map (rl_tv E)) (n := k9) ⟨F.1, F.2.1, F.2.2.2.1, F.2.2.2.2.1, F.2.2.2.2.2.1⟩ (hC dC dI dA E) (va_cwS (ws' := g_tbl) k9 F.2.2.2.2.2.1 (by unfold va_wsS; exact rl_words m4 (fun w hw => by simp only [List.mem_cons, List.not_mem_nil, or_false] at hw; rcases hw with rfl | rfl | rfl; exact hL; exact m2; exact m3)) rfl rfl rfl m5 ⟨hdd, by show 8 + (nL' + 11) + 64 * d' ≤ 64 * d; omega⟩) hpre rfl (by rw [List.length_map]; exact hk) hl.1 (by simp [rl_tv]) (lv_room (by rw [rl_cats]; exact hcat)) hd hm) hS (fun v n' σ' H1 locs1 hq hH1 hS1 => ?_)
  rw [rl_toList]
  exact kk v n' σ' hq p e s m args below meth c dC dI dA E H1 locs1 la F hH1 hS1 hl
theorem R.callI (hc : cx = (l, y, cc, nL, ret, d, mc, ms, n0, X, Q)) {y' : MethodName} {cc' : ByteArray} {nL' : Nat} {ret' : Option FieldType} {d' mc' ms' k9 idx : Nat} {As rest : List Value} {Q' : Option Value → Nat → Wd → Prop} {b : Nat} (hr : ret' = none) (hM : rl_MI y' cc' nL' k9) (hL : Cond.methodLink y.cls idx y' ∈ g_tbl) (hC : Con l y' cc' nL' none d' mc' ms' X n (.ref b :: As) σ Q') (hk : As.length = k9) (hdd : d' + 1 ≤ d) (hm : kc + mc' ≤ mc ∧ ks + ms' ≤ ms) (hnn : mc' = 0 ∨ n = n0 + kc) (hcat : (rest.map fun v => v.category).sum ≤ 8) (hd : decode cc pc = .ok (.invokespecial idx, 3)) (kk : ∀ (v : Option Value) (n' : Nat) (σ' : Wd), Q' v n' σ' → R cx (kc + mc') (ks + ms') n' σ' (pc + 3) ls (v.toList ++ rest)) : R cx kc ks n σ pc ls (As.reverse ++ .ref b :: rest) := by
  subst hc
  intro p e s m args below meth c dC dI dA E H locs la F hH hS hl
  refine rl_known (fun hsz => ?_)
  have hz : mc' = 0 ∨ H.size ≤ E.1 + n := by
    rcases hnn with h | h
    · exact Or.inl h
    · by_cases h0 : mc' = 0
      · exact Or.inl h0
      · rcases F.2.2.2.2.2.2.2.2.2.2.2 with g | g
        · exact absurd g (by show ¬ mc = 0; omega)
        · have g : s.heap.size ≤ E.1 + n0 := g
          exact Or.inr (by omega)
  obtain ⟨m1, m2, m3, m4, m5, m6⟩ := hM
  have hpre := rl_pre (av := .ref b :: As) (mc' := mc') hH F.2.2.2.2.2.2.2.1 F.2.2.2.2.2.2.2.2.1 F.2.2.2.2.2.2.2.2.2.1 hS hz
  refine rl_back (rest0 := rest.map (rl_tv E)) (va_runI (bytes := cc') (maxL := nL') (ws := .code y' cc' nL' none :: g_tbl) (Ts := g_tbl) (cc := cc) (nL := nL) (own := y.cls) (As := As.map (rl_tv E)) (b := rl_ad E b) (n := k9) ⟨F.1, F.2.1, F.2.2.2.1, F.2.2.2.2.1, F.2.2.2.2.2.1⟩ (hC dC dI dA E) (cwI (ws' := g_tbl) k9 F.2.2.2.2.2.1 (rl_words (ws := []) m4 (fun w hw => by cases hw)) rfl rfl rfl (F.2.2.2.2.2.1 _ m3) (F.2.2.2.2.2.1 _ hL) (F.2.2.2.2.2.1 _ m1) m2 m5 ⟨hdd, by show 8 + (nL' + 11) + 64 * d' ≤ 64 * d; omega⟩) hpre rfl (by rw [List.length_map]; exact hk) hl.1 (by simp [rl_tv]) (lv_room (by rw [rl_cats]; exact hcat)) hd hm) hS (fun v n' σ' H1 locs1 hq hH1 hS1 => ?_)
  rw [rl_toList]
  exact kk v n' σ' hq p e s m args below meth c dC dI dA E H1 locs1 la F hH1 hS1 hl
theorem R.callN (hc : cx = (l, y, cc, nL, ret, d, mc, ms, n0, X, Q)) {y' : MethodName} {cc' : ByteArray} {nL' : Nat} {ret' : Option FieldType} {d' mc' ms' k9 idx : Nat} {As rest : List Value} {Q' : Option Value → Nat → Wd → Prop} {b : Nat} {host : String} (hr : ret' = none) (hM : rl_MI y' cc' nL' k9) (hL : (y.cls, idx, y', host) ∈ rl_nest) (hC : Con l y' cc' nL' none d' mc' ms' X n (.ref b :: As) σ Q') (hk : As.length = k9) (hdd : d' + 1 ≤ d) (hm : kc + mc' ≤ mc ∧ ks + ms' ≤ ms) (hnn : mc' = 0 ∨ n = n0 + kc) (hcat : (rest.map fun v => v.category).sum ≤ 8) (hd : decode cc pc = .ok (.invokespecial idx, 3)) (kk : ∀ (v : Option Value) (n' : Nat) (σ' : Wd), Q' v n' σ' → R cx (kc + mc') (ks + ms') n' σ' (pc + 3) ls (v.toList ++ rest)) : R cx kc ks n σ pc ls (As.reverse ++ .ref b :: rest) := by
  subst hc
  intro p e s m args below meth c dC dI dA E H locs la F hH hS hl
  refine rl_known (fun hsz => ?_)
  have hz : mc' = 0 ∨ H.size ≤ E.1 + n := by
    rcases hnn with h | h
    · exact Or.inl h
    · by_cases h0 : mc' = 0
      · exact Or.inl h0
      · rcases F.2.2.2.2.2.2.2.2.2.2.2 with g | g
        · exact absurd g (by show ¬ mc = 0; omega)
        · have g : s.heap.size ≤ E.1 + n0 := g
          exact Or.inr (by omega)
  obtain ⟨m1, m2, m3, m4, m5, m6⟩ := hM
  have hpre := rl_pre (av := .ref b :: As) (mc' := mc') hH F.2.2.2.2.2.2.2.1 F.2.2.2.2.2.2.2.2.1 F.2.2.2.2.2.2.2.2.2.1 hS hz
  refine rl_back (rest0 := rest.map (rl_tv E)) (va_runIN (bytes := cc') (maxL := nL') (ws := .code y' cc' nL' none :: g_tbl) (Ts := g_tbl) (cc := cc) (nL := nL) (own := y.cls) (host := host) (As := As.map (rl_tv E)) (b := rl_ad E b) (n := k9) ⟨F.1, F.2.1, F.2.2.2.1, F.2.2.2.2.1, F.2.2.2.2.2.1⟩ (hC dC dI dA E) ⟨va_cnB (ws' := g_tbl) k9 F.2.2.2.2.2.1 (rl_words (ws := []) m4 (fun w hw => by cases hw)) rfl rfl rfl (F.2.2.2.2.2.2.2.2.1.2.2.2.2.2 _ hL) (F.2.2.2.2.2.1 _ m3) m5 ⟨hdd, by show 8 + (nL' + 11) + 64 * d' ≤ 64 * d; omega⟩, m2, F.2.2.2.2.2.1 _ m1⟩ hpre rfl (by rw [List.length_map]; exact hk) hl.1 (by simp [rl_tv]) (lv_room (by rw [rl_cats]; exact hcat)) hd hm) hS (fun v n' σ' H1 locs1 hq hH1 hS1 => ?_)
  rw [rl_toList]
  exact kk v n' σ' hq p e s m args below meth c dC dI dA E H1 locs1 la F hH1 hS1 hl
theorem rl_oi1 : Cond.instanceMethod Lib.objectInit ∈ g_tbl := g_mem (by decide +kernel) rfl
theorem rl_oi2 : Cond.code Lib.objectInit ⟨#[0xb1]⟩ 1 none ∈ g_tbl := g_mem (by decide +kernel) rfl
theorem R.objInit (hc : cx = (l, y, cc, nL, ret, d, mc, ms, n0, X, Q)) {i idx : Nat} (hw : Cond.methodLink y.cls idx Lib.objectInit ∈ g_tbl) (hd1 : 1 ≤ d) (hcat : (st.map fun v => v.category).sum ≤ 8) (hd : decode cc pc = .ok (.invokespecial idx, 3)) (k : R cx kc ks n σ (pc + 3) ls st) : R cx kc ks n σ pc ls (.ref i :: st) := by
  subst hc
  intro p e s m args below meth c dC dI dA E H locs la F hH hS hl
  refine W.objInit F.1 F.2.1 F.2.2.2.2.1 (F.2.2.2.2.2.1 _ hw) (F.2.2.2.2.2.1 _ rl_oi1) (F.2.2.2.2.2.1 _ rl_oi2) rfl (hl.1.trans F.2.2.2.1.symm) rfl hd (show 1 ≤ d from hd1) ?_ (k p e s m args below meth c dC dI dA E H locs la F hH hS hl)
  rw [rl_cats]
  show 2 * 0 + _ + 12 ≤ 64 * d
  omega

theorem R.new (hc : cx = (l, y, cc, nL, ret, d, mc, ms, n0, X, Q)) {idx ci N : Nat} {C : String} {T : u_T} {fs : List Value} (ty : Nat → FieldType) (hty : ∀ k, k < N → parseFieldDescriptor (T k).2.2.1 = some (ty k)) (hin : ∀ w ∈ u_ws C T N, w ∈ g_tbl) (hcl : Cond.classLink y.cls idx C ∈ g_tbl) (hinst : Cond.instantiable C N ∈ g_tbl) (hini : Cond.initialized C ∈ g_tbl) (hci : vwCl[ci]? = some (C, T, N)) (hfs : ∀ E, ∀ j, j < N → defaultValue (ty j) = vp_V (fs.map (rl_tv E)) j) (hm : kc + 1 ≤ mc ∧ ks + N ≤ ms) (hnn : n = n0 + kc) (hn : n + 1 ≤ 1000000) (hd : decode cc pc = .ok (.new idx, 3))
    (kk : R cx (kc + 1) (ks + N) (n + 1) (rl_up σ n (.inr (ci, fs))) (pc + 3) ls (.ref n :: st)) : R cx kc ks n σ pc ls st := by
  subst hc
  intro p e s m args below meth c dC dI dA E H locs la F hH hS hl
  refine va_new (ci := ci) (fs := fs.map (rl_tv E)) F.1 F.2.1 F.2.2.2.2.2.1 hin ty hty F.2.2.2.2.1 (F.2.2.2.2.2.1 _ hcl) (F.2.2.2.2.2.1 _ hinst) (F.2.2.2.2.2.1 _ hini) F.2.2.2.2.2.2.2.1 hH.2.2 (rl_D hH.1) hS (fun q hq => Nat.le_trans F.2.2.2.2.2.2.2.2.2.1 hq) hci (hfs E) hm.1 hm.2 hd (fun q H1 hP hD hS1 => ?_)
  refine rl_known (fun hsz => ?_)
  have hz : H1.size ≤ E.1 + n + 1 := by
    rcases F.2.2.2.2.2.2.2.2.2.2.2 with g | g
    · exact absurd g (by show ¬ mc = 0; omega)
    · have g : s.heap.size ≤ E.1 + n0 := g
      omega
  obtain ⟨rfl, hH1⟩ := rl_Hw.push (c := .inr (ci, fs)) ⟨hn, hH.2.1⟩ hP hD hz
  exact kk p e s m args below meth c dC dI dA E H1 locs la F hH1 hS1 hl
theorem R.newarr (hc : cx = (l, y, cc, nL, ret, d, mc, ms, n0, X, Q)) {at9 : ArrayType} {t9 N : Nat} {ty : FieldType} {a0 : vp_A} (harr : Cond.arrayClass ty ∈ g_tbl) (hty : newarray.typeOf at9 = ty) (ht : ∀ dA, (rl_tys dA)[t9]? = some (dA t9, ty)) (hRA : ∀ (U : State) (c1 c2 : ClassId), va_RA U c1 ty → va_RA U c2 ty → c1 = c2) (ha : ∀ cA : ClassId, vp_cell cA a0 = arrV cA N (fun _ => defaultValue ty)) (hN : N < 2 ^ 31) (hby : N * componentBytes ty ≤ 536870912) (hm : kc + 1 ≤ mc ∧ ks + N ≤ ms) (hnn : n = n0 + kc) (hn : n + 1 ≤ 1000000) (hd : decode cc pc = .ok (.newarray at9, 2))
    (kk : R cx (kc + 1) (ks + N) (n + 1) (rl_up σ n (.inl (t9, a0))) (pc + 2) ls (.ref n :: st)) : R cx kc ks n σ pc ls (.int (nI N) :: st) := by
  subst hc
  intro p e s m args below meth c dC dI dA E H locs la F hH hS hl
  refine va_newa F.1 F.2.1 (F.2.2.2.2.2.1 _ (by rw [hty]; exact harr)) hty F.2.2.2.2.2.2.2.1 hH.2.2 (rl_D hH.1) hS (fun q hq => Nat.le_trans F.2.2.2.2.2.2.2.2.2.1 hq) ha (nI_pos hN) (nI_clamp hN) hby hm.1 hm.2 hd (fun q cA H1 hK hP hD hS1 => ?_)
  refine rl_known (fun hsz => ?_)
  have hz : H1.size ≤ E.1 + n + 1 := by
    rcases F.2.2.2.2.2.2.2.2.2.2.2 with g | g
    · exact absurd g (by show ¬ mc = 0; omega)
    · have g : s.heap.size ≤ E.1 + n0 := g
      omega
  have e1 : cA = dA t9 := by
    refine hRA s _ _ (hK.2 3 (cA, ty) rfl).2 ?_
    exact (F.2.2.2.2.2.2.2.1.2 t9 _ (ht dA)).2
  subst e1
  obtain ⟨rfl, hH1⟩ := rl_Hw.push (c := .inl (t9, a0)) ⟨hn, hH.2.1⟩ hP hD hz
  exact kk p e s m args below meth c dC dI dA E H1 locs la F hH1 hS1 hl

theorem rl_mmax1 : Cond.static Lib.Math.max.name ∈ g_tbl := g_mem (by decide +kernel) rfl
theorem rl_mmax2 : Cond.initialized "java/lang/Math" ∈ g_tbl := g_mem (by decide +kernel) rfl
theorem rl_mmax3 : Cond.code Lib.Math.max.name Lib.Math.max.code 2 (some .int) ∈ g_tbl := g_mem (by decide +kernel) rfl
theorem R.mmax (hc : cx = (l, y, cc, nL, ret, d, mc, ms, n0, X, Q)) {idx : Nat} {x z : Int32} (hw : Cond.methodLink y.cls idx Lib.Math.max.name ∈ g_tbl) (hd1 : 1 ≤ d) (hcat : (st.map fun v => v.category).sum ≤ 8) (hm : kc ≤ mc ∧ ks ≤ ms) (hd : decode cc pc = .ok (.invokestatic idx, 3)) (k : R cx kc ks n σ (pc + 3) ls (.int (if x < z then z else x) :: st)) : R cx kc ks n σ pc ls (.int z :: .int x :: st) := by
  subst hc
  intro p e s m args below meth c dC dI dA E H locs la F hH hS hl
  refine va_mmax F.1 F.2.1 (F.2.2.2.1.trans hl.1.symm) F.2.2.2.2.1 (F.2.2.2.2.2.1 _ hw) (F.2.2.2.2.2.1 _ rl_mmax1) (F.2.2.2.2.2.1 _ rl_mmax2) (F.2.2.2.2.2.1 _ rl_mmax3) (show 1 ≤ d from hd1) ?_ hm.1 hm.2 hd (k p e s m args below meth c dC dI dA E H locs la F hH hS hl)
  rw [rl_cats]
  show _ + 13 ≤ 64 * d
  omega
theorem rl_mmin1 : Cond.static Lib.Math.min.name ∈ g_tbl := g_mem (by decide +kernel) rfl
theorem rl_mmin2 : Cond.initialized "java/lang/Math" ∈ g_tbl := g_mem (by decide +kernel) rfl
theorem rl_mmin3 : Cond.code Lib.Math.min.name Lib.Math.min.code 2 (some .int) ∈ g_tbl := g_mem (by decide +kernel) rfl
theorem R.mmin (hc : cx = (l, y, cc, nL, ret, d, mc, ms, n0, X, Q)) {idx : Nat} {x z : Int32} (hw : Cond.methodLink y.cls idx Lib.Math.min.name ∈ g_tbl) (hd1 : 1 ≤ d) (hcat : (st.map fun v => v.category).sum ≤ 8) (hm : kc ≤ mc ∧ ks ≤ ms) (hd : decode cc pc = .ok (.invokestatic idx, 3)) (k : R cx kc ks n σ (pc + 3) ls (.int (if z < x then z else x) :: st)) : R cx kc ks n σ pc ls (.int z :: .int x :: st) := by
  subst hc
  intro p e s m args below meth c dC dI dA E H locs la F hH hS hl
  refine va_mmin F.1 F.2.1 (F.2.2.2.1.trans hl.1.symm) F.2.2.2.2.1 (F.2.2.2.2.2.1 _ hw) (F.2.2.2.2.2.1 _ rl_mmin1) (F.2.2.2.2.2.1 _ rl_mmin2) (F.2.2.2.2.2.1 _ rl_mmin3) (show 1 ≤ d from hd1) ?_ hm.1 hm.2 hd (k p e s m args below meth c dC dI dA E H locs la F hH hS hl)
  rw [rl_cats]
  show _ + 13 ≤ 64 * d
  omega
end RC
end
section
def rl_GR (own : String) (idx ci k : Nat) : Prop := ∃ (C : String) (T : u_T) (N : Nat), vwCl[ci]? = some (C, T, N) ∧ (∀ w ∈ u_ws C T N, w ∈ g_tbl) ∧ k < N ∧ Cond.fieldLink own idx (T k).1 (T k).2.1 (T k).2.2.1 ∈ g_tbl
theorem R.get {cx : Cx} {l : Launch} {y : MethodName} {cc : ByteArray} {nL : Nat} {ret : Option FieldType} {d mc ms n0 : Nat} {X : Nat × (Nat → Int32)} {Q : Option Value → Nat → Wd → Prop} {kc ks n : Nat} {σ : Wd} {pc : Nat} {ls : List (Option Value)} {st : List Value} (hc : cx = (l, y, cc, nL, ret, d, mc, ms, n0, X, Q)) {i idx ci k : Nat} {fs : List Value} {v : Value} (hg : rl_GR y.cls idx ci k) (hd : decode cc pc = .ok (.getfield idx, 3)) (he : σ i = some (.inr (ci, fs))) (hv : fs[k]? = some v) (kk : R cx kc ks n σ (pc + 3) ls (v :: st)) : R cx kc ks n σ pc ls (.ref i :: st) := by
  subst hc
  intro p e s m args below meth c dC dI dA E H locs la F hH hS hl
  obtain ⟨C, T, N, g1, g2, g5, g6⟩ := hg
  exact va_get (v := rl_tv E v) (fs := fs.map (rl_tv E)) F.1 F.2.1 F.2.2.2.2.2.1 g2 F.2.2.2.2.1 F.2.2.2.2.2.2.2.1 hH.2.2 i (rl_tw_at he (rl_lt hH he)) g1 k g5 (F.2.2.2.2.2.1 _ g6) (fun _ h => h) (by rw [List.getElem?_map, hv]; rfl) hd (kk p e s m args below meth c dC dI dA E H locs la F hH hS hl)
theorem m_X6_init : rl_MI yX6_init cX6_init 1 0 := ⟨(g_at 78 (by decide +kernel) rfl), rfl, (g_at 59 (by decide +kernel) rfl), (g_at 79 (by decide +kernel) rfl), ⟨by decide +kernel, by decide +kernel, by decide +kernel⟩, by decide⟩
theorem m_X4_init : rl_MI yX4_init cX4_init 1 0 := ⟨(g_at 86 (by decide +kernel) rfl), rfl, (g_at 60 (by decide +kernel) rfl), (g_at 87 (by decide +kernel) rfl), ⟨by decide +kernel, by decide +kernel, by decide +kernel⟩, by decide⟩
theorem m_X0_init : rl_MI yX0_init cX0_init 1 0 := ⟨(g_at 146 (by decide +kernel) rfl), rfl, (g_at 61 (by decide +kernel) rfl), (g_at 147 (by decide +kernel) rfl), ⟨by decide +kernel, by decide +kernel, by decide +kernel⟩, by decide⟩
theorem m_X5_init : rl_MI yX5_init cX5_init 1 0 := ⟨(g_at 163 (by decide +kernel) rfl), rfl, (g_at 62 (by decide +kernel) rfl), (g_at 164 (by decide +kernel) rfl), ⟨by decide +kernel, by decide +kernel, by decide +kernel⟩, by decide⟩
theorem m_X3_init : rl_MI yX3_init cX3_init 1 0 := ⟨(g_at 181 (by decide +kernel) rfl), rfl, (g_at 63 (by decide +kernel) rfl), (g_at 182 (by decide +kernel) rfl), ⟨by decide +kernel, by decide +kernel, by decide +kernel⟩, by decide⟩
theorem m_X1_init : rl_MI yX1_init cX1_init 1 0 := ⟨(g_at 199 (by decide +kernel) rfl), rfl, (g_at 64 (by decide +kernel) rfl), (g_at 200 (by decide +kernel) rfl), ⟨by decide +kernel, by decide +kernel, by decide +kernel⟩, by decide⟩
theorem m_X2_init : rl_MI yX2_init cX2_init 1 0 := ⟨(g_at 215 (by decide +kernel) rfl), rfl, (g_at 65 (by decide +kernel) rfl), (g_at 216 (by decide +kernel) rfl), ⟨by decide +kernel, by decide +kernel, by decide +kernel⟩, by decide⟩
theorem m_X6_puddle : rl_MV yX6_puddle cX6_puddle 4 (some .int) 3 := ⟨(g_at 270 (by decide +kernel) rfl), (g_at 271 (by decide +kernel) rfl), (g_at 59 (by decide +kernel) rfl), (g_at 272 (by decide +kernel) rfl), ⟨by decide +kernel, by decide +kernel, by decide +kernel⟩, by decide⟩
theorem m_X6_within : rl_MS yX6_within cX6_within 3 (some .boolean) 3 := ⟨(g_at 274 (by decide +kernel) rfl), (g_at 59 (by decide +kernel) rfl), (g_at 275 (by decide +kernel) rfl), ⟨by decide +kernel, by decide +kernel, by decide +kernel⟩, by decide⟩
theorem m_X6_isSight : rl_MS yX6_isSight cX6_isSight 1 (some .boolean) 1 := ⟨(g_at 277 (by decide +kernel) rfl), (g_at 59 (by decide +kernel) rfl), (g_at 278 (by decide +kernel) rfl), ⟨by decide +kernel, by decide +kernel, by decide +kernel⟩, by decide⟩
theorem m_X0_forget : rl_MV yX0_forget cX0_forget 1 none 0 := ⟨(g_at 280 (by decide +kernel) rfl), (g_at 281 (by decide +kernel) rfl), (g_at 61 (by decide +kernel) rfl), (g_at 282 (by decide +kernel) rfl), ⟨by decide +kernel, by decide +kernel, by decide +kernel⟩, by decide⟩
theorem m_X4_addPuddle : rl_MV yX4_addPuddle cX4_addPuddle 4 (some .int) 3 := ⟨(g_at 284 (by decide +kernel) rfl), (g_at 285 (by decide +kernel) rfl), (g_at 60 (by decide +kernel) rfl), (g_at 286 (by decide +kernel) rfl), ⟨by decide +kernel, by decide +kernel, by decide +kernel⟩, by decide⟩
theorem m_X6_person : rl_MV yX6_person cX6_person 4 (some .int) 3 := ⟨(g_at 288 (by decide +kernel) rfl), (g_at 289 (by decide +kernel) rfl), (g_at 59 (by decide +kernel) rfl), (g_at 290 (by decide +kernel) rfl), ⟨by decide +kernel, by decide +kernel, by decide +kernel⟩, by decide⟩
theorem m_X6_isComing : rl_MS yX6_isComing cX6_isComing 1 (some .boolean) 1 := ⟨(g_at 292 (by decide +kernel) rfl), (g_at 59 (by decide +kernel) rfl), (g_at 293 (by decide +kernel) rfl), ⟨by decide +kernel, by decide +kernel, by decide +kernel⟩, by decide⟩
theorem m_X4_addPerson : rl_MV yX4_addPerson cX4_addPerson 4 (some .int) 3 := ⟨(g_at 295 (by decide +kernel) rfl), (g_at 296 (by decide +kernel) rfl), (g_at 60 (by decide +kernel) rfl), (g_at 297 (by decide +kernel) rfl), ⟨by decide +kernel, by decide +kernel, by decide +kernel⟩, by decide⟩
theorem m_X6_show : rl_MV yX6_show cX6_show 4 (some .int) 2 := ⟨(g_at 299 (by decide +kernel) rfl), (g_at 300 (by decide +kernel) rfl), (g_at 59 (by decide +kernel) rfl), (g_at 301 (by decide +kernel) rfl), ⟨by decide +kernel, by decide +kernel, by decide +kernel⟩, by decide⟩
theorem m_X4_hasPuddle : rl_MV yX4_hasPuddle cX4_hasPuddle 2 (some .boolean) 1 := ⟨(g_at 303 (by decide +kernel) rfl), (g_at 304 (by decide +kernel) rfl), (g_at 60 (by decide +kernel) rfl), (g_at 305 (by decide +kernel) rfl), ⟨by decide +kernel, by decide +kernel, by decide +kernel⟩, by decide⟩
theorem m_X6_of : rl_MV yX6_of cX6_of 3 (some .int) 2 := ⟨(g_at 307 (by decide +kernel) rfl), (g_at 308 (by decide +kernel) rfl), (g_at 59 (by decide +kernel) rfl), (g_at 309 (by decide +kernel) rfl), ⟨by decide +kernel, by decide +kernel, by decide +kernel⟩, by decide⟩
theorem m_X4_claimantOf : rl_MV yX4_claimantOf cX4_claimantOf 3 (some .int) 1 := ⟨(g_at 311 (by decide +kernel) rfl), (g_at 312 (by decide +kernel) rfl), (g_at 60 (by decide +kernel) rfl), (g_at 313 (by decide +kernel) rfl), ⟨by decide +kernel, by decide +kernel, by decide +kernel⟩, by decide⟩
theorem m_X4_drySet : rl_MV yX4_drySet cX4_drySet 3 (some .int) 0 := ⟨(g_at 315 (by decide +kernel) rfl), (g_at 316 (by decide +kernel) rfl), (g_at 60 (by decide +kernel) rfl), (g_at 317 (by decide +kernel) rfl), ⟨by decide +kernel, by decide +kernel, by decide +kernel⟩, by decide⟩
theorem m_X4_isDry : rl_MV yX4_isDry cX4_isDry 2 (some .boolean) 1 := ⟨(g_at 319 (by decide +kernel) rfl), (g_at 320 (by decide +kernel) rfl), (g_at 60 (by decide +kernel) rfl), (g_at 321 (by decide +kernel) rfl), ⟨by decide +kernel, by decide +kernel, by decide +kernel⟩, by decide⟩
theorem m_X4_lessBy : rl_MV yX4_lessBy cX4_lessBy 3 (some .int) 2 := ⟨(g_at 323 (by decide +kernel) rfl), (g_at 324 (by decide +kernel) rfl), (g_at 60 (by decide +kernel) rfl), (g_at 325 (by decide +kernel) rfl), ⟨by decide +kernel, by decide +kernel, by decide +kernel⟩, by decide⟩
theorem m_X4_shadyLoss : rl_MS yX4_shadyLoss cX4_shadyLoss 0 (some .int) 0 := ⟨(g_at 327 (by decide +kernel) rfl), (g_at 60 (by decide +kernel) rfl), (g_at 328 (by decide +kernel) rfl), ⟨by decide +kernel, by decide +kernel, by decide +kernel⟩, by decide⟩
theorem m_X4_kerbLoss : rl_MV yX4_kerbLoss cX4_kerbLoss 1 (some .int) 0 := ⟨(g_at 331 (by decide +kernel) rfl), (g_at 0 (by decide +kernel) rfl), (g_at 60 (by decide +kernel) rfl), (g_at 332 (by decide +kernel) rfl), ⟨by decide +kernel, by decide +kernel, by decide +kernel⟩, by decide⟩
theorem m_X4_neighbours : rl_MS yX4_neighbours cX4_neighbours 2 (some .int) 1 := ⟨(g_at 334 (by decide +kernel) rfl), (g_at 60 (by decide +kernel) rfl), (g_at 335 (by decide +kernel) rfl), ⟨by decide +kernel, by decide +kernel, by decide +kernel⟩, by decide⟩
theorem m_J6_bitCount_0f7a4 : rl_MS yJ6_bitCount_0f7a4 cJ6_bitCount_0f7a4 1 (some .int) 1 := ⟨(g_at 337 (by decide +kernel) rfl), (g_at 67 (by decide +kernel) rfl), (g_at 338 (by decide +kernel) rfl), ⟨by decide +kernel, by decide +kernel, by decide +kernel⟩, by decide⟩
theorem m_X6_at : rl_MV yX6_at cX6_at 3 (some .int) 2 := ⟨(g_at 343 (by decide +kernel) rfl), (g_at 344 (by decide +kernel) rfl), (g_at 59 (by decide +kernel) rfl), (g_at 345 (by decide +kernel) rfl), ⟨by decide +kernel, by decide +kernel, by decide +kernel⟩, by decide⟩
theorem m_X4_hasPerson : rl_MV yX4_hasPerson cX4_hasPerson 2 (some .boolean) 1 := ⟨(g_at 347 (by decide +kernel) rfl), (g_at 348 (by decide +kernel) rfl), (g_at 60 (by decide +kernel) rfl), (g_at 349 (by decide +kernel) rfl), ⟨by decide +kernel, by decide +kernel, by decide +kernel⟩, by decide⟩
theorem m_X4_fitSet : rl_MV yX4_fitSet cX4_fitSet 5 (some .int) 1 := ⟨(g_at 351 (by decide +kernel) rfl), (g_at 352 (by decide +kernel) rfl), (g_at 60 (by decide +kernel) rfl), (g_at 353 (by decide +kernel) rfl), ⟨by decide +kernel, by decide +kernel, by decide +kernel⟩, by decide⟩
theorem m_X4_claimedSet : rl_MV yX4_claimedSet cX4_claimedSet 3 (some .int) 0 := ⟨(g_at 355 (by decide +kernel) rfl), (g_at 356 (by decide +kernel) rfl), (g_at 60 (by decide +kernel) rfl), (g_at 357 (by decide +kernel) rfl), ⟨by decide +kernel, by decide +kernel, by decide +kernel⟩, by decide⟩
theorem m_X4_hasClaimed : rl_MV yX4_hasClaimed cX4_hasClaimed 2 (some .boolean) 1 := ⟨(g_at 359 (by decide +kernel) rfl), (g_at 360 (by decide +kernel) rfl), (g_at 60 (by decide +kernel) rfl), (g_at 361 (by decide +kernel) rfl), ⟨by decide +kernel, by decide +kernel, by decide +kernel⟩, by decide⟩
theorem m_X4_isFit : rl_MV yX4_isFit cX4_isFit 5 (some .boolean) 4 := ⟨(g_at 364 (by decide +kernel) rfl), (g_at 1 (by decide +kernel) rfl), (g_at 60 (by decide +kernel) rfl), (g_at 365 (by decide +kernel) rfl), ⟨by decide +kernel, by decide +kernel, by decide +kernel⟩, by decide⟩
theorem m_X6_type : rl_MV yX6_type cX6_type 2 (some .int) 1 := ⟨(g_at 367 (by decide +kernel) rfl), (g_at 368 (by decide +kernel) rfl), (g_at 59 (by decide +kernel) rfl), (g_at 369 (by decide +kernel) rfl), ⟨by decide +kernel, by decide +kernel, by decide +kernel⟩, by decide⟩
theorem m_X5_add : rl_MV yX5_add cX5_add 2 (some .int) 1 := ⟨(g_at 371 (by decide +kernel) rfl), (g_at 372 (by decide +kernel) rfl), (g_at 62 (by decide +kernel) rfl), (g_at 373 (by decide +kernel) rfl), ⟨by decide +kernel, by decide +kernel, by decide +kernel⟩, by decide⟩
theorem m_X6_read : rl_MV yX6_read cX6_read 2 (some .int) 0 := ⟨(g_at 375 (by decide +kernel) rfl), (g_at 376 (by decide +kernel) rfl), (g_at 59 (by decide +kernel) rfl), (g_at 377 (by decide +kernel) rfl), ⟨by decide +kernel, by decide +kernel, by decide +kernel⟩, by decide⟩
theorem m_X5_parse : rl_MV yX5_parse cX5_parse 3 (some .int) 1 := ⟨(g_at 379 (by decide +kernel) rfl), (g_at 380 (by decide +kernel) rfl), (g_at 62 (by decide +kernel) rfl), (g_at 381 (by decide +kernel) rfl), ⟨by decide +kernel, by decide +kernel, by decide +kernel⟩, by decide⟩
theorem m_X4_empty : rl_MV yX4_empty cX4_empty 1 none 0 := ⟨(g_at 383 (by decide +kernel) rfl), (g_at 384 (by decide +kernel) rfl), (g_at 60 (by decide +kernel) rfl), (g_at 385 (by decide +kernel) rfl), ⟨by decide +kernel, by decide +kernel, by decide +kernel⟩, by decide⟩
theorem m_X5_parsePuddles : rl_MV yX5_parsePuddles cX5_parsePuddles 6 (some .int) 1 := ⟨(g_at 388 (by decide +kernel) rfl), (g_at 2 (by decide +kernel) rfl), (g_at 62 (by decide +kernel) rfl), (g_at 389 (by decide +kernel) rfl), ⟨by decide +kernel, by decide +kernel, by decide +kernel⟩, by decide⟩
theorem m_X5_take : rl_MV yX5_take cX5_take 2 (some .boolean) 1 := ⟨(g_at 392 (by decide +kernel) rfl), (g_at 3 (by decide +kernel) rfl), (g_at 62 (by decide +kernel) rfl), (g_at 393 (by decide +kernel) rfl), ⟨by decide +kernel, by decide +kernel, by decide +kernel⟩, by decide⟩
theorem m_X5_skipBlanks : rl_MV yX5_skipBlanks cX5_skipBlanks 1 none 0 := ⟨(g_at 396 (by decide +kernel) rfl), (g_at 4 (by decide +kernel) rfl), (g_at 62 (by decide +kernel) rfl), (g_at 397 (by decide +kernel) rfl), ⟨by decide +kernel, by decide +kernel, by decide +kernel⟩, by decide⟩
theorem m_X5_parseKind : rl_MV yX5_parseKind cX5_parseKind 2 (some .int) 0 := ⟨(g_at 400 (by decide +kernel) rfl), (g_at 5 (by decide +kernel) rfl), (g_at 62 (by decide +kernel) rfl), (g_at 401 (by decide +kernel) rfl), ⟨by decide +kernel, by decide +kernel, by decide +kernel⟩, by decide⟩
theorem m_J0_indexOf_0f7a4 : rl_MV yJ0_indexOf_0f7a4 cJ0_indexOf_0f7a4 2 (some .int) 1 := ⟨(g_at 404 (by decide +kernel) rfl), (g_at 405 (by decide +kernel) rfl), (g_at 68 (by decide +kernel) rfl), (g_at 406 (by decide +kernel) rfl), ⟨by decide +kernel, by decide +kernel, by decide +kernel⟩, by decide⟩
theorem m_J0_indexOf_7cf53 : rl_MV yJ0_indexOf_7cf53 cJ0_indexOf_7cf53 3 (some .int) 2 := ⟨(g_at 408 (by decide +kernel) rfl), (g_at 409 (by decide +kernel) rfl), (g_at 68 (by decide +kernel) rfl), (g_at 410 (by decide +kernel) rfl), ⟨by decide +kernel, by decide +kernel, by decide +kernel⟩, by decide⟩
theorem m_J0_isLatin1_aae02 : rl_MV yJ0_isLatin1_aae02 cJ0_isLatin1_aae02 1 (some .boolean) 0 := ⟨(g_at 412 (by decide +kernel) rfl), (g_at 413 (by decide +kernel) rfl), (g_at 68 (by decide +kernel) rfl), (g_at 414 (by decide +kernel) rfl), ⟨by decide +kernel, by decide +kernel, by decide +kernel⟩, by decide⟩
theorem m_J0_length_8abf5 : rl_MV yJ0_length_8abf5 cJ0_length_8abf5 1 (some .int) 0 := ⟨(g_at 418 (by decide +kernel) rfl), (g_at 419 (by decide +kernel) rfl), (g_at 68 (by decide +kernel) rfl), (g_at 420 (by decide +kernel) rfl), ⟨by decide +kernel, by decide +kernel, by decide +kernel⟩, by decide⟩
theorem m_J0_coder_7d493 : rl_MV yJ0_coder_7d493 cJ0_coder_7d493 1 (some .byte) 0 := ⟨(g_at 422 (by decide +kernel) rfl), (g_at 423 (by decide +kernel) rfl), (g_at 68 (by decide +kernel) rfl), (g_at 424 (by decide +kernel) rfl), ⟨by decide +kernel, by decide +kernel, by decide +kernel⟩, by decide⟩
theorem m_J1_indexOf_4cfef : rl_MS yJ1_indexOf_4cfef cJ1_indexOf_4cfef 4 (some .int) 4 := ⟨(g_at 426 (by decide +kernel) rfl), (g_at 69 (by decide +kernel) rfl), (g_at 427 (by decide +kernel) rfl), ⟨by decide +kernel, by decide +kernel, by decide +kernel⟩, by decide⟩
theorem m_J1_canEncode_9a6ad : rl_MS yJ1_canEncode_9a6ad cJ1_canEncode_9a6ad 1 (some .boolean) 1 := ⟨(g_at 429 (by decide +kernel) rfl), (g_at 69 (by decide +kernel) rfl), (g_at 430 (by decide +kernel) rfl), ⟨by decide +kernel, by decide +kernel, by decide +kernel⟩, by decide⟩
theorem m_J9_max_7cf53 : rl_MS yJ9_max_7cf53 cJ9_max_7cf53 2 (some .int) 2 := ⟨(g_at 432 (by decide +kernel) rfl), (g_at 70 (by decide +kernel) rfl), (g_at 433 (by decide +kernel) rfl), ⟨by decide +kernel, by decide +kernel, by decide +kernel⟩, by decide⟩
theorem m_J9_min_7cf53 : rl_MS yJ9_min_7cf53 cJ9_min_7cf53 2 (some .int) 2 := ⟨(g_at 435 (by decide +kernel) rfl), (g_at 70 (by decide +kernel) rfl), (g_at 436 (by decide +kernel) rfl), ⟨by decide +kernel, by decide +kernel, by decide +kernel⟩, by decide⟩
theorem m_J1_indexOfChar_4cfef : rl_MS yJ1_indexOfChar_4cfef cJ1_indexOfChar_4cfef 6 (some .int) 4 := ⟨(g_at 438 (by decide +kernel) rfl), (g_at 69 (by decide +kernel) rfl), (g_at 439 (by decide +kernel) rfl), ⟨by decide +kernel, by decide +kernel, by decide +kernel⟩, by decide⟩
theorem m_J2_indexOf_4cfef : rl_MS yJ2_indexOf_4cfef cJ2_indexOf_4cfef 4 (some .int) 4 := ⟨(g_at 441 (by decide +kernel) rfl), (g_at 71 (by decide +kernel) rfl), (g_at 442 (by decide +kernel) rfl), ⟨by decide +kernel, by decide +kernel, by decide +kernel⟩, by decide⟩
theorem m_J2_indexOfChar_4cfef : rl_MS yJ2_indexOfChar_4cfef cJ2_indexOfChar_4cfef 4 (some .int) 4 := ⟨(g_at 447 (by decide +kernel) rfl), (g_at 71 (by decide +kernel) rfl), (g_at 448 (by decide +kernel) rfl), ⟨by decide +kernel, by decide +kernel, by decide +kernel⟩, by decide⟩
theorem m_J2_checkBoundsBeginEnd_d044e : rl_MS yJ2_checkBoundsBeginEnd_d044e cJ2_checkBoundsBeginEnd_d044e 3 none 3 := ⟨(g_at 450 (by decide +kernel) rfl), (g_at 71 (by decide +kernel) rfl), (g_at 451 (by decide +kernel) rfl), ⟨by decide +kernel, by decide +kernel, by decide +kernel⟩, by decide⟩
theorem m_J2_length_9d52b : rl_MS yJ2_length_9d52b cJ2_length_9d52b 1 (some .int) 1 := ⟨(g_at 453 (by decide +kernel) rfl), (g_at 71 (by decide +kernel) rfl), (g_at 454 (by decide +kernel) rfl), ⟨by decide +kernel, by decide +kernel, by decide +kernel⟩, by decide⟩
theorem m_J0_checkBoundsBeginEnd_23922 : rl_MS yJ0_checkBoundsBeginEnd_23922 cJ0_checkBoundsBeginEnd_23922 3 none 3 := ⟨(g_at 456 (by decide +kernel) rfl), (g_at 68 (by decide +kernel) rfl), (g_at 457 (by decide +kernel) rfl), ⟨by decide +kernel, by decide +kernel, by decide +kernel⟩, by decide⟩
theorem m_J3_checkFromToIndex_8c36e : rl_MS yJ3_checkFromToIndex_8c36e cJ3_checkFromToIndex_8c36e 4 (some .int) 4 := ⟨(g_at 461 (by decide +kernel) rfl), (g_at 72 (by decide +kernel) rfl), (g_at 462 (by decide +kernel) rfl), ⟨by decide +kernel, by decide +kernel, by decide +kernel⟩, by decide⟩
theorem m_J2_indexOfCharUnsafe_4cfef : rl_MS yJ2_indexOfCharUnsafe_4cfef cJ2_indexOfCharUnsafe_4cfef 5 (some .int) 4 := ⟨(g_at 464 (by decide +kernel) rfl), (g_at 71 (by decide +kernel) rfl), (g_at 465 (by decide +kernel) rfl), ⟨by decide +kernel, by decide +kernel, by decide +kernel⟩, by decide⟩
theorem m_J2_getChar_3b067 : rl_MS yJ2_getChar_3b067 cJ2_getChar_3b067 2 (some .char) 2 := ⟨(g_at 467 (by decide +kernel) rfl), (g_at 71 (by decide +kernel) rfl), (g_at 468 (by decide +kernel) rfl), ⟨by decide +kernel, by decide +kernel, by decide +kernel⟩, by decide⟩
theorem m_J2_indexOfSupplementary_4cfef : rl_MS yJ2_indexOfSupplementary_4cfef cJ2_indexOfSupplementary_4cfef 7 (some .int) 4 := ⟨(g_at 476 (by decide +kernel) rfl), (g_at 71 (by decide +kernel) rfl), (g_at 477 (by decide +kernel) rfl), ⟨by decide +kernel, by decide +kernel, by decide +kernel⟩, by decide⟩
theorem m_J11_isValidCodePoint_9a6ad : rl_MS yJ11_isValidCodePoint_9a6ad cJ11_isValidCodePoint_9a6ad 2 (some .boolean) 1 := ⟨(g_at 479 (by decide +kernel) rfl), (g_at 73 (by decide +kernel) rfl), (g_at 480 (by decide +kernel) rfl), ⟨by decide +kernel, by decide +kernel, by decide +kernel⟩, by decide⟩
theorem m_J11_highSurrogate_5068e : rl_MS yJ11_highSurrogate_5068e cJ11_highSurrogate_5068e 1 (some .char) 1 := ⟨(g_at 482 (by decide +kernel) rfl), (g_at 73 (by decide +kernel) rfl), (g_at 483 (by decide +kernel) rfl), ⟨by decide +kernel, by decide +kernel, by decide +kernel⟩, by decide⟩
theorem m_J11_lowSurrogate_5068e : rl_MS yJ11_lowSurrogate_5068e cJ11_lowSurrogate_5068e 1 (some .char) 1 := ⟨(g_at 486 (by decide +kernel) rfl), (g_at 73 (by decide +kernel) rfl), (g_at 487 (by decide +kernel) rfl), ⟨by decide +kernel, by decide +kernel, by decide +kernel⟩, by decide⟩
theorem m_X5_faultAt : rl_MS yX5_faultAt cX5_faultAt 1 (some .int) 1 := ⟨(g_at 490 (by decide +kernel) rfl), (g_at 62 (by decide +kernel) rfl), (g_at 491 (by decide +kernel) rfl), ⟨by decide +kernel, by decide +kernel, by decide +kernel⟩, by decide⟩
theorem m_X5_parseSight : rl_MV yX5_parseSight cX5_parseSight 2 (some .int) 0 := ⟨(g_at 494 (by decide +kernel) rfl), (g_at 6 (by decide +kernel) rfl), (g_at 62 (by decide +kernel) rfl), (g_at 495 (by decide +kernel) rfl), ⟨by decide +kernel, by decide +kernel, by decide +kernel⟩, by decide⟩
theorem m_X5_digitHere : rl_MV yX5_digitHere cX5_digitHere 1 (some .int) 0 := ⟨(g_at 498 (by decide +kernel) rfl), (g_at 7 (by decide +kernel) rfl), (g_at 62 (by decide +kernel) rfl), (g_at 499 (by decide +kernel) rfl), ⟨by decide +kernel, by decide +kernel, by decide +kernel⟩, by decide⟩
theorem m_X5_parseNumber : rl_MV yX5_parseNumber cX5_parseNumber 6 (some .int) 2 := ⟨(g_at 502 (by decide +kernel) rfl), (g_at 8 (by decide +kernel) rfl), (g_at 62 (by decide +kernel) rfl), (g_at 503 (by decide +kernel) rfl), ⟨by decide +kernel, by decide +kernel, by decide +kernel⟩, by decide⟩
theorem m_X5_parsePeople : rl_MV yX5_parsePeople cX5_parsePeople 6 (some .int) 1 := ⟨(g_at 507 (by decide +kernel) rfl), (g_at 9 (by decide +kernel) rfl), (g_at 62 (by decide +kernel) rfl), (g_at 508 (by decide +kernel) rfl), ⟨by decide +kernel, by decide +kernel, by decide +kernel⟩, by decide⟩
theorem m_X4_copyFrom : rl_MV yX4_copyFrom cX4_copyFrom 2 none 1 := ⟨(g_at 511 (by decide +kernel) rfl), (g_at 512 (by decide +kernel) rfl), (g_at 60 (by decide +kernel) rfl), (g_at 513 (by decide +kernel) rfl), ⟨by decide +kernel, by decide +kernel, by decide +kernel⟩, by decide⟩
theorem m_X6_count : rl_MV yX6_count cX6_count 2 (some .int) 1 := ⟨(g_at 519 (by decide +kernel) rfl), (g_at 520 (by decide +kernel) rfl), (g_at 59 (by decide +kernel) rfl), (g_at 521 (by decide +kernel) rfl), ⟨by decide +kernel, by decide +kernel, by decide +kernel⟩, by decide⟩
theorem m_X4_depthOfAll : rl_MV yX4_depthOfAll cX4_depthOfAll 3 (some .int) 0 := ⟨(g_at 523 (by decide +kernel) rfl), (g_at 524 (by decide +kernel) rfl), (g_at 60 (by decide +kernel) rfl), (g_at 525 (by decide +kernel) rfl), ⟨by decide +kernel, by decide +kernel, by decide +kernel⟩, by decide⟩
theorem m_X4_claimants : rl_MV yX4_claimants cX4_claimants 3 (some .int) 0 := ⟨(g_at 527 (by decide +kernel) rfl), (g_at 528 (by decide +kernel) rfl), (g_at 60 (by decide +kernel) rfl), (g_at 529 (by decide +kernel) rfl), ⟨by decide +kernel, by decide +kernel, by decide +kernel⟩, by decide⟩
theorem m_X6_hours : rl_MV yX6_hours cX6_hours 2 (some .int) 1 := ⟨(g_at 532 (by decide +kernel) rfl), (g_at 533 (by decide +kernel) rfl), (g_at 59 (by decide +kernel) rfl), (g_at 534 (by decide +kernel) rfl), ⟨by decide +kernel, by decide +kernel, by decide +kernel⟩, by decide⟩
theorem m_X6_passHours : rl_MV yX6_passHours cX6_passHours 4 (some .int) 2 := ⟨(g_at 537 (by decide +kernel) rfl), (g_at 10 (by decide +kernel) rfl), (g_at 59 (by decide +kernel) rfl), (g_at 538 (by decide +kernel) rfl), ⟨by decide +kernel, by decide +kernel, by decide +kernel⟩, by decide⟩
theorem m_X0_remember : rl_MV yX0_remember cX0_remember 3 none 1 := ⟨(g_at 540 (by decide +kernel) rfl), (g_at 541 (by decide +kernel) rfl), (g_at 61 (by decide +kernel) rfl), (g_at 542 (by decide +kernel) rfl), ⟨by decide +kernel, by decide +kernel, by decide +kernel⟩, by decide⟩
theorem m_X4_drawCart : rl_MV yX4_drawCart cX4_drawCart 1 none 0 := ⟨(g_at 546 (by decide +kernel) rfl), (g_at 547 (by decide +kernel) rfl), (g_at 60 (by decide +kernel) rfl), (g_at 548 (by decide +kernel) rfl), ⟨by decide +kernel, by decide +kernel, by decide +kernel⟩, by decide⟩
theorem m_X4_halve : rl_MV yX4_halve cX4_halve 2 none 1 := ⟨(g_at 553 (by decide +kernel) rfl), (g_at 554 (by decide +kernel) rfl), (g_at 60 (by decide +kernel) rfl), (g_at 555 (by decide +kernel) rfl), ⟨by decide +kernel, by decide +kernel, by decide +kernel⟩, by decide⟩
theorem m_X4_passHour : rl_MV yX4_passHour cX4_passHour 1 none 0 := ⟨(g_at 557 (by decide +kernel) rfl), (g_at 558 (by decide +kernel) rfl), (g_at 60 (by decide +kernel) rfl), (g_at 559 (by decide +kernel) rfl), ⟨by decide +kernel, by decide +kernel, by decide +kernel⟩, by decide⟩
theorem m_X4_letClaim : rl_MV yX4_letClaim cX4_letClaim 2 none 0 := ⟨(g_at 562 (by decide +kernel) rfl), (g_at 11 (by decide +kernel) rfl), (g_at 60 (by decide +kernel) rfl), (g_at 563 (by decide +kernel) rfl), ⟨by decide +kernel, by decide +kernel, by decide +kernel⟩, by decide⟩
theorem m_X4_deepestFit : rl_MV yX4_deepestFit cX4_deepestFit 8 (some .int) 4 := ⟨(g_at 565 (by decide +kernel) rfl), (g_at 566 (by decide +kernel) rfl), (g_at 60 (by decide +kernel) rfl), (g_at 567 (by decide +kernel) rfl), ⟨by decide +kernel, by decide +kernel, by decide +kernel⟩, by decide⟩
theorem m_X4_lessen : rl_MV yX4_lessen cX4_lessen 3 none 0 := ⟨(g_at 569 (by decide +kernel) rfl), (g_at 570 (by decide +kernel) rfl), (g_at 60 (by decide +kernel) rfl), (g_at 571 (by decide +kernel) rfl), ⟨by decide +kernel, by decide +kernel, by decide +kernel⟩, by decide⟩
theorem m_X6_rain : rl_MV yX6_rain cX6_rain 2 (some .int) 1 := ⟨(g_at 576 (by decide +kernel) rfl), (g_at 577 (by decide +kernel) rfl), (g_at 59 (by decide +kernel) rfl), (g_at 578 (by decide +kernel) rfl), ⟨by decide +kernel, by decide +kernel, by decide +kernel⟩, by decide⟩
theorem m_X4_deepen : rl_MV yX4_deepen cX4_deepen 3 none 1 := ⟨(g_at 580 (by decide +kernel) rfl), (g_at 581 (by decide +kernel) rfl), (g_at 60 (by decide +kernel) rfl), (g_at 582 (by decide +kernel) rfl), ⟨by decide +kernel, by decide +kernel, by decide +kernel⟩, by decide⟩
theorem m_X6_drive : rl_MV yX6_drive cX6_drive 2 (some .int) 1 := ⟨(g_at 585 (by decide +kernel) rfl), (g_at 586 (by decide +kernel) rfl), (g_at 59 (by decide +kernel) rfl), (g_at 587 (by decide +kernel) rfl), ⟨by decide +kernel, by decide +kernel, by decide +kernel⟩, by decide⟩
theorem m_X6_send : rl_MV yX6_send cX6_send 3 (some .int) 1 := ⟨(g_at 591 (by decide +kernel) rfl), (g_at 592 (by decide +kernel) rfl), (g_at 59 (by decide +kernel) rfl), (g_at 593 (by decide +kernel) rfl), ⟨by decide +kernel, by decide +kernel, by decide +kernel⟩, by decide⟩
theorem m_X6_later : rl_MV yX6_later cX6_later 4 (some .int) 2 := ⟨(g_at 596 (by decide +kernel) rfl), (g_at 597 (by decide +kernel) rfl), (g_at 59 (by decide +kernel) rfl), (g_at 598 (by decide +kernel) rfl), ⟨by decide +kernel, by decide +kernel, by decide +kernel⟩, by decide⟩
theorem m_X6_drift : rl_MV yX6_drift cX6_drift 2 (some .int) 1 := ⟨(g_at 600 (by decide +kernel) rfl), (g_at 601 (by decide +kernel) rfl), (g_at 59 (by decide +kernel) rfl), (g_at 602 (by decide +kernel) rfl), ⟨by decide +kernel, by decide +kernel, by decide +kernel⟩, by decide⟩
theorem m_X6_undo : rl_MV yX6_undo cX6_undo 1 (some .int) 0 := ⟨(g_at 604 (by decide +kernel) rfl), (g_at 605 (by decide +kernel) rfl), (g_at 59 (by decide +kernel) rfl), (g_at 606 (by decide +kernel) rfl), ⟨by decide +kernel, by decide +kernel, by decide +kernel⟩, by decide⟩
theorem m_X0_recall : rl_MV yX0_recall cX0_recall 3 (some .boolean) 1 := ⟨(g_at 608 (by decide +kernel) rfl), (g_at 609 (by decide +kernel) rfl), (g_at 61 (by decide +kernel) rfl), (g_at 610 (by decide +kernel) rfl), ⟨by decide +kernel, by decide +kernel, by decide +kernel⟩, by decide⟩
theorem m_X6_seed : rl_MV yX6_seed cX6_seed 3 (some .int) 1 := ⟨(g_at 612 (by decide +kernel) rfl), (g_at 613 (by decide +kernel) rfl), (g_at 59 (by decide +kernel) rfl), (g_at 614 (by decide +kernel) rfl), ⟨by decide +kernel, by decide +kernel, by decide +kernel⟩, by decide⟩
theorem m_X6_ahead : rl_MV yX6_ahead cX6_ahead 4 (some .int) 2 := ⟨(g_at 616 (by decide +kernel) rfl), (g_at 617 (by decide +kernel) rfl), (g_at 59 (by decide +kernel) rfl), (g_at 618 (by decide +kernel) rfl), ⟨by decide +kernel, by decide +kernel, by decide +kernel⟩, by decide⟩
theorem m_X6_claims : rl_MV yX6_claims cX6_claims 3 (some .int) 2 := ⟨(g_at 620 (by decide +kernel) rfl), (g_at 621 (by decide +kernel) rfl), (g_at 59 (by decide +kernel) rfl), (g_at 622 (by decide +kernel) rfl), ⟨by decide +kernel, by decide +kernel, by decide +kernel⟩, by decide⟩
theorem m_X4_claimantsBehind : rl_MV yX4_claimantsBehind cX4_claimantsBehind 3 (some .int) 1 := ⟨(g_at 624 (by decide +kernel) rfl), (g_at 625 (by decide +kernel) rfl), (g_at 60 (by decide +kernel) rfl), (g_at 626 (by decide +kernel) rfl), ⟨by decide +kernel, by decide +kernel, by decide +kernel⟩, by decide⟩
theorem m_X4_isAnyoneToCome : rl_MV yX4_isAnyoneToCome cX4_isAnyoneToCome 2 (some .boolean) 0 := ⟨(g_at 629 (by decide +kernel) rfl), (g_at 12 (by decide +kernel) rfl), (g_at 60 (by decide +kernel) rfl), (g_at 630 (by decide +kernel) rfl), ⟨by decide +kernel, by decide +kernel, by decide +kernel⟩, by decide⟩
theorem m_X6_then : rl_MV yX6_then cX6_then 2 (some .int) 1 := ⟨(g_at 634 (by decide +kernel) rfl), (g_at 635 (by decide +kernel) rfl), (g_at 59 (by decide +kernel) rfl), (g_at 636 (by decide +kernel) rfl), ⟨by decide +kernel, by decide +kernel, by decide +kernel⟩, by decide⟩
theorem m_X6_served : rl_MV yX6_served cX6_served 3 (some .int) 1 := ⟨(g_at 638 (by decide +kernel) rfl), (g_at 639 (by decide +kernel) rfl), (g_at 59 (by decide +kernel) rfl), (g_at 640 (by decide +kernel) rfl), ⟨by decide +kernel, by decide +kernel, by decide +kernel⟩, by decide⟩
theorem m_X6_dries : rl_MV yX6_dries cX6_dries 3 (some .int) 1 := ⟨(g_at 642 (by decide +kernel) rfl), (g_at 643 (by decide +kernel) rfl), (g_at 59 (by decide +kernel) rfl), (g_at 644 (by decide +kernel) rfl), ⟨by decide +kernel, by decide +kernel, by decide +kernel⟩, by decide⟩
theorem m_X6_match : rl_MV yX6_match cX6_match 1 (some .int) 0 := ⟨(g_at 646 (by decide +kernel) rfl), (g_at 647 (by decide +kernel) rfl), (g_at 59 (by decide +kernel) rfl), (g_at 648 (by decide +kernel) rfl), ⟨by decide +kernel, by decide +kernel, by decide +kernel⟩, by decide⟩
theorem m_X1_greatest : rl_MV yX1_greatest cX1_greatest 4 (some .int) 1 := ⟨(g_at 650 (by decide +kernel) rfl), (g_at 651 (by decide +kernel) rfl), (g_at 64 (by decide +kernel) rfl), (g_at 652 (by decide +kernel) rfl), ⟨by decide +kernel, by decide +kernel, by decide +kernel⟩, by decide⟩
theorem m_X1_findsOne : rl_MV yX1_findsOne cX1_findsOne 5 (some .boolean) 2 := ⟨(g_at 657 (by decide +kernel) rfl), (g_at 13 (by decide +kernel) rfl), (g_at 64 (by decide +kernel) rfl), (g_at 658 (by decide +kernel) rfl), ⟨by decide +kernel, by decide +kernel, by decide +kernel⟩, by decide⟩
theorem m_X6_latest : rl_MV yX6_latest cX6_latest 3 (some .int) 1 := ⟨(g_at 660 (by decide +kernel) rfl), (g_at 661 (by decide +kernel) rfl), (g_at 59 (by decide +kernel) rfl), (g_at 662 (by decide +kernel) rfl), ⟨by decide +kernel, by decide +kernel, by decide +kernel⟩, by decide⟩
theorem m_X6_order : rl_MV yX6_order cX6_order 3 (some .int) 2 := ⟨(g_at 664 (by decide +kernel) rfl), (g_at 665 (by decide +kernel) rfl), (g_at 59 (by decide +kernel) rfl), (g_at 666 (by decide +kernel) rfl), ⟨by decide +kernel, by decide +kernel, by decide +kernel⟩, by decide⟩
theorem m_X2_search : rl_MV yX2_search cX2_search 6 none 2 := ⟨(g_at 668 (by decide +kernel) rfl), (g_at 669 (by decide +kernel) rfl), (g_at 65 (by decide +kernel) rfl), (g_at 670 (by decide +kernel) rfl), ⟨by decide +kernel, by decide +kernel, by decide +kernel⟩, by decide⟩
theorem m_X2_choose : rl_MV yX2_choose cX2_choose 9 none 5 := ⟨(g_at 678 (by decide +kernel) rfl), (g_at 14 (by decide +kernel) rfl), (g_at 65 (by decide +kernel) rfl), (g_at 679 (by decide +kernel) rfl), ⟨by decide +kernel, by decide +kernel, by decide +kernel⟩, by decide⟩
theorem m_X2_nth : rl_MV yX2_nth cX2_nth 2 (some .int) 1 := ⟨(g_at 682 (by decide +kernel) rfl), (g_at 683 (by decide +kernel) rfl), (g_at 65 (by decide +kernel) rfl), (g_at 684 (by decide +kernel) rfl), ⟨by decide +kernel, by decide +kernel, by decide +kernel⟩, by decide⟩
theorem m_X6_wet : rl_MV yX6_wet cX6_wet 3 (some .int) 1 := ⟨(g_at 686 (by decide +kernel) rfl), (g_at 687 (by decide +kernel) rfl), (g_at 59 (by decide +kernel) rfl), (g_at 688 (by decide +kernel) rfl), ⟨by decide +kernel, by decide +kernel, by decide +kernel⟩, by decide⟩
theorem m_X6_matters : rl_MV yX6_matters cX6_matters 7 (some .int) 2 := ⟨(g_at 691 (by decide +kernel) rfl), (g_at 692 (by decide +kernel) rfl), (g_at 59 (by decide +kernel) rfl), (g_at 693 (by decide +kernel) rfl), ⟨by decide +kernel, by decide +kernel, by decide +kernel⟩, by decide⟩
theorem m_X6_sight : rl_MV yX6_sight cX6_sight 8 (some .int) 3 := ⟨(g_at 695 (by decide +kernel) rfl), (g_at 696 (by decide +kernel) rfl), (g_at 59 (by decide +kernel) rfl), (g_at 697 (by decide +kernel) rfl), ⟨by decide +kernel, by decide +kernel, by decide +kernel⟩, by decide⟩
theorem m_X6_carts : rl_MV yX6_carts cX6_carts 7 (some .int) 3 := ⟨(g_at 699 (by decide +kernel) rfl), (g_at 700 (by decide +kernel) rfl), (g_at 59 (by decide +kernel) rfl), (g_at 701 (by decide +kernel) rfl), ⟨by decide +kernel, by decide +kernel, by decide +kernel⟩, by decide⟩
theorem m_X6_weightOf : rl_MV yX6_weightOf cX6_weightOf 6 (some .int) 2 := ⟨(g_at 704 (by decide +kernel) rfl), (g_at 15 (by decide +kernel) rfl), (g_at 59 (by decide +kernel) rfl), (g_at 705 (by decide +kernel) rfl), ⟨by decide +kernel, by decide +kernel, by decide +kernel⟩, by decide⟩
theorem m_X6_hasClaimedBehindCarts : rl_MV yX6_hasClaimedBehindCarts cX6_hasClaimedBehindCarts 4 (some .boolean) 2 := ⟨(g_at 708 (by decide +kernel) rfl), (g_at 16 (by decide +kernel) rfl), (g_at 59 (by decide +kernel) rfl), (g_at 709 (by decide +kernel) rfl), ⟨by decide +kernel, by decide +kernel, by decide +kernel⟩, by decide⟩
theorem m_X6_weightOfAll : rl_MV yX6_weightOfAll cX6_weightOfAll 3 (some .int) 0 := ⟨(g_at 712 (by decide +kernel) rfl), (g_at 17 (by decide +kernel) rfl), (g_at 59 (by decide +kernel) rfl), (g_at 713 (by decide +kernel) rfl), ⟨by decide +kernel, by decide +kernel, by decide +kernel⟩, by decide⟩
theorem m_X6_commonDivisor : rl_MS yX6_commonDivisor cX6_commonDivisor 6 (some .int) 2 := ⟨(g_at 715 (by decide +kernel) rfl), (g_at 59 (by decide +kernel) rfl), (g_at 716 (by decide +kernel) rfl), ⟨by decide +kernel, by decide +kernel, by decide +kernel⟩, by decide⟩
theorem m_X6_image : rl_MV yX6_image cX6_image 1 (some .int) 0 := ⟨(g_at 718 (by decide +kernel) rfl), (g_at 719 (by decide +kernel) rfl), (g_at 59 (by decide +kernel) rfl), (g_at 720 (by decide +kernel) rfl), ⟨by decide +kernel, by decide +kernel, by decide +kernel⟩, by decide⟩
theorem m_X0_copyFrom : rl_MV yX0_copyFrom cX0_copyFrom 2 none 1 := ⟨(g_at 722 (by decide +kernel) rfl), (g_at 723 (by decide +kernel) rfl), (g_at 61 (by decide +kernel) rfl), (g_at 724 (by decide +kernel) rfl), ⟨by decide +kernel, by decide +kernel, by decide +kernel⟩, by decide⟩
theorem m_X6_restore : rl_MV yX6_restore cX6_restore 1 (some .int) 0 := ⟨(g_at 726 (by decide +kernel) rfl), (g_at 727 (by decide +kernel) rfl), (g_at 59 (by decide +kernel) rfl), (g_at 728 (by decide +kernel) rfl), ⟨by decide +kernel, by decide +kernel, by decide +kernel⟩, by decide⟩
theorem m_X6_dipped : rl_MV yX6_dipped cX6_dipped 8 (some .int) 6 := ⟨(g_at 730 (by decide +kernel) rfl), (g_at 731 (by decide +kernel) rfl), (g_at 59 (by decide +kernel) rfl), (g_at 732 (by decide +kernel) rfl), ⟨by decide +kernel, by decide +kernel, by decide +kernel⟩, by decide⟩
theorem m_X3_isSheet : rl_MS yX3_isSheet cX3_isSheet 1 (some .boolean) 1 := ⟨(g_at 734 (by decide +kernel) rfl), (g_at 63 (by decide +kernel) rfl), (g_at 735 (by decide +kernel) rfl), ⟨by decide +kernel, by decide +kernel, by decide +kernel⟩, by decide⟩
theorem m_X3_isLane : rl_MS yX3_isLane cX3_isLane 1 (some .boolean) 1 := ⟨(g_at 737 (by decide +kernel) rfl), (g_at 63 (by decide +kernel) rfl), (g_at 738 (by decide +kernel) rfl), ⟨by decide +kernel, by decide +kernel, by decide +kernel⟩, by decide⟩
theorem m_X3_refusal : rl_MV yX3_refusal cX3_refusal 5 (some .int) 4 := ⟨(g_at 740 (by decide +kernel) rfl), (g_at 741 (by decide +kernel) rfl), (g_at 63 (by decide +kernel) rfl), (g_at 742 (by decide +kernel) rfl), ⟨by decide +kernel, by decide +kernel, by decide +kernel⟩, by decide⟩
theorem m_X3_isHeld : rl_MV yX3_isHeld cX3_isHeld 2 (some .boolean) 1 := ⟨(g_at 744 (by decide +kernel) rfl), (g_at 745 (by decide +kernel) rfl), (g_at 63 (by decide +kernel) rfl), (g_at 746 (by decide +kernel) rfl), ⟨by decide +kernel, by decide +kernel, by decide +kernel⟩, by decide⟩
theorem m_X3_holds : rl_MV yX3_holds cX3_holds 4 (some .boolean) 3 := ⟨(g_at 748 (by decide +kernel) rfl), (g_at 749 (by decide +kernel) rfl), (g_at 63 (by decide +kernel) rfl), (g_at 750 (by decide +kernel) rfl), ⟨by decide +kernel, by decide +kernel, by decide +kernel⟩, by decide⟩
theorem m_X6_kindsDipped : rl_MV yX6_kindsDipped cX6_kindsDipped 7 (some .int) 4 := ⟨(g_at 753 (by decide +kernel) rfl), (g_at 18 (by decide +kernel) rfl), (g_at 59 (by decide +kernel) rfl), (g_at 754 (by decide +kernel) rfl), ⟨by decide +kernel, by decide +kernel, by decide +kernel⟩, by decide⟩
theorem m_X6_draftAgrees : rl_MV yX6_draftAgrees cX6_draftAgrees 6 (some .boolean) 4 := ⟨(g_at 757 (by decide +kernel) rfl), (g_at 19 (by decide +kernel) rfl), (g_at 59 (by decide +kernel) rfl), (g_at 758 (by decide +kernel) rfl), ⟨by decide +kernel, by decide +kernel, by decide +kernel⟩, by decide⟩
theorem m_X3_valueAt : rl_MV yX3_valueAt cX3_valueAt 3 (some .long) 2 := ⟨(g_at 760 (by decide +kernel) rfl), (g_at 761 (by decide +kernel) rfl), (g_at 63 (by decide +kernel) rfl), (g_at 762 (by decide +kernel) rfl), ⟨by decide +kernel, by decide +kernel, by decide +kernel⟩, by decide⟩
theorem m_X6_depthsDipped : rl_MV yX6_depthsDipped cX6_depthsDipped 9 (some .int) 5 := ⟨(g_at 765 (by decide +kernel) rfl), (g_at 20 (by decide +kernel) rfl), (g_at 59 (by decide +kernel) rfl), (g_at 766 (by decide +kernel) rfl), ⟨by decide +kernel, by decide +kernel, by decide +kernel⟩, by decide⟩
theorem m_X6_film : rl_MV yX6_film cX6_film 8 (some .int) 5 := ⟨(g_at 768 (by decide +kernel) rfl), (g_at 769 (by decide +kernel) rfl), (g_at 59 (by decide +kernel) rfl), (g_at 770 (by decide +kernel) rfl), ⟨by decide +kernel, by decide +kernel, by decide +kernel⟩, by decide⟩
theorem m_X3_put : rl_MV yX3_put cX3_put 5 none 3 := ⟨(g_at 772 (by decide +kernel) rfl), (g_at 773 (by decide +kernel) rfl), (g_at 63 (by decide +kernel) rfl), (g_at 774 (by decide +kernel) rfl), ⟨by decide +kernel, by decide +kernel, by decide +kernel⟩, by decide⟩
theorem m_X3_lowestBits : rl_MS yX3_lowestBits cX3_lowestBits 3 (some .long) 2 := ⟨(g_at 776 (by decide +kernel) rfl), (g_at 63 (by decide +kernel) rfl), (g_at 777 (by decide +kernel) rfl), ⟨by decide +kernel, by decide +kernel, by decide +kernel⟩, by decide⟩
theorem m_X6_sheet : rl_MV yX6_sheet cX6_sheet 4 (some .int) 3 := ⟨(g_at 779 (by decide +kernel) rfl), (g_at 780 (by decide +kernel) rfl), (g_at 59 (by decide +kernel) rfl), (g_at 781 (by decide +kernel) rfl), ⟨by decide +kernel, by decide +kernel, by decide +kernel⟩, by decide⟩
theorem m_X3_renew : rl_MV yX3_renew cX3_renew 5 none 3 := ⟨(g_at 783 (by decide +kernel) rfl), (g_at 784 (by decide +kernel) rfl), (g_at 63 (by decide +kernel) rfl), (g_at 785 (by decide +kernel) rfl), ⟨by decide +kernel, by decide +kernel, by decide +kernel⟩, by decide⟩
theorem m_X6_drop : rl_MV yX6_drop cX6_drop 2 (some .int) 1 := ⟨(g_at 787 (by decide +kernel) rfl), (g_at 788 (by decide +kernel) rfl), (g_at 59 (by decide +kernel) rfl), (g_at 789 (by decide +kernel) rfl), ⟨by decide +kernel, by decide +kernel, by decide +kernel⟩, by decide⟩
theorem m_X3_clear : rl_MV yX3_clear cX3_clear 2 (some .int) 1 := ⟨(g_at 792 (by decide +kernel) rfl), (g_at 793 (by decide +kernel) rfl), (g_at 63 (by decide +kernel) rfl), (g_at 794 (by decide +kernel) rfl), ⟨by decide +kernel, by decide +kernel, by decide +kernel⟩, by decide⟩
theorem m_X6_item : rl_MV yX6_item cX6_item 7 (some .int) 4 := ⟨(g_at 796 (by decide +kernel) rfl), (g_at 797 (by decide +kernel) rfl), (g_at 59 (by decide +kernel) rfl), (g_at 798 (by decide +kernel) rfl), ⟨by decide +kernel, by decide +kernel, by decide +kernel⟩, by decide⟩
theorem m_X6_copy : rl_MV yX6_copy cX6_copy 6 (some .int) 5 := ⟨(g_at 800 (by decide +kernel) rfl), (g_at 801 (by decide +kernel) rfl), (g_at 59 (by decide +kernel) rfl), (g_at 802 (by decide +kernel) rfl), ⟨by decide +kernel, by decide +kernel, by decide +kernel⟩, by decide⟩
theorem m_X3_move : rl_MV yX3_move cX3_move 6 none 5 := ⟨(g_at 805 (by decide +kernel) rfl), (g_at 806 (by decide +kernel) rfl), (g_at 63 (by decide +kernel) rfl), (g_at 807 (by decide +kernel) rfl), ⟨by decide +kernel, by decide +kernel, by decide +kernel⟩, by decide⟩
theorem m_X7_init : rl_MI yX7_init cX7_init 2 0 := ⟨(g_at 812 (by decide +kernel) rfl), rfl, (g_at 66 (by decide +kernel) rfl), (g_at 813 (by decide +kernel) rfl), ⟨by decide +kernel, by decide +kernel, by decide +kernel⟩, by decide⟩
theorem m_X7_puddle : rl_MV yX7_puddle cX7_puddle 4 (some .int) 3 := ⟨(g_at 883 (by decide +kernel) rfl), (g_at 884 (by decide +kernel) rfl), (g_at 66 (by decide +kernel) rfl), (g_at 885 (by decide +kernel) rfl), ⟨by decide +kernel, by decide +kernel, by decide +kernel⟩, by decide⟩
theorem m_X7_in : rl_MS yX7_in cX7_in 6 (some .boolean) 3 := ⟨(g_at 888 (by decide +kernel) rfl), (g_at 66 (by decide +kernel) rfl), (g_at 889 (by decide +kernel) rfl), ⟨by decide +kernel, by decide +kernel, by decide +kernel⟩, by decide⟩
theorem m_X7_puddleComes : rl_MV yX7_puddleComes cX7_puddleComes 5 none 3 := ⟨(g_at 894 (by decide +kernel) rfl), (g_at 21 (by decide +kernel) rfl), (g_at 66 (by decide +kernel) rfl), (g_at 895 (by decide +kernel) rfl), ⟨by decide +kernel, by decide +kernel, by decide +kernel⟩, by decide⟩
theorem m_X7_person : rl_MV yX7_person cX7_person 4 (some .int) 3 := ⟨(g_at 897 (by decide +kernel) rfl), (g_at 898 (by decide +kernel) rfl), (g_at 66 (by decide +kernel) rfl), (g_at 899 (by decide +kernel) rfl), ⟨by decide +kernel, by decide +kernel, by decide +kernel⟩, by decide⟩
theorem m_X7_personComes : rl_MV yX7_personComes cX7_personComes 5 none 3 := ⟨(g_at 904 (by decide +kernel) rfl), (g_at 22 (by decide +kernel) rfl), (g_at 66 (by decide +kernel) rfl), (g_at 905 (by decide +kernel) rfl), ⟨by decide +kernel, by decide +kernel, by decide +kernel⟩, by decide⟩
theorem m_X7_tells : rl_MV yX7_tells cX7_tells 4 none 3 := ⟨(g_at 908 (by decide +kernel) rfl), (g_at 23 (by decide +kernel) rfl), (g_at 66 (by decide +kernel) rfl), (g_at 909 (by decide +kernel) rfl), ⟨by decide +kernel, by decide +kernel, by decide +kernel⟩, by decide⟩
theorem m_X7_show : rl_MV yX7_show cX7_show 4 (some .int) 2 := ⟨(g_at 911 (by decide +kernel) rfl), (g_at 912 (by decide +kernel) rfl), (g_at 66 (by decide +kernel) rfl), (g_at 913 (by decide +kernel) rfl), ⟨by decide +kernel, by decide +kernel, by decide +kernel⟩, by decide⟩
theorem m_X7_isPuddle : rl_MV yX7_isPuddle cX7_isPuddle 2 (some .boolean) 1 := ⟨(g_at 916 (by decide +kernel) rfl), (g_at 24 (by decide +kernel) rfl), (g_at 66 (by decide +kernel) rfl), (g_at 917 (by decide +kernel) rfl), ⟨by decide +kernel, by decide +kernel, by decide +kernel⟩, by decide⟩
theorem m_X7_ofPuddle : rl_MV yX7_ofPuddle cX7_ofPuddle 3 (some .int) 2 := ⟨(g_at 920 (by decide +kernel) rfl), (g_at 25 (by decide +kernel) rfl), (g_at 66 (by decide +kernel) rfl), (g_at 921 (by decide +kernel) rfl), ⟨by decide +kernel, by decide +kernel, by decide +kernel⟩, by decide⟩
theorem m_X7_of : rl_MV yX7_of cX7_of 3 (some .int) 2 := ⟨(g_at 923 (by decide +kernel) rfl), (g_at 924 (by decide +kernel) rfl), (g_at 66 (by decide +kernel) rfl), (g_at 925 (by decide +kernel) rfl), ⟨by decide +kernel, by decide +kernel, by decide +kernel⟩, by decide⟩
theorem m_X7_whoClaimed : rl_MV yX7_whoClaimed cX7_whoClaimed 4 (some .int) 1 := ⟨(g_at 928 (by decide +kernel) rfl), (g_at 26 (by decide +kernel) rfl), (g_at 66 (by decide +kernel) rfl), (g_at 929 (by decide +kernel) rfl), ⟨by decide +kernel, by decide +kernel, by decide +kernel⟩, by decide⟩
theorem m_X7_claimed : rl_MV yX7_claimed cX7_claimed 2 (some .int) 1 := ⟨(g_at 932 (by decide +kernel) rfl), (g_at 27 (by decide +kernel) rfl), (g_at 66 (by decide +kernel) rfl), (g_at 933 (by decide +kernel) rfl), ⟨by decide +kernel, by decide +kernel, by decide +kernel⟩, by decide⟩
theorem m_X7_ofPerson : rl_MV yX7_ofPerson cX7_ofPerson 3 (some .int) 2 := ⟨(g_at 936 (by decide +kernel) rfl), (g_at 28 (by decide +kernel) rfl), (g_at 66 (by decide +kernel) rfl), (g_at 937 (by decide +kernel) rfl), ⟨by decide +kernel, by decide +kernel, by decide +kernel⟩, by decide⟩
theorem m_X7_less : rl_MV yX7_less cX7_less 3 (some .int) 1 := ⟨(g_at 940 (by decide +kernel) rfl), (g_at 29 (by decide +kernel) rfl), (g_at 66 (by decide +kernel) rfl), (g_at 941 (by decide +kernel) rfl), ⟨by decide +kernel, by decide +kernel, by decide +kernel⟩, by decide⟩
theorem m_X7_deep : rl_MV yX7_deep cX7_deep 2 (some .int) 1 := ⟨(g_at 944 (by decide +kernel) rfl), (g_at 30 (by decide +kernel) rfl), (g_at 66 (by decide +kernel) rfl), (g_at 945 (by decide +kernel) rfl), ⟨by decide +kernel, by decide +kernel, by decide +kernel⟩, by decide⟩
theorem m_X7_isDry : rl_MV yX7_isDry cX7_isDry 2 (some .boolean) 1 := ⟨(g_at 948 (by decide +kernel) rfl), (g_at 31 (by decide +kernel) rfl), (g_at 66 (by decide +kernel) rfl), (g_at 949 (by decide +kernel) rfl), ⟨by decide +kernel, by decide +kernel, by decide +kernel⟩, by decide⟩
theorem m_X7_at : rl_MV yX7_at cX7_at 3 (some .int) 2 := ⟨(g_at 951 (by decide +kernel) rfl), (g_at 952 (by decide +kernel) rfl), (g_at 66 (by decide +kernel) rfl), (g_at 953 (by decide +kernel) rfl), ⟨by decide +kernel, by decide +kernel, by decide +kernel⟩, by decide⟩
theorem m_X7_isPerson : rl_MV yX7_isPerson cX7_isPerson 2 (some .boolean) 1 := ⟨(g_at 956 (by decide +kernel) rfl), (g_at 32 (by decide +kernel) rfl), (g_at 66 (by decide +kernel) rfl), (g_at 957 (by decide +kernel) rfl), ⟨by decide +kernel, by decide +kernel, by decide +kernel⟩, by decide⟩
theorem m_X7_fitsFor : rl_MV yX7_fitsFor cX7_fitsFor 4 (some .int) 1 := ⟨(g_at 960 (by decide +kernel) rfl), (g_at 33 (by decide +kernel) rfl), (g_at 66 (by decide +kernel) rfl), (g_at 961 (by decide +kernel) rfl), ⟨by decide +kernel, by decide +kernel, by decide +kernel⟩, by decide⟩
theorem m_X7_fits : rl_MV yX7_fits cX7_fits 3 (some .boolean) 2 := ⟨(g_at 964 (by decide +kernel) rfl), (g_at 34 (by decide +kernel) rfl), (g_at 66 (by decide +kernel) rfl), (g_at 965 (by decide +kernel) rfl), ⟨by decide +kernel, by decide +kernel, by decide +kernel⟩, by decide⟩
theorem m_X7_count : rl_MV yX7_count cX7_count 2 (some .int) 1 := ⟨(g_at 967 (by decide +kernel) rfl), (g_at 968 (by decide +kernel) rfl), (g_at 66 (by decide +kernel) rfl), (g_at 969 (by decide +kernel) rfl), ⟨by decide +kernel, by decide +kernel, by decide +kernel⟩, by decide⟩
theorem m_X7_deepAll : rl_MV yX7_deepAll cX7_deepAll 3 (some .int) 0 := ⟨(g_at 972 (by decide +kernel) rfl), (g_at 35 (by decide +kernel) rfl), (g_at 66 (by decide +kernel) rfl), (g_at 973 (by decide +kernel) rfl), ⟨by decide +kernel, by decide +kernel, by decide +kernel⟩, by decide⟩
theorem m_X7_dryOnes : rl_MV yX7_dryOnes cX7_dryOnes 3 (some .int) 0 := ⟨(g_at 976 (by decide +kernel) rfl), (g_at 36 (by decide +kernel) rfl), (g_at 66 (by decide +kernel) rfl), (g_at 977 (by decide +kernel) rfl), ⟨by decide +kernel, by decide +kernel, by decide +kernel⟩, by decide⟩
theorem m_X7_servedNow : rl_MV yX7_servedNow cX7_servedNow 3 (some .int) 0 := ⟨(g_at 980 (by decide +kernel) rfl), (g_at 37 (by decide +kernel) rfl), (g_at 66 (by decide +kernel) rfl), (g_at 981 (by decide +kernel) rfl), ⟨by decide +kernel, by decide +kernel, by decide +kernel⟩, by decide⟩
theorem m_X7_claimedOnes : rl_MV yX7_claimedOnes cX7_claimedOnes 3 (some .int) 0 := ⟨(g_at 984 (by decide +kernel) rfl), (g_at 38 (by decide +kernel) rfl), (g_at 66 (by decide +kernel) rfl), (g_at 985 (by decide +kernel) rfl), ⟨by decide +kernel, by decide +kernel, by decide +kernel⟩, by decide⟩
theorem m_X7_type : rl_MV yX7_type cX7_type 2 (some .int) 1 := ⟨(g_at 987 (by decide +kernel) rfl), (g_at 988 (by decide +kernel) rfl), (g_at 66 (by decide +kernel) rfl), (g_at 989 (by decide +kernel) rfl), ⟨by decide +kernel, by decide +kernel, by decide +kernel⟩, by decide⟩
theorem m_X7_read : rl_MV yX7_read cX7_read 4 (some .int) 0 := ⟨(g_at 993 (by decide +kernel) rfl), (g_at 994 (by decide +kernel) rfl), (g_at 66 (by decide +kernel) rfl), (g_at 995 (by decide +kernel) rfl), ⟨by decide +kernel, by decide +kernel, by decide +kernel⟩, by decide⟩
theorem m_X7_puddlesRead : rl_MV yX7_puddlesRead cX7_puddlesRead 6 (some .int) 0 := ⟨(g_at 998 (by decide +kernel) rfl), (g_at 39 (by decide +kernel) rfl), (g_at 66 (by decide +kernel) rfl), (g_at 999 (by decide +kernel) rfl), ⟨by decide +kernel, by decide +kernel, by decide +kernel⟩, by decide⟩
theorem m_X7_here : rl_MV yX7_here cX7_here 1 (some .int) 0 := ⟨(g_at 1002 (by decide +kernel) rfl), (g_at 40 (by decide +kernel) rfl), (g_at 66 (by decide +kernel) rfl), (g_at 1003 (by decide +kernel) rfl), ⟨by decide +kernel, by decide +kernel, by decide +kernel⟩, by decide⟩
theorem m_X7_must : rl_MV yX7_must cX7_must 2 none 1 := ⟨(g_at 1006 (by decide +kernel) rfl), (g_at 41 (by decide +kernel) rfl), (g_at 66 (by decide +kernel) rfl), (g_at 1007 (by decide +kernel) rfl), ⟨by decide +kernel, by decide +kernel, by decide +kernel⟩, by decide⟩
theorem m_X7_digit : rl_MV yX7_digit cX7_digit 3 (some .int) 1 := ⟨(g_at 1010 (by decide +kernel) rfl), (g_at 42 (by decide +kernel) rfl), (g_at 66 (by decide +kernel) rfl), (g_at 1011 (by decide +kernel) rfl), ⟨by decide +kernel, by decide +kernel, by decide +kernel⟩, by decide⟩
theorem m_X7_number : rl_MV yX7_number cX7_number 6 (some .int) 2 := ⟨(g_at 1014 (by decide +kernel) rfl), (g_at 43 (by decide +kernel) rfl), (g_at 66 (by decide +kernel) rfl), (g_at 1015 (by decide +kernel) rfl), ⟨by decide +kernel, by decide +kernel, by decide +kernel⟩, by decide⟩
theorem m_X7_peopleRead : rl_MV yX7_peopleRead cX7_peopleRead 5 (some .int) 0 := ⟨(g_at 1020 (by decide +kernel) rfl), (g_at 44 (by decide +kernel) rfl), (g_at 66 (by decide +kernel) rfl), (g_at 1021 (by decide +kernel) rfl), ⟨by decide +kernel, by decide +kernel, by decide +kernel⟩, by decide⟩
theorem m_X7_numberBehind : rl_MV yX7_numberBehind cX7_numberBehind 5 (some .int) 4 := ⟨(g_at 1024 (by decide +kernel) rfl), (g_at 45 (by decide +kernel) rfl), (g_at 66 (by decide +kernel) rfl), (g_at 1025 (by decide +kernel) rfl), ⟨by decide +kernel, by decide +kernel, by decide +kernel⟩, by decide⟩
theorem m_X7_hours : rl_MV yX7_hours cX7_hours 3 (some .int) 1 := ⟨(g_at 1027 (by decide +kernel) rfl), (g_at 1028 (by decide +kernel) rfl), (g_at 66 (by decide +kernel) rfl), (g_at 1029 (by decide +kernel) rfl), ⟨by decide +kernel, by decide +kernel, by decide +kernel⟩, by decide⟩
theorem m_X7_notes : rl_MV yX7_notes cX7_notes 3 none 0 := ⟨(g_at 1033 (by decide +kernel) rfl), (g_at 46 (by decide +kernel) rfl), (g_at 66 (by decide +kernel) rfl), (g_at 1034 (by decide +kernel) rfl), ⟨by decide +kernel, by decide +kernel, by decide +kernel⟩, by decide⟩
theorem m_X7_goesBy : rl_MV yX7_goesBy cX7_goesBy 2 none 0 := ⟨(g_at 1037 (by decide +kernel) rfl), (g_at 47 (by decide +kernel) rfl), (g_at 66 (by decide +kernel) rfl), (g_at 1038 (by decide +kernel) rfl), ⟨by decide +kernel, by decide +kernel, by decide +kernel⟩, by decide⟩
theorem m_X7_looks : rl_MV yX7_looks cX7_looks 4 none 1 := ⟨(g_at 1041 (by decide +kernel) rfl), (g_at 48 (by decide +kernel) rfl), (g_at 66 (by decide +kernel) rfl), (g_at 1042 (by decide +kernel) rfl), ⟨by decide +kernel, by decide +kernel, by decide +kernel⟩, by decide⟩
theorem m_X7_deeps : rl_MV yX7_deeps cX7_deeps 3 none 2 := ⟨(g_at 1045 (by decide +kernel) rfl), (g_at 49 (by decide +kernel) rfl), (g_at 66 (by decide +kernel) rfl), (g_at 1046 (by decide +kernel) rfl), ⟨by decide +kernel, by decide +kernel, by decide +kernel⟩, by decide⟩
theorem m_X7_rain : rl_MV yX7_rain cX7_rain 2 (some .int) 1 := ⟨(g_at 1048 (by decide +kernel) rfl), (g_at 1049 (by decide +kernel) rfl), (g_at 66 (by decide +kernel) rfl), (g_at 1050 (by decide +kernel) rfl), ⟨by decide +kernel, by decide +kernel, by decide +kernel⟩, by decide⟩
theorem m_X7_rains : rl_MV yX7_rains cX7_rains 3 none 1 := ⟨(g_at 1053 (by decide +kernel) rfl), (g_at 50 (by decide +kernel) rfl), (g_at 66 (by decide +kernel) rfl), (g_at 1054 (by decide +kernel) rfl), ⟨by decide +kernel, by decide +kernel, by decide +kernel⟩, by decide⟩
theorem m_X7_drive : rl_MV yX7_drive cX7_drive 2 (some .int) 1 := ⟨(g_at 1056 (by decide +kernel) rfl), (g_at 1057 (by decide +kernel) rfl), (g_at 66 (by decide +kernel) rfl), (g_at 1058 (by decide +kernel) rfl), ⟨by decide +kernel, by decide +kernel, by decide +kernel⟩, by decide⟩
theorem m_X7_send : rl_MV yX7_send cX7_send 3 (some .int) 1 := ⟨(g_at 1060 (by decide +kernel) rfl), (g_at 1061 (by decide +kernel) rfl), (g_at 66 (by decide +kernel) rfl), (g_at 1062 (by decide +kernel) rfl), ⟨by decide +kernel, by decide +kernel, by decide +kernel⟩, by decide⟩
theorem m_X7_later : rl_MV yX7_later cX7_later 4 (some .int) 2 := ⟨(g_at 1064 (by decide +kernel) rfl), (g_at 1065 (by decide +kernel) rfl), (g_at 66 (by decide +kernel) rfl), (g_at 1066 (by decide +kernel) rfl), ⟨by decide +kernel, by decide +kernel, by decide +kernel⟩, by decide⟩
theorem m_X7_drift : rl_MV yX7_drift cX7_drift 4 (some .int) 1 := ⟨(g_at 1068 (by decide +kernel) rfl), (g_at 1069 (by decide +kernel) rfl), (g_at 66 (by decide +kernel) rfl), (g_at 1070 (by decide +kernel) rfl), ⟨by decide +kernel, by decide +kernel, by decide +kernel⟩, by decide⟩
theorem m_X7_undo : rl_MV yX7_undo cX7_undo 3 (some .int) 0 := ⟨(g_at 1076 (by decide +kernel) rfl), (g_at 1077 (by decide +kernel) rfl), (g_at 66 (by decide +kernel) rfl), (g_at 1078 (by decide +kernel) rfl), ⟨by decide +kernel, by decide +kernel, by decide +kernel⟩, by decide⟩
theorem m_X7_seed : rl_MV yX7_seed cX7_seed 3 (some .int) 1 := ⟨(g_at 1080 (by decide +kernel) rfl), (g_at 1081 (by decide +kernel) rfl), (g_at 66 (by decide +kernel) rfl), (g_at 1082 (by decide +kernel) rfl), ⟨by decide +kernel, by decide +kernel, by decide +kernel⟩, by decide⟩
theorem m_X7_ahead : rl_MV yX7_ahead cX7_ahead 4 (some .int) 2 := ⟨(g_at 1084 (by decide +kernel) rfl), (g_at 1085 (by decide +kernel) rfl), (g_at 66 (by decide +kernel) rfl), (g_at 1086 (by decide +kernel) rfl), ⟨by decide +kernel, by decide +kernel, by decide +kernel⟩, by decide⟩
theorem m_X7_asides : rl_MV yX7_asides cX7_asides 2 none 0 := ⟨(g_at 1089 (by decide +kernel) rfl), (g_at 51 (by decide +kernel) rfl), (g_at 66 (by decide +kernel) rfl), (g_at 1090 (by decide +kernel) rfl), ⟨by decide +kernel, by decide +kernel, by decide +kernel⟩, by decide⟩
theorem m_X7_goesOn : rl_MV yX7_goesOn cX7_goesOn 3 none 1 := ⟨(g_at 1093 (by decide +kernel) rfl), (g_at 52 (by decide +kernel) rfl), (g_at 66 (by decide +kernel) rfl), (g_at 1094 (by decide +kernel) rfl), ⟨by decide +kernel, by decide +kernel, by decide +kernel⟩, by decide⟩
theorem m_X7_backs : rl_MV yX7_backs cX7_backs 2 none 0 := ⟨(g_at 1097 (by decide +kernel) rfl), (g_at 53 (by decide +kernel) rfl), (g_at 66 (by decide +kernel) rfl), (g_at 1098 (by decide +kernel) rfl), ⟨by decide +kernel, by decide +kernel, by decide +kernel⟩, by decide⟩
theorem m_X7_claims : rl_MV yX7_claims cX7_claims 4 (some .int) 2 := ⟨(g_at 1100 (by decide +kernel) rfl), (g_at 1101 (by decide +kernel) rfl), (g_at 66 (by decide +kernel) rfl), (g_at 1102 (by decide +kernel) rfl), ⟨by decide +kernel, by decide +kernel, by decide +kernel⟩, by decide⟩
theorem m_X7_then : rl_MV yX7_then cX7_then 3 (some .int) 1 := ⟨(g_at 1104 (by decide +kernel) rfl), (g_at 1105 (by decide +kernel) rfl), (g_at 66 (by decide +kernel) rfl), (g_at 1106 (by decide +kernel) rfl), ⟨by decide +kernel, by decide +kernel, by decide +kernel⟩, by decide⟩
theorem m_X7_served : rl_MV yX7_served cX7_served 3 (some .int) 1 := ⟨(g_at 1108 (by decide +kernel) rfl), (g_at 1109 (by decide +kernel) rfl), (g_at 66 (by decide +kernel) rfl), (g_at 1110 (by decide +kernel) rfl), ⟨by decide +kernel, by decide +kernel, by decide +kernel⟩, by decide⟩
theorem m_X7_dries : rl_MV yX7_dries cX7_dries 3 (some .int) 1 := ⟨(g_at 1112 (by decide +kernel) rfl), (g_at 1113 (by decide +kernel) rfl), (g_at 66 (by decide +kernel) rfl), (g_at 1114 (by decide +kernel) rfl), ⟨by decide +kernel, by decide +kernel, by decide +kernel⟩, by decide⟩
theorem m_X7_match : rl_MV yX7_match cX7_match 8 (some .int) 0 := ⟨(g_at 1116 (by decide +kernel) rfl), (g_at 1117 (by decide +kernel) rfl), (g_at 66 (by decide +kernel) rfl), (g_at 1118 (by decide +kernel) rfl), ⟨by decide +kernel, by decide +kernel, by decide +kernel⟩, by decide⟩
theorem m_X7_latest : rl_MV yX7_latest cX7_latest 4 (some .int) 1 := ⟨(g_at 1120 (by decide +kernel) rfl), (g_at 1121 (by decide +kernel) rfl), (g_at 66 (by decide +kernel) rfl), (g_at 1122 (by decide +kernel) rfl), ⟨by decide +kernel, by decide +kernel, by decide +kernel⟩, by decide⟩
theorem m_X7_order : rl_MV yX7_order cX7_order 9 (some .int) 2 := ⟨(g_at 1124 (by decide +kernel) rfl), (g_at 1125 (by decide +kernel) rfl), (g_at 66 (by decide +kernel) rfl), (g_at 1126 (by decide +kernel) rfl), ⟨by decide +kernel, by decide +kernel, by decide +kernel⟩, by decide⟩
theorem m_X7_isOrder : rl_MV yX7_isOrder cX7_isOrder 6 (some .boolean) 2 := ⟨(g_at 1129 (by decide +kernel) rfl), (g_at 54 (by decide +kernel) rfl), (g_at 66 (by decide +kernel) rfl), (g_at 1130 (by decide +kernel) rfl), ⟨by decide +kernel, by decide +kernel, by decide +kernel⟩, by decide⟩
theorem m_X7_comesBy : rl_MV yX7_comesBy cX7_comesBy 3 none 1 := ⟨(g_at 1133 (by decide +kernel) rfl), (g_at 55 (by decide +kernel) rfl), (g_at 66 (by decide +kernel) rfl), (g_at 1134 (by decide +kernel) rfl), ⟨by decide +kernel, by decide +kernel, by decide +kernel⟩, by decide⟩
theorem m_X7_many : rl_MS yX7_many cX7_many 3 (some .int) 1 := ⟨(g_at 1136 (by decide +kernel) rfl), (g_at 66 (by decide +kernel) rfl), (g_at 1137 (by decide +kernel) rfl), ⟨by decide +kernel, by decide +kernel, by decide +kernel⟩, by decide⟩
theorem m_X7_wet : rl_MV yX7_wet cX7_wet 4 (some .int) 1 := ⟨(g_at 1139 (by decide +kernel) rfl), (g_at 1140 (by decide +kernel) rfl), (g_at 66 (by decide +kernel) rfl), (g_at 1141 (by decide +kernel) rfl), ⟨by decide +kernel, by decide +kernel, by decide +kernel⟩, by decide⟩
theorem m_X7_matters : rl_MV yX7_matters cX7_matters 7 (some .int) 2 := ⟨(g_at 1143 (by decide +kernel) rfl), (g_at 1144 (by decide +kernel) rfl), (g_at 66 (by decide +kernel) rfl), (g_at 1145 (by decide +kernel) rfl), ⟨by decide +kernel, by decide +kernel, by decide +kernel⟩, by decide⟩
theorem m_X7_sight : rl_MV yX7_sight cX7_sight 8 (some .int) 3 := ⟨(g_at 1147 (by decide +kernel) rfl), (g_at 1148 (by decide +kernel) rfl), (g_at 66 (by decide +kernel) rfl), (g_at 1149 (by decide +kernel) rfl), ⟨by decide +kernel, by decide +kernel, by decide +kernel⟩, by decide⟩
theorem m_X7_carts : rl_MV yX7_carts cX7_carts 11 (some .int) 3 := ⟨(g_at 1151 (by decide +kernel) rfl), (g_at 1152 (by decide +kernel) rfl), (g_at 66 (by decide +kernel) rfl), (g_at 1153 (by decide +kernel) rfl), ⟨by decide +kernel, by decide +kernel, by decide +kernel⟩, by decide⟩
theorem m_X7_image : rl_MV yX7_image cX7_image 2 (some .int) 0 := ⟨(g_at 1156 (by decide +kernel) rfl), (g_at 1157 (by decide +kernel) rfl), (g_at 66 (by decide +kernel) rfl), (g_at 1158 (by decide +kernel) rfl), ⟨by decide +kernel, by decide +kernel, by decide +kernel⟩, by decide⟩
theorem m_X7_restore : rl_MV yX7_restore cX7_restore 2 (some .int) 0 := ⟨(g_at 1160 (by decide +kernel) rfl), (g_at 1161 (by decide +kernel) rfl), (g_at 66 (by decide +kernel) rfl), (g_at 1162 (by decide +kernel) rfl), ⟨by decide +kernel, by decide +kernel, by decide +kernel⟩, by decide⟩
theorem m_X7_dipped : rl_MV yX7_dipped cX7_dipped 14 (some .int) 6 := ⟨(g_at 1164 (by decide +kernel) rfl), (g_at 1165 (by decide +kernel) rfl), (g_at 66 (by decide +kernel) rfl), (g_at 1166 (by decide +kernel) rfl), ⟨by decide +kernel, by decide +kernel, by decide +kernel⟩, by decide⟩
theorem m_X7_isSheet : rl_MS yX7_isSheet cX7_isSheet 1 (some .boolean) 1 := ⟨(g_at 1168 (by decide +kernel) rfl), (g_at 66 (by decide +kernel) rfl), (g_at 1169 (by decide +kernel) rfl), ⟨by decide +kernel, by decide +kernel, by decide +kernel⟩, by decide⟩
theorem m_X7_isLane : rl_MS yX7_isLane cX7_isLane 1 (some .boolean) 1 := ⟨(g_at 1172 (by decide +kernel) rfl), (g_at 66 (by decide +kernel) rfl), (g_at 1173 (by decide +kernel) rfl), ⟨by decide +kernel, by decide +kernel, by decide +kernel⟩, by decide⟩
theorem m_X7_why : rl_MV yX7_why cX7_why 5 (some .int) 4 := ⟨(g_at 1178 (by decide +kernel) rfl), (g_at 56 (by decide +kernel) rfl), (g_at 66 (by decide +kernel) rfl), (g_at 1179 (by decide +kernel) rfl), ⟨by decide +kernel, by decide +kernel, by decide +kernel⟩, by decide⟩
theorem m_X7_isSo : rl_MV yX7_isSo cX7_isSo 6 (some .boolean) 3 := ⟨(g_at 1182 (by decide +kernel) rfl), (g_at 57 (by decide +kernel) rfl), (g_at 66 (by decide +kernel) rfl), (g_at 1183 (by decide +kernel) rfl), ⟨by decide +kernel, by decide +kernel, by decide +kernel⟩, by decide⟩
theorem m_X7_film : rl_MV yX7_film cX7_film 8 (some .int) 5 := ⟨(g_at 1185 (by decide +kernel) rfl), (g_at 1186 (by decide +kernel) rfl), (g_at 66 (by decide +kernel) rfl), (g_at 1187 (by decide +kernel) rfl), ⟨by decide +kernel, by decide +kernel, by decide +kernel⟩, by decide⟩
theorem m_X7_sheet : rl_MV yX7_sheet cX7_sheet 5 (some .int) 3 := ⟨(g_at 1190 (by decide +kernel) rfl), (g_at 1191 (by decide +kernel) rfl), (g_at 66 (by decide +kernel) rfl), (g_at 1192 (by decide +kernel) rfl), ⟨by decide +kernel, by decide +kernel, by decide +kernel⟩, by decide⟩
theorem m_X7_drop : rl_MV yX7_drop cX7_drop 2 (some .int) 1 := ⟨(g_at 1194 (by decide +kernel) rfl), (g_at 1195 (by decide +kernel) rfl), (g_at 66 (by decide +kernel) rfl), (g_at 1196 (by decide +kernel) rfl), ⟨by decide +kernel, by decide +kernel, by decide +kernel⟩, by decide⟩
theorem m_X7_item : rl_MV yX7_item cX7_item 7 (some .int) 4 := ⟨(g_at 1198 (by decide +kernel) rfl), (g_at 1199 (by decide +kernel) rfl), (g_at 66 (by decide +kernel) rfl), (g_at 1200 (by decide +kernel) rfl), ⟨by decide +kernel, by decide +kernel, by decide +kernel⟩, by decide⟩
theorem m_X7_copy : rl_MV yX7_copy cX7_copy 8 (some .int) 5 := ⟨(g_at 1202 (by decide +kernel) rfl), (g_at 1203 (by decide +kernel) rfl), (g_at 66 (by decide +kernel) rfl), (g_at 1204 (by decide +kernel) rfl), ⟨by decide +kernel, by decide +kernel, by decide +kernel⟩, by decide⟩
theorem lk_L_9 : Cond.methodLink RL 9 yX6_init ∈ g_tbl := (g_at 77 (by decide +kernel) rfl)
theorem lk_X6_1 : Cond.methodLink RX6 1 Lib.objectInit ∈ g_tbl := (g_at 80 (by decide +kernel) rfl)
theorem lk_X4_3 : Cond.methodLink RX4 3 Lib.objectInit ∈ g_tbl := (g_at 88 (by decide +kernel) rfl)
theorem gf_X4_11 : rl_GF RX4 11 4 0 true (.array .int) := ⟨RX4, TX4, 11, tyX4, rfl, ginX4, tyX4_ok, nmX4, by decide, (g_at 89 (by decide +kernel) rfl), rfl, rfl, fun _ => rfl⟩
theorem gf_X4_11_r : rl_GR RX4 11 4 0 := ⟨RX4, TX4, 11, rfl, ginX4, by decide, (g_at 89 (by decide +kernel) rfl)⟩
theorem gf_X6_99 : rl_GR RX6 99 4 0 := ⟨RX4, TX4, 11, rfl, ginX4, by decide, (g_at 90 (by decide +kernel) rfl)⟩
theorem gf_X4_15 : rl_GF RX4 15 4 1 true (.array .int) := ⟨RX4, TX4, 11, tyX4, rfl, ginX4, tyX4_ok, nmX4, by decide, (g_at 91 (by decide +kernel) rfl), rfl, rfl, fun _ => rfl⟩
theorem gf_X4_15_r : rl_GR RX4 15 4 1 := ⟨RX4, TX4, 11, rfl, ginX4, by decide, (g_at 91 (by decide +kernel) rfl)⟩
theorem gf_X6_95 : rl_GR RX6 95 4 1 := ⟨RX4, TX4, 11, rfl, ginX4, by decide, (g_at 92 (by decide +kernel) rfl)⟩
theorem gf_X4_18 : rl_GF RX4 18 4 2 true (.array .int) := ⟨RX4, TX4, 11, tyX4, rfl, ginX4, tyX4_ok, nmX4, by decide, (g_at 93 (by decide +kernel) rfl), rfl, rfl, fun _ => rfl⟩
theorem gf_X4_18_r : rl_GR RX4 18 4 2 := ⟨RX4, TX4, 11, rfl, ginX4, by decide, (g_at 93 (by decide +kernel) rfl)⟩
theorem gf_X0_22 : rl_GR RX0 22 4 2 := ⟨RX4, TX4, 11, rfl, ginX4, by decide, (g_at 94 (by decide +kernel) rfl)⟩
theorem gf_X2_46 : rl_GR RX2 46 4 2 := ⟨RX4, TX4, 11, rfl, ginX4, by decide, (g_at 95 (by decide +kernel) rfl)⟩
theorem gf_X6_102 : rl_GR RX6 102 4 2 := ⟨RX4, TX4, 11, rfl, ginX4, by decide, (g_at 96 (by decide +kernel) rfl)⟩
theorem gf_X4_21 : rl_GF RX4 21 4 3 true (.array .int) := ⟨RX4, TX4, 11, tyX4, rfl, ginX4, tyX4_ok, nmX4, by decide, (g_at 97 (by decide +kernel) rfl), rfl, rfl, fun _ => rfl⟩
theorem gf_X4_21_r : rl_GR RX4 21 4 3 := ⟨RX4, TX4, 11, rfl, ginX4, by decide, (g_at 97 (by decide +kernel) rfl)⟩
theorem gf_X6_120 : rl_GR RX6 120 4 3 := ⟨RX4, TX4, 11, rfl, ginX4, by decide, (g_at 98 (by decide +kernel) rfl)⟩
theorem gf_X4_24 : rl_GF RX4 24 4 4 true (.array .int) := ⟨RX4, TX4, 11, tyX4, rfl, ginX4, tyX4_ok, nmX4, by decide, (g_at 99 (by decide +kernel) rfl), rfl, rfl, fun _ => rfl⟩
theorem gf_X4_24_r : rl_GR RX4 24 4 4 := ⟨RX4, TX4, 11, rfl, ginX4, by decide, (g_at 99 (by decide +kernel) rfl)⟩
theorem gf_X0_34 : rl_GR RX0 34 4 4 := ⟨RX4, TX4, 11, rfl, ginX4, by decide, (g_at 100 (by decide +kernel) rfl)⟩
theorem gf_X6_123 : rl_GR RX6 123 4 4 := ⟨RX4, TX4, 11, rfl, ginX4, by decide, (g_at 101 (by decide +kernel) rfl)⟩
theorem gf_X4_27 : rl_GF RX4 27 4 5 true (.array .int) := ⟨RX4, TX4, 11, tyX4, rfl, ginX4, tyX4_ok, nmX4, by decide, (g_at 102 (by decide +kernel) rfl), rfl, rfl, fun _ => rfl⟩
theorem gf_X4_27_r : rl_GR RX4 27 4 5 := ⟨RX4, TX4, 11, rfl, ginX4, by decide, (g_at 102 (by decide +kernel) rfl)⟩
theorem gf_X6_126 : rl_GR RX6 126 4 5 := ⟨RX4, TX4, 11, rfl, ginX4, by decide, (g_at 103 (by decide +kernel) rfl)⟩
theorem gf_X4_30 : rl_GF RX4 30 4 6 true (.array .int) := ⟨RX4, TX4, 11, tyX4, rfl, ginX4, tyX4_ok, nmX4, by decide, (g_at 104 (by decide +kernel) rfl), rfl, rfl, fun _ => rfl⟩
theorem gf_X4_30_r : rl_GR RX4 30 4 6 := ⟨RX4, TX4, 11, rfl, ginX4, by decide, (g_at 104 (by decide +kernel) rfl)⟩
theorem gf_X0_31 : rl_GR RX0 31 4 6 := ⟨RX4, TX4, 11, rfl, ginX4, by decide, (g_at 105 (by decide +kernel) rfl)⟩
theorem gf_X6_129 : rl_GR RX6 129 4 6 := ⟨RX4, TX4, 11, rfl, ginX4, by decide, (g_at 106 (by decide +kernel) rfl)⟩
theorem gf_X4_33 : rl_GF RX4 33 4 7 false (.int) := ⟨RX4, TX4, 11, tyX4, rfl, ginX4, tyX4_ok, nmX4, by decide, (g_at 107 (by decide +kernel) rfl), rfl, rfl, fun h => by cases h⟩
theorem gf_X4_33_r : rl_GR RX4 33 4 7 := ⟨RX4, TX4, 11, rfl, ginX4, by decide, (g_at 107 (by decide +kernel) rfl)⟩
theorem gf_X6_72 : rl_GF RX6 72 4 7 false (.int) := ⟨RX4, TX4, 11, tyX4, rfl, ginX4, tyX4_ok, nmX4, by decide, (g_at 108 (by decide +kernel) rfl), rfl, rfl, fun h => by cases h⟩
theorem gf_X6_72_r : rl_GR RX6 72 4 7 := ⟨RX4, TX4, 11, rfl, ginX4, by decide, (g_at 108 (by decide +kernel) rfl)⟩
theorem gf_X4_37 : rl_GF RX4 37 4 8 false (.int) := ⟨RX4, TX4, 11, tyX4, rfl, ginX4, tyX4_ok, nmX4, by decide, (g_at 109 (by decide +kernel) rfl), rfl, rfl, fun h => by cases h⟩
theorem gf_X4_37_r : rl_GR RX4 37 4 8 := ⟨RX4, TX4, 11, rfl, ginX4, by decide, (g_at 109 (by decide +kernel) rfl)⟩
theorem gf_X2_37 : rl_GF RX2 37 4 8 false (.int) := ⟨RX4, TX4, 11, tyX4, rfl, ginX4, tyX4_ok, nmX4, by decide, (g_at 110 (by decide +kernel) rfl), rfl, rfl, fun h => by cases h⟩
theorem gf_X2_37_r : rl_GR RX2 37 4 8 := ⟨RX4, TX4, 11, rfl, ginX4, by decide, (g_at 110 (by decide +kernel) rfl)⟩
theorem gf_X1_24 : rl_GF RX1 24 4 8 false (.int) := ⟨RX4, TX4, 11, tyX4, rfl, ginX4, tyX4_ok, nmX4, by decide, (g_at 111 (by decide +kernel) rfl), rfl, rfl, fun h => by cases h⟩
theorem gf_X1_24_r : rl_GR RX1 24 4 8 := ⟨RX4, TX4, 11, rfl, ginX4, by decide, (g_at 111 (by decide +kernel) rfl)⟩
theorem gf_X6_86 : rl_GF RX6 86 4 8 false (.int) := ⟨RX4, TX4, 11, tyX4, rfl, ginX4, tyX4_ok, nmX4, by decide, (g_at 112 (by decide +kernel) rfl), rfl, rfl, fun h => by cases h⟩
theorem gf_X6_86_r : rl_GR RX6 86 4 8 := ⟨RX4, TX4, 11, rfl, ginX4, by decide, (g_at 112 (by decide +kernel) rfl)⟩
theorem gf_X4_40 : rl_GF RX4 40 4 9 false (.int) := ⟨RX4, TX4, 11, tyX4, rfl, ginX4, tyX4_ok, nmX4, by decide, (g_at 113 (by decide +kernel) rfl), rfl, rfl, fun h => by cases h⟩
theorem gf_X4_40_r : rl_GR RX4 40 4 9 := ⟨RX4, TX4, 11, rfl, ginX4, by decide, (g_at 113 (by decide +kernel) rfl)⟩
theorem gf_X0_37 : rl_GF RX0 37 4 9 false (.int) := ⟨RX4, TX4, 11, tyX4, rfl, ginX4, tyX4_ok, nmX4, by decide, (g_at 114 (by decide +kernel) rfl), rfl, rfl, fun h => by cases h⟩
theorem gf_X0_37_r : rl_GR RX0 37 4 9 := ⟨RX4, TX4, 11, rfl, ginX4, by decide, (g_at 114 (by decide +kernel) rfl)⟩
theorem gf_X6_153 : rl_GF RX6 153 4 9 false (.int) := ⟨RX4, TX4, 11, tyX4, rfl, ginX4, tyX4_ok, nmX4, by decide, (g_at 115 (by decide +kernel) rfl), rfl, rfl, fun h => by cases h⟩
theorem gf_X6_153_r : rl_GR RX6 153 4 9 := ⟨RX4, TX4, 11, rfl, ginX4, by decide, (g_at 115 (by decide +kernel) rfl)⟩
theorem gf_X4_43 : rl_GF RX4 43 4 10 false (.int) := ⟨RX4, TX4, 11, tyX4, rfl, ginX4, tyX4_ok, nmX4, by decide, (g_at 116 (by decide +kernel) rfl), rfl, rfl, fun h => by cases h⟩
theorem gf_X4_43_r : rl_GR RX4 43 4 10 := ⟨RX4, TX4, 11, rfl, ginX4, by decide, (g_at 116 (by decide +kernel) rfl)⟩
theorem gf_X0_40 : rl_GF RX0 40 4 10 false (.int) := ⟨RX4, TX4, 11, tyX4, rfl, ginX4, tyX4_ok, nmX4, by decide, (g_at 117 (by decide +kernel) rfl), rfl, rfl, fun h => by cases h⟩
theorem gf_X0_40_r : rl_GR RX0 40 4 10 := ⟨RX4, TX4, 11, rfl, ginX4, by decide, (g_at 117 (by decide +kernel) rfl)⟩
theorem gf_X6_146 : rl_GF RX6 146 4 10 false (.int) := ⟨RX4, TX4, 11, tyX4, rfl, ginX4, tyX4_ok, nmX4, by decide, (g_at 118 (by decide +kernel) rfl), rfl, rfl, fun h => by cases h⟩
theorem gf_X6_146_r : rl_GR RX6 146 4 10 := ⟨RX4, TX4, 11, rfl, ginX4, by decide, (g_at 118 (by decide +kernel) rfl)⟩
theorem lk_X0_5 : Cond.methodLink RX0 5 Lib.objectInit ∈ g_tbl := (g_at 148 (by decide +kernel) rfl)
theorem gf_X0_11 : rl_GF RX0 11 0 0 true (.array .int) := ⟨RX0, TX0, 3, tyX0, rfl, ginX0, tyX0_ok, nmX0, by decide, (g_at 149 (by decide +kernel) rfl), rfl, rfl, fun _ => rfl⟩
theorem gf_X0_11_r : rl_GR RX0 11 0 0 := ⟨RX0, TX0, 3, rfl, ginX0, by decide, (g_at 149 (by decide +kernel) rfl)⟩
theorem gf_X0_15 : rl_GF RX0 15 0 1 false (.int) := ⟨RX0, TX0, 3, tyX0, rfl, ginX0, tyX0_ok, nmX0, by decide, (g_at 150 (by decide +kernel) rfl), rfl, rfl, fun h => by cases h⟩
theorem gf_X0_15_r : rl_GR RX0 15 0 1 := ⟨RX0, TX0, 3, rfl, ginX0, by decide, (g_at 150 (by decide +kernel) rfl)⟩
theorem gf_X0_19 : rl_GF RX0 19 0 2 false (.int) := ⟨RX0, TX0, 3, tyX0, rfl, ginX0, tyX0_ok, nmX0, by decide, (g_at 151 (by decide +kernel) rfl), rfl, rfl, fun h => by cases h⟩
theorem gf_X0_19_r : rl_GR RX0 19 0 2 := ⟨RX0, TX0, 3, rfl, ginX0, by decide, (g_at 151 (by decide +kernel) rfl)⟩
theorem gf_X6_165 : rl_GF RX6 165 0 2 false (.int) := ⟨RX0, TX0, 3, tyX0, rfl, ginX0, tyX0_ok, nmX0, by decide, (g_at 152 (by decide +kernel) rfl), rfl, rfl, fun h => by cases h⟩
theorem gf_X6_165_r : rl_GR RX6 165 0 2 := ⟨RX0, TX0, 3, rfl, ginX0, by decide, (g_at 152 (by decide +kernel) rfl)⟩
theorem lk_X5_3 : Cond.methodLink RX5 3 Lib.objectInit ∈ g_tbl := (g_at 165 (by decide +kernel) rfl)
theorem gf_X5_11 : rl_GF RX5 11 5 0 true (.array .char) := ⟨RX5, TX5, 3, tyX5, rfl, ginX5, tyX5_ok, nmX5, by decide, (g_at 166 (by decide +kernel) rfl), rfl, rfl, fun _ => rfl⟩
theorem gf_X5_11_r : rl_GR RX5 11 5 0 := ⟨RX5, TX5, 3, rfl, ginX5, by decide, (g_at 166 (by decide +kernel) rfl)⟩
theorem gf_X5_15 : rl_GF RX5 15 5 1 false (.int) := ⟨RX5, TX5, 3, tyX5, rfl, ginX5, tyX5_ok, nmX5, by decide, (g_at 167 (by decide +kernel) rfl), rfl, rfl, fun h => by cases h⟩
theorem gf_X5_15_r : rl_GR RX5 15 5 1 := ⟨RX5, TX5, 3, rfl, ginX5, by decide, (g_at 167 (by decide +kernel) rfl)⟩
theorem gf_X6_135 : rl_GF RX6 135 5 1 false (.int) := ⟨RX5, TX5, 3, tyX5, rfl, ginX5, tyX5_ok, nmX5, by decide, (g_at 168 (by decide +kernel) rfl), rfl, rfl, fun h => by cases h⟩
theorem gf_X6_135_r : rl_GR RX6 135 5 1 := ⟨RX5, TX5, 3, rfl, ginX5, by decide, (g_at 168 (by decide +kernel) rfl)⟩
theorem gf_X5_19 : rl_GF RX5 19 5 2 false (.int) := ⟨RX5, TX5, 3, tyX5, rfl, ginX5, tyX5_ok, nmX5, by decide, (g_at 169 (by decide +kernel) rfl), rfl, rfl, fun h => by cases h⟩
theorem gf_X5_19_r : rl_GR RX5 19 5 2 := ⟨RX5, TX5, 3, rfl, ginX5, by decide, (g_at 169 (by decide +kernel) rfl)⟩
theorem lk_X3_3 : Cond.methodLink RX3 3 Lib.objectInit ∈ g_tbl := (g_at 183 (by decide +kernel) rfl)
theorem gf_X3_11 : rl_GF RX3 11 3 0 true (.array .int) := ⟨RX3, TX3, 3, tyX3, rfl, ginX3, tyX3_ok, nmX3, by decide, (g_at 184 (by decide +kernel) rfl), rfl, rfl, fun _ => rfl⟩
theorem gf_X3_11_r : rl_GR RX3 11 3 0 := ⟨RX3, TX3, 3, rfl, ginX3, by decide, (g_at 184 (by decide +kernel) rfl)⟩
theorem gf_X6_263 : rl_GR RX6 263 3 0 := ⟨RX3, TX3, 3, rfl, ginX3, by decide, (g_at 185 (by decide +kernel) rfl)⟩
theorem gf_X3_15 : rl_GF RX3 15 3 1 true (.array .int) := ⟨RX3, TX3, 3, tyX3, rfl, ginX3, tyX3_ok, nmX3, by decide, (g_at 186 (by decide +kernel) rfl), rfl, rfl, fun _ => rfl⟩
theorem gf_X3_15_r : rl_GR RX3 15 3 1 := ⟨RX3, TX3, 3, rfl, ginX3, by decide, (g_at 186 (by decide +kernel) rfl)⟩
theorem gf_X3_18 : rl_GF RX3 18 3 2 true (.array .long) := ⟨RX3, TX3, 3, tyX3, rfl, ginX3, tyX3_ok, nmX3, by decide, (g_at 187 (by decide +kernel) rfl), rfl, rfl, fun _ => rfl⟩
theorem gf_X3_18_r : rl_GR RX3 18 3 2 := ⟨RX3, TX3, 3, rfl, ginX3, by decide, (g_at 187 (by decide +kernel) rfl)⟩
theorem lk_X1_3 : Cond.methodLink RX1 3 Lib.objectInit ∈ g_tbl := (g_at 201 (by decide +kernel) rfl)
theorem gf_X1_11 : rl_GF RX1 11 1 0 true (.array .int) := ⟨RX1, TX1, 3, tyX1, rfl, ginX1, tyX1_ok, nmX1, by decide, (g_at 202 (by decide +kernel) rfl), rfl, rfl, fun _ => rfl⟩
theorem gf_X1_11_r : rl_GR RX1 11 1 0 := ⟨RX1, TX1, 3, rfl, ginX1, by decide, (g_at 202 (by decide +kernel) rfl)⟩
theorem gf_X1_17 : rl_GF RX1 17 1 1 true (.array .int) := ⟨RX1, TX1, 3, tyX1, rfl, ginX1, tyX1_ok, nmX1, by decide, (g_at 203 (by decide +kernel) rfl), rfl, rfl, fun _ => rfl⟩
theorem gf_X1_17_r : rl_GR RX1 17 1 1 := ⟨RX1, TX1, 3, rfl, ginX1, by decide, (g_at 203 (by decide +kernel) rfl)⟩
theorem gf_X1_20 : rl_GF RX1 20 1 2 false (.int) := ⟨RX1, TX1, 3, tyX1, rfl, ginX1, tyX1_ok, nmX1, by decide, (g_at 204 (by decide +kernel) rfl), rfl, rfl, fun h => by cases h⟩
theorem gf_X1_20_r : rl_GR RX1 20 1 2 := ⟨RX1, TX1, 3, rfl, ginX1, by decide, (g_at 204 (by decide +kernel) rfl)⟩
theorem lk_X2_3 : Cond.methodLink RX2 3 Lib.objectInit ∈ g_tbl := (g_at 217 (by decide +kernel) rfl)
theorem gf_X2_11 : rl_GF RX2 11 2 0 true (.array .int) := ⟨RX2, TX2, 6, tyX2, rfl, ginX2, tyX2_ok, nmX2, by decide, (g_at 218 (by decide +kernel) rfl), rfl, rfl, fun _ => rfl⟩
theorem gf_X2_11_r : rl_GR RX2 11 2 0 := ⟨RX2, TX2, 6, rfl, ginX2, by decide, (g_at 218 (by decide +kernel) rfl)⟩
theorem gf_X2_17 : rl_GF RX2 17 2 1 true (.array .int) := ⟨RX2, TX2, 6, tyX2, rfl, ginX2, tyX2_ok, nmX2, by decide, (g_at 219 (by decide +kernel) rfl), rfl, rfl, fun _ => rfl⟩
theorem gf_X2_17_r : rl_GR RX2 17 2 1 := ⟨RX2, TX2, 6, rfl, ginX2, by decide, (g_at 219 (by decide +kernel) rfl)⟩
theorem gf_X2_20 : rl_GF RX2 20 2 2 true (.array .int) := ⟨RX2, TX2, 6, tyX2, rfl, ginX2, tyX2_ok, nmX2, by decide, (g_at 220 (by decide +kernel) rfl), rfl, rfl, fun _ => rfl⟩
theorem gf_X2_20_r : rl_GR RX2 20 2 2 := ⟨RX2, TX2, 6, rfl, ginX2, by decide, (g_at 220 (by decide +kernel) rfl)⟩
theorem gf_X2_23 : rl_GF RX2 23 2 3 false (.int) := ⟨RX2, TX2, 6, tyX2, rfl, ginX2, tyX2_ok, nmX2, by decide, (g_at 221 (by decide +kernel) rfl), rfl, rfl, fun h => by cases h⟩
theorem gf_X2_23_r : rl_GR RX2 23 2 3 := ⟨RX2, TX2, 6, rfl, ginX2, by decide, (g_at 221 (by decide +kernel) rfl)⟩
theorem gf_X2_27 : rl_GF RX2 27 2 4 false (.int) := ⟨RX2, TX2, 6, tyX2, rfl, ginX2, tyX2_ok, nmX2, by decide, (g_at 222 (by decide +kernel) rfl), rfl, rfl, fun h => by cases h⟩
theorem gf_X2_27_r : rl_GR RX2 27 2 4 := ⟨RX2, TX2, 6, rfl, ginX2, by decide, (g_at 222 (by decide +kernel) rfl)⟩
theorem gf_X2_30 : rl_GF RX2 30 2 5 false (.int) := ⟨RX2, TX2, 6, tyX2, rfl, ginX2, tyX2_ok, nmX2, by decide, (g_at 223 (by decide +kernel) rfl), rfl, rfl, fun h => by cases h⟩
theorem gf_X2_30_r : rl_GR RX2 30 2 5 := ⟨RX2, TX2, 6, rfl, ginX2, by decide, (g_at 223 (by decide +kernel) rfl)⟩
theorem gf_X6_205 : rl_GF RX6 205 2 5 false (.int) := ⟨RX2, TX2, 6, tyX2, rfl, ginX2, tyX2_ok, nmX2, by decide, (g_at 224 (by decide +kernel) rfl), rfl, rfl, fun h => by cases h⟩
theorem gf_X6_205_r : rl_GR RX6 205 2 5 := ⟨RX2, TX2, 6, rfl, ginX2, by decide, (g_at 224 (by decide +kernel) rfl)⟩
theorem gf_X6_10 : rl_GF RX6 10 6 0 true (.object "PuddleClaims$Street") := ⟨RX6, TX6, 10, tyX6, rfl, ginX6, tyX6_ok, nmX6, by decide, (g_at 238 (by decide +kernel) rfl), rfl, rfl, fun _ => rfl⟩
theorem gf_X6_10_r : rl_GR RX6 10 6 0 := ⟨RX6, TX6, 10, rfl, ginX6, by decide, (g_at 238 (by decide +kernel) rfl)⟩
theorem gf_X6_19 : rl_GF RX6 19 6 1 true (.object "PuddleClaims$History") := ⟨RX6, TX6, 10, tyX6, rfl, ginX6, tyX6_ok, nmX6, by decide, (g_at 239 (by decide +kernel) rfl), rfl, rfl, fun _ => rfl⟩
theorem gf_X6_19_r : rl_GR RX6 19 6 1 := ⟨RX6, TX6, 10, rfl, ginX6, by decide, (g_at 239 (by decide +kernel) rfl)⟩
theorem gf_X6_23 : rl_GF RX6 23 6 2 true (.object "PuddleClaims$Street") := ⟨RX6, TX6, 10, tyX6, rfl, ginX6, tyX6_ok, nmX6, by decide, (g_at 240 (by decide +kernel) rfl), rfl, rfl, fun _ => rfl⟩
theorem gf_X6_23_r : rl_GR RX6 23 6 2 := ⟨RX6, TX6, 10, rfl, ginX6, by decide, (g_at 240 (by decide +kernel) rfl)⟩
theorem gf_X6_26 : rl_GF RX6 26 6 3 true (.object "PuddleClaims$Street") := ⟨RX6, TX6, 10, tyX6, rfl, ginX6, tyX6_ok, nmX6, by decide, (g_at 241 (by decide +kernel) rfl), rfl, rfl, fun _ => rfl⟩
theorem gf_X6_26_r : rl_GR RX6 26 6 3 := ⟨RX6, TX6, 10, rfl, ginX6, by decide, (g_at 241 (by decide +kernel) rfl)⟩
theorem gf_X6_29 : rl_GF RX6 29 6 4 true (.object "PuddleClaims$History") := ⟨RX6, TX6, 10, tyX6, rfl, ginX6, tyX6_ok, nmX6, by decide, (g_at 242 (by decide +kernel) rfl), rfl, rfl, fun _ => rfl⟩
theorem gf_X6_29_r : rl_GR RX6 29 6 4 := ⟨RX6, TX6, 10, rfl, ginX6, by decide, (g_at 242 (by decide +kernel) rfl)⟩
theorem gf_X6_32 : rl_GF RX6 32 6 5 false (.boolean) := ⟨RX6, TX6, 10, tyX6, rfl, ginX6, tyX6_ok, nmX6, by decide, (g_at 243 (by decide +kernel) rfl), rfl, rfl, fun h => by cases h⟩
theorem gf_X6_32_r : rl_GR RX6 32 6 5 := ⟨RX6, TX6, 10, rfl, ginX6, by decide, (g_at 243 (by decide +kernel) rfl)⟩
theorem gf_X6_39 : rl_GF RX6 39 6 6 true (.object "PuddleClaims$Tape") := ⟨RX6, TX6, 10, tyX6, rfl, ginX6, tyX6_ok, nmX6, by decide, (g_at 244 (by decide +kernel) rfl), rfl, rfl, fun _ => rfl⟩
theorem gf_X6_39_r : rl_GR RX6 39 6 6 := ⟨RX6, TX6, 10, rfl, ginX6, by decide, (g_at 244 (by decide +kernel) rfl)⟩
theorem gf_X6_46 : rl_GF RX6 46 6 7 true (.object "PuddleClaims$Sheets") := ⟨RX6, TX6, 10, tyX6, rfl, ginX6, tyX6_ok, nmX6, by decide, (g_at 245 (by decide +kernel) rfl), rfl, rfl, fun _ => rfl⟩
theorem gf_X6_46_r : rl_GR RX6 46 6 7 := ⟨RX6, TX6, 10, rfl, ginX6, by decide, (g_at 245 (by decide +kernel) rfl)⟩
theorem gf_X6_53 : rl_GF RX6 53 6 8 true (.object "PuddleClaims$Matching") := ⟨RX6, TX6, 10, tyX6, rfl, ginX6, tyX6_ok, nmX6, by decide, (g_at 246 (by decide +kernel) rfl), rfl, rfl, fun _ => rfl⟩
theorem gf_X6_53_r : rl_GR RX6 53 6 8 := ⟨RX6, TX6, 10, rfl, ginX6, by decide, (g_at 246 (by decide +kernel) rfl)⟩
theorem gf_X6_60 : rl_GF RX6 60 6 9 true (.object "PuddleClaims$Orders") := ⟨RX6, TX6, 10, tyX6, rfl, ginX6, tyX6_ok, nmX6, by decide, (g_at 247 (by decide +kernel) rfl), rfl, rfl, fun _ => rfl⟩
theorem gf_X6_60_r : rl_GR RX6 60 6 9 := ⟨RX6, TX6, 10, rfl, ginX6, by decide, (g_at 247 (by decide +kernel) rfl)⟩
theorem lk_L_13 : Cond.methodLink RL 13 yX6_puddle ∈ g_tbl := (g_at 269 (by decide +kernel) rfl)
theorem lk_X6_64 : Cond.methodLink RX6 64 yX6_within ∈ g_tbl := (g_at 273 (by decide +kernel) rfl)
theorem lk_X6_68 : Cond.methodLink RX6 68 yX6_isSight ∈ g_tbl := (g_at 276 (by decide +kernel) rfl)
theorem lk_X6_76 : Cond.methodLink RX6 76 yX0_forget ∈ g_tbl := (g_at 279 (by decide +kernel) rfl)
theorem lk_X6_79 : Cond.methodLink RX6 79 yX4_addPuddle ∈ g_tbl := (g_at 283 (by decide +kernel) rfl)
theorem lk_L_18 : Cond.methodLink RL 18 yX6_person ∈ g_tbl := (g_at 287 (by decide +kernel) rfl)
theorem lk_X6_83 : Cond.methodLink RX6 83 yX6_isComing ∈ g_tbl := (g_at 291 (by decide +kernel) rfl)
theorem lk_X6_89 : Cond.methodLink RX6 89 yX4_addPerson ∈ g_tbl := (g_at 294 (by decide +kernel) rfl)
theorem lk_L_22 : Cond.methodLink RL 22 yX6_show ∈ g_tbl := (g_at 298 (by decide +kernel) rfl)
theorem lk_X6_92 : Cond.methodLink RX6 92 yX4_hasPuddle ∈ g_tbl := (g_at 302 (by decide +kernel) rfl)
theorem lk_L_27 : Cond.methodLink RL 27 yX6_of ∈ g_tbl := (g_at 306 (by decide +kernel) rfl)
theorem lk_X6_105 : Cond.methodLink RX6 105 yX4_claimantOf ∈ g_tbl := (g_at 310 (by decide +kernel) rfl)
theorem lk_X6_109 : Cond.methodLink RX6 109 yX4_drySet ∈ g_tbl := (g_at 314 (by decide +kernel) rfl)
theorem lk_X4_52 : Cond.methodLink RX4 52 yX4_isDry ∈ g_tbl := (g_at 318 (by decide +kernel) rfl)
theorem lk_X6_113 : Cond.methodLink RX6 113 yX4_lessBy ∈ g_tbl := (g_at 322 (by decide +kernel) rfl)
theorem lk_X4_67 : Cond.methodLink RX4 67 yX4_shadyLoss ∈ g_tbl := (g_at 326 (by decide +kernel) rfl)
theorem lk_X4_70 : Cond.methodLink RX4 70 yX4_kerbLoss ∈ g_tbl := (g_at 329 (by decide +kernel) rfl)
theorem lk_X4_73 : Cond.methodLink RX4 73 yX4_neighbours ∈ g_tbl := (g_at 333 (by decide +kernel) rfl)
theorem lk_X4_77 : Cond.methodLink RX4 77 yJ6_bitCount_0f7a4 ∈ g_tbl := (g_at 336 (by decide +kernel) rfl)
theorem kc_J6_265 : Cond.constant RJ6 265 (1431655765 : Int32) ∈ g_tbl := (g_at 339 (by decide +kernel) rfl)
theorem kc_J6_266 : Cond.constant RJ6 266 (858993459 : Int32) ∈ g_tbl := (g_at 340 (by decide +kernel) rfl)
theorem kc_J6_267 : Cond.constant RJ6 267 (252645135 : Int32) ∈ g_tbl := (g_at 341 (by decide +kernel) rfl)
theorem lk_L_31 : Cond.methodLink RL 31 yX6_at ∈ g_tbl := (g_at 342 (by decide +kernel) rfl)
theorem lk_X6_117 : Cond.methodLink RX6 117 yX4_hasPerson ∈ g_tbl := (g_at 346 (by decide +kernel) rfl)
theorem lk_X6_132 : Cond.methodLink RX6 132 yX4_fitSet ∈ g_tbl := (g_at 350 (by decide +kernel) rfl)
theorem lk_X4_59 : Cond.methodLink RX4 59 yX4_claimedSet ∈ g_tbl := (g_at 354 (by decide +kernel) rfl)
theorem lk_X4_56 : Cond.methodLink RX4 56 yX4_hasClaimed ∈ g_tbl := (g_at 358 (by decide +kernel) rfl)
theorem lk_X4_63 : Cond.methodLink RX4 63 yX4_isFit ∈ g_tbl := (g_at 362 (by decide +kernel) rfl)
theorem lk_L_35 : Cond.methodLink RL 35 yX6_type ∈ g_tbl := (g_at 366 (by decide +kernel) rfl)
theorem lk_X6_138 : Cond.methodLink RX6 138 yX5_add ∈ g_tbl := (g_at 370 (by decide +kernel) rfl)
theorem lk_L_40 : Cond.methodLink RL 40 yX6_read ∈ g_tbl := (g_at 374 (by decide +kernel) rfl)
theorem lk_X6_142 : Cond.methodLink RX6 142 yX5_parse ∈ g_tbl := (g_at 378 (by decide +kernel) rfl)
theorem lk_X5_22 : Cond.methodLink RX5 22 yX4_empty ∈ g_tbl := (g_at 382 (by decide +kernel) rfl)
theorem lk_X5_27 : Cond.methodLink RX5 27 yX5_parsePuddles ∈ g_tbl := (g_at 386 (by decide +kernel) rfl)
theorem lk_X5_31 : Cond.methodLink RX5 31 yX5_take ∈ g_tbl := (g_at 390 (by decide +kernel) rfl)
theorem lk_X5_38 : Cond.methodLink RX5 38 yX5_skipBlanks ∈ g_tbl := (g_at 394 (by decide +kernel) rfl)
theorem lk_X5_45 : Cond.methodLink RX5 45 yX5_parseKind ∈ g_tbl := (g_at 398 (by decide +kernel) rfl)
theorem lk_X5_65 : Cond.methodLink RX5 65 yJ0_indexOf_0f7a4 ∈ g_tbl := (g_at 403 (by decide +kernel) rfl)
theorem lk_J0_633 : Cond.methodLink RJ0 633 yJ0_indexOf_7cf53 ∈ g_tbl := (g_at 407 (by decide +kernel) rfl)
theorem lk_J0_492 : Cond.methodLink RJ0 492 yJ0_isLatin1_aae02 ∈ g_tbl := (g_at 411 (by decide +kernel) rfl)
theorem lk_J0_505 : Cond.methodLink RJ0 505 yJ0_length_8abf5 ∈ g_tbl := (g_at 417 (by decide +kernel) rfl)
theorem lk_J0_335 : Cond.methodLink RJ0 335 yJ0_coder_7d493 ∈ g_tbl := (g_at 421 (by decide +kernel) rfl)
theorem lk_J0_637 : Cond.methodLink RJ0 637 yJ1_indexOf_4cfef ∈ g_tbl := (g_at 425 (by decide +kernel) rfl)
theorem lk_J1_88 : Cond.methodLink RJ1 88 yJ1_canEncode_9a6ad ∈ g_tbl := (g_at 428 (by decide +kernel) rfl)
theorem lk_J1_92 : Cond.methodLink RJ1 92 Lib.Math.max.name ∈ g_tbl := (g_at 431 (by decide +kernel) rfl)
theorem lk_J1_38 : Cond.methodLink RJ1 38 Lib.Math.min.name ∈ g_tbl := (g_at 434 (by decide +kernel) rfl)
theorem lk_J1_95 : Cond.methodLink RJ1 95 yJ1_indexOfChar_4cfef ∈ g_tbl := (g_at 437 (by decide +kernel) rfl)
theorem lk_J0_640 : Cond.methodLink RJ0 640 yJ2_indexOf_4cfef ∈ g_tbl := (g_at 440 (by decide +kernel) rfl)
theorem lk_J2_224 : Cond.methodLink RJ2 224 Lib.Math.max.name ∈ g_tbl := (g_at 443 (by decide +kernel) rfl)
theorem lk_J2_183 : Cond.methodLink RJ2 183 Lib.Math.min.name ∈ g_tbl := (g_at 444 (by decide +kernel) rfl)
theorem kc_J2_227 : Cond.constant RJ2 227 (65536 : Int32) ∈ g_tbl := (g_at 445 (by decide +kernel) rfl)
theorem lk_J2_228 : Cond.methodLink RJ2 228 yJ2_indexOfChar_4cfef ∈ g_tbl := (g_at 446 (by decide +kernel) rfl)
theorem lk_J2_96 : Cond.methodLink RJ2 96 yJ2_checkBoundsBeginEnd_d044e ∈ g_tbl := (g_at 449 (by decide +kernel) rfl)
theorem lk_J2_48 : Cond.methodLink RJ2 48 yJ2_length_9d52b ∈ g_tbl := (g_at 452 (by decide +kernel) rfl)
theorem lk_J2_241 : Cond.methodLink RJ2 241 yJ0_checkBoundsBeginEnd_23922 ∈ g_tbl := (g_at 455 (by decide +kernel) rfl)
theorem lk_J0_1062 : Cond.methodLink RJ0 1062 yJ3_checkFromToIndex_8c36e ∈ g_tbl := (g_at 460 (by decide +kernel) rfl)
theorem lk_J2_244 : Cond.methodLink RJ2 244 yJ2_indexOfCharUnsafe_4cfef ∈ g_tbl := (g_at 463 (by decide +kernel) rfl)
theorem lk_J2_71 : Cond.methodLink RJ2 71 yJ2_getChar_3b067 ∈ g_tbl := (g_at 466 (by decide +kernel) rfl)
theorem lk_J2_232 : Cond.methodLink RJ2 232 yJ2_indexOfSupplementary_4cfef ∈ g_tbl := (g_at 475 (by decide +kernel) rfl)
theorem lk_J2_164 : Cond.methodLink RJ2 164 yJ11_isValidCodePoint_9a6ad ∈ g_tbl := (g_at 478 (by decide +kernel) rfl)
theorem lk_J2_157 : Cond.methodLink RJ2 157 yJ11_highSurrogate_5068e ∈ g_tbl := (g_at 481 (by decide +kernel) rfl)
theorem kc_J11_110 : Cond.constant RJ11 110 (55232 : Int32) ∈ g_tbl := (g_at 484 (by decide +kernel) rfl)
theorem lk_J2_161 : Cond.methodLink RJ2 161 yJ11_lowSurrogate_5068e ∈ g_tbl := (g_at 485 (by decide +kernel) rfl)
theorem kc_J11_76 : Cond.constant RJ11 76 (56320 : Int32) ∈ g_tbl := (g_at 488 (by decide +kernel) rfl)
theorem lk_X5_41 : Cond.methodLink RX5 41 yX5_faultAt ∈ g_tbl := (g_at 489 (by decide +kernel) rfl)
theorem lk_X5_49 : Cond.methodLink RX5 49 yX5_parseSight ∈ g_tbl := (g_at 492 (by decide +kernel) rfl)
theorem lk_X5_70 : Cond.methodLink RX5 70 yX5_digitHere ∈ g_tbl := (g_at 496 (by decide +kernel) rfl)
theorem lk_X5_52 : Cond.methodLink RX5 52 yX5_parseNumber ∈ g_tbl := (g_at 500 (by decide +kernel) rfl)
theorem lk_X5_56 : Cond.methodLink RX5 56 yX4_addPuddle ∈ g_tbl := (g_at 504 (by decide +kernel) rfl)
theorem lk_X5_35 : Cond.methodLink RX5 35 yX5_parsePeople ∈ g_tbl := (g_at 505 (by decide +kernel) rfl)
theorem lk_X5_60 : Cond.methodLink RX5 60 yX4_addPerson ∈ g_tbl := (g_at 509 (by decide +kernel) rfl)
theorem lk_X6_149 : Cond.methodLink RX6 149 yX4_copyFrom ∈ g_tbl := (g_at 510 (by decide +kernel) rfl)
theorem lk_X4_46 : Cond.methodLink RX4 46 arraycopyName ∈ g_tbl := (g_at 514 (by decide +kernel) rfl)
theorem lk_L_45 : Cond.methodLink RL 45 yX6_count ∈ g_tbl := (g_at 518 (by decide +kernel) rfl)
theorem lk_X6_156 : Cond.methodLink RX6 156 yX4_depthOfAll ∈ g_tbl := (g_at 522 (by decide +kernel) rfl)
theorem lk_X6_159 : Cond.methodLink RX6 159 yX4_claimants ∈ g_tbl := (g_at 526 (by decide +kernel) rfl)
theorem lk_X6_162 : Cond.methodLink RX6 162 yX4_claimedSet ∈ g_tbl := (g_at 530 (by decide +kernel) rfl)
theorem lk_L_49 : Cond.methodLink RL 49 yX6_hours ∈ g_tbl := (g_at 531 (by decide +kernel) rfl)
theorem lk_X6_168 : Cond.methodLink RX6 168 yX6_passHours ∈ g_tbl := (g_at 535 (by decide +kernel) rfl)
theorem lk_X6_172 : Cond.methodLink RX6 172 yX0_remember ∈ g_tbl := (g_at 539 (by decide +kernel) rfl)
theorem lk_X0_25 : Cond.methodLink RX0 25 arraycopyName ∈ g_tbl := (g_at 543 (by decide +kernel) rfl)
theorem lk_X0_43 : Cond.methodLink RX0 43 Lib.Math.min.name ∈ g_tbl := (g_at 544 (by decide +kernel) rfl)
theorem lk_X6_273 : Cond.methodLink RX6 273 yX4_drawCart ∈ g_tbl := (g_at 545 (by decide +kernel) rfl)
theorem kc_X4_117 : Cond.constant RX4 117 (1103515245 : Int32) ∈ g_tbl := (g_at 549 (by decide +kernel) rfl)
theorem kc_X4_118 : Cond.constant RX4 118 (2147483647 : Int32) ∈ g_tbl := (g_at 550 (by decide +kernel) rfl)
theorem kc_X4_119 : Cond.constant RX4 119 (65536 : Int32) ∈ g_tbl := (g_at 551 (by decide +kernel) rfl)
theorem lk_X4_120 : Cond.methodLink RX4 120 yX4_halve ∈ g_tbl := (g_at 552 (by decide +kernel) rfl)
theorem lk_X6_192 : Cond.methodLink RX6 192 yX4_passHour ∈ g_tbl := (g_at 556 (by decide +kernel) rfl)
theorem lk_X4_82 : Cond.methodLink RX4 82 yX4_letClaim ∈ g_tbl := (g_at 560 (by decide +kernel) rfl)
theorem lk_X4_88 : Cond.methodLink RX4 88 yX4_deepestFit ∈ g_tbl := (g_at 564 (by decide +kernel) rfl)
theorem lk_X4_85 : Cond.methodLink RX4 85 yX4_lessen ∈ g_tbl := (g_at 568 (by decide +kernel) rfl)
theorem lk_X4_92 : Cond.methodLink RX4 92 yX4_drySet ∈ g_tbl := (g_at 572 (by decide +kernel) rfl)
theorem lk_X4_95 : Cond.methodLink RX4 95 yX4_lessBy ∈ g_tbl := (g_at 573 (by decide +kernel) rfl)
theorem lk_X4_99 : Cond.methodLink RX4 99 Lib.Math.max.name ∈ g_tbl := (g_at 574 (by decide +kernel) rfl)
theorem lk_L_53 : Cond.methodLink RL 53 yX6_rain ∈ g_tbl := (g_at 575 (by decide +kernel) rfl)
theorem lk_X6_175 : Cond.methodLink RX6 175 yX4_deepen ∈ g_tbl := (g_at 579 (by decide +kernel) rfl)
theorem lk_X4_114 : Cond.methodLink RX4 114 Lib.Math.min.name ∈ g_tbl := (g_at 583 (by decide +kernel) rfl)
theorem lk_L_57 : Cond.methodLink RL 57 yX6_drive ∈ g_tbl := (g_at 584 (by decide +kernel) rfl)
theorem lk_X6_179 : Cond.methodLink RX6 179 yX4_isDry ∈ g_tbl := (g_at 588 (by decide +kernel) rfl)
theorem lk_X6_182 : Cond.methodLink RX6 182 yX4_halve ∈ g_tbl := (g_at 589 (by decide +kernel) rfl)
theorem lk_L_61 : Cond.methodLink RL 61 yX6_send ∈ g_tbl := (g_at 590 (by decide +kernel) rfl)
theorem lk_X6_185 : Cond.methodLink RX6 185 yX4_hasClaimed ∈ g_tbl := (g_at 594 (by decide +kernel) rfl)
theorem lk_L_65 : Cond.methodLink RL 65 yX6_later ∈ g_tbl := (g_at 595 (by decide +kernel) rfl)
theorem lk_L_69 : Cond.methodLink RL 69 yX6_drift ∈ g_tbl := (g_at 599 (by decide +kernel) rfl)
theorem lk_L_73 : Cond.methodLink RL 73 yX6_undo ∈ g_tbl := (g_at 603 (by decide +kernel) rfl)
theorem lk_X6_188 : Cond.methodLink RX6 188 yX0_recall ∈ g_tbl := (g_at 607 (by decide +kernel) rfl)
theorem lk_L_77 : Cond.methodLink RL 77 yX6_seed ∈ g_tbl := (g_at 611 (by decide +kernel) rfl)
theorem lk_L_81 : Cond.methodLink RL 81 yX6_ahead ∈ g_tbl := (g_at 615 (by decide +kernel) rfl)
theorem lk_L_85 : Cond.methodLink RL 85 yX6_claims ∈ g_tbl := (g_at 619 (by decide +kernel) rfl)
theorem lk_X6_195 : Cond.methodLink RX6 195 yX4_claimantsBehind ∈ g_tbl := (g_at 623 (by decide +kernel) rfl)
theorem lk_X4_104 : Cond.methodLink RX4 104 yX4_isAnyoneToCome ∈ g_tbl := (g_at 627 (by decide +kernel) rfl)
theorem lk_X4_108 : Cond.methodLink RX4 108 yX4_passHour ∈ g_tbl := (g_at 631 (by decide +kernel) rfl)
theorem lk_X4_111 : Cond.methodLink RX4 111 yX4_claimants ∈ g_tbl := (g_at 632 (by decide +kernel) rfl)
theorem lk_L_89 : Cond.methodLink RL 89 yX6_then ∈ g_tbl := (g_at 633 (by decide +kernel) rfl)
theorem lk_L_93 : Cond.methodLink RL 93 yX6_served ∈ g_tbl := (g_at 637 (by decide +kernel) rfl)
theorem lk_L_97 : Cond.methodLink RL 97 yX6_dries ∈ g_tbl := (g_at 641 (by decide +kernel) rfl)
theorem lk_L_101 : Cond.methodLink RL 101 yX6_match ∈ g_tbl := (g_at 645 (by decide +kernel) rfl)
theorem lk_X6_198 : Cond.methodLink RX6 198 yX1_greatest ∈ g_tbl := (g_at 649 (by decide +kernel) rfl)
theorem lk_X1_27 : Cond.methodLink RX1 27 yX4_fitSet ∈ g_tbl := (g_at 653 (by decide +kernel) rfl)
theorem lk_X1_31 : Cond.methodLink RX1 31 yX4_hasClaimed ∈ g_tbl := (g_at 654 (by decide +kernel) rfl)
theorem lk_X1_35 : Cond.methodLink RX1 35 yX1_findsOne ∈ g_tbl := (g_at 655 (by decide +kernel) rfl)
theorem lk_L_105 : Cond.methodLink RL 105 yX6_latest ∈ g_tbl := (g_at 659 (by decide +kernel) rfl)
theorem lk_L_109 : Cond.methodLink RL 109 yX6_order ∈ g_tbl := (g_at 663 (by decide +kernel) rfl)
theorem lk_X6_201 : Cond.methodLink RX6 201 yX2_search ∈ g_tbl := (g_at 667 (by decide +kernel) rfl)
theorem lk_X2_33 : Cond.methodLink RX2 33 yX4_claimants ∈ g_tbl := (g_at 671 (by decide +kernel) rfl)
theorem lk_X2_40 : Cond.methodLink RX2 40 yJ6_bitCount_0f7a4 ∈ g_tbl := (g_at 672 (by decide +kernel) rfl)
theorem lk_X2_49 : Cond.methodLink RX2 49 arraycopyName ∈ g_tbl := (g_at 673 (by decide +kernel) rfl)
theorem lk_X2_55 : Cond.methodLink RX2 55 yX4_lessen ∈ g_tbl := (g_at 674 (by decide +kernel) rfl)
theorem lk_X2_58 : Cond.methodLink RX2 58 yX4_claimedSet ∈ g_tbl := (g_at 675 (by decide +kernel) rfl)
theorem lk_X2_61 : Cond.methodLink RX2 61 yX2_choose ∈ g_tbl := (g_at 676 (by decide +kernel) rfl)
theorem lk_X2_65 : Cond.methodLink RX2 65 yX4_deepestFit ∈ g_tbl := (g_at 680 (by decide +kernel) rfl)
theorem lk_X6_208 : Cond.methodLink RX6 208 yX2_nth ∈ g_tbl := (g_at 681 (by decide +kernel) rfl)
theorem lk_L_113 : Cond.methodLink RL 113 yX6_wet ∈ g_tbl := (g_at 685 (by decide +kernel) rfl)
theorem lk_X6_211 : Cond.methodLink RX6 211 yJ6_bitCount_0f7a4 ∈ g_tbl := (g_at 689 (by decide +kernel) rfl)
theorem lk_L_117 : Cond.methodLink RL 117 yX6_matters ∈ g_tbl := (g_at 690 (by decide +kernel) rfl)
theorem lk_L_121 : Cond.methodLink RL 121 yX6_sight ∈ g_tbl := (g_at 694 (by decide +kernel) rfl)
theorem lk_L_125 : Cond.methodLink RL 125 yX6_carts ∈ g_tbl := (g_at 698 (by decide +kernel) rfl)
theorem lk_X6_216 : Cond.methodLink RX6 216 yX6_weightOf ∈ g_tbl := (g_at 702 (by decide +kernel) rfl)
theorem lk_X6_219 : Cond.methodLink RX6 219 yX6_hasClaimedBehindCarts ∈ g_tbl := (g_at 706 (by decide +kernel) rfl)
theorem lk_X6_223 : Cond.methodLink RX6 223 yX6_weightOfAll ∈ g_tbl := (g_at 710 (by decide +kernel) rfl)
theorem lk_X6_226 : Cond.methodLink RX6 226 yX6_commonDivisor ∈ g_tbl := (g_at 714 (by decide +kernel) rfl)
theorem lk_L_129 : Cond.methodLink RL 129 yX6_image ∈ g_tbl := (g_at 717 (by decide +kernel) rfl)
theorem lk_X6_229 : Cond.methodLink RX6 229 yX0_copyFrom ∈ g_tbl := (g_at 721 (by decide +kernel) rfl)
theorem lk_L_133 : Cond.methodLink RL 133 yX6_restore ∈ g_tbl := (g_at 725 (by decide +kernel) rfl)
theorem lk_L_137 : Cond.methodLink RL 137 yX6_dipped ∈ g_tbl := (g_at 729 (by decide +kernel) rfl)
theorem lk_X6_232 : Cond.methodLink RX6 232 yX3_isSheet ∈ g_tbl := (g_at 733 (by decide +kernel) rfl)
theorem lk_X6_235 : Cond.methodLink RX6 235 yX3_isLane ∈ g_tbl := (g_at 736 (by decide +kernel) rfl)
theorem lk_X6_238 : Cond.methodLink RX6 238 yX3_refusal ∈ g_tbl := (g_at 739 (by decide +kernel) rfl)
theorem lk_X3_22 : Cond.methodLink RX3 22 yX3_isHeld ∈ g_tbl := (g_at 743 (by decide +kernel) rfl)
theorem lk_X3_26 : Cond.methodLink RX3 26 yX3_holds ∈ g_tbl := (g_at 747 (by decide +kernel) rfl)
theorem lk_X6_242 : Cond.methodLink RX6 242 yX6_kindsDipped ∈ g_tbl := (g_at 751 (by decide +kernel) rfl)
theorem lk_X6_276 : Cond.methodLink RX6 276 yX6_draftAgrees ∈ g_tbl := (g_at 755 (by decide +kernel) rfl)
theorem lk_X6_280 : Cond.methodLink RX6 280 yX3_valueAt ∈ g_tbl := (g_at 759 (by decide +kernel) rfl)
theorem lk_X6_245 : Cond.methodLink RX6 245 yX6_depthsDipped ∈ g_tbl := (g_at 763 (by decide +kernel) rfl)
theorem lk_L_142 : Cond.methodLink RL 142 yX6_film ∈ g_tbl := (g_at 767 (by decide +kernel) rfl)
theorem lk_X6_249 : Cond.methodLink RX6 249 yX3_put ∈ g_tbl := (g_at 771 (by decide +kernel) rfl)
theorem lk_X3_30 : Cond.methodLink RX3 30 yX3_lowestBits ∈ g_tbl := (g_at 775 (by decide +kernel) rfl)
theorem lk_L_147 : Cond.methodLink RL 147 yX6_sheet ∈ g_tbl := (g_at 778 (by decide +kernel) rfl)
theorem lk_X6_253 : Cond.methodLink RX6 253 yX3_renew ∈ g_tbl := (g_at 782 (by decide +kernel) rfl)
theorem lk_L_151 : Cond.methodLink RL 151 yX6_drop ∈ g_tbl := (g_at 786 (by decide +kernel) rfl)
theorem lk_X6_257 : Cond.methodLink RX6 257 yX3_isHeld ∈ g_tbl := (g_at 790 (by decide +kernel) rfl)
theorem lk_X6_260 : Cond.methodLink RX6 260 yX3_clear ∈ g_tbl := (g_at 791 (by decide +kernel) rfl)
theorem lk_L_157 : Cond.methodLink RL 157 yX6_item ∈ g_tbl := (g_at 795 (by decide +kernel) rfl)
theorem lk_L_162 : Cond.methodLink RL 162 yX6_copy ∈ g_tbl := (g_at 799 (by decide +kernel) rfl)
theorem lk_X6_266 : Cond.methodLink RX6 266 yX3_holds ∈ g_tbl := (g_at 803 (by decide +kernel) rfl)
theorem lk_X6_269 : Cond.methodLink RX6 269 yX3_move ∈ g_tbl := (g_at 804 (by decide +kernel) rfl)
theorem lk_X3_34 : Cond.methodLink RX3 34 arraycopyName ∈ g_tbl := (g_at 808 (by decide +kernel) rfl)
theorem lk_L_12 : Cond.methodLink RL 12 yX7_init ∈ g_tbl := (g_at 811 (by decide +kernel) rfl)
theorem lk_X7_1 : Cond.methodLink RX7 1 Lib.objectInit ∈ g_tbl := (g_at 814 (by decide +kernel) rfl)
theorem gf_X7_7 : rl_GF RX7 7 7 0 true (.array .int) := ⟨RX7, TX7, 22, tyX7, rfl, ginX7, tyX7_ok, nmX7, by decide, (g_at 815 (by decide +kernel) rfl), rfl, rfl, fun _ => rfl⟩
theorem gf_X7_7_r : rl_GR RX7 7 7 0 := ⟨RX7, TX7, 22, rfl, ginX7, by decide, (g_at 815 (by decide +kernel) rfl)⟩
theorem gf_X7_13 : rl_GF RX7 13 7 1 true (.array .int) := ⟨RX7, TX7, 22, tyX7, rfl, ginX7, tyX7_ok, nmX7, by decide, (g_at 816 (by decide +kernel) rfl), rfl, rfl, fun _ => rfl⟩
theorem gf_X7_13_r : rl_GR RX7 13 7 1 := ⟨RX7, TX7, 22, rfl, ginX7, by decide, (g_at 816 (by decide +kernel) rfl)⟩
theorem gf_X7_16 : rl_GF RX7 16 7 2 true (.array .int) := ⟨RX7, TX7, 22, tyX7, rfl, ginX7, tyX7_ok, nmX7, by decide, (g_at 817 (by decide +kernel) rfl), rfl, rfl, fun _ => rfl⟩
theorem gf_X7_16_r : rl_GR RX7 16 7 2 := ⟨RX7, TX7, 22, rfl, ginX7, by decide, (g_at 817 (by decide +kernel) rfl)⟩
theorem gf_X7_152 : rl_GF RX7 152 7 3 false (.int) := ⟨RX7, TX7, 22, tyX7, rfl, ginX7, tyX7_ok, nmX7, by decide, (g_at 818 (by decide +kernel) rfl), rfl, rfl, fun h => by cases h⟩
theorem gf_X7_152_r : rl_GR RX7 152 7 3 := ⟨RX7, TX7, 22, rfl, ginX7, by decide, (g_at 818 (by decide +kernel) rfl)⟩
theorem gf_X7_155 : rl_GF RX7 155 7 4 false (.int) := ⟨RX7, TX7, 22, tyX7, rfl, ginX7, tyX7_ok, nmX7, by decide, (g_at 819 (by decide +kernel) rfl), rfl, rfl, fun h => by cases h⟩
theorem gf_X7_155_r : rl_GR RX7 155 7 4 := ⟨RX7, TX7, 22, rfl, ginX7, by decide, (g_at 819 (by decide +kernel) rfl)⟩
theorem gf_X7_158 : rl_GF RX7 158 7 5 false (.boolean) := ⟨RX7, TX7, 22, tyX7, rfl, ginX7, tyX7_ok, nmX7, by decide, (g_at 820 (by decide +kernel) rfl), rfl, rfl, fun h => by cases h⟩
theorem gf_X7_158_r : rl_GR RX7 158 7 5 := ⟨RX7, TX7, 22, rfl, ginX7, by decide, (g_at 820 (by decide +kernel) rfl)⟩
theorem gf_X7_19 : rl_GF RX7 19 7 6 true (.array .int) := ⟨RX7, TX7, 22, tyX7, rfl, ginX7, tyX7_ok, nmX7, by decide, (g_at 821 (by decide +kernel) rfl), rfl, rfl, fun _ => rfl⟩
theorem gf_X7_19_r : rl_GR RX7 19 7 6 := ⟨RX7, TX7, 22, rfl, ginX7, by decide, (g_at 821 (by decide +kernel) rfl)⟩
theorem gf_X7_22 : rl_GF RX7 22 7 7 true (.array .int) := ⟨RX7, TX7, 22, tyX7, rfl, ginX7, tyX7_ok, nmX7, by decide, (g_at 822 (by decide +kernel) rfl), rfl, rfl, fun _ => rfl⟩
theorem gf_X7_22_r : rl_GR RX7 22 7 7 := ⟨RX7, TX7, 22, rfl, ginX7, by decide, (g_at 822 (by decide +kernel) rfl)⟩
theorem gf_X7_25 : rl_GF RX7 25 7 8 true (.array .int) := ⟨RX7, TX7, 22, tyX7, rfl, ginX7, tyX7_ok, nmX7, by decide, (g_at 823 (by decide +kernel) rfl), rfl, rfl, fun _ => rfl⟩
theorem gf_X7_25_r : rl_GR RX7 25 7 8 := ⟨RX7, TX7, 22, rfl, ginX7, by decide, (g_at 823 (by decide +kernel) rfl)⟩
theorem gf_X7_109 : rl_GF RX7 109 7 9 false (.int) := ⟨RX7, TX7, 22, tyX7, rfl, ginX7, tyX7_ok, nmX7, by decide, (g_at 824 (by decide +kernel) rfl), rfl, rfl, fun h => by cases h⟩
theorem gf_X7_109_r : rl_GR RX7 109 7 9 := ⟨RX7, TX7, 22, rfl, ginX7, by decide, (g_at 824 (by decide +kernel) rfl)⟩
theorem gf_X7_28 : rl_GF RX7 28 7 10 true (.array .int) := ⟨RX7, TX7, 22, tyX7, rfl, ginX7, tyX7_ok, nmX7, by decide, (g_at 825 (by decide +kernel) rfl), rfl, rfl, fun _ => rfl⟩
theorem gf_X7_28_r : rl_GR RX7 28 7 10 := ⟨RX7, TX7, 22, rfl, ginX7, by decide, (g_at 825 (by decide +kernel) rfl)⟩
theorem gf_X7_31 : rl_GF RX7 31 7 11 true (.array .int) := ⟨RX7, TX7, 22, tyX7, rfl, ginX7, tyX7_ok, nmX7, by decide, (g_at 826 (by decide +kernel) rfl), rfl, rfl, fun _ => rfl⟩
theorem gf_X7_31_r : rl_GR RX7 31 7 11 := ⟨RX7, TX7, 22, rfl, ginX7, by decide, (g_at 826 (by decide +kernel) rfl)⟩
theorem gf_X7_34 : rl_GF RX7 34 7 12 true (.array .int) := ⟨RX7, TX7, 22, tyX7, rfl, ginX7, tyX7_ok, nmX7, by decide, (g_at 827 (by decide +kernel) rfl), rfl, rfl, fun _ => rfl⟩
theorem gf_X7_34_r : rl_GR RX7 34 7 12 := ⟨RX7, TX7, 22, rfl, ginX7, by decide, (g_at 827 (by decide +kernel) rfl)⟩
theorem gf_X7_37 : rl_GF RX7 37 7 13 true (.array .int) := ⟨RX7, TX7, 22, tyX7, rfl, ginX7, tyX7_ok, nmX7, by decide, (g_at 828 (by decide +kernel) rfl), rfl, rfl, fun _ => rfl⟩
theorem gf_X7_37_r : rl_GR RX7 37 7 13 := ⟨RX7, TX7, 22, rfl, ginX7, by decide, (g_at 828 (by decide +kernel) rfl)⟩
theorem gf_X7_40 : rl_GF RX7 40 7 14 true (.array .int) := ⟨RX7, TX7, 22, tyX7, rfl, ginX7, tyX7_ok, nmX7, by decide, (g_at 829 (by decide +kernel) rfl), rfl, rfl, fun _ => rfl⟩
theorem gf_X7_40_r : rl_GR RX7 40 7 14 := ⟨RX7, TX7, 22, rfl, ginX7, by decide, (g_at 829 (by decide +kernel) rfl)⟩
theorem gf_X7_43 : rl_GF RX7 43 7 15 true (.array .int) := ⟨RX7, TX7, 22, tyX7, rfl, ginX7, tyX7_ok, nmX7, by decide, (g_at 830 (by decide +kernel) rfl), rfl, rfl, fun _ => rfl⟩
theorem gf_X7_43_r : rl_GR RX7 43 7 15 := ⟨RX7, TX7, 22, rfl, ginX7, by decide, (g_at 830 (by decide +kernel) rfl)⟩
theorem gf_X7_224 : rl_GF RX7 224 7 16 false (.int) := ⟨RX7, TX7, 22, tyX7, rfl, ginX7, tyX7_ok, nmX7, by decide, (g_at 831 (by decide +kernel) rfl), rfl, rfl, fun h => by cases h⟩
theorem gf_X7_224_r : rl_GR RX7 224 7 16 := ⟨RX7, TX7, 22, rfl, ginX7, by decide, (g_at 831 (by decide +kernel) rfl)⟩
theorem gf_X7_227 : rl_GF RX7 227 7 17 false (.boolean) := ⟨RX7, TX7, 22, tyX7, rfl, ginX7, tyX7_ok, nmX7, by decide, (g_at 832 (by decide +kernel) rfl), rfl, rfl, fun h => by cases h⟩
theorem gf_X7_227_r : rl_GR RX7 227 7 17 := ⟨RX7, TX7, 22, rfl, ginX7, by decide, (g_at 832 (by decide +kernel) rfl)⟩
theorem gf_X7_46 : rl_GF RX7 46 7 18 true (.array .int) := ⟨RX7, TX7, 22, tyX7, rfl, ginX7, tyX7_ok, nmX7, by decide, (g_at 833 (by decide +kernel) rfl), rfl, rfl, fun _ => rfl⟩
theorem gf_X7_46_r : rl_GR RX7 46 7 18 := ⟨RX7, TX7, 22, rfl, ginX7, by decide, (g_at 833 (by decide +kernel) rfl)⟩
theorem gf_X7_49 : rl_GF RX7 49 7 19 true (.array .int) := ⟨RX7, TX7, 22, tyX7, rfl, ginX7, tyX7_ok, nmX7, by decide, (g_at 834 (by decide +kernel) rfl), rfl, rfl, fun _ => rfl⟩
theorem gf_X7_49_r : rl_GR RX7 49 7 19 := ⟨RX7, TX7, 22, rfl, ginX7, by decide, (g_at 834 (by decide +kernel) rfl)⟩
theorem gf_X7_52 : rl_GF RX7 52 7 20 true (.array .long) := ⟨RX7, TX7, 22, tyX7, rfl, ginX7, tyX7_ok, nmX7, by decide, (g_at 835 (by decide +kernel) rfl), rfl, rfl, fun _ => rfl⟩
theorem gf_X7_52_r : rl_GR RX7 52 7 20 := ⟨RX7, TX7, 22, rfl, ginX7, by decide, (g_at 835 (by decide +kernel) rfl)⟩
theorem gf_X7_56 : rl_GF RX7 56 7 21 true (.array .long) := ⟨RX7, TX7, 22, tyX7, rfl, ginX7, tyX7_ok, nmX7, by decide, (g_at 836 (by decide +kernel) rfl), rfl, rfl, fun _ => rfl⟩
theorem gf_X7_56_r : rl_GR RX7 56 7 21 := ⟨RX7, TX7, 22, rfl, ginX7, by decide, (g_at 836 (by decide +kernel) rfl)⟩
theorem lk_L_17 : Cond.methodLink RL 17 yX7_puddle ∈ g_tbl := (g_at 882 (by decide +kernel) rfl)
theorem kc_X7_113 : Cond.constantLong RX7 113 (4 : Int64) ∈ g_tbl := (g_at 886 (by decide +kernel) rfl)
theorem lk_X7_59 : Cond.methodLink RX7 59 yX7_in ∈ g_tbl := (g_at 887 (by decide +kernel) rfl)
theorem kc_X7_115 : Cond.constantLong RX7 115 (7 : Int64) ∈ g_tbl := (g_at 890 (by decide +kernel) rfl)
theorem kc_X7_117 : Cond.constantLong RX7 117 (60 : Int64) ∈ g_tbl := (g_at 891 (by decide +kernel) rfl)
theorem lk_X7_119 : Cond.methodLink RX7 119 yX7_puddleComes ∈ g_tbl := (g_at 892 (by decide +kernel) rfl)
theorem lk_L_21 : Cond.methodLink RL 21 yX7_person ∈ g_tbl := (g_at 896 (by decide +kernel) rfl)
theorem kc_X7_122 : Cond.constantLong RX7 122 (20 : Int64) ∈ g_tbl := (g_at 900 (by decide +kernel) rfl)
theorem kc_X7_124 : Cond.constantLong RX7 124 (30 : Int64) ∈ g_tbl := (g_at 901 (by decide +kernel) rfl)
theorem lk_X7_126 : Cond.methodLink RX7 126 yX7_personComes ∈ g_tbl := (g_at 902 (by decide +kernel) rfl)
theorem lk_X7_91 : Cond.methodLink RX7 91 yX7_tells ∈ g_tbl := (g_at 906 (by decide +kernel) rfl)
theorem lk_L_26 : Cond.methodLink RL 26 yX7_show ∈ g_tbl := (g_at 910 (by decide +kernel) rfl)
theorem lk_X7_74 : Cond.methodLink RX7 74 yX7_isPuddle ∈ g_tbl := (g_at 914 (by decide +kernel) rfl)
theorem lk_X7_63 : Cond.methodLink RX7 63 yX7_ofPuddle ∈ g_tbl := (g_at 918 (by decide +kernel) rfl)
theorem lk_L_30 : Cond.methodLink RL 30 yX7_of ∈ g_tbl := (g_at 922 (by decide +kernel) rfl)
theorem lk_X7_84 : Cond.methodLink RX7 84 yX7_whoClaimed ∈ g_tbl := (g_at 926 (by decide +kernel) rfl)
theorem lk_X7_70 : Cond.methodLink RX7 70 yX7_claimed ∈ g_tbl := (g_at 930 (by decide +kernel) rfl)
theorem lk_X7_67 : Cond.methodLink RX7 67 yX7_ofPerson ∈ g_tbl := (g_at 934 (by decide +kernel) rfl)
theorem lk_X7_99 : Cond.methodLink RX7 99 yX7_less ∈ g_tbl := (g_at 938 (by decide +kernel) rfl)
theorem lk_X7_78 : Cond.methodLink RX7 78 yX7_deep ∈ g_tbl := (g_at 942 (by decide +kernel) rfl)
theorem lk_X7_81 : Cond.methodLink RX7 81 yX7_isDry ∈ g_tbl := (g_at 946 (by decide +kernel) rfl)
theorem lk_L_34 : Cond.methodLink RL 34 yX7_at ∈ g_tbl := (g_at 950 (by decide +kernel) rfl)
theorem lk_X7_129 : Cond.methodLink RX7 129 yX7_isPerson ∈ g_tbl := (g_at 954 (by decide +kernel) rfl)
theorem lk_X7_132 : Cond.methodLink RX7 132 yX7_fitsFor ∈ g_tbl := (g_at 958 (by decide +kernel) rfl)
theorem lk_X7_87 : Cond.methodLink RX7 87 yX7_fits ∈ g_tbl := (g_at 962 (by decide +kernel) rfl)
theorem lk_L_48 : Cond.methodLink RL 48 yX7_count ∈ g_tbl := (g_at 966 (by decide +kernel) rfl)
theorem lk_X7_135 : Cond.methodLink RX7 135 yX7_deepAll ∈ g_tbl := (g_at 970 (by decide +kernel) rfl)
theorem lk_X7_139 : Cond.methodLink RX7 139 yX7_dryOnes ∈ g_tbl := (g_at 974 (by decide +kernel) rfl)
theorem lk_X7_142 : Cond.methodLink RX7 142 yX7_servedNow ∈ g_tbl := (g_at 978 (by decide +kernel) rfl)
theorem lk_X7_145 : Cond.methodLink RX7 145 yX7_claimedOnes ∈ g_tbl := (g_at 982 (by decide +kernel) rfl)
theorem lk_L_39 : Cond.methodLink RL 39 yX7_type ∈ g_tbl := (g_at 986 (by decide +kernel) rfl)
theorem kc_X7_148 : Cond.constantLong RX7 148 (32 : Int64) ∈ g_tbl := (g_at 990 (by decide +kernel) rfl)
theorem kc_X7_150 : Cond.constantLong RX7 150 (126 : Int64) ∈ g_tbl := (g_at 991 (by decide +kernel) rfl)
theorem lk_L_44 : Cond.methodLink RL 44 yX7_read ∈ g_tbl := (g_at 992 (by decide +kernel) rfl)
theorem lk_X7_183 : Cond.methodLink RX7 183 yX7_puddlesRead ∈ g_tbl := (g_at 996 (by decide +kernel) rfl)
theorem lk_X7_162 : Cond.methodLink RX7 162 yX7_here ∈ g_tbl := (g_at 1000 (by decide +kernel) rfl)
theorem lk_X7_165 : Cond.methodLink RX7 165 yX7_must ∈ g_tbl := (g_at 1004 (by decide +kernel) rfl)
theorem lk_X7_176 : Cond.methodLink RX7 176 yX7_digit ∈ g_tbl := (g_at 1008 (by decide +kernel) rfl)
theorem lk_X7_173 : Cond.methodLink RX7 173 yX7_number ∈ g_tbl := (g_at 1012 (by decide +kernel) rfl)
theorem kc_X7_169 : Cond.constantLong RX7 169 (48 : Int64) ∈ g_tbl := (g_at 1016 (by decide +kernel) rfl)
theorem kc_X7_171 : Cond.constantLong RX7 171 (57 : Int64) ∈ g_tbl := (g_at 1017 (by decide +kernel) rfl)
theorem lk_X7_186 : Cond.methodLink RX7 186 yX7_peopleRead ∈ g_tbl := (g_at 1018 (by decide +kernel) rfl)
theorem lk_X7_179 : Cond.methodLink RX7 179 yX7_numberBehind ∈ g_tbl := (g_at 1022 (by decide +kernel) rfl)
theorem lk_L_52 : Cond.methodLink RL 52 yX7_hours ∈ g_tbl := (g_at 1026 (by decide +kernel) rfl)
theorem kc_X7_189 : Cond.constantLong RX7 189 (40 : Int64) ∈ g_tbl := (g_at 1030 (by decide +kernel) rfl)
theorem lk_X7_191 : Cond.methodLink RX7 191 yX7_notes ∈ g_tbl := (g_at 1031 (by decide +kernel) rfl)
theorem lk_X7_106 : Cond.methodLink RX7 106 yX7_goesBy ∈ g_tbl := (g_at 1035 (by decide +kernel) rfl)
theorem lk_X7_95 : Cond.methodLink RX7 95 yX7_looks ∈ g_tbl := (g_at 1039 (by decide +kernel) rfl)
theorem lk_X7_102 : Cond.methodLink RX7 102 yX7_deeps ∈ g_tbl := (g_at 1043 (by decide +kernel) rfl)
theorem lk_L_56 : Cond.methodLink RL 56 yX7_rain ∈ g_tbl := (g_at 1047 (by decide +kernel) rfl)
theorem lk_X7_194 : Cond.methodLink RX7 194 yX7_rains ∈ g_tbl := (g_at 1051 (by decide +kernel) rfl)
theorem lk_L_60 : Cond.methodLink RL 60 yX7_drive ∈ g_tbl := (g_at 1055 (by decide +kernel) rfl)
theorem lk_L_64 : Cond.methodLink RL 64 yX7_send ∈ g_tbl := (g_at 1059 (by decide +kernel) rfl)
theorem lk_L_68 : Cond.methodLink RL 68 yX7_later ∈ g_tbl := (g_at 1063 (by decide +kernel) rfl)
theorem lk_L_72 : Cond.methodLink RL 72 yX7_drift ∈ g_tbl := (g_at 1067 (by decide +kernel) rfl)
theorem kc_X7_197 : Cond.constantLong RX7 197 (1103515245 : Int64) ∈ g_tbl := (g_at 1071 (by decide +kernel) rfl)
theorem kc_X7_199 : Cond.constantLong RX7 199 (12345 : Int64) ∈ g_tbl := (g_at 1072 (by decide +kernel) rfl)
theorem kc_X7_201 : Cond.constantLong RX7 201 (2147483647 : Int64) ∈ g_tbl := (g_at 1073 (by decide +kernel) rfl)
theorem kc_X7_203 : Cond.constant RX7 203 (65536 : Int32) ∈ g_tbl := (g_at 1074 (by decide +kernel) rfl)
theorem lk_L_76 : Cond.methodLink RL 76 yX7_undo ∈ g_tbl := (g_at 1075 (by decide +kernel) rfl)
theorem lk_L_80 : Cond.methodLink RL 80 yX7_seed ∈ g_tbl := (g_at 1079 (by decide +kernel) rfl)
theorem lk_L_84 : Cond.methodLink RL 84 yX7_ahead ∈ g_tbl := (g_at 1083 (by decide +kernel) rfl)
theorem lk_X7_204 : Cond.methodLink RX7 204 yX7_asides ∈ g_tbl := (g_at 1087 (by decide +kernel) rfl)
theorem lk_X7_207 : Cond.methodLink RX7 207 yX7_goesOn ∈ g_tbl := (g_at 1091 (by decide +kernel) rfl)
theorem lk_X7_210 : Cond.methodLink RX7 210 yX7_backs ∈ g_tbl := (g_at 1095 (by decide +kernel) rfl)
theorem lk_L_88 : Cond.methodLink RL 88 yX7_claims ∈ g_tbl := (g_at 1099 (by decide +kernel) rfl)
theorem lk_L_92 : Cond.methodLink RL 92 yX7_then ∈ g_tbl := (g_at 1103 (by decide +kernel) rfl)
theorem lk_L_96 : Cond.methodLink RL 96 yX7_served ∈ g_tbl := (g_at 1107 (by decide +kernel) rfl)
theorem lk_L_100 : Cond.methodLink RL 100 yX7_dries ∈ g_tbl := (g_at 1111 (by decide +kernel) rfl)
theorem lk_L_104 : Cond.methodLink RL 104 yX7_match ∈ g_tbl := (g_at 1115 (by decide +kernel) rfl)
theorem lk_L_108 : Cond.methodLink RL 108 yX7_latest ∈ g_tbl := (g_at 1119 (by decide +kernel) rfl)
theorem lk_L_112 : Cond.methodLink RL 112 yX7_order ∈ g_tbl := (g_at 1123 (by decide +kernel) rfl)
theorem lk_X7_213 : Cond.methodLink RX7 213 yX7_isOrder ∈ g_tbl := (g_at 1127 (by decide +kernel) rfl)
theorem lk_X7_216 : Cond.methodLink RX7 216 yX7_comesBy ∈ g_tbl := (g_at 1131 (by decide +kernel) rfl)
theorem lk_X7_219 : Cond.methodLink RX7 219 yX7_many ∈ g_tbl := (g_at 1135 (by decide +kernel) rfl)
theorem lk_L_116 : Cond.methodLink RL 116 yX7_wet ∈ g_tbl := (g_at 1138 (by decide +kernel) rfl)
theorem lk_L_120 : Cond.methodLink RL 120 yX7_matters ∈ g_tbl := (g_at 1142 (by decide +kernel) rfl)
theorem lk_L_124 : Cond.methodLink RL 124 yX7_sight ∈ g_tbl := (g_at 1146 (by decide +kernel) rfl)
theorem lk_L_128 : Cond.methodLink RL 128 yX7_carts ∈ g_tbl := (g_at 1150 (by decide +kernel) rfl)
theorem kc_X7_222 : Cond.constantLong RX7 222 (10 : Int64) ∈ g_tbl := (g_at 1154 (by decide +kernel) rfl)
theorem lk_L_132 : Cond.methodLink RL 132 yX7_image ∈ g_tbl := (g_at 1155 (by decide +kernel) rfl)
theorem lk_L_136 : Cond.methodLink RL 136 yX7_restore ∈ g_tbl := (g_at 1159 (by decide +kernel) rfl)
theorem lk_L_141 : Cond.methodLink RL 141 yX7_dipped ∈ g_tbl := (g_at 1163 (by decide +kernel) rfl)
theorem lk_X7_232 : Cond.methodLink RX7 232 yX7_isSheet ∈ g_tbl := (g_at 1167 (by decide +kernel) rfl)
theorem kc_X7_230 : Cond.constantLong RX7 230 (3 : Int64) ∈ g_tbl := (g_at 1170 (by decide +kernel) rfl)
theorem lk_X7_235 : Cond.methodLink RX7 235 yX7_isLane ∈ g_tbl := (g_at 1171 (by decide +kernel) rfl)
theorem kc_X7_238 : Cond.constantLong RX7 238 (8 : Int64) ∈ g_tbl := (g_at 1174 (by decide +kernel) rfl)
theorem kc_X7_240 : Cond.constantLong RX7 240 (2 : Int64) ∈ g_tbl := (g_at 1175 (by decide +kernel) rfl)
theorem lk_X7_242 : Cond.methodLink RX7 242 yX7_why ∈ g_tbl := (g_at 1176 (by decide +kernel) rfl)
theorem lk_X7_245 : Cond.methodLink RX7 245 yX7_isSo ∈ g_tbl := (g_at 1180 (by decide +kernel) rfl)
theorem lk_L_146 : Cond.methodLink RL 146 yX7_film ∈ g_tbl := (g_at 1184 (by decide +kernel) rfl)
theorem kc_X7_249 : Cond.constantLong RX7 249 (24 : Int64) ∈ g_tbl := (g_at 1188 (by decide +kernel) rfl)
theorem lk_L_150 : Cond.methodLink RL 150 yX7_sheet ∈ g_tbl := (g_at 1189 (by decide +kernel) rfl)
theorem lk_L_154 : Cond.methodLink RL 154 yX7_drop ∈ g_tbl := (g_at 1193 (by decide +kernel) rfl)
theorem lk_L_161 : Cond.methodLink RL 161 yX7_item ∈ g_tbl := (g_at 1197 (by decide +kernel) rfl)
theorem lk_L_165 : Cond.methodLink RL 165 yX7_copy ∈ g_tbl := (g_at 1201 (by decide +kernel) rfl)
theorem kc_L_155 : Cond.constantLong RL 155 (4294967295 : Int64) ∈ g_tbl := (g_at 1205 (by decide +kernel) rfl)
end
section
/-- a contract that makes no cell -/
def CN (l : Launch) (y : MethodName) (cc : ByteArray) (nL : Nat) (ret : Option FieldType) (d : Nat) (X : Nat × (Nat → Int32)) (n : Nat) (args : List Value) (σ : Wd) (q : Option Value → Wd → Prop) : Prop := Con l y cc nL ret d 0 0 X n args σ (fun v n' σ' => n' = n ∧ q v σ')
/-- nothing has changed outside m cells from b on -/
def Eqo (b m : Nat) (σ σ' : Wd) : Prop := ∀ j, (j < b ∨ b + m ≤ j) → σ' j = σ j
theorem Eqo.rf {b m : Nat} {σ : Wd} : Eqo b m σ σ := fun _ _ => rfl
theorem Eqo.tr {b m : Nat} {σ σ' σ'' : Wd} (h : Eqo b m σ σ') (h' : Eqo b m σ' σ'') : Eqo b m σ σ'' := fun j hj => (h' j hj).trans (h j hj)
theorem Eqo.up {b m i : Nat} {σ : Wd} {c : PE} (hi : b ≤ i ∧ i < b + m) : Eqo b m σ (rl_up σ i c) := fun j hj => rl_up_n (by omega)
theorem Eqo.wid {b m b' m' : Nat} {σ σ' : Wd} (h : Eqo b m σ σ') (hb : b' ≤ b ∧ b + m ≤ b' + m') : Eqo b' m' σ σ' := fun j hj => h j (by omega)
theorem rl_down {P : Nat → Prop} (k : Nat) (h0 : P k) (hs : ∀ p, p < k → P (p + 1) → P p) : ∀ p, p ≤ k → P p := by
  intro p hp
  obtain ⟨j, rfl⟩ : ∃ j, k = p + j := ⟨k - p, by omega⟩
  induction j generalizing p with
  | zero => exact h0
  | succ j ih => exact hs p (by omega) (ih (p + 1) (by rw [show p + 1 + j = p + (j + 1) by omega]; exact h0) (fun q hq => hs q (by omega)) (by omega))
theorem nI_or (a b : Nat) : nI a ||| nI b = nI (a ||| b) := by
  unfold nI
  apply Int32.toBitVec_inj.mp
  simp
theorem nI_and (a b : Nat) : nI a &&& nI b = nI (a &&& b) := by
  unfold nI
  apply Int32.toBitVec_inj.mp
  simp
theorem nI_xor (a b : Nat) : nI a ^^^ nI b = nI (a ^^^ b) := by
  unfold nI
  apply Int32.toBitVec_inj.mp
  simp
theorem nI_neg4 {j : Nat} (h : j < 2 ^ 31) : ¬ nI j = -4 := by
  intro e
  have := congrArg Int32.toInt e
  rw [nI_toInt h] at this
  have h4 : (-4 : Int32).toInt = -4 := by decide
  omega
section RB
variable {cx : Cx} {l : Launch} {y : MethodName} {cc : ByteArray} {nL : Nat} {ret : Option FieldType} {d mc ms n0 : Nat} {X : Nat × (Nat → Int32)} {Q : Option Value → Nat → Wd → Prop} {kc ks n : Nat} {σ : Wd} {pc : Nat} {ls : List (Option Value)} {st : List Value}
theorem CN.of {args : List Value} {q : Option Value → Wd → Prop} (hy : plainName y.cls = true) (ls : List (Option Value)) (hlen : ∀ E, (lg_sl (args.map (rl_tv E))).length ≤ nL) (hls : ∀ E, rl_tl E 0 ls = lv_args 0 (args.map (rl_tv E)))
    (k : ∀ cx : Cx, cx = (l, y, cc, nL, ret, d, 0, 0, n, X, (fun v n' σ' => n' = n ∧ q v σ')) → R cx 0 0 n σ 0 ls []) : CN l y cc nL ret d X n args σ q := Con.of hy ls hlen hls k
theorem R.ialdE (hc : cx = (l, y, cc, nL, ret, d, mc, ms, n0, X, Q)) {i m9 j : Nat} {x : Int32} (hd : decode cc pc = .ok (.iaload, 1)) (he : ∃ f : Nat → Int32, σ i = some (.inl (0, m9, .inl f)) ∧ f j = x) (hj : j < m9) (hm : m9 < 2 ^ 31) (k : R cx kc ks n σ (pc + 1) ls (.int x :: st)) : R cx kc ks n σ pc ls (.int (nI j) :: .ref i :: st) := by
  obtain ⟨f, h1, h2⟩ := he
  exact R.iald hc h1 hj hm hd (by rw [h2]; exact k)
theorem R.iastW (hc : cx = (l, y, cc, nL, ret, d, mc, ms, n0, X, Q)) {i m9 j : Nat} {x : Int32} {P : Wd → Prop} (hd : decode cc pc = .ok (.iastore, 1)) (he : ∃ f : Nat → Int32, σ i = some (.inl (0, m9, .inl f)) ∧ P (rl_up σ i (.inl (0, m9, .inl (upd f j x))))) (hj : j < m9) (hm : m9 < 2 ^ 31) (k : ∀ σ', P σ' → R cx kc ks n σ' (pc + 1) ls st) : R cx kc ks n σ pc ls (.int x :: .int (nI j) :: .ref i :: st) := by
  obtain ⟨f, h1, h2⟩ := he
  exact R.iast hc h1 hj hm hd (k _ h2)
theorem R.putW (hc : cx = (l, y, cc, nL, ret, d, mc, ms, n0, X, Q)) {i idx ci k : Nat} {ty : FieldType} {v : Value} {P : Wd → Prop} (hg : rl_GF y.cls idx ci k false ty) (hd : decode cc pc = .ok (.putfield idx, 3)) (he : ∃ fs : List Value, σ i = some (.inr (ci, fs)) ∧ k < fs.length ∧ P (rl_up σ i (.inr (ci, fs.set k v)))) (hn : ∀ E, narrow ty (rl_tv E v) = rl_tv E v) (hfit : ∀ E, fits ty (rl_tv E v) = true) (kk : ∀ σ', P σ' → R cx kc ks n σ' (pc + 3) ls st) : R cx kc ks n σ pc ls (v :: .ref i :: st) := by
  obtain ⟨fs, h1, h2, h3⟩ := he
  exact R.putf hc hg h1 h2 hn hfit rfl hd (kk _ h3)
theorem R.copyW (hc : cx = (l, y, cc, nL, ret, d, mc, ms, n0, X, Q)) {idx i0 i1 m0 m1 sp dp j : Nat} {P : Wd → Prop} (hw : Cond.methodLink y.cls idx arraycopyName ∈ g_tbl) (hd : decode cc pc = .ok (.invokestatic idx, 3)) (h : ∃ f g : Nat → Int32, σ i0 = some (.inl (0, m0, .inl f)) ∧ σ i1 = some (.inl (0, m1, .inl g)) ∧ P (rl_up σ i1 (.inl (0, m1, .inl (va_cpy f g sp dp j))))) (ha : sp + j ≤ m0) (hb : dp + j ≤ m1) (hm0 : m0 < 2 ^ 31) (hm1 : m1 < 2 ^ 31) (hd1 : 1 ≤ d) (hcat : (st.map fun v => v.category).sum ≤ 8) (k : ∀ σ', P σ' → R cx kc ks n σ' (pc + 3) ls st) : R cx kc ks n σ pc ls (.int (nI j) :: .int (nI dp) :: .ref i1 :: .int (nI sp) :: .ref i0 :: st) := by
  obtain ⟨f, g, h1, h2, h3⟩ := h
  exact R.copyi hc hw h1 h2 ha hb hm0 hm1 hd1 hcat hd (k _ h3)
theorem R.top {x x' : Int32} (h : x = x') (k : R cx kc ks n σ pc ls (.int x' :: st)) : R cx kc ks n σ pc ls (.int x :: st) := h ▸ k
theorem R.iaddN (hc : cx = (l, y, cc, nL, ret, d, mc, ms, n0, X, Q)) {a b : Nat} (hd : decode cc pc = .ok (.iadd, 1)) (k : R cx kc ks n σ (pc + 1) ls (.int (nI (a + b)) :: st)) : R cx kc ks n σ pc ls (.int (nI b) :: .int (nI a) :: st) := R.iadd hc hd (by rw [nI_add]; exact k)
theorem R.imulN (hc : cx = (l, y, cc, nL, ret, d, mc, ms, n0, X, Q)) {a b : Nat} (hd : decode cc pc = .ok (.imul, 1)) (k : R cx kc ks n σ (pc + 1) ls (.int (nI (a * b)) :: st)) : R cx kc ks n σ pc ls (.int (nI b) :: .int (nI a) :: st) := R.imul hc hd (by rw [pk_mul]; exact k)
theorem R.isubN (hc : cx = (l, y, cc, nL, ret, d, mc, ms, n0, X, Q)) {a b : Nat} (h : b ≤ a) (hd : decode cc pc = .ok (.isub, 1)) (k : R cx kc ks n σ (pc + 1) ls (.int (nI (a - b)) :: st)) : R cx kc ks n σ pc ls (.int (nI b) :: .int (nI a) :: st) := R.isub hc hd (by rw [pk_sub h]; exact k)
theorem R.iorN (hc : cx = (l, y, cc, nL, ret, d, mc, ms, n0, X, Q)) {a b : Nat} (hd : decode cc pc = .ok (.ior, 1)) (k : R cx kc ks n σ (pc + 1) ls (.int (nI (a ||| b)) :: st)) : R cx kc ks n σ pc ls (.int (nI b) :: .int (nI a) :: st) := R.ior hc hd (by rw [nI_or]; exact k)
theorem R.iandN (hc : cx = (l, y, cc, nL, ret, d, mc, ms, n0, X, Q)) {a b : Nat} (hd : decode cc pc = .ok (.iand, 1)) (k : R cx kc ks n σ (pc + 1) ls (.int (nI (a &&& b)) :: st)) : R cx kc ks n σ pc ls (.int (nI b) :: .int (nI a) :: st) := R.iand hc hd (by rw [nI_and]; exact k)
theorem R.ixorN (hc : cx = (l, y, cc, nL, ret, d, mc, ms, n0, X, Q)) {a b : Nat} (hd : decode cc pc = .ok (.ixor, 1)) (k : R cx kc ks n σ (pc + 1) ls (.int (nI (a ^^^ b)) :: st)) : R cx kc ks n σ pc ls (.int (nI b) :: .int (nI a) :: st) := R.ixor hc hd (by rw [nI_xor]; exact k)
theorem rl_sm {b : Nat} (h : b < 32) : ((nI b &&& 31).toBitVec.smod 32).toNat = b := by
  have : ∀ b, b < 32 → ((nI b &&& 31).toBitVec.smod 32).toNat = b := by decide +kernel
  exact this b h
theorem R.ishlN (hc : cx = (l, y, cc, nL, ret, d, mc, ms, n0, X, Q)) {a b : Nat} (hb : b < 32) (ha : a * 2 ^ b < 2 ^ 32) (hd : decode cc pc = .ok (.ishl, 1)) (k : R cx kc ks n σ (pc + 1) ls (.int (nI (a * 2 ^ b)) :: st)) : R cx kc ks n σ pc ls (.int (nI b) :: .int (nI a) :: st) := R.ishl hc hd (by rw [pk_shlN _ b (rl_sm hb) ha]; exact k)
theorem R.ishrN (hc : cx = (l, y, cc, nL, ret, d, mc, ms, n0, X, Q)) {a b : Nat} (hb : b < 32) (ha : a < 2 ^ 31) (hd : decode cc pc = .ok (.ishr, 1)) (k : R cx kc ks n σ (pc + 1) ls (.int (nI (a / 2 ^ b)) :: st)) : R cx kc ks n σ pc ls (.int (nI b) :: .int (nI a) :: st) := R.ishr hc hd (by rw [pk_shrN ha _ b (rl_sm hb)]; exact k)
theorem R.idivN (hc : cx = (l, y, cc, nL, ret, d, mc, ms, n0, X, Q)) {a b : Nat} (ha : a < 2 ^ 31) (hb0 : 0 < b) (hb : b < 2 ^ 31) (hd : decode cc pc = .ok (.idiv, 1)) (k : R cx kc ks n σ (pc + 1) ls (.int (nI (a / b)) :: st)) : R cx kc ks n σ pc ls (.int (nI b) :: .int (nI a) :: st) := R.idiv hc (nI_ne0 hb0 hb) hd (by rw [pk_div ha hb0 hb]; exact k)
theorem R.iremN (hc : cx = (l, y, cc, nL, ret, d, mc, ms, n0, X, Q)) {a b : Nat} (ha : a < 2 ^ 31) (hb0 : 0 < b) (hb : b < 2 ^ 31) (hd : decode cc pc = .ok (.irem, 1)) (k : R cx kc ks n σ (pc + 1) ls (.int (nI (a % b)) :: st)) : R cx kc ks n σ pc ls (.int (nI b) :: .int (nI a) :: st) := R.irem hc (nI_ne0 hb0 hb) hd (by rw [pk_rem ha hb0 hb]; exact k)

theorem R.icmpN_eq (hc : cx = (l, y, cc, nL, ret, d, mc, ms, n0, X, Q)) {a b : Nat} {off : Int} {tgt : Nat} (hd : decode cc pc = .ok (.if_icmp .eq off, 3)) (ht : (pc : Int) + off = (tgt : Int)) (ha : a < 2 ^ 31) (hb : b < 2 ^ 31) (kt : a = b → R cx kc ks n σ tgt ls st) (kf : ¬ a = b → R cx kc ks n σ (pc + 3) ls st) : R cx kc ks n σ pc ls (.int (nI b) :: .int (nI a) :: st) := R.icmp_eq hc hd ht (fun q => kt ((nI_eq ha hb).mp q)) (fun q => kf (fun e => q ((nI_eq ha hb).mpr e)))
theorem R.icmpN_ne (hc : cx = (l, y, cc, nL, ret, d, mc, ms, n0, X, Q)) {a b : Nat} {off : Int} {tgt : Nat} (hd : decode cc pc = .ok (.if_icmp .ne off, 3)) (ht : (pc : Int) + off = (tgt : Int)) (ha : a < 2 ^ 31) (hb : b < 2 ^ 31) (kt : ¬ a = b → R cx kc ks n σ tgt ls st) (kf : a = b → R cx kc ks n σ (pc + 3) ls st) : R cx kc ks n σ pc ls (.int (nI b) :: .int (nI a) :: st) := R.icmp_ne hc hd ht (fun q => kt (fun e => q ((nI_eq ha hb).mpr e))) (fun q => kf ((nI_eq ha hb).mp q))
theorem R.icmpN_lt (hc : cx = (l, y, cc, nL, ret, d, mc, ms, n0, X, Q)) {a b : Nat} {off : Int} {tgt : Nat} (hd : decode cc pc = .ok (.if_icmp .lt off, 3)) (ht : (pc : Int) + off = (tgt : Int)) (ha : a < 2 ^ 31) (hb : b < 2 ^ 31) (kt : a < b → R cx kc ks n σ tgt ls st) (kf : ¬ a < b → R cx kc ks n σ (pc + 3) ls st) : R cx kc ks n σ pc ls (.int (nI b) :: .int (nI a) :: st) := R.icmp_lt hc hd ht (fun q => kt ((nI_ltI ha hb).mp q)) (fun q => kf (fun e => q ((nI_ltI ha hb).mpr e)))
theorem R.icmpN_ge (hc : cx = (l, y, cc, nL, ret, d, mc, ms, n0, X, Q)) {a b : Nat} {off : Int} {tgt : Nat} (hd : decode cc pc = .ok (.if_icmp .ge off, 3)) (ht : (pc : Int) + off = (tgt : Int)) (ha : a < 2 ^ 31) (hb : b < 2 ^ 31) (kt : b ≤ a → R cx kc ks n σ tgt ls st) (kf : ¬ b ≤ a → R cx kc ks n σ (pc + 3) ls st) : R cx kc ks n σ pc ls (.int (nI b) :: .int (nI a) :: st) := R.icmp_ge hc hd ht (fun q => kt ((nI_leI hb ha).mp q)) (fun q => kf (fun e => q ((nI_leI hb ha).mpr e)))
theorem R.icmpN_gt (hc : cx = (l, y, cc, nL, ret, d, mc, ms, n0, X, Q)) {a b : Nat} {off : Int} {tgt : Nat} (hd : decode cc pc = .ok (.if_icmp .gt off, 3)) (ht : (pc : Int) + off = (tgt : Int)) (ha : a < 2 ^ 31) (hb : b < 2 ^ 31) (kt : b < a → R cx kc ks n σ tgt ls st) (kf : ¬ b < a → R cx kc ks n σ (pc + 3) ls st) : R cx kc ks n σ pc ls (.int (nI b) :: .int (nI a) :: st) := R.icmp_gt hc hd ht (fun q => kt ((nI_ltI hb ha).mp q)) (fun q => kf (fun e => q ((nI_ltI hb ha).mpr e)))
theorem R.icmpN_le (hc : cx = (l, y, cc, nL, ret, d, mc, ms, n0, X, Q)) {a b : Nat} {off : Int} {tgt : Nat} (hd : decode cc pc = .ok (.if_icmp .le off, 3)) (ht : (pc : Int) + off = (tgt : Int)) (ha : a < 2 ^ 31) (hb : b < 2 ^ 31) (kt : a ≤ b → R cx kc ks n σ tgt ls st) (kf : ¬ a ≤ b → R cx kc ks n σ (pc + 3) ls st) : R cx kc ks n σ pc ls (.int (nI b) :: .int (nI a) :: st) := R.icmp_le hc hd ht (fun q => kt ((nI_leI ha hb).mp q)) (fun q => kf (fun e => q ((nI_leI ha hb).mpr e)))
theorem R.ifN_eq (hc : cx = (l, y, cc, nL, ret, d, mc, ms, n0, X, Q)) {a : Nat} {off : Int} {tgt : Nat} (hd : decode cc pc = .ok (.ifCond .eq off, 3)) (ht : (pc : Int) + off = (tgt : Int)) (ha : a < 2 ^ 31) (kt : a = 0 → R cx kc ks n σ tgt ls st) (kf : ¬ a = 0 → R cx kc ks n σ (pc + 3) ls st) : R cx kc ks n σ pc ls (.int (nI a) :: st) := R.if_eq hc hd ht (fun q => kt (Nat.eq_zero_of_not_pos (fun h => nI_ne0 h ha q))) (fun q => kf (fun e => q (by rw [e]; rfl)))
theorem R.ifN_ne (hc : cx = (l, y, cc, nL, ret, d, mc, ms, n0, X, Q)) {a : Nat} {off : Int} {tgt : Nat} (hd : decode cc pc = .ok (.ifCond .ne off, 3)) (ht : (pc : Int) + off = (tgt : Int)) (ha : a < 2 ^ 31) (kt : ¬ a = 0 → R cx kc ks n σ tgt ls st) (kf : a = 0 → R cx kc ks n σ (pc + 3) ls st) : R cx kc ks n σ pc ls (.int (nI a) :: st) := R.if_ne hc hd ht (fun q => kt (fun e => q (by rw [e]; rfl))) (fun q => kf (Nat.eq_zero_of_not_pos (fun h => nI_ne0 h ha q)))
/-- a truth as the machine has it -/
def b2 (c : Bool) : Int32 := if c then 1 else 0
theorem b2_t : b2 true = 1 := rfl
theorem b2_f : b2 false = 0 := rfl
theorem b2_nar (c : Bool) : narrow .boolean (.int (b2 c)) = .int (b2 c) := by cases c <;> rfl
theorem R.ifB_eq (hc : cx = (l, y, cc, nL, ret, d, mc, ms, n0, X, Q)) {c : Bool} {off : Int} {tgt : Nat} (hd : decode cc pc = .ok (.ifCond .eq off, 3)) (ht : (pc : Int) + off = (tgt : Int)) (kt : c = false → R cx kc ks n σ tgt ls st) (kf : c = true → R cx kc ks n σ (pc + 3) ls st) : R cx kc ks n σ pc ls (.int (b2 c) :: st) := R.if_eq hc hd ht (fun q => kt (by cases c; rfl; exact absurd q (by decide))) (fun q => kf (by cases c; exact absurd rfl q; rfl))
theorem R.ifB_ne (hc : cx = (l, y, cc, nL, ret, d, mc, ms, n0, X, Q)) {c : Bool} {off : Int} {tgt : Nat} (hd : decode cc pc = .ok (.ifCond .ne off, 3)) (ht : (pc : Int) + off = (tgt : Int)) (kt : c = true → R cx kc ks n σ tgt ls st) (kf : c = false → R cx kc ks n σ (pc + 3) ls st) : R cx kc ks n σ pc ls (.int (b2 c) :: st) := R.if_ne hc hd ht (fun q => kt (by cases c; exact absurd rfl q; rfl)) (fun q => kf (by cases c; rfl; exact absurd q (by decide)))
theorem R.bret (hc : cx = (l, y, cc, nL, ret, d, mc, ms, n0, X, Q)) {v : Int32} {c : Bool} (hr : ret = some .boolean) (hd : decode cc pc = .ok (.ireturn, 1)) (hv : v = b2 c) (hq : Q (some (.int v)) n σ) : R cx mc ms n σ pc ls [.int v] := R.zret hc hr (by rw [hv]; exact b2_nar c) hd hq
theorem R.cVg (hc : cx = (l, y, cc, nL, ret, d, mc, ms, n0, X, Q)) {b ci : Nat} {fs : List Value} {y' : MethodName} {cc' : ByteArray} {nL' : Nat} {ret' : Option FieldType} {d' k9 idx : Nat} {As rest : List Value} {q : Option Value → Wd → Prop} (hM : rl_MV y' cc' nL' ret' k9) (hL : Cond.methodLink y.cls idx y' ∈ g_tbl) (hd : decode cc pc = .ok (.invokevirtual idx, 3)) (hC : CN l y' cc' nL' ret' d' X n (.ref b :: As) σ q) (hb : σ b = some (.inr (ci, fs))) (hci : (vwCl[ci]?).map (fun q => q.1) = some y'.cls) (hst : st = As.reverse ++ .ref b :: rest) (hk : As.length = k9) (hdd : d' + 1 ≤ d) (hkm : kc ≤ mc ∧ ks ≤ ms) (hcat : (rest.map fun v => v.category).sum ≤ 8) (kk : ∀ v σ', q v σ' → R cx kc ks n σ' (pc + 3) ls (v.toList ++ rest)) : R cx kc ks n σ pc ls st := by
  subst hst
  refine R.callV hc hM hL hC hb hci hk hdd hkm (Or.inl rfl) hcat hd (fun v n' σ' hq => ?_)
  obtain ⟨rfl, hq⟩ := hq
  exact kk v σ' hq
theorem R.cVi (hc : cx = (l, y, cc, nL, ret, d, mc, ms, n0, X, Q)) {b ci : Nat} {fs : List Value} {y' : MethodName} {cc' : ByteArray} {nL' : Nat} {ret' : Option FieldType} {d' k9 idx : Nat} {As rest : List Value} {r : Int32} {P : Wd → Prop} (hM : rl_MV y' cc' nL' ret' k9) (hL : Cond.methodLink y.cls idx y' ∈ g_tbl) (hd : decode cc pc = .ok (.invokevirtual idx, 3)) (hC : CN l y' cc' nL' ret' d' X n (.ref b :: As) σ (fun v σ' => v = some (.int r) ∧ P σ')) (hb : σ b = some (.inr (ci, fs))) (hci : (vwCl[ci]?).map (fun q => q.1) = some y'.cls) (hst : st = As.reverse ++ .ref b :: rest) (hk : As.length = k9) (hdd : d' + 1 ≤ d) (hkm : kc ≤ mc ∧ ks ≤ ms) (hcat : (rest.map fun v => v.category).sum ≤ 8) (kk : ∀ σ', P σ' → R cx kc ks n σ' (pc + 3) ls (.int r :: rest)) : R cx kc ks n σ pc ls st := by
  subst hst
  refine R.callV hc hM hL hC hb hci hk hdd hkm (Or.inl rfl) hcat hd (fun v n' σ' hq => ?_)
  obtain ⟨rfl, hq⟩ := hq
  exact by obtain ⟨rfl, h2⟩ := hq; exact kk σ' h2
theorem R.cVl (hc : cx = (l, y, cc, nL, ret, d, mc, ms, n0, X, Q)) {b ci : Nat} {fs : List Value} {y' : MethodName} {cc' : ByteArray} {nL' : Nat} {ret' : Option FieldType} {d' k9 idx : Nat} {As rest : List Value} {r : Int64} {P : Wd → Prop} (hM : rl_MV y' cc' nL' ret' k9) (hL : Cond.methodLink y.cls idx y' ∈ g_tbl) (hd : decode cc pc = .ok (.invokevirtual idx, 3)) (hC : CN l y' cc' nL' ret' d' X n (.ref b :: As) σ (fun v σ' => v = some (.long r) ∧ P σ')) (hb : σ b = some (.inr (ci, fs))) (hci : (vwCl[ci]?).map (fun q => q.1) = some y'.cls) (hst : st = As.reverse ++ .ref b :: rest) (hk : As.length = k9) (hdd : d' + 1 ≤ d) (hkm : kc ≤ mc ∧ ks ≤ ms) (hcat : (rest.map fun v => v.category).sum ≤ 8) (kk : ∀ σ', P σ' → R cx kc ks n σ' (pc + 3) ls (.long r :: rest)) : R cx kc ks n σ pc ls st := by
  subst hst
  refine R.callV hc hM hL hC hb hci hk hdd hkm (Or.inl rfl) hcat hd (fun v n' σ' hq => ?_)
  obtain ⟨rfl, hq⟩ := hq
  exact by obtain ⟨rfl, h2⟩ := hq; exact kk σ' h2
theorem R.cVu (hc : cx = (l, y, cc, nL, ret, d, mc, ms, n0, X, Q)) {b ci : Nat} {fs : List Value} {y' : MethodName} {cc' : ByteArray} {nL' : Nat} {ret' : Option FieldType} {d' k9 idx : Nat} {As rest : List Value} {P : Wd → Prop} (hM : rl_MV y' cc' nL' ret' k9) (hL : Cond.methodLink y.cls idx y' ∈ g_tbl) (hd : decode cc pc = .ok (.invokevirtual idx, 3)) (hC : CN l y' cc' nL' ret' d' X n (.ref b :: As) σ (fun v σ' => v = none ∧ P σ')) (hb : σ b = some (.inr (ci, fs))) (hci : (vwCl[ci]?).map (fun q => q.1) = some y'.cls) (hst : st = As.reverse ++ .ref b :: rest) (hk : As.length = k9) (hdd : d' + 1 ≤ d) (hkm : kc ≤ mc ∧ ks ≤ ms) (hcat : (rest.map fun v => v.category).sum ≤ 8) (kk : ∀ σ', P σ' → R cx kc ks n σ' (pc + 3) ls rest) : R cx kc ks n σ pc ls st := by
  subst hst
  refine R.callV hc hM hL hC hb hci hk hdd hkm (Or.inl rfl) hcat hd (fun v n' σ' hq => ?_)
  obtain ⟨rfl, hq⟩ := hq
  exact by obtain ⟨rfl, h2⟩ := hq; exact kk σ' h2
theorem R.cVr (hc : cx = (l, y, cc, nL, ret, d, mc, ms, n0, X, Q)) {b ci : Nat} {fs : List Value} {y' : MethodName} {cc' : ByteArray} {nL' : Nat} {ret' : Option FieldType} {d' k9 idx : Nat} {As rest : List Value} {r : Int32} (hM : rl_MV y' cc' nL' ret' k9) (hL : Cond.methodLink y.cls idx y' ∈ g_tbl) (hd : decode cc pc = .ok (.invokevirtual idx, 3)) (hC : CN l y' cc' nL' ret' d' X n (.ref b :: As) σ (fun v σ' => v = some (.int r) ∧ σ' = σ)) (hb : σ b = some (.inr (ci, fs))) (hci : (vwCl[ci]?).map (fun q => q.1) = some y'.cls) (hst : st = As.reverse ++ .ref b :: rest) (hk : As.length = k9) (hdd : d' + 1 ≤ d) (hkm : kc ≤ mc ∧ ks ≤ ms) (hcat : (rest.map fun v => v.category).sum ≤ 8) (kk : R cx kc ks n σ (pc + 3) ls (.int r :: rest)) : R cx kc ks n σ pc ls st := by
  subst hst
  refine R.callV hc hM hL hC hb hci hk hdd hkm (Or.inl rfl) hcat hd (fun v n' σ' hq => ?_)
  obtain ⟨rfl, hq⟩ := hq
  exact by obtain ⟨rfl, rfl⟩ := hq; exact kk
theorem R.cVm (hc : cx = (l, y, cc, nL, ret, d, mc, ms, n0, X, Q)) {b ci : Nat} {fs : List Value} {y' : MethodName} {cc' : ByteArray} {nL' : Nat} {ret' : Option FieldType} {d' k9 idx : Nat} {As rest : List Value} {r : Int64} (hM : rl_MV y' cc' nL' ret' k9) (hL : Cond.methodLink y.cls idx y' ∈ g_tbl) (hd : decode cc pc = .ok (.invokevirtual idx, 3)) (hC : CN l y' cc' nL' ret' d' X n (.ref b :: As) σ (fun v σ' => v = some (.long r) ∧ σ' = σ)) (hb : σ b = some (.inr (ci, fs))) (hci : (vwCl[ci]?).map (fun q => q.1) = some y'.cls) (hst : st = As.reverse ++ .ref b :: rest) (hk : As.length = k9) (hdd : d' + 1 ≤ d) (hkm : kc ≤ mc ∧ ks ≤ ms) (hcat : (rest.map fun v => v.category).sum ≤ 8) (kk : R cx kc ks n σ (pc + 3) ls (.long r :: rest)) : R cx kc ks n σ pc ls st := by
  subst hst
  refine R.callV hc hM hL hC hb hci hk hdd hkm (Or.inl rfl) hcat hd (fun v n' σ' hq => ?_)
  obtain ⟨rfl, hq⟩ := hq
  exact by obtain ⟨rfl, rfl⟩ := hq; exact kk
theorem R.cSg (hc : cx = (l, y, cc, nL, ret, d, mc, ms, n0, X, Q)) {y' : MethodName} {cc' : ByteArray} {nL' : Nat} {ret' : Option FieldType} {d' k9 idx : Nat} {As rest : List Value} {q : Option Value → Wd → Prop} (hM : rl_MS y' cc' nL' ret' k9) (hL : Cond.methodLink y.cls idx y' ∈ g_tbl) (hd : decode cc pc = .ok (.invokestatic idx, 3)) (hC : CN l y' cc' nL' ret' d' X n As σ q)  (hst : st = As.reverse ++ rest) (hk : As.length = k9) (hdd : d' + 1 ≤ d) (hkm : kc ≤ mc ∧ ks ≤ ms) (hcat : (rest.map fun v => v.category).sum ≤ 8) (kk : ∀ v σ', q v σ' → R cx kc ks n σ' (pc + 3) ls (v.toList ++ rest)) : R cx kc ks n σ pc ls st := by
  subst hst
  refine R.callS hc hM hL hC hk hdd hkm (Or.inl rfl) hcat hd (fun v n' σ' hq => ?_)
  obtain ⟨rfl, hq⟩ := hq
  exact kk v σ' hq
theorem R.cSi (hc : cx = (l, y, cc, nL, ret, d, mc, ms, n0, X, Q)) {y' : MethodName} {cc' : ByteArray} {nL' : Nat} {ret' : Option FieldType} {d' k9 idx : Nat} {As rest : List Value} {r : Int32} {P : Wd → Prop} (hM : rl_MS y' cc' nL' ret' k9) (hL : Cond.methodLink y.cls idx y' ∈ g_tbl) (hd : decode cc pc = .ok (.invokestatic idx, 3)) (hC : CN l y' cc' nL' ret' d' X n As σ (fun v σ' => v = some (.int r) ∧ P σ'))  (hst : st = As.reverse ++ rest) (hk : As.length = k9) (hdd : d' + 1 ≤ d) (hkm : kc ≤ mc ∧ ks ≤ ms) (hcat : (rest.map fun v => v.category).sum ≤ 8) (kk : ∀ σ', P σ' → R cx kc ks n σ' (pc + 3) ls (.int r :: rest)) : R cx kc ks n σ pc ls st := by
  subst hst
  refine R.callS hc hM hL hC hk hdd hkm (Or.inl rfl) hcat hd (fun v n' σ' hq => ?_)
  obtain ⟨rfl, hq⟩ := hq
  exact by obtain ⟨rfl, h2⟩ := hq; exact kk σ' h2
theorem R.cSl (hc : cx = (l, y, cc, nL, ret, d, mc, ms, n0, X, Q)) {y' : MethodName} {cc' : ByteArray} {nL' : Nat} {ret' : Option FieldType} {d' k9 idx : Nat} {As rest : List Value} {r : Int64} {P : Wd → Prop} (hM : rl_MS y' cc' nL' ret' k9) (hL : Cond.methodLink y.cls idx y' ∈ g_tbl) (hd : decode cc pc = .ok (.invokestatic idx, 3)) (hC : CN l y' cc' nL' ret' d' X n As σ (fun v σ' => v = some (.long r) ∧ P σ'))  (hst : st = As.reverse ++ rest) (hk : As.length = k9) (hdd : d' + 1 ≤ d) (hkm : kc ≤ mc ∧ ks ≤ ms) (hcat : (rest.map fun v => v.category).sum ≤ 8) (kk : ∀ σ', P σ' → R cx kc ks n σ' (pc + 3) ls (.long r :: rest)) : R cx kc ks n σ pc ls st := by
  subst hst
  refine R.callS hc hM hL hC hk hdd hkm (Or.inl rfl) hcat hd (fun v n' σ' hq => ?_)
  obtain ⟨rfl, hq⟩ := hq
  exact by obtain ⟨rfl, h2⟩ := hq; exact kk σ' h2
theorem R.cSu (hc : cx = (l, y, cc, nL, ret, d, mc, ms, n0, X, Q)) {y' : MethodName} {cc' : ByteArray} {nL' : Nat} {ret' : Option FieldType} {d' k9 idx : Nat} {As rest : List Value} {P : Wd → Prop} (hM : rl_MS y' cc' nL' ret' k9) (hL : Cond.methodLink y.cls idx y' ∈ g_tbl) (hd : decode cc pc = .ok (.invokestatic idx, 3)) (hC : CN l y' cc' nL' ret' d' X n As σ (fun v σ' => v = none ∧ P σ'))  (hst : st = As.reverse ++ rest) (hk : As.length = k9) (hdd : d' + 1 ≤ d) (hkm : kc ≤ mc ∧ ks ≤ ms) (hcat : (rest.map fun v => v.category).sum ≤ 8) (kk : ∀ σ', P σ' → R cx kc ks n σ' (pc + 3) ls rest) : R cx kc ks n σ pc ls st := by
  subst hst
  refine R.callS hc hM hL hC hk hdd hkm (Or.inl rfl) hcat hd (fun v n' σ' hq => ?_)
  obtain ⟨rfl, hq⟩ := hq
  exact by obtain ⟨rfl, h2⟩ := hq; exact kk σ' h2
theorem R.cSr (hc : cx = (l, y, cc, nL, ret, d, mc, ms, n0, X, Q)) {y' : MethodName} {cc' : ByteArray} {nL' : Nat} {ret' : Option FieldType} {d' k9 idx : Nat} {As rest : List Value} {r : Int32} (hM : rl_MS y' cc' nL' ret' k9) (hL : Cond.methodLink y.cls idx y' ∈ g_tbl) (hd : decode cc pc = .ok (.invokestatic idx, 3)) (hC : CN l y' cc' nL' ret' d' X n As σ (fun v σ' => v = some (.int r) ∧ σ' = σ))  (hst : st = As.reverse ++ rest) (hk : As.length = k9) (hdd : d' + 1 ≤ d) (hkm : kc ≤ mc ∧ ks ≤ ms) (hcat : (rest.map fun v => v.category).sum ≤ 8) (kk : R cx kc ks n σ (pc + 3) ls (.int r :: rest)) : R cx kc ks n σ pc ls st := by
  subst hst
  refine R.callS hc hM hL hC hk hdd hkm (Or.inl rfl) hcat hd (fun v n' σ' hq => ?_)
  obtain ⟨rfl, hq⟩ := hq
  exact by obtain ⟨rfl, rfl⟩ := hq; exact kk
theorem R.cSm (hc : cx = (l, y, cc, nL, ret, d, mc, ms, n0, X, Q)) {y' : MethodName} {cc' : ByteArray} {nL' : Nat} {ret' : Option FieldType} {d' k9 idx : Nat} {As rest : List Value} {r : Int64} (hM : rl_MS y' cc' nL' ret' k9) (hL : Cond.methodLink y.cls idx y' ∈ g_tbl) (hd : decode cc pc = .ok (.invokestatic idx, 3)) (hC : CN l y' cc' nL' ret' d' X n As σ (fun v σ' => v = some (.long r) ∧ σ' = σ))  (hst : st = As.reverse ++ rest) (hk : As.length = k9) (hdd : d' + 1 ≤ d) (hkm : kc ≤ mc ∧ ks ≤ ms) (hcat : (rest.map fun v => v.category).sum ≤ 8) (kk : R cx kc ks n σ (pc + 3) ls (.long r :: rest)) : R cx kc ks n σ pc ls st := by
  subst hst
  refine R.callS hc hM hL hC hk hdd hkm (Or.inl rfl) hcat hd (fun v n' σ' hq => ?_)
  obtain ⟨rfl, hq⟩ := hq
  exact by obtain ⟨rfl, rfl⟩ := hq; exact kk
end RB
theorem ic_m1 : Int32.ofInt (-1) = (-1) := by decide
theorem ic_0 : Int32.ofInt (0) = nI 0 := by decide
theorem ic_1 : Int32.ofInt (1) = nI 1 := by decide
theorem ic_2 : Int32.ofInt (2) = nI 2 := by decide
theorem ic_3 : Int32.ofInt (3) = nI 3 := by decide
theorem ic_4 : Int32.ofInt (4) = nI 4 := by decide
theorem ic_5 : Int32.ofInt (5) = nI 5 := by decide
theorem bp_m20 : (Int8.ofInt (-20)).toInt32 = (-20) := by decide
theorem bp_m14 : (Int8.ofInt (-14)).toInt32 = (-14) := by decide
theorem bp_m13 : (Int8.ofInt (-13)).toInt32 = (-13) := by decide
theorem bp_m12 : (Int8.ofInt (-12)).toInt32 = (-12) := by decide
theorem bp_m11 : (Int8.ofInt (-11)).toInt32 = (-11) := by decide
theorem bp_m4 : (Int8.ofInt (-4)).toInt32 = (-4) := by decide
theorem bp_m3 : (Int8.ofInt (-3)).toInt32 = (-3) := by decide
theorem bp_m2 : (Int8.ofInt (-2)).toInt32 = (-2) := by decide
theorem bp_6 : (Int8.ofInt (6)).toInt32 = nI 6 := by decide
theorem bp_7 : (Int8.ofInt (7)).toInt32 = nI 7 := by decide
theorem bp_8 : (Int8.ofInt (8)).toInt32 = nI 8 := by decide
theorem bp_9 : (Int8.ofInt (9)).toInt32 = nI 9 := by decide
theorem bp_10 : (Int8.ofInt (10)).toInt32 = nI 10 := by decide
theorem bp_13 : (Int8.ofInt (13)).toInt32 = nI 13 := by decide
theorem bp_15 : (Int8.ofInt (15)).toInt32 = nI 15 := by decide
theorem bp_16 : (Int8.ofInt (16)).toInt32 = nI 16 := by decide
theorem bp_17 : (Int8.ofInt (17)).toInt32 = nI 17 := by decide
theorem bp_18 : (Int8.ofInt (18)).toInt32 = nI 18 := by decide
theorem bp_19 : (Int8.ofInt (19)).toInt32 = nI 19 := by decide
theorem bp_20 : (Int8.ofInt (20)).toInt32 = nI 20 := by decide
theorem bp_21 : (Int8.ofInt (21)).toInt32 = nI 21 := by decide
theorem bp_24 : (Int8.ofInt (24)).toInt32 = nI 24 := by decide
theorem bp_25 : (Int8.ofInt (25)).toInt32 = nI 25 := by decide
theorem bp_30 : (Int8.ofInt (30)).toInt32 = nI 30 := by decide
theorem bp_32 : (Int8.ofInt (32)).toInt32 = nI 32 := by decide
theorem bp_40 : (Int8.ofInt (40)).toInt32 = nI 40 := by decide
theorem bp_41 : (Int8.ofInt (41)).toInt32 = nI 41 := by decide
theorem bp_42 : (Int8.ofInt (42)).toInt32 = nI 42 := by decide
theorem bp_44 : (Int8.ofInt (44)).toInt32 = nI 44 := by decide
theorem bp_47 : (Int8.ofInt (47)).toInt32 = nI 47 := by decide
theorem bp_48 : (Int8.ofInt (48)).toInt32 = nI 48 := by decide
theorem bp_49 : (Int8.ofInt (49)).toInt32 = nI 49 := by decide
theorem bp_57 : (Int8.ofInt (57)).toInt32 = nI 57 := by decide
theorem bp_59 : (Int8.ofInt (59)).toInt32 = nI 59 := by decide
theorem bp_60 : (Int8.ofInt (60)).toInt32 = nI 60 := by decide
theorem bp_61 : (Int8.ofInt (61)).toInt32 = nI 61 := by decide
theorem bp_63 : (Int8.ofInt (63)).toInt32 = nI 63 := by decide
theorem bp_64 : (Int8.ofInt (64)).toInt32 = nI 64 := by decide
theorem bp_90 : (Int8.ofInt (90)).toInt32 = nI 90 := by decide
theorem bp_96 : (Int8.ofInt (96)).toInt32 = nI 96 := by decide
theorem bp_99 : (Int8.ofInt (99)).toInt32 = nI 99 := by decide
theorem bp_103 : (Int8.ofInt (103)).toInt32 = nI 103 := by decide
theorem bp_107 : (Int8.ofInt (107)).toInt32 = nI 107 := by decide
theorem bp_112 : (Int8.ofInt (112)).toInt32 = nI 112 := by decide
theorem bp_115 : (Int8.ofInt (115)).toInt32 = nI 115 := by decide
theorem bp_119 : (Int8.ofInt (119)).toInt32 = nI 119 := by decide
theorem bp_126 : (Int8.ofInt (126)).toInt32 = nI 126 := by decide
theorem bp_127 : (Int8.ofInt (127)).toInt32 = nI 127 := by decide
theorem sp_128 : (Int16.ofInt (128)).toInt32 = nI 128 := by decide
theorem sp_168 : (Int16.ofInt (168)).toInt32 = nI 168 := by decide
theorem sp_217 : (Int16.ofInt (217)).toInt32 = nI 217 := by decide
theorem sp_255 : (Int16.ofInt (255)).toInt32 = nI 255 := by decide
theorem sp_1023 : (Int16.ofInt (1023)).toInt32 = nI 1023 := by decide
theorem sp_9999 : (Int16.ofInt (9999)).toInt32 = nI 9999 := by decide
theorem sp_12345 : (Int16.ofInt (12345)).toInt32 = nI 12345 := by decide
theorem ii_1 (x : Int32) : x + Int32.ofInt (1) = x + (1) := rfl
theorem ii_m1 (x : Int32) : x + Int32.ofInt (-1) = x + (-1) := rfl
theorem ii_7 (x : Int32) : x + Int32.ofInt (7) = x + (7) := rfl
end
