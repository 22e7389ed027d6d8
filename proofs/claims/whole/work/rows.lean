section
-- ===== PART A: goes FIRST, ahead of the names: the tables' words, and 'selects' of the private methods out of them =====
/-- a private method of a class that the tables say can be made, by its rows of tables_1 -/
def lw_okq (q : MethodName × Nat) : Prop := (q.1.cls ≠ "java/lang/invoke/MethodHandle" ∧ q.1.cls ≠ "java/lang/invoke/VarHandle") ∧ Cond.instantiable q.1.cls q.2 ∈ tables_1 ∧ Cond.privateMethod q.1 ∈ tables_1 ∧ Cond.instanceMethod q.1 ∈ tables_1
theorem lw_p0 : lw_okq (⟨"ThreeHeirs$Reader", "skipBlanks", "()V"⟩, 5) := ⟨⟨by decide +kernel, by decide +kernel⟩, List.mem_of_getElem? (i := 38) (by decide +kernel), List.mem_of_getElem? (i := 300) (by decide +kernel), List.mem_of_getElem? (i := 301) (by decide +kernel)⟩
theorem lw_p1 : lw_okq (⟨"ThreeHeirs$Reader", "readClause", "()V"⟩, 5) := ⟨⟨by decide +kernel, by decide +kernel⟩, List.mem_of_getElem? (i := 38) (by decide +kernel), List.mem_of_getElem? (i := 308) (by decide +kernel), List.mem_of_getElem? (i := 309) (by decide +kernel)⟩
theorem lw_p2 : lw_okq (⟨"ThreeHeirs$Reader", "accuse", "(II)V"⟩, 5) := ⟨⟨by decide +kernel, by decide +kernel⟩, List.mem_of_getElem? (i := 38) (by decide +kernel), List.mem_of_getElem? (i := 315) (by decide +kernel), List.mem_of_getElem? (i := 316) (by decide +kernel)⟩
theorem lw_p3 : lw_okq (⟨"ThreeHeirs$Reader", "readDay", "()V"⟩, 5) := ⟨⟨by decide +kernel, by decide +kernel⟩, List.mem_of_getElem? (i := 38) (by decide +kernel), List.mem_of_getElem? (i := 323) (by decide +kernel), List.mem_of_getElem? (i := 324) (by decide +kernel)⟩
theorem lw_p4 : lw_okq (⟨"ThreeHeirs$Reader", "readNumber", "(II)I"⟩, 5) := ⟨⟨by decide +kernel, by decide +kernel⟩, List.mem_of_getElem? (i := 38) (by decide +kernel), List.mem_of_getElem? (i := 327) (by decide +kernel), List.mem_of_getElem? (i := 328) (by decide +kernel)⟩
theorem lw_p5 : lw_okq (⟨"ThreeHeirs$Reader", "readSeasons", "()V"⟩, 5) := ⟨⟨by decide +kernel, by decide +kernel⟩, List.mem_of_getElem? (i := 38) (by decide +kernel), List.mem_of_getElem? (i := 341) (by decide +kernel), List.mem_of_getElem? (i := 342) (by decide +kernel)⟩
theorem lw_p6 : lw_okq (⟨"ThreeHeirs$Reader", "readThing", "()V"⟩, 5) := ⟨⟨by decide +kernel, by decide +kernel⟩, List.mem_of_getElem? (i := 38) (by decide +kernel), List.mem_of_getElem? (i := 349) (by decide +kernel), List.mem_of_getElem? (i := 350) (by decide +kernel)⟩
theorem lw_p7 : lw_okq (⟨"ThreeHeirs$Reader", "readLand", "()V"⟩, 5) := ⟨⟨by decide +kernel, by decide +kernel⟩, List.mem_of_getElem? (i := 38) (by decide +kernel), List.mem_of_getElem? (i := 357) (by decide +kernel), List.mem_of_getElem? (i := 358) (by decide +kernel)⟩
theorem lw_p8 : lw_okq (⟨"ThreeHeirs$Reader", "readWant", "()V"⟩, 5) := ⟨⟨by decide +kernel, by decide +kernel⟩, List.mem_of_getElem? (i := 38) (by decide +kernel), List.mem_of_getElem? (i := 365) (by decide +kernel), List.mem_of_getElem? (i := 366) (by decide +kernel)⟩
theorem lw_p9 : lw_okq (⟨"ThreeHeirs$Reader", "readEnd", "()V"⟩, 5) := ⟨⟨by decide +kernel, by decide +kernel⟩, List.mem_of_getElem? (i := 38) (by decide +kernel), List.mem_of_getElem? (i := 373) (by decide +kernel), List.mem_of_getElem? (i := 374) (by decide +kernel)⟩
theorem lw_p10 : lw_okq (⟨"ThreeHeirs", "startAnew", "()V"⟩, 12) := ⟨⟨by decide +kernel, by decide +kernel⟩, List.mem_of_getElem? (i := 14) (by decide +kernel), List.mem_of_getElem? (i := 381) (by decide +kernel), List.mem_of_getElem? (i := 382) (by decide +kernel)⟩
theorem lw_p11 : lw_okq (⟨"ThreeHeirs$County", "seasonOf", "(I)I"⟩, 14) := ⟨⟨by decide +kernel, by decide +kernel⟩, List.mem_of_getElem? (i := 44) (by decide +kernel), List.mem_of_getElem? (i := 409) (by decide +kernel), List.mem_of_getElem? (i := 410) (by decide +kernel)⟩
theorem lw_p12 : lw_okq (⟨"ThreeHeirs$Estate", "isMet", "(LThreeHeirs$County;I)Z"⟩, 8) := ⟨⟨by decide +kernel, by decide +kernel⟩, List.mem_of_getElem? (i := 133) (by decide +kernel), List.mem_of_getElem? (i := 427) (by decide +kernel), List.mem_of_getElem? (i := 428) (by decide +kernel)⟩
theorem lw_p13 : lw_okq (⟨"ThreeHeirs", "isThing", "(I)Z"⟩, 12) := ⟨⟨by decide +kernel, by decide +kernel⟩, List.mem_of_getElem? (i := 14) (by decide +kernel), List.mem_of_getElem? (i := 469) (by decide +kernel), List.mem_of_getElem? (i := 470) (by decide +kernel)⟩
theorem lw_p14 : lw_okq (⟨"ThreeHeirs", "refusalOfHours", "(I)I"⟩, 12) := ⟨⟨by decide +kernel, by decide +kernel⟩, List.mem_of_getElem? (i := 14) (by decide +kernel), List.mem_of_getElem? (i := 490) (by decide +kernel), List.mem_of_getElem? (i := 491) (by decide +kernel)⟩
theorem lw_p15 : lw_okq (⟨"ThreeHeirs$Estate", "unmetWants", "(LThreeHeirs$County;I)I"⟩, 8) := ⟨⟨by decide +kernel, by decide +kernel⟩, List.mem_of_getElem? (i := 133) (by decide +kernel), List.mem_of_getElem? (i := 513) (by decide +kernel), List.mem_of_getElem? (i := 514) (by decide +kernel)⟩
def lw_privs_1 : List (MethodName × Nat) := [(⟨"ThreeHeirs$Reader", "skipBlanks", "()V"⟩, 5), (⟨"ThreeHeirs$Reader", "readClause", "()V"⟩, 5), (⟨"ThreeHeirs$Reader", "accuse", "(II)V"⟩, 5), (⟨"ThreeHeirs$Reader", "readDay", "()V"⟩, 5), (⟨"ThreeHeirs$Reader", "readNumber", "(II)I"⟩, 5), (⟨"ThreeHeirs$Reader", "readSeasons", "()V"⟩, 5), (⟨"ThreeHeirs$Reader", "readThing", "()V"⟩, 5), (⟨"ThreeHeirs$Reader", "readLand", "()V"⟩, 5), (⟨"ThreeHeirs$Reader", "readWant", "()V"⟩, 5), (⟨"ThreeHeirs$Reader", "readEnd", "()V"⟩, 5), (⟨"ThreeHeirs", "startAnew", "()V"⟩, 12), (⟨"ThreeHeirs$County", "seasonOf", "(I)I"⟩, 14), (⟨"ThreeHeirs$Estate", "isMet", "(LThreeHeirs$County;I)Z"⟩, 8), (⟨"ThreeHeirs", "isThing", "(I)Z"⟩, 12), (⟨"ThreeHeirs", "refusalOfHours", "(I)I"⟩, 12), (⟨"ThreeHeirs$Estate", "unmetWants", "(LThreeHeirs$County;I)I"⟩, 8)]
theorem lw_r1 : ∀ q ∈ lw_privs_1, lw_okq q := List.forall_mem_cons.mpr ⟨lw_p0, List.forall_mem_cons.mpr ⟨lw_p1, List.forall_mem_cons.mpr ⟨lw_p2, List.forall_mem_cons.mpr ⟨lw_p3, List.forall_mem_cons.mpr ⟨lw_p4, List.forall_mem_cons.mpr ⟨lw_p5, List.forall_mem_cons.mpr ⟨lw_p6, List.forall_mem_cons.mpr ⟨lw_p7, List.forall_mem_cons.mpr ⟨lw_p8, List.forall_mem_cons.mpr ⟨lw_p9, List.forall_mem_cons.mpr ⟨lw_p10, List.forall_mem_cons.mpr ⟨lw_p11, List.forall_mem_cons.mpr ⟨lw_p12, List.forall_mem_cons.mpr ⟨lw_p13, List.forall_mem_cons.mpr ⟨lw_p14, List.forall_mem_cons.mpr ⟨lw_p15, fun _ h => absurd h List.not_mem_nil⟩⟩⟩⟩⟩⟩⟩⟩⟩⟩⟩⟩⟩⟩⟩⟩
theorem lw_p16 : lw_okq (⟨"ThreeHeirs", "meetChance", "()V"⟩, 12) := ⟨⟨by decide +kernel, by decide +kernel⟩, List.mem_of_getElem? (i := 14) (by decide +kernel), List.mem_of_getElem? (i := 543) (by decide +kernel), List.mem_of_getElem? (i := 544) (by decide +kernel)⟩
theorem lw_p17 : lw_okq (⟨"ThreeHeirs", "draw", "(I)I"⟩, 12) := ⟨⟨by decide +kernel, by decide +kernel⟩, List.mem_of_getElem? (i := 14) (by decide +kernel), List.mem_of_getElem? (i := 547) (by decide +kernel), List.mem_of_getElem? (i := 548) (by decide +kernel)⟩
theorem lw_p18 : lw_okq (⟨"ThreeHeirs", "startFor", "(IIII)I"⟩, 12) := ⟨⟨by decide +kernel, by decide +kernel⟩, List.mem_of_getElem? (i := 14) (by decide +kernel), List.mem_of_getElem? (i := 594) (by decide +kernel), List.mem_of_getElem? (i := 595) (by decide +kernel)⟩
theorem lw_p19 : lw_okq (⟨"ThreeHeirs$County", "voices", "(II)I"⟩, 14) := ⟨⟨by decide +kernel, by decide +kernel⟩, List.mem_of_getElem? (i := 44) (by decide +kernel), List.mem_of_getElem? (i := 610) (by decide +kernel), List.mem_of_getElem? (i := 611) (by decide +kernel)⟩
theorem lw_p20 : lw_okq (⟨"ThreeHeirs$Finds", "fit", "(LThreeHeirs$Estate;II)Z"⟩, 5) := ⟨⟨by decide +kernel, by decide +kernel⟩, List.mem_of_getElem? (i := 194) (by decide +kernel), List.mem_of_getElem? (i := 673) (by decide +kernel), List.mem_of_getElem? (i := 674) (by decide +kernel)⟩
theorem lw_p21 : lw_okq (⟨"ThreeHeirsModel", "readsCounty", "()Z"⟩, 43) := ⟨⟨by decide +kernel, by decide +kernel⟩, List.mem_of_getElem? (i := 730) (by decide +kernel), List.mem_of_getElem? (i := 880) (by decide +kernel), List.mem_of_getElem? (i := 881) (by decide +kernel)⟩
theorem lw_p22 : lw_okq (⟨"ThreeHeirsModel", "nextLetter", "()I"⟩, 43) := ⟨⟨by decide +kernel, by decide +kernel⟩, List.mem_of_getElem? (i := 730) (by decide +kernel), List.mem_of_getElem? (i := 884) (by decide +kernel), List.mem_of_getElem? (i := 885) (by decide +kernel)⟩
theorem lw_p23 : lw_okq (⟨"ThreeHeirsModel", "letterAt", "(I)I"⟩, 43) := ⟨⟨by decide +kernel, by decide +kernel⟩, List.mem_of_getElem? (i := 730) (by decide +kernel), List.mem_of_getElem? (i := 888) (by decide +kernel), List.mem_of_getElem? (i := 889) (by decide +kernel)⟩
theorem lw_p24 : lw_okq (⟨"ThreeHeirsModel", "readsClause", "()Z"⟩, 43) := ⟨⟨by decide +kernel, by decide +kernel⟩, List.mem_of_getElem? (i := 730) (by decide +kernel), List.mem_of_getElem? (i := 892) (by decide +kernel), List.mem_of_getElem? (i := 893) (by decide +kernel)⟩
theorem lw_p25 : lw_okq (⟨"ThreeHeirsModel", "readsHead", "()Z"⟩, 43) := ⟨⟨by decide +kernel, by decide +kernel⟩, List.mem_of_getElem? (i := 730) (by decide +kernel), List.mem_of_getElem? (i := 896) (by decide +kernel), List.mem_of_getElem? (i := 897) (by decide +kernel)⟩
theorem lw_p26 : lw_okq (⟨"ThreeHeirsModel", "readsNumber", "(II)I"⟩, 43) := ⟨⟨by decide +kernel, by decide +kernel⟩, List.mem_of_getElem? (i := 730) (by decide +kernel), List.mem_of_getElem? (i := 900) (by decide +kernel), List.mem_of_getElem? (i := 901) (by decide +kernel)⟩
theorem lw_p27 : lw_okq (⟨"ThreeHeirsModel", "fails", "(II)I"⟩, 43) := ⟨⟨by decide +kernel, by decide +kernel⟩, List.mem_of_getElem? (i := 730) (by decide +kernel), List.mem_of_getElem? (i := 904) (by decide +kernel), List.mem_of_getElem? (i := 905) (by decide +kernel)⟩
theorem lw_p28 : lw_okq (⟨"ThreeHeirsModel", "readsSign", "(I)Z"⟩, 43) := ⟨⟨by decide +kernel, by decide +kernel⟩, List.mem_of_getElem? (i := 730) (by decide +kernel), List.mem_of_getElem? (i := 908) (by decide +kernel), List.mem_of_getElem? (i := 909) (by decide +kernel)⟩
theorem lw_p29 : lw_okq (⟨"ThreeHeirsModel", "isAgain", "(I)Z"⟩, 43) := ⟨⟨by decide +kernel, by decide +kernel⟩, List.mem_of_getElem? (i := 730) (by decide +kernel), List.mem_of_getElem? (i := 912) (by decide +kernel), List.mem_of_getElem? (i := 913) (by decide +kernel)⟩
theorem lw_p30 : lw_okq (⟨"ThreeHeirsModel", "readsSeasons", "()Z"⟩, 43) := ⟨⟨by decide +kernel, by decide +kernel⟩, List.mem_of_getElem? (i := 730) (by decide +kernel), List.mem_of_getElem? (i := 916) (by decide +kernel), List.mem_of_getElem? (i := 917) (by decide +kernel)⟩
theorem lw_p31 : lw_okq (⟨"ThreeHeirsModel", "readsThing", "()Z"⟩, 43) := ⟨⟨by decide +kernel, by decide +kernel⟩, List.mem_of_getElem? (i := 730) (by decide +kernel), List.mem_of_getElem? (i := 920) (by decide +kernel), List.mem_of_getElem? (i := 921) (by decide +kernel)⟩
def lw_privs_2 : List (MethodName × Nat) := [(⟨"ThreeHeirs", "meetChance", "()V"⟩, 12), (⟨"ThreeHeirs", "draw", "(I)I"⟩, 12), (⟨"ThreeHeirs", "startFor", "(IIII)I"⟩, 12), (⟨"ThreeHeirs$County", "voices", "(II)I"⟩, 14), (⟨"ThreeHeirs$Finds", "fit", "(LThreeHeirs$Estate;II)Z"⟩, 5), (⟨"ThreeHeirsModel", "readsCounty", "()Z"⟩, 43), (⟨"ThreeHeirsModel", "nextLetter", "()I"⟩, 43), (⟨"ThreeHeirsModel", "letterAt", "(I)I"⟩, 43), (⟨"ThreeHeirsModel", "readsClause", "()Z"⟩, 43), (⟨"ThreeHeirsModel", "readsHead", "()Z"⟩, 43), (⟨"ThreeHeirsModel", "readsNumber", "(II)I"⟩, 43), (⟨"ThreeHeirsModel", "fails", "(II)I"⟩, 43), (⟨"ThreeHeirsModel", "readsSign", "(I)Z"⟩, 43), (⟨"ThreeHeirsModel", "isAgain", "(I)Z"⟩, 43), (⟨"ThreeHeirsModel", "readsSeasons", "()Z"⟩, 43), (⟨"ThreeHeirsModel", "readsThing", "()Z"⟩, 43)]
theorem lw_r2 : ∀ q ∈ lw_privs_2, lw_okq q := List.forall_mem_cons.mpr ⟨lw_p16, List.forall_mem_cons.mpr ⟨lw_p17, List.forall_mem_cons.mpr ⟨lw_p18, List.forall_mem_cons.mpr ⟨lw_p19, List.forall_mem_cons.mpr ⟨lw_p20, List.forall_mem_cons.mpr ⟨lw_p21, List.forall_mem_cons.mpr ⟨lw_p22, List.forall_mem_cons.mpr ⟨lw_p23, List.forall_mem_cons.mpr ⟨lw_p24, List.forall_mem_cons.mpr ⟨lw_p25, List.forall_mem_cons.mpr ⟨lw_p26, List.forall_mem_cons.mpr ⟨lw_p27, List.forall_mem_cons.mpr ⟨lw_p28, List.forall_mem_cons.mpr ⟨lw_p29, List.forall_mem_cons.mpr ⟨lw_p30, List.forall_mem_cons.mpr ⟨lw_p31, fun _ h => absurd h List.not_mem_nil⟩⟩⟩⟩⟩⟩⟩⟩⟩⟩⟩⟩⟩⟩⟩⟩
theorem lw_p32 : lw_okq (⟨"ThreeHeirsModel", "readsLand", "()Z"⟩, 43) := ⟨⟨by decide +kernel, by decide +kernel⟩, List.mem_of_getElem? (i := 730) (by decide +kernel), List.mem_of_getElem? (i := 924) (by decide +kernel), List.mem_of_getElem? (i := 925) (by decide +kernel)⟩
theorem lw_p33 : lw_okq (⟨"ThreeHeirsModel", "readsWant", "()Z"⟩, 43) := ⟨⟨by decide +kernel, by decide +kernel⟩, List.mem_of_getElem? (i := 730) (by decide +kernel), List.mem_of_getElem? (i := 928) (by decide +kernel), List.mem_of_getElem? (i := 929) (by decide +kernel)⟩
theorem lw_p34 : lw_okq (⟨"ThreeHeirsModel", "isCounty", "()Z"⟩, 43) := ⟨⟨by decide +kernel, by decide +kernel⟩, List.mem_of_getElem? (i := 730) (by decide +kernel), List.mem_of_getElem? (i := 940) (by decide +kernel), List.mem_of_getElem? (i := 941) (by decide +kernel)⟩
theorem lw_p35 : lw_okq (⟨"ThreeHeirsModel", "heirOf", "([I)I"⟩, 43) := ⟨⟨by decide +kernel, by decide +kernel⟩, List.mem_of_getElem? (i := 730) (by decide +kernel), List.mem_of_getElem? (i := 944) (by decide +kernel), List.mem_of_getElem? (i := 945) (by decide +kernel)⟩
theorem lw_p36 : lw_okq (⟨"ThreeHeirsModel", "almanac", "(I)I"⟩, 43) := ⟨⟨by decide +kernel, by decide +kernel⟩, List.mem_of_getElem? (i := 730) (by decide +kernel), List.mem_of_getElem? (i := 948) (by decide +kernel), List.mem_of_getElem? (i := 949) (by decide +kernel)⟩
theorem lw_p37 : lw_okq (⟨"ThreeHeirsModel", "holds", "(II)I"⟩, 43) := ⟨⟨by decide +kernel, by decide +kernel⟩, List.mem_of_getElem? (i := 730) (by decide +kernel), List.mem_of_getElem? (i := 952) (by decide +kernel), List.mem_of_getElem? (i := 953) (by decide +kernel)⟩
theorem lw_p38 : lw_okq (⟨"ThreeHeirsModel", "lightFrom", "(I)I"⟩, 43) := ⟨⟨by decide +kernel, by decide +kernel⟩, List.mem_of_getElem? (i := 730) (by decide +kernel), List.mem_of_getElem? (i := 956) (by decide +kernel), List.mem_of_getElem? (i := 957) (by decide +kernel)⟩
theorem lw_p39 : lw_okq (⟨"ThreeHeirsModel", "seasonOf", "(I)I"⟩, 43) := ⟨⟨by decide +kernel, by decide +kernel⟩, List.mem_of_getElem? (i := 730) (by decide +kernel), List.mem_of_getElem? (i := 960) (by decide +kernel), List.mem_of_getElem? (i := 961) (by decide +kernel)⟩
theorem lw_p40 : lw_okq (⟨"ThreeHeirsModel", "lightTo", "(I)I"⟩, 43) := ⟨⟨by decide +kernel, by decide +kernel⟩, List.mem_of_getElem? (i := 730) (by decide +kernel), List.mem_of_getElem? (i := 967) (by decide +kernel), List.mem_of_getElem? (i := 968) (by decide +kernel)⟩
theorem lw_p41 : lw_okq (⟨"ThreeHeirsModel", "met", "()I"⟩, 43) := ⟨⟨by decide +kernel, by decide +kernel⟩, List.mem_of_getElem? (i := 730) (by decide +kernel), List.mem_of_getElem? (i := 971) (by decide +kernel), List.mem_of_getElem? (i := 972) (by decide +kernel)⟩
theorem lw_p42 : lw_okq (⟨"ThreeHeirsModel", "isMet", "([II)Z"⟩, 43) := ⟨⟨by decide +kernel, by decide +kernel⟩, List.mem_of_getElem? (i := 730) (by decide +kernel), List.mem_of_getElem? (i := 975) (by decide +kernel), List.mem_of_getElem? (i := 976) (by decide +kernel)⟩
theorem lw_p43 : lw_okq (⟨"ThreeHeirsModel", "notes", "()I"⟩, 43) := ⟨⟨by decide +kernel, by decide +kernel⟩, List.mem_of_getElem? (i := 730) (by decide +kernel), List.mem_of_getElem? (i := 979) (by decide +kernel), List.mem_of_getElem? (i := 980) (by decide +kernel)⟩
theorem lw_p44 : lw_okq (⟨"ThreeHeirsModel", "wrongAbout", "(I)I"⟩, 43) := ⟨⟨by decide +kernel, by decide +kernel⟩, List.mem_of_getElem? (i := 730) (by decide +kernel), List.mem_of_getElem? (i := 983) (by decide +kernel), List.mem_of_getElem? (i := 984) (by decide +kernel)⟩
theorem lw_p45 : lw_okq (⟨"ThreeHeirsModel", "envy", "()I"⟩, 43) := ⟨⟨by decide +kernel, by decide +kernel⟩, List.mem_of_getElem? (i := 730) (by decide +kernel), List.mem_of_getElem? (i := 990) (by decide +kernel), List.mem_of_getElem? (i := 991) (by decide +kernel)⟩
theorem lw_p46 : lw_okq (⟨"ThreeHeirsModel", "wantsOf", "(I)I"⟩, 43) := ⟨⟨by decide +kernel, by decide +kernel⟩, List.mem_of_getElem? (i := 730) (by decide +kernel), List.mem_of_getElem? (i := 1002) (by decide +kernel), List.mem_of_getElem? (i := 1003) (by decide +kernel)⟩
theorem lw_p47 : lw_okq (⟨"ThreeHeirsModel", "isThing", "(I)Z"⟩, 43) := ⟨⟨by decide +kernel, by decide +kernel⟩, List.mem_of_getElem? (i := 730) (by decide +kernel), List.mem_of_getElem? (i := 1010) (by decide +kernel), List.mem_of_getElem? (i := 1011) (by decide +kernel)⟩
def lw_privs_3 : List (MethodName × Nat) := [(⟨"ThreeHeirsModel", "readsLand", "()Z"⟩, 43), (⟨"ThreeHeirsModel", "readsWant", "()Z"⟩, 43), (⟨"ThreeHeirsModel", "isCounty", "()Z"⟩, 43), (⟨"ThreeHeirsModel", "heirOf", "([I)I"⟩, 43), (⟨"ThreeHeirsModel", "almanac", "(I)I"⟩, 43), (⟨"ThreeHeirsModel", "holds", "(II)I"⟩, 43), (⟨"ThreeHeirsModel", "lightFrom", "(I)I"⟩, 43), (⟨"ThreeHeirsModel", "seasonOf", "(I)I"⟩, 43), (⟨"ThreeHeirsModel", "lightTo", "(I)I"⟩, 43), (⟨"ThreeHeirsModel", "met", "()I"⟩, 43), (⟨"ThreeHeirsModel", "isMet", "([II)Z"⟩, 43), (⟨"ThreeHeirsModel", "notes", "()I"⟩, 43), (⟨"ThreeHeirsModel", "wrongAbout", "(I)I"⟩, 43), (⟨"ThreeHeirsModel", "envy", "()I"⟩, 43), (⟨"ThreeHeirsModel", "wantsOf", "(I)I"⟩, 43), (⟨"ThreeHeirsModel", "isThing", "(I)Z"⟩, 43)]
theorem lw_r3 : ∀ q ∈ lw_privs_3, lw_okq q := List.forall_mem_cons.mpr ⟨lw_p32, List.forall_mem_cons.mpr ⟨lw_p33, List.forall_mem_cons.mpr ⟨lw_p34, List.forall_mem_cons.mpr ⟨lw_p35, List.forall_mem_cons.mpr ⟨lw_p36, List.forall_mem_cons.mpr ⟨lw_p37, List.forall_mem_cons.mpr ⟨lw_p38, List.forall_mem_cons.mpr ⟨lw_p39, List.forall_mem_cons.mpr ⟨lw_p40, List.forall_mem_cons.mpr ⟨lw_p41, List.forall_mem_cons.mpr ⟨lw_p42, List.forall_mem_cons.mpr ⟨lw_p43, List.forall_mem_cons.mpr ⟨lw_p44, List.forall_mem_cons.mpr ⟨lw_p45, List.forall_mem_cons.mpr ⟨lw_p46, List.forall_mem_cons.mpr ⟨lw_p47, fun _ h => absurd h List.not_mem_nil⟩⟩⟩⟩⟩⟩⟩⟩⟩⟩⟩⟩⟩⟩⟩⟩
theorem lw_p48 : lw_okq (⟨"ThreeHeirsModel", "needHours", "(I)I"⟩, 43) := ⟨⟨by decide +kernel, by decide +kernel⟩, List.mem_of_getElem? (i := 730) (by decide +kernel), List.mem_of_getElem? (i := 1030) (by decide +kernel), List.mem_of_getElem? (i := 1031) (by decide +kernel)⟩
theorem lw_p49 : lw_okq (⟨"ThreeHeirsModel", "remember", "()V"⟩, 43) := ⟨⟨by decide +kernel, by decide +kernel⟩, List.mem_of_getElem? (i := 730) (by decide +kernel), List.mem_of_getElem? (i := 1036) (by decide +kernel), List.mem_of_getElem? (i := 1037) (by decide +kernel)⟩
theorem lw_p50 : lw_okq (⟨"ThreeHeirsModel", "passes", "([I)V"⟩, 43) := ⟨⟨by decide +kernel, by decide +kernel⟩, List.mem_of_getElem? (i := 730) (by decide +kernel), List.mem_of_getElem? (i := 1040) (by decide +kernel), List.mem_of_getElem? (i := 1041) (by decide +kernel)⟩
theorem lw_p51 : lw_okq (⟨"ThreeHeirsModel", "comes", "(IIII)I"⟩, 43) := ⟨⟨by decide +kernel, by decide +kernel⟩, List.mem_of_getElem? (i := 730) (by decide +kernel), List.mem_of_getElem? (i := 1048) (by decide +kernel), List.mem_of_getElem? (i := 1049) (by decide +kernel)⟩
theorem lw_p52 : lw_okq (⟨"ThreeHeirsModel", "sets", "(II)V"⟩, 43) := ⟨⟨by decide +kernel, by decide +kernel⟩, List.mem_of_getElem? (i := 730) (by decide +kernel), List.mem_of_getElem? (i := 1059) (by decide +kernel), List.mem_of_getElem? (i := 1060) (by decide +kernel)⟩
theorem lw_p53 : lw_okq (⟨"ThreeHeirsModel", "draw", "(I)I"⟩, 43) := ⟨⟨by decide +kernel, by decide +kernel⟩, List.mem_of_getElem? (i := 730) (by decide +kernel), List.mem_of_getElem? (i := 1075) (by decide +kernel), List.mem_of_getElem? (i := 1076) (by decide +kernel)⟩
theorem lw_p54 : lw_okq (⟨"ThreeHeirsModel", "heirIn", "(I)I"⟩, 43) := ⟨⟨by decide +kernel, by decide +kernel⟩, List.mem_of_getElem? (i := 730) (by decide +kernel), List.mem_of_getElem? (i := 1091) (by decide +kernel), List.mem_of_getElem? (i := 1092) (by decide +kernel)⟩
theorem lw_p55 : lw_okq (⟨"ThreeHeirsModel", "comesTo", "(IIII)I"⟩, 43) := ⟨⟨by decide +kernel, by decide +kernel⟩, List.mem_of_getElem? (i := 730) (by decide +kernel), List.mem_of_getElem? (i := 1103) (by decide +kernel), List.mem_of_getElem? (i := 1104) (by decide +kernel)⟩
theorem lw_p56 : lw_okq (⟨"ThreeHeirsModel", "leastFor", "(IIII)I"⟩, 43) := ⟨⟨by decide +kernel, by decide +kernel⟩, List.mem_of_getElem? (i := 730) (by decide +kernel), List.mem_of_getElem? (i := 1115) (by decide +kernel), List.mem_of_getElem? (i := 1116) (by decide +kernel)⟩
theorem lw_p57 : lw_okq (⟨"ThreeHeirsModel", "mostWanted", "(I)I"⟩, 43) := ⟨⟨by decide +kernel, by decide +kernel⟩, List.mem_of_getElem? (i := 730) (by decide +kernel), List.mem_of_getElem? (i := 1123) (by decide +kernel), List.mem_of_getElem? (i := 1124) (by decide +kernel)⟩
theorem lw_p58 : lw_okq (⟨"ThreeHeirsModel", "wanted", "(II)I"⟩, 43) := ⟨⟨by decide +kernel, by decide +kernel⟩, List.mem_of_getElem? (i := 730) (by decide +kernel), List.mem_of_getElem? (i := 1127) (by decide +kernel), List.mem_of_getElem? (i := 1128) (by decide +kernel)⟩
theorem lw_p59 : lw_okq (⟨"ThreeHeirsModel", "needWhat", "(I)I"⟩, 43) := ⟨⟨by decide +kernel, by decide +kernel⟩, List.mem_of_getElem? (i := 730) (by decide +kernel), List.mem_of_getElem? (i := 1143) (by decide +kernel), List.mem_of_getElem? (i := 1144) (by decide +kernel)⟩
theorem lw_p60 : lw_okq (⟨"ThreeHeirsModel", "isFit", "(I)Z"⟩, 43) := ⟨⟨by decide +kernel, by decide +kernel⟩, List.mem_of_getElem? (i := 730) (by decide +kernel), List.mem_of_getElem? (i := 1169) (by decide +kernel), List.mem_of_getElem? (i := 1170) (by decide +kernel)⟩
theorem lw_p61 : lw_okq (⟨"ThreeHeirsModel", "valueBy", "(II)I"⟩, 43) := ⟨⟨by decide +kernel, by decide +kernel⟩, List.mem_of_getElem? (i := 730) (by decide +kernel), List.mem_of_getElem? (i := 1173) (by decide +kernel), List.mem_of_getElem? (i := 1174) (by decide +kernel)⟩
theorem lw_p62 : lw_okq (⟨"ThreeHeirsModel", "alike", "(I)I"⟩, 43) := ⟨⟨by decide +kernel, by decide +kernel⟩, List.mem_of_getElem? (i := 730) (by decide +kernel), List.mem_of_getElem? (i := 1182) (by decide +kernel), List.mem_of_getElem? (i := 1183) (by decide +kernel)⟩
def lw_privs_4 : List (MethodName × Nat) := [(⟨"ThreeHeirsModel", "needHours", "(I)I"⟩, 43), (⟨"ThreeHeirsModel", "remember", "()V"⟩, 43), (⟨"ThreeHeirsModel", "passes", "([I)V"⟩, 43), (⟨"ThreeHeirsModel", "comes", "(IIII)I"⟩, 43), (⟨"ThreeHeirsModel", "sets", "(II)V"⟩, 43), (⟨"ThreeHeirsModel", "draw", "(I)I"⟩, 43), (⟨"ThreeHeirsModel", "heirIn", "(I)I"⟩, 43), (⟨"ThreeHeirsModel", "comesTo", "(IIII)I"⟩, 43), (⟨"ThreeHeirsModel", "leastFor", "(IIII)I"⟩, 43), (⟨"ThreeHeirsModel", "mostWanted", "(I)I"⟩, 43), (⟨"ThreeHeirsModel", "wanted", "(II)I"⟩, 43), (⟨"ThreeHeirsModel", "needWhat", "(I)I"⟩, 43), (⟨"ThreeHeirsModel", "isFit", "(I)Z"⟩, 43), (⟨"ThreeHeirsModel", "valueBy", "(II)I"⟩, 43), (⟨"ThreeHeirsModel", "alike", "(I)I"⟩, 43)]
theorem lw_r4 : ∀ q ∈ lw_privs_4, lw_okq q := List.forall_mem_cons.mpr ⟨lw_p48, List.forall_mem_cons.mpr ⟨lw_p49, List.forall_mem_cons.mpr ⟨lw_p50, List.forall_mem_cons.mpr ⟨lw_p51, List.forall_mem_cons.mpr ⟨lw_p52, List.forall_mem_cons.mpr ⟨lw_p53, List.forall_mem_cons.mpr ⟨lw_p54, List.forall_mem_cons.mpr ⟨lw_p55, List.forall_mem_cons.mpr ⟨lw_p56, List.forall_mem_cons.mpr ⟨lw_p57, List.forall_mem_cons.mpr ⟨lw_p58, List.forall_mem_cons.mpr ⟨lw_p59, List.forall_mem_cons.mpr ⟨lw_p60, List.forall_mem_cons.mpr ⟨lw_p61, List.forall_mem_cons.mpr ⟨lw_p62, fun _ h => absurd h List.not_mem_nil⟩⟩⟩⟩⟩⟩⟩⟩⟩⟩⟩⟩⟩⟩⟩
def lw_privs : List (MethodName × Nat) := lw_privs_1 ++ (lw_privs_2 ++ (lw_privs_3 ++ (lw_privs_4)))
def lw_tbl : List Cond := k2_sels lw_privs ++ tables_1
theorem lw_privs_ok : ∀ q ∈ lw_privs, lw_okq q := by
  show ∀ q ∈ lw_privs_1 ++ (lw_privs_2 ++ (lw_privs_3 ++ (lw_privs_4))), lw_okq q
  exact List.forall_mem_append.mpr ⟨lw_r1, List.forall_mem_append.mpr ⟨lw_r2, List.forall_mem_append.mpr ⟨lw_r3, lw_r4⟩⟩⟩
end
section
/-! ===== BEGIN words of one list among another's, by their places ===== -/
theorem goodIn_r {big : List Cond} (ws : List Cond) (ps : List Nat) (hp : ws = ps.filterMap (fun i => big[i]?)) (h : ws.all goodWord = true) : GoodIn big ws := by
  intro w hw
  have h1 := List.all_eq_true.mp h w hw
  rw [hp] at hw
  obtain ⟨i, -, hi⟩ := List.mem_filterMap.mp hw
  have hm : w ∈ big := by first | exact List.mem_of_getElem? hi | exact List.getElem?_mem hi
  exact ⟨hm, good_of_word h1⟩
theorem goodIn_app {big a b : List Cond} (ha : GoodIn big a) (hb : GoodIn big b) : GoodIn big (a ++ b) := fun w h => (List.mem_append.mp h).elim (ha w) (hb w)
theorem goodIn_ca {big a b : List Cond} {c : Cond} (ha : GoodIn big (c :: a)) (hb : GoodIn big b) : GoodIn big (c :: (a ++ b)) := fun w h => (List.mem_cons.mp h).elim (fun e => ha w (List.mem_cons.mpr (Or.inl e))) (fun h => (List.mem_append.mp h).elim (fun h => ha w (List.mem_cons.mpr (Or.inr h))) (hb w))
theorem goodIn_sub {big ws : List Cond} (hm : ∀ w ∈ ws, w ∈ big) (h : ws.all goodWord = true) : GoodIn big ws := fun w hw => ⟨hm w hw, good_of_word (List.all_eq_true.mp h w hw)⟩
/-! ===== END ===== -/

/-! ===== BEGIN printed: names, fields, word lists, decode rows ===== -/
def RX0 : String := "ThreeHeirs$Book"
def TX0 : u_T := fun k => match k with
  | 0 => ("ThreeHeirs$Book", "things", "[I", true)
  | 1 => ("ThreeHeirs$Book", "values", "[I", true)
  | _ => ("ThreeHeirs$Book", "count", "I", false)
def tyX0 : Nat → FieldType := fun k => match k with
  | 0 => .array .int
  | 1 => .array .int
  | _ => .int
abbrev wsX00 : List Cond := u_ws RX0 TX0 3
theorem nmX0 : ∀ a, a < 3 → ∀ b, b < 3 → a ≠ b → (TX0 a).2.1 ≠ (TX0 b).2.1 := by decide +kernel
theorem tyX0_ok : ∀ k, k < 3 → parseFieldDescriptor (TX0 k).2.2.1 = some (tyX0 k) := by decide +kernel
abbrev cX0_init : ByteArray := prog_2_method_1_code
def yX0_init : MethodName := ⟨RX0, "<init>", "()V"⟩
abbrev cX0_add : ByteArray := prog_2_method_2_code
def yX0_add : MethodName := ⟨RX0, "add", "(II)V"⟩
abbrev cX0_firstWrong : ByteArray := prog_2_method_3_code
def yX0_firstWrong : MethodName := ⟨RX0, "firstWrong", "(LThreeHeirs$Estate;)I"⟩
def RX1 : String := "ThreeHeirs$County"
def TX1 : u_T := fun k => match k with
  | 0 => ("ThreeHeirs$County", "exists", "Z", false)
  | 1 => ("ThreeHeirs$County", "sunrise", "I", false)
  | 2 => ("ThreeHeirs$County", "dark", "I", false)
  | 3 => ("ThreeHeirs$County", "rent", "I", false)
  | 4 => ("ThreeHeirs$County", "seasonCount", "I", false)
  | 5 => ("ThreeHeirs$County", "thingCount", "I", false)
  | 6 => ("ThreeHeirs$County", "landCount", "I", false)
  | 7 => ("ThreeHeirs$County", "wantCount", "I", false)
  | 8 => ("ThreeHeirs$County", "seasons", "[I", true)
  | 9 => ("ThreeHeirs$County", "kinds", "[I", true)
  | 10 => ("ThreeHeirs$County", "firstValues", "[I", true)
  | 11 => ("ThreeHeirs$County", "wantHeirs", "[I", true)
  | 12 => ("ThreeHeirs$County", "wantThings", "[I", true)
  | _ => ("ThreeHeirs$County", "wantValues", "[I", true)
def tyX1 : Nat → FieldType := fun k => match k with
  | 0 => .boolean
  | 1 => .int
  | 2 => .int
  | 3 => .int
  | 4 => .int
  | 5 => .int
  | 6 => .int
  | 7 => .int
  | 8 => .array .int
  | 9 => .array .int
  | 10 => .array .int
  | 11 => .array .int
  | 12 => .array .int
  | _ => .array .int
abbrev wsX10 : List Cond := u_ws RX1 TX1 14
theorem nmX1 : ∀ a, a < 14 → ∀ b, b < 14 → a ≠ b → (TX1 a).2.1 ≠ (TX1 b).2.1 := by decide +kernel
theorem tyX1_ok : ∀ k, k < 14 → parseFieldDescriptor (TX1 k).2.2.1 = some (tyX1 k) := by decide +kernel
abbrev cX1_init : ByteArray := prog_3_method_1_code
def yX1_init : MethodName := ⟨RX1, "<init>", "()V"⟩
abbrev cX1_empty : ByteArray := prog_3_method_2_code
def yX1_empty : MethodName := ⟨RX1, "empty", "()V"⟩
abbrev cX1_hasRoomFor : ByteArray := prog_3_method_3_code
def yX1_hasRoomFor : MethodName := ⟨RX1, "hasRoomFor", "(I)Z"⟩
abbrev cX1_addDay : ByteArray := prog_3_method_4_code
def yX1_addDay : MethodName := ⟨RX1, "addDay", "(II)V"⟩
abbrev cX1_addSeason : ByteArray := prog_3_method_5_code
def yX1_addSeason : MethodName := ⟨RX1, "addSeason", "(I)V"⟩
abbrev cX1_addThing : ByteArray := prog_3_method_6_code
def yX1_addThing : MethodName := ⟨RX1, "addThing", "(II)V"⟩
abbrev cX1_addLand : ByteArray := prog_3_method_7_code
def yX1_addLand : MethodName := ⟨RX1, "addLand", "(I)V"⟩
abbrev cX1_addWant : ByteArray := prog_3_method_8_code
def yX1_addWant : MethodName := ⟨RX1, "addWant", "(III)V"⟩
abbrev cX1_seasonOf : ByteArray := prog_3_method_9_code
def yX1_seasonOf : MethodName := ⟨RX1, "seasonOf", "(I)I"⟩
abbrev cX1_lightFrom : ByteArray := prog_3_method_10_code
def yX1_lightFrom : MethodName := ⟨RX1, "lightFrom", "(I)I"⟩
abbrev cX1_lightTo : ByteArray := prog_3_method_11_code
def yX1_lightTo : MethodName := ⟨RX1, "lightTo", "(I)I"⟩
abbrev cX1_darkHours : ByteArray := prog_3_method_12_code
def yX1_darkHours : MethodName := ⟨RX1, "darkHours", "(I)I"⟩
abbrev cX1_darkPoorest : ByteArray := prog_3_method_13_code
def yX1_darkPoorest : MethodName := ⟨RX1, "darkPoorest", "()I"⟩
abbrev cX1_holderByLight : ByteArray := prog_3_method_14_code
def yX1_holderByLight : MethodName := ⟨RX1, "holderByLight", "(I)I"⟩
abbrev cX1_behindHour : ByteArray := prog_3_method_15_code
def yX1_behindHour : MethodName := ⟨RX1, "behindHour", "(IIII)I"⟩
abbrev cX1_valueAfter : ByteArray := prog_3_method_16_code
def yX1_valueAfter : MethodName := ⟨RX1, "valueAfter", "(IIIII)I"⟩
abbrev cX1_wantsOf : ByteArray := prog_3_method_17_code
def yX1_wantsOf : MethodName := ⟨RX1, "wantsOf", "(I)I"⟩
abbrev cX1_voices : ByteArray := prog_3_method_18_code
def yX1_voices : MethodName := ⟨RX1, "voices", "(II)I"⟩
abbrev cX1_favourite : ByteArray := prog_3_method_19_code
def yX1_favourite : MethodName := ⟨RX1, "favourite", "(I)I"⟩
abbrev cX1_mostMet : ByteArray := prog_3_method_20_code
def yX1_mostMet : MethodName := ⟨RX1, "mostMet", "()I"⟩
abbrev cX1_areUnlike : ByteArray := prog_3_method_21_code
def yX1_areUnlike : MethodName := ⟨RX1, "areUnlike", "(II)Z"⟩
def RX2 : String := "ThreeHeirs$Estate"
def TX2 : u_T := fun k => match k with
  | 0 => ("ThreeHeirs$Estate", "hours", "I", false)
  | 1 => ("ThreeHeirs$Estate", "eclipseHours", "I", false)
  | 2 => ("ThreeHeirs$Estate", "logCount", "I", false)
  | 3 => ("ThreeHeirs$Estate", "purses", "[I", true)
  | 4 => ("ThreeHeirs$Estate", "angers", "[I", true)
  | 5 => ("ThreeHeirs$Estate", "values", "[I", true)
  | 6 => ("ThreeHeirs$Estate", "knownValues", "[I", true)
  | _ => ("ThreeHeirs$Estate", "log", "[I", true)
def tyX2 : Nat → FieldType := fun k => match k with
  | 0 => .int
  | 1 => .int
  | 2 => .int
  | 3 => .array .int
  | 4 => .array .int
  | 5 => .array .int
  | 6 => .array .int
  | _ => .array .int
abbrev wsX20 : List Cond := u_ws RX2 TX2 8
theorem nmX2 : ∀ a, a < 8 → ∀ b, b < 8 → a ≠ b → (TX2 a).2.1 ≠ (TX2 b).2.1 := by decide +kernel
theorem tyX2_ok : ∀ k, k < 8 → parseFieldDescriptor (TX2 k).2.2.1 = some (tyX2 k) := by decide +kernel
abbrev cX2_init : ByteArray := prog_4_method_1_code
def yX2_init : MethodName := ⟨RX2, "<init>", "()V"⟩
abbrev cX2_begin : ByteArray := prog_4_method_2_code
def yX2_begin : MethodName := ⟨RX2, "begin", "(LThreeHeirs$County;)V"⟩
abbrev cX2_copyOf : ByteArray := prog_4_method_3_code
def yX2_copyOf : MethodName := ⟨RX2, "copyOf", "(LThreeHeirs$Estate;)V"⟩
abbrev cX2_eclipseEnd : ByteArray := prog_4_method_4_code
def yX2_eclipseEnd : MethodName := ⟨RX2, "eclipseEnd", "()I"⟩
abbrev cX2_holderIn : ByteArray := prog_4_method_5_code
def yX2_holderIn : MethodName := ⟨RX2, "holderIn", "(LThreeHeirs$County;I)I"⟩
abbrev cX2_passHour : ByteArray := prog_4_method_6_code
def yX2_passHour : MethodName := ⟨RX2, "passHour", "(LThreeHeirs$County;)V"⟩
abbrev cX2_setThing : ByteArray := prog_4_method_7_code
def yX2_setThing : MethodName := ⟨RX2, "setThing", "(LThreeHeirs$County;II)V"⟩
abbrev cX2_isMet : ByteArray := prog_4_method_8_code
def yX2_isMet : MethodName := ⟨RX2, "isMet", "(LThreeHeirs$County;I)Z"⟩
abbrev cX2_unmetWants : ByteArray := prog_4_method_9_code
def yX2_unmetWants : MethodName := ⟨RX2, "unmetWants", "(LThreeHeirs$County;I)I"⟩
abbrev cX2_metWants : ByteArray := prog_4_method_10_code
def yX2_metWants : MethodName := ⟨RX2, "metWants", "(LThreeHeirs$County;)I"⟩
abbrev cX2_wrongAbout : ByteArray := prog_4_method_11_code
def yX2_wrongAbout : MethodName := ⟨RX2, "wrongAbout", "(LThreeHeirs$County;I)I"⟩
abbrev cX2_notesNeeded : ByteArray := prog_4_method_12_code
def yX2_notesNeeded : MethodName := ⟨RX2, "notesNeeded", "(LThreeHeirs$County;)I"⟩
abbrev cX2_envy : ByteArray := prog_4_method_13_code
def yX2_envy : MethodName := ⟨RX2, "envy", "()I"⟩
def RX3 : String := "ThreeHeirs$Finds"
def TX3 : u_T := fun k => match k with
  | 0 => ("ThreeHeirs$Finds", "things", "[I", true)
  | 1 => ("ThreeHeirs$Finds", "values", "[I", true)
  | 2 => ("ThreeHeirs$Finds", "are", "[Z", true)
  | 3 => ("ThreeHeirs$Finds", "parts", "[I", true)
  | _ => ("ThreeHeirs$Finds", "count", "I", false)
def tyX3 : Nat → FieldType := fun k => match k with
  | 0 => .array .int
  | 1 => .array .int
  | 2 => .array .boolean
  | 3 => .array .int
  | _ => .int
abbrev wsX30 : List Cond := u_ws RX3 TX3 5
theorem nmX3 : ∀ a, a < 5 → ∀ b, b < 5 → a ≠ b → (TX3 a).2.1 ≠ (TX3 b).2.1 := by decide +kernel
theorem tyX3_ok : ∀ k, k < 5 → parseFieldDescriptor (TX3 k).2.2.1 = some (tyX3 k) := by decide +kernel
abbrev cX3_init : ByteArray := prog_5_method_1_code
def yX3_init : MethodName := ⟨RX3, "<init>", "()V"⟩
abbrev cX3_add : ByteArray := prog_5_method_2_code
def yX3_add : MethodName := ⟨RX3, "add", "(IIZ)V"⟩
abbrev cX3_seen : ByteArray := prog_5_method_3_code
def yX3_seen : MethodName := ⟨RX3, "seen", "(LThreeHeirs$Estate;III)I"⟩
abbrev cX3_fit : ByteArray := prog_5_method_4_code
def yX3_fit : MethodName := ⟨RX3, "fit", "(LThreeHeirs$Estate;II)Z"⟩
abbrev cX3_fitCount : ByteArray := prog_5_method_5_code
def yX3_fitCount : MethodName := ⟨RX3, "fitCount", "(LThreeHeirs$County;LThreeHeirs$Estate;)I"⟩
abbrev cX3_leastFit : ByteArray := prog_5_method_6_code
def yX3_leastFit : MethodName := ⟨RX3, "leastFit", "(LThreeHeirs$County;LThreeHeirs$Estate;)I"⟩
abbrev cX3_greatestPart : ByteArray := prog_5_method_7_code
def yX3_greatestPart : MethodName := ⟨RX3, "greatestPart", "(LThreeHeirs$County;LThreeHeirs$Estate;I)I"⟩
def RX4 : String := "ThreeHeirs$Past"
def TX4 : u_T := fun k => match k with
  | 0 => ("ThreeHeirs$Past", "ahead", "[LThreeHeirs$Estate;", true)
  | 1 => ("ThreeHeirs$Past", "first", "I", false)
  | _ => ("ThreeHeirs$Past", "count", "I", false)
def tyX4 : Nat → FieldType := fun k => match k with
  | 0 => .array (.object "ThreeHeirs$Estate")
  | 1 => .int
  | _ => .int
abbrev wsX40 : List Cond := u_ws RX4 TX4 3
theorem nmX4 : ∀ a, a < 3 → ∀ b, b < 3 → a ≠ b → (TX4 a).2.1 ≠ (TX4 b).2.1 := by decide +kernel
theorem tyX4_ok : ∀ k, k < 3 → parseFieldDescriptor (TX4 k).2.2.1 = some (tyX4 k) := by decide +kernel
abbrev cX4_init : ByteArray := prog_6_method_1_code
def yX4_init : MethodName := ⟨RX4, "<init>", "()V"⟩
abbrev cX4_forget : ByteArray := prog_6_method_2_code
def yX4_forget : MethodName := ⟨RX4, "forget", "()V"⟩
abbrev cX4_remember : ByteArray := prog_6_method_3_code
def yX4_remember : MethodName := ⟨RX4, "remember", "(LThreeHeirs$Estate;)V"⟩
abbrev cX4_bringBack : ByteArray := prog_6_method_4_code
def yX4_bringBack : MethodName := ⟨RX4, "bringBack", "(ILThreeHeirs$Estate;)V"⟩
def RX5 : String := "ThreeHeirs$Reader"
def TX5 : u_T := fun k => match k with
  | 0 => ("ThreeHeirs$Reader", "script", "LThreeHeirs$Script;", true)
  | 1 => ("ThreeHeirs$Reader", "draft", "LThreeHeirs$County;", false)
  | 2 => ("ThreeHeirs$Reader", "at", "I", false)
  | 3 => ("ThreeHeirs$Reader", "blame", "I", false)
  | _ => ("ThreeHeirs$Reader", "place", "I", false)
def tyX5 : Nat → FieldType := fun k => match k with
  | 0 => .object "ThreeHeirs$Script"
  | 1 => .object "ThreeHeirs$County"
  | 2 => .int
  | 3 => .int
  | _ => .int
abbrev wsX50 : List Cond := u_ws RX5 TX5 5
theorem nmX5 : ∀ a, a < 5 → ∀ b, b < 5 → a ≠ b → (TX5 a).2.1 ≠ (TX5 b).2.1 := by decide +kernel
theorem tyX5_ok : ∀ k, k < 5 → parseFieldDescriptor (TX5 k).2.2.1 = some (tyX5 k) := by decide +kernel
abbrev cX5_init : ByteArray := prog_7_method_1_code
def yX5_init : MethodName := ⟨RX5, "<init>", "(LThreeHeirs$Script;)V"⟩
abbrev cX5_exchange : ByteArray := prog_7_method_2_code
def yX5_exchange : MethodName := ⟨RX5, "exchange", "(LThreeHeirs$County;)LThreeHeirs$County;"⟩
abbrev cX5_readAll : ByteArray := prog_7_method_3_code
def yX5_readAll : MethodName := ⟨RX5, "readAll", "()Z"⟩
abbrev cX5_accuse : ByteArray := prog_7_method_4_code
def yX5_accuse : MethodName := ⟨RX5, "accuse", "(II)V"⟩
abbrev cX5_skipBlanks : ByteArray := prog_7_method_5_code
def yX5_skipBlanks : MethodName := ⟨RX5, "skipBlanks", "()V"⟩
abbrev cX5_isWord : ByteArray := prog_7_method_6_code
def yX5_isWord : MethodName := ⟨RX5, "isWord", "(I)Z"⟩
abbrev cX5_isFigure : ByteArray := prog_7_method_7_code
def yX5_isFigure : MethodName := ⟨RX5, "isFigure", "(I)Z"⟩
abbrev cX5_readClause : ByteArray := prog_7_method_8_code
def yX5_readClause : MethodName := ⟨RX5, "readClause", "()V"⟩
abbrev cX5_readDay : ByteArray := prog_7_method_9_code
def yX5_readDay : MethodName := ⟨RX5, "readDay", "()V"⟩
abbrev cX5_readSeasons : ByteArray := prog_7_method_10_code
def yX5_readSeasons : MethodName := ⟨RX5, "readSeasons", "()V"⟩
abbrev cX5_readThing : ByteArray := prog_7_method_11_code
def yX5_readThing : MethodName := ⟨RX5, "readThing", "()V"⟩
abbrev cX5_readLand : ByteArray := prog_7_method_12_code
def yX5_readLand : MethodName := ⟨RX5, "readLand", "()V"⟩
abbrev cX5_readWant : ByteArray := prog_7_method_13_code
def yX5_readWant : MethodName := ⟨RX5, "readWant", "()V"⟩
abbrev cX5_readEnd : ByteArray := prog_7_method_14_code
def yX5_readEnd : MethodName := ⟨RX5, "readEnd", "()V"⟩
abbrev cX5_readNumber : ByteArray := prog_7_method_15_code
def yX5_readNumber : MethodName := ⟨RX5, "readNumber", "(II)I"⟩
def RX6 : String := "ThreeHeirs$Script"
def TX6 : u_T := fun k => match k with
  | 0 => ("ThreeHeirs$Script", "letters", "[I", true)
  | _ => ("ThreeHeirs$Script", "length", "I", false)
def tyX6 : Nat → FieldType := fun k => match k with
  | 0 => .array .int
  | _ => .int
abbrev wsX60 : List Cond := u_ws RX6 TX6 2
theorem nmX6 : ∀ a, a < 2 → ∀ b, b < 2 → a ≠ b → (TX6 a).2.1 ≠ (TX6 b).2.1 := by decide +kernel
theorem tyX6_ok : ∀ k, k < 2 → parseFieldDescriptor (TX6 k).2.2.1 = some (tyX6 k) := by decide +kernel
abbrev cX6_init : ByteArray := prog_8_method_1_code
def yX6_init : MethodName := ⟨RX6, "<init>", "()V"⟩
abbrev cX6_add : ByteArray := prog_8_method_2_code
def yX6_add : MethodName := ⟨RX6, "add", "(I)V"⟩
abbrev cX6_letterAt : ByteArray := prog_8_method_3_code
def yX6_letterAt : MethodName := ⟨RX6, "letterAt", "(I)I"⟩
def RX7 : String := "ThreeHeirs"
def TX7 : u_T := fun k => match k with
  | 0 => ("ThreeHeirs", "script", "LThreeHeirs$Script;", true)
  | 1 => ("ThreeHeirs", "reader", "LThreeHeirs$Reader;", true)
  | 2 => ("ThreeHeirs", "now", "LThreeHeirs$Estate;", true)
  | 3 => ("ThreeHeirs", "past", "LThreeHeirs$Past;", true)
  | 4 => ("ThreeHeirs", "finds", "LThreeHeirs$Finds;", true)
  | 5 => ("ThreeHeirs", "book", "LThreeHeirs$Book;", true)
  | 6 => ("ThreeHeirs", "images", "[LThreeHeirs$Estate;", true)
  | 7 => ("ThreeHeirs", "imageSeeds", "[I", true)
  | 8 => ("ThreeHeirs", "imageKept", "[Z", true)
  | 9 => ("ThreeHeirs", "land", "LThreeHeirs$County;", false)
  | 10 => ("ThreeHeirs", "faultAt", "I", false)
  | _ => ("ThreeHeirs", "lot", "I", false)
def tyX7 : Nat → FieldType := fun k => match k with
  | 0 => .object "ThreeHeirs$Script"
  | 1 => .object "ThreeHeirs$Reader"
  | 2 => .object "ThreeHeirs$Estate"
  | 3 => .object "ThreeHeirs$Past"
  | 4 => .object "ThreeHeirs$Finds"
  | 5 => .object "ThreeHeirs$Book"
  | 6 => .array (.object "ThreeHeirs$Estate")
  | 7 => .array .int
  | 8 => .array .boolean
  | 9 => .object "ThreeHeirs$County"
  | 10 => .int
  | _ => .int
abbrev wsX70 : List Cond := u_ws RX7 TX7 12
theorem nmX7 : ∀ a, a < 12 → ∀ b, b < 12 → a ≠ b → (TX7 a).2.1 ≠ (TX7 b).2.1 := by decide +kernel
theorem tyX7_ok : ∀ k, k < 12 → parseFieldDescriptor (TX7 k).2.2.1 = some (tyX7 k) := by decide +kernel
abbrev cX7_init : ByteArray := prog_1_method_1_code
def yX7_init : MethodName := ⟨RX7, "<init>", "()V"⟩
abbrev cX7_feed : ByteArray := prog_1_method_2_code
def yX7_feed : MethodName := ⟨RX7, "feed", "(I)I"⟩
abbrev cX7_county : ByteArray := prog_1_method_3_code
def yX7_county : MethodName := ⟨RX7, "county", "()I"⟩
abbrev cX7_startAnew : ByteArray := prog_1_method_4_code
def yX7_startAnew : MethodName := ⟨RX7, "startAnew", "()V"⟩
abbrev cX7_fault : ByteArray := prog_1_method_5_code
def yX7_fault : MethodName := ⟨RX7, "fault", "()I"⟩
abbrev cX7_told : ByteArray := prog_1_method_6_code
def yX7_told : MethodName := ⟨RX7, "told", "(I)I"⟩
abbrev cX7_heir : ByteArray := prog_1_method_7_code
def yX7_heir : MethodName := ⟨RX7, "heir", "(II)I"⟩
abbrev cX7_thing : ByteArray := prog_1_method_8_code
def yX7_thing : MethodName := ⟨RX7, "thing", "(II)I"⟩
abbrev cX7_want : ByteArray := prog_1_method_9_code
def yX7_want : MethodName := ⟨RX7, "want", "(II)I"⟩
abbrev cX7_known : ByteArray := prog_1_method_10_code
def yX7_known : MethodName := ⟨RX7, "known", "(II)I"⟩
abbrev cX7_logged : ByteArray := prog_1_method_11_code
def yX7_logged : MethodName := ⟨RX7, "logged", "(II)I"⟩
abbrev cX7_hour : ByteArray := prog_1_method_12_code
def yX7_hour : MethodName := ⟨RX7, "hour", "(I)I"⟩
abbrev cX7_put : ByteArray := prog_1_method_13_code
def yX7_put : MethodName := ⟨RX7, "put", "(II)I"⟩
abbrev cX7_note : ByteArray := prog_1_method_14_code
def yX7_note : MethodName := ⟨RX7, "note", "(II)I"⟩
abbrev cX7_eclipse : ByteArray := prog_1_method_15_code
def yX7_eclipse : MethodName := ⟨RX7, "eclipse", "(I)I"⟩
abbrev cX7_drift : ByteArray := prog_1_method_16_code
def yX7_drift : MethodName := ⟨RX7, "drift", "(I)I"⟩
abbrev cX7_undo : ByteArray := prog_1_method_17_code
def yX7_undo : MethodName := ⟨RX7, "undo", "(I)I"⟩
abbrev cX7_refusalOfHours : ByteArray := prog_1_method_18_code
def yX7_refusalOfHours : MethodName := ⟨RX7, "refusalOfHours", "(I)I"⟩
abbrev cX7_meetChance : ByteArray := prog_1_method_19_code
def yX7_meetChance : MethodName := ⟨RX7, "meetChance", "()V"⟩
abbrev cX7_draw : ByteArray := prog_1_method_20_code
def yX7_draw : MethodName := ⟨RX7, "draw", "(I)I"⟩
abbrev cX7_whose : ByteArray := prog_1_method_21_code
def yX7_whose : MethodName := ⟨RX7, "whose", "(I)I"⟩
abbrev cX7_gets : ByteArray := prog_1_method_22_code
def yX7_gets : MethodName := ⟨RX7, "gets", "(II)I"⟩
abbrev cX7_willBe : ByteArray := prog_1_method_23_code
def yX7_willBe : MethodName := ⟨RX7, "willBe", "(II)I"⟩
abbrev cX7_next : ByteArray := prog_1_method_24_code
def yX7_next : MethodName := ⟨RX7, "next", "(I)I"⟩
abbrev cX7_keepSo : ByteArray := prog_1_method_25_code
def yX7_keepSo : MethodName := ⟨RX7, "keepSo", "(IIIII)I"⟩
abbrev cX7_startFor : ByteArray := prog_1_method_26_code
def yX7_startFor : MethodName := ⟨RX7, "startFor", "(IIII)I"⟩
abbrev cX7_agreed : ByteArray := prog_1_method_27_code
def yX7_agreed : MethodName := ⟨RX7, "agreed", "(I)I"⟩
abbrev cX7_against : ByteArray := prog_1_method_28_code
def yX7_against : MethodName := ⟨RX7, "against", "(II)I"⟩
abbrev cX7_movers : ByteArray := prog_1_method_29_code
def yX7_movers : MethodName := ⟨RX7, "movers", "(III)I"⟩
abbrev cX7_poorest : ByteArray := prog_1_method_30_code
def yX7_poorest : MethodName := ⟨RX7, "poorest", "(I)I"⟩
abbrev cX7_light : ByteArray := prog_1_method_31_code
def yX7_light : MethodName := ⟨RX7, "light", "(I)I"⟩
abbrev cX7_child : ByteArray := prog_1_method_32_code
def yX7_child : MethodName := ⟨RX7, "child", "(II)I"⟩
abbrev cX7_clear : ByteArray := prog_1_method_33_code
def yX7_clear : MethodName := ⟨RX7, "clear", "(II)I"⟩
abbrev cX7_find : ByteArray := prog_1_method_34_code
def yX7_find : MethodName := ⟨RX7, "find", "(IIZ)I"⟩
abbrev cX7_fits : ByteArray := prog_1_method_35_code
def yX7_fits : MethodName := ⟨RX7, "fits", "(I)I"⟩
abbrev cX7_lookAt : ByteArray := prog_1_method_36_code
def yX7_lookAt : MethodName := ⟨RX7, "lookAt", "()I"⟩
abbrev cX7_write : ByteArray := prog_1_method_37_code
def yX7_write : MethodName := ⟨RX7, "write", "(II)I"⟩
abbrev cX7_judge : ByteArray := prog_1_method_38_code
def yX7_judge : MethodName := ⟨RX7, "judge", "()I"⟩
abbrev cX7_tear : ByteArray := prog_1_method_39_code
def yX7_tear : MethodName := ⟨RX7, "tear", "()I"⟩
abbrev cX7_seed : ByteArray := prog_1_method_40_code
def yX7_seed : MethodName := ⟨RX7, "seed", "(I)I"⟩
abbrev cX7_keep : ByteArray := prog_1_method_41_code
def yX7_keep : MethodName := ⟨RX7, "keep", "(I)I"⟩
abbrev cX7_goBack : ByteArray := prog_1_method_42_code
def yX7_goBack : MethodName := ⟨RX7, "goBack", "(I)I"⟩
abbrev cX7_isWithin : ByteArray := prog_1_method_43_code
def yX7_isWithin : MethodName := ⟨RX7, "isWithin", "(III)Z"⟩
abbrev cX7_isHeir : ByteArray := prog_1_method_44_code
def yX7_isHeir : MethodName := ⟨RX7, "isHeir", "(I)Z"⟩
abbrev cX7_isValue : ByteArray := prog_1_method_45_code
def yX7_isValue : MethodName := ⟨RX7, "isValue", "(I)Z"⟩
abbrev cX7_isImage : ByteArray := prog_1_method_46_code
def yX7_isImage : MethodName := ⟨RX7, "isImage", "(I)Z"⟩
abbrev cX7_isThing : ByteArray := prog_1_method_47_code
def yX7_isThing : MethodName := ⟨RX7, "isThing", "(I)Z"⟩
def RX8 : String := "ThreeHeirsModel"
def TX8 : u_T := fun k => match k with
  | 0 => ("ThreeHeirsModel", "letterMany", "I", false)
  | 1 => ("ThreeHeirsModel", "text", "[I", true)
  | 2 => ("ThreeHeirsModel", "readAt", "I", false)
  | 3 => ("ThreeHeirsModel", "numberAt", "I", false)
  | 4 => ("ThreeHeirsModel", "readFault", "I", false)
  | 5 => ("ThreeHeirsModel", "faultAt", "I", false)
  | 6 => ("ThreeHeirsModel", "readRise", "I", false)
  | 7 => ("ThreeHeirsModel", "readDark", "I", false)
  | 8 => ("ThreeHeirsModel", "readSeasons", "I", false)
  | 9 => ("ThreeHeirsModel", "readThings", "I", false)
  | 10 => ("ThreeHeirsModel", "readRent", "I", false)
  | 11 => ("ThreeHeirsModel", "readLands", "I", false)
  | 12 => ("ThreeHeirsModel", "readWants", "I", false)
  | 13 => ("ThreeHeirsModel", "readSeason", "[I", true)
  | 14 => ("ThreeHeirsModel", "readKind", "[I", true)
  | 15 => ("ThreeHeirsModel", "readValue", "[I", true)
  | 16 => ("ThreeHeirsModel", "readWant", "[I", true)
  | 17 => ("ThreeHeirsModel", "rise", "I", false)
  | 18 => ("ThreeHeirsModel", "dark", "I", false)
  | 19 => ("ThreeHeirsModel", "seasonMany", "I", false)
  | 20 => ("ThreeHeirsModel", "m", "I", false)
  | 21 => ("ThreeHeirsModel", "rent", "I", false)
  | 22 => ("ThreeHeirsModel", "landMany", "I", false)
  | 23 => ("ThreeHeirsModel", "wantMany", "I", false)
  | 24 => ("ThreeHeirsModel", "seasons", "[I", true)
  | 25 => ("ThreeHeirsModel", "kinds", "[I", true)
  | 26 => ("ThreeHeirsModel", "wants", "[I", true)
  | 27 => ("ThreeHeirsModel", "now", "[I", true)
  | 28 => ("ThreeHeirsModel", "undoMany", "I", false)
  | 29 => ("ThreeHeirsModel", "undoAt", "I", false)
  | 30 => ("ThreeHeirsModel", "undos", "[I", true)
  | 31 => ("ThreeHeirsModel", "seeded", "J", false)
  | 32 => ("ThreeHeirsModel", "foundMany", "I", false)
  | 33 => ("ThreeHeirsModel", "foundThing", "[I", true)
  | 34 => ("ThreeHeirsModel", "foundValue", "[I", true)
  | 35 => ("ThreeHeirsModel", "foundIs", "[Z", true)
  | 36 => ("ThreeHeirsModel", "parts", "[I", true)
  | 37 => ("ThreeHeirsModel", "bookMany", "I", false)
  | 38 => ("ThreeHeirsModel", "bookThing", "[I", true)
  | 39 => ("ThreeHeirsModel", "bookValue", "[I", true)
  | 40 => ("ThreeHeirsModel", "isKept", "[Z", true)
  | 41 => ("ThreeHeirsModel", "kept", "[I", true)
  | _ => ("ThreeHeirsModel", "keptSeed", "[J", true)
def tyX8 : Nat → FieldType := fun k => match k with
  | 0 => .int
  | 1 => .array .int
  | 2 => .int
  | 3 => .int
  | 4 => .int
  | 5 => .int
  | 6 => .int
  | 7 => .int
  | 8 => .int
  | 9 => .int
  | 10 => .int
  | 11 => .int
  | 12 => .int
  | 13 => .array .int
  | 14 => .array .int
  | 15 => .array .int
  | 16 => .array .int
  | 17 => .int
  | 18 => .int
  | 19 => .int
  | 20 => .int
  | 21 => .int
  | 22 => .int
  | 23 => .int
  | 24 => .array .int
  | 25 => .array .int
  | 26 => .array .int
  | 27 => .array .int
  | 28 => .int
  | 29 => .int
  | 30 => .array .int
  | 31 => .long
  | 32 => .int
  | 33 => .array .int
  | 34 => .array .int
  | 35 => .array .boolean
  | 36 => .array .int
  | 37 => .int
  | 38 => .array .int
  | 39 => .array .int
  | 40 => .array .boolean
  | 41 => .array .int
  | _ => .array .long
abbrev wsX80 : List Cond := u_ws RX8 TX8 43
theorem nmX8 : ∀ a, a < 43 → ∀ b, b < 43 → a ≠ b → (TX8 a).2.1 ≠ (TX8 b).2.1 := by decide +kernel
theorem tyX8_ok : ∀ k, k < 43 → parseFieldDescriptor (TX8 k).2.2.1 = some (tyX8 k) := by decide +kernel
abbrev cX8_init : ByteArray := prog_10_method_1_code
def yX8_init : MethodName := ⟨RX8, "<init>", "()V"⟩
abbrev cX8_in : ByteArray := prog_10_method_2_code
def yX8_in : MethodName := ⟨RX8, "in", "(III)Z"⟩
abbrev cX8_feed : ByteArray := prog_10_method_3_code
def yX8_feed : MethodName := ⟨RX8, "feed", "(I)I"⟩
abbrev cX8_letterAt : ByteArray := prog_10_method_4_code
def yX8_letterAt : MethodName := ⟨RX8, "letterAt", "(I)I"⟩
abbrev cX8_nextLetter : ByteArray := prog_10_method_5_code
def yX8_nextLetter : MethodName := ⟨RX8, "nextLetter", "()I"⟩
abbrev cX8_fails : ByteArray := prog_10_method_6_code
def yX8_fails : MethodName := ⟨RX8, "fails", "(II)I"⟩
abbrev cX8_readsNumber : ByteArray := prog_10_method_7_code
def yX8_readsNumber : MethodName := ⟨RX8, "readsNumber", "(II)I"⟩
abbrev cX8_readsSign : ByteArray := prog_10_method_8_code
def yX8_readsSign : MethodName := ⟨RX8, "readsSign", "(I)Z"⟩
abbrev cX8_readsHead : ByteArray := prog_10_method_9_code
def yX8_readsHead : MethodName := ⟨RX8, "readsHead", "()Z"⟩
abbrev cX8_readsSeasons : ByteArray := prog_10_method_10_code
def yX8_readsSeasons : MethodName := ⟨RX8, "readsSeasons", "()Z"⟩
abbrev cX8_readsThing : ByteArray := prog_10_method_11_code
def yX8_readsThing : MethodName := ⟨RX8, "readsThing", "()Z"⟩
abbrev cX8_readsLand : ByteArray := prog_10_method_12_code
def yX8_readsLand : MethodName := ⟨RX8, "readsLand", "()Z"⟩
abbrev cX8_readsWant : ByteArray := prog_10_method_13_code
def yX8_readsWant : MethodName := ⟨RX8, "readsWant", "()Z"⟩
abbrev cX8_isAgain : ByteArray := prog_10_method_14_code
def yX8_isAgain : MethodName := ⟨RX8, "isAgain", "(I)Z"⟩
abbrev cX8_readsClause : ByteArray := prog_10_method_15_code
def yX8_readsClause : MethodName := ⟨RX8, "readsClause", "()Z"⟩
abbrev cX8_readsCounty : ByteArray := prog_10_method_16_code
def yX8_readsCounty : MethodName := ⟨RX8, "readsCounty", "()Z"⟩
abbrev cX8_county : ByteArray := prog_10_method_17_code
def yX8_county : MethodName := ⟨RX8, "county", "()I"⟩
abbrev cX8_fault : ByteArray := prog_10_method_18_code
def yX8_fault : MethodName := ⟨RX8, "fault", "()I"⟩
abbrev cX8_isCounty : ByteArray := prog_10_method_19_code
def yX8_isCounty : MethodName := ⟨RX8, "isCounty", "()Z"⟩
abbrev cX8_isHeir : ByteArray := prog_10_method_20_code
def yX8_isHeir : MethodName := ⟨RX8, "isHeir", "(I)Z"⟩
abbrev cX8_isThing : ByteArray := prog_10_method_21_code
def yX8_isThing : MethodName := ⟨RX8, "isThing", "(I)Z"⟩
abbrev cX8_bounded : ByteArray := prog_10_method_22_code
def yX8_bounded : MethodName := ⟨RX8, "bounded", "(III)I"⟩
abbrev cX8_seasonOf : ByteArray := prog_10_method_23_code
def yX8_seasonOf : MethodName := ⟨RX8, "seasonOf", "(I)I"⟩
abbrev cX8_lightFrom : ByteArray := prog_10_method_24_code
def yX8_lightFrom : MethodName := ⟨RX8, "lightFrom", "(I)I"⟩
abbrev cX8_lightTo : ByteArray := prog_10_method_25_code
def yX8_lightTo : MethodName := ⟨RX8, "lightTo", "(I)I"⟩
abbrev cX8_holds : ByteArray := prog_10_method_26_code
def yX8_holds : MethodName := ⟨RX8, "holds", "(II)I"⟩
abbrev cX8_almanac : ByteArray := prog_10_method_27_code
def yX8_almanac : MethodName := ⟨RX8, "almanac", "(I)I"⟩
abbrev cX8_heirOf : ByteArray := prog_10_method_28_code
def yX8_heirOf : MethodName := ⟨RX8, "heirOf", "([I)I"⟩
abbrev cX8_comes : ByteArray := prog_10_method_29_code
def yX8_comes : MethodName := ⟨RX8, "comes", "(IIII)I"⟩
abbrev cX8_isMet : ByteArray := prog_10_method_30_code
def yX8_isMet : MethodName := ⟨RX8, "isMet", "([II)Z"⟩
abbrev cX8_capped : ByteArray := prog_10_method_31_code
def yX8_capped : MethodName := ⟨RX8, "capped", "(I)I"⟩
abbrev cX8_passes : ByteArray := prog_10_method_32_code
def yX8_passes : MethodName := ⟨RX8, "passes", "([I)V"⟩
abbrev cX8_met : ByteArray := prog_10_method_33_code
def yX8_met : MethodName := ⟨RX8, "met", "()I"⟩
abbrev cX8_wrongAbout : ByteArray := prog_10_method_34_code
def yX8_wrongAbout : MethodName := ⟨RX8, "wrongAbout", "(I)I"⟩
abbrev cX8_bits : ByteArray := prog_10_method_35_code
def yX8_bits : MethodName := ⟨RX8, "bits", "(I)I"⟩
abbrev cX8_notes : ByteArray := prog_10_method_36_code
def yX8_notes : MethodName := ⟨RX8, "notes", "()I"⟩
abbrev cX8_envy : ByteArray := prog_10_method_37_code
def yX8_envy : MethodName := ⟨RX8, "envy", "()I"⟩
abbrev cX8_told : ByteArray := prog_10_method_38_code
def yX8_told : MethodName := ⟨RX8, "told", "(I)I"⟩
abbrev cX8_wantsOf : ByteArray := prog_10_method_39_code
def yX8_wantsOf : MethodName := ⟨RX8, "wantsOf", "(I)I"⟩
abbrev cX8_heir : ByteArray := prog_10_method_40_code
def yX8_heir : MethodName := ⟨RX8, "heir", "(II)I"⟩
abbrev cX8_thing : ByteArray := prog_10_method_41_code
def yX8_thing : MethodName := ⟨RX8, "thing", "(II)I"⟩
abbrev cX8_want : ByteArray := prog_10_method_42_code
def yX8_want : MethodName := ⟨RX8, "want", "(II)I"⟩
abbrev cX8_known : ByteArray := prog_10_method_43_code
def yX8_known : MethodName := ⟨RX8, "known", "(II)I"⟩
abbrev cX8_logged : ByteArray := prog_10_method_44_code
def yX8_logged : MethodName := ⟨RX8, "logged", "(II)I"⟩
abbrev cX8_remember : ByteArray := prog_10_method_45_code
def yX8_remember : MethodName := ⟨RX8, "remember", "()V"⟩
abbrev cX8_needHours : ByteArray := prog_10_method_46_code
def yX8_needHours : MethodName := ⟨RX8, "needHours", "(I)I"⟩
abbrev cX8_hour : ByteArray := prog_10_method_47_code
def yX8_hour : MethodName := ⟨RX8, "hour", "(I)I"⟩
abbrev cX8_sets : ByteArray := prog_10_method_48_code
def yX8_sets : MethodName := ⟨RX8, "sets", "(II)V"⟩
abbrev cX8_isValue : ByteArray := prog_10_method_49_code
def yX8_isValue : MethodName := ⟨RX8, "isValue", "(I)Z"⟩
abbrev cX8_put : ByteArray := prog_10_method_50_code
def yX8_put : MethodName := ⟨RX8, "put", "(II)I"⟩
abbrev cX8_note : ByteArray := prog_10_method_51_code
def yX8_note : MethodName := ⟨RX8, "note", "(II)I"⟩
abbrev cX8_eclipse : ByteArray := prog_10_method_52_code
def yX8_eclipse : MethodName := ⟨RX8, "eclipse", "(I)I"⟩
abbrev cX8_draw : ByteArray := prog_10_method_53_code
def yX8_draw : MethodName := ⟨RX8, "draw", "(I)I"⟩
abbrev cX8_drift : ByteArray := prog_10_method_54_code
def yX8_drift : MethodName := ⟨RX8, "drift", "(I)I"⟩
abbrev cX8_undo : ByteArray := prog_10_method_55_code
def yX8_undo : MethodName := ⟨RX8, "undo", "(I)I"⟩
abbrev cX8_heirIn : ByteArray := prog_10_method_56_code
def yX8_heirIn : MethodName := ⟨RX8, "heirIn", "(I)I"⟩
abbrev cX8_whose : ByteArray := prog_10_method_57_code
def yX8_whose : MethodName := ⟨RX8, "whose", "(I)I"⟩
abbrev cX8_gets : ByteArray := prog_10_method_58_code
def yX8_gets : MethodName := ⟨RX8, "gets", "(II)I"⟩
abbrev cX8_comesTo : ByteArray := prog_10_method_59_code
def yX8_comesTo : MethodName := ⟨RX8, "comesTo", "(IIII)I"⟩
abbrev cX8_willBe : ByteArray := prog_10_method_60_code
def yX8_willBe : MethodName := ⟨RX8, "willBe", "(II)I"⟩
abbrev cX8_next : ByteArray := prog_10_method_61_code
def yX8_next : MethodName := ⟨RX8, "next", "(I)I"⟩
abbrev cX8_leastFor : ByteArray := prog_10_method_62_code
def yX8_leastFor : MethodName := ⟨RX8, "leastFor", "(IIII)I"⟩
abbrev cX8_keepSo : ByteArray := prog_10_method_63_code
def yX8_keepSo : MethodName := ⟨RX8, "keepSo", "(IIIII)I"⟩
abbrev cX8_wanted : ByteArray := prog_10_method_64_code
def yX8_wanted : MethodName := ⟨RX8, "wanted", "(II)I"⟩
abbrev cX8_mostWanted : ByteArray := prog_10_method_65_code
def yX8_mostWanted : MethodName := ⟨RX8, "mostWanted", "(I)I"⟩
abbrev cX8_agreed : ByteArray := prog_10_method_66_code
def yX8_agreed : MethodName := ⟨RX8, "agreed", "(I)I"⟩
abbrev cX8_against : ByteArray := prog_10_method_67_code
def yX8_against : MethodName := ⟨RX8, "against", "(II)I"⟩
abbrev cX8_movers : ByteArray := prog_10_method_68_code
def yX8_movers : MethodName := ⟨RX8, "movers", "(III)I"⟩
abbrev cX8_needWhat : ByteArray := prog_10_method_69_code
def yX8_needWhat : MethodName := ⟨RX8, "needWhat", "(I)I"⟩
abbrev cX8_poorest : ByteArray := prog_10_method_70_code
def yX8_poorest : MethodName := ⟨RX8, "poorest", "(I)I"⟩
abbrev cX8_light : ByteArray := prog_10_method_71_code
def yX8_light : MethodName := ⟨RX8, "light", "(I)I"⟩
abbrev cX8_child : ByteArray := prog_10_method_72_code
def yX8_child : MethodName := ⟨RX8, "child", "(II)I"⟩
abbrev cX8_clear : ByteArray := prog_10_method_73_code
def yX8_clear : MethodName := ⟨RX8, "clear", "(II)I"⟩
abbrev cX8_find : ByteArray := prog_10_method_74_code
def yX8_find : MethodName := ⟨RX8, "find", "(IIZ)I"⟩
abbrev cX8_valueBy : ByteArray := prog_10_method_75_code
def yX8_valueBy : MethodName := ⟨RX8, "valueBy", "(II)I"⟩
abbrev cX8_isFit : ByteArray := prog_10_method_76_code
def yX8_isFit : MethodName := ⟨RX8, "isFit", "(I)Z"⟩
abbrev cX8_fits : ByteArray := prog_10_method_77_code
def yX8_fits : MethodName := ⟨RX8, "fits", "(I)I"⟩
abbrev cX8_alike : ByteArray := prog_10_method_78_code
def yX8_alike : MethodName := ⟨RX8, "alike", "(I)I"⟩
abbrev cX8_lookAt : ByteArray := prog_10_method_79_code
def yX8_lookAt : MethodName := ⟨RX8, "lookAt", "()I"⟩
abbrev cX8_write : ByteArray := prog_10_method_80_code
def yX8_write : MethodName := ⟨RX8, "write", "(II)I"⟩
abbrev cX8_judge : ByteArray := prog_10_method_81_code
def yX8_judge : MethodName := ⟨RX8, "judge", "()I"⟩
abbrev cX8_tear : ByteArray := prog_10_method_82_code
def yX8_tear : MethodName := ⟨RX8, "tear", "()I"⟩
abbrev cX8_seed : ByteArray := prog_10_method_83_code
def yX8_seed : MethodName := ⟨RX8, "seed", "(I)I"⟩
abbrev cX8_keep : ByteArray := prog_10_method_84_code
def yX8_keep : MethodName := ⟨RX8, "keep", "(I)I"⟩
abbrev cX8_goBack : ByteArray := prog_10_method_85_code
def yX8_goBack : MethodName := ⟨RX8, "goBack", "(I)I"⟩
def RJ6 : String := "java/lang/Integer"
def TJ6 : u_T := fun k => match k with
  | _ => ("", "", "", false)
def tyJ6 : Nat → FieldType := fun k => match k with
  | _ => .int
abbrev wsJ60 : List Cond := u_ws RJ6 TJ6 0
theorem nmJ6 : ∀ a, a < 0 → ∀ b, b < 0 → a ≠ b → (TJ6 a).2.1 ≠ (TJ6 b).2.1 := by decide +kernel
theorem tyJ6_ok : ∀ k, k < 0 → parseFieldDescriptor (TJ6 k).2.2.1 = some (tyJ6 k) := by decide +kernel
abbrev cJ6_bitCount_0f7a4 : ByteArray := prog_11_method_49_code
def yJ6_bitCount_0f7a4 : MethodName := ⟨RJ6, "bitCount", "(I)I"⟩
def RJ9 : String := "java/lang/Math"
def TJ9 : u_T := fun k => match k with
  | _ => ("", "", "", false)
def tyJ9 : Nat → FieldType := fun k => match k with
  | _ => .int
abbrev wsJ90 : List Cond := u_ws RJ9 TJ9 0
theorem nmJ9 : ∀ a, a < 0 → ∀ b, b < 0 → a ≠ b → (TJ9 a).2.1 ≠ (TJ9 b).2.1 := by decide +kernel
theorem tyJ9_ok : ∀ k, k < 0 → parseFieldDescriptor (TJ9 k).2.2.1 = some (tyJ9 k) := by decide +kernel
abbrev cJ9_max_7cf53 : ByteArray := prog_12_method_65_code
def yJ9_max_7cf53 : MethodName := ⟨RJ9, "max", "(II)I"⟩
abbrev cJ9_min_7cf53 : ByteArray := prog_12_method_69_code
def yJ9_min_7cf53 : MethodName := ⟨RJ9, "min", "(II)I"⟩
def RJ10 : String := "java/lang/System"
def TJ10 : u_T := fun k => match k with
  | _ => ("", "", "", false)
def tyJ10 : Nat → FieldType := fun k => match k with
  | _ => .int
abbrev wsJ100 : List Cond := u_ws RJ10 TJ10 0
theorem nmJ10 : ∀ a, a < 0 → ∀ b, b < 0 → a ≠ b → (TJ10 a).2.1 ≠ (TJ10 b).2.1 := by decide +kernel
theorem tyJ10_ok : ∀ k, k < 0 → parseFieldDescriptor (TJ10 k).2.2.1 = some (tyJ10 k) := by decide +kernel
def RL : String := "ThreeHeirsLaw"
abbrev cL_law : ByteArray := code
def yL_law : MethodName := ⟨RL, "law", "([I)Z"⟩
abbrev vwCl : List vw_C := [(RX0, TX0, 3), (RX1, TX1, 14), (RX2, TX2, 8), (RX3, TX3, 5), (RX4, TX4, 3), (RX5, TX5, 5), (RX6, TX6, 2), (RX7, TX7, 12), (RX8, TX8, 43)]
end
section
/-! 03: a small machine over the kit's: memory by cell and slot, one judgement At, rows -/
def TW : List Cond := lw_tbl.filter goodWord
def isNest : Cond → Bool
  | .fieldLinkNest _ _ _ _ _ _ => true
  | .methodLinkNest _ _ _ _ => true
  | _ => false
def NW : List Cond := lw_tbl.filter isNest
theorem tw {w : Cond} (i : Nat) (h : lw_tbl[i]? = some w) (hg : goodWord w = true) : w ∈ TW := List.mem_filter.mpr ⟨List.mem_of_getElem? h, hg⟩
theorem nw {w : Cond} (i : Nat) (h : lw_tbl[i]? = some w) (hg : isNest w = true) : w ∈ NW := List.mem_filter.mpr ⟨List.mem_of_getElem? h, hg⟩
theorem TW_goodIn {big : List Cond} (hb : ∀ w ∈ TW, w ∈ big) : GoodIn big TW := fun w hw => ⟨hb w hw, good_of_word (List.mem_filter.mp hw).2⟩
theorem TW_code {big : List Cond} {y : MethodName} {b : ByteArray} {n : Nat} {r : Option FieldType} (hb : ∀ w ∈ TW, w ∈ big) (h : Cond.code y b n r ∈ TW) : GoodIn big (Cond.code y b n r :: TW) := fun w hw => by
  rcases List.mem_cons.mp hw with e | h1
  · rw [e]; exact TW_goodIn hb _ h
  · exact TW_goodIn hb _ h1
theorem NW_warm {s U : State} (hW : s.WarmedH U.vm) (h : ∀ w ∈ NW, va_Nw w s) : ∀ w ∈ NW, va_Nw w U := by
  intro w hw
  have hn := (List.mem_filter.mp hw).2
  have h1 := h w hw
  cases w <;> first | exact va_Nw.warmF hW h1 | exact va_Nw.warmM hW h1 | (exfalso; revert hn; simp [isNest])
theorem NW_same {u U : State} (hv : u.vm = U.vm) (h : ∀ w ∈ NW, va_Nw w u) : ∀ w ∈ NW, va_Nw w U := by
  intro w hw
  have hn := (List.mem_filter.mp hw).2
  have h1 := h w hw
  cases w <;> first | exact va_Nw.same rfl hv h1 | (exfalso; revert hn; simp [isNest])
abbrev Gm : Type := Launch × Nat × va_G × (Nat → ClassId)
abbrev Mi : Type := Nat → Nat → Int32
abbrev Ml : Type := Nat → Nat → Int64
/-- how many cells, their kinds and lengths, their references, whether the heap ends with them -/
abbrev Vw : Type := Nat × (Nat → Nat × Nat) × (Nat → Nat → Option Nat) × Bool
abbrev Ym : Type := MethodName × ByteArray × Nat × Option FieldType × Room
abbrev Ps : Type := Option Value → Vw → Mi → Ml → Prop
def rf (g : Gm) (i : Nat) : Value := .ref (g.2.1 + i)
def ov (g : Gm) (r : Option Nat) : Value := va_rf (r.map (fun i => g.2.1 + i))
def u2 {α : Type} (f : Nat → Nat → α) (i j : Nat) (x : α) : Nat → Nat → α := fun a b => if a = i ∧ b = j then x else f a b
theorem u2_s {α : Type} {f : Nat → Nat → α} {i j : Nat} {x : α} : u2 f i j x i j = x := by simp [u2]
theorem u2_ne {α : Type} {f : Nat → Nat → α} {i j a b : Nat} {x : α} (h : ¬ (a = i ∧ b = j)) : u2 f i j x a b = f a b := by simp [u2, h]
theorem u2_row {α : Type} {f : Nat → Nat → α} {i j a : Nat} {x : α} (h : a ≠ i) : u2 f i j x a = f a := by funext b; simp [u2, h]
/-- a whole row is put -/
def ur {α : Type} (f : Nat → Nat → α) (i : Nat) (r : Nat → α) : Nat → Nat → α := fun a b => if a = i then r b else f a b
theorem ur_s {α : Type} {f : Nat → Nat → α} {i : Nat} {r : Nat → α} : ur f i r i = r := by funext b; simp [ur]
theorem ur_ne {α : Type} {f : Nat → Nat → α} {i a : Nat} {r : Nat → α} (h : a ≠ i) : ur f i r a = f a := by funext b; simp [ur, h]
def fN : Nat → Nat
  | 0 => 3 | 1 => 14 | 2 => 8 | 3 => 5 | 4 => 3 | 5 => 5 | 6 => 2 | 7 => 12 | 8 => 43 | _ => 0
def fty : Nat → Nat → FieldType
  | 0 => tyX0 | 1 => tyX1 | 2 => tyX2 | 3 => tyX3 | 4 => tyX4 | 5 => tyX5 | 6 => tyX6 | 7 => tyX7 | 8 => tyX8 | _ => fun _ => .int
def fvl (g : Gm) (ty : FieldType) (x : Int32) (y : Int64) (r : Option Nat) : Value := match ty with
  | .long => .long y
  | .object _ => ov g r
  | .array _ => ov g r
  | _ => .int x
def ce (g : Gm) (V : Vw) (mi : Mi) (ml : Ml) (i : Nat) : va_E :=
  if (V.2.1 i).1 = 9 then .inl (g.2.2.2 0, (V.2.1 i).2, .inl (mi i))
  else if (V.2.1 i).1 = 10 then .inl (g.2.2.2 1, (V.2.1 i).2, .inl (mi i))
  else if (V.2.1 i).1 = 11 then .inl (g.2.2.2 2, (V.2.1 i).2, .inr (.inl (ml i)))
  else if (V.2.1 i).1 = 12 then .inl (g.2.2.2 3, (V.2.1 i).2, .inr (.inr (.inr (.inr (fun j => (V.2.2.1 i j).map (fun a => g.2.1 + a))))))
  else .inr ((V.2.1 i).1, (List.range (fN (V.2.1 i).1)).map (fun j => fvl g (fty (V.2.1 i).1 j) (mi i j) (ml i j) (V.2.2.1 i j)))
theorem ce_i {g : Gm} {V : Vw} {mi : Mi} {ml : Ml} {i N : Nat} (h : V.2.1 i = (9, N)) : ce g V mi ml i = .inl (g.2.2.2 0, N, .inl (mi i)) := by simp [ce, h]
theorem ce_z {g : Gm} {V : Vw} {mi : Mi} {ml : Ml} {i N : Nat} (h : V.2.1 i = (10, N)) : ce g V mi ml i = .inl (g.2.2.2 1, N, .inl (mi i)) := by simp [ce, h]
theorem ce_l {g : Gm} {V : Vw} {mi : Mi} {ml : Ml} {i N : Nat} (h : V.2.1 i = (11, N)) : ce g V mi ml i = .inl (g.2.2.2 2, N, .inr (.inl (ml i))) := by simp [ce, h]
theorem ce_q {g : Gm} {V : Vw} {mi : Mi} {ml : Ml} {i N : Nat} (h : V.2.1 i = (12, N)) : ce g V mi ml i = .inl (g.2.2.2 3, N, .inr (.inr (.inr (.inr (fun j => (V.2.2.1 i j).map (fun a => g.2.1 + a)))))) := by simp [ce, h]
def fsl (g : Gm) (V : Vw) (mi : Mi) (ml : Ml) (i k : Nat) : List Value := (List.range (fN k)).map (fun j => fvl g (fty k j) (mi i j) (ml i j) (V.2.2.1 i j))
theorem ce_o {g : Gm} {V : Vw} {mi : Mi} {ml : Ml} {i k : Nat} (hk : k < 9) (h : V.2.1 i = (k, 0)) : ce g V mi ml i = .inr (k, fsl g V mi ml i k) := by
  have h9 : k ≠ 9 := by omega
  have h10 : k ≠ 10 := by omega
  have h11 : k ≠ 11 := by omega
  have h12 : k ≠ 12 := by omega
  simp [ce, h, h9, h10, h11, h12, fsl]
def wl (g : Gm) (V : Vw) (mi : Mi) (ml : Ml) : va_W := (List.range V.1).map (fun i => (g.2.1 + i, ce g V mi ml i))
theorem wl_get {g : Gm} {V : Vw} {mi : Mi} {ml : Ml} {i : Nat} (h : i < V.1) : (wl g V mi ml)[i]? = some (g.2.1 + i, ce g V mi ml i) := by simp [wl, h]
theorem wl_len {g : Gm} {V : Vw} {mi : Mi} {ml : Ml} : (wl g V mi ml).length = V.1 := by simp [wl]
theorem wl_of {g : Gm} {V : Vw} {mi : Mi} {ml : Ml} {i : Nat} {q : Nat × va_E} (h : (wl g V mi ml)[i]? = some q) : i < V.1 ∧ q = (g.2.1 + i, ce g V mi ml i) := by
  have hl : i < V.1 := by have := (List.getElem?_eq_some_iff.mp h).1; rw [wl_len] at this; exact this
  rw [wl_get hl] at h
  exact ⟨hl, (Option.some.inj h).symm⟩
theorem wl_D {g : Gm} {V : Vw} {mi : Mi} {ml : Ml} : va_D (fun q => g.2.1 ≤ q) (wl g V mi ml) := by
  refine ⟨fun i j p q hi hj he => ?_, fun k q hk => ?_⟩
  · have h1 := (wl_of hi).2
    have h2 := (wl_of hj).2
    rw [h1, h2] at he
    simp only at he
    omega
  · rw [(wl_of hk).2]; exact Nat.le_add_right _ _
theorem wl_set {g : Gm} {V V' : Vw} {mi mi' : Mi} {ml ml' : Ml} {i : Nat} {e : va_E} (hi : i < V.1) (hn : V'.1 = V.1) (he : ce g V' mi' ml' i = e) (ho : ∀ j, j ≠ i → ce g V' mi' ml' j = ce g V mi ml j) : (wl g V mi ml).set i (g.2.1 + i, e) = wl g V' mi' ml' := by
  apply List.ext_getElem?
  intro j
  by_cases hj : j < V.1
  · by_cases hij : i = j
    · subst hij
      rw [List.getElem?_set_self (by rw [wl_len]; exact hj), wl_get (by rw [hn]; exact hj), he]
    · rw [List.getElem?_set_ne hij, wl_get hj, wl_get (by rw [hn]; exact hj), ho j (fun h => hij h.symm)]
  · rw [List.getElem?_eq_none (by rw [List.length_set, wl_len]; omega), List.getElem?_eq_none (by rw [wl_len, hn]; omega)]
def Wd (g : Gm) (V : Vw) (mi : Mi) (ml : Ml) (H : Heap) : Prop := (V.2.2.2 = true → H.size = g.2.1 + V.1) ∧ va_P g.2.2.1 vwCl (wl g V mi ml) H ∧ ∀ i, V.1 ≤ i → (V.2.1 i).1 = 99
theorem Wd.lt {g : Gm} {V : Vw} {mi : Mi} {ml : Ml} {H : Heap} (h : Wd g V mi ml H) {i k N : Nat} (hs : V.2.1 i = (k, N)) (hk : k < 99) : i < V.1 := by
  rcases Nat.lt_or_ge i V.1 with q | q
  · exact q
  · have := h.2.2 i q
    rw [hs] at this
    simp only at this
    omega
theorem Wd.at {g : Gm} {V : Vw} {mi : Mi} {ml : Ml} {H : Heap} (h : Wd g V mi ml H) {i k N : Nat} (hs : V.2.1 i = (k, N)) (hk : k < 99) : (wl g V mi ml)[i]? = some (g.2.1 + i, ce g V mi ml i) := wl_get (h.lt hs hk)
def tyA (g : Gm) : List (ClassId × FieldType) := [(g.2.2.2 0, .int), (g.2.2.2 1, .boolean), (g.2.2.2 2, .long), (g.2.2.2 3, .object "ThreeHeirs$Estate")]
def Kx (g : Gm) (U : State) : Prop := va_K g.2.2.1 vwCl (tyA g) U ∧ (∀ w ∈ NW, va_Nw w U) ∧ va_AO "ThreeHeirs$Estate" U ∧ g.2.1 ≤ U.heap.size
def Cx (g : Gm) (Y : Ym) (p : Program) (s : State) (m : MethodId) (args : Array Value) (meth : Method) (c : Code) : Prop :=
  p.tables.exec = Jvm.exec ∧ c.code = Y.2.1 ∧ meth.sig.returnType = Y.2.2.2.1 ∧ c.maxLocals = Y.2.2.1 ∧ s.vm.findClass Y.1.cls = some m.cls ∧ (∀ w ∈ TW, w.before args s = true) ∧ meth.locks = false ∧ meth.name = Y.1.name ∧ Kx g s
def LH (ls : Array Slot) (n : Nat) (L : List (Option Value)) : Prop := ls.size = n ∧ lv_wf ls ∧ ∀ (i : Nat) (v : Value), L[i]? = some (some v) → ls[i]? = some (.val v)
def lpr (L : List (Option Value)) : List (Nat × Value) := (List.range L.length).filterMap (fun i => (L[i]?.join).map (fun v => (i, v)))
theorem lpr_mem {L : List (Option Value)} {j : Nat} {w : Value} : (j, w) ∈ lpr L ↔ L[j]? = some (some w) := by
  constructor
  · intro h
    obtain ⟨i, -, hi⟩ := List.mem_filterMap.mp h
    cases hL : L[i]? with
    | none => rw [hL] at hi; simp at hi
    | some o =>
      cases o with
      | none => rw [hL] at hi; simp at hi
      | some v =>
        rw [hL] at hi
        simp at hi
        rw [← hi.1, hL, hi.2]
  · intro h
    refine List.mem_filterMap.mpr ⟨j, List.mem_range.mpr (List.getElem?_eq_some_iff.mp h).1, ?_⟩
    rw [h]; rfl
theorem LH.has {ls : Array Slot} {n : Nat} {L : List (Option Value)} (h : LH ls n L) : lv_has ls n (lpr L) := ⟨h.1, h.2.1, fun q hq => h.2.2 q.1 q.2 (lpr_mem.mp hq)⟩
def lc (L : List (Option Value)) : Nat → Bool
  | 0 => true
  | i + 1 => match L[i]? with
    | some (some w) => w.category == 1
    | _ => true
theorem lc_no {L : List (Option Value)} {i j : Nat} {w : Value} (hc : lc L i = true) (hj : L[j]? = some (some w)) (hi : j + 1 = i) : w.category = 1 := by
  subst hi
  simp only [lc, hj, beq_iff_eq] at hc
  exact hc
theorem LH.store1 {ls : Array Slot} {n i : Nat} {L : List (Option Value)} {v : Value} (h1 : lv_has ls n ((i, v) :: (lpr L).filter (fun q => !(q.1 == i) && !(q.1 + 1 == i && q.2.category == 2)))) (hc : lc L i = true) : LH ls n (L.set i (some v)) := by
  refine ⟨h1.1, h1.2.1, fun j w hj => ?_⟩
  by_cases hij : i = j
  · subst hij
    have hl : i < (L.set i (some v)).length := (List.getElem?_eq_some_iff.mp hj).1
    rw [List.getElem?_set_self (by simpa using hl)] at hj
    cases hj
    exact h1.2.2 (i, v) List.mem_cons_self
  · rw [List.getElem?_set_ne hij] at hj
    refine h1.2.2 (j, w) (List.mem_cons_of_mem _ (List.mem_filter.mpr ⟨lpr_mem.mpr hj, ?_⟩))
    have e1 : (j == i) = false := by simpa using fun h => hij h.symm
    simp only [e1, Bool.not_false, Bool.true_and, Bool.not_eq_true']
    by_cases hi : j + 1 = i
    · have := lc_no hc hj hi
      simp [this]
    · simp [hi]
theorem LH.store2 {ls : Array Slot} {n i : Nat} {L : List (Option Value)} {v : Value} (h1 : lv_has ls n ((i, v) :: (lpr L).filter (fun q => !(q.1 == i) && (!(q.1 == i + 1) && !(q.1 + 1 == i && q.2.category == 2))))) (hc : lc L i = true) : LH ls n ((L.set i (some v)).set (i + 1) none) := by
  refine ⟨h1.1, h1.2.1, fun j w hj => ?_⟩
  by_cases hi1 : i + 1 = j
  · subst hi1
    rw [List.getElem?_set] at hj
    simp at hj
  rw [List.getElem?_set_ne hi1] at hj
  by_cases hij : i = j
  · subst hij
    have hl : i < (L.set i (some v)).length := (List.getElem?_eq_some_iff.mp hj).1
    rw [List.getElem?_set_self (by simpa using hl)] at hj
    cases hj
    exact h1.2.2 (i, v) List.mem_cons_self
  · rw [List.getElem?_set_ne hij] at hj
    refine h1.2.2 (j, w) (List.mem_cons_of_mem _ (List.mem_filter.mpr ⟨lpr_mem.mpr hj, ?_⟩))
    have e1 : (j == i) = false := by simpa using fun h => hij h.symm
    have e2 : (j == i + 1) = false := by simpa using fun h => hi1 h.symm
    simp only [e1, e2, Bool.not_false, Bool.true_and, Bool.not_eq_true']
    by_cases hi : j + 1 = i
    · have := lc_no hc hj hi
      simp [this]
    · simp [hi]
abbrev Ex : Type := Array Value → State → Prop
abbrev Qf : Type := List Frame → Array Value → State → State → Prop
/-- at pc, with locals L and stack st, memory mi ml over the layout V: the machine comes to QF -/
def At (g : Gm) (Y : Ym) (E : Ex) (QF : Qf) (V : Vw) (k : Nat × Nat) (pc : Nat) (L : List (Option Value)) (st : List Value) (mi : Mi) (ml : Ml) : Prop :=
  ∀ (p : Program) (e : Env) (s : State) (m : MethodId) (args : Array Value) (below : List Frame) (meth : Method) (c : Code) (H : Heap) (locs : List Loc) (ls : Array Slot),
    Cx g Y p s m args meth c → E args s → Wd g V mi ml H → va_S (fun q => g.2.1 ≤ q) s.heap H locs → LH ls Y.2.2.1 L →
    W p g.1 e Y.2.2.2.2 s m args below meth c H locs k.1 k.2 (QF below args s) (F0 m pc ls st)
def QQ (g : Gm) (Post : Ps) : Array Value → State → Outcome → State → Prop := fun _ st oc t => ∃ (v : Option Value) (V1 : Vw) (m1 : Mi) (l1 : Ml), oc = .returned v ∧ Post v V1 m1 l1 ∧ Wd g V1 m1 l1 t.heap ∧ va_F (fun q => g.2.1 ≤ q) st t
def qm (g : Gm) (Y : Ym) (Post : Ps) : Qf := fun below a s => MQ below (QQ g Post) a s Y.2.2.2.2.cells Y.2.2.2.2.slots (fun q => g.2.1 ≤ q)
def Does (g : Gm) (Y : Ym) (V : Vw) (args : List Value) (mi : Mi) (ml : Ml) (Post : Ps) : Prop :=
  Met g.1 Y.1 (Cond.code Y.1 Y.2.1 Y.2.2.1 Y.2.2.2.1 :: TW) Y.2.2.2.2 (va_Pc args (fun U => Wd g V mi ml U.heap ∧ Kx g U)) (QQ g Post) Y.2.2.2.2.cells Y.2.2.2.2.slots (fun q => g.2.1 ≤ q)
end
section
/-! 04: rows of the small machine: certificates of instructions, then a row for each kind -/
def c_op (Y : Ym) (pc : Nat) (i : Instr) (pc' : Nat) : Prop := decode Y.2.1 pc = .ok (i, 1) ∧ pc' = pc + 1
def c_il (Y : Ym) (pc i pc' : Nat) : Prop := (∃ k : Fin 4, decode Y.2.1 pc = .ok (.iload_n k, 1) ∧ (k : Nat) = i ∧ pc' = pc + 1) ∨ (decode Y.2.1 pc = .ok (.iload i, 2) ∧ pc' = pc + 2)
def c_al (Y : Ym) (pc i pc' : Nat) : Prop := (∃ k : Fin 4, decode Y.2.1 pc = .ok (.aload_n k, 1) ∧ (k : Nat) = i ∧ pc' = pc + 1) ∨ (decode Y.2.1 pc = .ok (.aload i, 2) ∧ pc' = pc + 2)
def c_ll (Y : Ym) (pc i pc' : Nat) : Prop := (∃ k : Fin 4, decode Y.2.1 pc = .ok (.lload_n k, 1) ∧ (k : Nat) = i ∧ pc' = pc + 1) ∨ (decode Y.2.1 pc = .ok (.lload i, 2) ∧ pc' = pc + 2)
def c_is (Y : Ym) (pc i pc' : Nat) : Prop := (∃ k : Fin 4, decode Y.2.1 pc = .ok (.istore_n k, 1) ∧ (k : Nat) = i ∧ pc' = pc + 1) ∨ (decode Y.2.1 pc = .ok (.istore i, 2) ∧ pc' = pc + 2)
def c_as (Y : Ym) (pc i pc' : Nat) : Prop := (∃ k : Fin 4, decode Y.2.1 pc = .ok (.astore_n k, 1) ∧ (k : Nat) = i ∧ pc' = pc + 1) ∨ (decode Y.2.1 pc = .ok (.astore i, 2) ∧ pc' = pc + 2)
def c_ls (Y : Ym) (pc i pc' : Nat) : Prop := (∃ k : Fin 4, decode Y.2.1 pc = .ok (.lstore_n k, 1) ∧ (k : Nat) = i ∧ pc' = pc + 1) ∨ (decode Y.2.1 pc = .ok (.lstore i, 2) ∧ pc' = pc + 2)
def c_ii (Y : Ym) (pc i : Nat) (d : Int32) (pc' : Nat) : Prop := ∃ n : Int, decode Y.2.1 pc = .ok (.iinc i n, 3) ∧ Int32.ofInt n = d ∧ pc' = pc + 3
def c_ic (Y : Ym) (pc : Nat) (v : Int32) (pc' : Nat) : Prop := (∃ n : Int, decode Y.2.1 pc = .ok (.iconst n, 1) ∧ Int32.ofInt n = v ∧ pc' = pc + 1) ∨ (∃ n : Int, decode Y.2.1 pc = .ok (.bipush n, 2) ∧ (Int8.ofInt n).toInt32 = v ∧ pc' = pc + 2) ∨ (∃ n : Int, decode Y.2.1 pc = .ok (.sipush n, 3) ∧ (Int16.ofInt n).toInt32 = v ∧ pc' = pc + 3) ∨ (∃ i : Nat, decode Y.2.1 pc = .ok (.ldc i, 2) ∧ Cond.constant Y.1.cls i v ∈ TW ∧ pc' = pc + 2) ∨ (∃ i : Nat, decode Y.2.1 pc = .ok (.ldc_w i, 3) ∧ Cond.constant Y.1.cls i v ∈ TW ∧ pc' = pc + 3)
def c_lc (Y : Ym) (pc : Nat) (v : Int64) (pc' : Nat) : Prop := ∃ i : Nat, decode Y.2.1 pc = .ok (.ldc2_w i, 3) ∧ Cond.constantLong Y.1.cls i v ∈ TW ∧ pc' = pc + 3
def c_go (Y : Ym) (pc tgt : Nat) : Prop := ∃ off : Int, decode Y.2.1 pc = .ok (.goto off, 3) ∧ (pc : Int) + off = (tgt : Int)
def c_br (Y : Ym) (pc : Nat) (f : Int → Instr) (tgt pc' : Nat) : Prop := ∃ off : Int, decode Y.2.1 pc = .ok (f off, 3) ∧ (pc : Int) + off = (tgt : Int) ∧ pc' = pc + 3
section Rows
variable {g : Gm} {Y : Ym} {E : Ex} {QF : Qf} {V : Vw} {k : Nat × Nat} {pc pc' tgt : Nat} {L : List (Option Value)} {st : List Value} {mi : Mi} {ml : Ml}
theorem a_widen {k1 k2 : Nat} (h1 : k.1 ≤ k1) (h2 : k.2 ≤ k2) (kk : At g Y E QF V (k1, k2) pc L st mi ml) : At g Y E QF V k pc L st mi ml :=
  fun p e s m args below meth c H locs ls C hE hW hS hL => W.widen h1 h2 (kk p e s m args below meth c H locs ls C hE hW hS hL)
theorem a_iload {i : Nat} {x : Int32} (ct : c_il Y pc i pc') (h : L[i]? = some (some (.int x))) (kk : At g Y E QF V k pc' L (.int x :: st) mi ml) : At g Y E QF V k pc L st mi ml := by
  intro p e s m args below meth c H locs ls C hE hW hS hL
  rcases ct with ⟨k4, hd, hi, rfl⟩ | ⟨hd, rfl⟩
  · exact lv_iload_n C.1 C.2.1 hd hi (hL.2.2 i _ h) (kk p e s m args below meth c H locs ls C hE hW hS hL)
  · exact lv_iload C.1 C.2.1 hd (hL.2.2 i _ h) (kk p e s m args below meth c H locs ls C hE hW hS hL)
theorem a_lload {i : Nat} {x : Int64} (ct : c_ll Y pc i pc') (h : L[i]? = some (some (.long x))) (kk : At g Y E QF V k pc' L (.long x :: st) mi ml) : At g Y E QF V k pc L st mi ml := by
  intro p e s m args below meth c H locs ls C hE hW hS hL
  rcases ct with ⟨k4, hd, hi, rfl⟩ | ⟨hd, rfl⟩
  · exact lv_lload_n C.1 C.2.1 hd hi (hL.2.2 i _ h) (kk p e s m args below meth c H locs ls C hE hW hS hL)
  · exact lv_lload C.1 C.2.1 hd (hL.2.2 i _ h) (kk p e s m args below meth c H locs ls C hE hW hS hL)
theorem a_aload {i a : Nat} (ct : c_al Y pc i pc') (h : L[i]? = some (some (rf g a))) (kk : At g Y E QF V k pc' L (rf g a :: st) mi ml) : At g Y E QF V k pc L st mi ml := by
  intro p e s m args below meth c H locs ls C hE hW hS hL
  rcases ct with ⟨k4, hd, hi, rfl⟩ | ⟨hd, rfl⟩
  · exact lv_aload_n C.1 C.2.1 hd hi (hL.2.2 i _ h) (kk p e s m args below meth c H locs ls C hE hW hS hL)
  · exact lv_aload C.1 C.2.1 hd (hL.2.2 i _ h) (kk p e s m args below meth c H locs ls C hE hW hS hL)
theorem a_aload0 {i b : Nat} (ct : c_al Y pc i pc') (h : L[i]? = some (some (.ref b))) (kk : At g Y E QF V k pc' L (.ref b :: st) mi ml) : At g Y E QF V k pc L st mi ml := by
  intro p e s m args below meth c H locs ls C hE hW hS hL
  rcases ct with ⟨k4, hd, hi, rfl⟩ | ⟨hd, rfl⟩
  · exact lv_aload_n C.1 C.2.1 hd hi (hL.2.2 i _ h) (kk p e s m args below meth c H locs ls C hE hW hS hL)
  · exact lv_aload C.1 C.2.1 hd (hL.2.2 i _ h) (kk p e s m args below meth c H locs ls C hE hW hS hL)
theorem a_istore {i : Nat} {x : Int32} (ct : c_is Y pc i pc') (hn : i < Y.2.2.1) (hc : lc L i = true) (kk : At g Y E QF V k pc' (L.set i (some (.int x))) st mi ml) : At g Y E QF V k pc L (.int x :: st) mi ml := by
  intro p e s m args below meth c H locs ls C hE hW hS hL
  rcases ct with ⟨k4, hd, hi, rfl⟩ | ⟨hd, rfl⟩
  · exact lv_istore_n C.1 C.2.1 hd hi hL.has hn rfl (fun ls hl => kk p e s m args below meth c H locs ls C hE hW hS (LH.store1 hl hc))
  · exact lv_istore C.1 C.2.1 hd hL.has hn rfl (fun ls hl => kk p e s m args below meth c H locs ls C hE hW hS (LH.store1 hl hc))
theorem a_astore {i : Nat} {a : Nat} (ct : c_as Y pc i pc') (hn : i < Y.2.2.1) (hc : lc L i = true) (kk : At g Y E QF V k pc' (L.set i (some (rf g a))) st mi ml) : At g Y E QF V k pc L (rf g a :: st) mi ml := by
  intro p e s m args below meth c H locs ls C hE hW hS hL
  rcases ct with ⟨k4, hd, hi, rfl⟩ | ⟨hd, rfl⟩
  · exact lv_astore_n C.1 C.2.1 hd hi hL.has hn rfl (fun ls hl => kk p e s m args below meth c H locs ls C hE hW hS (LH.store1 hl hc))
  · exact lv_astore C.1 C.2.1 hd hL.has hn rfl (fun ls hl => kk p e s m args below meth c H locs ls C hE hW hS (LH.store1 hl hc))
theorem a_lstore {i : Nat} {x : Int64} (ct : c_ls Y pc i pc') (hn : i + 1 < Y.2.2.1) (hc : lc L i = true) (kk : At g Y E QF V k pc' ((L.set i (some (.long x))).set (i + 1) none) st mi ml) : At g Y E QF V k pc L (.long x :: st) mi ml := by
  intro p e s m args below meth c H locs ls C hE hW hS hL
  rcases ct with ⟨k4, hd, hi, rfl⟩ | ⟨hd, rfl⟩
  · exact lv_lstore_n C.1 C.2.1 hd hi hL.has hn rfl (fun ls hl => kk p e s m args below meth c H locs ls C hE hW hS (LH.store2 hl hc))
  · exact lv_lstore C.1 C.2.1 hd hL.has hn rfl (fun ls hl => kk p e s m args below meth c H locs ls C hE hW hS (LH.store2 hl hc))
theorem a_iinc {i : Nat} {x d : Int32} (ct : c_ii Y pc i d pc') (h : L[i]? = some (some (.int x))) (hn : i < Y.2.2.1) (hc : lc L i = true) (kk : At g Y E QF V k pc' (L.set i (some (.int (x + d)))) st mi ml) : At g Y E QF V k pc L st mi ml := by
  intro p e s m args below meth c H locs ls C hE hW hS hL
  obtain ⟨n, hd, rfl, rfl⟩ := ct
  obtain ⟨q, hq⟩ := List.getElem?_of_mem (lpr_mem.mpr h)
  exact lv_iinc C.1 C.2.1 hd hL.has hq rfl hn rfl (fun ls hl => kk p e s m args below meth c H locs ls C hE hW hS (LH.store1 hl hc))
theorem a_const {v : Int32} (ct : c_ic Y pc v pc') (kk : At g Y E QF V k pc' L (.int v :: st) mi ml) : At g Y E QF V k pc L st mi ml := by
  intro p e s m args below meth c H locs ls C hE hW hS hL
  rcases ct with ⟨n, hd, hv, rfl⟩ | ⟨n, hd, hv, rfl⟩ | ⟨n, hd, hv, rfl⟩ | ⟨i, hd, hv, rfl⟩ | ⟨i, hd, hv, rfl⟩
  · exact lv_iconst C.1 C.2.1 hd hv (kk p e s m args below meth c H locs ls C hE hW hS hL)
  · exact lv_bipush C.1 C.2.1 hd hv (kk p e s m args below meth c H locs ls C hE hW hS hL)
  · exact lv_sipush C.1 C.2.1 hd hv (kk p e s m args below meth c H locs ls C hE hW hS hL)
  · exact lv_ldc C.1 C.2.1 C.2.2.2.2.1 (C.2.2.2.2.2.1 _ hv) hd (kk p e s m args below meth c H locs ls C hE hW hS hL)
  · exact lv_ldcw C.1 C.2.1 C.2.2.2.2.1 (C.2.2.2.2.2.1 _ hv) hd (kk p e s m args below meth c H locs ls C hE hW hS hL)
theorem a_lconst {v : Int64} (ct : c_lc Y pc v pc') (kk : At g Y E QF V k pc' L (.long v :: st) mi ml) : At g Y E QF V k pc L st mi ml := by
  intro p e s m args below meth c H locs ls C hE hW hS hL
  obtain ⟨i, hd, hv, rfl⟩ := ct
  exact lv_ldc2 C.1 C.2.1 C.2.2.2.2.1 (C.2.2.2.2.2.1 _ hv) hd (kk p e s m args below meth c H locs ls C hE hW hS hL)
theorem a_iadd {x y : Int32} (ct : c_op Y pc .iadd pc') (kk : At g Y E QF V k pc' L (.int (x + y) :: st) mi ml) : At g Y E QF V k pc L (.int y :: .int x :: st) mi ml := by
  intro p e s m args below meth c H locs ls C hE hW hS hL
  obtain ⟨hd, rfl⟩ := ct
  exact lv_iadd C.1 C.2.1 hd (kk p e s m args below meth c H locs ls C hE hW hS hL)
theorem a_isub {x y : Int32} (ct : c_op Y pc .isub pc') (kk : At g Y E QF V k pc' L (.int (x - y) :: st) mi ml) : At g Y E QF V k pc L (.int y :: .int x :: st) mi ml := by
  intro p e s m args below meth c H locs ls C hE hW hS hL
  obtain ⟨hd, rfl⟩ := ct
  exact lv_isub C.1 C.2.1 hd (kk p e s m args below meth c H locs ls C hE hW hS hL)
theorem a_imul {x y : Int32} (ct : c_op Y pc .imul pc') (kk : At g Y E QF V k pc' L (.int (x * y) :: st) mi ml) : At g Y E QF V k pc L (.int y :: .int x :: st) mi ml := by
  intro p e s m args below meth c H locs ls C hE hW hS hL
  obtain ⟨hd, rfl⟩ := ct
  exact lv_imul C.1 C.2.1 hd (kk p e s m args below meth c H locs ls C hE hW hS hL)
theorem a_iand {x y : Int32} (ct : c_op Y pc .iand pc') (kk : At g Y E QF V k pc' L (.int (x &&& y) :: st) mi ml) : At g Y E QF V k pc L (.int y :: .int x :: st) mi ml := by
  intro p e s m args below meth c H locs ls C hE hW hS hL
  obtain ⟨hd, rfl⟩ := ct
  exact lv_iand C.1 C.2.1 hd (kk p e s m args below meth c H locs ls C hE hW hS hL)
theorem a_ior {x y : Int32} (ct : c_op Y pc .ior pc') (kk : At g Y E QF V k pc' L (.int (x ||| y) :: st) mi ml) : At g Y E QF V k pc L (.int y :: .int x :: st) mi ml := by
  intro p e s m args below meth c H locs ls C hE hW hS hL
  obtain ⟨hd, rfl⟩ := ct
  exact lv_ior C.1 C.2.1 hd (kk p e s m args below meth c H locs ls C hE hW hS hL)
theorem a_ishl {x y : Int32} (ct : c_op Y pc .ishl pc') (kk : At g Y E QF V k pc' L (.int (x <<< (y &&& 31)) :: st) mi ml) : At g Y E QF V k pc L (.int y :: .int x :: st) mi ml := by
  intro p e s m args below meth c H locs ls C hE hW hS hL
  obtain ⟨hd, rfl⟩ := ct
  exact lv_ishl C.1 C.2.1 hd (kk p e s m args below meth c H locs ls C hE hW hS hL)
theorem a_idiv {x y : Int32} (ct : c_op Y pc .idiv pc') (hne : ¬ y = 0) (kk : At g Y E QF V k pc' L (.int (x / y) :: st) mi ml) : At g Y E QF V k pc L (.int y :: .int x :: st) mi ml := by
  intro p e s m args below meth c H locs ls C hE hW hS hL
  obtain ⟨hd, rfl⟩ := ct
  exact lv_idiv C.1 C.2.1 hd hne (kk p e s m args below meth c H locs ls C hE hW hS hL)
theorem a_irem {x y : Int32} (ct : c_op Y pc .irem pc') (hne : ¬ y = 0) (kk : At g Y E QF V k pc' L (.int (x - x / y * y) :: st) mi ml) : At g Y E QF V k pc L (.int y :: .int x :: st) mi ml := by
  intro p e s m args below meth c H locs ls C hE hW hS hL
  obtain ⟨hd, rfl⟩ := ct
  exact lv_irem C.1 C.2.1 hd hne (kk p e s m args below meth c H locs ls C hE hW hS hL)
theorem a_ineg {x : Int32} (ct : c_op Y pc .ineg pc') (kk : At g Y E QF V k pc' L (.int (-x) :: st) mi ml) : At g Y E QF V k pc L (.int x :: st) mi ml := by
  intro p e s m args below meth c H locs ls C hE hW hS hL
  obtain ⟨hd, rfl⟩ := ct
  exact lv_ineg C.1 C.2.1 hd (kk p e s m args below meth c H locs ls C hE hW hS hL)
theorem a_ladd {x y : Int64} (ct : c_op Y pc .ladd pc') (kk : At g Y E QF V k pc' L (.long (x + y) :: st) mi ml) : At g Y E QF V k pc L (.long y :: .long x :: st) mi ml := by
  intro p e s m args below meth c H locs ls C hE hW hS hL
  obtain ⟨hd, rfl⟩ := ct
  exact lv_ladd C.1 C.2.1 hd (kk p e s m args below meth c H locs ls C hE hW hS hL)
theorem a_lmul {x y : Int64} (ct : c_op Y pc .lmul pc') (kk : At g Y E QF V k pc' L (.long (x * y) :: st) mi ml) : At g Y E QF V k pc L (.long y :: .long x :: st) mi ml := by
  intro p e s m args below meth c H locs ls C hE hW hS hL
  obtain ⟨hd, rfl⟩ := ct
  exact lv_lmul C.1 C.2.1 hd (kk p e s m args below meth c H locs ls C hE hW hS hL)
theorem a_land {x y : Int64} (ct : c_op Y pc .land pc') (kk : At g Y E QF V k pc' L (.long (x &&& y) :: st) mi ml) : At g Y E QF V k pc L (.long y :: .long x :: st) mi ml := by
  intro p e s m args below meth c H locs ls C hE hW hS hL
  obtain ⟨hd, rfl⟩ := ct
  exact lv_land C.1 C.2.1 hd (kk p e s m args below meth c H locs ls C hE hW hS hL)
theorem a_ldiv {x y : Int64} (ct : c_op Y pc .ldiv pc') (hne : ¬ y = 0) (kk : At g Y E QF V k pc' L (.long (x / y) :: st) mi ml) : At g Y E QF V k pc L (.long y :: .long x :: st) mi ml := by
  intro p e s m args below meth c H locs ls C hE hW hS hL
  obtain ⟨hd, rfl⟩ := ct
  exact lv_ldiv C.1 C.2.1 hd hne (kk p e s m args below meth c H locs ls C hE hW hS hL)
theorem a_lrem {x y : Int64} (ct : c_op Y pc .lrem pc') (hne : ¬ y = 0) (kk : At g Y E QF V k pc' L (.long (x - x / y * y) :: st) mi ml) : At g Y E QF V k pc L (.long y :: .long x :: st) mi ml := by
  intro p e s m args below meth c H locs ls C hE hW hS hL
  obtain ⟨hd, rfl⟩ := ct
  exact lv_lrem C.1 C.2.1 hd hne (kk p e s m args below meth c H locs ls C hE hW hS hL)
theorem a_i2l {x : Int32} (ct : c_op Y pc .i2l pc') (kk : At g Y E QF V k pc' L (.long x.toInt64 :: st) mi ml) : At g Y E QF V k pc L (.int x :: st) mi ml := by
  intro p e s m args below meth c H locs ls C hE hW hS hL
  obtain ⟨hd, rfl⟩ := ct
  exact lv_i2l C.1 C.2.1 hd rfl (kk p e s m args below meth c H locs ls C hE hW hS hL)
theorem a_l2i {x : Int64} (ct : c_op Y pc .l2i pc') (kk : At g Y E QF V k pc' L (.int x.toInt32 :: st) mi ml) : At g Y E QF V k pc L (.long x :: st) mi ml := by
  intro p e s m args below meth c H locs ls C hE hW hS hL
  obtain ⟨hd, rfl⟩ := ct
  exact lv_l2i C.1 C.2.1 hd rfl (kk p e s m args below meth c H locs ls C hE hW hS hL)
theorem a_iushr {x y : Int32} (ct : c_op Y pc .iushr pc') (kk : At g Y E QF V k pc' L (.int (x.toUInt32 >>> (y.toUInt32 &&& Int32.toUInt32 31)).toInt32 :: st) mi ml) : At g Y E QF V k pc L (.int y :: .int x :: st) mi ml := by
  intro p e s m args below meth c H locs ls C hE hW hS hL
  obtain ⟨hd, rfl⟩ := ct
  exact lv_iushr C.1 C.2.1 hd rfl (kk p e s m args below meth c H locs ls C hE hW hS hL)
theorem a_dup {v : Value} (ct : c_op Y pc .dup pc') (hv : v.category = 1) (kk : At g Y E QF V k pc' L (v :: v :: st) mi ml) : At g Y E QF V k pc L (v :: st) mi ml := by
  intro p e s m args below meth c H locs ls C hE hW hS hL
  obtain ⟨hd, rfl⟩ := ct
  exact lv_dup C.1 C.2.1 hd hv (kk p e s m args below meth c H locs ls C hE hW hS hL)
theorem a_dup2 {v w : Value} (ct : c_op Y pc .dup2 pc') (hv : v.category = 1) (hw : w.category = 1) (kk : At g Y E QF V k pc' L (v :: w :: v :: w :: st) mi ml) : At g Y E QF V k pc L (v :: w :: st) mi ml := by
  intro p e s m args below meth c H locs ls C hE hW hS hL
  obtain ⟨hd, rfl⟩ := ct
  exact lv_dup2_11 C.1 C.2.1 hd hv hw (kk p e s m args below meth c H locs ls C hE hW hS hL)
theorem a_pop {v : Value} (ct : c_op Y pc .pop pc') (hv : v.category = 1) (kk : At g Y E QF V k pc' L st mi ml) : At g Y E QF V k pc L (v :: st) mi ml := by
  intro p e s m args below meth c H locs ls C hE hW hS hL
  obtain ⟨hd, rfl⟩ := ct
  exact lv_pop C.1 C.2.1 hd hv (kk p e s m args below meth c H locs ls C hE hW hS hL)
theorem a_goto (ct : c_go Y pc tgt) (kk : At g Y E QF V k tgt L st mi ml) : At g Y E QF V k pc L st mi ml := by
  intro p e s m args below meth c H locs ls C hE hW hS hL
  obtain ⟨off, hd, ht⟩ := ct
  exact lv_goto C.1 C.2.1 hd ht (kk p e s m args below meth c H locs ls C hE hW hS hL)
theorem a_if_eq {x : Int32} (ct : c_br Y pc (.ifCond .eq) tgt pc') (kt : x = 0 → At g Y E QF V k tgt L st mi ml) (kf : ¬ x = 0 → At g Y E QF V k pc' L st mi ml) : At g Y E QF V k pc L (.int x :: st) mi ml := by
  intro p e s m args below meth c H locs ls C hE hW hS hL
  obtain ⟨off, hd, ht, rfl⟩ := ct
  exact lv_if_eq C.1 C.2.1 hd ht (fun h => kt h p e s m args below meth c H locs ls C hE hW hS hL) (fun h => kf h p e s m args below meth c H locs ls C hE hW hS hL)
theorem a_if_ne {x : Int32} (ct : c_br Y pc (.ifCond .ne) tgt pc') (kt : ¬ x = 0 → At g Y E QF V k tgt L st mi ml) (kf : x = 0 → At g Y E QF V k pc' L st mi ml) : At g Y E QF V k pc L (.int x :: st) mi ml := by
  intro p e s m args below meth c H locs ls C hE hW hS hL
  obtain ⟨off, hd, ht, rfl⟩ := ct
  exact lv_if_ne C.1 C.2.1 hd ht (fun h => kt h p e s m args below meth c H locs ls C hE hW hS hL) (fun h => kf h p e s m args below meth c H locs ls C hE hW hS hL)
theorem a_if_lt {x : Int32} (ct : c_br Y pc (.ifCond .lt) tgt pc') (kt : x < 0 → At g Y E QF V k tgt L st mi ml) (kf : ¬ x < 0 → At g Y E QF V k pc' L st mi ml) : At g Y E QF V k pc L (.int x :: st) mi ml := by
  intro p e s m args below meth c H locs ls C hE hW hS hL
  obtain ⟨off, hd, ht, rfl⟩ := ct
  exact lv_if_lt C.1 C.2.1 hd ht (fun h => kt h p e s m args below meth c H locs ls C hE hW hS hL) (fun h => kf h p e s m args below meth c H locs ls C hE hW hS hL)
theorem a_if_ge {x : Int32} (ct : c_br Y pc (.ifCond .ge) tgt pc') (kt : 0 ≤ x → At g Y E QF V k tgt L st mi ml) (kf : ¬ 0 ≤ x → At g Y E QF V k pc' L st mi ml) : At g Y E QF V k pc L (.int x :: st) mi ml := by
  intro p e s m args below meth c H locs ls C hE hW hS hL
  obtain ⟨off, hd, ht, rfl⟩ := ct
  exact lv_if_ge C.1 C.2.1 hd ht (fun h => kt h p e s m args below meth c H locs ls C hE hW hS hL) (fun h => kf h p e s m args below meth c H locs ls C hE hW hS hL)
theorem a_if_gt {x : Int32} (ct : c_br Y pc (.ifCond .gt) tgt pc') (kt : 0 < x → At g Y E QF V k tgt L st mi ml) (kf : ¬ 0 < x → At g Y E QF V k pc' L st mi ml) : At g Y E QF V k pc L (.int x :: st) mi ml := by
  intro p e s m args below meth c H locs ls C hE hW hS hL
  obtain ⟨off, hd, ht, rfl⟩ := ct
  exact lv_if_gt C.1 C.2.1 hd ht (fun h => kt h p e s m args below meth c H locs ls C hE hW hS hL) (fun h => kf h p e s m args below meth c H locs ls C hE hW hS hL)
theorem a_if_le {x : Int32} (ct : c_br Y pc (.ifCond .le) tgt pc') (kt : x ≤ 0 → At g Y E QF V k tgt L st mi ml) (kf : ¬ x ≤ 0 → At g Y E QF V k pc' L st mi ml) : At g Y E QF V k pc L (.int x :: st) mi ml := by
  intro p e s m args below meth c H locs ls C hE hW hS hL
  obtain ⟨off, hd, ht, rfl⟩ := ct
  exact lv_if_le C.1 C.2.1 hd ht (fun h => kt h p e s m args below meth c H locs ls C hE hW hS hL) (fun h => kf h p e s m args below meth c H locs ls C hE hW hS hL)
theorem a_icmp_eq {x y : Int32} (ct : c_br Y pc (.if_icmp .eq) tgt pc') (kt : x = y → At g Y E QF V k tgt L st mi ml) (kf : ¬ x = y → At g Y E QF V k pc' L st mi ml) : At g Y E QF V k pc L (.int y :: .int x :: st) mi ml := by
  intro p e s m args below meth c H locs ls C hE hW hS hL
  obtain ⟨off, hd, ht, rfl⟩ := ct
  exact lv_icmp_eq C.1 C.2.1 hd ht (fun h => kt h p e s m args below meth c H locs ls C hE hW hS hL) (fun h => kf h p e s m args below meth c H locs ls C hE hW hS hL)
theorem a_icmp_ne {x y : Int32} (ct : c_br Y pc (.if_icmp .ne) tgt pc') (kt : ¬ x = y → At g Y E QF V k tgt L st mi ml) (kf : x = y → At g Y E QF V k pc' L st mi ml) : At g Y E QF V k pc L (.int y :: .int x :: st) mi ml := by
  intro p e s m args below meth c H locs ls C hE hW hS hL
  obtain ⟨off, hd, ht, rfl⟩ := ct
  exact lv_icmp_ne C.1 C.2.1 hd ht (fun h => kt h p e s m args below meth c H locs ls C hE hW hS hL) (fun h => kf h p e s m args below meth c H locs ls C hE hW hS hL)
theorem a_icmp_lt {x y : Int32} (ct : c_br Y pc (.if_icmp .lt) tgt pc') (kt : x < y → At g Y E QF V k tgt L st mi ml) (kf : ¬ x < y → At g Y E QF V k pc' L st mi ml) : At g Y E QF V k pc L (.int y :: .int x :: st) mi ml := by
  intro p e s m args below meth c H locs ls C hE hW hS hL
  obtain ⟨off, hd, ht, rfl⟩ := ct
  exact lv_icmp_lt C.1 C.2.1 hd ht (fun h => kt h p e s m args below meth c H locs ls C hE hW hS hL) (fun h => kf h p e s m args below meth c H locs ls C hE hW hS hL)
theorem a_icmp_ge {x y : Int32} (ct : c_br Y pc (.if_icmp .ge) tgt pc') (kt : y ≤ x → At g Y E QF V k tgt L st mi ml) (kf : ¬ y ≤ x → At g Y E QF V k pc' L st mi ml) : At g Y E QF V k pc L (.int y :: .int x :: st) mi ml := by
  intro p e s m args below meth c H locs ls C hE hW hS hL
  obtain ⟨off, hd, ht, rfl⟩ := ct
  exact lv_icmp_ge C.1 C.2.1 hd ht (fun h => kt h p e s m args below meth c H locs ls C hE hW hS hL) (fun h => kf h p e s m args below meth c H locs ls C hE hW hS hL)
theorem a_icmp_gt {x y : Int32} (ct : c_br Y pc (.if_icmp .gt) tgt pc') (kt : y < x → At g Y E QF V k tgt L st mi ml) (kf : ¬ y < x → At g Y E QF V k pc' L st mi ml) : At g Y E QF V k pc L (.int y :: .int x :: st) mi ml := by
  intro p e s m args below meth c H locs ls C hE hW hS hL
  obtain ⟨off, hd, ht, rfl⟩ := ct
  exact lv_icmp_gt C.1 C.2.1 hd ht (fun h => kt h p e s m args below meth c H locs ls C hE hW hS hL) (fun h => kf h p e s m args below meth c H locs ls C hE hW hS hL)
theorem a_icmp_le {x y : Int32} (ct : c_br Y pc (.if_icmp .le) tgt pc') (kt : x ≤ y → At g Y E QF V k tgt L st mi ml) (kf : ¬ x ≤ y → At g Y E QF V k pc' L st mi ml) : At g Y E QF V k pc L (.int y :: .int x :: st) mi ml := by
  intro p e s m args below meth c H locs ls C hE hW hS hL
  obtain ⟨off, hd, ht, rfl⟩ := ct
  exact lv_icmp_le C.1 C.2.1 hd ht (fun h => kt h p e s m args below meth c H locs ls C hE hW hS hL) (fun h => kf h p e s m args below meth c H locs ls C hE hW hS hL)
end Rows
end
section
/-! 05: rows for fields, arrays, calls, returns -/
theorem in_X0 : ∀ w ∈ u_ws RX0 TX0 3, w ∈ TW := by decide +kernel
theorem in_X1 : ∀ w ∈ u_ws RX1 TX1 14, w ∈ TW := by decide +kernel
theorem in_X2 : ∀ w ∈ u_ws RX2 TX2 8, w ∈ TW := by decide +kernel
theorem in_X3 : ∀ w ∈ u_ws RX3 TX3 5, w ∈ TW := by decide +kernel
theorem in_X4 : ∀ w ∈ u_ws RX4 TX4 3, w ∈ TW := by decide +kernel
theorem in_X5 : ∀ w ∈ u_ws RX5 TX5 5, w ∈ TW := by decide +kernel
theorem in_X6 : ∀ w ∈ u_ws RX6 TX6 2, w ∈ TW := by decide +kernel
theorem in_X7 : ∀ w ∈ u_ws RX7 TX7 12, w ∈ TW := by decide +kernel
theorem in_X8 : ∀ w ∈ u_ws RX8 TX8 43, w ∈ TW := by decide +kernel
def okT (t : FieldType) : Bool := match t with
  | .int => true | .boolean => true | .long => true | .object _ => true | .array _ => true | _ => false
def ClOk (kd : Nat) (r : vw_C) : Prop := kd < 9 ∧ r.2.2 = fN kd ∧ (∀ w ∈ u_ws r.1 r.2.1 r.2.2, w ∈ TW) ∧ (∀ j, j < r.2.2 → parseFieldDescriptor (r.2.1 j).2.2.1 = some (fty kd j)) ∧ (∀ a, a < r.2.2 → ∀ b, b < r.2.2 → a ≠ b → (r.2.1 a).2.1 ≠ (r.2.1 b).2.1) ∧ (∀ j, j < r.2.2 → okT (fty kd j) = true)
theorem cl_ok {kd : Nat} {r : vw_C} (h : vwCl[kd]? = some r) : ClOk kd r := by
  have hl : kd < 9 := (List.getElem?_eq_some_iff.mp h).1
  rcases (show kd = 0 ∨ kd = 1 ∨ kd = 2 ∨ kd = 3 ∨ kd = 4 ∨ kd = 5 ∨ kd = 6 ∨ kd = 7 ∨ kd = 8 by omega) with rfl | rfl | rfl | rfl | rfl | rfl | rfl | rfl | rfl
  · have e : (RX0, TX0, 3) = r := Option.some.inj h
    subst e; exact ⟨by decide, rfl, in_X0, tyX0_ok, nmX0, by decide⟩
  · have e : (RX1, TX1, 14) = r := Option.some.inj h
    subst e; exact ⟨by decide, rfl, in_X1, tyX1_ok, nmX1, by decide⟩
  · have e : (RX2, TX2, 8) = r := Option.some.inj h
    subst e; exact ⟨by decide, rfl, in_X2, tyX2_ok, nmX2, by decide⟩
  · have e : (RX3, TX3, 5) = r := Option.some.inj h
    subst e; exact ⟨by decide, rfl, in_X3, tyX3_ok, nmX3, by decide⟩
  · have e : (RX4, TX4, 3) = r := Option.some.inj h
    subst e; exact ⟨by decide, rfl, in_X4, tyX4_ok, nmX4, by decide⟩
  · have e : (RX5, TX5, 5) = r := Option.some.inj h
    subst e; exact ⟨by decide, rfl, in_X5, tyX5_ok, nmX5, by decide⟩
  · have e : (RX6, TX6, 2) = r := Option.some.inj h
    subst e; exact ⟨by decide, rfl, in_X6, tyX6_ok, nmX6, by decide⟩
  · have e : (RX7, TX7, 12) = r := Option.some.inj h
    subst e; exact ⟨by decide, rfl, in_X7, tyX7_ok, nmX7, by decide⟩
  · have e : (RX8, TX8, 43) = r := Option.some.inj h
    subst e; exact ⟨by decide, rfl, in_X8, tyX8_ok, nmX8, by decide⟩
def c_lk (Y : Ym) (r : vw_C) (i j : Nat) : Prop := Cond.fieldLink Y.1.cls i (r.2.1 j).1 (r.2.1 j).2.1 (r.2.1 j).2.2.1 ∈ TW ∨ ∃ h : String, Cond.fieldLinkNest Y.1.cls i (r.2.1 j).1 (r.2.1 j).2.1 (r.2.1 j).2.2.1 h ∈ NW
def c_gf (Y : Ym) (pc kd j pc' : Nat) : Prop := ∃ (i : Nat) (r : vw_C), decode Y.2.1 pc = .ok (.getfield i, 3) ∧ pc' = pc + 3 ∧ vwCl[kd]? = some r ∧ j < r.2.2 ∧ c_lk Y r i j
def c_pf (Y : Ym) (pc kd j pc' : Nat) : Prop := ∃ (i : Nat) (r : vw_C), decode Y.2.1 pc = .ok (.putfield i, 3) ∧ pc' = pc + 3 ∧ vwCl[kd]? = some r ∧ j < r.2.2 ∧ (((r.2.1 j).2.2.2 = false ∧ c_lk Y r i j) ∨ ((r.2.1 j).2.2.2 = true ∧ Y.1.name = "<init>" ∧ (r.2.1 j).1 = Y.1.cls ∧ Cond.fieldLink Y.1.cls i (r.2.1 j).1 (r.2.1 j).2.1 (r.2.1 j).2.2.1 ∈ TW))
theorem mr_set {n j : Nat} {f f' : Nat → Value} {v : Value} (hj : f' j = v) (ho : ∀ q, q ≠ j → f' q = f q) : ((List.range n).map f).set j v = (List.range n).map f' := by
  apply List.ext_getElem?
  intro q
  by_cases hq : q < n
  · by_cases hjq : j = q
    · subst hjq
      rw [List.getElem?_set_self (by simpa using hq)]
      simp [hq, hj]
    · rw [List.getElem?_set_ne hjq]
      simp [hq, ho q (fun h => hjq h.symm)]
  · rw [List.getElem?_eq_none (by simp; omega), List.getElem?_eq_none (by simp; omega)]
section Mem
variable {g : Gm} {Y : Ym} {E : Ex} {QF : Qf} {V : Vw} {k : Nat × Nat} {pc pc' tgt : Nat} {L : List (Option Value)} {st : List Value} {mi : Mi} {ml : Ml}
theorem a_get {i kd j : Nat} {v : Value} (ct : c_gf Y pc kd j pc') (hs : V.2.1 i = (kd, 0)) (hv : fvl g (fty kd j) (mi i j) (ml i j) (V.2.2.1 i j) = v) (kk : At g Y E QF V k pc' L (v :: st) mi ml) : At g Y E QF V k pc L (rf g i :: st) mi ml := by
  intro p e s m args below meth c H locs ls C hE hW hS hL
  obtain ⟨ix, r, hd, rfl, hc, hj, hlk⟩ := ct
  have ok := cl_ok hc
  obtain ⟨CC, T, N⟩ := r
  have hN : N = fN kd := ok.2.1
  have he : (wl g V mi ml)[i]? = some (g.2.1 + i, .inr (kd, fsl g V mi ml i kd)) := by rw [hW.at hs (by have := ok.1; omega), ce_o ok.1 hs]
  have hv' : (fsl g V mi ml i kd)[j]? = some v := by
    have hj' : j < fN kd := by rw [← hN]; exact hj
    simp [fsl, hj', hv]
  have k2 := kk p e s m args below meth c H locs ls C hE hW hS hL
  rcases hlk with hl | ⟨host, hl⟩
  · exact va_get C.1 C.2.1 C.2.2.2.2.2.1 ok.2.2.1 C.2.2.2.2.1 C.2.2.2.2.2.2.2.2.1 hW.2.1 i he hc j hj (C.2.2.2.2.2.1 _ hl) (fun _ h => h) hv' hd k2
  · exact va_getN C.1 C.2.1 C.2.2.2.2.2.1 ok.2.2.1 C.2.2.2.2.1 C.2.2.2.2.2.2.2.2.1 hW.2.1 i he hc j hj (va_Nw.use rfl (C.2.2.2.2.2.2.2.2.2.1 _ hl)) (fun _ h => h) hv' hd k2
def isI (t : FieldType) : Bool := match t with
  | .int => true | .boolean => true | _ => false
def isR (t : FieldType) : Bool := match t with
  | .object _ => true | .array _ => true | _ => false
theorem fvl_I {t : FieldType} {x : Int32} {y : Int64} {r : Option Nat} (h : isI t = true) : fvl g t x y r = .int x := by
  cases t <;> first | rfl | (exfalso; revert h; simp [isI])
theorem fvl_R {t : FieldType} {x : Int32} {y : Int64} {r : Option Nat} (h : isR t = true) : fvl g t x y r = ov g r := by
  cases t <;> first | rfl | (exfalso; revert h; simp [isR])
theorem a_geti {i kd j : Nat} (ct : c_gf Y pc kd j pc') (hs : V.2.1 i = (kd, 0)) (ht : isI (fty kd j) = true) (kk : At g Y E QF V k pc' L (.int (mi i j) :: st) mi ml) : At g Y E QF V k pc L (rf g i :: st) mi ml :=
  a_get ct hs (fvl_I ht) kk
theorem a_getr {i kd j a : Nat} (ct : c_gf Y pc kd j pc') (hs : V.2.1 i = (kd, 0)) (ht : isR (fty kd j) = true) (hr : V.2.2.1 i j = some a) (kk : At g Y E QF V k pc' L (rf g a :: st) mi ml) : At g Y E QF V k pc L (rf g i :: st) mi ml :=
  a_get ct hs (by rw [fvl_R ht, hr]; rfl) kk
theorem a_getl {i kd j : Nat} (ct : c_gf Y pc kd j pc') (hs : V.2.1 i = (kd, 0)) (ht : fty kd j = .long) (kk : At g Y E QF V k pc' L (.long (ml i j) :: st) mi ml) : At g Y E QF V k pc L (rf g i :: st) mi ml :=
  a_get ct hs (by rw [ht]; rfl) kk
theorem a_put {i kd j : Nat} {v : Value} {V' : Vw} {mi' : Mi} {ml' : Ml} (ct : c_pf Y pc kd j pc') (hs : V.2.1 i = (kd, 0)) (hn : narrow (fty kd j) v = v) (hfit : fits (fty kd j) v = true) (h1 : V'.1 = V.1) (h2 : V'.2.1 = V.2.1) (h3 : V'.2.2.2 = V.2.2.2)
    (hself : (fsl g V mi ml i kd).set j v = fsl g V' mi' ml' i kd) (hother : ∀ q, q ≠ i → ce g V' mi' ml' q = ce g V mi ml q) (kk : At g Y E QF V' k pc' L st mi' ml') : At g Y E QF V k pc L (v :: rf g i :: st) mi ml := by
  intro p e s m args below meth c H locs ls C hE hW hS hL
  obtain ⟨ix, r, hd, rfl, hc, hj, hlk⟩ := ct
  have ok := cl_ok hc
  obtain ⟨CC, T, N⟩ := r
  have hN : N = fN kd := ok.2.1
  have hi : i < V.1 := hW.lt hs (by have := ok.1; omega)
  have he : (wl g V mi ml)[i]? = some (g.2.1 + i, .inr (kd, fsl g V mi ml i kd)) := by rw [wl_get hi, ce_o ok.1 hs]
  have hset : (wl g V mi ml).set i (g.2.1 + i, .inr (kd, (fsl g V mi ml i kd).set j v)) = wl g V' mi' ml' :=
    wl_set hi h1 (by rw [ce_o ok.1 (by rw [h2]; exact hs), hself]) hother
  have hl : j < (fsl g V mi ml i kd).length := by simp [fsl, ← hN]; exact hj
  have hty : parseFieldDescriptor (T j).2.2.1 = some (fty kd j) := ok.2.2.2.1 j hj
  have fin : ∀ (H1 : Heap) (locs1 : List Loc), va_P g.2.2.1 vwCl ((wl g V mi ml).set i (g.2.1 + i, .inr (kd, (fsl g V mi ml i kd).set j v))) H1 → va_S (fun q => g.2.1 ≤ q) s.heap H1 locs1 → H1.size = H.size → W p g.1 e Y.2.2.2.2 s m args below meth c H1 locs1 k.1 k.2 (QF below args s) (F0 m (pc + 3) ls st) := by
    intro H1 locs1 hP hS1 hz
    rw [hset] at hP
    exact kk p e s m args below meth c H1 locs1 ls C hE ⟨fun h => by rw [hz, hW.1 (by rw [← h3]; exact h), h1], hP, by rw [h1, h2]; exact hW.2.2⟩ hS1 hL
  have hap := va_apart (own := Y.1.cls) C.2.2.2.2.2.1 ok.2.2.1 (fty kd) ok.2.2.2.1 ok.2.2.2.2.1 C.2.2.2.2.2.2.2.2.1 hc
  obtain ⟨r', g1, cell, q1, q2, q3, q4⟩ := hW.2.1 i _ he
  have hr : r' = (CC, T, N) := Option.some.inj (g1.symm.trans hc)
  subst hr
  obtain ⟨hSl, hfc, kC, hkC, hkind⟩ := C.2.2.2.2.2.2.2.2.1.1 kd _ hc
  obtain ⟨cf, kf, fi, f, hif, hsl⟩ := hSl j hj
  have hst := (u_facts hfc hkC (u_lays C.2.2.2.2.2.1 ok.2.2.1 hj) hif).1
  have hlay := C.2.2.2.2.2.1 _ (ok.2.2.1 _ (u_in_lay hj))
  unfold u_lay at hlay
  have last : ∀ (H' : Heap), H'[g.2.1 + i]? = some (cell.setSlot f.slot v) → H'.size = H.size → (∀ q, q ≠ g.2.1 + i → H'[q]? = H[q]?) → W p g.1 e Y.2.2.2.2 s m args below meth c H' (locs ++ [⟨g.2.1 + i, f.slot⟩]) k.1 k.2 (QF below args s) (F0 m (pc + 3) ls st) := by
    intro H' e1 e2 e3
    rw [hsl] at e1 ⊢
    refine fin H' _ (hW.2.1.set wl_D he ⟨_, hc, t_OB.to (V := updV (vp_V (fsl g V mi ml i kd)) j v) ⟨_, e1, q2, q3, t_set q4 hap hj v⟩ (fun a _ => vp_updV_set hl v a)⟩ e3) (hS.put e2 e3 (Nat.le_add_right _ _)) e2
  rcases hlk with ⟨hf, hlk⟩ | ⟨hf, hnm, hdc, hl1⟩
  · rw [if_neg (by rw [hf]; decide)] at hlay
    have h6 := u_store hfc hkC hkind hlay hif hty hn hfit
    rcases hlk with hl1 | ⟨host, hl1⟩
    · exact W.putK C.1 C.2.1 (f := f) ⟨C.2.2.2.2.1, C.2.2.2.2.2.1 _ hl1, ⟨_, _, _, hif⟩, hst⟩ (by rw [q2]; exact h6) q1 q3 (by rw [hsl]; exact k2_hasslot (q4 j hj)) rfl rfl hd last
    · exact va_WputK C.1 C.2.1 (f := f) C.2.2.2.2.1 (va_Nw.use rfl (C.2.2.2.2.2.2.2.2.2.1 _ hl1)) hif hst (by rw [q2]; exact h6) q1 q3 (by rw [hsl]; exact k2_hasslot (q4 j hj)) rfl rfl hd last
  · rw [if_pos hf] at hlay
    have hcf : m.cls = cf := by
      obtain ⟨_, _, c', _, _, _, -, -, hf', -, -, -, hown2, -⟩ := Cond.laysFinal_spec hlay
      have e1 : c' = cf := by have := hif.symm.trans hf'; simp at this; exact this.1.symm
      rw [show (T j).1 = Y.1.cls from hdc] at hown2
      rw [← e1]; exact Option.some.inj (C.2.2.2.2.1.symm.trans hown2)
    have h6 := u_fits hfc hkC hkind (Or.inr hlay) hif hty hn hfit
    exact W.putFinK C.1 C.2.1 C.2.2.2.2.1 (C.2.2.2.2.2.1 _ hl1) hif hst hcf (by rw [C.2.2.2.2.2.2.2.1]; exact hnm) (by rw [q2]; exact h6) q1 q3 (by rw [hsl]; exact k2_hasslot (q4 j hj)) rfl rfl hd last
theorem a_puti {i kd j : Nat} {x : Int32} (ct : c_pf Y pc kd j pc') (hs : V.2.1 i = (kd, 0)) (ht : isI (fty kd j) = true) (hn : narrow (fty kd j) (.int x) = .int x) (hfit : fits (fty kd j) (.int x) = true) (kk : At g Y E QF V k pc' L st (u2 mi i j x) ml) : At g Y E QF V k pc L (.int x :: rf g i :: st) mi ml :=
  a_put ct hs hn hfit rfl rfl rfl (mr_set (by rw [fvl_I ht, u2_s]) (fun q hq => by rw [u2_ne (by simp [hq])])) (fun q hq => by simp [ce, u2_row hq]) kk
theorem a_putl {i kd j : Nat} {x : Int64} (ct : c_pf Y pc kd j pc') (hs : V.2.1 i = (kd, 0)) (ht : fty kd j = .long) (kk : At g Y E QF V k pc' L st mi (u2 ml i j x)) : At g Y E QF V k pc L (.long x :: rf g i :: st) mi ml :=
  a_put ct hs (by rw [ht]; rfl) (by rw [ht]; rfl) rfl rfl rfl (mr_set (by rw [ht, u2_s]; rfl) (fun q hq => by rw [u2_ne (by simp [hq])])) (fun q hq => by simp [ce, u2_row hq]) kk
theorem a_putr {i kd j a : Nat} (ct : c_pf Y pc kd j pc') (hs : V.2.1 i = (kd, 0)) (ht : isR (fty kd j) = true) (kk : At g Y E QF (V.1, V.2.1, u2 V.2.2.1 i j (some a), V.2.2.2) k pc' L st mi ml) : At g Y E QF V k pc L (rf g a :: rf g i :: st) mi ml :=
  a_put (V' := (V.1, V.2.1, u2 V.2.2.1 i j (some a), V.2.2.2)) (mi' := mi) (ml' := ml) ct hs (by revert ht; cases fty kd j <;> first | (intro _; rfl) | (intro h; exfalso; revert h; simp [isR])) (by revert ht; cases fty kd j <;> first | (intro _; rfl) | (intro h; exfalso; revert h; simp [isR])) rfl rfl rfl (mr_set (by rw [fvl_R ht]; show ov g (u2 V.2.2.1 i j (some a) i j) = _; rw [u2_s]; rfl) (fun q hq => by show fvl g (fty kd q) (mi i q) (ml i q) (u2 V.2.2.1 i j (some a) i q) = _; rw [u2_ne (by simp [hq])])) (fun q hq => by simp [ce, u2_row hq]) kk
theorem a_iald {i N : Nat} {x : Int32} (ct : c_op Y pc .iaload pc') (hs : V.2.1 i = (9, N)) (hin : vp_in x N) (kk : At g Y E QF V k pc' L (.int (mi i x.toNatClampNeg) :: st) mi ml) : At g Y E QF V k pc L (.int x :: rf g i :: st) mi ml := by
  intro p e s m args below meth c H locs ls C hE hW hS hL
  obtain ⟨hd, rfl⟩ := ct
  exact va_iald C.1 C.2.1 C.2.2.2.2.2.2.2.2.1 hW.2.1 i 0 (by rw [hW.at hs (by decide), ce_i hs]) rfl hin hd (kk p e s m args below meth c H locs ls C hE hW hS hL)
theorem a_zald {i N : Nat} {x : Int32} (ct : c_op Y pc .baload pc') (hs : V.2.1 i = (10, N)) (hin : vp_in x N) (kk : At g Y E QF V k pc' L (.int (mi i x.toNatClampNeg) :: st) mi ml) : At g Y E QF V k pc L (.int x :: rf g i :: st) mi ml := by
  intro p e s m args below meth c H locs ls C hE hW hS hL
  obtain ⟨hd, rfl⟩ := ct
  exact va_zald C.1 C.2.1 C.2.2.2.2.2.2.2.2.1 hW.2.1 i 1 (by rw [hW.at hs (by decide), ce_z hs]) rfl hin hd (kk p e s m args below meth c H locs ls C hE hW hS hL)
theorem a_lald {i N : Nat} {x : Int32} (ct : c_op Y pc .laload pc') (hs : V.2.1 i = (11, N)) (hin : vp_in x N) (kk : At g Y E QF V k pc' L (.long (ml i x.toNatClampNeg) :: st) mi ml) : At g Y E QF V k pc L (.int x :: rf g i :: st) mi ml := by
  intro p e s m args below meth c H locs ls C hE hW hS hL
  obtain ⟨hd, rfl⟩ := ct
  exact va_lald C.1 C.2.1 C.2.2.2.2.2.2.2.2.1 hW.2.1 i 2 (by rw [hW.at hs (by decide), ce_l hs]) rfl hin hd (kk p e s m args below meth c H locs ls C hE hW hS hL)
theorem a_aald {i N a : Nat} {x : Int32} (ct : c_op Y pc .aaload pc') (hs : V.2.1 i = (12, N)) (hin : vp_in x N) (hr : V.2.2.1 i x.toNatClampNeg = some a) (kk : At g Y E QF V k pc' L (rf g a :: st) mi ml) : At g Y E QF V k pc L (.int x :: rf g i :: st) mi ml := by
  intro p e s m args below meth c H locs ls C hE hW hS hL
  obtain ⟨hd, rfl⟩ := ct
  refine va_aldq C.1 C.2.1 C.2.2.2.2.2.2.2.2.1 hW.2.1 i 3 (by rw [hW.at hs (by decide), ce_q hs]) rfl hin hd ?_
  rw [hr]
  exact kk p e s m args below meth c H locs ls C hE hW hS hL
theorem Wd.row {V' : Vw} {mi' : Mi} {ml' : Ml} {H H1 : Heap} {i : Nat} {e : va_E} (hW : Wd g V mi ml H) (hi : i < V.1) (hn : V'.1 = V.1) (hsh : V'.2.1 = V.2.1) (hfl : V'.2.2.2 = V.2.2.2) (he : ce g V' mi' ml' i = e) (ho : ∀ j, j ≠ i → ce g V' mi' ml' j = ce g V mi ml j) (hz : H1.size = H.size) (hP : va_P g.2.2.1 vwCl ((wl g V mi ml).set i (g.2.1 + i, e)) H1) : Wd g V' mi' ml' H1 := by
  rw [wl_set hi hn he ho] at hP
  exact ⟨fun h => by rw [hz, hW.1 (by rw [← hfl]; exact h), hn], hP, by rw [hn, hsh]; exact hW.2.2⟩
theorem a_iast {i N : Nat} {x v : Int32} (ct : c_op Y pc .iastore pc') (hs : V.2.1 i = (9, N)) (hin : vp_in x N) (kk : At g Y E QF V k pc' L st (u2 mi i x.toNatClampNeg v) ml) : At g Y E QF V k pc L (.int v :: .int x :: rf g i :: st) mi ml := by
  intro p e s m args below meth c H locs ls C hE hW hS hL
  obtain ⟨hd, rfl⟩ := ct
  have hi := hW.lt hs (by decide)
  have ha : (wl g V mi ml)[i]? = some (g.2.1 + i, .inl (g.2.2.2 0, N, .inl (mi i))) := by rw [wl_get hi, ce_i hs]
  refine W.iast C.1 C.2.1 (hW.2.1 i _ ha) ((C.2.2.2.2.2.2.2.2.1.2 0 _ rfl).1 N (fun j => .int (mi i j))) (fun q => by cases q) (by show ¬ (x < 0 ∨ (arrV _ _ _).slots.size ≤ _); rw [arrV_size]; exact hin) rfl rfl hd fun H1 e1 z oq => ?_
  have hrow : u2 mi i x.toNatClampNeg v i = upd (mi i) x.toNatClampNeg v := by funext b; simp [u2, upd]
  refine kk p e s m args below meth c H1 _ ls C hE (hW.row hi rfl rfl rfl (ce_i hs) (fun q hq => by simp [ce, u2_row hq]) z (hW.2.1.set wl_D ha ?_ oq)) (hS.put z oq (Nat.le_add_right _ _)) hL
  show H1[g.2.1 + i]? = some (vp_cell _ _)
  rw [e1, vp_cell_i, vp_cell_i, arrV_store, hrow]
  congr 2
  funext q
  by_cases hq : q = x.toNatClampNeg
  · subst hq; simp [updV, upd]
  · simp [updV, upd, hq]
theorem a_zast {i N : Nat} {x v : Int32} (ct : c_op Y pc .bastore pc') (hs : V.2.1 i = (10, N)) (hin : vp_in x N) (hv : narrow .boolean (.int v) = .int v) (kk : At g Y E QF V k pc' L st (u2 mi i x.toNatClampNeg v) ml) : At g Y E QF V k pc L (.int v :: .int x :: rf g i :: st) mi ml := by
  intro p e s m args below meth c H locs ls C hE hW hS hL
  obtain ⟨hd, rfl⟩ := ct
  have hi := hW.lt hs (by decide)
  have ha : (wl g V mi ml)[i]? = some (g.2.1 + i, .inl (g.2.2.2 1, N, .inl (mi i))) := by rw [wl_get hi, ce_z hs]
  refine W.zast C.1 C.2.1 (hW.2.1 i _ ha) ((C.2.2.2.2.2.2.2.2.1.2 1 _ rfl).1 N (fun j => .int (mi i j))) (fun q => by cases q) (by show ¬ (x < 0 ∨ (arrV _ _ _).slots.size ≤ _); rw [arrV_size]; exact hin) rfl rfl hd fun H1 e1 z oq => ?_
  have hrow : u2 mi i x.toNatClampNeg v i = upd (mi i) x.toNatClampNeg v := by funext b; simp [u2, upd]
  refine kk p e s m args below meth c H1 _ ls C hE (hW.row hi rfl rfl rfl (ce_z hs) (fun q hq => by simp [ce, u2_row hq]) z (hW.2.1.set wl_D ha ?_ oq)) (hS.put z oq (Nat.le_add_right _ _)) hL
  show H1[g.2.1 + i]? = some (vp_cell _ _)
  rw [e1, hv, vp_cell_i, vp_cell_i, arrV_store, hrow]
  congr 2
  funext q
  by_cases hq : q = x.toNatClampNeg
  · subst hq; simp [updV, upd]
  · simp [updV, upd, hq]
theorem a_last {i N : Nat} {x : Int32} {v : Int64} (ct : c_op Y pc .lastore pc') (hs : V.2.1 i = (11, N)) (hin : vp_in x N) (kk : At g Y E QF V k pc' L st mi (u2 ml i x.toNatClampNeg v)) : At g Y E QF V k pc L (.long v :: .int x :: rf g i :: st) mi ml := by
  intro p e s m args below meth c H locs ls C hE hW hS hL
  obtain ⟨hd, rfl⟩ := ct
  have hi := hW.lt hs (by decide)
  have ha : (wl g V mi ml)[i]? = some (g.2.1 + i, .inl (g.2.2.2 2, N, .inr (.inl (ml i)))) := by rw [wl_get hi, ce_l hs]
  refine W.last C.1 C.2.1 (hW.2.1 i _ ha) ((C.2.2.2.2.2.2.2.2.1.2 2 _ rfl).1 N (fun j => .long (ml i j))) (fun q => by cases q) (by show ¬ (x < 0 ∨ (arrV _ _ _).slots.size ≤ _); rw [arrV_size]; exact hin) rfl rfl hd fun H1 e1 z oq => ?_
  have hrow : u2 ml i x.toNatClampNeg v i = vp_updL (ml i) x.toNatClampNeg v := by funext b; simp [u2, vp_updL]
  refine kk p e s m args below meth c H1 _ ls C hE (hW.row hi rfl rfl rfl (ce_l hs) (fun q hq => by simp [ce, u2_row hq]) z (hW.2.1.set wl_D ha ?_ oq)) (hS.put z oq (Nat.le_add_right _ _)) hL
  show H1[g.2.1 + i]? = some (vp_cell _ _)
  rw [e1, vp_cell_l, vp_cell_l, arrV_store, hrow]
  congr 2
  funext q
  by_cases hq : q = x.toNatClampNeg
  · subst hq; simp [updV, vp_updL]
  · simp [updV, vp_updL, hq]
theorem a_aast {i N a : Nat} {x : Int32} (ct : c_op Y pc .aastore pc') (hs : V.2.1 i = (12, N)) (hin : vp_in x N) (ha2 : V.2.1 a = (2, 0)) (kk : At g Y E QF (V.1, V.2.1, u2 V.2.2.1 i x.toNatClampNeg (some a), V.2.2.2) k pc' L st mi ml) : At g Y E QF V k pc L (rf g a :: .int x :: rf g i :: st) mi ml := by
  intro p e s m args below meth c H locs ls C hE hW hS hL
  obtain ⟨hd, rfl⟩ := ct
  have hi := hW.lt hs (by decide)
  have ha : (wl g V mi ml)[i]? = some (g.2.1 + i, .inl (g.2.2.2 3, N, .inr (.inr (.inr (.inr (fun j => (V.2.2.1 i j).map (fun a => g.2.1 + a))))))) := by rw [wl_get hi, ce_q hs]
  have hv : (wl g V mi ml)[a]? = some (g.2.1 + a, .inr (2, fsl g V mi ml a 2)) := by rw [hW.at ha2 (by decide), ce_o (by decide) ha2]
  have hlt : x.toNatClampNeg < N := Nat.not_le.mp fun q => hin (Or.inr q)
  have h0 : ¬ x < 0 := fun q => hin (Or.inl q)
  obtain ⟨r', hr', cellV, g1, g2, g3, -⟩ := hW.2.1 a _ hv
  have hK := C.2.2.2.2.2.2.2.2.1
  have hcls := (hK.1 2 (RX2, TX2, 8) rfl).2
  obtain ⟨kA, comp, k1, k2, k3, -⟩ := (hK.2 3 _ rfl).2
  have hcomp : comp = g.2.2.1.1 2 := Option.some.inj (k3.symm.trans hcls.1)
  subst hcomp
  obtain ⟨kC, hkC, -⟩ := hcls.2
  refine W.aast C.1 C.2.1 (hW.2.1 i _ ha) (fun q h => by cases h) (fun h => by cases h) k1 k2 rfl hkC ⟨h0, by show _ < (arrV _ _ _).slots.size; rw [arrV_size]; exact hlt⟩ g1 (fun q h => by rw [g3] at h; cases h) (by rw [g2]; exact hkC) (by rw [g2]; exact va_assign hcls) rfl rfl hd fun H1 e1 z oq => ?_
  refine kk p e s m args below meth c H1 _ ls C hE (hW.row (V' := (V.1, V.2.1, u2 V.2.2.1 i x.toNatClampNeg (some a), V.2.2.2)) (mi' := mi) (ml' := ml) hi rfl rfl rfl (ce_q hs) (fun q hq => by simp [ce, u2_row hq]) z (hW.2.1.set wl_D ha ?_ oq)) (hS.put z oq (Nat.le_add_right _ _)) hL
  show H1[g.2.1 + i]? = some (vp_cell _ _)
  rw [e1, vp_cell_q, vp_cell_q, arrV_store]
  congr 2
  funext q
  by_cases hq : q = x.toNatClampNeg
  · subst hq; simp [updV, u2, va_rf]
  · simp [updV, u2, hq]
end Mem
end
section
/-! 06: calls, returns, the law's own reads, switches -/
def c_V (Y : Ym) (pc : Nat) (Y' : Ym) (pc' : Nat) : Prop := ∃ i : Nat, decode Y.2.1 pc = .ok (.invokevirtual i, 3) ∧ pc' = pc + 3 ∧ (Cond.methodLink Y.1.cls i Y'.1 ∈ TW ∨ ∃ h : String, Cond.methodLinkNest Y.1.cls i Y'.1 h ∈ NW)
def c_S (Y : Ym) (pc : Nat) (Y' : Ym) (pc' : Nat) : Prop := ∃ i : Nat, decode Y.2.1 pc = .ok (.invokestatic i, 3) ∧ pc' = pc + 3 ∧ (Cond.methodLink Y.1.cls i Y'.1 ∈ TW ∨ ∃ h : String, Cond.methodLinkNest Y.1.cls i Y'.1 h ∈ NW)
def c_I (Y : Ym) (pc : Nat) (Y' : Ym) (pc' : Nat) : Prop := ∃ i : Nat, decode Y.2.1 pc = .ok (.invokespecial i, 3) ∧ pc' = pc + 3 ∧ (Cond.methodLink Y.1.cls i Y'.1 ∈ TW ∨ ∃ h : String, Cond.methodLinkNest Y.1.cls i Y'.1 h ∈ NW)
def m_ok (Y : Ym) (n : Nat) : Prop := plainName Y.1.cls = true ∧ Cond.code Y.1 Y.2.1 Y.2.2.1 Y.2.2.2.1 ∈ TW ∧ Cond.initialized Y.1.cls ∈ TW ∧ Y.1.cls ≠ "java/lang/invoke/MethodHandle" ∧ Y.1.cls ≠ "java/lang/invoke/VarHandle" ∧ (parseMethodDescriptor Y.1.desc).map (fun d => d.parameters.length) = some n
def m_in (Y : Ym) (kd : Nat) : Prop := Cond.instanceMethod Y.1 ∈ TW ∧ Cond.selects Y.1.cls Y.1 Y.1 ∈ TW ∧ kd < 9 ∧ (vwCl[kd]?).map (fun r => r.1) = some Y.1.cls
def fitR (Y Y' : Ym) : Prop := Y'.2.2.2.2.frames + 1 ≤ Y.2.2.2.2.frames ∧ 8 + (Y'.2.2.1 + 11) + Y'.2.2.2.2.locals ≤ Y.2.2.2.2.locals
def fitK (k : Nat × Nat) (Y Y' : Ym) : Prop := k.1 + Y'.2.2.2.2.cells ≤ Y.2.2.2.2.cells ∧ k.2 + Y'.2.2.2.2.slots ≤ Y.2.2.2.2.slots
theorem Kx.blind {g : Gm} {U : State} {f : JFrame} {mk : MethodId} {a : Array Value} (h : Kx g U) : Kx g (U.calling f mk a) :=
  ⟨va_K.moved (u := U) (U := U.calling f mk a) (Vm.Alike.refl U.vm) h.1, NW_same (u := U) (U := U.calling f mk a) rfl h.2.1, va_AO.moved (u := U) (U := U.calling f mk a) (Vm.Alike.refl U.vm) h.2.2.1, h.2.2.2⟩
theorem Kx.warm {g : Gm} {s U : State} (hW : s.WarmedH U.vm) (hz : g.2.1 ≤ U.heap.size) (h : Kx g s) : Kx g U :=
  ⟨va_K.moved hW.alike h.1, NW_warm hW h.2.1, va_AO.moved hW.alike h.2.2.1, hz⟩
theorem pre_blind {g : Gm} {V : Vw} {mi : Mi} {ml : Ml} {args : List Value} : FrameBlind (va_Pc args (fun U => Wd g V mi ml U.heap ∧ Kx g U)) := fun a U f mk h => ⟨h.1, h.2.1, h.2.2.blind⟩
section Calls
variable {g : Gm} {Y Y' : Ym} {E : Ex} {QF : Qf} {V : Vw} {k : Nat × Nat} {pc pc' tgt : Nat} {L : List (Option Value)} {st st0 : List Value} {mi : Mi} {ml : Ml} {Post : Ps}
theorem lvargs_mem : ∀ (vs : List Value) (o : Nat), (∀ v ∈ vs, v.category = 1) → ∀ (i : Nat) (v : Value), vs[i]? = some v → (o + i, v) ∈ lv_args o vs
  | [], _, _, i, v, h => by simp at h
  | w :: vs, o, hc, 0, v, h => by
    have e : w = v := by simpa using h
    subst e
    simp [lv_args]
  | w :: vs, o, hc, i + 1, v, h => by
    have hw : ¬ w.category = 2 := by rw [hc w List.mem_cons_self]; decide
    have h1 := lvargs_mem vs (o + 1) (fun v hv => hc v (List.mem_cons_of_mem _ hv)) i v (by simpa using h)
    simp only [lv_args, if_neg hw]
    refine List.mem_cons_of_mem _ ?_
    rw [show o + (i + 1) = o + 1 + i by omega]
    exact h1
theorem LH.entry {args : List Value} {n : Nat} (hc : args.all (fun v => v.category == 1) = true) (hl : (lg_sl args).length ≤ n) (hL : L = args.map some ++ List.replicate (n - args.length) none) : LH ((lg_sl args ++ List.replicate (n - (lg_sl args).length) Slot.unset).toArray) n L := by
  have h := lv_entry args hl
  refine ⟨h.1, h.2.1, fun i v hi => ?_⟩
  refine h.2.2 (i, v) ?_
  have hv : args[i]? = some v := by
    subst hL
    rcases Nat.lt_or_ge i args.length with q | q
    · rw [List.getElem?_append_left (by simpa using q), List.getElem?_map] at hi
      cases ha : args[i]? with
      | none => rw [ha] at hi; simp at hi
      | some w => rw [ha] at hi; simp at hi; rw [hi]
    · rw [List.getElem?_append_right (by simpa using q)] at hi
      rw [List.getElem?_replicate] at hi
      split at hi <;> simp at hi
  have := lvargs_mem args 0 (fun v hv => by have := List.all_eq_true.mp hc v hv; simpa using this) i v hv
  simpa using this
theorem does_of {args : List Value} {n : Nat} (hm : m_ok Y n) (hc : args.all (fun v => v.category == 1) = true) (hl : (lg_sl args).length ≤ Y.2.2.1) (hL : L = args.map some ++ List.replicate (Y.2.2.1 - args.length) none)
    (h : At g Y (fun _ _ => True) (qm g Y Post) V (0, 0) 0 L [] mi ml) : Does g Y V args mi ml Post := by
  refine Met.ofW (cc := Y.2.1) (maxL := Y.2.2.1) (ret := Y.2.2.2.1) hm.1 rfl ?_
  intro p e s m args' below meth c s₁ B hml hv
  obtain ⟨rfl, hW, hK⟩ := hv
  have hts := atoms_spec (ws := Cond.code Y.1 Y.2.1 Y.2.2.1 Y.2.2.2.1 :: TW) B.pre
  rw [lg_entry_eq]
  exact h p e s m _ below meth c s.heap [] _ ⟨B.exec, B.bytes, B.returns, hml, findClass_of_methodNamed B.named, fun w hw => hts w (List.mem_cons_of_mem _ hw), B.notSynchronized, (name_of_methodNamed B.named B.method).1, hK⟩ trivial hW va_S.rf (LH.entry hc hl hL)
theorem run_go {p : Program} {e : Env} {s : State} {m : MethodId} {args : Array Value} {below : List Frame} {meth : Method} {c : Code} {H : Heap} {locs : List Loc} {ls : Array Slot} {a : Array Value} {mc ms : Nat}
    (C : Cx g Y p s m args meth c) (hE : E args s) (hS : va_S (fun q => g.2.1 ≤ q) s.heap H locs) (hL : LH ls Y.2.2.1 L)
    (hr : va_Run p g.1 e Y.2.2.2.2 s m args below meth c H locs k.1 k.2 mc ms (F0 m pc ls st0) st (QQ g Post a) (fun q => g.2.1 ≤ q))
    (kk : ∀ (v : Option Value) (V1 : Vw) (m1 : Mi) (l1 : Ml), Post v V1 m1 l1 → At g Y E QF V1 (k.1 + mc, k.2 + ms) (pc + 3) L (v.toList ++ st) m1 l1) : W p g.1 e Y.2.2.2.2 s m args below meth c H locs k.1 k.2 (QF below args s) (F0 m pc ls st0) := by
  intro T hT X
  obtain ⟨v, s0, t, T', L1, h0, X', hL1, e1, e2, ⟨v', V1, m1, l1, hv, hp, hw, hz, hk⟩, stp⟩ := hr T hT X
  cases hv
  rw [h0] at hz hk
  obtain ⟨t2, a1, b1⟩ := kk v V1 m1 l1 hp p e s m args below meth c T'.heap (locs ++ L1) ls C hE (by rw [e1]; exact hw)
    ⟨Nat.le_trans hS.1 (by rw [e1]; exact hz), fun q h1 h2 => by rw [e1, hk q (Nat.lt_of_lt_of_le h1 hS.1) h2]; exact hS.2.1 q h1 h2, fun q hq => by
      rcases List.mem_append.mp hq with h | h
      · exact hS.2.2 q h
      · exact hL1 q h⟩ hL T' rfl X'
  exact ⟨t2, stp t2 a1, b1⟩
theorem pay_TW {s : State} {args : Array Value} (h : ∀ w ∈ TW, w.before args s = true) (hc : Cond.code Y'.1 Y'.2.1 Y'.2.2.1 Y'.2.2.2.1 ∈ TW) : ∀ w ∈ (Cond.code Y'.1 Y'.2.1 Y'.2.2.1 Y'.2.2.2.1 :: TW), ∀ (a' : Array Value) (U : State), s.WarmedH U.vm → w.before a' U = true :=
  pay_in h (TW_code (fun _ hw => hw) hc)
theorem a_callV {i kd n : Nat} {As : List Value} (ct : c_V Y pc Y' pc') (hm : m_ok Y' n) (hi : m_in Y' kd) (hR : fitR Y Y') (hs : V.2.1 i = (kd, 0)) (hM : Does g Y' V (rf g i :: As) mi ml Post) (hn : As.length = n) (hst : st0 = As.reverse ++ rf g i :: st) (hw : (st.map fun v => v.category).sum ≤ 8) (hf : fitK k Y Y')
    (kk : ∀ (v : Option Value) (V1 : Vw) (m1 : Mi) (l1 : Ml), Post v V1 m1 l1 → At g Y E QF V1 (k.1 + Y'.2.2.2.2.cells, k.2 + Y'.2.2.2.2.slots) pc' L (v.toList ++ st) m1 l1) : At g Y E QF V k pc L st0 mi ml := by
  intro p e s m args below meth c H locs ls C hE hW hS hL
  obtain ⟨ix, hd, rfl, hlk⟩ := ct
  obtain ⟨hx, hb, hret, hml, hown, hts, hlocks, hnm, hK⟩ := id C
  obtain ⟨q1, q2, q3, q4, q5, q6⟩ := hm
  obtain ⟨i1, i2, i3, i4⟩ := hi
  obtain ⟨r, hr, hrn⟩ := Option.map_eq_some_iff.mp i4
  have hrecv := va_recv (q0 := i) hK.1 hW.2.1 hr (by rw [hW.at hs (by omega), ce_o i3 hs])
  rw [hrn] at hrecv
  have hlen : ∀ sig, parseMethodDescriptor Y'.1.desc = some sig → n = sig.parameters.length := fun sig h => by
    rw [h] at q6
    exact (Option.some.inj q6).symm
  have hpre : PreV s H Y'.1.cls (g.2.1 + i) (va_Pc (rf g i :: As) (fun U => Wd g V mi ml U.heap ∧ Kx g U)) As :=
    ⟨pre_blind, hrecv, fun U hU hWm => ⟨rfl, by rw [hU]; exact hW, hK.warm hWm (by rw [hU]; exact Nat.le_trans hK.2.2.2 hS.1)⟩⟩
  rcases hlk with hl | ⟨host, hl⟩
  · refine run_go C hE hS hL (va_runV (Ts := TW) (own := Y.1.cls) (C := Y'.1.cls) (nL := Y.2.2.1) (index := ix) (bytes := Y'.2.1) (maxL := Y'.2.2.1) (ret := Y'.2.2.2.1) (n := n) (b := g.2.1 + i) (As := As) (rest := st) ⟨hx, hb, hml, hown, hts⟩ hM ⟨⟨rfl, rfl, hR.1, hR.2, pay_TW hts q2, List.mem_cons_self, hts _ q2, hts _ q3, ⟨q4, q5⟩, hlen, hts _ hl⟩, hts _ i1, hts _ i2⟩ hpre rfl hn hL.1 hst (lv_room hw) hd hf) kk
  · refine run_go C hE hS hL (va_runVN (Ts := TW) (own := Y.1.cls) (C := Y'.1.cls) (nL := Y.2.2.1) (index := ix) (host := host) (bytes := Y'.2.1) (maxL := Y'.2.2.1) (ret := Y'.2.2.2.1) (n := n) (b := g.2.1 + i) (As := As) (rest := st) ⟨hx, hb, hml, hown, hts⟩ hM ⟨⟨⟨rfl, rfl, hR.1, hR.2, pay_TW hts q2, List.mem_cons_self⟩, hts _ q2, hts _ q3, ⟨q4, q5⟩, hlen, va_Nw.use rfl (hK.2.1 _ hl)⟩, hts _ i1, hts _ i2⟩ hpre rfl hn hL.1 hst (lv_room hw) hd hf) kk
theorem a_callS {n : Nat} {As : List Value} (ct : c_S Y pc Y' pc') (hm : m_ok Y' n) (hi : Cond.static Y'.1 ∈ TW) (hR : fitR Y Y') (hM : Does g Y' V As mi ml Post) (hn : As.length = n) (hst : st0 = As.reverse ++ st) (hw : (st.map fun v => v.category).sum ≤ 8) (hf : fitK k Y Y')
    (kk : ∀ (v : Option Value) (V1 : Vw) (m1 : Mi) (l1 : Ml), Post v V1 m1 l1 → At g Y E QF V1 (k.1 + Y'.2.2.2.2.cells, k.2 + Y'.2.2.2.2.slots) pc' L (v.toList ++ st) m1 l1) : At g Y E QF V k pc L st0 mi ml := by
  intro p e s m args below meth c H locs ls C hE hW hS hL
  obtain ⟨ix, hd, rfl, hlk⟩ := ct
  obtain ⟨hx, hb, hret, hml, hown, hts, hlocks, hnm, hK⟩ := id C
  obtain ⟨q1, q2, q3, q4, q5, q6⟩ := hm
  have hlen : ∀ sig, parseMethodDescriptor Y'.1.desc = some sig → n = sig.parameters.length := fun sig h => by
    rw [h] at q6
    exact (Option.some.inj q6).symm
  have hpre : PreS s H (va_Pc As (fun U => Wd g V mi ml U.heap ∧ Kx g U)) As :=
    ⟨pre_blind, fun U hU hWm => ⟨rfl, by rw [hU]; exact hW, hK.warm hWm (by rw [hU]; exact Nat.le_trans hK.2.2.2 hS.1)⟩⟩
  rcases hlk with hl | ⟨host, hl⟩
  · refine run_go C hE hS hL (va_runS (Ts := TW) (own := Y.1.cls) (nL := Y.2.2.1) (index := ix) (bytes := Y'.2.1) (maxL := Y'.2.2.1) (ret := Y'.2.2.2.1) (n := n) (As := As) (rest := st) ⟨hx, hb, hml, hown, hts⟩ hM ⟨⟨rfl, rfl, hR.1, hR.2, pay_TW hts q2, List.mem_cons_self, hts _ q2, hts _ q3, ⟨q4, q5⟩, hlen, hts _ hl⟩, hts _ hi⟩ hpre rfl hn hL.1 hst (lv_room hw) hd hf) kk
  · refine run_go C hE hS hL (va_runSN (Ts := TW) (own := Y.1.cls) (nL := Y.2.2.1) (index := ix) (host := host) (bytes := Y'.2.1) (maxL := Y'.2.2.1) (ret := Y'.2.2.2.1) (n := n) (As := As) (rest := st) ⟨hx, hb, hml, hown, hts⟩ hM ⟨⟨⟨rfl, rfl, hR.1, hR.2, pay_TW hts q2, List.mem_cons_self⟩, hts _ q2, hts _ q3, ⟨q4, q5⟩, hlen, va_Nw.use rfl (hK.2.1 _ hl)⟩, hts _ hi, trivial⟩ hpre rfl hn hL.1 hst (lv_room hw) hd hf) kk
theorem a_callI {i n : Nat} {As : List Value} (ct : c_I Y pc Y' pc') (hm : m_ok Y' n) (hi : Cond.instanceMethod Y'.1 ∈ TW ∧ Y'.1.name = "<init>" ∧ Y'.2.2.2.1 = none) (hR : fitR Y Y') (hM : Does g Y' V (rf g i :: As) mi ml Post) (hn : As.length = n) (hst : st0 = As.reverse ++ rf g i :: st) (hw : (st.map fun v => v.category).sum ≤ 8) (hf : fitK k Y Y')
    (kk : ∀ (v : Option Value) (V1 : Vw) (m1 : Mi) (l1 : Ml), Post v V1 m1 l1 → At g Y E QF V1 (k.1 + Y'.2.2.2.2.cells, k.2 + Y'.2.2.2.2.slots) pc' L (v.toList ++ st) m1 l1) : At g Y E QF V k pc L st0 mi ml := by
  intro p e s m args below meth c H locs ls C hE hW hS hL
  obtain ⟨ix, hd, rfl, hlk⟩ := ct
  obtain ⟨hx, hb, hret, hml, hown, hts, hlocks, hnm, hK⟩ := id C
  obtain ⟨q1, q2, q3, q4, q5, q6⟩ := hm
  obtain ⟨i1, i2, i3⟩ := hi
  have hlen : ∀ sig, parseMethodDescriptor Y'.1.desc = some sig → n = sig.parameters.length := fun sig h => by
    rw [h] at q6
    exact (Option.some.inj q6).symm
  have hpre : PreS s H (va_Pc (rf g i :: As) (fun U => Wd g V mi ml U.heap ∧ Kx g U)) (.ref (g.2.1 + i) :: As) :=
    ⟨pre_blind, fun U hU hWm => ⟨rfl, by rw [hU]; exact hW, hK.warm hWm (by rw [hU]; exact Nat.le_trans hK.2.2.2 hS.1)⟩⟩
  have q2' : Cond.code Y'.1 Y'.2.1 Y'.2.2.1 none ∈ TW := by rw [← i3]; exact q2
  have hmem : Cond.code Y'.1 Y'.2.1 Y'.2.2.1 none ∈ (Cond.code Y'.1 Y'.2.1 Y'.2.2.1 Y'.2.2.2.1 :: TW) := by rw [i3]; exact List.mem_cons_self
  rcases hlk with hl | ⟨host, hl⟩
  · refine run_go C hE hS hL (va_runI (Ts := TW) (own := Y.1.cls) (nL := Y.2.2.1) (index := ix) (bytes := Y'.2.1) (maxL := Y'.2.2.1) (n := n) (b := g.2.1 + i) (As := As) (rest := st) ⟨hx, hb, hml, hown, hts⟩ hM ⟨⟨rfl, rfl, hR.1, hR.2, pay_TW hts q2, hmem, hts _ q2', hts _ q3, ⟨q4, q5⟩, hlen, hts _ hl⟩, i2, hts _ i1⟩ hpre rfl hn hL.1 hst (lv_room hw) hd hf) kk
  · refine run_go C hE hS hL (va_runIN (Ts := TW) (own := Y.1.cls) (nL := Y.2.2.1) (index := ix) (host := host) (bytes := Y'.2.1) (maxL := Y'.2.2.1) (n := n) (b := g.2.1 + i) (As := As) (rest := st) ⟨hx, hb, hml, hown, hts⟩ hM ⟨⟨⟨rfl, rfl, hR.1, hR.2, pay_TW hts q2, hmem⟩, hts _ q2', hts _ q3, ⟨q4, q5⟩, hlen, va_Nw.use rfl (hK.2.1 _ hl)⟩, i2, hts _ i1⟩ hpre rfl hn hL.1 hst (lv_room hw) hd hf) kk
def fitE (k : Nat × Nat) (Y : Ym) : Prop := k.1 ≤ Y.2.2.2.2.cells ∧ k.2 ≤ Y.2.2.2.2.slots
theorem a_iret {v : Int32} (ct : c_op Y pc .ireturn pc') (hr : Y.2.2.2.1 = some .int) (hk : fitE k Y) (hp : Post (some (.int v)) V mi ml) : At g Y E (qm g Y Post) V k pc L [.int v] mi ml := by
  intro p e s m args below meth c H locs ls C hE hW hS hL
  obtain ⟨hd, rfl⟩ := ct
  refine W.widen hk.1 hk.2 (W.iret C.1 C.2.1 (by rw [C.2.2.1]; exact hr) (fun t ht hWm => ⟨_, V, mi, ml, rfl, hp, by rw [ht]; exact hW, hS.F ht⟩) hS.2.2 hd C.2.2.2.2.2.2.1)
theorem a_zret {v : Int32} (ct : c_op Y pc .ireturn pc') (hr : Y.2.2.2.1 = some .boolean) (hn : narrow .boolean (.int v) = .int v) (hk : fitE k Y) (hp : Post (some (.int v)) V mi ml) : At g Y E (qm g Y Post) V k pc L [.int v] mi ml := by
  intro p e s m args below meth c H locs ls C hE hW hS hL
  obtain ⟨hd, rfl⟩ := ct
  refine W.widen hk.1 hk.2 (W.zret C.1 C.2.1 (by rw [C.2.2.1]; exact hr) hn (fun t ht hWm => ⟨_, V, mi, ml, rfl, hp, by rw [ht]; exact hW, hS.F ht⟩) hS.2.2 hd C.2.2.2.2.2.2.1)
theorem a_vret (ct : c_op Y pc .return_ pc') (hr : Y.2.2.2.1 = none) (hk : fitE k Y) (hp : Post none V mi ml) : At g Y E (qm g Y Post) V k pc L [] mi ml := by
  intro p e s m args below meth c H locs ls C hE hW hS hL
  obtain ⟨hd, rfl⟩ := ct
  refine W.widen hk.1 hk.2 (W.vret C.1 C.2.1 (by rw [C.2.2.1]; exact hr) (fun t ht hWm => ⟨_, V, mi, ml, rfl, hp, by rw [ht]; exact hW, hS.F ht⟩) hS.2.2 hd C.2.2.2.2.2.2.1)
theorem a_aret {a : Nat} {n : String} (ct : c_op Y pc .areturn pc') (hr : Y.2.2.2.1 = some (.object n)) (hk : fitE k Y) (hp : Post (some (rf g a)) V mi ml) : At g Y E (qm g Y Post) V k pc L [rf g a] mi ml := by
  intro p e s m args below meth c H locs ls C hE hW hS hL
  obtain ⟨hd, rfl⟩ := ct
  refine W.widen hk.1 hk.2 (W.aret C.1 C.2.1 (by rw [C.2.2.1]; exact hr) (Or.inl ⟨n, rfl⟩) (Or.inr ⟨_, rfl⟩) (fun t ht hWm => ⟨_, V, mi, ml, rfl, hp, by rw [ht]; exact hW, hS.F ht⟩) hS.2.2 hd C.2.2.2.2.2.2.1)
end Calls
end
section
/-! 07: Math.min, Math.max, System.arraycopy, switches, new cells -/
def c_M (Y : Ym) (pc : Nat) (y : MethodName) (pc' : Nat) : Prop := ∃ i : Nat, decode Y.2.1 pc = .ok (.invokestatic i, 3) ∧ pc' = pc + 3 ∧ Cond.methodLink Y.1.cls i y ∈ TW
theorem tw_min1 : Cond.static Lib.Math.min.name ∈ TW := by decide +kernel
theorem tw_min2 : Cond.initialized "java/lang/Math" ∈ TW := by decide +kernel
theorem tw_min3 : Cond.code Lib.Math.min.name Lib.Math.min.code 2 (some .int) ∈ TW := by decide +kernel
theorem tw_max1 : Cond.static Lib.Math.max.name ∈ TW := by decide +kernel
theorem tw_max3 : Cond.code Lib.Math.max.name Lib.Math.max.code 2 (some .int) ∈ TW := by decide +kernel
theorem tw_cp1 : Cond.native arraycopyName ∈ TW := by decide +kernel
theorem tw_cp2 : Cond.static arraycopyName ∈ TW := by decide +kernel
theorem tw_cp3 : Cond.initialized "java/lang/System" ∈ TW := by decide +kernel
theorem tw_oi1 : Cond.instanceMethod Lib.objectInit ∈ TW := by decide +kernel
theorem tw_oi2 : Cond.code Lib.objectInit ⟨#[0xb1]⟩ 1 none ∈ TW := by decide +kernel
section More
variable {g : Gm} {Y Y' : Ym} {E : Ex} {QF : Qf} {V : Vw} {k : Nat × Nat} {pc pc' tgt : Nat} {L : List (Option Value)} {st st0 : List Value} {mi : Mi} {ml : Ml} {Post : Ps}
theorem a_max {x y : Int32} (ct : c_M Y pc Lib.Math.max.name pc') (hR : 1 ≤ Y.2.2.2.2.frames ∧ (st.map fun v => v.category).sum + 13 ≤ Y.2.2.2.2.locals) (hk : fitE k Y) (kk : At g Y E QF V k pc' L (.int (if x < y then y else x) :: st) mi ml) : At g Y E QF V k pc L (.int y :: .int x :: st) mi ml := by
  intro p e s m args below meth c H locs ls C hE hW hS hL
  obtain ⟨i, hd, rfl, hl⟩ := ct
  exact va_mmax C.1 C.2.1 (by rw [C.2.2.2.1, hL.1]) C.2.2.2.2.1 (C.2.2.2.2.2.1 _ hl) (C.2.2.2.2.2.1 _ tw_max1) (C.2.2.2.2.2.1 _ tw_min2) (C.2.2.2.2.2.1 _ tw_max3) hR.1 hR.2 hk.1 hk.2 hd (kk p e s m args below meth c H locs ls C hE hW hS hL)
theorem a_min {x y : Int32} (ct : c_M Y pc Lib.Math.min.name pc') (hR : 1 ≤ Y.2.2.2.2.frames ∧ (st.map fun v => v.category).sum + 13 ≤ Y.2.2.2.2.locals) (hk : fitE k Y) (kk : At g Y E QF V k pc' L (.int (if y < x then y else x) :: st) mi ml) : At g Y E QF V k pc L (.int y :: .int x :: st) mi ml := by
  intro p e s m args below meth c H locs ls C hE hW hS hL
  obtain ⟨i, hd, rfl, hl⟩ := ct
  exact va_mmin C.1 C.2.1 (by rw [C.2.2.2.1, hL.1]) C.2.2.2.2.1 (C.2.2.2.2.2.1 _ hl) (C.2.2.2.2.2.1 _ tw_min1) (C.2.2.2.2.2.1 _ tw_min2) (C.2.2.2.2.2.1 _ tw_min3) hR.1 hR.2 hk.1 hk.2 hd (kk p e s m args below meth c H locs ls C hE hW hS hL)
theorem a_copy {i j N0 N1 : Nat} {sp dp n : Int32} (ct : c_M Y pc arraycopyName pc') (hfl : V.2.2.2 = false) (hs : V.2.1 i = (9, N0)) (hs1 : V.2.1 j = (9, N1)) (h1 : ¬ sp < 0) (h2 : ¬ dp < 0) (h3 : ¬ n < 0) (h4 : sp.toNatClampNeg + n.toNatClampNeg ≤ N0) (h5 : dp.toNatClampNeg + n.toNatClampNeg ≤ N1)
    (hR : 1 ≤ Y.2.2.2.2.frames ∧ (st.map fun v => v.category).sum + (nativeFrameWords "java/lang/System" "arraycopy" 5 + 11) ≤ Y.2.2.2.2.locals) (kk : At g Y E QF V k pc' L st (ur mi j (va_cpy (mi i) (mi j) sp.toNatClampNeg dp.toNatClampNeg n.toNatClampNeg)) ml) : At g Y E QF V k pc L (.int n :: .int dp :: rf g j :: .int sp :: rf g i :: st) mi ml := by
  intro p e s m args below meth c H locs ls C hE hW hS hL
  obtain ⟨ix, hd, rfl, hl⟩ := ct
  have hi := hW.lt hs (by decide)
  have hj := hW.lt hs1 (by decide)
  have ha0 : (wl g V mi ml)[i]? = some (g.2.1 + i, .inl (g.2.2.2 0, N0, .inl (mi i))) := by rw [wl_get hi, ce_i hs]
  have ha1 : (wl g V mi ml)[j]? = some (g.2.1 + j, .inl (g.2.2.2 0, N1, .inl (mi j))) := by rw [wl_get hj, ce_i hs1]
  refine va_copyi C.1 C.2.1 (by rw [C.2.2.2.1, hL.1]) C.2.2.2.2.1 (C.2.2.2.2.2.1 _ hl) (C.2.2.2.2.2.1 _ tw_cp1) (C.2.2.2.2.2.1 _ tw_cp2) (C.2.2.2.2.2.1 _ tw_cp3) C.2.2.2.2.2.2.2.2.1 hW.2.1 wl_D hS i j 0 0 ha0 ha1 rfl rfl rfl h1 h2 h3 h4 h5 (fun _ _ => rfl) hR.1 hR.2 hd fun H1 locs1 hP _ hS1 => ?_
  rw [wl_set (V' := V) (mi' := ur mi j (va_cpy (mi i) (mi j) sp.toNatClampNeg dp.toNatClampNeg n.toNatClampNeg)) (ml' := ml) hj rfl (by rw [ce_i hs1, ur_s]) (fun q hq => by simp [ce, ur_ne hq])] at hP
  exact kk p e s m args below meth c H1 locs1 ls C hE ⟨fun h => absurd (hfl.symm.trans h) (by decide), hP, hW.2.2⟩ hS1 hL
theorem a_objInit {i : Nat} (ct : ∃ ix : Nat, decode Y.2.1 pc = .ok (.invokespecial ix, 3) ∧ pc' = pc + 3 ∧ Cond.methodLink Y.1.cls ix Lib.objectInit ∈ TW) (hR : 1 ≤ Y.2.2.2.2.frames ∧ (st.map fun v => v.category).sum + 12 ≤ Y.2.2.2.2.locals) (kk : At g Y E QF V k pc' L st mi ml) : At g Y E QF V k pc L (rf g i :: st) mi ml := by
  intro p e s m args below meth c H locs ls C hE hW hS hL
  obtain ⟨ix, hd, rfl, hl⟩ := ct
  refine W.objInit C.1 C.2.1 C.2.2.2.2.1 (C.2.2.2.2.2.1 _ hl) (C.2.2.2.2.2.1 _ tw_oi1) (C.2.2.2.2.2.1 _ tw_oi2) rfl (by rw [C.2.2.2.1]; exact hL.1) rfl hd hR.1 (by show 2 * 0 + _ + _ ≤ _; omega) ?_
  exact kk p e s m args below meth c H locs ls C hE hW hS hL
theorem a_unflag (kk : At g Y E QF (V.1, V.2.1, V.2.2.1, false) k pc L st mi ml) : At g Y E QF V k pc L st mi ml := by
  intro p e s m args below meth c H locs ls C hE hW hS hL
  exact kk p e s m args below meth c H locs ls C hE ⟨fun h => absurd (show false = true from h) (by decide), hW.2.1, hW.2.2⟩ hS hL
/-- switches: the case's number is known, or it is none of them -/
def c_tb (Y : Ym) (pc : Nat) (lo hi : Int) (dt : Nat) (ts : List Nat) : Prop := ∃ (d : Int) (offs : Array Int) (len : Nat), decode Y.2.1 pc = .ok (.tableswitch d lo hi offs, len) ∧ (pc : Int) + d = (dt : Int) ∧ offs.toList.map (fun o : Int => (pc : Int) + o) = ts.map (fun t : Nat => (t : Int))
theorem a_tb {lo hi : Int} {dt : Nat} {ts : List Nat} {x : Int32} (ct : c_tb Y pc lo hi dt ts) (h1 : ¬ x.toInt < lo) (h2 : ¬ hi < x.toInt) (ht : ts[(x.toInt - lo).toNat]? = some tgt) (kk : At g Y E QF V k tgt L st mi ml) : At g Y E QF V k pc L (.int x :: st) mi ml := by
  intro p e s m args below meth c H locs ls C hE hW hS hL
  obtain ⟨d, offs, len, hd, -, ho⟩ := ct
  have h3 : (offs.toList.map (fun o : Int => (pc : Int) + o))[(x.toInt - lo).toNat]? = some (tgt : Int) := by rw [ho, List.getElem?_map, ht]; rfl
  rw [List.getElem?_map] at h3
  obtain ⟨o, h4, h5⟩ := Option.map_eq_some_iff.mp h3
  exact lv_tableIn C.1 C.2.1 hd h1 h2 (by rw [← Array.getElem?_toList]; exact h4) h5 (kk p e s m args below meth c H locs ls C hE hW hS hL)
theorem a_tbo {lo hi : Int} {dt : Nat} {ts : List Nat} {x : Int32} (ct : c_tb Y pc lo hi dt ts) (h : x.toInt < lo ∨ hi < x.toInt) (kk : At g Y E QF V k dt L st mi ml) : At g Y E QF V k pc L (.int x :: st) mi ml := by
  intro p e s m args below meth c H locs ls C hE hW hS hL
  obtain ⟨d, offs, len, hd, h5, -⟩ := ct
  exact lv_tableOut C.1 C.2.1 hd h h5 (kk p e s m args below meth c H locs ls C hE hW hS hL)
def lkT : List (Int × Nat) → Nat → Int → Nat
  | [], d, _ => d
  | (a, t) :: r, d, x => if x = a then t else lkT r d x
def c_lw (Y : Ym) (pc : Nat) (dt : Nat) (ts : List (Int × Nat)) : Prop := ∃ (d : Int) (ps : Array (Int × Int)) (len : Nat), decode Y.2.1 pc = .ok (.lookupswitch d ps, len) ∧ (ps.toList.zip (ps.toList.drop 1)).all (fun (a, next) => a.1 < next.1) = true ∧ (pc : Int) + d = (dt : Int) ∧ ps.toList.map (fun o : Int × Int => (o.1, (pc : Int) + o.2)) = ts.map (fun t : Int × Nat => (t.1, (t.2 : Int)))
theorem lk_off {d : Int} {dt : Nat} (hd : (pc : Int) + d = (dt : Int)) (x : Int) : ∀ (ps : List (Int × Int)) (ts : List (Int × Nat)), ps.map (fun o : Int × Int => (o.1, (pc : Int) + o.2)) = ts.map (fun t : Int × Nat => (t.1, (t.2 : Int))) → (pc : Int) + Op.lookupswitch.offset ps d x = ((lkT ts dt x : Nat) : Int)
  | [], [], _ => hd
  | [], _ :: _, h => by simp at h
  | _ :: _, [], h => by simp at h
  | (a, o) :: ps, (b, t) :: ts, h => by
    simp only [List.map_cons, List.cons.injEq, Prod.mk.injEq] at h
    obtain ⟨⟨rfl, h2⟩, h3⟩ := h
    rw [Op.lookupswitch.offset_cons]
    simp only [lkT]
    by_cases hx : x = a
    · rw [if_pos hx]
      first | rw [if_pos hx.symm] | rw [if_pos hx]
      exact h2
    · rw [if_neg hx]
      first | rw [if_neg (fun h => hx h.symm)] | rw [if_neg hx]
      exact lk_off hd x ps ts h3
theorem a_lw {dt : Nat} {ts : List (Int × Nat)} {x : Int32} (ct : c_lw Y pc dt ts) (kk : At g Y E QF V k (lkT ts dt x.toInt) L st mi ml) : At g Y E QF V k pc L (.int x :: st) mi ml := by
  intro p e s m args below meth c H locs ls C hE hW hS hL
  obtain ⟨d, ps, len, hd, hp, h5, ho⟩ := ct
  exact lv_lookup C.1 C.2.1 hd hp rfl (lk_off h5 x.toInt _ _ ho) (kk p e s m args below meth c H locs ls C hE hW hS hL)
end More
end
