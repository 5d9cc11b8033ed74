-- 00.tables
section
-- ===== PART A: goes FIRST, ahead of the names: the tables' words, and 'selects' of the private methods out of them =====
/-- a private method of a class that the tables say can be made, by its rows of tables_1 -/
def lw_okq (q : MethodName × Nat) : Prop := (q.1.cls ≠ "java/lang/invoke/MethodHandle" ∧ q.1.cls ≠ "java/lang/invoke/VarHandle") ∧ Cond.instantiable q.1.cls q.2 ∈ tables_1 ∧ Cond.privateMethod q.1 ∈ tables_1 ∧ Cond.instanceMethod q.1 ∈ tables_1
theorem lw_p0 : lw_okq (⟨"SourceDispute$Tokens", "add", "(IJI)V"⟩, 5) := ⟨⟨by decide +kernel, by decide +kernel⟩, List.mem_of_getElem? (i := 53) (by decide +kernel), List.mem_of_getElem? (i := 491) (by decide +kernel), List.mem_of_getElem? (i := 492) (by decide +kernel)⟩
theorem lw_p1 : lw_okq (⟨"SourceDispute$Tokens", "addLetters", "([BII)I"⟩, 5) := ⟨⟨by decide +kernel, by decide +kernel⟩, List.mem_of_getElem? (i := 53) (by decide +kernel), List.mem_of_getElem? (i := 498) (by decide +kernel), List.mem_of_getElem? (i := 499) (by decide +kernel)⟩
theorem lw_p2 : lw_okq (⟨"SourceDispute$Tokens", "kindOf", "(J)I"⟩, 5) := ⟨⟨by decide +kernel, by decide +kernel⟩, List.mem_of_getElem? (i := 53) (by decide +kernel), List.mem_of_getElem? (i := 502) (by decide +kernel), List.mem_of_getElem? (i := 503) (by decide +kernel)⟩
theorem lw_p3 : lw_okq (⟨"SourceDispute$Tokens", "addDigits", "([BII)I"⟩, 5) := ⟨⟨by decide +kernel, by decide +kernel⟩, List.mem_of_getElem? (i := 53) (by decide +kernel), List.mem_of_getElem? (i := 509) (by decide +kernel), List.mem_of_getElem? (i := 510) (by decide +kernel)⟩
theorem lw_p4 : lw_okq (⟨"SourceDispute$Parser", "goTo", "(I)V"⟩, 12) := ⟨⟨by decide +kernel, by decide +kernel⟩, List.mem_of_getElem? (i := 47) (by decide +kernel), List.mem_of_getElem? (i := 574) (by decide +kernel), List.mem_of_getElem? (i := 575) (by decide +kernel)⟩
theorem lw_p5 : lw_okq (⟨"SourceDispute$Parser", "telling", "()V"⟩, 12) := ⟨⟨by decide +kernel, by decide +kernel⟩, List.mem_of_getElem? (i := 47) (by decide +kernel), List.mem_of_getElem? (i := 578) (by decide +kernel), List.mem_of_getElem? (i := 579) (by decide +kernel)⟩
theorem lw_p6 : lw_okq (⟨"SourceDispute$Parser", "mouth", "()V"⟩, 12) := ⟨⟨by decide +kernel, by decide +kernel⟩, List.mem_of_getElem? (i := 47) (by decide +kernel), List.mem_of_getElem? (i := 582) (by decide +kernel), List.mem_of_getElem? (i := 583) (by decide +kernel)⟩
theorem lw_p7 : lw_okq (⟨"SourceDispute$Parser", "fail", "(I)V"⟩, 12) := ⟨⟨by decide +kernel, by decide +kernel⟩, List.mem_of_getElem? (i := 47) (by decide +kernel), List.mem_of_getElem? (i := 586) (by decide +kernel), List.mem_of_getElem? (i := 587) (by decide +kernel)⟩
theorem lw_p8 : lw_okq (⟨"SourceDispute$Parser", "take", "(I)V"⟩, 12) := ⟨⟨by decide +kernel, by decide +kernel⟩, List.mem_of_getElem? (i := 47) (by decide +kernel), List.mem_of_getElem? (i := 590) (by decide +kernel), List.mem_of_getElem? (i := 591) (by decide +kernel)⟩
theorem lw_p9 : lw_okq (⟨"SourceDispute$Parser", "newName", "()J"⟩, 12) := ⟨⟨by decide +kernel, by decide +kernel⟩, List.mem_of_getElem? (i := 47) (by decide +kernel), List.mem_of_getElem? (i := 594) (by decide +kernel), List.mem_of_getElem? (i := 595) (by decide +kernel)⟩
theorem lw_p10 : lw_okq (⟨"SourceDispute$Parser", "placeNamed", "(J)I"⟩, 12) := ⟨⟨by decide +kernel, by decide +kernel⟩, List.mem_of_getElem? (i := 47) (by decide +kernel), List.mem_of_getElem? (i := 598) (by decide +kernel), List.mem_of_getElem? (i := 599) (by decide +kernel)⟩
theorem lw_p11 : lw_okq (⟨"SourceDispute$Parser", "failLate", "(I)V"⟩, 12) := ⟨⟨by decide +kernel, by decide +kernel⟩, List.mem_of_getElem? (i := 47) (by decide +kernel), List.mem_of_getElem? (i := 602) (by decide +kernel), List.mem_of_getElem? (i := 603) (by decide +kernel)⟩
theorem lw_p12 : lw_okq (⟨"SourceDispute$Parser", "newPlace", "()V"⟩, 12) := ⟨⟨by decide +kernel, by decide +kernel⟩, List.mem_of_getElem? (i := 47) (by decide +kernel), List.mem_of_getElem? (i := 610) (by decide +kernel), List.mem_of_getElem? (i := 611) (by decide +kernel)⟩
theorem lw_p13 : lw_okq (⟨"SourceDispute$Parser", "knownName", "()I"⟩, 12) := ⟨⟨by decide +kernel, by decide +kernel⟩, List.mem_of_getElem? (i := 47) (by decide +kernel), List.mem_of_getElem? (i := 614) (by decide +kernel), List.mem_of_getElem? (i := 615) (by decide +kernel)⟩
theorem lw_p14 : lw_okq (⟨"SourceDispute$Parser", "number", "(II)I"⟩, 12) := ⟨⟨by decide +kernel, by decide +kernel⟩, List.mem_of_getElem? (i := 47) (by decide +kernel), List.mem_of_getElem? (i := 619) (by decide +kernel), List.mem_of_getElem? (i := 620) (by decide +kernel)⟩
theorem lw_p15 : lw_okq (⟨"SourceDispute$Parser", "law", "(I)V"⟩, 12) := ⟨⟨by decide +kernel, by decide +kernel⟩, List.mem_of_getElem? (i := 47) (by decide +kernel), List.mem_of_getElem? (i := 626) (by decide +kernel), List.mem_of_getElem? (i := 627) (by decide +kernel)⟩
def lw_privs_1 : List (MethodName × Nat) := [(⟨"SourceDispute$Tokens", "add", "(IJI)V"⟩, 5), (⟨"SourceDispute$Tokens", "addLetters", "([BII)I"⟩, 5), (⟨"SourceDispute$Tokens", "kindOf", "(J)I"⟩, 5), (⟨"SourceDispute$Tokens", "addDigits", "([BII)I"⟩, 5), (⟨"SourceDispute$Parser", "goTo", "(I)V"⟩, 12), (⟨"SourceDispute$Parser", "telling", "()V"⟩, 12), (⟨"SourceDispute$Parser", "mouth", "()V"⟩, 12), (⟨"SourceDispute$Parser", "fail", "(I)V"⟩, 12), (⟨"SourceDispute$Parser", "take", "(I)V"⟩, 12), (⟨"SourceDispute$Parser", "newName", "()J"⟩, 12), (⟨"SourceDispute$Parser", "placeNamed", "(J)I"⟩, 12), (⟨"SourceDispute$Parser", "failLate", "(I)V"⟩, 12), (⟨"SourceDispute$Parser", "newPlace", "()V"⟩, 12), (⟨"SourceDispute$Parser", "knownName", "()I"⟩, 12), (⟨"SourceDispute$Parser", "number", "(II)I"⟩, 12), (⟨"SourceDispute$Parser", "law", "(I)V"⟩, 12)]
theorem lw_r1 : ∀ q ∈ lw_privs_1, lw_okq q := List.forall_mem_cons.mpr ⟨lw_p0, List.forall_mem_cons.mpr ⟨lw_p1, List.forall_mem_cons.mpr ⟨lw_p2, List.forall_mem_cons.mpr ⟨lw_p3, List.forall_mem_cons.mpr ⟨lw_p4, List.forall_mem_cons.mpr ⟨lw_p5, List.forall_mem_cons.mpr ⟨lw_p6, List.forall_mem_cons.mpr ⟨lw_p7, List.forall_mem_cons.mpr ⟨lw_p8, List.forall_mem_cons.mpr ⟨lw_p9, List.forall_mem_cons.mpr ⟨lw_p10, List.forall_mem_cons.mpr ⟨lw_p11, List.forall_mem_cons.mpr ⟨lw_p12, List.forall_mem_cons.mpr ⟨lw_p13, List.forall_mem_cons.mpr ⟨lw_p14, List.forall_mem_cons.mpr ⟨lw_p15, fun _ h => absurd h List.not_mem_nil⟩⟩⟩⟩⟩⟩⟩⟩⟩⟩⟩⟩⟩⟩⟩⟩
theorem lw_p16 : lw_okq (⟨"SourceDispute$Parser", "sum", "(I)V"⟩, 12) := ⟨⟨by decide +kernel, by decide +kernel⟩, List.mem_of_getElem? (i := 47) (by decide +kernel), List.mem_of_getElem? (i := 630) (by decide +kernel), List.mem_of_getElem? (i := 631) (by decide +kernel)⟩
theorem lw_p17 : lw_okq (⟨"SourceDispute$Parser", "product", "(I)V"⟩, 12) := ⟨⟨by decide +kernel, by decide +kernel⟩, List.mem_of_getElem? (i := 47) (by decide +kernel), List.mem_of_getElem? (i := 634) (by decide +kernel), List.mem_of_getElem? (i := 635) (by decide +kernel)⟩
theorem lw_p18 : lw_okq (⟨"SourceDispute$Parser", "unit", "(I)V"⟩, 12) := ⟨⟨by decide +kernel, by decide +kernel⟩, List.mem_of_getElem? (i := 47) (by decide +kernel), List.mem_of_getElem? (i := 638) (by decide +kernel), List.mem_of_getElem? (i := 639) (by decide +kernel)⟩
theorem lw_p19 : lw_okq (⟨"SourceDispute", "beginAnew", "()V"⟩, 14) := ⟨⟨by decide +kernel, by decide +kernel⟩, List.mem_of_getElem? (i := 23) (by decide +kernel), List.mem_of_getElem? (i := 647) (by decide +kernel), List.mem_of_getElem? (i := 648) (by decide +kernel)⟩
theorem lw_p20 : lw_okq (⟨"SourceDispute", "isPlace", "(I)Z"⟩, 14) := ⟨⟨by decide +kernel, by decide +kernel⟩, List.mem_of_getElem? (i := 23) (by decide +kernel), List.mem_of_getElem? (i := 669) (by decide +kernel), List.mem_of_getElem? (i := 670) (by decide +kernel)⟩
theorem lw_p21 : lw_okq (⟨"SourceDispute", "look", "()V"⟩, 14) := ⟨⟨by decide +kernel, by decide +kernel⟩, List.mem_of_getElem? (i := 23) (by decide +kernel), List.mem_of_getElem? (i := 674) (by decide +kernel), List.mem_of_getElem? (i := 675) (by decide +kernel)⟩
theorem lw_p22 : lw_okq (⟨"SourceDispute$River", "form", "(LSourceDispute$Told;LSourceDispute$Course;)V"⟩, 7) := ⟨⟨by decide +kernel, by decide +kernel⟩, List.mem_of_getElem? (i := 172) (by decide +kernel), List.mem_of_getElem? (i := 682) (by decide +kernel), List.mem_of_getElem? (i := 683) (by decide +kernel)⟩
theorem lw_p23 : lw_okq (⟨"SourceDispute$Shape", "countAbove", "(LSourceDispute$Course;)V"⟩, 7) := ⟨⟨by decide +kernel, by decide +kernel⟩, List.mem_of_getElem? (i := 178) (by decide +kernel), List.mem_of_getElem? (i := 694) (by decide +kernel), List.mem_of_getElem? (i := 695) (by decide +kernel)⟩
theorem lw_p24 : lw_okq (⟨"SourceDispute$River", "fall", "(I)V"⟩, 7) := ⟨⟨by decide +kernel, by decide +kernel⟩, List.mem_of_getElem? (i := 172) (by decide +kernel), List.mem_of_getElem? (i := 699) (by decide +kernel), List.mem_of_getElem? (i := 700) (by decide +kernel)⟩
theorem lw_p25 : lw_okq (⟨"SourceDispute$River", "rainDown", "(I)V"⟩, 7) := ⟨⟨by decide +kernel, by decide +kernel⟩, List.mem_of_getElem? (i := 172) (by decide +kernel), List.mem_of_getElem? (i := 703) (by decide +kernel), List.mem_of_getElem? (i := 704) (by decide +kernel)⟩
theorem lw_p26 : lw_okq (⟨"SourceDispute$River", "tells", "(III)I"⟩, 7) := ⟨⟨by decide +kernel, by decide +kernel⟩, List.mem_of_getElem? (i := 172) (by decide +kernel), List.mem_of_getElem? (i := 707) (by decide +kernel), List.mem_of_getElem? (i := 708) (by decide +kernel)⟩
theorem lw_p27 : lw_okq (⟨"SourceDispute", "isContest", "(II)Z"⟩, 14) := ⟨⟨by decide +kernel, by decide +kernel⟩, List.mem_of_getElem? (i := 23) (by decide +kernel), List.mem_of_getElem? (i := 747) (by decide +kernel), List.mem_of_getElem? (i := 748) (by decide +kernel)⟩
theorem lw_p28 : lw_okq (⟨"SourceDispute", "isLaw", "(I)Z"⟩, 14) := ⟨⟨by decide +kernel, by decide +kernel⟩, List.mem_of_getElem? (i := 23) (by decide +kernel), List.mem_of_getElem? (i := 751) (by decide +kernel), List.mem_of_getElem? (i := 752) (by decide +kernel)⟩
theorem lw_p29 : lw_okq (⟨"SourceDispute", "mouthFlow", "()I"⟩, 14) := ⟨⟨by decide +kernel, by decide +kernel⟩, List.mem_of_getElem? (i := 23) (by decide +kernel), List.mem_of_getElem? (i := 787) (by decide +kernel), List.mem_of_getElem? (i := 788) (by decide +kernel)⟩
theorem lw_p30 : lw_okq (⟨"SourceDispute", "hasMouth", "()Z"⟩, 14) := ⟨⟨by decide +kernel, by decide +kernel⟩, List.mem_of_getElem? (i := 23) (by decide +kernel), List.mem_of_getElem? (i := 791) (by decide +kernel), List.mem_of_getElem? (i := 792) (by decide +kernel)⟩
theorem lw_p31 : lw_okq (⟨"SourceDispute", "sumOf", "([I)I"⟩, 14) := ⟨⟨by decide +kernel, by decide +kernel⟩, List.mem_of_getElem? (i := 23) (by decide +kernel), List.mem_of_getElem? (i := 795) (by decide +kernel), List.mem_of_getElem? (i := 796) (by decide +kernel)⟩
def lw_privs_2 : List (MethodName × Nat) := [(⟨"SourceDispute$Parser", "sum", "(I)V"⟩, 12), (⟨"SourceDispute$Parser", "product", "(I)V"⟩, 12), (⟨"SourceDispute$Parser", "unit", "(I)V"⟩, 12), (⟨"SourceDispute", "beginAnew", "()V"⟩, 14), (⟨"SourceDispute", "isPlace", "(I)Z"⟩, 14), (⟨"SourceDispute", "look", "()V"⟩, 14), (⟨"SourceDispute$River", "form", "(LSourceDispute$Told;LSourceDispute$Course;)V"⟩, 7), (⟨"SourceDispute$Shape", "countAbove", "(LSourceDispute$Course;)V"⟩, 7), (⟨"SourceDispute$River", "fall", "(I)V"⟩, 7), (⟨"SourceDispute$River", "rainDown", "(I)V"⟩, 7), (⟨"SourceDispute$River", "tells", "(III)I"⟩, 7), (⟨"SourceDispute", "isContest", "(II)Z"⟩, 14), (⟨"SourceDispute", "isLaw", "(I)Z"⟩, 14), (⟨"SourceDispute", "mouthFlow", "()I"⟩, 14), (⟨"SourceDispute", "hasMouth", "()Z"⟩, 14), (⟨"SourceDispute", "sumOf", "([I)I"⟩, 14)]
theorem lw_r2 : ∀ q ∈ lw_privs_2, lw_okq q := List.forall_mem_cons.mpr ⟨lw_p16, List.forall_mem_cons.mpr ⟨lw_p17, List.forall_mem_cons.mpr ⟨lw_p18, List.forall_mem_cons.mpr ⟨lw_p19, List.forall_mem_cons.mpr ⟨lw_p20, List.forall_mem_cons.mpr ⟨lw_p21, List.forall_mem_cons.mpr ⟨lw_p22, List.forall_mem_cons.mpr ⟨lw_p23, List.forall_mem_cons.mpr ⟨lw_p24, List.forall_mem_cons.mpr ⟨lw_p25, List.forall_mem_cons.mpr ⟨lw_p26, List.forall_mem_cons.mpr ⟨lw_p27, List.forall_mem_cons.mpr ⟨lw_p28, List.forall_mem_cons.mpr ⟨lw_p29, List.forall_mem_cons.mpr ⟨lw_p30, List.forall_mem_cons.mpr ⟨lw_p31, fun _ h => absurd h List.not_mem_nil⟩⟩⟩⟩⟩⟩⟩⟩⟩⟩⟩⟩⟩⟩⟩⟩
theorem lw_p32 : lw_okq (⟨"SourceDispute", "turnedPlaces", "()I"⟩, 14) := ⟨⟨by decide +kernel, by decide +kernel⟩, List.mem_of_getElem? (i := 23) (by decide +kernel), List.mem_of_getElem? (i := 817) (by decide +kernel), List.mem_of_getElem? (i := 818) (by decide +kernel)⟩
theorem lw_p33 : lw_okq (⟨"SourceDispute", "isTurn", "(II)Z"⟩, 14) := ⟨⟨by decide +kernel, by decide +kernel⟩, List.mem_of_getElem? (i := 23) (by decide +kernel), List.mem_of_getElem? (i := 843) (by decide +kernel), List.mem_of_getElem? (i := 844) (by decide +kernel)⟩
theorem lw_p34 : lw_okq (⟨"SourceDispute$River", "endMonth", "()V"⟩, 7) := ⟨⟨by decide +kernel, by decide +kernel⟩, List.mem_of_getElem? (i := 172) (by decide +kernel), List.mem_of_getElem? (i := 864) (by decide +kernel), List.mem_of_getElem? (i := 865) (by decide +kernel)⟩
theorem lw_p35 : lw_okq (⟨"SourceDispute", "castVotes", "()V"⟩, 14) := ⟨⟨by decide +kernel, by decide +kernel⟩, List.mem_of_getElem? (i := 23) (by decide +kernel), List.mem_of_getElem? (i := 913) (by decide +kernel), List.mem_of_getElem? (i := 914) (by decide +kernel)⟩
theorem lw_p36 : lw_okq (⟨"SourceDispute", "votesFor", "(I)I"⟩, 14) := ⟨⟨by decide +kernel, by decide +kernel⟩, List.mem_of_getElem? (i := 23) (by decide +kernel), List.mem_of_getElem? (i := 917) (by decide +kernel), List.mem_of_getElem? (i := 918) (by decide +kernel)⟩
theorem lw_p37 : lw_okq (⟨"SourceDispute", "winsTurned", "(IIII)Z"⟩, 14) := ⟨⟨by decide +kernel, by decide +kernel⟩, List.mem_of_getElem? (i := 23) (by decide +kernel), List.mem_of_getElem? (i := 929) (by decide +kernel), List.mem_of_getElem? (i := 930) (by decide +kernel)⟩
theorem lw_p38 : lw_okq (⟨"SourceDispute", "fewestDams", "(I)I"⟩, 14) := ⟨⟨by decide +kernel, by decide +kernel⟩, List.mem_of_getElem? (i := 23) (by decide +kernel), List.mem_of_getElem? (i := 942) (by decide +kernel), List.mem_of_getElem? (i := 943) (by decide +kernel)⟩
theorem lw_p39 : lw_okq (⟨"SourceDispute", "lossOf", "(I)I"⟩, 14) := ⟨⟨by decide +kernel, by decide +kernel⟩, List.mem_of_getElem? (i := 23) (by decide +kernel), List.mem_of_getElem? (i := 956) (by decide +kernel), List.mem_of_getElem? (i := 957) (by decide +kernel)⟩
theorem lw_p40 : lw_okq (⟨"SourceDispute", "greatestInto", "(I)I"⟩, 14) := ⟨⟨by decide +kernel, by decide +kernel⟩, List.mem_of_getElem? (i := 23) (by decide +kernel), List.mem_of_getElem? (i := 968) (by decide +kernel), List.mem_of_getElem? (i := 969) (by decide +kernel)⟩
theorem lw_p41 : lw_okq (⟨"SourceDispute", "tryFromNow", "()V"⟩, 14) := ⟨⟨by decide +kernel, by decide +kernel⟩, List.mem_of_getElem? (i := 23) (by decide +kernel), List.mem_of_getElem? (i := 976) (by decide +kernel), List.mem_of_getElem? (i := 977) (by decide +kernel)⟩
theorem lw_p42 : lw_okq (⟨"SourceDispute", "tallied", "()I"⟩, 14) := ⟨⟨by decide +kernel, by decide +kernel⟩, List.mem_of_getElem? (i := 23) (by decide +kernel), List.mem_of_getElem? (i := 993) (by decide +kernel), List.mem_of_getElem? (i := 994) (by decide +kernel)⟩
theorem lw_p43 : lw_okq (⟨"SourceDispute", "mostTallied", "()I"⟩, 14) := ⟨⟨by decide +kernel, by decide +kernel⟩, List.mem_of_getElem? (i := 23) (by decide +kernel), List.mem_of_getElem? (i := 997) (by decide +kernel), List.mem_of_getElem? (i := 998) (by decide +kernel)⟩
theorem lw_p44 : lw_okq (⟨"SourceDispute", "hasWonMost", "(I)Z"⟩, 14) := ⟨⟨by decide +kernel, by decide +kernel⟩, List.mem_of_getElem? (i := 23) (by decide +kernel), List.mem_of_getElem? (i := 1017) (by decide +kernel), List.mem_of_getElem? (i := 1018) (by decide +kernel)⟩
theorem lw_p45 : lw_okq (⟨"SourceDispute$Dye", "isSo", "(LSourceDispute$Shape;II)Z"⟩, 5) := ⟨⟨by decide +kernel, by decide +kernel⟩, List.mem_of_getElem? (i := 310) (by decide +kernel), List.mem_of_getElem? (i := 1092) (by decide +kernel), List.mem_of_getElem? (i := 1093) (by decide +kernel)⟩
theorem lw_p46 : lw_okq (⟨"SourceDispute", "leftAtWorst", "(II)I"⟩, 14) := ⟨⟨by decide +kernel, by decide +kernel⟩, List.mem_of_getElem? (i := 23) (by decide +kernel), List.mem_of_getElem? (i := 1103) (by decide +kernel), List.mem_of_getElem? (i := 1104) (by decide +kernel)⟩
theorem lw_p47 : lw_okq (⟨"SourceDisputeModel", "plain", "(I)V"⟩, 69) := ⟨⟨by decide +kernel, by decide +kernel⟩, List.mem_of_getElem? (i := 1107) (by decide +kernel), List.mem_of_getElem? (i := 1113) (by decide +kernel), List.mem_of_getElem? (i := 1114) (by decide +kernel)⟩
def lw_privs_3 : List (MethodName × Nat) := [(⟨"SourceDispute", "turnedPlaces", "()I"⟩, 14), (⟨"SourceDispute", "isTurn", "(II)Z"⟩, 14), (⟨"SourceDispute$River", "endMonth", "()V"⟩, 7), (⟨"SourceDispute", "castVotes", "()V"⟩, 14), (⟨"SourceDispute", "votesFor", "(I)I"⟩, 14), (⟨"SourceDispute", "winsTurned", "(IIII)Z"⟩, 14), (⟨"SourceDispute", "fewestDams", "(I)I"⟩, 14), (⟨"SourceDispute", "lossOf", "(I)I"⟩, 14), (⟨"SourceDispute", "greatestInto", "(I)I"⟩, 14), (⟨"SourceDispute", "tryFromNow", "()V"⟩, 14), (⟨"SourceDispute", "tallied", "()I"⟩, 14), (⟨"SourceDispute", "mostTallied", "()I"⟩, 14), (⟨"SourceDispute", "hasWonMost", "(I)Z"⟩, 14), (⟨"SourceDispute$Dye", "isSo", "(LSourceDispute$Shape;II)Z"⟩, 5), (⟨"SourceDispute", "leftAtWorst", "(II)I"⟩, 14), (⟨"SourceDisputeModel", "plain", "(I)V"⟩, 69)]
theorem lw_r3 : ∀ q ∈ lw_privs_3, lw_okq q := List.forall_mem_cons.mpr ⟨lw_p32, List.forall_mem_cons.mpr ⟨lw_p33, List.forall_mem_cons.mpr ⟨lw_p34, List.forall_mem_cons.mpr ⟨lw_p35, List.forall_mem_cons.mpr ⟨lw_p36, List.forall_mem_cons.mpr ⟨lw_p37, List.forall_mem_cons.mpr ⟨lw_p38, List.forall_mem_cons.mpr ⟨lw_p39, List.forall_mem_cons.mpr ⟨lw_p40, List.forall_mem_cons.mpr ⟨lw_p41, List.forall_mem_cons.mpr ⟨lw_p42, List.forall_mem_cons.mpr ⟨lw_p43, List.forall_mem_cons.mpr ⟨lw_p44, List.forall_mem_cons.mpr ⟨lw_p45, List.forall_mem_cons.mpr ⟨lw_p46, List.forall_mem_cons.mpr ⟨lw_p47, fun _ h => absurd h List.not_mem_nil⟩⟩⟩⟩⟩⟩⟩⟩⟩⟩⟩⟩⟩⟩⟩⟩
theorem lw_p48 : lw_okq (⟨"SourceDisputeModel", "begins", "()V"⟩, 69) := ⟨⟨by decide +kernel, by decide +kernel⟩, List.mem_of_getElem? (i := 1107) (by decide +kernel), List.mem_of_getElem? (i := 1124) (by decide +kernel), List.mem_of_getElem? (i := 1125) (by decide +kernel)⟩
theorem lw_p49 : lw_okq (⟨"SourceDisputeModel", "many", "()I"⟩, 69) := ⟨⟨by decide +kernel, by decide +kernel⟩, List.mem_of_getElem? (i := 1107) (by decide +kernel), List.mem_of_getElem? (i := 1128) (by decide +kernel), List.mem_of_getElem? (i := 1129) (by decide +kernel)⟩
theorem lw_p50 : lw_okq (⟨"SourceDisputeModel", "keepsRow", "()V"⟩, 69) := ⟨⟨by decide +kernel, by decide +kernel⟩, List.mem_of_getElem? (i := 1107) (by decide +kernel), List.mem_of_getElem? (i := 1132) (by decide +kernel), List.mem_of_getElem? (i := 1133) (by decide +kernel)⟩
theorem lw_p51 : lw_okq (⟨"SourceDisputeModel", "put", "(I)V"⟩, 69) := ⟨⟨by decide +kernel, by decide +kernel⟩, List.mem_of_getElem? (i := 1107) (by decide +kernel), List.mem_of_getElem? (i := 1347) (by decide +kernel), List.mem_of_getElem? (i := 1348) (by decide +kernel)⟩
theorem lw_p52 : lw_okq (⟨"SourceDisputeModel", "cut", "()V"⟩, 69) := ⟨⟨by decide +kernel, by decide +kernel⟩, List.mem_of_getElem? (i := 1107) (by decide +kernel), List.mem_of_getElem? (i := 1359) (by decide +kernel), List.mem_of_getElem? (i := 1360) (by decide +kernel)⟩
theorem lw_p53 : lw_okq (⟨"SourceDisputeModel", "byteAt", "(I)I"⟩, 69) := ⟨⟨by decide +kernel, by decide +kernel⟩, List.mem_of_getElem? (i := 1107) (by decide +kernel), List.mem_of_getElem? (i := 1363) (by decide +kernel), List.mem_of_getElem? (i := 1364) (by decide +kernel)⟩
theorem lw_p54 : lw_okq (⟨"SourceDisputeModel", "token", "(IIIJ)V"⟩, 69) := ⟨⟨by decide +kernel, by decide +kernel⟩, List.mem_of_getElem? (i := 1107) (by decide +kernel), List.mem_of_getElem? (i := 1367) (by decide +kernel), List.mem_of_getElem? (i := 1368) (by decide +kernel)⟩
theorem lw_p55 : lw_okq (⟨"SourceDisputeModel", "sign", "(III)I"⟩, 69) := ⟨⟨by decide +kernel, by decide +kernel⟩, List.mem_of_getElem? (i := 1107) (by decide +kernel), List.mem_of_getElem? (i := 1377) (by decide +kernel), List.mem_of_getElem? (i := 1378) (by decide +kernel)⟩
theorem lw_p56 : lw_okq (⟨"SourceDisputeModel", "is", "(I)Z"⟩, 69) := ⟨⟨by decide +kernel, by decide +kernel⟩, List.mem_of_getElem? (i := 1107) (by decide +kernel), List.mem_of_getElem? (i := 1381) (by decide +kernel), List.mem_of_getElem? (i := 1382) (by decide +kernel)⟩
theorem lw_p57 : lw_okq (⟨"SourceDisputeModel", "tellOne", "()V"⟩, 69) := ⟨⟨by decide +kernel, by decide +kernel⟩, List.mem_of_getElem? (i := 1107) (by decide +kernel), List.mem_of_getElem? (i := 1385) (by decide +kernel), List.mem_of_getElem? (i := 1386) (by decide +kernel)⟩
theorem lw_p58 : lw_okq (⟨"SourceDisputeModel", "fail", "(I)V"⟩, 69) := ⟨⟨by decide +kernel, by decide +kernel⟩, List.mem_of_getElem? (i := 1107) (by decide +kernel), List.mem_of_getElem? (i := 1389) (by decide +kernel), List.mem_of_getElem? (i := 1390) (by decide +kernel)⟩
theorem lw_p59 : lw_okq (⟨"SourceDisputeModel", "goesOn", "()V"⟩, 69) := ⟨⟨by decide +kernel, by decide +kernel⟩, List.mem_of_getElem? (i := 1107) (by decide +kernel), List.mem_of_getElem? (i := 1393) (by decide +kernel), List.mem_of_getElem? (i := 1394) (by decide +kernel)⟩
theorem lw_p60 : lw_okq (⟨"SourceDisputeModel", "tellMouth", "()V"⟩, 69) := ⟨⟨by decide +kernel, by decide +kernel⟩, List.mem_of_getElem? (i := 1107) (by decide +kernel), List.mem_of_getElem? (i := 1397) (by decide +kernel), List.mem_of_getElem? (i := 1398) (by decide +kernel)⟩
theorem lw_p61 : lw_okq (⟨"SourceDisputeModel", "named", "()I"⟩, 69) := ⟨⟨by decide +kernel, by decide +kernel⟩, List.mem_of_getElem? (i := 1107) (by decide +kernel), List.mem_of_getElem? (i := 1401) (by decide +kernel), List.mem_of_getElem? (i := 1402) (by decide +kernel)⟩
theorem lw_p62 : lw_okq (⟨"SourceDisputeModel", "must", "(I)V"⟩, 69) := ⟨⟨by decide +kernel, by decide +kernel⟩, List.mem_of_getElem? (i := 1107) (by decide +kernel), List.mem_of_getElem? (i := 1405) (by decide +kernel), List.mem_of_getElem? (i := 1406) (by decide +kernel)⟩
theorem lw_p63 : lw_okq (⟨"SourceDisputeModel", "numberOf", "(I)I"⟩, 69) := ⟨⟨by decide +kernel, by decide +kernel⟩, List.mem_of_getElem? (i := 1107) (by decide +kernel), List.mem_of_getElem? (i := 1409) (by decide +kernel), List.mem_of_getElem? (i := 1410) (by decide +kernel)⟩
def lw_privs_4 : List (MethodName × Nat) := [(⟨"SourceDisputeModel", "begins", "()V"⟩, 69), (⟨"SourceDisputeModel", "many", "()I"⟩, 69), (⟨"SourceDisputeModel", "keepsRow", "()V"⟩, 69), (⟨"SourceDisputeModel", "put", "(I)V"⟩, 69), (⟨"SourceDisputeModel", "cut", "()V"⟩, 69), (⟨"SourceDisputeModel", "byteAt", "(I)I"⟩, 69), (⟨"SourceDisputeModel", "token", "(IIIJ)V"⟩, 69), (⟨"SourceDisputeModel", "sign", "(III)I"⟩, 69), (⟨"SourceDisputeModel", "is", "(I)Z"⟩, 69), (⟨"SourceDisputeModel", "tellOne", "()V"⟩, 69), (⟨"SourceDisputeModel", "fail", "(I)V"⟩, 69), (⟨"SourceDisputeModel", "goesOn", "()V"⟩, 69), (⟨"SourceDisputeModel", "tellMouth", "()V"⟩, 69), (⟨"SourceDisputeModel", "named", "()I"⟩, 69), (⟨"SourceDisputeModel", "must", "(I)V"⟩, 69), (⟨"SourceDisputeModel", "numberOf", "(I)I"⟩, 69)]
theorem lw_r4 : ∀ q ∈ lw_privs_4, lw_okq q := List.forall_mem_cons.mpr ⟨lw_p48, List.forall_mem_cons.mpr ⟨lw_p49, List.forall_mem_cons.mpr ⟨lw_p50, List.forall_mem_cons.mpr ⟨lw_p51, List.forall_mem_cons.mpr ⟨lw_p52, List.forall_mem_cons.mpr ⟨lw_p53, List.forall_mem_cons.mpr ⟨lw_p54, List.forall_mem_cons.mpr ⟨lw_p55, List.forall_mem_cons.mpr ⟨lw_p56, List.forall_mem_cons.mpr ⟨lw_p57, List.forall_mem_cons.mpr ⟨lw_p58, List.forall_mem_cons.mpr ⟨lw_p59, List.forall_mem_cons.mpr ⟨lw_p60, List.forall_mem_cons.mpr ⟨lw_p61, List.forall_mem_cons.mpr ⟨lw_p62, List.forall_mem_cons.mpr ⟨lw_p63, fun _ h => absurd h List.not_mem_nil⟩⟩⟩⟩⟩⟩⟩⟩⟩⟩⟩⟩⟩⟩⟩⟩
theorem lw_p64 : lw_okq (⟨"SourceDisputeModel", "wrong", "(II)V"⟩, 69) := ⟨⟨by decide +kernel, by decide +kernel⟩, List.mem_of_getElem? (i := 1107) (by decide +kernel), List.mem_of_getElem? (i := 1413) (by decide +kernel), List.mem_of_getElem? (i := 1414) (by decide +kernel)⟩
theorem lw_p65 : lw_okq (⟨"SourceDisputeModel", "tellPlace", "()V"⟩, 69) := ⟨⟨by decide +kernel, by decide +kernel⟩, List.mem_of_getElem? (i := 1107) (by decide +kernel), List.mem_of_getElem? (i := 1417) (by decide +kernel), List.mem_of_getElem? (i := 1418) (by decide +kernel)⟩
theorem lw_p66 : lw_okq (⟨"SourceDisputeModel", "bounded", "(II)I"⟩, 69) := ⟨⟨by decide +kernel, by decide +kernel⟩, List.mem_of_getElem? (i := 1107) (by decide +kernel), List.mem_of_getElem? (i := 1421) (by decide +kernel), List.mem_of_getElem? (i := 1422) (by decide +kernel)⟩
theorem lw_p67 : lw_okq (⟨"SourceDisputeModel", "tellLaw", "(I)V"⟩, 69) := ⟨⟨by decide +kernel, by decide +kernel⟩, List.mem_of_getElem? (i := 1107) (by decide +kernel), List.mem_of_getElem? (i := 1425) (by decide +kernel), List.mem_of_getElem? (i := 1426) (by decide +kernel)⟩
theorem lw_p68 : lw_okq (⟨"SourceDisputeModel", "expression", "()V"⟩, 69) := ⟨⟨by decide +kernel, by decide +kernel⟩, List.mem_of_getElem? (i := 1107) (by decide +kernel), List.mem_of_getElem? (i := 1429) (by decide +kernel), List.mem_of_getElem? (i := 1430) (by decide +kernel)⟩
theorem lw_p69 : lw_okq (⟨"SourceDisputeModel", "unit", "()V"⟩, 69) := ⟨⟨by decide +kernel, by decide +kernel⟩, List.mem_of_getElem? (i := 1107) (by decide +kernel), List.mem_of_getElem? (i := 1433) (by decide +kernel), List.mem_of_getElem? (i := 1434) (by decide +kernel)⟩
theorem lw_p70 : lw_okq (⟨"SourceDisputeModel", "emit", "(II)V"⟩, 69) := ⟨⟨by decide +kernel, by decide +kernel⟩, List.mem_of_getElem? (i := 1107) (by decide +kernel), List.mem_of_getElem? (i := 1437) (by decide +kernel), List.mem_of_getElem? (i := 1438) (by decide +kernel)⟩
theorem lw_p71 : lw_okq (⟨"SourceDisputeModel", "comesOut", "(Z)V"⟩, 69) := ⟨⟨by decide +kernel, by decide +kernel⟩, List.mem_of_getElem? (i := 1107) (by decide +kernel), List.mem_of_getElem? (i := 1441) (by decide +kernel), List.mem_of_getElem? (i := 1442) (by decide +kernel)⟩
theorem lw_p72 : lw_okq (⟨"SourceDisputeModel", "term", "()V"⟩, 69) := ⟨⟨by decide +kernel, by decide +kernel⟩, List.mem_of_getElem? (i := 1107) (by decide +kernel), List.mem_of_getElem? (i := 1445) (by decide +kernel), List.mem_of_getElem? (i := 1446) (by decide +kernel)⟩
theorem lw_p73 : lw_okq (⟨"SourceDisputeModel", "isPlace", "(I)Z"⟩, 69) := ⟨⟨by decide +kernel, by decide +kernel⟩, List.mem_of_getElem? (i := 1107) (by decide +kernel), List.mem_of_getElem? (i := 1457) (by decide +kernel), List.mem_of_getElem? (i := 1458) (by decide +kernel)⟩
theorem lw_p74 : lw_okq (⟨"SourceDisputeModel", "copies", "()V"⟩, 69) := ⟨⟨by decide +kernel, by decide +kernel⟩, List.mem_of_getElem? (i := 1107) (by decide +kernel), List.mem_of_getElem? (i := 1464) (by decide +kernel), List.mem_of_getElem? (i := 1465) (by decide +kernel)⟩
theorem lw_p75 : lw_okq (⟨"SourceDisputeModel", "fillsWays", "()V"⟩, 69) := ⟨⟨by decide +kernel, by decide +kernel⟩, List.mem_of_getElem? (i := 1107) (by decide +kernel), List.mem_of_getElem? (i := 1468) (by decide +kernel), List.mem_of_getElem? (i := 1469) (by decide +kernel)⟩
theorem lw_p76 : lw_okq (⟨"SourceDisputeModel", "fillsFlows", "(I)V"⟩, 69) := ⟨⟨by decide +kernel, by decide +kernel⟩, List.mem_of_getElem? (i := 1107) (by decide +kernel), List.mem_of_getElem? (i := 1472) (by decide +kernel), List.mem_of_getElem? (i := 1473) (by decide +kernel)⟩
theorem lw_p77 : lw_okq (⟨"SourceDisputeModel", "rainsAt", "(I)I"⟩, 69) := ⟨⟨by decide +kernel, by decide +kernel⟩, List.mem_of_getElem? (i := 1107) (by decide +kernel), List.mem_of_getElem? (i := 1476) (by decide +kernel), List.mem_of_getElem? (i := 1477) (by decide +kernel)⟩
theorem lw_p78 : lw_okq (⟨"SourceDisputeModel", "looks", "(II)V"⟩, 69) := ⟨⟨by decide +kernel, by decide +kernel⟩, List.mem_of_getElem? (i := 1107) (by decide +kernel), List.mem_of_getElem? (i := 1480) (by decide +kernel), List.mem_of_getElem? (i := 1481) (by decide +kernel)⟩
theorem lw_p79 : lw_okq (⟨"SourceDisputeModel", "lawTells", "(II)I"⟩, 69) := ⟨⟨by decide +kernel, by decide +kernel⟩, List.mem_of_getElem? (i := 1107) (by decide +kernel), List.mem_of_getElem? (i := 1487) (by decide +kernel), List.mem_of_getElem? (i := 1488) (by decide +kernel)⟩
def lw_privs_5 : List (MethodName × Nat) := [(⟨"SourceDisputeModel", "wrong", "(II)V"⟩, 69), (⟨"SourceDisputeModel", "tellPlace", "()V"⟩, 69), (⟨"SourceDisputeModel", "bounded", "(II)I"⟩, 69), (⟨"SourceDisputeModel", "tellLaw", "(I)V"⟩, 69), (⟨"SourceDisputeModel", "expression", "()V"⟩, 69), (⟨"SourceDisputeModel", "unit", "()V"⟩, 69), (⟨"SourceDisputeModel", "emit", "(II)V"⟩, 69), (⟨"SourceDisputeModel", "comesOut", "(Z)V"⟩, 69), (⟨"SourceDisputeModel", "term", "()V"⟩, 69), (⟨"SourceDisputeModel", "isPlace", "(I)Z"⟩, 69), (⟨"SourceDisputeModel", "copies", "()V"⟩, 69), (⟨"SourceDisputeModel", "fillsWays", "()V"⟩, 69), (⟨"SourceDisputeModel", "fillsFlows", "(I)V"⟩, 69), (⟨"SourceDisputeModel", "rainsAt", "(I)I"⟩, 69), (⟨"SourceDisputeModel", "looks", "(II)V"⟩, 69), (⟨"SourceDisputeModel", "lawTells", "(II)I"⟩, 69)]
theorem lw_r5 : ∀ q ∈ lw_privs_5, lw_okq q := List.forall_mem_cons.mpr ⟨lw_p64, List.forall_mem_cons.mpr ⟨lw_p65, List.forall_mem_cons.mpr ⟨lw_p66, List.forall_mem_cons.mpr ⟨lw_p67, List.forall_mem_cons.mpr ⟨lw_p68, List.forall_mem_cons.mpr ⟨lw_p69, List.forall_mem_cons.mpr ⟨lw_p70, List.forall_mem_cons.mpr ⟨lw_p71, List.forall_mem_cons.mpr ⟨lw_p72, List.forall_mem_cons.mpr ⟨lw_p73, List.forall_mem_cons.mpr ⟨lw_p74, List.forall_mem_cons.mpr ⟨lw_p75, List.forall_mem_cons.mpr ⟨lw_p76, List.forall_mem_cons.mpr ⟨lw_p77, List.forall_mem_cons.mpr ⟨lw_p78, List.forall_mem_cons.mpr ⟨lw_p79, fun _ h => absurd h List.not_mem_nil⟩⟩⟩⟩⟩⟩⟩⟩⟩⟩⟩⟩⟩⟩⟩⟩
theorem lw_p80 : lw_okq (⟨"SourceDisputeModel", "termOf", "(II)I"⟩, 69) := ⟨⟨by decide +kernel, by decide +kernel⟩, List.mem_of_getElem? (i := 1107) (by decide +kernel), List.mem_of_getElem? (i := 1491) (by decide +kernel), List.mem_of_getElem? (i := 1492) (by decide +kernel)⟩
theorem lw_p81 : lw_okq (⟨"SourceDisputeModel", "driesAt", "(I)I"⟩, 69) := ⟨⟨by decide +kernel, by decide +kernel⟩, List.mem_of_getElem? (i := 1107) (by decide +kernel), List.mem_of_getElem? (i := 1498) (by decide +kernel), List.mem_of_getElem? (i := 1499) (by decide +kernel)⟩
theorem lw_p82 : lw_okq (⟨"SourceDisputeModel", "isSource", "(I)Z"⟩, 69) := ⟨⟨by decide +kernel, by decide +kernel⟩, List.mem_of_getElem? (i := 1107) (by decide +kernel), List.mem_of_getElem? (i := 1502) (by decide +kernel), List.mem_of_getElem? (i := 1503) (by decide +kernel)⟩
theorem lw_p83 : lw_okq (⟨"SourceDisputeModel", "isBeside", "(I)Z"⟩, 69) := ⟨⟨by decide +kernel, by decide +kernel⟩, List.mem_of_getElem? (i := 1107) (by decide +kernel), List.mem_of_getElem? (i := 1506) (by decide +kernel), List.mem_of_getElem? (i := 1507) (by decide +kernel)⟩
theorem lw_p84 : lw_okq (⟨"SourceDisputeModel", "isClaim", "(II)Z"⟩, 69) := ⟨⟨by decide +kernel, by decide +kernel⟩, List.mem_of_getElem? (i := 1107) (by decide +kernel), List.mem_of_getElem? (i := 1514) (by decide +kernel), List.mem_of_getElem? (i := 1515) (by decide +kernel)⟩
theorem lw_p85 : lw_okq (⟨"SourceDisputeModel", "claimOf", "(II)I"⟩, 69) := ⟨⟨by decide +kernel, by decide +kernel⟩, List.mem_of_getElem? (i := 1107) (by decide +kernel), List.mem_of_getElem? (i := 1521) (by decide +kernel), List.mem_of_getElem? (i := 1522) (by decide +kernel)⟩
theorem lw_p86 : lw_okq (⟨"SourceDisputeModel", "winnerBy", "(I)I"⟩, 69) := ⟨⟨by decide +kernel, by decide +kernel⟩, List.mem_of_getElem? (i := 1107) (by decide +kernel), List.mem_of_getElem? (i := 1530) (by decide +kernel), List.mem_of_getElem? (i := 1531) (by decide +kernel)⟩
theorem lw_p87 : lw_okq (⟨"SourceDisputeModel", "does", "(II)V"⟩, 69) := ⟨⟨by decide +kernel, by decide +kernel⟩, List.mem_of_getElem? (i := 1107) (by decide +kernel), List.mem_of_getElem? (i := 1538) (by decide +kernel), List.mem_of_getElem? (i := 1539) (by decide +kernel)⟩
theorem lw_p88 : lw_okq (⟨"SourceDisputeModel", "records", "()V"⟩, 69) := ⟨⟨by decide +kernel, by decide +kernel⟩, List.mem_of_getElem? (i := 1107) (by decide +kernel), List.mem_of_getElem? (i := 1542) (by decide +kernel), List.mem_of_getElem? (i := 1543) (by decide +kernel)⟩
theorem lw_p89 : lw_okq (⟨"SourceDisputeModel", "canTurn", "(II)Z"⟩, 69) := ⟨⟨by decide +kernel, by decide +kernel⟩, List.mem_of_getElem? (i := 1107) (by decide +kernel), List.mem_of_getElem? (i := 1550) (by decide +kernel), List.mem_of_getElem? (i := 1551) (by decide +kernel)⟩
theorem lw_p90 : lw_okq (⟨"SourceDisputeModel", "goes", "(I)V"⟩, 69) := ⟨⟨by decide +kernel, by decide +kernel⟩, List.mem_of_getElem? (i := 1107) (by decide +kernel), List.mem_of_getElem? (i := 1565) (by decide +kernel), List.mem_of_getElem? (i := 1566) (by decide +kernel)⟩
theorem lw_p91 : lw_okq (⟨"SourceDisputeModel", "monthGoes", "()V"⟩, 69) := ⟨⟨by decide +kernel, by decide +kernel⟩, List.mem_of_getElem? (i := 1107) (by decide +kernel), List.mem_of_getElem? (i := 1569) (by decide +kernel), List.mem_of_getElem? (i := 1570) (by decide +kernel)⟩
theorem lw_p92 : lw_okq (⟨"SourceDisputeModel", "isStorm", "()Z"⟩, 69) := ⟨⟨by decide +kernel, by decide +kernel⟩, List.mem_of_getElem? (i := 1107) (by decide +kernel), List.mem_of_getElem? (i := 1573) (by decide +kernel), List.mem_of_getElem? (i := 1574) (by decide +kernel)⟩
theorem lw_p93 : lw_okq (⟨"SourceDisputeModel", "copiesStill", "()V"⟩, 69) := ⟨⟨by decide +kernel, by decide +kernel⟩, List.mem_of_getElem? (i := 1107) (by decide +kernel), List.mem_of_getElem? (i := 1592) (by decide +kernel), List.mem_of_getElem? (i := 1593) (by decide +kernel)⟩
theorem lw_p94 : lw_okq (⟨"SourceDisputeModel", "rankOf", "(II)I"⟩, 69) := ⟨⟨by decide +kernel, by decide +kernel⟩, List.mem_of_getElem? (i := 1107) (by decide +kernel), List.mem_of_getElem? (i := 1612) (by decide +kernel), List.mem_of_getElem? (i := 1613) (by decide +kernel)⟩
theorem lw_p95 : lw_okq (⟨"SourceDisputeModel", "sourceBits", "()I"⟩, 69) := ⟨⟨by decide +kernel, by decide +kernel⟩, List.mem_of_getElem? (i := 1107) (by decide +kernel), List.mem_of_getElem? (i := 1620) (by decide +kernel), List.mem_of_getElem? (i := 1621) (by decide +kernel)⟩
def lw_privs_6 : List (MethodName × Nat) := [(⟨"SourceDisputeModel", "termOf", "(II)I"⟩, 69), (⟨"SourceDisputeModel", "driesAt", "(I)I"⟩, 69), (⟨"SourceDisputeModel", "isSource", "(I)Z"⟩, 69), (⟨"SourceDisputeModel", "isBeside", "(I)Z"⟩, 69), (⟨"SourceDisputeModel", "isClaim", "(II)Z"⟩, 69), (⟨"SourceDisputeModel", "claimOf", "(II)I"⟩, 69), (⟨"SourceDisputeModel", "winnerBy", "(I)I"⟩, 69), (⟨"SourceDisputeModel", "does", "(II)V"⟩, 69), (⟨"SourceDisputeModel", "records", "()V"⟩, 69), (⟨"SourceDisputeModel", "canTurn", "(II)Z"⟩, 69), (⟨"SourceDisputeModel", "goes", "(I)V"⟩, 69), (⟨"SourceDisputeModel", "monthGoes", "()V"⟩, 69), (⟨"SourceDisputeModel", "isStorm", "()Z"⟩, 69), (⟨"SourceDisputeModel", "copiesStill", "()V"⟩, 69), (⟨"SourceDisputeModel", "rankOf", "(II)I"⟩, 69), (⟨"SourceDisputeModel", "sourceBits", "()I"⟩, 69)]
theorem lw_r6 : ∀ q ∈ lw_privs_6, lw_okq q := List.forall_mem_cons.mpr ⟨lw_p80, List.forall_mem_cons.mpr ⟨lw_p81, List.forall_mem_cons.mpr ⟨lw_p82, List.forall_mem_cons.mpr ⟨lw_p83, List.forall_mem_cons.mpr ⟨lw_p84, List.forall_mem_cons.mpr ⟨lw_p85, List.forall_mem_cons.mpr ⟨lw_p86, List.forall_mem_cons.mpr ⟨lw_p87, List.forall_mem_cons.mpr ⟨lw_p88, List.forall_mem_cons.mpr ⟨lw_p89, List.forall_mem_cons.mpr ⟨lw_p90, List.forall_mem_cons.mpr ⟨lw_p91, List.forall_mem_cons.mpr ⟨lw_p92, List.forall_mem_cons.mpr ⟨lw_p93, List.forall_mem_cons.mpr ⟨lw_p94, List.forall_mem_cons.mpr ⟨lw_p95, fun _ h => absurd h List.not_mem_nil⟩⟩⟩⟩⟩⟩⟩⟩⟩⟩⟩⟩⟩⟩⟩⟩
theorem lw_p96 : lw_okq (⟨"SourceDisputeModel", "dammedBits", "()I"⟩, 69) := ⟨⟨by decide +kernel, by decide +kernel⟩, List.mem_of_getElem? (i := 1107) (by decide +kernel), List.mem_of_getElem? (i := 1628) (by decide +kernel), List.mem_of_getElem? (i := 1629) (by decide +kernel)⟩
theorem lw_p97 : lw_okq (⟨"SourceDisputeModel", "damsAll", "(I)V"⟩, 69) := ⟨⟨by decide +kernel, by decide +kernel⟩, List.mem_of_getElem? (i := 1107) (by decide +kernel), List.mem_of_getElem? (i := 1638) (by decide +kernel), List.mem_of_getElem? (i := 1639) (by decide +kernel)⟩
theorem lw_p98 : lw_okq (⟨"SourceDisputeModel", "lossOf", "(I)I"⟩, 69) := ⟨⟨by decide +kernel, by decide +kernel⟩, List.mem_of_getElem? (i := 1107) (by decide +kernel), List.mem_of_getElem? (i := 1646) (by decide +kernel), List.mem_of_getElem? (i := 1647) (by decide +kernel)⟩
theorem lw_p99 : lw_okq (⟨"SourceDisputeModel", "winsTurned", "(IIII)Z"⟩, 69) := ⟨⟨by decide +kernel, by decide +kernel⟩, List.mem_of_getElem? (i := 1107) (by decide +kernel), List.mem_of_getElem? (i := 1666) (by decide +kernel), List.mem_of_getElem? (i := 1667) (by decide +kernel)⟩
theorem lw_p100 : lw_okq (⟨"SourceDisputeModel", "orderAt", "(I)I"⟩, 69) := ⟨⟨by decide +kernel, by decide +kernel⟩, List.mem_of_getElem? (i := 1107) (by decide +kernel), List.mem_of_getElem? (i := 1682) (by decide +kernel), List.mem_of_getElem? (i := 1683) (by decide +kernel)⟩
theorem lw_p101 : lw_okq (⟨"SourceDisputeModel", "tourOf", "(I)I"⟩, 69) := ⟨⟨by decide +kernel, by decide +kernel⟩, List.mem_of_getElem? (i := 1107) (by decide +kernel), List.mem_of_getElem? (i := 1698) (by decide +kernel), List.mem_of_getElem? (i := 1699) (by decide +kernel)⟩
theorem lw_p102 : lw_okq (⟨"SourceDisputeModel", "hasWonMost", "(I)Z"⟩, 69) := ⟨⟨by decide +kernel, by decide +kernel⟩, List.mem_of_getElem? (i := 1107) (by decide +kernel), List.mem_of_getElem? (i := 1726) (by decide +kernel), List.mem_of_getElem? (i := 1727) (by decide +kernel)⟩
theorem lw_p103 : lw_okq (⟨"SourceDisputeModel", "dyedBits", "(I)I"⟩, 69) := ⟨⟨by decide +kernel, by decide +kernel⟩, List.mem_of_getElem? (i := 1107) (by decide +kernel), List.mem_of_getElem? (i := 1742) (by decide +kernel), List.mem_of_getElem? (i := 1743) (by decide +kernel)⟩
theorem lw_p104 : lw_okq (⟨"SourceDisputeModel", "comesBy", "(II)Z"⟩, 69) := ⟨⟨by decide +kernel, by decide +kernel⟩, List.mem_of_getElem? (i := 1107) (by decide +kernel), List.mem_of_getElem? (i := 1746) (by decide +kernel), List.mem_of_getElem? (i := 1747) (by decide +kernel)⟩
def lw_privs_7 : List (MethodName × Nat) := [(⟨"SourceDisputeModel", "dammedBits", "()I"⟩, 69), (⟨"SourceDisputeModel", "damsAll", "(I)V"⟩, 69), (⟨"SourceDisputeModel", "lossOf", "(I)I"⟩, 69), (⟨"SourceDisputeModel", "winsTurned", "(IIII)Z"⟩, 69), (⟨"SourceDisputeModel", "orderAt", "(I)I"⟩, 69), (⟨"SourceDisputeModel", "tourOf", "(I)I"⟩, 69), (⟨"SourceDisputeModel", "hasWonMost", "(I)Z"⟩, 69), (⟨"SourceDisputeModel", "dyedBits", "(I)I"⟩, 69), (⟨"SourceDisputeModel", "comesBy", "(II)Z"⟩, 69)]
theorem lw_r7 : ∀ q ∈ lw_privs_7, lw_okq q := List.forall_mem_cons.mpr ⟨lw_p96, List.forall_mem_cons.mpr ⟨lw_p97, List.forall_mem_cons.mpr ⟨lw_p98, List.forall_mem_cons.mpr ⟨lw_p99, List.forall_mem_cons.mpr ⟨lw_p100, List.forall_mem_cons.mpr ⟨lw_p101, List.forall_mem_cons.mpr ⟨lw_p102, List.forall_mem_cons.mpr ⟨lw_p103, List.forall_mem_cons.mpr ⟨lw_p104, fun _ h => absurd h List.not_mem_nil⟩⟩⟩⟩⟩⟩⟩⟩⟩
def lw_privs : List (MethodName × Nat) := lw_privs_1 ++ (lw_privs_2 ++ (lw_privs_3 ++ (lw_privs_4 ++ (lw_privs_5 ++ (lw_privs_6 ++ (lw_privs_7))))))
def lw_tbl : List Cond := k2_sels lw_privs ++ tables_1
theorem lw_privs_ok : ∀ q ∈ lw_privs, lw_okq q := by
  show ∀ q ∈ lw_privs_1 ++ (lw_privs_2 ++ (lw_privs_3 ++ (lw_privs_4 ++ (lw_privs_5 ++ (lw_privs_6 ++ (lw_privs_7)))))), lw_okq q
  exact List.forall_mem_append.mpr ⟨lw_r1, List.forall_mem_append.mpr ⟨lw_r2, List.forall_mem_append.mpr ⟨lw_r3, List.forall_mem_append.mpr ⟨lw_r4, List.forall_mem_append.mpr ⟨lw_r5, List.forall_mem_append.mpr ⟨lw_r6, lw_r7⟩⟩⟩⟩⟩⟩
-- ===== end of PART A; then your names; then what follows =====
end
-- 01.names
section

def RX0 : String := "SourceDispute$Code"
def TX0 : u_T := fun k => match k with
  | 0 => ("SourceDispute$Code", "vars", "[I", true)
  | _ => ("SourceDispute$Code", "kept", "[I", true)
def tyX0 : Nat → FieldType := fun k => match k with
  | 0 => .array .int
  | _ => .array .int
theorem nmX0 : ∀ a, a < 2 → ∀ b, b < 2 → a ≠ b → (TX0 a).2.1 ≠ (TX0 b).2.1 := by decide +kernel
theorem tyX0_ok : ∀ k, k < 2 → parseFieldDescriptor (TX0 k).2.2.1 = some (tyX0 k) := by decide +kernel
abbrev cX0_init : ByteArray := prog_2_method_1_code
def yX0_init : MethodName := ⟨RX0, "<init>", "()V"⟩
abbrev cX0_answer : ByteArray := prog_2_method_2_code
def yX0_answer : MethodName := ⟨RX0, "answer", "(LSourceDispute$Told;I)I"⟩
def RX1 : String := "SourceDispute$Course"
def TX1 : u_T := fun k => match k with
  | 0 => ("SourceDispute$Course", "into", "[I", true)
  | 1 => ("SourceDispute$Course", "won", "[I", true)
  | 2 => ("SourceDispute$Course", "money", "[I", true)
  | 3 => ("SourceDispute$Course", "dams", "I", false)
  | 4 => ("SourceDispute$Course", "month", "I", false)
  | _ => ("SourceDispute$Course", "rules", "I", false)
def tyX1 : Nat → FieldType := fun k => match k with
  | 0 => .array .int
  | 1 => .array .int
  | 2 => .array .int
  | 3 => .int
  | 4 => .int
  | _ => .int
theorem nmX1 : ∀ a, a < 6 → ∀ b, b < 6 → a ≠ b → (TX1 a).2.1 ≠ (TX1 b).2.1 := by decide +kernel
theorem tyX1_ok : ∀ k, k < 6 → parseFieldDescriptor (TX1 k).2.2.1 = some (tyX1 k) := by decide +kernel
abbrev cX1_init : ByteArray := prog_3_method_1_code
def yX1_init : MethodName := ⟨RX1, "<init>", "()V"⟩
abbrev cX1_begin : ByteArray := prog_3_method_2_code
def yX1_begin : MethodName := ⟨RX1, "begin", "(LSourceDispute$Told;)V"⟩
abbrev cX1_copy : ByteArray := prog_3_method_3_code
def yX1_copy : MethodName := ⟨RX1, "copy", "(LSourceDispute$Course;)V"⟩
abbrev cX1_moon : ByteArray := prog_3_method_4_code
def yX1_moon : MethodName := ⟨RX1, "moon", "()I"⟩
abbrev cX1_comesBy : ByteArray := prog_3_method_5_code
def yX1_comesBy : MethodName := ⟨RX1, "comesBy", "(II)Z"⟩
abbrev cX1_pay : ByteArray := prog_3_method_6_code
def yX1_pay : MethodName := ⟨RX1, "pay", "(II)V"⟩
def RX2 : String := "SourceDispute$Dye"
def TX2 : u_T := fun k => match k with
  | 0 => ("SourceDispute$Dye", "where", "[I", true)
  | 1 => ("SourceDispute$Dye", "from", "[I", true)
  | 2 => ("SourceDispute$Dye", "to", "[I", true)
  | 3 => ("SourceDispute$Dye", "came", "[Z", true)
  | _ => ("SourceDispute$Dye", "size", "I", false)
def tyX2 : Nat → FieldType := fun k => match k with
  | 0 => .array .int
  | 1 => .array .int
  | 2 => .array .int
  | 3 => .array .boolean
  | _ => .int
theorem nmX2 : ∀ a, a < 5 → ∀ b, b < 5 → a ≠ b → (TX2 a).2.1 ≠ (TX2 b).2.1 := by decide +kernel
theorem tyX2_ok : ∀ k, k < 5 → parseFieldDescriptor (TX2 k).2.2.1 = some (tyX2 k) := by decide +kernel
abbrev cX2_init : ByteArray := prog_4_method_1_code
def yX2_init : MethodName := ⟨RX2, "<init>", "()V"⟩
abbrev cX2_add : ByteArray := prog_4_method_2_code
def yX2_add : MethodName := ⟨RX2, "add", "(IIIZ)I"⟩
abbrev cX2_left : ByteArray := prog_4_method_3_code
def yX2_left : MethodName := ⟨RX2, "left", "(LSourceDispute$Shape;I)I"⟩
abbrev cX2_isSo : ByteArray := prog_4_method_4_code
def yX2_isSo : MethodName := ⟨RX2, "isSo", "(LSourceDispute$Shape;II)Z"⟩
def RX3 : String := "SourceDispute$Parser"
def TX3 : u_T := fun k => match k with
  | 0 => ("SourceDispute$Parser", "tokens", "LSourceDispute$Tokens;", true)
  | 1 => ("SourceDispute$Parser", "told", "LSourceDispute$Told;", false)
  | 2 => ("SourceDispute$Parser", "next", "I", false)
  | 3 => ("SourceDispute$Parser", "kind", "I", false)
  | 4 => ("SourceDispute$Parser", "value", "J", false)
  | 5 => ("SourceDispute$Parser", "atByte", "I", false)
  | 6 => ("SourceDispute$Parser", "mouthTold", "Z", false)
  | 7 => ("SourceDispute$Parser", "placesTold", "I", false)
  | 8 => ("SourceDispute$Parser", "fault", "I", false)
  | 9 => ("SourceDispute$Parser", "faultPlace", "I", false)
  | 10 => ("SourceDispute$Parser", "lateFault", "I", false)
  | _ => ("SourceDispute$Parser", "latePlace", "I", false)
def tyX3 : Nat → FieldType := fun k => match k with
  | 0 => .object "SourceDispute$Tokens"
  | 1 => .object "SourceDispute$Told"
  | 2 => .int
  | 3 => .int
  | 4 => .long
  | 5 => .int
  | 6 => .boolean
  | 7 => .int
  | 8 => .int
  | 9 => .int
  | 10 => .int
  | _ => .int
theorem nmX3 : ∀ a, a < 12 → ∀ b, b < 12 → a ≠ b → (TX3 a).2.1 ≠ (TX3 b).2.1 := by decide +kernel
theorem tyX3_ok : ∀ k, k < 12 → parseFieldDescriptor (TX3 k).2.2.1 = some (tyX3 k) := by decide +kernel
abbrev cX3_init : ByteArray := prog_5_method_1_code
def yX3_init : MethodName := ⟨RX3, "<init>", "()V"⟩
abbrev cX3_parse : ByteArray := prog_5_method_2_code
def yX3_parse : MethodName := ⟨RX3, "parse", "([BILSourceDispute$Told;)I"⟩
abbrev cX3_telling : ByteArray := prog_5_method_3_code
def yX3_telling : MethodName := ⟨RX3, "telling", "()V"⟩
abbrev cX3_mouth : ByteArray := prog_5_method_4_code
def yX3_mouth : MethodName := ⟨RX3, "mouth", "()V"⟩
abbrev cX3_newPlace : ByteArray := prog_5_method_5_code
def yX3_newPlace : MethodName := ⟨RX3, "newPlace", "()V"⟩
abbrev cX3_newName : ByteArray := prog_5_method_6_code
def yX3_newName : MethodName := ⟨RX3, "newName", "()J"⟩
abbrev cX3_knownName : ByteArray := prog_5_method_7_code
def yX3_knownName : MethodName := ⟨RX3, "knownName", "()I"⟩
abbrev cX3_placeNamed : ByteArray := prog_5_method_8_code
def yX3_placeNamed : MethodName := ⟨RX3, "placeNamed", "(J)I"⟩
abbrev cX3_number : ByteArray := prog_5_method_9_code
def yX3_number : MethodName := ⟨RX3, "number", "(II)I"⟩
abbrev cX3_law : ByteArray := prog_5_method_10_code
def yX3_law : MethodName := ⟨RX3, "law", "(I)V"⟩
abbrev cX3_sum : ByteArray := prog_5_method_11_code
def yX3_sum : MethodName := ⟨RX3, "sum", "(I)V"⟩
abbrev cX3_product : ByteArray := prog_5_method_12_code
def yX3_product : MethodName := ⟨RX3, "product", "(I)V"⟩
abbrev cX3_unit : ByteArray := prog_5_method_13_code
def yX3_unit : MethodName := ⟨RX3, "unit", "(I)V"⟩
abbrev cX3_take : ByteArray := prog_5_method_14_code
def yX3_take : MethodName := ⟨RX3, "take", "(I)V"⟩
abbrev cX3_goTo : ByteArray := prog_5_method_15_code
def yX3_goTo : MethodName := ⟨RX3, "goTo", "(I)V"⟩
abbrev cX3_fail : ByteArray := prog_5_method_16_code
def yX3_fail : MethodName := ⟨RX3, "fail", "(I)V"⟩
abbrev cX3_failLate : ByteArray := prog_5_method_17_code
def yX3_failLate : MethodName := ⟨RX3, "failLate", "(I)V"⟩
def RX4 : String := "SourceDispute$Past"
def TX4 : u_T := fun k => match k with
  | 0 => ("SourceDispute$Past", "courses", "[LSourceDispute$Course;", true)
  | 1 => ("SourceDispute$Past", "next", "I", false)
  | _ => ("SourceDispute$Past", "size", "I", false)
def tyX4 : Nat → FieldType := fun k => match k with
  | 0 => .array (.object "SourceDispute$Course")
  | 1 => .int
  | _ => .int
theorem nmX4 : ∀ a, a < 3 → ∀ b, b < 3 → a ≠ b → (TX4 a).2.1 ≠ (TX4 b).2.1 := by decide +kernel
theorem tyX4_ok : ∀ k, k < 3 → parseFieldDescriptor (TX4 k).2.2.1 = some (tyX4 k) := by decide +kernel
abbrev cX4_init : ByteArray := prog_6_method_1_code
def yX4_init : MethodName := ⟨RX4, "<init>", "()V"⟩
abbrev cX4_push : ByteArray := prog_6_method_2_code
def yX4_push : MethodName := ⟨RX4, "push", "(LSourceDispute$Course;)V"⟩
abbrev cX4_pop : ByteArray := prog_6_method_3_code
def yX4_pop : MethodName := ⟨RX4, "pop", "(LSourceDispute$Course;)Z"⟩
def RX5 : String := "SourceDispute$River"
def TX5 : u_T := fun k => match k with
  | 0 => ("SourceDispute$River", "shape", "LSourceDispute$Shape;", true)
  | 1 => ("SourceDispute$River", "code", "LSourceDispute$Code;", true)
  | 2 => ("SourceDispute$River", "rains", "[I", true)
  | 3 => ("SourceDispute$River", "flow", "[I", true)
  | 4 => ("SourceDispute$River", "claims", "[I", true)
  | 5 => ("SourceDispute$River", "told", "LSourceDispute$Told;", false)
  | _ => ("SourceDispute$River", "course", "LSourceDispute$Course;", false)
def tyX5 : Nat → FieldType := fun k => match k with
  | 0 => .object "SourceDispute$Shape"
  | 1 => .object "SourceDispute$Code"
  | 2 => .array .int
  | 3 => .array .int
  | 4 => .array .int
  | 5 => .object "SourceDispute$Told"
  | _ => .object "SourceDispute$Course"
theorem nmX5 : ∀ a, a < 7 → ∀ b, b < 7 → a ≠ b → (TX5 a).2.1 ≠ (TX5 b).2.1 := by decide +kernel
theorem tyX5_ok : ∀ k, k < 7 → parseFieldDescriptor (TX5 k).2.2.1 = some (tyX5 k) := by decide +kernel
abbrev cX5_init : ByteArray := prog_7_method_1_code
def yX5_init : MethodName := ⟨RX5, "<init>", "()V"⟩
abbrev cX5_look : ByteArray := prog_7_method_2_code
def yX5_look : MethodName := ⟨RX5, "look", "(LSourceDispute$Told;LSourceDispute$Course;)V"⟩
abbrev cX5_form : ByteArray := prog_7_method_3_code
def yX5_form : MethodName := ⟨RX5, "form", "(LSourceDispute$Told;LSourceDispute$Course;)V"⟩
abbrev cX5_fall : ByteArray := prog_7_method_4_code
def yX5_fall : MethodName := ⟨RX5, "fall", "(I)V"⟩
abbrev cX5_rainDown : ByteArray := prog_7_method_5_code
def yX5_rainDown : MethodName := ⟨RX5, "rainDown", "(I)V"⟩
abbrev cX5_run : ByteArray := prog_7_method_6_code
def yX5_run : MethodName := ⟨RX5, "run", "(I)V"⟩
abbrev cX5_dried : ByteArray := prog_7_method_7_code
def yX5_dried : MethodName := ⟨RX5, "dried", "(I)I"⟩
abbrev cX5_tells : ByteArray := prog_7_method_8_code
def yX5_tells : MethodName := ⟨RX5, "tells", "(III)I"⟩
abbrev cX5_claimOf : ByteArray := prog_7_method_9_code
def yX5_claimOf : MethodName := ⟨RX5, "claimOf", "(II)I"⟩
abbrev cX5_weigh : ByteArray := prog_7_method_10_code
def yX5_weigh : MethodName := ⟨RX5, "weigh", "(I)V"⟩
abbrev cX5_greatestClaim : ByteArray := prog_7_method_11_code
def yX5_greatestClaim : MethodName := ⟨RX5, "greatestClaim", "(I)I"⟩
abbrev cX5_rankOf : ByteArray := prog_7_method_12_code
def yX5_rankOf : MethodName := ⟨RX5, "rankOf", "(I)I"⟩
abbrev cX5_winnerBy : ByteArray := prog_7_method_13_code
def yX5_winnerBy : MethodName := ⟨RX5, "winnerBy", "(I)I"⟩
abbrev cX5_rainsOf : ByteArray := prog_7_method_14_code
def yX5_rainsOf : MethodName := ⟨RX5, "rainsOf", "(I)I"⟩
abbrev cX5_endMonth : ByteArray := prog_7_method_15_code
def yX5_endMonth : MethodName := ⟨RX5, "endMonth", "()V"⟩
abbrev cX5_goOn : ByteArray := prog_7_method_16_code
def yX5_goOn : MethodName := ⟨RX5, "goOn", "()V"⟩
abbrev cX5_goThrough : ByteArray := prog_7_method_17_code
def yX5_goThrough : MethodName := ⟨RX5, "goThrough", "(LSourceDispute$Told;LSourceDispute$Course;II)V"⟩
def RX6 : String := "SourceDispute$Shape"
def TX6 : u_T := fun k => match k with
  | 0 => ("SourceDispute$Shape", "places", "I", false)
  | 1 => ("SourceDispute$Shape", "length", "[I", true)
  | 2 => ("SourceDispute$Shape", "line", "[I", true)
  | 3 => ("SourceDispute$Shape", "far", "[I", true)
  | 4 => ("SourceDispute$Shape", "above", "[I", true)
  | 5 => ("SourceDispute$Shape", "order", "[I", true)
  | _ => ("SourceDispute$Shape", "ways", "[I", true)
def tyX6 : Nat → FieldType := fun k => match k with
  | 0 => .int
  | 1 => .array .int
  | 2 => .array .int
  | 3 => .array .int
  | 4 => .array .int
  | 5 => .array .int
  | _ => .array .int
theorem nmX6 : ∀ a, a < 7 → ∀ b, b < 7 → a ≠ b → (TX6 a).2.1 ≠ (TX6 b).2.1 := by decide +kernel
theorem tyX6_ok : ∀ k, k < 7 → parseFieldDescriptor (TX6 k).2.2.1 = some (tyX6 k) := by decide +kernel
abbrev cX6_init : ByteArray := prog_8_method_1_code
def yX6_init : MethodName := ⟨RX6, "<init>", "()V"⟩
abbrev cX6_form : ByteArray := prog_8_method_2_code
def yX6_form : MethodName := ⟨RX6, "form", "(LSourceDispute$Told;LSourceDispute$Course;)V"⟩
abbrev cX6_countAbove : ByteArray := prog_8_method_3_code
def yX6_countAbove : MethodName := ⟨RX6, "countAbove", "(LSourceDispute$Course;)V"⟩
abbrev cX6_orderOf : ByteArray := prog_8_method_4_code
def yX6_orderOf : MethodName := ⟨RX6, "orderOf", "(LSourceDispute$Course;I)I"⟩
abbrev cX6_isSource : ByteArray := prog_8_method_5_code
def yX6_isSource : MethodName := ⟨RX6, "isSource", "(I)Z"⟩
abbrev cX6_sources : ByteArray := prog_8_method_6_code
def yX6_sources : MethodName := ⟨RX6, "sources", "()I"⟩
abbrev cX6_comingBy : ByteArray := prog_8_method_7_code
def yX6_comingBy : MethodName := ⟨RX6, "comingBy", "(I)I"⟩
abbrev cX6_greatestFar : ByteArray := prog_8_method_8_code
def yX6_greatestFar : MethodName := ⟨RX6, "greatestFar", "()I"⟩
abbrev cX6_deepest : ByteArray := prog_8_method_9_code
def yX6_deepest : MethodName := ⟨RX6, "deepest", "()I"⟩
abbrev cX6_tourOf : ByteArray := prog_8_method_10_code
def yX6_tourOf : MethodName := ⟨RX6, "tourOf", "(I)I"⟩
abbrev cX6_meeting : ByteArray := prog_8_method_11_code
def yX6_meeting : MethodName := ⟨RX6, "meeting", "(II)I"⟩
def RX7 : String := "SourceDispute$Tape"
def TX7 : u_T := fun k => match k with
  | 0 => ("SourceDispute$Tape", "bytes", "[B", true)
  | _ => ("SourceDispute$Tape", "size", "I", false)
def tyX7 : Nat → FieldType := fun k => match k with
  | 0 => .array .byte
  | _ => .int
theorem nmX7 : ∀ a, a < 2 → ∀ b, b < 2 → a ≠ b → (TX7 a).2.1 ≠ (TX7 b).2.1 := by decide +kernel
theorem tyX7_ok : ∀ k, k < 2 → parseFieldDescriptor (TX7 k).2.2.1 = some (tyX7 k) := by decide +kernel
abbrev cX7_init : ByteArray := prog_9_method_1_code
def yX7_init : MethodName := ⟨RX7, "<init>", "()V"⟩
abbrev cX7_append : ByteArray := prog_9_method_2_code
def yX7_append : MethodName := ⟨RX7, "append", "(I)V"⟩
def RX8 : String := "SourceDispute$Tokens"
def TX8 : u_T := fun k => match k with
  | 0 => ("SourceDispute$Tokens", "words", "[J", true)
  | 1 => ("SourceDispute$Tokens", "kinds", "[I", true)
  | 2 => ("SourceDispute$Tokens", "values", "[J", true)
  | 3 => ("SourceDispute$Tokens", "places", "[I", true)
  | _ => ("SourceDispute$Tokens", "size", "I", false)
def tyX8 : Nat → FieldType := fun k => match k with
  | 0 => .array .long
  | 1 => .array .int
  | 2 => .array .long
  | 3 => .array .int
  | _ => .int
theorem nmX8 : ∀ a, a < 5 → ∀ b, b < 5 → a ≠ b → (TX8 a).2.1 ≠ (TX8 b).2.1 := by decide +kernel
theorem tyX8_ok : ∀ k, k < 5 → parseFieldDescriptor (TX8 k).2.2.1 = some (tyX8 k) := by decide +kernel
abbrev cX8_init : ByteArray := prog_10_method_1_code
def yX8_init : MethodName := ⟨RX8, "<init>", "()V"⟩
abbrev cX8_withLetter : ByteArray := prog_10_method_2_code
def yX8_withLetter : MethodName := ⟨RX8, "withLetter", "(JI)J"⟩
abbrev cX8_scan : ByteArray := prog_10_method_3_code
def yX8_scan : MethodName := ⟨RX8, "scan", "([BI)V"⟩
abbrev cX8_addLetters : ByteArray := prog_10_method_4_code
def yX8_addLetters : MethodName := ⟨RX8, "addLetters", "([BII)I"⟩
abbrev cX8_addDigits : ByteArray := prog_10_method_5_code
def yX8_addDigits : MethodName := ⟨RX8, "addDigits", "([BII)I"⟩
abbrev cX8_kindOf : ByteArray := prog_10_method_6_code
def yX8_kindOf : MethodName := ⟨RX8, "kindOf", "(J)I"⟩
abbrev cX8_add : ByteArray := prog_10_method_7_code
def yX8_add : MethodName := ⟨RX8, "add", "(IJI)V"⟩
abbrev cX8_pastBlanks : ByteArray := prog_10_method_8_code
def yX8_pastBlanks : MethodName := ⟨RX8, "pastBlanks", "([BII)I"⟩
abbrev cX8_isLetter : ByteArray := prog_10_method_9_code
def yX8_isLetter : MethodName := ⟨RX8, "isLetter", "(I)Z"⟩
abbrev cX8_isDigit : ByteArray := prog_10_method_10_code
def yX8_isDigit : MethodName := ⟨RX8, "isDigit", "(I)Z"⟩
def RX9 : String := "SourceDispute$Told"
def TX9 : u_T := fun k => match k with
  | 0 => ("SourceDispute$Told", "places", "I", false)
  | 1 => ("SourceDispute$Told", "name", "[J", true)
  | 2 => ("SourceDispute$Told", "into", "[I", true)
  | 3 => ("SourceDispute$Told", "length", "[I", true)
  | 4 => ("SourceDispute$Told", "rain", "[I", true)
  | 5 => ("SourceDispute$Told", "tale", "[I", true)
  | 6 => ("SourceDispute$Told", "steps", "[I", true)
  | 7 => ("SourceDispute$Told", "values", "[I", true)
  | 8 => ("SourceDispute$Told", "size", "I", false)
  | 9 => ("SourceDispute$Told", "start", "[I", true)
  | 10 => ("SourceDispute$Told", "stormChance", "I", false)
  | 11 => ("SourceDispute$Told", "stormRain", "I", false)
  | 12 => ("SourceDispute$Told", "prize", "I", false)
  | _ => ("SourceDispute$Told", "seed", "I", false)
def tyX9 : Nat → FieldType := fun k => match k with
  | 0 => .int
  | 1 => .array .long
  | 2 => .array .int
  | 3 => .array .int
  | 4 => .array .int
  | 5 => .array .int
  | 6 => .array .int
  | 7 => .array .int
  | 8 => .int
  | 9 => .array .int
  | 10 => .int
  | 11 => .int
  | 12 => .int
  | _ => .int
theorem nmX9 : ∀ a, a < 14 → ∀ b, b < 14 → a ≠ b → (TX9 a).2.1 ≠ (TX9 b).2.1 := by decide +kernel
theorem tyX9_ok : ∀ k, k < 14 → parseFieldDescriptor (TX9 k).2.2.1 = some (tyX9 k) := by decide +kernel
abbrev cX9_init : ByteArray := prog_11_method_1_code
def yX9_init : MethodName := ⟨RX9, "<init>", "()V"⟩
abbrev cX9_clear : ByteArray := prog_11_method_2_code
def yX9_clear : MethodName := ⟨RX9, "clear", "()V"⟩
abbrev cX9_addStep : ByteArray := prog_11_method_3_code
def yX9_addStep : MethodName := ⟨RX9, "addStep", "(II)V"⟩
abbrev cX9_setValue : ByteArray := prog_11_method_4_code
def yX9_setValue : MethodName := ⟨RX9, "setValue", "(II)V"⟩
abbrev cX9_setPlace : ByteArray := prog_11_method_5_code
def yX9_setPlace : MethodName := ⟨RX9, "setPlace", "(IIIII)V"⟩
abbrev cX9_isStorm : ByteArray := prog_11_method_6_code
def yX9_isStorm : MethodName := ⟨RX9, "isStorm", "(II)Z"⟩
abbrev cX9_lot : ByteArray := prog_11_method_7_code
def yX9_lot : MethodName := ⟨RX9, "lot", "(III)I"⟩
abbrev cX9_stirred : ByteArray := prog_11_method_8_code
def yX9_stirred : MethodName := ⟨RX9, "stirred", "(II)I"⟩
def RX10 : String := "SourceDispute"
def TX10 : u_T := fun k => match k with
  | 0 => ("SourceDispute", "tape", "LSourceDispute$Tape;", true)
  | 1 => ("SourceDispute", "parser", "LSourceDispute$Parser;", true)
  | 2 => ("SourceDispute", "river", "LSourceDispute$River;", true)
  | 3 => ("SourceDispute", "shape", "LSourceDispute$Shape;", true)
  | 4 => ("SourceDispute", "past", "LSourceDispute$Past;", true)
  | 5 => ("SourceDispute", "dye", "LSourceDispute$Dye;", true)
  | 6 => ("SourceDispute", "now", "LSourceDispute$Course;", true)
  | 7 => ("SourceDispute", "tried", "LSourceDispute$Course;", true)
  | 8 => ("SourceDispute", "slots", "[LSourceDispute$Course;", true)
  | 9 => ("SourceDispute", "tally", "[I", true)
  | 10 => ("SourceDispute", "told", "LSourceDispute$Told;", false)
  | 11 => ("SourceDispute", "spare", "LSourceDispute$Told;", false)
  | 12 => ("SourceDispute", "heldSlots", "I", false)
  | _ => ("SourceDispute", "faultPlace", "I", false)
def tyX10 : Nat → FieldType := fun k => match k with
  | 0 => .object "SourceDispute$Tape"
  | 1 => .object "SourceDispute$Parser"
  | 2 => .object "SourceDispute$River"
  | 3 => .object "SourceDispute$Shape"
  | 4 => .object "SourceDispute$Past"
  | 5 => .object "SourceDispute$Dye"
  | 6 => .object "SourceDispute$Course"
  | 7 => .object "SourceDispute$Course"
  | 8 => .array (.object "SourceDispute$Course")
  | 9 => .array .int
  | 10 => .object "SourceDispute$Told"
  | 11 => .object "SourceDispute$Told"
  | 12 => .int
  | _ => .int
theorem nmX10 : ∀ a, a < 14 → ∀ b, b < 14 → a ≠ b → (TX10 a).2.1 ≠ (TX10 b).2.1 := by decide +kernel
theorem tyX10_ok : ∀ k, k < 14 → parseFieldDescriptor (TX10 k).2.2.1 = some (tyX10 k) := by decide +kernel
abbrev cX10_init : ByteArray := prog_1_method_1_code
def yX10_init : MethodName := ⟨RX10, "<init>", "()V"⟩
abbrev cX10_feed : ByteArray := prog_1_method_2_code
def yX10_feed : MethodName := ⟨RX10, "feed", "(IIIII)I"⟩
abbrev cX10_back : ByteArray := prog_1_method_3_code
def yX10_back : MethodName := ⟨RX10, "back", "(I)I"⟩
abbrev cX10_read : ByteArray := prog_1_method_4_code
def yX10_read : MethodName := ⟨RX10, "read", "()I"⟩
abbrev cX10_beginAnew : ByteArray := prog_1_method_5_code
def yX10_beginAnew : MethodName := ⟨RX10, "beginAnew", "()V"⟩
abbrev cX10_place : ByteArray := prog_1_method_6_code
def yX10_place : MethodName := ⟨RX10, "place", "()I"⟩
abbrev cX10_spot : ByteArray := prog_1_method_7_code
def yX10_spot : MethodName := ⟨RX10, "spot", "(II)I"⟩
abbrev cX10_claim : ByteArray := prog_1_method_8_code
def yX10_claim : MethodName := ⟨RX10, "claim", "(II)I"⟩
abbrev cX10_winner : ByteArray := prog_1_method_9_code
def yX10_winner : MethodName := ⟨RX10, "winner", "(I)I"⟩
abbrev cX10_count : ByteArray := prog_1_method_10_code
def yX10_count : MethodName := ⟨RX10, "count", "(I)I"⟩
abbrev cX10_sumOf : ByteArray := prog_1_method_11_code
def yX10_sumOf : MethodName := ⟨RX10, "sumOf", "([I)I"⟩
abbrev cX10_turnedPlaces : ByteArray := prog_1_method_12_code
def yX10_turnedPlaces : MethodName := ⟨RX10, "turnedPlaces", "()I"⟩
abbrev cX10_dam : ByteArray := prog_1_method_13_code
def yX10_dam : MethodName := ⟨RX10, "dam", "(IZ)Z"⟩
abbrev cX10_turn : ByteArray := prog_1_method_14_code
def yX10_turn : MethodName := ⟨RX10, "turn", "(II)Z"⟩
abbrev cX10_isTurn : ByteArray := prog_1_method_15_code
def yX10_isTurn : MethodName := ⟨RX10, "isTurn", "(II)Z"⟩
abbrev cX10_rule : ByteArray := prog_1_method_16_code
def yX10_rule : MethodName := ⟨RX10, "rule", "(I)Z"⟩
abbrev cX10_months : ByteArray := prog_1_method_17_code
def yX10_months : MethodName := ⟨RX10, "months", "(I)I"⟩
abbrev cX10_undo : ByteArray := prog_1_method_18_code
def yX10_undo : MethodName := ⟨RX10, "undo", "()Z"⟩
abbrev cX10_hold : ByteArray := prog_1_method_19_code
def yX10_hold : MethodName := ⟨RX10, "hold", "(I)Z"⟩
abbrev cX10_restore : ByteArray := prog_1_method_20_code
def yX10_restore : MethodName := ⟨RX10, "restore", "(I)Z"⟩
abbrev cX10_behind : ByteArray := prog_1_method_21_code
def yX10_behind : MethodName := ⟨RX10, "behind", "(II)I"⟩
abbrev cX10_margin : ByteArray := prog_1_method_22_code
def yX10_margin : MethodName := ⟨RX10, "margin", "(I)I"⟩
abbrev cX10_rank : ByteArray := prog_1_method_23_code
def yX10_rank : MethodName := ⟨RX10, "rank", "(II)I"⟩
abbrev cX10_vote : ByteArray := prog_1_method_24_code
def yX10_vote : MethodName := ⟨RX10, "vote", "(I)I"⟩
abbrev cX10_castVotes : ByteArray := prog_1_method_25_code
def yX10_castVotes : MethodName := ⟨RX10, "castVotes", "()V"⟩
abbrev cX10_votesFor : ByteArray := prog_1_method_26_code
def yX10_votesFor : MethodName := ⟨RX10, "votesFor", "(I)I"⟩
abbrev cX10_richest : ByteArray := prog_1_method_27_code
def yX10_richest : MethodName := ⟨RX10, "richest", "(I)I"⟩
abbrev cX10_turnFor : ByteArray := prog_1_method_28_code
def yX10_turnFor : MethodName := ⟨RX10, "turnFor", "(II)I"⟩
abbrev cX10_winsTurned : ByteArray := prog_1_method_29_code
def yX10_winsTurned : MethodName := ⟨RX10, "winsTurned", "(IIII)Z"⟩
abbrev cX10_damFor : ByteArray := prog_1_method_30_code
def yX10_damFor : MethodName := ⟨RX10, "damFor", "(II)I"⟩
abbrev cX10_dams : ByteArray := prog_1_method_31_code
def yX10_dams : MethodName := ⟨RX10, "dams", "(II)I"⟩
abbrev cX10_fewestDams : ByteArray := prog_1_method_32_code
def yX10_fewestDams : MethodName := ⟨RX10, "fewestDams", "(I)I"⟩
abbrev cX10_isAhead : ByteArray := prog_1_method_33_code
def yX10_isAhead : MethodName := ⟨RX10, "isAhead", "(II)Z"⟩
abbrev cX10_loss : ByteArray := prog_1_method_34_code
def yX10_loss : MethodName := ⟨RX10, "loss", "(I)I"⟩
abbrev cX10_lossOf : ByteArray := prog_1_method_35_code
def yX10_lossOf : MethodName := ⟨RX10, "lossOf", "(I)I"⟩
abbrev cX10_part : ByteArray := prog_1_method_36_code
def yX10_part : MethodName := ⟨RX10, "part", "(I)I"⟩
abbrev cX10_main : ByteArray := prog_1_method_37_code
def yX10_main : MethodName := ⟨RX10, "main", "(I)I"⟩
abbrev cX10_greatestInto : ByteArray := prog_1_method_38_code
def yX10_greatestInto : MethodName := ⟨RX10, "greatestInto", "(I)I"⟩
abbrev cX10_tryFromNow : ByteArray := prog_1_method_39_code
def yX10_tryFromNow : MethodName := ⟨RX10, "tryFromNow", "()V"⟩
abbrev cX10_agree : ByteArray := prog_1_method_40_code
def yX10_agree : MethodName := ⟨RX10, "agree", "(I)I"⟩
abbrev cX10_driest : ByteArray := prog_1_method_41_code
def yX10_driest : MethodName := ⟨RX10, "driest", "(II)I"⟩
abbrev cX10_reign : ByteArray := prog_1_method_42_code
def yX10_reign : MethodName := ⟨RX10, "reign", "(III)I"⟩
abbrev cX10_tallied : ByteArray := prog_1_method_43_code
def yX10_tallied : MethodName := ⟨RX10, "tallied", "()I"⟩
abbrev cX10_mostTallied : ByteArray := prog_1_method_44_code
def yX10_mostTallied : MethodName := ⟨RX10, "mostTallied", "()I"⟩
abbrev cX10_when : ByteArray := prog_1_method_45_code
def yX10_when : MethodName := ⟨RX10, "when", "(I)I"⟩
abbrev cX10_then : ByteArray := prog_1_method_46_code
def yX10_then : MethodName := ⟨RX10, "then", "(III)I"⟩
abbrev cX10_flowIn : ByteArray := prog_1_method_47_code
def yX10_flowIn : MethodName := ⟨RX10, "flowIn", "(I)I"⟩
abbrev cX10_year : ByteArray := prog_1_method_48_code
def yX10_year : MethodName := ⟨RX10, "year", "(III)I"⟩
abbrev cX10_hasWonMost : ByteArray := prog_1_method_49_code
def yX10_hasWonMost : MethodName := ⟨RX10, "hasWonMost", "(I)Z"⟩
abbrev cX10_depth : ByteArray := prog_1_method_50_code
def yX10_depth : MethodName := ⟨RX10, "depth", "()I"⟩
abbrev cX10_order : ByteArray := prog_1_method_51_code
def yX10_order : MethodName := ⟨RX10, "order", "(I)I"⟩
abbrev cX10_basin : ByteArray := prog_1_method_52_code
def yX10_basin : MethodName := ⟨RX10, "basin", "(II)I"⟩
abbrev cX10_tour : ByteArray := prog_1_method_53_code
def yX10_tour : MethodName := ⟨RX10, "tour", "()I"⟩
abbrev cX10_parted : ByteArray := prog_1_method_54_code
def yX10_parted : MethodName := ⟨RX10, "parted", "()I"⟩
abbrev cX10_meet : ByteArray := prog_1_method_55_code
def yX10_meet : MethodName := ⟨RX10, "meet", "(III)I"⟩
abbrev cX10_tell : ByteArray := prog_1_method_56_code
def yX10_tell : MethodName := ⟨RX10, "tell", "(IIIZ)I"⟩
abbrev cX10_forget : ByteArray := prog_1_method_57_code
def yX10_forget : MethodName := ⟨RX10, "forget", "()I"⟩
abbrev cX10_dyed : ByteArray := prog_1_method_58_code
def yX10_dyed : MethodName := ⟨RX10, "dyed", "(II)I"⟩
abbrev cX10_watch : ByteArray := prog_1_method_59_code
def yX10_watch : MethodName := ⟨RX10, "watch", "(I)I"⟩
abbrev cX10_leftAtWorst : ByteArray := prog_1_method_60_code
def yX10_leftAtWorst : MethodName := ⟨RX10, "leftAtWorst", "(II)I"⟩
abbrev cX10_look : ByteArray := prog_1_method_61_code
def yX10_look : MethodName := ⟨RX10, "look", "()V"⟩
abbrev cX10_hasMouth : ByteArray := prog_1_method_62_code
def yX10_hasMouth : MethodName := ⟨RX10, "hasMouth", "()Z"⟩
abbrev cX10_mouthFlow : ByteArray := prog_1_method_63_code
def yX10_mouthFlow : MethodName := ⟨RX10, "mouthFlow", "()I"⟩
abbrev cX10_isPlace : ByteArray := prog_1_method_64_code
def yX10_isPlace : MethodName := ⟨RX10, "isPlace", "(I)Z"⟩
abbrev cX10_isLaw : ByteArray := prog_1_method_65_code
def yX10_isLaw : MethodName := ⟨RX10, "isLaw", "(I)Z"⟩
abbrev cX10_isContest : ByteArray := prog_1_method_66_code
def yX10_isContest : MethodName := ⟨RX10, "isContest", "(II)Z"⟩
abbrev cX10_isWithin : ByteArray := prog_1_method_67_code
def yX10_isWithin : MethodName := ⟨RX10, "isWithin", "(III)Z"⟩
abbrev cX10_held : ByteArray := prog_1_method_68_code
def yX10_held : MethodName := ⟨RX10, "held", "(III)I"⟩
abbrev cX10_bit : ByteArray := prog_1_method_69_code
def yX10_bit : MethodName := ⟨RX10, "bit", "(I)I"⟩
abbrev cX10_has : ByteArray := prog_1_method_70_code
def yX10_has : MethodName := ⟨RX10, "has", "(II)Z"⟩
abbrev cX10_bitAt : ByteArray := prog_1_method_71_code
def yX10_bitAt : MethodName := ⟨RX10, "bitAt", "(II)I"⟩
def RX11 : String := "SourceDisputeModel"
def TX11 : u_T := fun k => match k with
  | 0 => ("SourceDisputeModel", "thrown", "I", false)
  | 1 => ("SourceDisputeModel", "tape", "[B", true)
  | 2 => ("SourceDisputeModel", "taped", "I", false)
  | 3 => ("SourceDisputeModel", "text", "[B", true)
  | 4 => ("SourceDisputeModel", "size", "I", false)
  | 5 => ("SourceDisputeModel", "tKind", "[I", true)
  | 6 => ("SourceDisputeModel", "tPlace", "[I", true)
  | 7 => ("SourceDisputeModel", "tValue", "[I", true)
  | 8 => ("SourceDisputeModel", "tName", "[J", true)
  | 9 => ("SourceDisputeModel", "keys", "[J", true)
  | 10 => ("SourceDisputeModel", "tokens", "I", false)
  | 11 => ("SourceDisputeModel", "t", "I", false)
  | 12 => ("SourceDisputeModel", "open", "I", false)
  | 13 => ("SourceDisputeModel", "fault", "I", false)
  | 14 => ("SourceDisputeModel", "faultPlace", "I", false)
  | 15 => ("SourceDisputeModel", "worst", "I", false)
  | 16 => ("SourceDisputeModel", "worstPlace", "I", false)
  | 17 => ("SourceDisputeModel", "place", "I", false)
  | 18 => ("SourceDisputeModel", "live", "I", false)
  | 19 => ("SourceDisputeModel", "side", "I", false)
  | 20 => ("SourceDisputeModel", "nameOf", "[J", true)
  | 21 => ("SourceDisputeModel", "places", "[I", true)
  | 22 => ("SourceDisputeModel", "intoTold", "[I", true)
  | 23 => ("SourceDisputeModel", "lengthOf", "[I", true)
  | 24 => ("SourceDisputeModel", "rainOf", "[I", true)
  | 25 => ("SourceDisputeModel", "taleOf", "[I", true)
  | 26 => ("SourceDisputeModel", "stormOdds", "[I", true)
  | 27 => ("SourceDisputeModel", "stormMore", "[I", true)
  | 28 => ("SourceDisputeModel", "prize", "[I", true)
  | 29 => ("SourceDisputeModel", "seed", "[I", true)
  | 30 => ("SourceDisputeModel", "lawFirst", "[I", true)
  | 31 => ("SourceDisputeModel", "lawLast", "[I", true)
  | 32 => ("SourceDisputeModel", "branches", "I", false)
  | 33 => ("SourceDisputeModel", "hasTest", "[Z", true)
  | 34 => ("SourceDisputeModel", "testFrom", "[I", true)
  | 35 => ("SourceDisputeModel", "testMid", "[I", true)
  | 36 => ("SourceDisputeModel", "testTo", "[I", true)
  | 37 => ("SourceDisputeModel", "termTo", "[I", true)
  | 38 => ("SourceDisputeModel", "codes", "I", false)
  | 39 => ("SourceDisputeModel", "code", "[I", true)
  | 40 => ("SourceDisputeModel", "codeInt", "[I", true)
  | 41 => ("SourceDisputeModel", "hasMouth", "Z", false)
  | 42 => ("SourceDisputeModel", "told", "I", false)
  | 43 => ("SourceDisputeModel", "waits", "[I", true)
  | 44 => ("SourceDisputeModel", "waiting", "I", false)
  | 45 => ("SourceDisputeModel", "variables", "[I", true)
  | 46 => ("SourceDisputeModel", "pile", "[I", true)
  | 47 => ("SourceDisputeModel", "isBroken", "Z", false)
  | 48 => ("SourceDisputeModel", "now", "[I", true)
  | 49 => ("SourceDisputeModel", "row", "[I", true)
  | 50 => ("SourceDisputeModel", "lots", "I", false)
  | 51 => ("SourceDisputeModel", "isStill", "Z", false)
  | 52 => ("SourceDisputeModel", "farOf", "[I", true)
  | 53 => ("SourceDisputeModel", "stepsOf", "[I", true)
  | 54 => ("SourceDisputeModel", "basinOf", "[I", true)
  | 55 => ("SourceDisputeModel", "flowOf", "[I", true)
  | 56 => ("SourceDisputeModel", "wonNow", "I", false)
  | 57 => ("SourceDisputeModel", "undos", "I", false)
  | 58 => ("SourceDisputeModel", "history", "[I", true)
  | 59 => ("SourceDisputeModel", "votes", "[I", true)
  | 60 => ("SourceDisputeModel", "orderOf", "[I", true)
  | 61 => ("SourceDisputeModel", "timesOf", "[I", true)
  | 62 => ("SourceDisputeModel", "tolds", "I", false)
  | 63 => ("SourceDisputeModel", "toldPlace", "[I", true)
  | 64 => ("SourceDisputeModel", "toldFrom", "[I", true)
  | 65 => ("SourceDisputeModel", "toldTo", "[I", true)
  | 66 => ("SourceDisputeModel", "toldSo", "[Z", true)
  | 67 => ("SourceDisputeModel", "isHeld", "[Z", true)
  | _ => ("SourceDisputeModel", "heldRows", "[I", true)
def tyX11 : Nat → FieldType := fun k => match k with
  | 0 => .int
  | 1 => .array .byte
  | 2 => .int
  | 3 => .array .byte
  | 4 => .int
  | 5 => .array .int
  | 6 => .array .int
  | 7 => .array .int
  | 8 => .array .long
  | 9 => .array .long
  | 10 => .int
  | 11 => .int
  | 12 => .int
  | 13 => .int
  | 14 => .int
  | 15 => .int
  | 16 => .int
  | 17 => .int
  | 18 => .int
  | 19 => .int
  | 20 => .array .long
  | 21 => .array .int
  | 22 => .array .int
  | 23 => .array .int
  | 24 => .array .int
  | 25 => .array .int
  | 26 => .array .int
  | 27 => .array .int
  | 28 => .array .int
  | 29 => .array .int
  | 30 => .array .int
  | 31 => .array .int
  | 32 => .int
  | 33 => .array .boolean
  | 34 => .array .int
  | 35 => .array .int
  | 36 => .array .int
  | 37 => .array .int
  | 38 => .int
  | 39 => .array .int
  | 40 => .array .int
  | 41 => .boolean
  | 42 => .int
  | 43 => .array .int
  | 44 => .int
  | 45 => .array .int
  | 46 => .array .int
  | 47 => .boolean
  | 48 => .array .int
  | 49 => .array .int
  | 50 => .int
  | 51 => .boolean
  | 52 => .array .int
  | 53 => .array .int
  | 54 => .array .int
  | 55 => .array .int
  | 56 => .int
  | 57 => .int
  | 58 => .array .int
  | 59 => .array .int
  | 60 => .array .int
  | 61 => .array .int
  | 62 => .int
  | 63 => .array .int
  | 64 => .array .int
  | 65 => .array .int
  | 66 => .array .boolean
  | 67 => .array .boolean
  | _ => .array .int
theorem nmX11 : ∀ a, a < 69 → ∀ b, b < 69 → a ≠ b → (TX11 a).2.1 ≠ (TX11 b).2.1 := by decide +kernel
theorem tyX11_ok : ∀ k, k < 69 → parseFieldDescriptor (TX11 k).2.2.1 = some (tyX11 k) := by decide +kernel
abbrev cX11_init : ByteArray := prog_13_method_2_code
def yX11_init : MethodName := ⟨RX11, "<init>", "()V"⟩
abbrev cX11_feed : ByteArray := prog_13_method_3_code
def yX11_feed : MethodName := ⟨RX11, "feed", "(IIIII)I"⟩
abbrev cX11_put : ByteArray := prog_13_method_4_code
def yX11_put : MethodName := ⟨RX11, "put", "(I)V"⟩
abbrev cX11_back : ByteArray := prog_13_method_5_code
def yX11_back : MethodName := ⟨RX11, "back", "(I)I"⟩
abbrev cX11_byteAt : ByteArray := prog_13_method_6_code
def yX11_byteAt : MethodName := ⟨RX11, "byteAt", "(I)I"⟩
abbrev cX11_isDigit : ByteArray := prog_13_method_7_code
def yX11_isDigit : MethodName := ⟨RX11, "isDigit", "(I)Z"⟩
abbrev cX11_isLetter : ByteArray := prog_13_method_8_code
def yX11_isLetter : MethodName := ⟨RX11, "isLetter", "(I)Z"⟩
abbrev cX11_appends : ByteArray := prog_13_method_9_code
def yX11_appends : MethodName := ⟨RX11, "appends", "(JI)J"⟩
abbrev cX11_word : ByteArray := prog_13_method_10_code
def yX11_word : MethodName := ⟨RX11, "word", "(IIIIIII)J"⟩
abbrev cX11_token : ByteArray := prog_13_method_11_code
def yX11_token : MethodName := ⟨RX11, "token", "(IIIJ)V"⟩
abbrev cX11_cut : ByteArray := prog_13_method_12_code
def yX11_cut : MethodName := ⟨RX11, "cut", "()V"⟩
abbrev cX11_sign : ByteArray := prog_13_method_13_code
def yX11_sign : MethodName := ⟨RX11, "sign", "(III)I"⟩
abbrev cX11_is : ByteArray := prog_13_method_14_code
def yX11_is : MethodName := ⟨RX11, "is", "(I)Z"⟩
abbrev cX11_fail : ByteArray := prog_13_method_15_code
def yX11_fail : MethodName := ⟨RX11, "fail", "(I)V"⟩
abbrev cX11_wrong : ByteArray := prog_13_method_16_code
def yX11_wrong : MethodName := ⟨RX11, "wrong", "(II)V"⟩
abbrev cX11_goesOn : ByteArray := prog_13_method_17_code
def yX11_goesOn : MethodName := ⟨RX11, "goesOn", "()V"⟩
abbrev cX11_must : ByteArray := prog_13_method_18_code
def yX11_must : MethodName := ⟨RX11, "must", "(I)V"⟩
abbrev cX11_plain : ByteArray := prog_13_method_19_code
def yX11_plain : MethodName := ⟨RX11, "plain", "(I)V"⟩
abbrev cX11_read : ByteArray := prog_13_method_20_code
def yX11_read : MethodName := ⟨RX11, "read", "()I"⟩
abbrev cX11_place : ByteArray := prog_13_method_21_code
def yX11_place : MethodName := ⟨RX11, "place", "()I"⟩
abbrev cX11_tellOne : ByteArray := prog_13_method_22_code
def yX11_tellOne : MethodName := ⟨RX11, "tellOne", "()V"⟩
abbrev cX11_named : ByteArray := prog_13_method_23_code
def yX11_named : MethodName := ⟨RX11, "named", "()I"⟩
abbrev cX11_numberOf : ByteArray := prog_13_method_24_code
def yX11_numberOf : MethodName := ⟨RX11, "numberOf", "(I)I"⟩
abbrev cX11_bounded : ByteArray := prog_13_method_25_code
def yX11_bounded : MethodName := ⟨RX11, "bounded", "(II)I"⟩
abbrev cX11_tellMouth : ByteArray := prog_13_method_26_code
def yX11_tellMouth : MethodName := ⟨RX11, "tellMouth", "()V"⟩
abbrev cX11_tellPlace : ByteArray := prog_13_method_27_code
def yX11_tellPlace : MethodName := ⟨RX11, "tellPlace", "()V"⟩
abbrev cX11_tellLaw : ByteArray := prog_13_method_28_code
def yX11_tellLaw : MethodName := ⟨RX11, "tellLaw", "(I)V"⟩
abbrev cX11_term : ByteArray := prog_13_method_29_code
def yX11_term : MethodName := ⟨RX11, "term", "()V"⟩
abbrev cX11_emit : ByteArray := prog_13_method_30_code
def yX11_emit : MethodName := ⟨RX11, "emit", "(II)V"⟩
abbrev cX11_comesOut : ByteArray := prog_13_method_31_code
def yX11_comesOut : MethodName := ⟨RX11, "comesOut", "(Z)V"⟩
abbrev cX11_expression : ByteArray := prog_13_method_32_code
def yX11_expression : MethodName := ⟨RX11, "expression", "()V"⟩
abbrev cX11_unit : ByteArray := prog_13_method_33_code
def yX11_unit : MethodName := ⟨RX11, "unit", "()V"⟩
abbrev cX11_termOf : ByteArray := prog_13_method_34_code
def yX11_termOf : MethodName := ⟨RX11, "termOf", "(II)I"⟩
abbrev cX11_in : ByteArray := prog_13_method_35_code
def yX11_in : MethodName := ⟨RX11, "in", "(III)Z"⟩
abbrev cX11_within : ByteArray := prog_13_method_36_code
def yX11_within : MethodName := ⟨RX11, "within", "(III)I"⟩
abbrev cX11_bits : ByteArray := prog_13_method_37_code
def yX11_bits : MethodName := ⟨RX11, "bits", "(I)I"⟩
abbrev cX11_many : ByteArray := prog_13_method_38_code
def yX11_many : MethodName := ⟨RX11, "many", "()I"⟩
abbrev cX11_isPlace : ByteArray := prog_13_method_39_code
def yX11_isPlace : MethodName := ⟨RX11, "isPlace", "(I)Z"⟩
abbrev cX11_isBeside : ByteArray := prog_13_method_40_code
def yX11_isBeside : MethodName := ⟨RX11, "isBeside", "(I)Z"⟩
abbrev cX11_isLaw : ByteArray := prog_13_method_41_code
def yX11_isLaw : MethodName := ⟨RX11, "isLaw", "(I)Z"⟩
abbrev cX11_begins : ByteArray := prog_13_method_42_code
def yX11_begins : MethodName := ⟨RX11, "begins", "()V"⟩
abbrev cX11_keepsRow : ByteArray := prog_13_method_43_code
def yX11_keepsRow : MethodName := ⟨RX11, "keepsRow", "()V"⟩
abbrev cX11_copies : ByteArray := prog_13_method_44_code
def yX11_copies : MethodName := ⟨RX11, "copies", "()V"⟩
abbrev cX11_copiesStill : ByteArray := prog_13_method_45_code
def yX11_copiesStill : MethodName := ⟨RX11, "copiesStill", "()V"⟩
abbrev cX11_mixed : ByteArray := prog_13_method_46_code
def yX11_mixed : MethodName := ⟨RX11, "mixed", "(II)I"⟩
abbrev cX11_isStorm : ByteArray := prog_13_method_47_code
def yX11_isStorm : MethodName := ⟨RX11, "isStorm", "()Z"⟩
abbrev cX11_fillsWays : ByteArray := prog_13_method_48_code
def yX11_fillsWays : MethodName := ⟨RX11, "fillsWays", "()V"⟩
abbrev cX11_isSource : ByteArray := prog_13_method_49_code
def yX11_isSource : MethodName := ⟨RX11, "isSource", "(I)Z"⟩
abbrev cX11_sourceBits : ByteArray := prog_13_method_50_code
def yX11_sourceBits : MethodName := ⟨RX11, "sourceBits", "()I"⟩
abbrev cX11_looks : ByteArray := prog_13_method_51_code
def yX11_looks : MethodName := ⟨RX11, "looks", "(II)V"⟩
abbrev cX11_lawTells : ByteArray := prog_13_method_52_code
def yX11_lawTells : MethodName := ⟨RX11, "lawTells", "(II)I"⟩
abbrev cX11_rainsAt : ByteArray := prog_13_method_53_code
def yX11_rainsAt : MethodName := ⟨RX11, "rainsAt", "(I)I"⟩
abbrev cX11_driesAt : ByteArray := prog_13_method_54_code
def yX11_driesAt : MethodName := ⟨RX11, "driesAt", "(I)I"⟩
abbrev cX11_fillsFlows : ByteArray := prog_13_method_55_code
def yX11_fillsFlows : MethodName := ⟨RX11, "fillsFlows", "(I)V"⟩
abbrev cX11_claimOf : ByteArray := prog_13_method_56_code
def yX11_claimOf : MethodName := ⟨RX11, "claimOf", "(II)I"⟩
abbrev cX11_winnerBy : ByteArray := prog_13_method_57_code
def yX11_winnerBy : MethodName := ⟨RX11, "winnerBy", "(I)I"⟩
abbrev cX11_monthGoes : ByteArray := prog_13_method_58_code
def yX11_monthGoes : MethodName := ⟨RX11, "monthGoes", "()V"⟩
abbrev cX11_goes : ByteArray := prog_13_method_59_code
def yX11_goes : MethodName := ⟨RX11, "goes", "(I)V"⟩
abbrev cX11_spot : ByteArray := prog_13_method_60_code
def yX11_spot : MethodName := ⟨RX11, "spot", "(II)I"⟩
abbrev cX11_isClaim : ByteArray := prog_13_method_61_code
def yX11_isClaim : MethodName := ⟨RX11, "isClaim", "(II)Z"⟩
abbrev cX11_claim : ByteArray := prog_13_method_62_code
def yX11_claim : MethodName := ⟨RX11, "claim", "(II)I"⟩
abbrev cX11_winner : ByteArray := prog_13_method_63_code
def yX11_winner : MethodName := ⟨RX11, "winner", "(I)I"⟩
abbrev cX11_records : ByteArray := prog_13_method_64_code
def yX11_records : MethodName := ⟨RX11, "records", "()V"⟩
abbrev cX11_does : ByteArray := prog_13_method_65_code
def yX11_does : MethodName := ⟨RX11, "does", "(II)V"⟩
abbrev cX11_dam : ByteArray := prog_13_method_66_code
def yX11_dam : MethodName := ⟨RX11, "dam", "(IZ)Z"⟩
abbrev cX11_canTurn : ByteArray := prog_13_method_67_code
def yX11_canTurn : MethodName := ⟨RX11, "canTurn", "(II)Z"⟩
abbrev cX11_turn : ByteArray := prog_13_method_68_code
def yX11_turn : MethodName := ⟨RX11, "turn", "(II)Z"⟩
abbrev cX11_rule : ByteArray := prog_13_method_69_code
def yX11_rule : MethodName := ⟨RX11, "rule", "(I)Z"⟩
abbrev cX11_isLong : ByteArray := prog_13_method_70_code
def yX11_isLong : MethodName := ⟨RX11, "isLong", "(I)Z"⟩
abbrev cX11_isSome : ByteArray := prog_13_method_71_code
def yX11_isSome : MethodName := ⟨RX11, "isSome", "(I)Z"⟩
abbrev cX11_months : ByteArray := prog_13_method_72_code
def yX11_months : MethodName := ⟨RX11, "months", "(I)I"⟩
abbrev cX11_undo : ByteArray := prog_13_method_73_code
def yX11_undo : MethodName := ⟨RX11, "undo", "()Z"⟩
abbrev cX11_agree : ByteArray := prog_13_method_74_code
def yX11_agree : MethodName := ⟨RX11, "agree", "(I)I"⟩
abbrev cX11_behind : ByteArray := prog_13_method_75_code
def yX11_behind : MethodName := ⟨RX11, "behind", "(II)I"⟩
abbrev cX11_margin : ByteArray := prog_13_method_76_code
def yX11_margin : MethodName := ⟨RX11, "margin", "(I)I"⟩
abbrev cX11_richest : ByteArray := prog_13_method_77_code
def yX11_richest : MethodName := ⟨RX11, "richest", "(I)I"⟩
abbrev cX11_rankOf : ByteArray := prog_13_method_78_code
def yX11_rankOf : MethodName := ⟨RX11, "rankOf", "(II)I"⟩
abbrev cX11_rank : ByteArray := prog_13_method_79_code
def yX11_rank : MethodName := ⟨RX11, "rank", "(II)I"⟩
abbrev cX11_vote : ByteArray := prog_13_method_80_code
def yX11_vote : MethodName := ⟨RX11, "vote", "(I)I"⟩
abbrev cX11_damsAll : ByteArray := prog_13_method_81_code
def yX11_damsAll : MethodName := ⟨RX11, "damsAll", "(I)V"⟩
abbrev cX11_dammedBits : ByteArray := prog_13_method_82_code
def yX11_dammedBits : MethodName := ⟨RX11, "dammedBits", "()I"⟩
abbrev cX11_ithOf : ByteArray := prog_13_method_83_code
def yX11_ithOf : MethodName := ⟨RX11, "ithOf", "(II)I"⟩
abbrev cX11_isEarlier : ByteArray := prog_13_method_84_code
def yX11_isEarlier : MethodName := ⟨RX11, "isEarlier", "(II)Z"⟩
abbrev cX11_dams : ByteArray := prog_13_method_85_code
def yX11_dams : MethodName := ⟨RX11, "dams", "(II)I"⟩
abbrev cX11_lossOf : ByteArray := prog_13_method_86_code
def yX11_lossOf : MethodName := ⟨RX11, "lossOf", "(I)I"⟩
abbrev cX11_loss : ByteArray := prog_13_method_87_code
def yX11_loss : MethodName := ⟨RX11, "loss", "(I)I"⟩
abbrev cX11_part : ByteArray := prog_13_method_88_code
def yX11_part : MethodName := ⟨RX11, "part", "(I)I"⟩
abbrev cX11_main : ByteArray := prog_13_method_89_code
def yX11_main : MethodName := ⟨RX11, "main", "(I)I"⟩
abbrev cX11_driest : ByteArray := prog_13_method_90_code
def yX11_driest : MethodName := ⟨RX11, "driest", "(II)I"⟩
abbrev cX11_winsTurned : ByteArray := prog_13_method_91_code
def yX11_winsTurned : MethodName := ⟨RX11, "winsTurned", "(IIII)Z"⟩
abbrev cX11_turnFor : ByteArray := prog_13_method_92_code
def yX11_turnFor : MethodName := ⟨RX11, "turnFor", "(II)I"⟩
abbrev cX11_damFor : ByteArray := prog_13_method_93_code
def yX11_damFor : MethodName := ⟨RX11, "damFor", "(II)I"⟩
abbrev cX11_depth : ByteArray := prog_13_method_94_code
def yX11_depth : MethodName := ⟨RX11, "depth", "()I"⟩
abbrev cX11_order : ByteArray := prog_13_method_95_code
def yX11_order : MethodName := ⟨RX11, "order", "(I)I"⟩
abbrev cX11_orderAt : ByteArray := prog_13_method_96_code
def yX11_orderAt : MethodName := ⟨RX11, "orderAt", "(I)I"⟩
abbrev cX11_basin : ByteArray := prog_13_method_97_code
def yX11_basin : MethodName := ⟨RX11, "basin", "(II)I"⟩
abbrev cX11_reign : ByteArray := prog_13_method_98_code
def yX11_reign : MethodName := ⟨RX11, "reign", "(III)I"⟩
abbrev cX11_tourOf : ByteArray := prog_13_method_99_code
def yX11_tourOf : MethodName := ⟨RX11, "tourOf", "(I)I"⟩
abbrev cX11_tour : ByteArray := prog_13_method_100_code
def yX11_tour : MethodName := ⟨RX11, "tour", "()I"⟩
abbrev cX11_parted : ByteArray := prog_13_method_101_code
def yX11_parted : MethodName := ⟨RX11, "parted", "()I"⟩
abbrev cX11_meet : ByteArray := prog_13_method_102_code
def yX11_meet : MethodName := ⟨RX11, "meet", "(III)I"⟩
abbrev cX11_when : ByteArray := prog_13_method_103_code
def yX11_when : MethodName := ⟨RX11, "when", "(I)I"⟩
abbrev cX11_then : ByteArray := prog_13_method_104_code
def yX11_then : MethodName := ⟨RX11, "then", "(III)I"⟩
abbrev cX11_flowIn : ByteArray := prog_13_method_105_code
def yX11_flowIn : MethodName := ⟨RX11, "flowIn", "(I)I"⟩
abbrev cX11_hasWonMost : ByteArray := prog_13_method_106_code
def yX11_hasWonMost : MethodName := ⟨RX11, "hasWonMost", "(I)Z"⟩
abbrev cX11_year : ByteArray := prog_13_method_107_code
def yX11_year : MethodName := ⟨RX11, "year", "(III)I"⟩
abbrev cX11_tell : ByteArray := prog_13_method_108_code
def yX11_tell : MethodName := ⟨RX11, "tell", "(IIIZ)I"⟩
abbrev cX11_forget : ByteArray := prog_13_method_109_code
def yX11_forget : MethodName := ⟨RX11, "forget", "()I"⟩
abbrev cX11_comesBy : ByteArray := prog_13_method_110_code
def yX11_comesBy : MethodName := ⟨RX11, "comesBy", "(II)Z"⟩
abbrev cX11_dyedBits : ByteArray := prog_13_method_111_code
def yX11_dyedBits : MethodName := ⟨RX11, "dyedBits", "(I)I"⟩
abbrev cX11_dyed : ByteArray := prog_13_method_112_code
def yX11_dyed : MethodName := ⟨RX11, "dyed", "(II)I"⟩
abbrev cX11_watch : ByteArray := prog_13_method_113_code
def yX11_watch : MethodName := ⟨RX11, "watch", "(I)I"⟩
abbrev cX11_hold : ByteArray := prog_13_method_114_code
def yX11_hold : MethodName := ⟨RX11, "hold", "(I)Z"⟩
abbrev cX11_restore : ByteArray := prog_13_method_115_code
def yX11_restore : MethodName := ⟨RX11, "restore", "(I)Z"⟩
abbrev cX11_count : ByteArray := prog_13_method_116_code
def yX11_count : MethodName := ⟨RX11, "count", "(I)I"⟩
def RJ6 : String := "java/lang/Integer"
abbrev cJ6_bitCount_0f7a4 : ByteArray := prog_15_method_49_code
def yJ6_bitCount_0f7a4 : MethodName := ⟨RJ6, "bitCount", "(I)I"⟩
def RJ0 : String := "java/lang/String"
abbrev cJ0_length_8abf5 : ByteArray := prog_17_method_54_code
def yJ0_length_8abf5 : MethodName := ⟨RJ0, "length", "()I"⟩
abbrev cJ0_charAt_5068e : ByteArray := prog_17_method_56_code
def yJ0_charAt_5068e : MethodName := ⟨RJ0, "charAt", "(I)C"⟩
abbrev cJ0_indexOf_0f7a4 : ByteArray := prog_17_method_79_code
def yJ0_indexOf_0f7a4 : MethodName := ⟨RJ0, "indexOf", "(I)I"⟩
abbrev cJ0_indexOf_7cf53 : ByteArray := prog_17_method_80_code
def yJ0_indexOf_7cf53 : MethodName := ⟨RJ0, "indexOf", "(II)I"⟩
abbrev cJ0_coder_7d493 : ByteArray := prog_17_method_152_code
def yJ0_coder_7d493 : MethodName := ⟨RJ0, "coder", "()B"⟩
abbrev cJ0_isLatin1_aae02 : ByteArray := prog_17_method_154_code
def yJ0_isLatin1_aae02 : MethodName := ⟨RJ0, "isLatin1", "()Z"⟩
abbrev cJ0_checkIndex_df160 : ByteArray := prog_17_method_155_code
def yJ0_checkIndex_df160 : MethodName := ⟨RJ0, "checkIndex", "(II)V"⟩
def RJ1 : String := "java/lang/StringLatin1"
abbrev cJ1_charAt_3b067 : ByteArray := prog_18_method_2_code
def yJ1_charAt_3b067 : MethodName := ⟨RJ1, "charAt", "([BI)C"⟩
abbrev cJ1_canEncode_9a6ad : ByteArray := prog_18_method_4_code
def yJ1_canEncode_9a6ad : MethodName := ⟨RJ1, "canEncode", "(I)Z"⟩
abbrev cJ1_indexOf_4cfef : ByteArray := prog_18_method_22_code
def yJ1_indexOf_4cfef : MethodName := ⟨RJ1, "indexOf", "([BIII)I"⟩
abbrev cJ1_indexOfChar_4cfef : ByteArray := prog_18_method_23_code
def yJ1_indexOfChar_4cfef : MethodName := ⟨RJ1, "indexOfChar", "([BIII)I"⟩
def RJ7 : String := "java/util/Arrays"
abbrev cJ7_fill_53178 : ByteArray := prog_21_method_103_code
def yJ7_fill_53178 : MethodName := ⟨RJ7, "fill", "([II)V"⟩
def RJ3 : String := "jdk/internal/util/Preconditions"
abbrev cJ3_checkIndex_8e157 : ByteArray := prog_22_method_11_code
def yJ3_checkIndex_8e157 : MethodName := ⟨RJ3, "checkIndex", "(IILjava/util/function/BiFunction;)I"⟩
def RL : String := "SourceDisputeLaw"
abbrev cL_law : ByteArray := code
abbrev vwCl : List vw_C := [(RX0, TX0, 2), (RX1, TX1, 6), (RX2, TX2, 5), (RX3, TX3, 12), (RX4, TX4, 3), (RX5, TX5, 7), (RX6, TX6, 7), (RX7, TX7, 2), (RX8, TX8, 5), (RX9, TX9, 14), (RX10, TX10, 14), (RX11, TX11, 69)]
end
