section
-- ===== PART A: goes FIRST, ahead of the names: the tables' words, and 'selects' of the private methods out of them =====
/-- a private method of a class that the tables say can be made, by its rows of tables_1 -/
def lw_okq (q : MethodName × Nat) : Prop := (q.1.cls ≠ "java/lang/invoke/MethodHandle" ∧ q.1.cls ≠ "java/lang/invoke/VarHandle") ∧ Cond.instantiable q.1.cls q.2 ∈ tables_1 ∧ Cond.privateMethod q.1 ∈ tables_1 ∧ Cond.instanceMethod q.1 ∈ tables_1
theorem lw_p0 : lw_okq (⟨"AHandGoesUp$Text", "append", "(IJ)I"⟩, 2) := ⟨⟨by decide +kernel, by decide +kernel⟩, List.mem_of_getElem? (i := 23) (by decide +kernel), List.mem_of_getElem? (i := 236) (by decide +kernel), List.mem_of_getElem? (i := 237) (by decide +kernel)⟩
theorem lw_p1 : lw_okq (⟨"AHandGoesUp$Text", "empty", "()I"⟩, 2) := ⟨⟨by decide +kernel, by decide +kernel⟩, List.mem_of_getElem? (i := 23) (by decide +kernel), List.mem_of_getElem? (i := 247) (by decide +kernel), List.mem_of_getElem? (i := 248) (by decide +kernel)⟩
theorem lw_p2 : lw_okq (⟨"AHandGoesUp$Text", "firstFault", "()I"⟩, 2) := ⟨⟨by decide +kernel, by decide +kernel⟩, List.mem_of_getElem? (i := 23) (by decide +kernel), List.mem_of_getElem? (i := 255) (by decide +kernel), List.mem_of_getElem? (i := 256) (by decide +kernel)⟩
theorem lw_p3 : lw_okq (⟨"AHandGoesUp$Text", "fits", "(II)Z"⟩, 2) := ⟨⟨by decide +kernel, by decide +kernel⟩, List.mem_of_getElem? (i := 23) (by decide +kernel), List.mem_of_getElem? (i := 259) (by decide +kernel), List.mem_of_getElem? (i := 260) (by decide +kernel)⟩
theorem lw_p4 : lw_okq (⟨"AHandGoesUp$Text", "sign", "(I)I"⟩, 2) := ⟨⟨by decide +kernel, by decide +kernel⟩, List.mem_of_getElem? (i := 23) (by decide +kernel), List.mem_of_getElem? (i := 263) (by decide +kernel), List.mem_of_getElem? (i := 264) (by decide +kernel)⟩
theorem lw_p5 : lw_okq (⟨"AHandGoesUp$Text", "figure", "(I)I"⟩, 2) := ⟨⟨by decide +kernel, by decide +kernel⟩, List.mem_of_getElem? (i := 23) (by decide +kernel), List.mem_of_getElem? (i := 270) (by decide +kernel), List.mem_of_getElem? (i := 271) (by decide +kernel)⟩
theorem lw_p6 : lw_okq (⟨"AHandGoesUp$Text", "seat", "(I)I"⟩, 2) := ⟨⟨by decide +kernel, by decide +kernel⟩, List.mem_of_getElem? (i := 23) (by decide +kernel), List.mem_of_getElem? (i := 275) (by decide +kernel), List.mem_of_getElem? (i := 276) (by decide +kernel)⟩
theorem lw_p7 : lw_okq (⟨"AHandGoesUp$Roster", "seatAll", "(LAHandGoesUp$Text;)V"⟩, 9) := ⟨⟨by decide +kernel, by decide +kernel⟩, List.mem_of_getElem? (i := 39) (by decide +kernel), List.mem_of_getElem? (i := 283) (by decide +kernel), List.mem_of_getElem? (i := 284) (by decide +kernel)⟩
theorem lw_p8 : lw_okq (⟨"AHandGoesUp$Lessons", "begin", "()V"⟩, 7) := ⟨⟨by decide +kernel, by decide +kernel⟩, List.mem_of_getElem? (i := 45) (by decide +kernel), List.mem_of_getElem? (i := 287) (by decide +kernel), List.mem_of_getElem? (i := 288) (by decide +kernel)⟩
theorem lw_p9 : lw_okq (⟨"AHandGoesUp$Roster", "lacks", "(I)Z"⟩, 9) := ⟨⟨by decide +kernel, by decide +kernel⟩, List.mem_of_getElem? (i := 39) (by decide +kernel), List.mem_of_getElem? (i := 301) (by decide +kernel), List.mem_of_getElem? (i := 302) (by decide +kernel)⟩
theorem lw_p10 : lw_okq (⟨"AHandGoesUp$Roster", "tell", "(II)I"⟩, 9) := ⟨⟨by decide +kernel, by decide +kernel⟩, List.mem_of_getElem? (i := 39) (by decide +kernel), List.mem_of_getElem? (i := 306) (by decide +kernel), List.mem_of_getElem? (i := 307) (by decide +kernel)⟩
theorem lw_p11 : lw_okq (⟨"AHandGoesUp$Roster", "isF", "(I)Z"⟩, 9) := ⟨⟨by decide +kernel, by decide +kernel⟩, List.mem_of_getElem? (i := 39) (by decide +kernel), List.mem_of_getElem? (i := 311) (by decide +kernel), List.mem_of_getElem? (i := 312) (by decide +kernel)⟩
theorem lw_p12 : lw_okq (⟨"AHandGoesUp$Roster", "upTenths", "(II)I"⟩, 9) := ⟨⟨by decide +kernel, by decide +kernel⟩, List.mem_of_getElem? (i := 39) (by decide +kernel), List.mem_of_getElem? (i := 326) (by decide +kernel), List.mem_of_getElem? (i := 327) (by decide +kernel)⟩
theorem lw_p13 : lw_okq (⟨"AHandGoesUp$Roster", "isUp", "(IZI)Z"⟩, 9) := ⟨⟨by decide +kernel, by decide +kernel⟩, List.mem_of_getElem? (i := 39) (by decide +kernel), List.mem_of_getElem? (i := 330) (by decide +kernel), List.mem_of_getElem? (i := 331) (by decide +kernel)⟩
theorem lw_p14 : lw_okq (⟨"AHandGoesUp$Roster", "isRight", "(IZI)Z"⟩, 9) := ⟨⟨by decide +kernel, by decide +kernel⟩, List.mem_of_getElem? (i := 39) (by decide +kernel), List.mem_of_getElem? (i := 334) (by decide +kernel), List.mem_of_getElem? (i := 335) (by decide +kernel)⟩
theorem lw_p15 : lw_okq (⟨"AHandGoesUp$Roster", "allUpTenths", "(I)I"⟩, 9) := ⟨⟨by decide +kernel, by decide +kernel⟩, List.mem_of_getElem? (i := 39) (by decide +kernel), List.mem_of_getElem? (i := 342) (by decide +kernel), List.mem_of_getElem? (i := 343) (by decide +kernel)⟩
def lw_privs_1 : List (MethodName × Nat) := [(⟨"AHandGoesUp$Text", "append", "(IJ)I"⟩, 2), (⟨"AHandGoesUp$Text", "empty", "()I"⟩, 2), (⟨"AHandGoesUp$Text", "firstFault", "()I"⟩, 2), (⟨"AHandGoesUp$Text", "fits", "(II)Z"⟩, 2), (⟨"AHandGoesUp$Text", "sign", "(I)I"⟩, 2), (⟨"AHandGoesUp$Text", "figure", "(I)I"⟩, 2), (⟨"AHandGoesUp$Text", "seat", "(I)I"⟩, 2), (⟨"AHandGoesUp$Roster", "seatAll", "(LAHandGoesUp$Text;)V"⟩, 9), (⟨"AHandGoesUp$Lessons", "begin", "()V"⟩, 7), (⟨"AHandGoesUp$Roster", "lacks", "(I)Z"⟩, 9), (⟨"AHandGoesUp$Roster", "tell", "(II)I"⟩, 9), (⟨"AHandGoesUp$Roster", "isF", "(I)Z"⟩, 9), (⟨"AHandGoesUp$Roster", "upTenths", "(II)I"⟩, 9), (⟨"AHandGoesUp$Roster", "isUp", "(IZI)Z"⟩, 9), (⟨"AHandGoesUp$Roster", "isRight", "(IZI)Z"⟩, 9), (⟨"AHandGoesUp$Roster", "allUpTenths", "(I)I"⟩, 9)]
theorem lw_r1 : ∀ q ∈ lw_privs_1, lw_okq q := List.forall_mem_cons.mpr ⟨lw_p0, List.forall_mem_cons.mpr ⟨lw_p1, List.forall_mem_cons.mpr ⟨lw_p2, List.forall_mem_cons.mpr ⟨lw_p3, List.forall_mem_cons.mpr ⟨lw_p4, List.forall_mem_cons.mpr ⟨lw_p5, List.forall_mem_cons.mpr ⟨lw_p6, List.forall_mem_cons.mpr ⟨lw_p7, List.forall_mem_cons.mpr ⟨lw_p8, List.forall_mem_cons.mpr ⟨lw_p9, List.forall_mem_cons.mpr ⟨lw_p10, List.forall_mem_cons.mpr ⟨lw_p11, List.forall_mem_cons.mpr ⟨lw_p12, List.forall_mem_cons.mpr ⟨lw_p13, List.forall_mem_cons.mpr ⟨lw_p14, List.forall_mem_cons.mpr ⟨lw_p15, fun _ h => absurd h List.not_mem_nil⟩⟩⟩⟩⟩⟩⟩⟩⟩⟩⟩⟩⟩⟩⟩⟩
theorem lw_p16 : lw_okq (⟨"AHandGoesUp$Roster", "allSilentTenths", "(I)I"⟩, 9) := ⟨⟨by decide +kernel, by decide +kernel⟩, List.mem_of_getElem? (i := 39) (by decide +kernel), List.mem_of_getElem? (i := 351) (by decide +kernel), List.mem_of_getElem? (i := 352) (by decide +kernel)⟩
theorem lw_p17 : lw_okq (⟨"AHandGoesUp$Hands", "look", "(LAHandGoesUp$Roster;I)V"⟩, 1) := ⟨⟨by decide +kernel, by decide +kernel⟩, List.mem_of_getElem? (i := 113) (by decide +kernel), List.mem_of_getElem? (i := 360) (by decide +kernel), List.mem_of_getElem? (i := 361) (by decide +kernel)⟩
theorem lw_p18 : lw_okq (⟨"AHandGoesUp$Spread", "begin", "()V"⟩, 1) := ⟨⟨by decide +kernel, by decide +kernel⟩, List.mem_of_getElem? (i := 119) (by decide +kernel), List.mem_of_getElem? (i := 364) (by decide +kernel), List.mem_of_getElem? (i := 365) (by decide +kernel)⟩
theorem lw_p19 : lw_okq (⟨"AHandGoesUp$Spread", "set", "(IIJ)V"⟩, 1) := ⟨⟨by decide +kernel, by decide +kernel⟩, List.mem_of_getElem? (i := 119) (by decide +kernel), List.mem_of_getElem? (i := 371) (by decide +kernel), List.mem_of_getElem? (i := 372) (by decide +kernel)⟩
theorem lw_p20 : lw_okq (⟨"AHandGoesUp$Spread", "join", "(JJJJ)V"⟩, 1) := ⟨⟨by decide +kernel, by decide +kernel⟩, List.mem_of_getElem? (i := 119) (by decide +kernel), List.mem_of_getElem? (i := 377) (by decide +kernel), List.mem_of_getElem? (i := 378) (by decide +kernel)⟩
theorem lw_p21 : lw_okq (⟨"AHandGoesUp$Spread", "get", "(II)J"⟩, 1) := ⟨⟨by decide +kernel, by decide +kernel⟩, List.mem_of_getElem? (i := 119) (by decide +kernel), List.mem_of_getElem? (i := 381) (by decide +kernel), List.mem_of_getElem? (i := 382) (by decide +kernel)⟩
theorem lw_p22 : lw_okq (⟨"AHandGoesUp$Spread", "allOf", "(I)J"⟩, 1) := ⟨⟨by decide +kernel, by decide +kernel⟩, List.mem_of_getElem? (i := 119) (by decide +kernel), List.mem_of_getElem? (i := 385) (by decide +kernel), List.mem_of_getElem? (i := 386) (by decide +kernel)⟩
theorem lw_p23 : lw_okq (⟨"AHandGoesUp$Hands", "likeliestKnowing", "(I)I"⟩, 1) := ⟨⟨by decide +kernel, by decide +kernel⟩, List.mem_of_getElem? (i := 113) (by decide +kernel), List.mem_of_getElem? (i := 409) (by decide +kernel), List.mem_of_getElem? (i := 410) (by decide +kernel)⟩
theorem lw_p24 : lw_okq (⟨"AHandGoesUp$Choice", "look", "(LAHandGoesUp$Roster;II)V"⟩, 6) := ⟨⟨by decide +kernel, by decide +kernel⟩, List.mem_of_getElem? (i := 135) (by decide +kernel), List.mem_of_getElem? (i := 422) (by decide +kernel), List.mem_of_getElem? (i := 423) (by decide +kernel)⟩
theorem lw_p25 : lw_okq (⟨"AHandGoesUp$Roster", "rank", "(II)I"⟩, 9) := ⟨⟨by decide +kernel, by decide +kernel⟩, List.mem_of_getElem? (i := 39) (by decide +kernel), List.mem_of_getElem? (i := 426) (by decide +kernel), List.mem_of_getElem? (i := 427) (by decide +kernel)⟩
theorem lw_p26 : lw_okq (⟨"AHandGoesUp$Roster", "rankByRule", "(II)I"⟩, 9) := ⟨⟨by decide +kernel, by decide +kernel⟩, List.mem_of_getElem? (i := 39) (by decide +kernel), List.mem_of_getElem? (i := 430) (by decide +kernel), List.mem_of_getElem? (i := 431) (by decide +kernel)⟩
theorem lw_p27 : lw_okq (⟨"AHandGoesUp$Roster", "rankInRow", "(I)I"⟩, 9) := ⟨⟨by decide +kernel, by decide +kernel⟩, List.mem_of_getElem? (i := 39) (by decide +kernel), List.mem_of_getElem? (i := 434) (by decide +kernel), List.mem_of_getElem? (i := 435) (by decide +kernel)⟩
theorem lw_p28 : lw_okq (⟨"AHandGoesUp$Roster", "rightTenths", "(IIZ)I"⟩, 9) := ⟨⟨by decide +kernel, by decide +kernel⟩, List.mem_of_getElem? (i := 39) (by decide +kernel), List.mem_of_getElem? (i := 443) (by decide +kernel), List.mem_of_getElem? (i := 444) (by decide +kernel)⟩
theorem lw_p29 : lw_okq (⟨"AHandGoesUp$Choice", "weightOfTaken", "(I)J"⟩, 6) := ⟨⟨by decide +kernel, by decide +kernel⟩, List.mem_of_getElem? (i := 135) (by decide +kernel), List.mem_of_getElem? (i := 447) (by decide +kernel), List.mem_of_getElem? (i := 448) (by decide +kernel)⟩
theorem lw_p30 : lw_okq (⟨"AHandGoesUp$Choice", "weightOfOthers", "(I)J"⟩, 6) := ⟨⟨by decide +kernel, by decide +kernel⟩, List.mem_of_getElem? (i := 135) (by decide +kernel), List.mem_of_getElem? (i := 452) (by decide +kernel), List.mem_of_getElem? (i := 453) (by decide +kernel)⟩
theorem lw_p31 : lw_okq (⟨"AHandGoesUp$Choice", "othersByLot", "(I)J"⟩, 6) := ⟨⟨by decide +kernel, by decide +kernel⟩, List.mem_of_getElem? (i := 135) (by decide +kernel), List.mem_of_getElem? (i := 456) (by decide +kernel), List.mem_of_getElem? (i := 457) (by decide +kernel)⟩
def lw_privs_2 : List (MethodName × Nat) := [(⟨"AHandGoesUp$Roster", "allSilentTenths", "(I)I"⟩, 9), (⟨"AHandGoesUp$Hands", "look", "(LAHandGoesUp$Roster;I)V"⟩, 1), (⟨"AHandGoesUp$Spread", "begin", "()V"⟩, 1), (⟨"AHandGoesUp$Spread", "set", "(IIJ)V"⟩, 1), (⟨"AHandGoesUp$Spread", "join", "(JJJJ)V"⟩, 1), (⟨"AHandGoesUp$Spread", "get", "(II)J"⟩, 1), (⟨"AHandGoesUp$Spread", "allOf", "(I)J"⟩, 1), (⟨"AHandGoesUp$Hands", "likeliestKnowing", "(I)I"⟩, 1), (⟨"AHandGoesUp$Choice", "look", "(LAHandGoesUp$Roster;II)V"⟩, 6), (⟨"AHandGoesUp$Roster", "rank", "(II)I"⟩, 9), (⟨"AHandGoesUp$Roster", "rankByRule", "(II)I"⟩, 9), (⟨"AHandGoesUp$Roster", "rankInRow", "(I)I"⟩, 9), (⟨"AHandGoesUp$Roster", "rightTenths", "(IIZ)I"⟩, 9), (⟨"AHandGoesUp$Choice", "weightOfTaken", "(I)J"⟩, 6), (⟨"AHandGoesUp$Choice", "weightOfOthers", "(I)J"⟩, 6), (⟨"AHandGoesUp$Choice", "othersByLot", "(I)J"⟩, 6)]
theorem lw_r2 : ∀ q ∈ lw_privs_2, lw_okq q := List.forall_mem_cons.mpr ⟨lw_p16, List.forall_mem_cons.mpr ⟨lw_p17, List.forall_mem_cons.mpr ⟨lw_p18, List.forall_mem_cons.mpr ⟨lw_p19, List.forall_mem_cons.mpr ⟨lw_p20, List.forall_mem_cons.mpr ⟨lw_p21, List.forall_mem_cons.mpr ⟨lw_p22, List.forall_mem_cons.mpr ⟨lw_p23, List.forall_mem_cons.mpr ⟨lw_p24, List.forall_mem_cons.mpr ⟨lw_p25, List.forall_mem_cons.mpr ⟨lw_p26, List.forall_mem_cons.mpr ⟨lw_p27, List.forall_mem_cons.mpr ⟨lw_p28, List.forall_mem_cons.mpr ⟨lw_p29, List.forall_mem_cons.mpr ⟨lw_p30, List.forall_mem_cons.mpr ⟨lw_p31, fun _ h => absurd h List.not_mem_nil⟩⟩⟩⟩⟩⟩⟩⟩⟩⟩⟩⟩⟩⟩⟩⟩
theorem lw_p32 : lw_okq (⟨"AHandGoesUp$Choice", "othersByRank", "(I)J"⟩, 6) := ⟨⟨by decide +kernel, by decide +kernel⟩, List.mem_of_getElem? (i := 135) (by decide +kernel), List.mem_of_getElem? (i := 466) (by decide +kernel), List.mem_of_getElem? (i := 467) (by decide +kernel)⟩
theorem lw_p33 : lw_okq (⟨"AHandGoesUp$Choice", "weightOfAll", "()J"⟩, 6) := ⟨⟨by decide +kernel, by decide +kernel⟩, List.mem_of_getElem? (i := 135) (by decide +kernel), List.mem_of_getElem? (i := 471) (by decide +kernel), List.mem_of_getElem? (i := 472) (by decide +kernel)⟩
theorem lw_p34 : lw_okq (⟨"AHandGoesUp$Choice", "weightOfRight", "()J"⟩, 6) := ⟨⟨by decide +kernel, by decide +kernel⟩, List.mem_of_getElem? (i := 135) (by decide +kernel), List.mem_of_getElem? (i := 481) (by decide +kernel), List.mem_of_getElem? (i := 482) (by decide +kernel)⟩
theorem lw_p35 : lw_okq (⟨"AHandGoesUp$Choice", "likeliest", "()I"⟩, 6) := ⟨⟨by decide +kernel, by decide +kernel⟩, List.mem_of_getElem? (i := 135) (by decide +kernel), List.mem_of_getElem? (i := 489) (by decide +kernel), List.mem_of_getElem? (i := 490) (by decide +kernel)⟩
theorem lw_p36 : lw_okq (⟨"AHandGoesUp$Roster", "bestWait", "(II)I"⟩, 9) := ⟨⟨by decide +kernel, by decide +kernel⟩, List.mem_of_getElem? (i := 39) (by decide +kernel), List.mem_of_getElem? (i := 498) (by decide +kernel), List.mem_of_getElem? (i := 499) (by decide +kernel)⟩
theorem lw_p37 : lw_okq (⟨"AHandGoesUp$Roster", "noBits", "(I)Z"⟩, 9) := ⟨⟨by decide +kernel, by decide +kernel⟩, List.mem_of_getElem? (i := 39) (by decide +kernel), List.mem_of_getElem? (i := 507) (by decide +kernel), List.mem_of_getElem? (i := 508) (by decide +kernel)⟩
theorem lw_p38 : lw_okq (⟨"AHandGoesUp$Roster", "everyone", "()I"⟩, 9) := ⟨⟨by decide +kernel, by decide +kernel⟩, List.mem_of_getElem? (i := 39) (by decide +kernel), List.mem_of_getElem? (i := 511) (by decide +kernel), List.mem_of_getElem? (i := 512) (by decide +kernel)⟩
theorem lw_p39 : lw_okq (⟨"AHandGoesUp$Roster", "upBits", "(II)I"⟩, 9) := ⟨⟨by decide +kernel, by decide +kernel⟩, List.mem_of_getElem? (i := 39) (by decide +kernel), List.mem_of_getElem? (i := 515) (by decide +kernel), List.mem_of_getElem? (i := 516) (by decide +kernel)⟩
theorem lw_p40 : lw_okq (⟨"AHandGoesUp$Roster", "choose", "(III)I"⟩, 9) := ⟨⟨by decide +kernel, by decide +kernel⟩, List.mem_of_getElem? (i := 39) (by decide +kernel), List.mem_of_getElem? (i := 534) (by decide +kernel), List.mem_of_getElem? (i := 535) (by decide +kernel)⟩
theorem lw_p41 : lw_okq (⟨"AHandGoesUp$Lessons", "draw", "(I)I"⟩, 7) := ⟨⟨by decide +kernel, by decide +kernel⟩, List.mem_of_getElem? (i := 45) (by decide +kernel), List.mem_of_getElem? (i := 545) (by decide +kernel), List.mem_of_getElem? (i := 546) (by decide +kernel)⟩
theorem lw_p42 : lw_okq (⟨"AHandGoesUp$Roster", "member", "(II)I"⟩, 9) := ⟨⟨by decide +kernel, by decide +kernel⟩, List.mem_of_getElem? (i := 39) (by decide +kernel), List.mem_of_getElem? (i := 551) (by decide +kernel), List.mem_of_getElem? (i := 552) (by decide +kernel)⟩
theorem lw_p43 : lw_okq (⟨"AHandGoesUp$Roster", "foremost", "(II)I"⟩, 9) := ⟨⟨by decide +kernel, by decide +kernel⟩, List.mem_of_getElem? (i := 39) (by decide +kernel), List.mem_of_getElem? (i := 555) (by decide +kernel), List.mem_of_getElem? (i := 556) (by decide +kernel)⟩
theorem lw_p44 : lw_okq (⟨"AHandGoesUp$Lessons", "answer", "(IZZ)V"⟩, 7) := ⟨⟨by decide +kernel, by decide +kernel⟩, List.mem_of_getElem? (i := 45) (by decide +kernel), List.mem_of_getElem? (i := 562) (by decide +kernel), List.mem_of_getElem? (i := 563) (by decide +kernel)⟩
theorem lw_p45 : lw_okq (⟨"AHandGoesUp$Roster", "neverTaken", "()I"⟩, 9) := ⟨⟨by decide +kernel, by decide +kernel⟩, List.mem_of_getElem? (i := 39) (by decide +kernel), List.mem_of_getElem? (i := 578) (by decide +kernel), List.mem_of_getElem? (i := 579) (by decide +kernel)⟩
theorem lw_p46 : lw_okq (⟨"AHandGoesUp$Roster", "mostTimes", "()I"⟩, 9) := ⟨⟨by decide +kernel, by decide +kernel⟩, List.mem_of_getElem? (i := 39) (by decide +kernel), List.mem_of_getElem? (i := 582) (by decide +kernel), List.mem_of_getElem? (i := 583) (by decide +kernel)⟩
theorem lw_p47 : lw_okq (⟨"AHandGoesUp$Tapes", "add", "(II)I"⟩, 4) := ⟨⟨by decide +kernel, by decide +kernel⟩, List.mem_of_getElem? (i := 164) (by decide +kernel), List.mem_of_getElem? (i := 591) (by decide +kernel), List.mem_of_getElem? (i := 592) (by decide +kernel)⟩
def lw_privs_3 : List (MethodName × Nat) := [(⟨"AHandGoesUp$Choice", "othersByRank", "(I)J"⟩, 6), (⟨"AHandGoesUp$Choice", "weightOfAll", "()J"⟩, 6), (⟨"AHandGoesUp$Choice", "weightOfRight", "()J"⟩, 6), (⟨"AHandGoesUp$Choice", "likeliest", "()I"⟩, 6), (⟨"AHandGoesUp$Roster", "bestWait", "(II)I"⟩, 9), (⟨"AHandGoesUp$Roster", "noBits", "(I)Z"⟩, 9), (⟨"AHandGoesUp$Roster", "everyone", "()I"⟩, 9), (⟨"AHandGoesUp$Roster", "upBits", "(II)I"⟩, 9), (⟨"AHandGoesUp$Roster", "choose", "(III)I"⟩, 9), (⟨"AHandGoesUp$Lessons", "draw", "(I)I"⟩, 7), (⟨"AHandGoesUp$Roster", "member", "(II)I"⟩, 9), (⟨"AHandGoesUp$Roster", "foremost", "(II)I"⟩, 9), (⟨"AHandGoesUp$Lessons", "answer", "(IZZ)V"⟩, 7), (⟨"AHandGoesUp$Roster", "neverTaken", "()I"⟩, 9), (⟨"AHandGoesUp$Roster", "mostTimes", "()I"⟩, 9), (⟨"AHandGoesUp$Tapes", "add", "(II)I"⟩, 4)]
theorem lw_r3 : ∀ q ∈ lw_privs_3, lw_okq q := List.forall_mem_cons.mpr ⟨lw_p32, List.forall_mem_cons.mpr ⟨lw_p33, List.forall_mem_cons.mpr ⟨lw_p34, List.forall_mem_cons.mpr ⟨lw_p35, List.forall_mem_cons.mpr ⟨lw_p36, List.forall_mem_cons.mpr ⟨lw_p37, List.forall_mem_cons.mpr ⟨lw_p38, List.forall_mem_cons.mpr ⟨lw_p39, List.forall_mem_cons.mpr ⟨lw_p40, List.forall_mem_cons.mpr ⟨lw_p41, List.forall_mem_cons.mpr ⟨lw_p42, List.forall_mem_cons.mpr ⟨lw_p43, List.forall_mem_cons.mpr ⟨lw_p44, List.forall_mem_cons.mpr ⟨lw_p45, List.forall_mem_cons.mpr ⟨lw_p46, List.forall_mem_cons.mpr ⟨lw_p47, fun _ h => absurd h List.not_mem_nil⟩⟩⟩⟩⟩⟩⟩⟩⟩⟩⟩⟩⟩⟩⟩⟩
theorem lw_p48 : lw_okq (⟨"AHandGoesUp$Tapes", "empty", "()I"⟩, 4) := ⟨⟨by decide +kernel, by decide +kernel⟩, List.mem_of_getElem? (i := 164) (by decide +kernel), List.mem_of_getElem? (i := 600) (by decide +kernel), List.mem_of_getElem? (i := 601) (by decide +kernel)⟩
theorem lw_p49 : lw_okq (⟨"AHandGoesUp$Tapes", "takenOf", "(I)I"⟩, 4) := ⟨⟨by decide +kernel, by decide +kernel⟩, List.mem_of_getElem? (i := 164) (by decide +kernel), List.mem_of_getElem? (i := 608) (by decide +kernel), List.mem_of_getElem? (i := 609) (by decide +kernel)⟩
theorem lw_p50 : lw_okq (⟨"AHandGoesUp$Tapes", "sharesOf", "(I)J"⟩, 4) := ⟨⟨by decide +kernel, by decide +kernel⟩, List.mem_of_getElem? (i := 164) (by decide +kernel), List.mem_of_getElem? (i := 618) (by decide +kernel), List.mem_of_getElem? (i := 619) (by decide +kernel)⟩
theorem lw_p51 : lw_okq (⟨"AHandGoesUp$Tapes", "waysToAsMany", "(I)J"⟩, 4) := ⟨⟨by decide +kernel, by decide +kernel⟩, List.mem_of_getElem? (i := 164) (by decide +kernel), List.mem_of_getElem? (i := 629) (by decide +kernel), List.mem_of_getElem? (i := 630) (by decide +kernel)⟩
theorem lw_p52 : lw_okq (⟨"AHandGoesUp$Tapes", "ways", "()J"⟩, 4) := ⟨⟨by decide +kernel, by decide +kernel⟩, List.mem_of_getElem? (i := 164) (by decide +kernel), List.mem_of_getElem? (i := 637) (by decide +kernel), List.mem_of_getElem? (i := 638) (by decide +kernel)⟩
theorem lw_p53 : lw_okq (⟨"AHandGoesUp$Trials", "add", "(IZ)I"⟩, 3) := ⟨⟨by decide +kernel, by decide +kernel⟩, List.mem_of_getElem? (i := 186) (by decide +kernel), List.mem_of_getElem? (i := 660) (by decide +kernel), List.mem_of_getElem? (i := 661) (by decide +kernel)⟩
theorem lw_p54 : lw_okq (⟨"AHandGoesUp$Trials", "empty", "()I"⟩, 3) := ⟨⟨by decide +kernel, by decide +kernel⟩, List.mem_of_getElem? (i := 186) (by decide +kernel), List.mem_of_getElem? (i := 669) (by decide +kernel), List.mem_of_getElem? (i := 670) (by decide +kernel)⟩
theorem lw_p55 : lw_okq (⟨"AHandGoesUp$Trials", "deals", "(Z)J"⟩, 3) := ⟨⟨by decide +kernel, by decide +kernel⟩, List.mem_of_getElem? (i := 186) (by decide +kernel), List.mem_of_getElem? (i := 677) (by decide +kernel), List.mem_of_getElem? (i := 678) (by decide +kernel)⟩
theorem lw_p56 : lw_okq (⟨"AHandGoesUp$Trials", "together", "(I)I"⟩, 3) := ⟨⟨by decide +kernel, by decide +kernel⟩, List.mem_of_getElem? (i := 186) (by decide +kernel), List.mem_of_getElem? (i := 681) (by decide +kernel), List.mem_of_getElem? (i := 682) (by decide +kernel)⟩
theorem lw_p57 : lw_okq (⟨"AHandGoesUp", "slotOf", "(I)LAHandGoesUp$Lessons;"⟩, 8) := ⟨⟨by decide +kernel, by decide +kernel⟩, List.mem_of_getElem? (i := 15) (by decide +kernel), List.mem_of_getElem? (i := 697) (by decide +kernel), List.mem_of_getElem? (i := 698) (by decide +kernel)⟩
theorem lw_p58 : lw_okq (⟨"AHandGoesUp$Lessons", "become", "(LAHandGoesUp$Lessons;)V"⟩, 7) := ⟨⟨by decide +kernel, by decide +kernel⟩, List.mem_of_getElem? (i := 45) (by decide +kernel), List.mem_of_getElem? (i := 701) (by decide +kernel), List.mem_of_getElem? (i := 702) (by decide +kernel)⟩
theorem lw_p59 : lw_okq (⟨"AHandGoesUpModel", "readText", "()I"⟩, 28) := ⟨⟨by decide +kernel, by decide +kernel⟩, List.mem_of_getElem? (i := 714) (by decide +kernel), List.mem_of_getElem? (i := 823) (by decide +kernel), List.mem_of_getElem? (i := 824) (by decide +kernel)⟩
theorem lw_p60 : lw_okq (⟨"AHandGoesUpModel", "free", "(I)I"⟩, 28) := ⟨⟨by decide +kernel, by decide +kernel⟩, List.mem_of_getElem? (i := 714) (by decide +kernel), List.mem_of_getElem? (i := 827) (by decide +kernel), List.mem_of_getElem? (i := 828) (by decide +kernel)⟩
theorem lw_p61 : lw_okq (⟨"AHandGoesUpModel", "figure", "(I)I"⟩, 28) := ⟨⟨by decide +kernel, by decide +kernel⟩, List.mem_of_getElem? (i := 714) (by decide +kernel), List.mem_of_getElem? (i := 831) (by decide +kernel), List.mem_of_getElem? (i := 832) (by decide +kernel)⟩
theorem lw_p62 : lw_okq (⟨"AHandGoesUpModel", "isPupil", "(I)Z"⟩, 28) := ⟨⟨by decide +kernel, by decide +kernel⟩, List.mem_of_getElem? (i := 714) (by decide +kernel), List.mem_of_getElem? (i := 844) (by decide +kernel), List.mem_of_getElem? (i := 845) (by decide +kernel)⟩
theorem lw_p63 : lw_okq (⟨"AHandGoesUpModel", "upOf", "(II)I"⟩, 28) := ⟨⟨by decide +kernel, by decide +kernel⟩, List.mem_of_getElem? (i := 714) (by decide +kernel), List.mem_of_getElem? (i := 860) (by decide +kernel), List.mem_of_getElem? (i := 861) (by decide +kernel)⟩
def lw_privs_4 : List (MethodName × Nat) := [(⟨"AHandGoesUp$Tapes", "empty", "()I"⟩, 4), (⟨"AHandGoesUp$Tapes", "takenOf", "(I)I"⟩, 4), (⟨"AHandGoesUp$Tapes", "sharesOf", "(I)J"⟩, 4), (⟨"AHandGoesUp$Tapes", "waysToAsMany", "(I)J"⟩, 4), (⟨"AHandGoesUp$Tapes", "ways", "()J"⟩, 4), (⟨"AHandGoesUp$Trials", "add", "(IZ)I"⟩, 3), (⟨"AHandGoesUp$Trials", "empty", "()I"⟩, 3), (⟨"AHandGoesUp$Trials", "deals", "(Z)J"⟩, 3), (⟨"AHandGoesUp$Trials", "together", "(I)I"⟩, 3), (⟨"AHandGoesUp", "slotOf", "(I)LAHandGoesUp$Lessons;"⟩, 8), (⟨"AHandGoesUp$Lessons", "become", "(LAHandGoesUp$Lessons;)V"⟩, 7), (⟨"AHandGoesUpModel", "readText", "()I"⟩, 28), (⟨"AHandGoesUpModel", "free", "(I)I"⟩, 28), (⟨"AHandGoesUpModel", "figure", "(I)I"⟩, 28), (⟨"AHandGoesUpModel", "isPupil", "(I)Z"⟩, 28), (⟨"AHandGoesUpModel", "upOf", "(II)I"⟩, 28)]
theorem lw_r4 : ∀ q ∈ lw_privs_4, lw_okq q := List.forall_mem_cons.mpr ⟨lw_p48, List.forall_mem_cons.mpr ⟨lw_p49, List.forall_mem_cons.mpr ⟨lw_p50, List.forall_mem_cons.mpr ⟨lw_p51, List.forall_mem_cons.mpr ⟨lw_p52, List.forall_mem_cons.mpr ⟨lw_p53, List.forall_mem_cons.mpr ⟨lw_p54, List.forall_mem_cons.mpr ⟨lw_p55, List.forall_mem_cons.mpr ⟨lw_p56, List.forall_mem_cons.mpr ⟨lw_p57, List.forall_mem_cons.mpr ⟨lw_p58, List.forall_mem_cons.mpr ⟨lw_p59, List.forall_mem_cons.mpr ⟨lw_p60, List.forall_mem_cons.mpr ⟨lw_p61, List.forall_mem_cons.mpr ⟨lw_p62, List.forall_mem_cons.mpr ⟨lw_p63, fun _ h => absurd h List.not_mem_nil⟩⟩⟩⟩⟩⟩⟩⟩⟩⟩⟩⟩⟩⟩⟩⟩
theorem lw_p64 : lw_okq (⟨"AHandGoesUpModel", "meanOf", "(I)I"⟩, 28) := ⟨⟨by decide +kernel, by decide +kernel⟩, List.mem_of_getElem? (i := 714) (by decide +kernel), List.mem_of_getElem? (i := 868) (by decide +kernel), List.mem_of_getElem? (i := 869) (by decide +kernel)⟩
theorem lw_p65 : lw_okq (⟨"AHandGoesUpModel", "layJoint", "(I)V"⟩, 28) := ⟨⟨by decide +kernel, by decide +kernel⟩, List.mem_of_getElem? (i := 714) (by decide +kernel), List.mem_of_getElem? (i := 882) (by decide +kernel), List.mem_of_getElem? (i := 883) (by decide +kernel)⟩
theorem lw_p66 : lw_okq (⟨"AHandGoesUpModel", "handsOf", "(I)J"⟩, 28) := ⟨⟨by decide +kernel, by decide +kernel⟩, List.mem_of_getElem? (i := 714) (by decide +kernel), List.mem_of_getElem? (i := 886) (by decide +kernel), List.mem_of_getElem? (i := 887) (by decide +kernel)⟩
theorem lw_p67 : lw_okq (⟨"AHandGoesUpModel", "whole", "()J"⟩, 28) := ⟨⟨by decide +kernel, by decide +kernel⟩, List.mem_of_getElem? (i := 714) (by decide +kernel), List.mem_of_getElem? (i := 890) (by decide +kernel), List.mem_of_getElem? (i := 891) (by decide +kernel)⟩
theorem lw_p68 : lw_okq (⟨"AHandGoesUpModel", "takenOf", "(III)J"⟩, 28) := ⟨⟨by decide +kernel, by decide +kernel⟩, List.mem_of_getElem? (i := 714) (by decide +kernel), List.mem_of_getElem? (i := 916) (by decide +kernel), List.mem_of_getElem? (i := 917) (by decide +kernel)⟩
theorem lw_p69 : lw_okq (⟨"AHandGoesUpModel", "isAhead", "(III)Z"⟩, 28) := ⟨⟨by decide +kernel, by decide +kernel⟩, List.mem_of_getElem? (i := 714) (by decide +kernel), List.mem_of_getElem? (i := 921) (by decide +kernel), List.mem_of_getElem? (i := 922) (by decide +kernel)⟩
theorem lw_p70 : lw_okq (⟨"AHandGoesUpModel", "placeOf", "(I)I"⟩, 28) := ⟨⟨by decide +kernel, by decide +kernel⟩, List.mem_of_getElem? (i := 714) (by decide +kernel), List.mem_of_getElem? (i := 925) (by decide +kernel), List.mem_of_getElem? (i := 926) (by decide +kernel)⟩
theorem lw_p71 : lw_okq (⟨"AHandGoesUpModel", "isKnown", "(I)Z"⟩, 28) := ⟨⟨by decide +kernel, by decide +kernel⟩, List.mem_of_getElem? (i := 714) (by decide +kernel), List.mem_of_getElem? (i := 946) (by decide +kernel), List.mem_of_getElem? (i := 947) (by decide +kernel)⟩
theorem lw_p72 : lw_okq (⟨"AHandGoesUpModel", "raisedOf", "(II)I"⟩, 28) := ⟨⟨by decide +kernel, by decide +kernel⟩, List.mem_of_getElem? (i := 714) (by decide +kernel), List.mem_of_getElem? (i := 950) (by decide +kernel), List.mem_of_getElem? (i := 951) (by decide +kernel)⟩
theorem lw_p73 : lw_okq (⟨"AHandGoesUpModel", "drawOf", "(I)I"⟩, 28) := ⟨⟨by decide +kernel, by decide +kernel⟩, List.mem_of_getElem? (i := 714) (by decide +kernel), List.mem_of_getElem? (i := 966) (by decide +kernel), List.mem_of_getElem? (i := 967) (by decide +kernel)⟩
theorem lw_p74 : lw_okq (⟨"AHandGoesUpModel", "takes", "(II)I"⟩, 28) := ⟨⟨by decide +kernel, by decide +kernel⟩, List.mem_of_getElem? (i := 714) (by decide +kernel), List.mem_of_getElem? (i := 975) (by decide +kernel), List.mem_of_getElem? (i := 976) (by decide +kernel)⟩
theorem lw_p75 : lw_okq (⟨"AHandGoesUpModel", "cameOf", "(I)I"⟩, 28) := ⟨⟨by decide +kernel, by decide +kernel⟩, List.mem_of_getElem? (i := 714) (by decide +kernel), List.mem_of_getElem? (i := 1000) (by decide +kernel), List.mem_of_getElem? (i := 1001) (by decide +kernel)⟩
theorem lw_p76 : lw_okq (⟨"AHandGoesUpModel", "waits", "()I"⟩, 28) := ⟨⟨by decide +kernel, by decide +kernel⟩, List.mem_of_getElem? (i := 714) (by decide +kernel), List.mem_of_getElem? (i := 1037) (by decide +kernel), List.mem_of_getElem? (i := 1038) (by decide +kernel)⟩
def lw_privs_5 : List (MethodName × Nat) := [(⟨"AHandGoesUpModel", "meanOf", "(I)I"⟩, 28), (⟨"AHandGoesUpModel", "layJoint", "(I)V"⟩, 28), (⟨"AHandGoesUpModel", "handsOf", "(I)J"⟩, 28), (⟨"AHandGoesUpModel", "whole", "()J"⟩, 28), (⟨"AHandGoesUpModel", "takenOf", "(III)J"⟩, 28), (⟨"AHandGoesUpModel", "isAhead", "(III)Z"⟩, 28), (⟨"AHandGoesUpModel", "placeOf", "(I)I"⟩, 28), (⟨"AHandGoesUpModel", "isKnown", "(I)Z"⟩, 28), (⟨"AHandGoesUpModel", "raisedOf", "(II)I"⟩, 28), (⟨"AHandGoesUpModel", "drawOf", "(I)I"⟩, 28), (⟨"AHandGoesUpModel", "takes", "(II)I"⟩, 28), (⟨"AHandGoesUpModel", "cameOf", "(I)I"⟩, 28), (⟨"AHandGoesUpModel", "waits", "()I"⟩, 28)]
theorem lw_r5 : ∀ q ∈ lw_privs_5, lw_okq q := List.forall_mem_cons.mpr ⟨lw_p64, List.forall_mem_cons.mpr ⟨lw_p65, List.forall_mem_cons.mpr ⟨lw_p66, List.forall_mem_cons.mpr ⟨lw_p67, List.forall_mem_cons.mpr ⟨lw_p68, List.forall_mem_cons.mpr ⟨lw_p69, List.forall_mem_cons.mpr ⟨lw_p70, List.forall_mem_cons.mpr ⟨lw_p71, List.forall_mem_cons.mpr ⟨lw_p72, List.forall_mem_cons.mpr ⟨lw_p73, List.forall_mem_cons.mpr ⟨lw_p74, List.forall_mem_cons.mpr ⟨lw_p75, List.forall_mem_cons.mpr ⟨lw_p76, fun _ h => absurd h List.not_mem_nil⟩⟩⟩⟩⟩⟩⟩⟩⟩⟩⟩⟩⟩
def lw_privs : List (MethodName × Nat) := lw_privs_1 ++ (lw_privs_2 ++ (lw_privs_3 ++ (lw_privs_4 ++ (lw_privs_5))))
def lw_tbl : List Cond := k2_sels lw_privs ++ tables_1
theorem lw_privs_ok : ∀ q ∈ lw_privs, lw_okq q := by
  show ∀ q ∈ lw_privs_1 ++ (lw_privs_2 ++ (lw_privs_3 ++ (lw_privs_4 ++ (lw_privs_5)))), lw_okq q
  exact List.forall_mem_append.mpr ⟨lw_r1, List.forall_mem_append.mpr ⟨lw_r2, List.forall_mem_append.mpr ⟨lw_r3, List.forall_mem_append.mpr ⟨lw_r4, lw_r5⟩⟩⟩⟩
-- ===== end of PART A; then your names; then what follows =====
end
section
/-! ===== BEGIN printed: names, fields, word lists, decode rows ===== -/
def RX0 : String := "AHandGoesUp$Choice"
def TX0 : u_T := fun k => match k with
  | 0 => ("AHandGoesUp$Choice", "ranks", "[I", true)
  | 1 => ("AHandGoesUp$Choice", "eligible", "[I", true)
  | 2 => ("AHandGoesUp$Choice", "eligibleAndRight", "[I", true)
  | 3 => ("AHandGoesUp$Choice", "spread", "LAHandGoesUp$Spread;", true)
  | 4 => ("AHandGoesUp$Choice", "pupils", "I", false)
  | _ => ("AHandGoesUp$Choice", "rule", "I", false)
def tyX0 : Nat → FieldType := fun k => match k with
  | 0 => .array .int
  | 1 => .array .int
  | 2 => .array .int
  | 3 => .object "AHandGoesUp$Spread"
  | 4 => .int
  | _ => .int
abbrev wsX00 : List Cond := u_ws RX0 TX0 6
theorem nmX0 : ∀ a, a < 6 → ∀ b, b < 6 → a ≠ b → (TX0 a).2.1 ≠ (TX0 b).2.1 := by decide +kernel
theorem tyX0_ok : ∀ k, k < 6 → parseFieldDescriptor (TX0 k).2.2.1 = some (tyX0 k) := by decide +kernel
abbrev cX0_init : ByteArray := prog_2_method_1_code
def yX0_init : MethodName := ⟨RX0, "<init>", "()V"⟩
abbrev cX0_look : ByteArray := prog_2_method_2_code
def yX0_look : MethodName := ⟨RX0, "look", "(LAHandGoesUp$Roster;II)V"⟩
abbrev cX0_weightOfAll : ByteArray := prog_2_method_3_code
def yX0_weightOfAll : MethodName := ⟨RX0, "weightOfAll", "()J"⟩
abbrev cX0_weightOfTaken : ByteArray := prog_2_method_4_code
def yX0_weightOfTaken : MethodName := ⟨RX0, "weightOfTaken", "(I)J"⟩
abbrev cX0_weightOfRight : ByteArray := prog_2_method_5_code
def yX0_weightOfRight : MethodName := ⟨RX0, "weightOfRight", "()J"⟩
abbrev cX0_weightOfOthers : ByteArray := prog_2_method_6_code
def yX0_weightOfOthers : MethodName := ⟨RX0, "weightOfOthers", "(I)J"⟩
abbrev cX0_othersByLot : ByteArray := prog_2_method_7_code
def yX0_othersByLot : MethodName := ⟨RX0, "othersByLot", "(I)J"⟩
abbrev cX0_othersByRank : ByteArray := prog_2_method_8_code
def yX0_othersByRank : MethodName := ⟨RX0, "othersByRank", "(I)J"⟩
abbrev cX0_likeliest : ByteArray := prog_2_method_9_code
def yX0_likeliest : MethodName := ⟨RX0, "likeliest", "()I"⟩
def RX1 : String := "AHandGoesUp$Hands"
def TX1 : u_T := fun k => match k with
  | _ => ("AHandGoesUp$Hands", "spread", "LAHandGoesUp$Spread;", true)
def tyX1 : Nat → FieldType := fun k => match k with
  | _ => .object "AHandGoesUp$Spread"
abbrev wsX10 : List Cond := u_ws RX1 TX1 1
theorem nmX1 : ∀ a, a < 1 → ∀ b, b < 1 → a ≠ b → (TX1 a).2.1 ≠ (TX1 b).2.1 := by decide +kernel
theorem tyX1_ok : ∀ k, k < 1 → parseFieldDescriptor (TX1 k).2.2.1 = some (tyX1 k) := by decide +kernel
abbrev cX1_init : ByteArray := prog_3_method_1_code
def yX1_init : MethodName := ⟨RX1, "<init>", "()V"⟩
abbrev cX1_look : ByteArray := prog_3_method_2_code
def yX1_look : MethodName := ⟨RX1, "look", "(LAHandGoesUp$Roster;I)V"⟩
abbrev cX1_likeliestKnowing : ByteArray := prog_3_method_3_code
def yX1_likeliestKnowing : MethodName := ⟨RX1, "likeliestKnowing", "(I)I"⟩
def RX2 : String := "AHandGoesUp$Lessons"
def TX2 : u_T := fun k => match k with
  | 0 => ("AHandGoesUp$Lessons", "dares", "[I", true)
  | 1 => ("AHandGoesUp$Lessons", "times", "[I", true)
  | 2 => ("AHandGoesUp$Lessons", "seed", "J", false)
  | 3 => ("AHandGoesUp$Lessons", "questions", "I", false)
  | 4 => ("AHandGoesUp$Lessons", "rightOnes", "I", false)
  | 5 => ("AHandGoesUp$Lessons", "wrongOnes", "I", false)
  | _ => ("AHandGoesUp$Lessons", "isKept", "Z", false)
def tyX2 : Nat → FieldType := fun k => match k with
  | 0 => .array .int
  | 1 => .array .int
  | 2 => .long
  | 3 => .int
  | 4 => .int
  | 5 => .int
  | _ => .boolean
abbrev wsX20 : List Cond := u_ws RX2 TX2 7
theorem nmX2 : ∀ a, a < 7 → ∀ b, b < 7 → a ≠ b → (TX2 a).2.1 ≠ (TX2 b).2.1 := by decide +kernel
theorem tyX2_ok : ∀ k, k < 7 → parseFieldDescriptor (TX2 k).2.2.1 = some (tyX2 k) := by decide +kernel
abbrev cX2_init : ByteArray := prog_4_method_1_code
def yX2_init : MethodName := ⟨RX2, "<init>", "()V"⟩
abbrev cX2_begin : ByteArray := prog_4_method_2_code
def yX2_begin : MethodName := ⟨RX2, "begin", "()V"⟩
abbrev cX2_become : ByteArray := prog_4_method_3_code
def yX2_become : MethodName := ⟨RX2, "become", "(LAHandGoesUp$Lessons;)V"⟩
abbrev cX2_draw : ByteArray := prog_4_method_4_code
def yX2_draw : MethodName := ⟨RX2, "draw", "(I)I"⟩
abbrev cX2_answer : ByteArray := prog_4_method_5_code
def yX2_answer : MethodName := ⟨RX2, "answer", "(IZZ)V"⟩
def RX3 : String := "AHandGoesUp$Roster"
def TX3 : u_T := fun k => match k with
  | 0 => ("AHandGoesUp$Roster", "letters", "[I", true)
  | 1 => ("AHandGoesUp$Roster", "rows", "[I", true)
  | 2 => ("AHandGoesUp$Roster", "columns", "[I", true)
  | 3 => ("AHandGoesUp$Roster", "tenths", "[I", true)
  | 4 => ("AHandGoesUp$Roster", "needs", "[I", true)
  | 5 => ("AHandGoesUp$Roster", "toldDares", "[I", true)
  | 6 => ("AHandGoesUp$Roster", "lessons", "LAHandGoesUp$Lessons;", true)
  | 7 => ("AHandGoesUp$Roster", "pupils", "I", false)
  | _ => ("AHandGoesUp$Roster", "mood", "I", false)
def tyX3 : Nat → FieldType := fun k => match k with
  | 0 => .array .int
  | 1 => .array .int
  | 2 => .array .int
  | 3 => .array .int
  | 4 => .array .int
  | 5 => .array .int
  | 6 => .object "AHandGoesUp$Lessons"
  | 7 => .int
  | _ => .int
abbrev wsX30 : List Cond := u_ws RX3 TX3 9
theorem nmX3 : ∀ a, a < 9 → ∀ b, b < 9 → a ≠ b → (TX3 a).2.1 ≠ (TX3 b).2.1 := by decide +kernel
theorem tyX3_ok : ∀ k, k < 9 → parseFieldDescriptor (TX3 k).2.2.1 = some (tyX3 k) := by decide +kernel
abbrev cX3_init : ByteArray := prog_5_method_1_code
def yX3_init : MethodName := ⟨RX3, "<init>", "()V"⟩
abbrev cX3_seatAll : ByteArray := prog_5_method_2_code
def yX3_seatAll : MethodName := ⟨RX3, "seatAll", "(LAHandGoesUp$Text;)V"⟩
abbrev cX3_lacks : ByteArray := prog_5_method_3_code
def yX3_lacks : MethodName := ⟨RX3, "lacks", "(I)Z"⟩
abbrev cX3_everyone : ByteArray := prog_5_method_4_code
def yX3_everyone : MethodName := ⟨RX3, "everyone", "()I"⟩
abbrev cX3_noBits : ByteArray := prog_5_method_5_code
def yX3_noBits : MethodName := ⟨RX3, "noBits", "(I)Z"⟩
abbrev cX3_isF : ByteArray := prog_5_method_6_code
def yX3_isF : MethodName := ⟨RX3, "isF", "(I)Z"⟩
abbrev cX3_tell : ByteArray := prog_5_method_7_code
def yX3_tell : MethodName := ⟨RX3, "tell", "(II)I"⟩
abbrev cX3_isRight : ByteArray := prog_5_method_8_code
def yX3_isRight : MethodName := ⟨RX3, "isRight", "(IZI)Z"⟩
abbrev cX3_isUp : ByteArray := prog_5_method_9_code
def yX3_isUp : MethodName := ⟨RX3, "isUp", "(IZI)Z"⟩
abbrev cX3_upTenths : ByteArray := prog_5_method_10_code
def yX3_upTenths : MethodName := ⟨RX3, "upTenths", "(II)I"⟩
abbrev cX3_rightTenths : ByteArray := prog_5_method_11_code
def yX3_rightTenths : MethodName := ⟨RX3, "rightTenths", "(IIZ)I"⟩
abbrev cX3_allUpTenths : ByteArray := prog_5_method_12_code
def yX3_allUpTenths : MethodName := ⟨RX3, "allUpTenths", "(I)I"⟩
abbrev cX3_allSilentTenths : ByteArray := prog_5_method_13_code
def yX3_allSilentTenths : MethodName := ⟨RX3, "allSilentTenths", "(I)I"⟩
abbrev cX3_bestWait : ByteArray := prog_5_method_14_code
def yX3_bestWait : MethodName := ⟨RX3, "bestWait", "(II)I"⟩
abbrev cX3_upBits : ByteArray := prog_5_method_15_code
def yX3_upBits : MethodName := ⟨RX3, "upBits", "(II)I"⟩
abbrev cX3_rank : ByteArray := prog_5_method_16_code
def yX3_rank : MethodName := ⟨RX3, "rank", "(II)I"⟩
abbrev cX3_rankByRule : ByteArray := prog_5_method_17_code
def yX3_rankByRule : MethodName := ⟨RX3, "rankByRule", "(II)I"⟩
abbrev cX3_rankInRow : ByteArray := prog_5_method_18_code
def yX3_rankInRow : MethodName := ⟨RX3, "rankInRow", "(I)I"⟩
abbrev cX3_choose : ByteArray := prog_5_method_19_code
def yX3_choose : MethodName := ⟨RX3, "choose", "(III)I"⟩
abbrev cX3_member : ByteArray := prog_5_method_20_code
def yX3_member : MethodName := ⟨RX3, "member", "(II)I"⟩
abbrev cX3_foremost : ByteArray := prog_5_method_21_code
def yX3_foremost : MethodName := ⟨RX3, "foremost", "(II)I"⟩
abbrev cX3_neverTaken : ByteArray := prog_5_method_22_code
def yX3_neverTaken : MethodName := ⟨RX3, "neverTaken", "()I"⟩
abbrev cX3_mostTimes : ByteArray := prog_5_method_23_code
def yX3_mostTimes : MethodName := ⟨RX3, "mostTimes", "()I"⟩
def RX4 : String := "AHandGoesUp$Spread"
def TX4 : u_T := fun k => match k with
  | _ => ("AHandGoesUp$Spread", "cells", "[J", true)
def tyX4 : Nat → FieldType := fun k => match k with
  | _ => .array .long
abbrev wsX40 : List Cond := u_ws RX4 TX4 1
theorem nmX4 : ∀ a, a < 1 → ∀ b, b < 1 → a ≠ b → (TX4 a).2.1 ≠ (TX4 b).2.1 := by decide +kernel
theorem tyX4_ok : ∀ k, k < 1 → parseFieldDescriptor (TX4 k).2.2.1 = some (tyX4 k) := by decide +kernel
abbrev cX4_init : ByteArray := prog_6_method_1_code
def yX4_init : MethodName := ⟨RX4, "<init>", "()V"⟩
abbrev cX4_begin : ByteArray := prog_6_method_2_code
def yX4_begin : MethodName := ⟨RX4, "begin", "()V"⟩
abbrev cX4_get : ByteArray := prog_6_method_3_code
def yX4_get : MethodName := ⟨RX4, "get", "(II)J"⟩
abbrev cX4_set : ByteArray := prog_6_method_4_code
def yX4_set : MethodName := ⟨RX4, "set", "(IIJ)V"⟩
abbrev cX4_join : ByteArray := prog_6_method_5_code
def yX4_join : MethodName := ⟨RX4, "join", "(JJJJ)V"⟩
abbrev cX4_allOf : ByteArray := prog_6_method_6_code
def yX4_allOf : MethodName := ⟨RX4, "allOf", "(I)J"⟩
def RX5 : String := "AHandGoesUp$Tapes"
def TX5 : u_T := fun k => match k with
  | 0 => ("AHandGoesUp$Tapes", "hands", "[I", true)
  | 1 => ("AHandGoesUp$Tapes", "ones", "[I", true)
  | 2 => ("AHandGoesUp$Tapes", "spread", "LAHandGoesUp$Spread;", true)
  | _ => ("AHandGoesUp$Tapes", "size", "I", false)
def tyX5 : Nat → FieldType := fun k => match k with
  | 0 => .array .int
  | 1 => .array .int
  | 2 => .object "AHandGoesUp$Spread"
  | _ => .int
abbrev wsX50 : List Cond := u_ws RX5 TX5 4
theorem nmX5 : ∀ a, a < 4 → ∀ b, b < 4 → a ≠ b → (TX5 a).2.1 ≠ (TX5 b).2.1 := by decide +kernel
theorem tyX5_ok : ∀ k, k < 4 → parseFieldDescriptor (TX5 k).2.2.1 = some (tyX5 k) := by decide +kernel
abbrev cX5_init : ByteArray := prog_7_method_1_code
def yX5_init : MethodName := ⟨RX5, "<init>", "()V"⟩
abbrev cX5_add : ByteArray := prog_7_method_2_code
def yX5_add : MethodName := ⟨RX5, "add", "(II)I"⟩
abbrev cX5_empty : ByteArray := prog_7_method_3_code
def yX5_empty : MethodName := ⟨RX5, "empty", "()I"⟩
abbrev cX5_takenOf : ByteArray := prog_7_method_4_code
def yX5_takenOf : MethodName := ⟨RX5, "takenOf", "(I)I"⟩
abbrev cX5_sharesOf : ByteArray := prog_7_method_5_code
def yX5_sharesOf : MethodName := ⟨RX5, "sharesOf", "(I)J"⟩
abbrev cX5_ways : ByteArray := prog_7_method_6_code
def yX5_ways : MethodName := ⟨RX5, "ways", "()J"⟩
abbrev cX5_waysToAsMany : ByteArray := prog_7_method_7_code
def yX5_waysToAsMany : MethodName := ⟨RX5, "waysToAsMany", "(I)J"⟩
def RX6 : String := "AHandGoesUp$Text"
def TX6 : u_T := fun k => match k with
  | 0 => ("AHandGoesUp$Text", "bytes", "[I", true)
  | _ => ("AHandGoesUp$Text", "length", "I", false)
def tyX6 : Nat → FieldType := fun k => match k with
  | 0 => .array .int
  | _ => .int
abbrev wsX60 : List Cond := u_ws RX6 TX6 2
theorem nmX6 : ∀ a, a < 2 → ∀ b, b < 2 → a ≠ b → (TX6 a).2.1 ≠ (TX6 b).2.1 := by decide +kernel
theorem tyX6_ok : ∀ k, k < 2 → parseFieldDescriptor (TX6 k).2.2.1 = some (tyX6 k) := by decide +kernel
abbrev cX6_init : ByteArray := prog_8_method_1_code
def yX6_init : MethodName := ⟨RX6, "<init>", "()V"⟩
abbrev cX6_append : ByteArray := prog_8_method_2_code
def yX6_append : MethodName := ⟨RX6, "append", "(IJ)I"⟩
abbrev cX6_empty : ByteArray := prog_8_method_3_code
def yX6_empty : MethodName := ⟨RX6, "empty", "()I"⟩
abbrev cX6_sign : ByteArray := prog_8_method_4_code
def yX6_sign : MethodName := ⟨RX6, "sign", "(I)I"⟩
abbrev cX6_figure : ByteArray := prog_8_method_5_code
def yX6_figure : MethodName := ⟨RX6, "figure", "(I)I"⟩
abbrev cX6_firstFault : ByteArray := prog_8_method_6_code
def yX6_firstFault : MethodName := ⟨RX6, "firstFault", "()I"⟩
abbrev cX6_fits : ByteArray := prog_8_method_7_code
def yX6_fits : MethodName := ⟨RX6, "fits", "(II)Z"⟩
abbrev cX6_seat : ByteArray := prog_8_method_8_code
def yX6_seat : MethodName := ⟨RX6, "seat", "(I)I"⟩
def RX7 : String := "AHandGoesUp$Trials"
def TX7 : u_T := fun k => match k with
  | 0 => ("AHandGoesUp$Trials", "hands", "[I", true)
  | 1 => ("AHandGoesUp$Trials", "waited", "I", false)
  | _ => ("AHandGoesUp$Trials", "size", "I", false)
def tyX7 : Nat → FieldType := fun k => match k with
  | 0 => .array .int
  | 1 => .int
  | _ => .int
abbrev wsX70 : List Cond := u_ws RX7 TX7 3
theorem nmX7 : ∀ a, a < 3 → ∀ b, b < 3 → a ≠ b → (TX7 a).2.1 ≠ (TX7 b).2.1 := by decide +kernel
theorem tyX7_ok : ∀ k, k < 3 → parseFieldDescriptor (TX7 k).2.2.1 = some (tyX7 k) := by decide +kernel
abbrev cX7_init : ByteArray := prog_9_method_1_code
def yX7_init : MethodName := ⟨RX7, "<init>", "()V"⟩
abbrev cX7_add : ByteArray := prog_9_method_2_code
def yX7_add : MethodName := ⟨RX7, "add", "(IZ)I"⟩
abbrev cX7_empty : ByteArray := prog_9_method_3_code
def yX7_empty : MethodName := ⟨RX7, "empty", "()I"⟩
abbrev cX7_together : ByteArray := prog_9_method_4_code
def yX7_together : MethodName := ⟨RX7, "together", "(I)I"⟩
abbrev cX7_deals : ByteArray := prog_9_method_5_code
def yX7_deals : MethodName := ⟨RX7, "deals", "(Z)J"⟩
def RX8 : String := "AHandGoesUp"
def TX8 : u_T := fun k => match k with
  | 0 => ("AHandGoesUp", "text", "LAHandGoesUp$Text;", true)
  | 1 => ("AHandGoesUp", "roster", "LAHandGoesUp$Roster;", true)
  | 2 => ("AHandGoesUp", "handsUp", "LAHandGoesUp$Hands;", true)
  | 3 => ("AHandGoesUp", "choice", "LAHandGoesUp$Choice;", true)
  | 4 => ("AHandGoesUp", "firstSlot", "LAHandGoesUp$Lessons;", true)
  | 5 => ("AHandGoesUp", "secondSlot", "LAHandGoesUp$Lessons;", true)
  | 6 => ("AHandGoesUp", "tapes", "LAHandGoesUp$Tapes;", true)
  | _ => ("AHandGoesUp", "trials", "LAHandGoesUp$Trials;", true)
def tyX8 : Nat → FieldType := fun k => match k with
  | 0 => .object "AHandGoesUp$Text"
  | 1 => .object "AHandGoesUp$Roster"
  | 2 => .object "AHandGoesUp$Hands"
  | 3 => .object "AHandGoesUp$Choice"
  | 4 => .object "AHandGoesUp$Lessons"
  | 5 => .object "AHandGoesUp$Lessons"
  | 6 => .object "AHandGoesUp$Tapes"
  | _ => .object "AHandGoesUp$Trials"
abbrev wsX80 : List Cond := u_ws RX8 TX8 8
theorem nmX8 : ∀ a, a < 8 → ∀ b, b < 8 → a ≠ b → (TX8 a).2.1 ≠ (TX8 b).2.1 := by decide +kernel
theorem tyX8_ok : ∀ k, k < 8 → parseFieldDescriptor (TX8 k).2.2.1 = some (tyX8 k) := by decide +kernel
abbrev cX8_init : ByteArray := prog_1_method_1_code
def yX8_init : MethodName := ⟨RX8, "<init>", "()V"⟩
abbrev cX8_write : ByteArray := prog_1_method_2_code
def yX8_write : MethodName := ⟨RX8, "write", "(IJ)I"⟩
abbrev cX8_wipe : ByteArray := prog_1_method_3_code
def yX8_wipe : MethodName := ⟨RX8, "wipe", "()I"⟩
abbrev cX8_fault : ByteArray := prog_1_method_4_code
def yX8_fault : MethodName := ⟨RX8, "fault", "()I"⟩
abbrev cX8_room : ByteArray := prog_1_method_5_code
def yX8_room : MethodName := ⟨RX8, "room", "()I"⟩
abbrev cX8_about : ByteArray := prog_1_method_6_code
def yX8_about : MethodName := ⟨RX8, "about", "(II)I"⟩
abbrev cX8_mood : ByteArray := prog_1_method_7_code
def yX8_mood : MethodName := ⟨RX8, "mood", "(I)I"⟩
abbrev cX8_up : ByteArray := prog_1_method_8_code
def yX8_up : MethodName := ⟨RX8, "up", "(II)I"⟩
abbrev cX8_mean : ByteArray := prog_1_method_9_code
def yX8_mean : MethodName := ⟨RX8, "mean", "(I)I"⟩
abbrev cX8_quiet : ByteArray := prog_1_method_10_code
def yX8_quiet : MethodName := ⟨RX8, "quiet", "(I)I"⟩
abbrev cX8_hands : ByteArray := prog_1_method_11_code
def yX8_hands : MethodName := ⟨RX8, "hands", "(IIZ)J"⟩
abbrev cX8_given : ByteArray := prog_1_method_12_code
def yX8_given : MethodName := ⟨RX8, "given", "(IIIZ)J"⟩
abbrev cX8_likely : ByteArray := prog_1_method_13_code
def yX8_likely : MethodName := ⟨RX8, "likely", "(II)I"⟩
abbrev cX8_taken : ByteArray := prog_1_method_14_code
def yX8_taken : MethodName := ⟨RX8, "taken", "(IIIZ)J"⟩
abbrev cX8_right : ByteArray := prog_1_method_15_code
def yX8_right : MethodName := ⟨RX8, "right", "(IIZ)J"⟩
abbrev cX8_mostly : ByteArray := prog_1_method_16_code
def yX8_mostly : MethodName := ⟨RX8, "mostly", "(II)I"⟩
abbrev cX8_await : ByteArray := prog_1_method_17_code
def yX8_await : MethodName := ⟨RX8, "await", "(II)I"⟩
abbrev cX8_raised : ByteArray := prog_1_method_18_code
def yX8_raised : MethodName := ⟨RX8, "raised", "(II)I"⟩
abbrev cX8_silent : ByteArray := prog_1_method_19_code
def yX8_silent : MethodName := ⟨RX8, "silent", "(II)I"⟩
abbrev cX8_seed : ByteArray := prog_1_method_20_code
def yX8_seed : MethodName := ⟨RX8, "seed", "(J)J"⟩
abbrev cX8_ask : ByteArray := prog_1_method_21_code
def yX8_ask : MethodName := ⟨RX8, "ask", "(IIIZ)I"⟩
abbrev cX8_lesson : ByteArray := prog_1_method_22_code
def yX8_lesson : MethodName := ⟨RX8, "lesson", "(I)I"⟩
abbrev cX8_tape : ByteArray := prog_1_method_23_code
def yX8_tape : MethodName := ⟨RX8, "tape", "(II)I"⟩
abbrev cX8_untape : ByteArray := prog_1_method_24_code
def yX8_untape : MethodName := ⟨RX8, "untape", "()I"⟩
abbrev cX8_came : ByteArray := prog_1_method_25_code
def yX8_came : MethodName := ⟨RX8, "came", "(I)I"⟩
abbrev cX8_due : ByteArray := prog_1_method_26_code
def yX8_due : MethodName := ⟨RX8, "due", "(IZ)J"⟩
abbrev cX8_luck : ByteArray := prog_1_method_27_code
def yX8_luck : MethodName := ⟨RX8, "luck", "(IZ)J"⟩
abbrev cX8_boards : ByteArray := prog_1_method_28_code
def yX8_boards : MethodName := ⟨RX8, "boards", "(IIIIZ)J"⟩
abbrev cX8_span : ByteArray := prog_1_method_29_code
def yX8_span : MethodName := ⟨RX8, "span", "(IIIZ)I"⟩
abbrev cX8_trial : ByteArray := prog_1_method_30_code
def yX8_trial : MethodName := ⟨RX8, "trial", "(IZ)I"⟩
abbrev cX8_untrial : ByteArray := prog_1_method_31_code
def yX8_untrial : MethodName := ⟨RX8, "untrial", "()I"⟩
abbrev cX8_chance : ByteArray := prog_1_method_32_code
def yX8_chance : MethodName := ⟨RX8, "chance", "(Z)J"⟩
abbrev cX8_until : ByteArray := prog_1_method_33_code
def yX8_until : MethodName := ⟨RX8, "until", "(IZ)J"⟩
abbrev cX8_keep : ByteArray := prog_1_method_34_code
def yX8_keep : MethodName := ⟨RX8, "keep", "(I)I"⟩
abbrev cX8_again : ByteArray := prog_1_method_35_code
def yX8_again : MethodName := ⟨RX8, "again", "(I)I"⟩
abbrev cX8_count : ByteArray := prog_1_method_36_code
def yX8_count : MethodName := ⟨RX8, "count", "(I)I"⟩
abbrev cX8_slotOf : ByteArray := prog_1_method_37_code
def yX8_slotOf : MethodName := ⟨RX8, "slotOf", "(I)LAHandGoesUp$Lessons;"⟩
abbrev cX8_outside : ByteArray := prog_1_method_38_code
def yX8_outside : MethodName := ⟨RX8, "outside", "(III)Z"⟩
abbrev cX8_noSeconds : ByteArray := prog_1_method_39_code
def yX8_noSeconds : MethodName := ⟨RX8, "noSeconds", "(I)Z"⟩
abbrev cX8_noRule : ByteArray := prog_1_method_40_code
def yX8_noRule : MethodName := ⟨RX8, "noRule", "(I)Z"⟩
abbrev cX8_isIn : ByteArray := prog_1_method_41_code
def yX8_isIn : MethodName := ⟨RX8, "isIn", "(II)Z"⟩
abbrev cX8_at : ByteArray := prog_1_method_42_code
def yX8_at : MethodName := ⟨RX8, "at", "([II)I"⟩
abbrev cX8_put : ByteArray := prog_1_method_43_code
def yX8_put : MethodName := ⟨RX8, "put", "([III)V"⟩
abbrev cX8_fraction : ByteArray := prog_1_method_44_code
def yX8_fraction : MethodName := ⟨RX8, "fraction", "(JJZ)J"⟩
abbrev cX8_commonDivisor : ByteArray := prog_1_method_45_code
def yX8_commonDivisor : MethodName := ⟨RX8, "commonDivisor", "(JJ)J"⟩
abbrev cX8_tenTo : ByteArray := prog_1_method_46_code
def yX8_tenTo : MethodName := ⟨RX8, "tenTo", "(I)J"⟩
abbrev cX8_share : ByteArray := prog_1_method_47_code
def yX8_share : MethodName := ⟨RX8, "share", "(I)J"⟩
abbrev cX8_choices : ByteArray := prog_1_method_48_code
def yX8_choices : MethodName := ⟨RX8, "choices", "(II)J"⟩
abbrev cX8_waysToSee : ByteArray := prog_1_method_49_code
def yX8_waysToSee : MethodName := ⟨RX8, "waysToSee", "(IIII)J"⟩
def RX9 : String := "AHandGoesUpModel"
def TX9 : u_T := fun k => match k with
  | 0 => ("AHandGoesUpModel", "read", "[I", true)
  | 1 => ("AHandGoesUpModel", "readMany", "I", false)
  | 2 => ("AHandGoesUpModel", "pupil", "[I", true)
  | 3 => ("AHandGoesUpModel", "pupils", "I", false)
  | 4 => ("AHandGoesUpModel", "dares", "[I", true)
  | 5 => ("AHandGoesUpModel", "times", "[I", true)
  | 6 => ("AHandGoesUpModel", "mood", "I", false)
  | 7 => ("AHandGoesUpModel", "text", "[I", true)
  | 8 => ("AHandGoesUpModel", "length", "I", false)
  | 9 => ("AHandGoesUpModel", "at", "I", false)
  | 10 => ("AHandGoesUpModel", "faultAt", "I", false)
  | 11 => ("AHandGoesUpModel", "joint", "[J", true)
  | 12 => ("AHandGoesUpModel", "others", "[J", true)
  | 13 => ("AHandGoesUpModel", "drawn", "J", false)
  | 14 => ("AHandGoesUpModel", "questions", "I", false)
  | 15 => ("AHandGoesUpModel", "rights", "I", false)
  | 16 => ("AHandGoesUpModel", "wrongs", "I", false)
  | 17 => ("AHandGoesUpModel", "tapes", "I", false)
  | 18 => ("AHandGoesUpModel", "tapeHands", "[I", true)
  | 19 => ("AHandGoesUpModel", "tapeTaken", "[I", true)
  | 20 => ("AHandGoesUpModel", "trials", "I", false)
  | 21 => ("AHandGoesUpModel", "trialHands", "[I", true)
  | 22 => ("AHandGoesUpModel", "trialWaited", "[Z", true)
  | 23 => ("AHandGoesUpModel", "isKept", "[Z", true)
  | 24 => ("AHandGoesUpModel", "keptDares", "[I", true)
  | 25 => ("AHandGoesUpModel", "keptTimes", "[I", true)
  | 26 => ("AHandGoesUpModel", "keptDrawn", "[J", true)
  | _ => ("AHandGoesUpModel", "keptLesson", "[I", true)
def tyX9 : Nat → FieldType := fun k => match k with
  | 0 => .array .int
  | 1 => .int
  | 2 => .array .int
  | 3 => .int
  | 4 => .array .int
  | 5 => .array .int
  | 6 => .int
  | 7 => .array .int
  | 8 => .int
  | 9 => .int
  | 10 => .int
  | 11 => .array .long
  | 12 => .array .long
  | 13 => .long
  | 14 => .int
  | 15 => .int
  | 16 => .int
  | 17 => .int
  | 18 => .array .int
  | 19 => .array .int
  | 20 => .int
  | 21 => .array .int
  | 22 => .array .boolean
  | 23 => .array .boolean
  | 24 => .array .int
  | 25 => .array .int
  | 26 => .array .long
  | _ => .array .int
abbrev wsX90 : List Cond := u_ws RX9 TX9 28
theorem nmX9 : ∀ a, a < 28 → ∀ b, b < 28 → a ≠ b → (TX9 a).2.1 ≠ (TX9 b).2.1 := by decide +kernel
theorem tyX9_ok : ∀ k, k < 28 → parseFieldDescriptor (TX9 k).2.2.1 = some (tyX9 k) := by decide +kernel
abbrev cX9_init : ByteArray := prog_11_method_1_code
def yX9_init : MethodName := ⟨RX9, "<init>", "()V"⟩
abbrev cX9_in : ByteArray := prog_11_method_3_code
def yX9_in : MethodName := ⟨RX9, "in", "(JJJ)Z"⟩
abbrev cX9_write : ByteArray := prog_11_method_4_code
def yX9_write : MethodName := ⟨RX9, "write", "(IJ)I"⟩
abbrev cX9_wipe : ByteArray := prog_11_method_5_code
def yX9_wipe : MethodName := ⟨RX9, "wipe", "()I"⟩
abbrev cX9_figure : ByteArray := prog_11_method_6_code
def yX9_figure : MethodName := ⟨RX9, "figure", "(I)I"⟩
abbrev cX9_free : ByteArray := prog_11_method_7_code
def yX9_free : MethodName := ⟨RX9, "free", "(I)I"⟩
abbrev cX9_readText : ByteArray := prog_11_method_8_code
def yX9_readText : MethodName := ⟨RX9, "readText", "()I"⟩
abbrev cX9_fault : ByteArray := prog_11_method_9_code
def yX9_fault : MethodName := ⟨RX9, "fault", "()I"⟩
abbrev cX9_room : ByteArray := prog_11_method_10_code
def yX9_room : MethodName := ⟨RX9, "room", "()I"⟩
abbrev cX9_isPupil : ByteArray := prog_11_method_11_code
def yX9_isPupil : MethodName := ⟨RX9, "isPupil", "(I)Z"⟩
abbrev cX9_isWait : ByteArray := prog_11_method_12_code
def yX9_isWait : MethodName := ⟨RX9, "isWait", "(I)Z"⟩
abbrev cX9_isRule : ByteArray := prog_11_method_13_code
def yX9_isRule : MethodName := ⟨RX9, "isRule", "(I)Z"⟩
abbrev cX9_about : ByteArray := prog_11_method_14_code
def yX9_about : MethodName := ⟨RX9, "about", "(II)I"⟩
abbrev cX9_mood : ByteArray := prog_11_method_15_code
def yX9_mood : MethodName := ⟨RX9, "mood", "(I)I"⟩
abbrev cX9_upOf : ByteArray := prog_11_method_16_code
def yX9_upOf : MethodName := ⟨RX9, "upOf", "(II)I"⟩
abbrev cX9_up : ByteArray := prog_11_method_17_code
def yX9_up : MethodName := ⟨RX9, "up", "(II)I"⟩
abbrev cX9_meanOf : ByteArray := prog_11_method_18_code
def yX9_meanOf : MethodName := ⟨RX9, "meanOf", "(I)I"⟩
abbrev cX9_mean : ByteArray := prog_11_method_19_code
def yX9_mean : MethodName := ⟨RX9, "mean", "(I)I"⟩
abbrev cX9_quiet : ByteArray := prog_11_method_20_code
def yX9_quiet : MethodName := ⟨RX9, "quiet", "(I)I"⟩
abbrev cX9_part : ByteArray := prog_11_method_21_code
def yX9_part : MethodName := ⟨RX9, "part", "(JJZ)J"⟩
abbrev cX9_whole : ByteArray := prog_11_method_22_code
def yX9_whole : MethodName := ⟨RX9, "whole", "()J"⟩
abbrev cX9_layJoint : ByteArray := prog_11_method_23_code
def yX9_layJoint : MethodName := ⟨RX9, "layJoint", "(I)V"⟩
abbrev cX9_handsOf : ByteArray := prog_11_method_24_code
def yX9_handsOf : MethodName := ⟨RX9, "handsOf", "(I)J"⟩
abbrev cX9_hands : ByteArray := prog_11_method_25_code
def yX9_hands : MethodName := ⟨RX9, "hands", "(IIZ)J"⟩
abbrev cX9_given : ByteArray := prog_11_method_26_code
def yX9_given : MethodName := ⟨RX9, "given", "(IIIZ)J"⟩
abbrev cX9_likely : ByteArray := prog_11_method_27_code
def yX9_likely : MethodName := ⟨RX9, "likely", "(II)I"⟩
abbrev cX9_isAhead : ByteArray := prog_11_method_28_code
def yX9_isAhead : MethodName := ⟨RX9, "isAhead", "(III)Z"⟩
abbrev cX9_placeOf : ByteArray := prog_11_method_29_code
def yX9_placeOf : MethodName := ⟨RX9, "placeOf", "(I)I"⟩
abbrev cX9_takenOf : ByteArray := prog_11_method_30_code
def yX9_takenOf : MethodName := ⟨RX9, "takenOf", "(III)J"⟩
abbrev cX9_taken : ByteArray := prog_11_method_31_code
def yX9_taken : MethodName := ⟨RX9, "taken", "(IIIZ)J"⟩
abbrev cX9_right : ByteArray := prog_11_method_32_code
def yX9_right : MethodName := ⟨RX9, "right", "(IIZ)J"⟩
abbrev cX9_mostly : ByteArray := prog_11_method_33_code
def yX9_mostly : MethodName := ⟨RX9, "mostly", "(II)I"⟩
abbrev cX9_await : ByteArray := prog_11_method_34_code
def yX9_await : MethodName := ⟨RX9, "await", "(II)I"⟩
abbrev cX9_isKnown : ByteArray := prog_11_method_35_code
def yX9_isKnown : MethodName := ⟨RX9, "isKnown", "(I)Z"⟩
abbrev cX9_raisedOf : ByteArray := prog_11_method_36_code
def yX9_raisedOf : MethodName := ⟨RX9, "raisedOf", "(II)I"⟩
abbrev cX9_raised : ByteArray := prog_11_method_37_code
def yX9_raised : MethodName := ⟨RX9, "raised", "(II)I"⟩
abbrev cX9_silent : ByteArray := prog_11_method_38_code
def yX9_silent : MethodName := ⟨RX9, "silent", "(II)I"⟩
abbrev cX9_seed : ByteArray := prog_11_method_39_code
def yX9_seed : MethodName := ⟨RX9, "seed", "(J)J"⟩
abbrev cX9_ones : ByteArray := prog_11_method_40_code
def yX9_ones : MethodName := ⟨RX9, "ones", "(I)I"⟩
abbrev cX9_drawOf : ByteArray := prog_11_method_41_code
def yX9_drawOf : MethodName := ⟨RX9, "drawOf", "(I)I"⟩
abbrev cX9_takes : ByteArray := prog_11_method_42_code
def yX9_takes : MethodName := ⟨RX9, "takes", "(II)I"⟩
abbrev cX9_ask : ByteArray := prog_11_method_43_code
def yX9_ask : MethodName := ⟨RX9, "ask", "(IIIZ)I"⟩
abbrev cX9_lesson : ByteArray := prog_11_method_44_code
def yX9_lesson : MethodName := ⟨RX9, "lesson", "(I)I"⟩
abbrev cX9_isGroup : ByteArray := prog_11_method_45_code
def yX9_isGroup : MethodName := ⟨RX9, "isGroup", "(I)Z"⟩
abbrev cX9_tape : ByteArray := prog_11_method_46_code
def yX9_tape : MethodName := ⟨RX9, "tape", "(II)I"⟩
abbrev cX9_untape : ByteArray := prog_11_method_47_code
def yX9_untape : MethodName := ⟨RX9, "untape", "()I"⟩
abbrev cX9_cameOf : ByteArray := prog_11_method_48_code
def yX9_cameOf : MethodName := ⟨RX9, "cameOf", "(I)I"⟩
abbrev cX9_came : ByteArray := prog_11_method_49_code
def yX9_came : MethodName := ⟨RX9, "came", "(I)I"⟩
abbrev cX9_due : ByteArray := prog_11_method_50_code
def yX9_due : MethodName := ⟨RX9, "due", "(IZ)J"⟩
abbrev cX9_luck : ByteArray := prog_11_method_51_code
def yX9_luck : MethodName := ⟨RX9, "luck", "(IZ)J"⟩
abbrev cX9_choose : ByteArray := prog_11_method_52_code
def yX9_choose : MethodName := ⟨RX9, "choose", "(II)J"⟩
abbrev cX9_boards : ByteArray := prog_11_method_53_code
def yX9_boards : MethodName := ⟨RX9, "boards", "(IIIIZ)J"⟩
abbrev cX9_span : ByteArray := prog_11_method_54_code
def yX9_span : MethodName := ⟨RX9, "span", "(IIIZ)I"⟩
abbrev cX9_trial : ByteArray := prog_11_method_55_code
def yX9_trial : MethodName := ⟨RX9, "trial", "(IZ)I"⟩
abbrev cX9_untrial : ByteArray := prog_11_method_56_code
def yX9_untrial : MethodName := ⟨RX9, "untrial", "()I"⟩
abbrev cX9_waits : ByteArray := prog_11_method_57_code
def yX9_waits : MethodName := ⟨RX9, "waits", "()I"⟩
abbrev cX9_chance : ByteArray := prog_11_method_58_code
def yX9_chance : MethodName := ⟨RX9, "chance", "(Z)J"⟩
abbrev cX9_until : ByteArray := prog_11_method_59_code
def yX9_until : MethodName := ⟨RX9, "until", "(IZ)J"⟩
abbrev cX9_keep : ByteArray := prog_11_method_60_code
def yX9_keep : MethodName := ⟨RX9, "keep", "(I)I"⟩
abbrev cX9_again : ByteArray := prog_11_method_61_code
def yX9_again : MethodName := ⟨RX9, "again", "(I)I"⟩
abbrev cX9_count : ByteArray := prog_11_method_62_code
def yX9_count : MethodName := ⟨RX9, "count", "(I)I"⟩
def RJ6 : String := "java/lang/Integer"
def TJ6 : u_T := fun k => match k with
  | _ => ("", "", "", false)
def tyJ6 : Nat → FieldType := fun k => match k with
  | _ => .int
abbrev wsJ60 : List Cond := u_ws RJ6 TJ6 0
theorem nmJ6 : ∀ a, a < 0 → ∀ b, b < 0 → a ≠ b → (TJ6 a).2.1 ≠ (TJ6 b).2.1 := by decide +kernel
theorem tyJ6_ok : ∀ k, k < 0 → parseFieldDescriptor (TJ6 k).2.2.1 = some (tyJ6 k) := by decide +kernel
abbrev cJ6_bitCount_0f7a4 : ByteArray := prog_12_method_49_code
def yJ6_bitCount_0f7a4 : MethodName := ⟨RJ6, "bitCount", "(I)I"⟩
def RJ9 : String := "java/lang/Math"
def TJ9 : u_T := fun k => match k with
  | _ => ("", "", "", false)
def tyJ9 : Nat → FieldType := fun k => match k with
  | _ => .int
abbrev wsJ90 : List Cond := u_ws RJ9 TJ9 0
theorem nmJ9 : ∀ a, a < 0 → ∀ b, b < 0 → a ≠ b → (TJ9 a).2.1 ≠ (TJ9 b).2.1 := by decide +kernel
theorem tyJ9_ok : ∀ k, k < 0 → parseFieldDescriptor (TJ9 k).2.2.1 = some (tyJ9 k) := by decide +kernel
abbrev cJ9_abs_0f7a4 : ByteArray := prog_13_method_59_code
def yJ9_abs_0f7a4 : MethodName := ⟨RJ9, "abs", "(I)I"⟩
abbrev cJ9_max_7cf53 : ByteArray := prog_13_method_65_code
def yJ9_max_7cf53 : MethodName := ⟨RJ9, "max", "(II)I"⟩
abbrev cJ9_min_7cf53 : ByteArray := prog_13_method_69_code
def yJ9_min_7cf53 : MethodName := ⟨RJ9, "min", "(II)I"⟩
def RJ7 : String := "java/util/Arrays"
def TJ7 : u_T := fun k => match k with
  | _ => ("", "", "", false)
def tyJ7 : Nat → FieldType := fun k => match k with
  | _ => .int
abbrev wsJ70 : List Cond := u_ws RJ7 TJ7 0
theorem nmJ7 : ∀ a, a < 0 → ∀ b, b < 0 → a ≠ b → (TJ7 a).2.1 ≠ (TJ7 b).2.1 := by decide +kernel
theorem tyJ7_ok : ∀ k, k < 0 → parseFieldDescriptor (TJ7 k).2.2.1 = some (tyJ7 k) := by decide +kernel
abbrev cJ7_fill_d0a16 : ByteArray := prog_14_method_101_code
def yJ7_fill_d0a16 : MethodName := ⟨RJ7, "fill", "([JJ)V"⟩
abbrev cJ7_fill_53178 : ByteArray := prog_14_method_103_code
def yJ7_fill_53178 : MethodName := ⟨RJ7, "fill", "([II)V"⟩
def RL : String := "AHandGoesUpLaw"
abbrev cL_law : ByteArray := code
def yL_law : MethodName := ⟨RL, "law", "([I)Z"⟩
abbrev vwCl : List vw_C := [(RX0, TX0, 6), (RX1, TX1, 1), (RX2, TX2, 7), (RX3, TX3, 9), (RX4, TX4, 1), (RX5, TX5, 4), (RX6, TX6, 2), (RX7, TX7, 3), (RX8, TX8, 8), (RX9, TX9, 28)]
end
section
theorem dX8_init_0 : decode cX8_init 0 = .ok (.aload_n 0, 1) := by decide +kernel
theorem dX8_init_1 : decode cX8_init 1 = .ok (.invokespecial 1, 3) := by decide +kernel
theorem dX8_init_4 : decode cX8_init 4 = .ok (.aload_n 0, 1) := by decide +kernel
theorem dX8_init_5 : decode cX8_init 5 = .ok (.new 7, 3) := by decide +kernel
theorem dX8_init_8 : decode cX8_init 8 = .ok (.dup, 1) := by decide +kernel
theorem dX8_init_9 : decode cX8_init 9 = .ok (.invokespecial 9, 3) := by decide +kernel
theorem dX8_init_12 : decode cX8_init 12 = .ok (.putfield 10, 3) := by decide +kernel
theorem dX8_init_15 : decode cX8_init 15 = .ok (.aload_n 0, 1) := by decide +kernel
theorem dX8_init_16 : decode cX8_init 16 = .ok (.new 16, 3) := by decide +kernel
theorem dX8_init_19 : decode cX8_init 19 = .ok (.dup, 1) := by decide +kernel
theorem dX8_init_20 : decode cX8_init 20 = .ok (.invokespecial 18, 3) := by decide +kernel
theorem dX8_init_23 : decode cX8_init 23 = .ok (.putfield 19, 3) := by decide +kernel
theorem dX8_init_26 : decode cX8_init 26 = .ok (.aload_n 0, 1) := by decide +kernel
theorem dX8_init_27 : decode cX8_init 27 = .ok (.new 23, 3) := by decide +kernel
theorem dX8_init_30 : decode cX8_init 30 = .ok (.dup, 1) := by decide +kernel
theorem dX8_init_31 : decode cX8_init 31 = .ok (.invokespecial 25, 3) := by decide +kernel
theorem dX8_init_34 : decode cX8_init 34 = .ok (.putfield 26, 3) := by decide +kernel
theorem dX8_init_37 : decode cX8_init 37 = .ok (.aload_n 0, 1) := by decide +kernel
theorem dX8_init_38 : decode cX8_init 38 = .ok (.new 30, 3) := by decide +kernel
theorem dX8_init_41 : decode cX8_init 41 = .ok (.dup, 1) := by decide +kernel
theorem dX8_init_42 : decode cX8_init 42 = .ok (.invokespecial 32, 3) := by decide +kernel
theorem dX8_init_45 : decode cX8_init 45 = .ok (.putfield 33, 3) := by decide +kernel
theorem dX8_init_48 : decode cX8_init 48 = .ok (.aload_n 0, 1) := by decide +kernel
theorem dX8_init_49 : decode cX8_init 49 = .ok (.new 37, 3) := by decide +kernel
theorem dX8_init_52 : decode cX8_init 52 = .ok (.dup, 1) := by decide +kernel
theorem dX8_init_53 : decode cX8_init 53 = .ok (.invokespecial 39, 3) := by decide +kernel
theorem dX8_init_56 : decode cX8_init 56 = .ok (.putfield 40, 3) := by decide +kernel
theorem dX8_init_59 : decode cX8_init 59 = .ok (.aload_n 0, 1) := by decide +kernel
theorem dX8_init_60 : decode cX8_init 60 = .ok (.new 37, 3) := by decide +kernel
theorem dX8_init_63 : decode cX8_init 63 = .ok (.dup, 1) := by decide +kernel
theorem dX8_init_64 : decode cX8_init 64 = .ok (.invokespecial 39, 3) := by decide +kernel
theorem dX8_init_67 : decode cX8_init 67 = .ok (.putfield 44, 3) := by decide +kernel
theorem dX8_init_70 : decode cX8_init 70 = .ok (.aload_n 0, 1) := by decide +kernel
theorem dX8_init_71 : decode cX8_init 71 = .ok (.new 47, 3) := by decide +kernel
theorem dX8_init_74 : decode cX8_init 74 = .ok (.dup, 1) := by decide +kernel
theorem dX8_init_75 : decode cX8_init 75 = .ok (.invokespecial 49, 3) := by decide +kernel
theorem dX8_init_78 : decode cX8_init 78 = .ok (.putfield 50, 3) := by decide +kernel
theorem dX8_init_81 : decode cX8_init 81 = .ok (.aload_n 0, 1) := by decide +kernel
theorem dX8_init_82 : decode cX8_init 82 = .ok (.new 54, 3) := by decide +kernel
theorem dX8_init_85 : decode cX8_init 85 = .ok (.dup, 1) := by decide +kernel
theorem dX8_init_86 : decode cX8_init 86 = .ok (.invokespecial 56, 3) := by decide +kernel
theorem dX8_init_89 : decode cX8_init 89 = .ok (.putfield 57, 3) := by decide +kernel
theorem dX8_init_92 : decode cX8_init 92 = .ok (.return_, 1) := by decide +kernel
theorem dX8_write_0 : decode cX8_write 0 = .ok (.iload_n 1, 1) := by decide +kernel
theorem dX8_write_1 : decode cX8_write 1 = .ok (.iconst 1, 1) := by decide +kernel
theorem dX8_write_2 : decode cX8_write 2 = .ok (.bipush 8, 2) := by decide +kernel
theorem dX8_write_4 : decode cX8_write 4 = .ok (.invokestatic 61, 3) := by decide +kernel
theorem dX8_write_7 : decode cX8_write 7 = .ok (.ifCond .eq 8, 3) := by decide +kernel
theorem dX8_write_10 : decode cX8_write 10 = .ok (.bipush (-2), 2) := by decide +kernel
theorem dX8_write_12 : decode cX8_write 12 = .ok (.goto 12, 3) := by decide +kernel
theorem dX8_write_15 : decode cX8_write 15 = .ok (.aload_n 0, 1) := by decide +kernel
theorem dX8_write_16 : decode cX8_write 16 = .ok (.getfield 10, 3) := by decide +kernel
theorem dX8_write_19 : decode cX8_write 19 = .ok (.iload_n 1, 1) := by decide +kernel
theorem dX8_write_20 : decode cX8_write 20 = .ok (.lload_n 2, 1) := by decide +kernel
theorem dX8_write_21 : decode cX8_write 21 = .ok (.invokevirtual 65, 3) := by decide +kernel
theorem dX8_write_24 : decode cX8_write 24 = .ok (.ireturn, 1) := by decide +kernel
theorem dX8_wipe_0 : decode cX8_wipe 0 = .ok (.aload_n 0, 1) := by decide +kernel
theorem dX8_wipe_1 : decode cX8_wipe 1 = .ok (.getfield 10, 3) := by decide +kernel
theorem dX8_wipe_4 : decode cX8_wipe 4 = .ok (.invokevirtual 69, 3) := by decide +kernel
theorem dX8_wipe_7 : decode cX8_wipe 7 = .ok (.ireturn, 1) := by decide +kernel
theorem dX8_fault_0 : decode cX8_fault 0 = .ok (.aload_n 0, 1) := by decide +kernel
theorem dX8_fault_1 : decode cX8_fault 1 = .ok (.getfield 10, 3) := by decide +kernel
theorem dX8_fault_4 : decode cX8_fault 4 = .ok (.invokevirtual 73, 3) := by decide +kernel
theorem dX8_fault_7 : decode cX8_fault 7 = .ok (.ireturn, 1) := by decide +kernel
theorem dX8_room_0 : decode cX8_room 0 = .ok (.aload_n 0, 1) := by decide +kernel
theorem dX8_room_1 : decode cX8_room 1 = .ok (.getfield 10, 3) := by decide +kernel
theorem dX8_room_4 : decode cX8_room 4 = .ok (.invokevirtual 73, 3) := by decide +kernel
theorem dX8_room_7 : decode cX8_room 7 = .ok (.bipush (-9), 2) := by decide +kernel
theorem dX8_room_9 : decode cX8_room 9 = .ok (.if_icmp .eq 6, 3) := by decide +kernel
theorem dX8_room_12 : decode cX8_room 12 = .ok (.bipush (-3), 2) := by decide +kernel
theorem dX8_room_14 : decode cX8_room 14 = .ok (.ireturn, 1) := by decide +kernel
theorem dX8_room_15 : decode cX8_room 15 = .ok (.aload_n 0, 1) := by decide +kernel
theorem dX8_room_16 : decode cX8_room 16 = .ok (.getfield 19, 3) := by decide +kernel
theorem dX8_room_19 : decode cX8_room 19 = .ok (.aload_n 0, 1) := by decide +kernel
theorem dX8_room_20 : decode cX8_room 20 = .ok (.getfield 10, 3) := by decide +kernel
theorem dX8_room_23 : decode cX8_room 23 = .ok (.invokevirtual 76, 3) := by decide +kernel
theorem dX8_room_26 : decode cX8_room 26 = .ok (.aload_n 0, 1) := by decide +kernel
theorem dX8_room_27 : decode cX8_room 27 = .ok (.getfield 40, 3) := by decide +kernel
theorem dX8_room_30 : decode cX8_room 30 = .ok (.iconst 0, 1) := by decide +kernel
theorem dX8_room_31 : decode cX8_room 31 = .ok (.putfield 80, 3) := by decide +kernel
theorem dX8_room_34 : decode cX8_room 34 = .ok (.aload_n 0, 1) := by decide +kernel
theorem dX8_room_35 : decode cX8_room 35 = .ok (.getfield 44, 3) := by decide +kernel
theorem dX8_room_38 : decode cX8_room 38 = .ok (.iconst 0, 1) := by decide +kernel
theorem dX8_room_39 : decode cX8_room 39 = .ok (.putfield 80, 3) := by decide +kernel
theorem dX8_room_42 : decode cX8_room 42 = .ok (.aload_n 0, 1) := by decide +kernel
theorem dX8_room_43 : decode cX8_room 43 = .ok (.getfield 19, 3) := by decide +kernel
theorem dX8_room_46 : decode cX8_room 46 = .ok (.getfield 84, 3) := by decide +kernel
theorem dX8_room_49 : decode cX8_room 49 = .ok (.ireturn, 1) := by decide +kernel
theorem dX8_about_0 : decode cX8_about 0 = .ok (.aload_n 0, 1) := by decide +kernel
theorem dX8_about_1 : decode cX8_about 1 = .ok (.getfield 19, 3) := by decide +kernel
theorem dX8_about_4 : decode cX8_about 4 = .ok (.iload_n 1, 1) := by decide +kernel
theorem dX8_about_5 : decode cX8_about 5 = .ok (.invokevirtual 88, 3) := by decide +kernel
theorem dX8_about_8 : decode cX8_about 8 = .ok (.ifCond .eq 5, 3) := by decide +kernel
theorem dX8_about_11 : decode cX8_about 11 = .ok (.iconst (-1), 1) := by decide +kernel
theorem dX8_about_12 : decode cX8_about 12 = .ok (.ireturn, 1) := by decide +kernel
theorem dX8_about_13 : decode cX8_about 13 = .ok (.iload_n 2, 1) := by decide +kernel
theorem dX8_about_14 : decode cX8_about 14 = .ok (.iconst 0, 1) := by decide +kernel
theorem dX8_about_15 : decode cX8_about 15 = .ok (.bipush 7, 2) := by decide +kernel
theorem dX8_about_17 : decode cX8_about 17 = .ok (.invokestatic 61, 3) := by decide +kernel
theorem dX8_about_20 : decode cX8_about 20 = .ok (.ifCond .eq 8, 3) := by decide +kernel
theorem dX8_about_23 : decode cX8_about 23 = .ok (.bipush (-2), 2) := by decide +kernel
theorem dX8_about_25 : decode cX8_about 25 = .ok (.goto 12, 3) := by decide +kernel
theorem dX8_about_28 : decode cX8_about 28 = .ok (.aload_n 0, 1) := by decide +kernel
theorem dX8_about_29 : decode cX8_about 29 = .ok (.getfield 19, 3) := by decide +kernel
theorem dX8_about_32 : decode cX8_about 32 = .ok (.iload_n 1, 1) := by decide +kernel
theorem dX8_about_33 : decode cX8_about 33 = .ok (.iload_n 2, 1) := by decide +kernel
theorem dX8_about_34 : decode cX8_about 34 = .ok (.invokevirtual 92, 3) := by decide +kernel
theorem dX8_about_37 : decode cX8_about 37 = .ok (.ireturn, 1) := by decide +kernel
theorem dX8_mood_0 : decode cX8_mood 0 = .ok (.iload_n 1, 1) := by decide +kernel
theorem dX8_mood_1 : decode cX8_mood 1 = .ok (.iconst 0, 1) := by decide +kernel
theorem dX8_mood_2 : decode cX8_mood 2 = .ok (.bipush 9, 2) := by decide +kernel
theorem dX8_mood_4 : decode cX8_mood 4 = .ok (.invokestatic 61, 3) := by decide +kernel
theorem dX8_mood_7 : decode cX8_mood 7 = .ok (.ifCond .eq 6, 3) := by decide +kernel
theorem dX8_mood_10 : decode cX8_mood 10 = .ok (.bipush (-2), 2) := by decide +kernel
theorem dX8_mood_12 : decode cX8_mood 12 = .ok (.ireturn, 1) := by decide +kernel
theorem dX8_mood_13 : decode cX8_mood 13 = .ok (.aload_n 0, 1) := by decide +kernel
theorem dX8_mood_14 : decode cX8_mood 14 = .ok (.getfield 19, 3) := by decide +kernel
theorem dX8_mood_17 : decode cX8_mood 17 = .ok (.getfield 96, 3) := by decide +kernel
theorem dX8_mood_20 : decode cX8_mood 20 = .ok (.istore_n 2, 1) := by decide +kernel
theorem dX8_mood_21 : decode cX8_mood 21 = .ok (.aload_n 0, 1) := by decide +kernel
theorem dX8_mood_22 : decode cX8_mood 22 = .ok (.getfield 19, 3) := by decide +kernel
theorem dX8_mood_25 : decode cX8_mood 25 = .ok (.iload_n 1, 1) := by decide +kernel
theorem dX8_mood_26 : decode cX8_mood 26 = .ok (.putfield 96, 3) := by decide +kernel
theorem dX8_mood_29 : decode cX8_mood 29 = .ok (.iload_n 2, 1) := by decide +kernel
theorem dX8_mood_30 : decode cX8_mood 30 = .ok (.ireturn, 1) := by decide +kernel
theorem dX8_up_0 : decode cX8_up 0 = .ok (.aload_n 0, 1) := by decide +kernel
theorem dX8_up_1 : decode cX8_up 1 = .ok (.getfield 19, 3) := by decide +kernel
theorem dX8_up_4 : decode cX8_up 4 = .ok (.iload_n 1, 1) := by decide +kernel
theorem dX8_up_5 : decode cX8_up 5 = .ok (.invokevirtual 88, 3) := by decide +kernel
theorem dX8_up_8 : decode cX8_up 8 = .ok (.ifCond .eq 5, 3) := by decide +kernel
theorem dX8_up_11 : decode cX8_up 11 = .ok (.iconst (-1), 1) := by decide +kernel
theorem dX8_up_12 : decode cX8_up 12 = .ok (.ireturn, 1) := by decide +kernel
theorem dX8_up_13 : decode cX8_up 13 = .ok (.iload_n 2, 1) := by decide +kernel
theorem dX8_up_14 : decode cX8_up 14 = .ok (.invokestatic 99, 3) := by decide +kernel
theorem dX8_up_17 : decode cX8_up 17 = .ok (.ifCond .eq 8, 3) := by decide +kernel
theorem dX8_up_20 : decode cX8_up 20 = .ok (.bipush (-2), 2) := by decide +kernel
theorem dX8_up_22 : decode cX8_up 22 = .ok (.goto 12, 3) := by decide +kernel
theorem dX8_up_25 : decode cX8_up 25 = .ok (.aload_n 0, 1) := by decide +kernel
theorem dX8_up_26 : decode cX8_up 26 = .ok (.getfield 19, 3) := by decide +kernel
theorem dX8_up_29 : decode cX8_up 29 = .ok (.iload_n 1, 1) := by decide +kernel
theorem dX8_up_30 : decode cX8_up 30 = .ok (.iload_n 2, 1) := by decide +kernel
theorem dX8_up_31 : decode cX8_up 31 = .ok (.invokevirtual 102, 3) := by decide +kernel
theorem dX8_up_34 : decode cX8_up 34 = .ok (.ireturn, 1) := by decide +kernel
theorem dX8_mean_0 : decode cX8_mean 0 = .ok (.iload_n 1, 1) := by decide +kernel
theorem dX8_mean_1 : decode cX8_mean 1 = .ok (.invokestatic 99, 3) := by decide +kernel
theorem dX8_mean_4 : decode cX8_mean 4 = .ok (.ifCond .eq 8, 3) := by decide +kernel
theorem dX8_mean_7 : decode cX8_mean 7 = .ok (.bipush (-2), 2) := by decide +kernel
theorem dX8_mean_9 : decode cX8_mean 9 = .ok (.goto 11, 3) := by decide +kernel
theorem dX8_mean_12 : decode cX8_mean 12 = .ok (.aload_n 0, 1) := by decide +kernel
theorem dX8_mean_13 : decode cX8_mean 13 = .ok (.getfield 19, 3) := by decide +kernel
theorem dX8_mean_16 : decode cX8_mean 16 = .ok (.iload_n 1, 1) := by decide +kernel
theorem dX8_mean_17 : decode cX8_mean 17 = .ok (.invokevirtual 105, 3) := by decide +kernel
theorem dX8_mean_20 : decode cX8_mean 20 = .ok (.ireturn, 1) := by decide +kernel
theorem dX8_quiet_0 : decode cX8_quiet 0 = .ok (.iload_n 1, 1) := by decide +kernel
theorem dX8_quiet_1 : decode cX8_quiet 1 = .ok (.invokestatic 99, 3) := by decide +kernel
theorem dX8_quiet_4 : decode cX8_quiet 4 = .ok (.ifCond .eq 8, 3) := by decide +kernel
theorem dX8_quiet_7 : decode cX8_quiet 7 = .ok (.bipush (-2), 2) := by decide +kernel
theorem dX8_quiet_9 : decode cX8_quiet 9 = .ok (.goto 11, 3) := by decide +kernel
theorem dX8_quiet_12 : decode cX8_quiet 12 = .ok (.aload_n 0, 1) := by decide +kernel
theorem dX8_quiet_13 : decode cX8_quiet 13 = .ok (.getfield 19, 3) := by decide +kernel
theorem dX8_quiet_16 : decode cX8_quiet 16 = .ok (.iload_n 1, 1) := by decide +kernel
theorem dX8_quiet_17 : decode cX8_quiet 17 = .ok (.invokevirtual 109, 3) := by decide +kernel
theorem dX8_quiet_20 : decode cX8_quiet 20 = .ok (.ireturn, 1) := by decide +kernel
theorem dX8_hands_0 : decode cX8_hands 0 = .ok (.iload_n 1, 1) := by decide +kernel
theorem dX8_hands_1 : decode cX8_hands 1 = .ok (.invokestatic 99, 3) := by decide +kernel
theorem dX8_hands_4 : decode cX8_hands 4 = .ok (.ifCond .ne 13, 3) := by decide +kernel
theorem dX8_hands_7 : decode cX8_hands 7 = .ok (.iload_n 2, 1) := by decide +kernel
theorem dX8_hands_8 : decode cX8_hands 8 = .ok (.iconst 0, 1) := by decide +kernel
theorem dX8_hands_9 : decode cX8_hands 9 = .ok (.bipush 12, 2) := by decide +kernel
theorem dX8_hands_11 : decode cX8_hands 11 = .ok (.invokestatic 61, 3) := by decide +kernel
theorem dX8_hands_14 : decode cX8_hands 14 = .ok (.ifCond .eq 7, 3) := by decide +kernel
theorem dX8_hands_17 : decode cX8_hands 17 = .ok (.ldc2_w 112, 3) := by decide +kernel
theorem dX8_hands_20 : decode cX8_hands 20 = .ok (.lreturn, 1) := by decide +kernel
theorem dX8_hands_21 : decode cX8_hands 21 = .ok (.aload_n 0, 1) := by decide +kernel
theorem dX8_hands_22 : decode cX8_hands 22 = .ok (.getfield 26, 3) := by decide +kernel
theorem dX8_hands_25 : decode cX8_hands 25 = .ok (.aload_n 0, 1) := by decide +kernel
theorem dX8_hands_26 : decode cX8_hands 26 = .ok (.getfield 19, 3) := by decide +kernel
theorem dX8_hands_29 : decode cX8_hands 29 = .ok (.iload_n 1, 1) := by decide +kernel
theorem dX8_hands_30 : decode cX8_hands 30 = .ok (.invokevirtual 114, 3) := by decide +kernel
theorem dX8_hands_33 : decode cX8_hands 33 = .ok (.aload_n 0, 1) := by decide +kernel
theorem dX8_hands_34 : decode cX8_hands 34 = .ok (.getfield 26, 3) := by decide +kernel
theorem dX8_hands_37 : decode cX8_hands 37 = .ok (.getfield 118, 3) := by decide +kernel
theorem dX8_hands_40 : decode cX8_hands 40 = .ok (.iload_n 2, 1) := by decide +kernel
theorem dX8_hands_41 : decode cX8_hands 41 = .ok (.invokevirtual 122, 3) := by decide +kernel
theorem dX8_hands_44 : decode cX8_hands 44 = .ok (.aload_n 0, 1) := by decide +kernel
theorem dX8_hands_45 : decode cX8_hands 45 = .ok (.getfield 19, 3) := by decide +kernel
theorem dX8_hands_48 : decode cX8_hands 48 = .ok (.getfield 84, 3) := by decide +kernel
theorem dX8_hands_51 : decode cX8_hands 51 = .ok (.invokestatic 128, 3) := by decide +kernel
theorem dX8_hands_54 : decode cX8_hands 54 = .ok (.iload_n 3, 1) := by decide +kernel
theorem dX8_hands_55 : decode cX8_hands 55 = .ok (.invokestatic 131, 3) := by decide +kernel
theorem dX8_hands_58 : decode cX8_hands 58 = .ok (.lreturn, 1) := by decide +kernel
theorem dX8_given_0 : decode cX8_given 0 = .ok (.iload_n 1, 1) := by decide +kernel
theorem dX8_given_1 : decode cX8_given 1 = .ok (.invokestatic 99, 3) := by decide +kernel
theorem dX8_given_4 : decode cX8_given 4 = .ok (.ifCond .ne 23, 3) := by decide +kernel
theorem dX8_given_7 : decode cX8_given 7 = .ok (.iload_n 2, 1) := by decide +kernel
theorem dX8_given_8 : decode cX8_given 8 = .ok (.iconst 0, 1) := by decide +kernel
theorem dX8_given_9 : decode cX8_given 9 = .ok (.bipush 12, 2) := by decide +kernel
theorem dX8_given_11 : decode cX8_given 11 = .ok (.invokestatic 61, 3) := by decide +kernel
theorem dX8_given_14 : decode cX8_given 14 = .ok (.ifCond .ne 13, 3) := by decide +kernel
theorem dX8_given_17 : decode cX8_given 17 = .ok (.iload_n 3, 1) := by decide +kernel
theorem dX8_given_18 : decode cX8_given 18 = .ok (.iconst 0, 1) := by decide +kernel
theorem dX8_given_19 : decode cX8_given 19 = .ok (.bipush 12, 2) := by decide +kernel
theorem dX8_given_21 : decode cX8_given 21 = .ok (.invokestatic 61, 3) := by decide +kernel
theorem dX8_given_24 : decode cX8_given 24 = .ok (.ifCond .eq 7, 3) := by decide +kernel
theorem dX8_given_27 : decode cX8_given 27 = .ok (.ldc2_w 112, 3) := by decide +kernel
theorem dX8_given_30 : decode cX8_given 30 = .ok (.lreturn, 1) := by decide +kernel
theorem dX8_given_31 : decode cX8_given 31 = .ok (.aload_n 0, 1) := by decide +kernel
theorem dX8_given_32 : decode cX8_given 32 = .ok (.getfield 26, 3) := by decide +kernel
theorem dX8_given_35 : decode cX8_given 35 = .ok (.aload_n 0, 1) := by decide +kernel
theorem dX8_given_36 : decode cX8_given 36 = .ok (.getfield 19, 3) := by decide +kernel
theorem dX8_given_39 : decode cX8_given 39 = .ok (.iload_n 1, 1) := by decide +kernel
theorem dX8_given_40 : decode cX8_given 40 = .ok (.invokevirtual 114, 3) := by decide +kernel
theorem dX8_given_43 : decode cX8_given 43 = .ok (.aload_n 0, 1) := by decide +kernel
theorem dX8_given_44 : decode cX8_given 44 = .ok (.getfield 26, 3) := by decide +kernel
theorem dX8_given_47 : decode cX8_given 47 = .ok (.getfield 118, 3) := by decide +kernel
theorem dX8_given_50 : decode cX8_given 50 = .ok (.iload_n 2, 1) := by decide +kernel
theorem dX8_given_51 : decode cX8_given 51 = .ok (.invokevirtual 122, 3) := by decide +kernel
theorem dX8_given_54 : decode cX8_given 54 = .ok (.lstore 5, 2) := by decide +kernel
theorem dX8_given_56 : decode cX8_given 56 = .ok (.lload 5, 2) := by decide +kernel
theorem dX8_given_58 : decode cX8_given 58 = .ok (.lconst 1, 1) := by decide +kernel
theorem dX8_given_59 : decode cX8_given 59 = .ok (.lcmp, 1) := by decide +kernel
theorem dX8_given_60 : decode cX8_given 60 = .ok (.ifCond .ge 9, 3) := by decide +kernel
theorem dX8_given_63 : decode cX8_given 63 = .ok (.ldc2_w 135, 3) := by decide +kernel
theorem dX8_given_66 : decode cX8_given 66 = .ok (.goto 22, 3) := by decide +kernel
theorem dX8_given_69 : decode cX8_given 69 = .ok (.aload_n 0, 1) := by decide +kernel
theorem dX8_given_70 : decode cX8_given 70 = .ok (.getfield 26, 3) := by decide +kernel
theorem dX8_given_73 : decode cX8_given 73 = .ok (.getfield 118, 3) := by decide +kernel
theorem dX8_given_76 : decode cX8_given 76 = .ok (.iload_n 2, 1) := by decide +kernel
theorem dX8_given_77 : decode cX8_given 77 = .ok (.iload_n 3, 1) := by decide +kernel
theorem dX8_given_78 : decode cX8_given 78 = .ok (.invokevirtual 137, 3) := by decide +kernel
theorem dX8_given_81 : decode cX8_given 81 = .ok (.lload 5, 2) := by decide +kernel
theorem dX8_given_83 : decode cX8_given 83 = .ok (.iload 4, 2) := by decide +kernel
theorem dX8_given_85 : decode cX8_given 85 = .ok (.invokestatic 131, 3) := by decide +kernel
theorem dX8_given_88 : decode cX8_given 88 = .ok (.lreturn, 1) := by decide +kernel
theorem dX8_likely_0 : decode cX8_likely 0 = .ok (.iload_n 1, 1) := by decide +kernel
theorem dX8_likely_1 : decode cX8_likely 1 = .ok (.invokestatic 99, 3) := by decide +kernel
theorem dX8_likely_4 : decode cX8_likely 4 = .ok (.ifCond .ne 13, 3) := by decide +kernel
theorem dX8_likely_7 : decode cX8_likely 7 = .ok (.iload_n 2, 1) := by decide +kernel
theorem dX8_likely_8 : decode cX8_likely 8 = .ok (.iconst 0, 1) := by decide +kernel
theorem dX8_likely_9 : decode cX8_likely 9 = .ok (.bipush 12, 2) := by decide +kernel
theorem dX8_likely_11 : decode cX8_likely 11 = .ok (.invokestatic 61, 3) := by decide +kernel
theorem dX8_likely_14 : decode cX8_likely 14 = .ok (.ifCond .eq 6, 3) := by decide +kernel
theorem dX8_likely_17 : decode cX8_likely 17 = .ok (.bipush (-2), 2) := by decide +kernel
theorem dX8_likely_19 : decode cX8_likely 19 = .ok (.ireturn, 1) := by decide +kernel
theorem dX8_likely_20 : decode cX8_likely 20 = .ok (.aload_n 0, 1) := by decide +kernel
theorem dX8_likely_21 : decode cX8_likely 21 = .ok (.getfield 26, 3) := by decide +kernel
theorem dX8_likely_24 : decode cX8_likely 24 = .ok (.aload_n 0, 1) := by decide +kernel
theorem dX8_likely_25 : decode cX8_likely 25 = .ok (.getfield 19, 3) := by decide +kernel
theorem dX8_likely_28 : decode cX8_likely 28 = .ok (.iload_n 1, 1) := by decide +kernel
theorem dX8_likely_29 : decode cX8_likely 29 = .ok (.invokevirtual 114, 3) := by decide +kernel
theorem dX8_likely_32 : decode cX8_likely 32 = .ok (.aload_n 0, 1) := by decide +kernel
theorem dX8_likely_33 : decode cX8_likely 33 = .ok (.getfield 26, 3) := by decide +kernel
theorem dX8_likely_36 : decode cX8_likely 36 = .ok (.getfield 118, 3) := by decide +kernel
theorem dX8_likely_39 : decode cX8_likely 39 = .ok (.iload_n 2, 1) := by decide +kernel
theorem dX8_likely_40 : decode cX8_likely 40 = .ok (.invokevirtual 122, 3) := by decide +kernel
theorem dX8_likely_43 : decode cX8_likely 43 = .ok (.lconst 1, 1) := by decide +kernel
theorem dX8_likely_44 : decode cX8_likely 44 = .ok (.lcmp, 1) := by decide +kernel
theorem dX8_likely_45 : decode cX8_likely 45 = .ok (.ifCond .ge 8, 3) := by decide +kernel
theorem dX8_likely_48 : decode cX8_likely 48 = .ok (.bipush (-3), 2) := by decide +kernel
theorem dX8_likely_50 : decode cX8_likely 50 = .ok (.goto 11, 3) := by decide +kernel
theorem dX8_likely_53 : decode cX8_likely 53 = .ok (.aload_n 0, 1) := by decide +kernel
theorem dX8_likely_54 : decode cX8_likely 54 = .ok (.getfield 26, 3) := by decide +kernel
theorem dX8_likely_57 : decode cX8_likely 57 = .ok (.iload_n 2, 1) := by decide +kernel
theorem dX8_likely_58 : decode cX8_likely 58 = .ok (.invokevirtual 141, 3) := by decide +kernel
theorem dX8_likely_61 : decode cX8_likely 61 = .ok (.ireturn, 1) := by decide +kernel
theorem dX8_taken_0 : decode cX8_taken 0 = .ok (.aload_n 0, 1) := by decide +kernel
theorem dX8_taken_1 : decode cX8_taken 1 = .ok (.getfield 19, 3) := by decide +kernel
theorem dX8_taken_4 : decode cX8_taken 4 = .ok (.iload_n 1, 1) := by decide +kernel
theorem dX8_taken_5 : decode cX8_taken 5 = .ok (.invokevirtual 88, 3) := by decide +kernel
theorem dX8_taken_8 : decode cX8_taken 8 = .ok (.ifCond .ne 10, 3) := by decide +kernel
theorem dX8_taken_11 : decode cX8_taken 11 = .ok (.iload_n 3, 1) := by decide +kernel
theorem dX8_taken_12 : decode cX8_taken 12 = .ok (.invokestatic 144, 3) := by decide +kernel
theorem dX8_taken_15 : decode cX8_taken 15 = .ok (.ifCond .eq 7, 3) := by decide +kernel
theorem dX8_taken_18 : decode cX8_taken 18 = .ok (.ldc2_w 147, 3) := by decide +kernel
theorem dX8_taken_21 : decode cX8_taken 21 = .ok (.lreturn, 1) := by decide +kernel
theorem dX8_taken_22 : decode cX8_taken 22 = .ok (.iload_n 2, 1) := by decide +kernel
theorem dX8_taken_23 : decode cX8_taken 23 = .ok (.invokestatic 99, 3) := by decide +kernel
theorem dX8_taken_26 : decode cX8_taken 26 = .ok (.ifCond .eq 7, 3) := by decide +kernel
theorem dX8_taken_29 : decode cX8_taken 29 = .ok (.ldc2_w 112, 3) := by decide +kernel
theorem dX8_taken_32 : decode cX8_taken 32 = .ok (.lreturn, 1) := by decide +kernel
theorem dX8_taken_33 : decode cX8_taken 33 = .ok (.aload_n 0, 1) := by decide +kernel
theorem dX8_taken_34 : decode cX8_taken 34 = .ok (.getfield 33, 3) := by decide +kernel
theorem dX8_taken_37 : decode cX8_taken 37 = .ok (.aload_n 0, 1) := by decide +kernel
theorem dX8_taken_38 : decode cX8_taken 38 = .ok (.getfield 19, 3) := by decide +kernel
theorem dX8_taken_41 : decode cX8_taken 41 = .ok (.iload_n 2, 1) := by decide +kernel
theorem dX8_taken_42 : decode cX8_taken 42 = .ok (.iload_n 3, 1) := by decide +kernel
theorem dX8_taken_43 : decode cX8_taken 43 = .ok (.invokevirtual 149, 3) := by decide +kernel
theorem dX8_taken_46 : decode cX8_taken 46 = .ok (.aload_n 0, 1) := by decide +kernel
theorem dX8_taken_47 : decode cX8_taken 47 = .ok (.getfield 33, 3) := by decide +kernel
theorem dX8_taken_50 : decode cX8_taken 50 = .ok (.iload_n 1, 1) := by decide +kernel
theorem dX8_taken_51 : decode cX8_taken 51 = .ok (.invokevirtual 152, 3) := by decide +kernel
theorem dX8_taken_54 : decode cX8_taken 54 = .ok (.aload_n 0, 1) := by decide +kernel
theorem dX8_taken_55 : decode cX8_taken 55 = .ok (.getfield 33, 3) := by decide +kernel
theorem dX8_taken_58 : decode cX8_taken 58 = .ok (.invokevirtual 155, 3) := by decide +kernel
theorem dX8_taken_61 : decode cX8_taken 61 = .ok (.iload 4, 2) := by decide +kernel
theorem dX8_taken_63 : decode cX8_taken 63 = .ok (.invokestatic 131, 3) := by decide +kernel
theorem dX8_taken_66 : decode cX8_taken 66 = .ok (.lreturn, 1) := by decide +kernel
theorem dX8_right_0 : decode cX8_right 0 = .ok (.iload_n 2, 1) := by decide +kernel
theorem dX8_right_1 : decode cX8_right 1 = .ok (.invokestatic 144, 3) := by decide +kernel
theorem dX8_right_4 : decode cX8_right 4 = .ok (.ifCond .eq 7, 3) := by decide +kernel
theorem dX8_right_7 : decode cX8_right 7 = .ok (.ldc2_w 147, 3) := by decide +kernel
theorem dX8_right_10 : decode cX8_right 10 = .ok (.lreturn, 1) := by decide +kernel
theorem dX8_right_11 : decode cX8_right 11 = .ok (.iload_n 1, 1) := by decide +kernel
theorem dX8_right_12 : decode cX8_right 12 = .ok (.invokestatic 99, 3) := by decide +kernel
theorem dX8_right_15 : decode cX8_right 15 = .ok (.ifCond .eq 7, 3) := by decide +kernel
theorem dX8_right_18 : decode cX8_right 18 = .ok (.ldc2_w 112, 3) := by decide +kernel
theorem dX8_right_21 : decode cX8_right 21 = .ok (.lreturn, 1) := by decide +kernel
theorem dX8_right_22 : decode cX8_right 22 = .ok (.aload_n 0, 1) := by decide +kernel
theorem dX8_right_23 : decode cX8_right 23 = .ok (.getfield 33, 3) := by decide +kernel
theorem dX8_right_26 : decode cX8_right 26 = .ok (.aload_n 0, 1) := by decide +kernel
theorem dX8_right_27 : decode cX8_right 27 = .ok (.getfield 19, 3) := by decide +kernel
theorem dX8_right_30 : decode cX8_right 30 = .ok (.iload_n 1, 1) := by decide +kernel
theorem dX8_right_31 : decode cX8_right 31 = .ok (.iload_n 2, 1) := by decide +kernel
theorem dX8_right_32 : decode cX8_right 32 = .ok (.invokevirtual 149, 3) := by decide +kernel
theorem dX8_right_35 : decode cX8_right 35 = .ok (.aload_n 0, 1) := by decide +kernel
theorem dX8_right_36 : decode cX8_right 36 = .ok (.getfield 33, 3) := by decide +kernel
theorem dX8_right_39 : decode cX8_right 39 = .ok (.invokevirtual 159, 3) := by decide +kernel
theorem dX8_right_42 : decode cX8_right 42 = .ok (.aload_n 0, 1) := by decide +kernel
theorem dX8_right_43 : decode cX8_right 43 = .ok (.getfield 33, 3) := by decide +kernel
theorem dX8_right_46 : decode cX8_right 46 = .ok (.invokevirtual 155, 3) := by decide +kernel
theorem dX8_right_49 : decode cX8_right 49 = .ok (.iload_n 3, 1) := by decide +kernel
theorem dX8_right_50 : decode cX8_right 50 = .ok (.invokestatic 131, 3) := by decide +kernel
theorem dX8_right_53 : decode cX8_right 53 = .ok (.lreturn, 1) := by decide +kernel
theorem dX8_mostly_0 : decode cX8_mostly 0 = .ok (.iload_n 2, 1) := by decide +kernel
theorem dX8_mostly_1 : decode cX8_mostly 1 = .ok (.invokestatic 144, 3) := by decide +kernel
theorem dX8_mostly_4 : decode cX8_mostly 4 = .ok (.ifCond .eq 5, 3) := by decide +kernel
theorem dX8_mostly_7 : decode cX8_mostly 7 = .ok (.iconst (-1), 1) := by decide +kernel
theorem dX8_mostly_8 : decode cX8_mostly 8 = .ok (.ireturn, 1) := by decide +kernel
theorem dX8_mostly_9 : decode cX8_mostly 9 = .ok (.iload_n 1, 1) := by decide +kernel
theorem dX8_mostly_10 : decode cX8_mostly 10 = .ok (.invokestatic 99, 3) := by decide +kernel
theorem dX8_mostly_13 : decode cX8_mostly 13 = .ok (.ifCond .eq 6, 3) := by decide +kernel
theorem dX8_mostly_16 : decode cX8_mostly 16 = .ok (.bipush (-2), 2) := by decide +kernel
theorem dX8_mostly_18 : decode cX8_mostly 18 = .ok (.ireturn, 1) := by decide +kernel
theorem dX8_mostly_19 : decode cX8_mostly 19 = .ok (.aload_n 0, 1) := by decide +kernel
theorem dX8_mostly_20 : decode cX8_mostly 20 = .ok (.getfield 33, 3) := by decide +kernel
theorem dX8_mostly_23 : decode cX8_mostly 23 = .ok (.aload_n 0, 1) := by decide +kernel
theorem dX8_mostly_24 : decode cX8_mostly 24 = .ok (.getfield 19, 3) := by decide +kernel
theorem dX8_mostly_27 : decode cX8_mostly 27 = .ok (.iload_n 1, 1) := by decide +kernel
theorem dX8_mostly_28 : decode cX8_mostly 28 = .ok (.iload_n 2, 1) := by decide +kernel
theorem dX8_mostly_29 : decode cX8_mostly 29 = .ok (.invokevirtual 149, 3) := by decide +kernel
theorem dX8_mostly_32 : decode cX8_mostly 32 = .ok (.aload_n 0, 1) := by decide +kernel
theorem dX8_mostly_33 : decode cX8_mostly 33 = .ok (.getfield 33, 3) := by decide +kernel
theorem dX8_mostly_36 : decode cX8_mostly 36 = .ok (.invokevirtual 162, 3) := by decide +kernel
theorem dX8_mostly_39 : decode cX8_mostly 39 = .ok (.ireturn, 1) := by decide +kernel
theorem dX8_await_0 : decode cX8_await 0 = .ok (.iload_n 1, 1) := by decide +kernel
theorem dX8_await_1 : decode cX8_await 1 = .ok (.iconst 0, 1) := by decide +kernel
theorem dX8_await_2 : decode cX8_await 2 = .ok (.bipush 99, 2) := by decide +kernel
theorem dX8_await_4 : decode cX8_await 4 = .ok (.invokestatic 61, 3) := by decide +kernel
theorem dX8_await_7 : decode cX8_await 7 = .ok (.ifCond .ne 13, 3) := by decide +kernel
theorem dX8_await_10 : decode cX8_await 10 = .ok (.iload_n 2, 1) := by decide +kernel
theorem dX8_await_11 : decode cX8_await 11 = .ok (.iconst 0, 1) := by decide +kernel
theorem dX8_await_12 : decode cX8_await 12 = .ok (.bipush 99, 2) := by decide +kernel
theorem dX8_await_14 : decode cX8_await 14 = .ok (.invokestatic 61, 3) := by decide +kernel
theorem dX8_await_17 : decode cX8_await 17 = .ok (.ifCond .eq 6, 3) := by decide +kernel
theorem dX8_await_20 : decode cX8_await 20 = .ok (.bipush (-2), 2) := by decide +kernel
theorem dX8_await_22 : decode cX8_await 22 = .ok (.ireturn, 1) := by decide +kernel
theorem dX8_await_23 : decode cX8_await 23 = .ok (.aload_n 0, 1) := by decide +kernel
theorem dX8_await_24 : decode cX8_await 24 = .ok (.getfield 19, 3) := by decide +kernel
theorem dX8_await_27 : decode cX8_await 27 = .ok (.iload_n 1, 1) := by decide +kernel
theorem dX8_await_28 : decode cX8_await 28 = .ok (.iload_n 2, 1) := by decide +kernel
theorem dX8_await_29 : decode cX8_await 29 = .ok (.invokevirtual 165, 3) := by decide +kernel
theorem dX8_await_32 : decode cX8_await 32 = .ok (.ireturn, 1) := by decide +kernel
theorem dX8_raised_0 : decode cX8_raised 0 = .ok (.aload_n 0, 1) := by decide +kernel
theorem dX8_raised_1 : decode cX8_raised 1 = .ok (.getfield 19, 3) := by decide +kernel
theorem dX8_raised_4 : decode cX8_raised 4 = .ok (.iload_n 1, 1) := by decide +kernel
theorem dX8_raised_5 : decode cX8_raised 5 = .ok (.invokevirtual 168, 3) := by decide +kernel
theorem dX8_raised_8 : decode cX8_raised 8 = .ok (.ifCond .ne 10, 3) := by decide +kernel
theorem dX8_raised_11 : decode cX8_raised 11 = .ok (.iload_n 2, 1) := by decide +kernel
theorem dX8_raised_12 : decode cX8_raised 12 = .ok (.invokestatic 99, 3) := by decide +kernel
theorem dX8_raised_15 : decode cX8_raised 15 = .ok (.ifCond .eq 8, 3) := by decide +kernel
theorem dX8_raised_18 : decode cX8_raised 18 = .ok (.bipush (-2), 2) := by decide +kernel
theorem dX8_raised_20 : decode cX8_raised 20 = .ok (.goto 12, 3) := by decide +kernel
theorem dX8_raised_23 : decode cX8_raised 23 = .ok (.aload_n 0, 1) := by decide +kernel
theorem dX8_raised_24 : decode cX8_raised 24 = .ok (.getfield 19, 3) := by decide +kernel
theorem dX8_raised_27 : decode cX8_raised 27 = .ok (.iload_n 1, 1) := by decide +kernel
theorem dX8_raised_28 : decode cX8_raised 28 = .ok (.iload_n 2, 1) := by decide +kernel
theorem dX8_raised_29 : decode cX8_raised 29 = .ok (.invokevirtual 171, 3) := by decide +kernel
theorem dX8_raised_32 : decode cX8_raised 32 = .ok (.ireturn, 1) := by decide +kernel
theorem dX8_silent_0 : decode cX8_silent 0 = .ok (.aload_n 0, 1) := by decide +kernel
theorem dX8_silent_1 : decode cX8_silent 1 = .ok (.getfield 19, 3) := by decide +kernel
theorem dX8_silent_4 : decode cX8_silent 4 = .ok (.iload_n 1, 1) := by decide +kernel
theorem dX8_silent_5 : decode cX8_silent 5 = .ok (.invokevirtual 168, 3) := by decide +kernel
theorem dX8_silent_8 : decode cX8_silent 8 = .ok (.ifCond .ne 10, 3) := by decide +kernel
theorem dX8_silent_11 : decode cX8_silent 11 = .ok (.iload_n 2, 1) := by decide +kernel
theorem dX8_silent_12 : decode cX8_silent 12 = .ok (.invokestatic 99, 3) := by decide +kernel
theorem dX8_silent_15 : decode cX8_silent 15 = .ok (.ifCond .eq 8, 3) := by decide +kernel
theorem dX8_silent_18 : decode cX8_silent 18 = .ok (.bipush (-2), 2) := by decide +kernel
theorem dX8_silent_20 : decode cX8_silent 20 = .ok (.goto 16, 3) := by decide +kernel
theorem dX8_silent_23 : decode cX8_silent 23 = .ok (.iload_n 1, 1) := by decide +kernel
theorem dX8_silent_24 : decode cX8_silent 24 = .ok (.aload_n 0, 1) := by decide +kernel
theorem dX8_silent_25 : decode cX8_silent 25 = .ok (.getfield 19, 3) := by decide +kernel
theorem dX8_silent_28 : decode cX8_silent 28 = .ok (.iload_n 1, 1) := by decide +kernel
theorem dX8_silent_29 : decode cX8_silent 29 = .ok (.iload_n 2, 1) := by decide +kernel
theorem dX8_silent_30 : decode cX8_silent 30 = .ok (.invokevirtual 171, 3) := by decide +kernel
theorem dX8_silent_33 : decode cX8_silent 33 = .ok (.iconst (-1), 1) := by decide +kernel
theorem dX8_silent_34 : decode cX8_silent 34 = .ok (.ixor, 1) := by decide +kernel
theorem dX8_silent_35 : decode cX8_silent 35 = .ok (.iand, 1) := by decide +kernel
theorem dX8_silent_36 : decode cX8_silent 36 = .ok (.ireturn, 1) := by decide +kernel
theorem dX8_seed_0 : decode cX8_seed 0 = .ok (.aload_n 0, 1) := by decide +kernel
theorem dX8_seed_1 : decode cX8_seed 1 = .ok (.getfield 19, 3) := by decide +kernel
theorem dX8_seed_4 : decode cX8_seed 4 = .ok (.getfield 174, 3) := by decide +kernel
theorem dX8_seed_7 : decode cX8_seed 7 = .ok (.getfield 177, 3) := by decide +kernel
theorem dX8_seed_10 : decode cX8_seed 10 = .ok (.lstore_n 3, 1) := by decide +kernel
theorem dX8_seed_11 : decode cX8_seed 11 = .ok (.aload_n 0, 1) := by decide +kernel
theorem dX8_seed_12 : decode cX8_seed 12 = .ok (.getfield 19, 3) := by decide +kernel
theorem dX8_seed_15 : decode cX8_seed 15 = .ok (.getfield 174, 3) := by decide +kernel
theorem dX8_seed_18 : decode cX8_seed 18 = .ok (.lload_n 1, 1) := by decide +kernel
theorem dX8_seed_19 : decode cX8_seed 19 = .ok (.putfield 177, 3) := by decide +kernel
theorem dX8_seed_22 : decode cX8_seed 22 = .ok (.lload_n 3, 1) := by decide +kernel
theorem dX8_seed_23 : decode cX8_seed 23 = .ok (.lreturn, 1) := by decide +kernel
theorem dX8_ask_0 : decode cX8_ask 0 = .ok (.iload_n 3, 1) := by decide +kernel
theorem dX8_ask_1 : decode cX8_ask 1 = .ok (.invokestatic 144, 3) := by decide +kernel
theorem dX8_ask_4 : decode cX8_ask 4 = .ok (.ifCond .eq 5, 3) := by decide +kernel
theorem dX8_ask_7 : decode cX8_ask 7 = .ok (.iconst (-1), 1) := by decide +kernel
theorem dX8_ask_8 : decode cX8_ask 8 = .ok (.ireturn, 1) := by decide +kernel
theorem dX8_ask_9 : decode cX8_ask 9 = .ok (.aload_n 0, 1) := by decide +kernel
theorem dX8_ask_10 : decode cX8_ask 10 = .ok (.getfield 19, 3) := by decide +kernel
theorem dX8_ask_13 : decode cX8_ask 13 = .ok (.iload_n 1, 1) := by decide +kernel
theorem dX8_ask_14 : decode cX8_ask 14 = .ok (.invokevirtual 168, 3) := by decide +kernel
theorem dX8_ask_17 : decode cX8_ask 17 = .ok (.ifCond .ne 10, 3) := by decide +kernel
theorem dX8_ask_20 : decode cX8_ask 20 = .ok (.iload_n 2, 1) := by decide +kernel
theorem dX8_ask_21 : decode cX8_ask 21 = .ok (.invokestatic 99, 3) := by decide +kernel
theorem dX8_ask_24 : decode cX8_ask 24 = .ok (.ifCond .eq 6, 3) := by decide +kernel
theorem dX8_ask_27 : decode cX8_ask 27 = .ok (.bipush (-2), 2) := by decide +kernel
theorem dX8_ask_29 : decode cX8_ask 29 = .ok (.ireturn, 1) := by decide +kernel
theorem dX8_ask_30 : decode cX8_ask 30 = .ok (.aload_n 0, 1) := by decide +kernel
theorem dX8_ask_31 : decode cX8_ask 31 = .ok (.getfield 19, 3) := by decide +kernel
theorem dX8_ask_34 : decode cX8_ask 34 = .ok (.iload_n 1, 1) := by decide +kernel
theorem dX8_ask_35 : decode cX8_ask 35 = .ok (.iload_n 2, 1) := by decide +kernel
theorem dX8_ask_36 : decode cX8_ask 36 = .ok (.iload_n 3, 1) := by decide +kernel
theorem dX8_ask_37 : decode cX8_ask 37 = .ok (.invokevirtual 181, 3) := by decide +kernel
theorem dX8_ask_40 : decode cX8_ask 40 = .ok (.istore 5, 2) := by decide +kernel
theorem dX8_ask_42 : decode cX8_ask 42 = .ok (.aload_n 0, 1) := by decide +kernel
theorem dX8_ask_43 : decode cX8_ask 43 = .ok (.getfield 19, 3) := by decide +kernel
theorem dX8_ask_46 : decode cX8_ask 46 = .ok (.getfield 174, 3) := by decide +kernel
theorem dX8_ask_49 : decode cX8_ask 49 = .ok (.iload 5, 2) := by decide +kernel
theorem dX8_ask_51 : decode cX8_ask 51 = .ok (.aload_n 0, 1) := by decide +kernel
theorem dX8_ask_52 : decode cX8_ask 52 = .ok (.getfield 19, 3) := by decide +kernel
theorem dX8_ask_55 : decode cX8_ask 55 = .ok (.iload 5, 2) := by decide +kernel
theorem dX8_ask_57 : decode cX8_ask 57 = .ok (.iload_n 1, 1) := by decide +kernel
theorem dX8_ask_58 : decode cX8_ask 58 = .ok (.iload 5, 2) := by decide +kernel
theorem dX8_ask_60 : decode cX8_ask 60 = .ok (.invokestatic 185, 3) := by decide +kernel
theorem dX8_ask_63 : decode cX8_ask 63 = .ok (.iload_n 2, 1) := by decide +kernel
theorem dX8_ask_64 : decode cX8_ask 64 = .ok (.invokevirtual 189, 3) := by decide +kernel
theorem dX8_ask_67 : decode cX8_ask 67 = .ok (.iload 4, 2) := by decide +kernel
theorem dX8_ask_69 : decode cX8_ask 69 = .ok (.invokevirtual 193, 3) := by decide +kernel
theorem dX8_ask_72 : decode cX8_ask 72 = .ok (.iload 5, 2) := by decide +kernel
theorem dX8_ask_74 : decode cX8_ask 74 = .ok (.ireturn, 1) := by decide +kernel
theorem dX8_lesson_0 : decode cX8_lesson 0 = .ok (.iload_n 1, 1) := by decide +kernel
theorem dX8_lesson_1 : decode cX8_lesson 1 = .ok (.tableswitch 121 0 5 #[39, 50, 61, 72, 105, 113], 39) := by decide +kernel
theorem dX8_lesson_40 : decode cX8_lesson 40 = .ok (.aload_n 0, 1) := by decide +kernel
theorem dX8_lesson_41 : decode cX8_lesson 41 = .ok (.getfield 19, 3) := by decide +kernel
theorem dX8_lesson_44 : decode cX8_lesson 44 = .ok (.getfield 174, 3) := by decide +kernel
theorem dX8_lesson_47 : decode cX8_lesson 47 = .ok (.getfield 197, 3) := by decide +kernel
theorem dX8_lesson_50 : decode cX8_lesson 50 = .ok (.ireturn, 1) := by decide +kernel
theorem dX8_lesson_51 : decode cX8_lesson 51 = .ok (.aload_n 0, 1) := by decide +kernel
theorem dX8_lesson_52 : decode cX8_lesson 52 = .ok (.getfield 19, 3) := by decide +kernel
theorem dX8_lesson_55 : decode cX8_lesson 55 = .ok (.getfield 174, 3) := by decide +kernel
theorem dX8_lesson_58 : decode cX8_lesson 58 = .ok (.getfield 200, 3) := by decide +kernel
theorem dX8_lesson_61 : decode cX8_lesson 61 = .ok (.ireturn, 1) := by decide +kernel
theorem dX8_lesson_62 : decode cX8_lesson 62 = .ok (.aload_n 0, 1) := by decide +kernel
theorem dX8_lesson_63 : decode cX8_lesson 63 = .ok (.getfield 19, 3) := by decide +kernel
theorem dX8_lesson_66 : decode cX8_lesson 66 = .ok (.getfield 174, 3) := by decide +kernel
theorem dX8_lesson_69 : decode cX8_lesson 69 = .ok (.getfield 203, 3) := by decide +kernel
theorem dX8_lesson_72 : decode cX8_lesson 72 = .ok (.ireturn, 1) := by decide +kernel
theorem dX8_lesson_73 : decode cX8_lesson 73 = .ok (.aload_n 0, 1) := by decide +kernel
theorem dX8_lesson_74 : decode cX8_lesson 74 = .ok (.getfield 19, 3) := by decide +kernel
theorem dX8_lesson_77 : decode cX8_lesson 77 = .ok (.getfield 174, 3) := by decide +kernel
theorem dX8_lesson_80 : decode cX8_lesson 80 = .ok (.getfield 197, 3) := by decide +kernel
theorem dX8_lesson_83 : decode cX8_lesson 83 = .ok (.aload_n 0, 1) := by decide +kernel
theorem dX8_lesson_84 : decode cX8_lesson 84 = .ok (.getfield 19, 3) := by decide +kernel
theorem dX8_lesson_87 : decode cX8_lesson 87 = .ok (.getfield 174, 3) := by decide +kernel
theorem dX8_lesson_90 : decode cX8_lesson 90 = .ok (.getfield 200, 3) := by decide +kernel
theorem dX8_lesson_93 : decode cX8_lesson 93 = .ok (.isub, 1) := by decide +kernel
theorem dX8_lesson_94 : decode cX8_lesson 94 = .ok (.aload_n 0, 1) := by decide +kernel
theorem dX8_lesson_95 : decode cX8_lesson 95 = .ok (.getfield 19, 3) := by decide +kernel
theorem dX8_lesson_98 : decode cX8_lesson 98 = .ok (.getfield 174, 3) := by decide +kernel
theorem dX8_lesson_101 : decode cX8_lesson 101 = .ok (.getfield 203, 3) := by decide +kernel
theorem dX8_lesson_104 : decode cX8_lesson 104 = .ok (.isub, 1) := by decide +kernel
theorem dX8_lesson_105 : decode cX8_lesson 105 = .ok (.ireturn, 1) := by decide +kernel
theorem dX8_lesson_106 : decode cX8_lesson 106 = .ok (.aload_n 0, 1) := by decide +kernel
theorem dX8_lesson_107 : decode cX8_lesson 107 = .ok (.getfield 19, 3) := by decide +kernel
theorem dX8_lesson_110 : decode cX8_lesson 110 = .ok (.invokevirtual 206, 3) := by decide +kernel
theorem dX8_lesson_113 : decode cX8_lesson 113 = .ok (.ireturn, 1) := by decide +kernel
theorem dX8_lesson_114 : decode cX8_lesson 114 = .ok (.aload_n 0, 1) := by decide +kernel
theorem dX8_lesson_115 : decode cX8_lesson 115 = .ok (.getfield 19, 3) := by decide +kernel
theorem dX8_lesson_118 : decode cX8_lesson 118 = .ok (.invokevirtual 209, 3) := by decide +kernel
theorem dX8_lesson_121 : decode cX8_lesson 121 = .ok (.ireturn, 1) := by decide +kernel
theorem dX8_lesson_122 : decode cX8_lesson 122 = .ok (.bipush (-2), 2) := by decide +kernel
theorem dX8_lesson_124 : decode cX8_lesson 124 = .ok (.ireturn, 1) := by decide +kernel
theorem dX8_tape_0 : decode cX8_tape 0 = .ok (.iload_n 1, 1) := by decide +kernel
theorem dX8_tape_1 : decode cX8_tape 1 = .ok (.iconst 1, 1) := by decide +kernel
theorem dX8_tape_2 : decode cX8_tape 2 = .ok (.sipush 4095, 3) := by decide +kernel
theorem dX8_tape_5 : decode cX8_tape 5 = .ok (.invokestatic 61, 3) := by decide +kernel
theorem dX8_tape_8 : decode cX8_tape 8 = .ok (.ifCond .ne 11, 3) := by decide +kernel
theorem dX8_tape_11 : decode cX8_tape 11 = .ok (.iload_n 1, 1) := by decide +kernel
theorem dX8_tape_12 : decode cX8_tape 12 = .ok (.iload_n 2, 1) := by decide +kernel
theorem dX8_tape_13 : decode cX8_tape 13 = .ok (.invokestatic 185, 3) := by decide +kernel
theorem dX8_tape_16 : decode cX8_tape 16 = .ok (.ifCond .ne 6, 3) := by decide +kernel
theorem dX8_tape_19 : decode cX8_tape 19 = .ok (.bipush (-2), 2) := by decide +kernel
theorem dX8_tape_21 : decode cX8_tape 21 = .ok (.ireturn, 1) := by decide +kernel
theorem dX8_tape_22 : decode cX8_tape 22 = .ok (.aload_n 0, 1) := by decide +kernel
theorem dX8_tape_23 : decode cX8_tape 23 = .ok (.getfield 50, 3) := by decide +kernel
theorem dX8_tape_26 : decode cX8_tape 26 = .ok (.iload_n 1, 1) := by decide +kernel
theorem dX8_tape_27 : decode cX8_tape 27 = .ok (.iload_n 2, 1) := by decide +kernel
theorem dX8_tape_28 : decode cX8_tape 28 = .ok (.invokevirtual 212, 3) := by decide +kernel
theorem dX8_tape_31 : decode cX8_tape 31 = .ok (.ireturn, 1) := by decide +kernel
theorem dX8_untape_0 : decode cX8_untape 0 = .ok (.aload_n 0, 1) := by decide +kernel
theorem dX8_untape_1 : decode cX8_untape 1 = .ok (.getfield 50, 3) := by decide +kernel
theorem dX8_untape_4 : decode cX8_untape 4 = .ok (.invokevirtual 215, 3) := by decide +kernel
theorem dX8_untape_7 : decode cX8_untape 7 = .ok (.ireturn, 1) := by decide +kernel
theorem dX8_came_0 : decode cX8_came 0 = .ok (.iload_n 1, 1) := by decide +kernel
theorem dX8_came_1 : decode cX8_came 1 = .ok (.iconst 0, 1) := by decide +kernel
theorem dX8_came_2 : decode cX8_came 2 = .ok (.sipush 4095, 3) := by decide +kernel
theorem dX8_came_5 : decode cX8_came 5 = .ok (.invokestatic 61, 3) := by decide +kernel
theorem dX8_came_8 : decode cX8_came 8 = .ok (.ifCond .eq 8, 3) := by decide +kernel
theorem dX8_came_11 : decode cX8_came 11 = .ok (.bipush (-2), 2) := by decide +kernel
theorem dX8_came_13 : decode cX8_came 13 = .ok (.goto 11, 3) := by decide +kernel
theorem dX8_came_16 : decode cX8_came 16 = .ok (.aload_n 0, 1) := by decide +kernel
theorem dX8_came_17 : decode cX8_came 17 = .ok (.getfield 50, 3) := by decide +kernel
theorem dX8_came_20 : decode cX8_came 20 = .ok (.iload_n 1, 1) := by decide +kernel
theorem dX8_came_21 : decode cX8_came 21 = .ok (.invokevirtual 216, 3) := by decide +kernel
theorem dX8_came_24 : decode cX8_came 24 = .ok (.ireturn, 1) := by decide +kernel
theorem dX8_due_0 : decode cX8_due 0 = .ok (.iload_n 1, 1) := by decide +kernel
theorem dX8_due_1 : decode cX8_due 1 = .ok (.iconst 0, 1) := by decide +kernel
theorem dX8_due_2 : decode cX8_due 2 = .ok (.sipush 4095, 3) := by decide +kernel
theorem dX8_due_5 : decode cX8_due 5 = .ok (.invokestatic 61, 3) := by decide +kernel
theorem dX8_due_8 : decode cX8_due 8 = .ok (.ifCond .eq 9, 3) := by decide +kernel
theorem dX8_due_11 : decode cX8_due 11 = .ok (.ldc2_w 112, 3) := by decide +kernel
theorem dX8_due_14 : decode cX8_due 14 = .ok (.goto 18, 3) := by decide +kernel
theorem dX8_due_17 : decode cX8_due 17 = .ok (.aload_n 0, 1) := by decide +kernel
theorem dX8_due_18 : decode cX8_due 18 = .ok (.getfield 50, 3) := by decide +kernel
theorem dX8_due_21 : decode cX8_due 21 = .ok (.iload_n 1, 1) := by decide +kernel
theorem dX8_due_22 : decode cX8_due 22 = .ok (.invokevirtual 219, 3) := by decide +kernel
theorem dX8_due_25 : decode cX8_due 25 = .ok (.ldc2_w 222, 3) := by decide +kernel
theorem dX8_due_28 : decode cX8_due 28 = .ok (.iload_n 2, 1) := by decide +kernel
theorem dX8_due_29 : decode cX8_due 29 = .ok (.invokestatic 131, 3) := by decide +kernel
theorem dX8_due_32 : decode cX8_due 32 = .ok (.lreturn, 1) := by decide +kernel
theorem dX8_luck_0 : decode cX8_luck 0 = .ok (.iload_n 1, 1) := by decide +kernel
theorem dX8_luck_1 : decode cX8_luck 1 = .ok (.iconst 0, 1) := by decide +kernel
theorem dX8_luck_2 : decode cX8_luck 2 = .ok (.sipush 4095, 3) := by decide +kernel
theorem dX8_luck_5 : decode cX8_luck 5 = .ok (.invokestatic 61, 3) := by decide +kernel
theorem dX8_luck_8 : decode cX8_luck 8 = .ok (.ifCond .eq 7, 3) := by decide +kernel
theorem dX8_luck_11 : decode cX8_luck 11 = .ok (.ldc2_w 112, 3) := by decide +kernel
theorem dX8_luck_14 : decode cX8_luck 14 = .ok (.lreturn, 1) := by decide +kernel
theorem dX8_luck_15 : decode cX8_luck 15 = .ok (.aload_n 0, 1) := by decide +kernel
theorem dX8_luck_16 : decode cX8_luck 16 = .ok (.getfield 50, 3) := by decide +kernel
theorem dX8_luck_19 : decode cX8_luck 19 = .ok (.iload_n 1, 1) := by decide +kernel
theorem dX8_luck_20 : decode cX8_luck 20 = .ok (.invokevirtual 224, 3) := by decide +kernel
theorem dX8_luck_23 : decode cX8_luck 23 = .ok (.aload_n 0, 1) := by decide +kernel
theorem dX8_luck_24 : decode cX8_luck 24 = .ok (.getfield 50, 3) := by decide +kernel
theorem dX8_luck_27 : decode cX8_luck 27 = .ok (.invokevirtual 227, 3) := by decide +kernel
theorem dX8_luck_30 : decode cX8_luck 30 = .ok (.iload_n 2, 1) := by decide +kernel
theorem dX8_luck_31 : decode cX8_luck 31 = .ok (.invokestatic 131, 3) := by decide +kernel
theorem dX8_luck_34 : decode cX8_luck 34 = .ok (.lreturn, 1) := by decide +kernel
theorem dX8_boards_0 : decode cX8_boards 0 = .ok (.iload_n 1, 1) := by decide +kernel
theorem dX8_boards_1 : decode cX8_boards 1 = .ok (.iconst 1, 1) := by decide +kernel
theorem dX8_boards_2 : decode cX8_boards 2 = .ok (.bipush 30, 2) := by decide +kernel
theorem dX8_boards_4 : decode cX8_boards 4 = .ok (.invokestatic 61, 3) := by decide +kernel
theorem dX8_boards_7 : decode cX8_boards 7 = .ok (.ifCond .ne 31, 3) := by decide +kernel
theorem dX8_boards_10 : decode cX8_boards 10 = .ok (.iload_n 2, 1) := by decide +kernel
theorem dX8_boards_11 : decode cX8_boards 11 = .ok (.iconst 0, 1) := by decide +kernel
theorem dX8_boards_12 : decode cX8_boards 12 = .ok (.iload_n 1, 1) := by decide +kernel
theorem dX8_boards_13 : decode cX8_boards 13 = .ok (.invokestatic 61, 3) := by decide +kernel
theorem dX8_boards_16 : decode cX8_boards 16 = .ok (.ifCond .ne 22, 3) := by decide +kernel
theorem dX8_boards_19 : decode cX8_boards 19 = .ok (.iload_n 3, 1) := by decide +kernel
theorem dX8_boards_20 : decode cX8_boards 20 = .ok (.iconst 1, 1) := by decide +kernel
theorem dX8_boards_21 : decode cX8_boards 21 = .ok (.iload_n 1, 1) := by decide +kernel
theorem dX8_boards_22 : decode cX8_boards 22 = .ok (.invokestatic 61, 3) := by decide +kernel
theorem dX8_boards_25 : decode cX8_boards 25 = .ok (.ifCond .ne 13, 3) := by decide +kernel
theorem dX8_boards_28 : decode cX8_boards 28 = .ok (.iload 4, 2) := by decide +kernel
theorem dX8_boards_30 : decode cX8_boards 30 = .ok (.iconst 0, 1) := by decide +kernel
theorem dX8_boards_31 : decode cX8_boards 31 = .ok (.iload_n 3, 1) := by decide +kernel
theorem dX8_boards_32 : decode cX8_boards 32 = .ok (.invokestatic 61, 3) := by decide +kernel
theorem dX8_boards_35 : decode cX8_boards 35 = .ok (.ifCond .eq 7, 3) := by decide +kernel
theorem dX8_boards_38 : decode cX8_boards 38 = .ok (.ldc2_w 112, 3) := by decide +kernel
theorem dX8_boards_41 : decode cX8_boards 41 = .ok (.lreturn, 1) := by decide +kernel
theorem dX8_boards_42 : decode cX8_boards 42 = .ok (.iload_n 1, 1) := by decide +kernel
theorem dX8_boards_43 : decode cX8_boards 43 = .ok (.iload_n 2, 1) := by decide +kernel
theorem dX8_boards_44 : decode cX8_boards 44 = .ok (.iload_n 3, 1) := by decide +kernel
theorem dX8_boards_45 : decode cX8_boards 45 = .ok (.iload 4, 2) := by decide +kernel
theorem dX8_boards_47 : decode cX8_boards 47 = .ok (.invokestatic 230, 3) := by decide +kernel
theorem dX8_boards_50 : decode cX8_boards 50 = .ok (.iload_n 1, 1) := by decide +kernel
theorem dX8_boards_51 : decode cX8_boards 51 = .ok (.iload_n 3, 1) := by decide +kernel
theorem dX8_boards_52 : decode cX8_boards 52 = .ok (.invokestatic 234, 3) := by decide +kernel
theorem dX8_boards_55 : decode cX8_boards 55 = .ok (.iload 5, 2) := by decide +kernel
theorem dX8_boards_57 : decode cX8_boards 57 = .ok (.invokestatic 131, 3) := by decide +kernel
theorem dX8_boards_60 : decode cX8_boards 60 = .ok (.lreturn, 1) := by decide +kernel
theorem dX8_span_0 : decode cX8_span 0 = .ok (.iload_n 1, 1) := by decide +kernel
theorem dX8_span_1 : decode cX8_span 1 = .ok (.iconst 1, 1) := by decide +kernel
theorem dX8_span_2 : decode cX8_span 2 = .ok (.bipush 30, 2) := by decide +kernel
theorem dX8_span_4 : decode cX8_span 4 = .ok (.invokestatic 61, 3) := by decide +kernel
theorem dX8_span_7 : decode cX8_span 7 = .ok (.ifCond .ne 21, 3) := by decide +kernel
theorem dX8_span_10 : decode cX8_span 10 = .ok (.iload_n 2, 1) := by decide +kernel
theorem dX8_span_11 : decode cX8_span 11 = .ok (.iconst 1, 1) := by decide +kernel
theorem dX8_span_12 : decode cX8_span 12 = .ok (.iload_n 1, 1) := by decide +kernel
theorem dX8_span_13 : decode cX8_span 13 = .ok (.invokestatic 61, 3) := by decide +kernel
theorem dX8_span_16 : decode cX8_span 16 = .ok (.ifCond .ne 12, 3) := by decide +kernel
theorem dX8_span_19 : decode cX8_span 19 = .ok (.iload_n 3, 1) := by decide +kernel
theorem dX8_span_20 : decode cX8_span 20 = .ok (.iconst 0, 1) := by decide +kernel
theorem dX8_span_21 : decode cX8_span 21 = .ok (.iload_n 2, 1) := by decide +kernel
theorem dX8_span_22 : decode cX8_span 22 = .ok (.invokestatic 61, 3) := by decide +kernel
theorem dX8_span_25 : decode cX8_span 25 = .ok (.ifCond .eq 6, 3) := by decide +kernel
theorem dX8_span_28 : decode cX8_span 28 = .ok (.bipush (-2), 2) := by decide +kernel
theorem dX8_span_30 : decode cX8_span 30 = .ok (.ireturn, 1) := by decide +kernel
theorem dX8_span_31 : decode cX8_span 31 = .ok (.iload_n 1, 1) := by decide +kernel
theorem dX8_span_32 : decode cX8_span 32 = .ok (.iload_n 2, 1) := by decide +kernel
theorem dX8_span_33 : decode cX8_span 33 = .ok (.invokestatic 234, 3) := by decide +kernel
theorem dX8_span_36 : decode cX8_span 36 = .ok (.lstore 5, 2) := by decide +kernel
theorem dX8_span_38 : decode cX8_span 38 = .ok (.bipush (-9), 2) := by decide +kernel
theorem dX8_span_40 : decode cX8_span 40 = .ok (.istore 7, 2) := by decide +kernel
theorem dX8_span_42 : decode cX8_span 42 = .ok (.iconst 0, 1) := by decide +kernel
theorem dX8_span_43 : decode cX8_span 43 = .ok (.istore 8, 2) := by decide +kernel
theorem dX8_span_45 : decode cX8_span 45 = .ok (.iload 8, 2) := by decide +kernel
theorem dX8_span_47 : decode cX8_span 47 = .ok (.iload_n 1, 1) := by decide +kernel
theorem dX8_span_48 : decode cX8_span 48 = .ok (.if_icmp .gt 55, 3) := by decide +kernel
theorem dX8_span_51 : decode cX8_span 51 = .ok (.ldc2_w 237, 3) := by decide +kernel
theorem dX8_span_54 : decode cX8_span 54 = .ok (.iload_n 1, 1) := by decide +kernel
theorem dX8_span_55 : decode cX8_span 55 = .ok (.iload 8, 2) := by decide +kernel
theorem dX8_span_57 : decode cX8_span 57 = .ok (.iload_n 2, 1) := by decide +kernel
theorem dX8_span_58 : decode cX8_span 58 = .ok (.iload_n 3, 1) := by decide +kernel
theorem dX8_span_59 : decode cX8_span 59 = .ok (.invokestatic 230, 3) := by decide +kernel
theorem dX8_span_62 : decode cX8_span 62 = .ok (.lmul, 1) := by decide +kernel
theorem dX8_span_63 : decode cX8_span 63 = .ok (.lload 5, 2) := by decide +kernel
theorem dX8_span_65 : decode cX8_span 65 = .ok (.lcmp, 1) := by decide +kernel
theorem dX8_span_66 : decode cX8_span 66 = .ok (.ifCond .lt 7, 3) := by decide +kernel
theorem dX8_span_69 : decode cX8_span 69 = .ok (.iconst 1, 1) := by decide +kernel
theorem dX8_span_70 : decode cX8_span 70 = .ok (.goto 4, 3) := by decide +kernel
theorem dX8_span_73 : decode cX8_span 73 = .ok (.iconst 0, 1) := by decide +kernel
theorem dX8_span_74 : decode cX8_span 74 = .ok (.istore 9, 2) := by decide +kernel
theorem dX8_span_76 : decode cX8_span 76 = .ok (.iload 9, 2) := by decide +kernel
theorem dX8_span_78 : decode cX8_span 78 = .ok (.ifCond .eq 19, 3) := by decide +kernel
theorem dX8_span_81 : decode cX8_span 81 = .ok (.iload 4, 2) := by decide +kernel
theorem dX8_span_83 : decode cX8_span 83 = .ok (.ifCond .ne 10, 3) := by decide +kernel
theorem dX8_span_86 : decode cX8_span 86 = .ok (.iload 7, 2) := by decide +kernel
theorem dX8_span_88 : decode cX8_span 88 = .ok (.bipush (-9), 2) := by decide +kernel
theorem dX8_span_90 : decode cX8_span 90 = .ok (.if_icmp .ne 7, 3) := by decide +kernel
theorem dX8_span_93 : decode cX8_span 93 = .ok (.iload 8, 2) := by decide +kernel
theorem dX8_span_95 : decode cX8_span 95 = .ok (.istore 7, 2) := by decide +kernel
theorem dX8_span_97 : decode cX8_span 97 = .ok (.iinc 8 1, 3) := by decide +kernel
theorem dX8_span_100 : decode cX8_span 100 = .ok (.goto (-55), 3) := by decide +kernel
theorem dX8_span_103 : decode cX8_span 103 = .ok (.iload 7, 2) := by decide +kernel
theorem dX8_span_105 : decode cX8_span 105 = .ok (.ireturn, 1) := by decide +kernel
theorem dX8_trial_0 : decode cX8_trial 0 = .ok (.iload_n 1, 1) := by decide +kernel
theorem dX8_trial_1 : decode cX8_trial 1 = .ok (.iconst 0, 1) := by decide +kernel
theorem dX8_trial_2 : decode cX8_trial 2 = .ok (.bipush 99, 2) := by decide +kernel
theorem dX8_trial_4 : decode cX8_trial 4 = .ok (.invokestatic 61, 3) := by decide +kernel
theorem dX8_trial_7 : decode cX8_trial 7 = .ok (.ifCond .eq 8, 3) := by decide +kernel
theorem dX8_trial_10 : decode cX8_trial 10 = .ok (.bipush (-2), 2) := by decide +kernel
theorem dX8_trial_12 : decode cX8_trial 12 = .ok (.goto 12, 3) := by decide +kernel
theorem dX8_trial_15 : decode cX8_trial 15 = .ok (.aload_n 0, 1) := by decide +kernel
theorem dX8_trial_16 : decode cX8_trial 16 = .ok (.getfield 57, 3) := by decide +kernel
theorem dX8_trial_19 : decode cX8_trial 19 = .ok (.iload_n 1, 1) := by decide +kernel
theorem dX8_trial_20 : decode cX8_trial 20 = .ok (.iload_n 2, 1) := by decide +kernel
theorem dX8_trial_21 : decode cX8_trial 21 = .ok (.invokevirtual 239, 3) := by decide +kernel
theorem dX8_trial_24 : decode cX8_trial 24 = .ok (.ireturn, 1) := by decide +kernel
theorem dX8_untrial_0 : decode cX8_untrial 0 = .ok (.aload_n 0, 1) := by decide +kernel
theorem dX8_untrial_1 : decode cX8_untrial 1 = .ok (.getfield 57, 3) := by decide +kernel
theorem dX8_untrial_4 : decode cX8_untrial 4 = .ok (.invokevirtual 242, 3) := by decide +kernel
theorem dX8_untrial_7 : decode cX8_untrial 7 = .ok (.ireturn, 1) := by decide +kernel
theorem dX8_chance_0 : decode cX8_chance 0 = .ok (.aload_n 0, 1) := by decide +kernel
theorem dX8_chance_1 : decode cX8_chance 1 = .ok (.getfield 57, 3) := by decide +kernel
theorem dX8_chance_4 : decode cX8_chance 4 = .ok (.iconst 1, 1) := by decide +kernel
theorem dX8_chance_5 : decode cX8_chance 5 = .ok (.invokevirtual 243, 3) := by decide +kernel
theorem dX8_chance_8 : decode cX8_chance 8 = .ok (.aload_n 0, 1) := by decide +kernel
theorem dX8_chance_9 : decode cX8_chance 9 = .ok (.getfield 57, 3) := by decide +kernel
theorem dX8_chance_12 : decode cX8_chance 12 = .ok (.iconst 0, 1) := by decide +kernel
theorem dX8_chance_13 : decode cX8_chance 13 = .ok (.invokevirtual 243, 3) := by decide +kernel
theorem dX8_chance_16 : decode cX8_chance 16 = .ok (.iload_n 1, 1) := by decide +kernel
theorem dX8_chance_17 : decode cX8_chance 17 = .ok (.invokestatic 131, 3) := by decide +kernel
theorem dX8_chance_20 : decode cX8_chance 20 = .ok (.lreturn, 1) := by decide +kernel
theorem dX8_until_0 : decode cX8_until 0 = .ok (.iload_n 1, 1) := by decide +kernel
theorem dX8_until_1 : decode cX8_until 1 = .ok (.iconst 1, 1) := by decide +kernel
theorem dX8_until_2 : decode cX8_until 2 = .ok (.bipush 12, 2) := by decide +kernel
theorem dX8_until_4 : decode cX8_until 4 = .ok (.invokestatic 61, 3) := by decide +kernel
theorem dX8_until_7 : decode cX8_until 7 = .ok (.ifCond .eq 7, 3) := by decide +kernel
theorem dX8_until_10 : decode cX8_until 10 = .ok (.ldc2_w 112, 3) := by decide +kernel
theorem dX8_until_13 : decode cX8_until 13 = .ok (.lreturn, 1) := by decide +kernel
theorem dX8_until_14 : decode cX8_until 14 = .ok (.lconst 0, 1) := by decide +kernel
theorem dX8_until_15 : decode cX8_until 15 = .ok (.lstore_n 3, 1) := by decide +kernel
theorem dX8_until_16 : decode cX8_until 16 = .ok (.iconst 1, 1) := by decide +kernel
theorem dX8_until_17 : decode cX8_until 17 = .ok (.istore 5, 2) := by decide +kernel
theorem dX8_until_19 : decode cX8_until 19 = .ok (.iload 5, 2) := by decide +kernel
theorem dX8_until_21 : decode cX8_until 21 = .ok (.iload_n 1, 1) := by decide +kernel
theorem dX8_until_22 : decode cX8_until 22 = .ok (.if_icmp .gt 20, 3) := by decide +kernel
theorem dX8_until_25 : decode cX8_until 25 = .ok (.lload_n 3, 1) := by decide +kernel
theorem dX8_until_26 : decode cX8_until 26 = .ok (.iload_n 1, 1) := by decide +kernel
theorem dX8_until_27 : decode cX8_until 27 = .ok (.i2l, 1) := by decide +kernel
theorem dX8_until_28 : decode cX8_until 28 = .ok (.iload 5, 2) := by decide +kernel
theorem dX8_until_30 : decode cX8_until 30 = .ok (.invokestatic 247, 3) := by decide +kernel
theorem dX8_until_33 : decode cX8_until 33 = .ok (.lmul, 1) := by decide +kernel
theorem dX8_until_34 : decode cX8_until 34 = .ok (.ladd, 1) := by decide +kernel
theorem dX8_until_35 : decode cX8_until 35 = .ok (.lstore_n 3, 1) := by decide +kernel
theorem dX8_until_36 : decode cX8_until 36 = .ok (.iinc 5 1, 3) := by decide +kernel
theorem dX8_until_39 : decode cX8_until 39 = .ok (.goto (-20), 3) := by decide +kernel
theorem dX8_until_42 : decode cX8_until 42 = .ok (.lload_n 3, 1) := by decide +kernel
theorem dX8_until_43 : decode cX8_until 43 = .ok (.ldc2_w 222, 3) := by decide +kernel
theorem dX8_until_46 : decode cX8_until 46 = .ok (.iload_n 2, 1) := by decide +kernel
theorem dX8_until_47 : decode cX8_until 47 = .ok (.invokestatic 131, 3) := by decide +kernel
theorem dX8_until_50 : decode cX8_until 50 = .ok (.lreturn, 1) := by decide +kernel
theorem dX8_keep_0 : decode cX8_keep 0 = .ok (.iload_n 1, 1) := by decide +kernel
theorem dX8_keep_1 : decode cX8_keep 1 = .ok (.iconst 0, 1) := by decide +kernel
theorem dX8_keep_2 : decode cX8_keep 2 = .ok (.iconst 1, 1) := by decide +kernel
theorem dX8_keep_3 : decode cX8_keep 3 = .ok (.invokestatic 61, 3) := by decide +kernel
theorem dX8_keep_6 : decode cX8_keep 6 = .ok (.ifCond .eq 5, 3) := by decide +kernel
theorem dX8_keep_9 : decode cX8_keep 9 = .ok (.iconst (-1), 1) := by decide +kernel
theorem dX8_keep_10 : decode cX8_keep 10 = .ok (.ireturn, 1) := by decide +kernel
theorem dX8_keep_11 : decode cX8_keep 11 = .ok (.aload_n 0, 1) := by decide +kernel
theorem dX8_keep_12 : decode cX8_keep 12 = .ok (.iload_n 1, 1) := by decide +kernel
theorem dX8_keep_13 : decode cX8_keep 13 = .ok (.invokevirtual 250, 3) := by decide +kernel
theorem dX8_keep_16 : decode cX8_keep 16 = .ok (.astore_n 2, 1) := by decide +kernel
theorem dX8_keep_17 : decode cX8_keep 17 = .ok (.aload_n 2, 1) := by decide +kernel
theorem dX8_keep_18 : decode cX8_keep 18 = .ok (.aload_n 0, 1) := by decide +kernel
theorem dX8_keep_19 : decode cX8_keep 19 = .ok (.getfield 19, 3) := by decide +kernel
theorem dX8_keep_22 : decode cX8_keep 22 = .ok (.getfield 174, 3) := by decide +kernel
theorem dX8_keep_25 : decode cX8_keep 25 = .ok (.invokevirtual 254, 3) := by decide +kernel
theorem dX8_keep_28 : decode cX8_keep 28 = .ok (.aload_n 2, 1) := by decide +kernel
theorem dX8_keep_29 : decode cX8_keep 29 = .ok (.iconst 1, 1) := by decide +kernel
theorem dX8_keep_30 : decode cX8_keep 30 = .ok (.putfield 80, 3) := by decide +kernel
theorem dX8_keep_33 : decode cX8_keep 33 = .ok (.aload_n 0, 1) := by decide +kernel
theorem dX8_keep_34 : decode cX8_keep 34 = .ok (.getfield 19, 3) := by decide +kernel
theorem dX8_keep_37 : decode cX8_keep 37 = .ok (.getfield 174, 3) := by decide +kernel
theorem dX8_keep_40 : decode cX8_keep 40 = .ok (.getfield 197, 3) := by decide +kernel
theorem dX8_keep_43 : decode cX8_keep 43 = .ok (.ireturn, 1) := by decide +kernel
theorem dX8_again_0 : decode cX8_again 0 = .ok (.iload_n 1, 1) := by decide +kernel
theorem dX8_again_1 : decode cX8_again 1 = .ok (.iconst 0, 1) := by decide +kernel
theorem dX8_again_2 : decode cX8_again 2 = .ok (.iconst 1, 1) := by decide +kernel
theorem dX8_again_3 : decode cX8_again 3 = .ok (.invokestatic 61, 3) := by decide +kernel
theorem dX8_again_6 : decode cX8_again 6 = .ok (.ifCond .eq 5, 3) := by decide +kernel
theorem dX8_again_9 : decode cX8_again 9 = .ok (.iconst (-1), 1) := by decide +kernel
theorem dX8_again_10 : decode cX8_again 10 = .ok (.ireturn, 1) := by decide +kernel
theorem dX8_again_11 : decode cX8_again 11 = .ok (.aload_n 0, 1) := by decide +kernel
theorem dX8_again_12 : decode cX8_again 12 = .ok (.iload_n 1, 1) := by decide +kernel
theorem dX8_again_13 : decode cX8_again 13 = .ok (.invokevirtual 250, 3) := by decide +kernel
theorem dX8_again_16 : decode cX8_again 16 = .ok (.astore_n 2, 1) := by decide +kernel
theorem dX8_again_17 : decode cX8_again 17 = .ok (.aload_n 2, 1) := by decide +kernel
theorem dX8_again_18 : decode cX8_again 18 = .ok (.getfield 80, 3) := by decide +kernel
theorem dX8_again_21 : decode cX8_again 21 = .ok (.ifCond .ne 6, 3) := by decide +kernel
theorem dX8_again_24 : decode cX8_again 24 = .ok (.bipush (-3), 2) := by decide +kernel
theorem dX8_again_26 : decode cX8_again 26 = .ok (.ireturn, 1) := by decide +kernel
theorem dX8_again_27 : decode cX8_again 27 = .ok (.aload_n 0, 1) := by decide +kernel
theorem dX8_again_28 : decode cX8_again 28 = .ok (.getfield 19, 3) := by decide +kernel
theorem dX8_again_31 : decode cX8_again 31 = .ok (.getfield 174, 3) := by decide +kernel
theorem dX8_again_34 : decode cX8_again 34 = .ok (.aload_n 2, 1) := by decide +kernel
theorem dX8_again_35 : decode cX8_again 35 = .ok (.invokevirtual 254, 3) := by decide +kernel
theorem dX8_again_38 : decode cX8_again 38 = .ok (.aload_n 0, 1) := by decide +kernel
theorem dX8_again_39 : decode cX8_again 39 = .ok (.getfield 19, 3) := by decide +kernel
theorem dX8_again_42 : decode cX8_again 42 = .ok (.getfield 174, 3) := by decide +kernel
theorem dX8_again_45 : decode cX8_again 45 = .ok (.getfield 197, 3) := by decide +kernel
theorem dX8_again_48 : decode cX8_again 48 = .ok (.ireturn, 1) := by decide +kernel
theorem dX8_count_0 : decode cX8_count 0 = .ok (.iload_n 1, 1) := by decide +kernel
theorem dX8_count_1 : decode cX8_count 1 = .ok (.tableswitch 78 0 4 #[35, 43, 51, 59, 67], 35) := by decide +kernel
theorem dX8_count_36 : decode cX8_count 36 = .ok (.aload_n 0, 1) := by decide +kernel
theorem dX8_count_37 : decode cX8_count 37 = .ok (.getfield 10, 3) := by decide +kernel
theorem dX8_count_40 : decode cX8_count 40 = .ok (.getfield 258, 3) := by decide +kernel
theorem dX8_count_43 : decode cX8_count 43 = .ok (.ireturn, 1) := by decide +kernel
theorem dX8_count_44 : decode cX8_count 44 = .ok (.aload_n 0, 1) := by decide +kernel
theorem dX8_count_45 : decode cX8_count 45 = .ok (.getfield 19, 3) := by decide +kernel
theorem dX8_count_48 : decode cX8_count 48 = .ok (.getfield 84, 3) := by decide +kernel
theorem dX8_count_51 : decode cX8_count 51 = .ok (.ireturn, 1) := by decide +kernel
theorem dX8_count_52 : decode cX8_count 52 = .ok (.aload_n 0, 1) := by decide +kernel
theorem dX8_count_53 : decode cX8_count 53 = .ok (.getfield 50, 3) := by decide +kernel
theorem dX8_count_56 : decode cX8_count 56 = .ok (.getfield 261, 3) := by decide +kernel
theorem dX8_count_59 : decode cX8_count 59 = .ok (.ireturn, 1) := by decide +kernel
theorem dX8_count_60 : decode cX8_count 60 = .ok (.aload_n 0, 1) := by decide +kernel
theorem dX8_count_61 : decode cX8_count 61 = .ok (.getfield 57, 3) := by decide +kernel
theorem dX8_count_64 : decode cX8_count 64 = .ok (.getfield 264, 3) := by decide +kernel
theorem dX8_count_67 : decode cX8_count 67 = .ok (.ireturn, 1) := by decide +kernel
theorem dX8_count_68 : decode cX8_count 68 = .ok (.aload_n 0, 1) := by decide +kernel
theorem dX8_count_69 : decode cX8_count 69 = .ok (.getfield 57, 3) := by decide +kernel
theorem dX8_count_72 : decode cX8_count 72 = .ok (.getfield 265, 3) := by decide +kernel
theorem dX8_count_75 : decode cX8_count 75 = .ok (.invokestatic 268, 3) := by decide +kernel
theorem dX8_count_78 : decode cX8_count 78 = .ok (.ireturn, 1) := by decide +kernel
theorem dX8_count_79 : decode cX8_count 79 = .ok (.bipush (-2), 2) := by decide +kernel
theorem dX8_count_81 : decode cX8_count 81 = .ok (.ireturn, 1) := by decide +kernel
theorem dX8_slotOf_0 : decode cX8_slotOf 0 = .ok (.iload_n 1, 1) := by decide +kernel
theorem dX8_slotOf_1 : decode cX8_slotOf 1 = .ok (.ifCond .ne 10, 3) := by decide +kernel
theorem dX8_slotOf_4 : decode cX8_slotOf 4 = .ok (.aload_n 0, 1) := by decide +kernel
theorem dX8_slotOf_5 : decode cX8_slotOf 5 = .ok (.getfield 40, 3) := by decide +kernel
theorem dX8_slotOf_8 : decode cX8_slotOf 8 = .ok (.goto 7, 3) := by decide +kernel
theorem dX8_slotOf_11 : decode cX8_slotOf 11 = .ok (.aload_n 0, 1) := by decide +kernel
theorem dX8_slotOf_12 : decode cX8_slotOf 12 = .ok (.getfield 44, 3) := by decide +kernel
theorem dX8_slotOf_15 : decode cX8_slotOf 15 = .ok (.areturn, 1) := by decide +kernel
theorem dX8_outside_0 : decode cX8_outside 0 = .ok (.iload_n 0, 1) := by decide +kernel
theorem dX8_outside_1 : decode cX8_outside 1 = .ok (.iload_n 1, 1) := by decide +kernel
theorem dX8_outside_2 : decode cX8_outside 2 = .ok (.if_icmp .lt 8, 3) := by decide +kernel
theorem dX8_outside_5 : decode cX8_outside 5 = .ok (.iload_n 0, 1) := by decide +kernel
theorem dX8_outside_6 : decode cX8_outside 6 = .ok (.iload_n 2, 1) := by decide +kernel
theorem dX8_outside_7 : decode cX8_outside 7 = .ok (.if_icmp .le 7, 3) := by decide +kernel
theorem dX8_outside_10 : decode cX8_outside 10 = .ok (.iconst 1, 1) := by decide +kernel
theorem dX8_outside_11 : decode cX8_outside 11 = .ok (.goto 4, 3) := by decide +kernel
theorem dX8_outside_14 : decode cX8_outside 14 = .ok (.iconst 0, 1) := by decide +kernel
theorem dX8_outside_15 : decode cX8_outside 15 = .ok (.ireturn, 1) := by decide +kernel
theorem dX8_noSeconds_0 : decode cX8_noSeconds 0 = .ok (.iload_n 0, 1) := by decide +kernel
theorem dX8_noSeconds_1 : decode cX8_noSeconds 1 = .ok (.iconst 0, 1) := by decide +kernel
theorem dX8_noSeconds_2 : decode cX8_noSeconds 2 = .ok (.bipush 9, 2) := by decide +kernel
theorem dX8_noSeconds_4 : decode cX8_noSeconds 4 = .ok (.invokestatic 61, 3) := by decide +kernel
theorem dX8_noSeconds_7 : decode cX8_noSeconds 7 = .ok (.ireturn, 1) := by decide +kernel
theorem dX8_noRule_0 : decode cX8_noRule 0 = .ok (.iload_n 0, 1) := by decide +kernel
theorem dX8_noRule_1 : decode cX8_noRule 1 = .ok (.iconst 0, 1) := by decide +kernel
theorem dX8_noRule_2 : decode cX8_noRule 2 = .ok (.iconst 4, 1) := by decide +kernel
theorem dX8_noRule_3 : decode cX8_noRule 3 = .ok (.invokestatic 61, 3) := by decide +kernel
theorem dX8_noRule_6 : decode cX8_noRule 6 = .ok (.ireturn, 1) := by decide +kernel
theorem dX8_isIn_0 : decode cX8_isIn 0 = .ok (.iload_n 1, 1) := by decide +kernel
theorem dX8_isIn_1 : decode cX8_isIn 1 = .ok (.ifCond .lt 22, 3) := by decide +kernel
theorem dX8_isIn_4 : decode cX8_isIn 4 = .ok (.iload_n 1, 1) := by decide +kernel
theorem dX8_isIn_5 : decode cX8_isIn 5 = .ok (.bipush 12, 2) := by decide +kernel
theorem dX8_isIn_7 : decode cX8_isIn 7 = .ok (.if_icmp .ge 16, 3) := by decide +kernel
theorem dX8_isIn_10 : decode cX8_isIn 10 = .ok (.iload_n 0, 1) := by decide +kernel
theorem dX8_isIn_11 : decode cX8_isIn 11 = .ok (.iload_n 1, 1) := by decide +kernel
theorem dX8_isIn_12 : decode cX8_isIn 12 = .ok (.ishr, 1) := by decide +kernel
theorem dX8_isIn_13 : decode cX8_isIn 13 = .ok (.iconst 1, 1) := by decide +kernel
theorem dX8_isIn_14 : decode cX8_isIn 14 = .ok (.iand, 1) := by decide +kernel
theorem dX8_isIn_15 : decode cX8_isIn 15 = .ok (.iconst 1, 1) := by decide +kernel
theorem dX8_isIn_16 : decode cX8_isIn 16 = .ok (.if_icmp .ne 7, 3) := by decide +kernel
theorem dX8_isIn_19 : decode cX8_isIn 19 = .ok (.iconst 1, 1) := by decide +kernel
theorem dX8_isIn_20 : decode cX8_isIn 20 = .ok (.goto 4, 3) := by decide +kernel
theorem dX8_isIn_23 : decode cX8_isIn 23 = .ok (.iconst 0, 1) := by decide +kernel
theorem dX8_isIn_24 : decode cX8_isIn 24 = .ok (.ireturn, 1) := by decide +kernel
theorem dX8_at_0 : decode cX8_at 0 = .ok (.iload_n 1, 1) := by decide +kernel
theorem dX8_at_1 : decode cX8_at 1 = .ok (.ifCond .lt 15, 3) := by decide +kernel
theorem dX8_at_4 : decode cX8_at 4 = .ok (.iload_n 1, 1) := by decide +kernel
theorem dX8_at_5 : decode cX8_at 5 = .ok (.aload_n 0, 1) := by decide +kernel
theorem dX8_at_6 : decode cX8_at 6 = .ok (.arraylength, 1) := by decide +kernel
theorem dX8_at_7 : decode cX8_at 7 = .ok (.if_icmp .ge 9, 3) := by decide +kernel
theorem dX8_at_10 : decode cX8_at 10 = .ok (.aload_n 0, 1) := by decide +kernel
theorem dX8_at_11 : decode cX8_at 11 = .ok (.iload_n 1, 1) := by decide +kernel
theorem dX8_at_12 : decode cX8_at 12 = .ok (.iaload, 1) := by decide +kernel
theorem dX8_at_13 : decode cX8_at 13 = .ok (.goto 4, 3) := by decide +kernel
theorem dX8_at_16 : decode cX8_at 16 = .ok (.iconst 0, 1) := by decide +kernel
theorem dX8_at_17 : decode cX8_at 17 = .ok (.ireturn, 1) := by decide +kernel
theorem dX8_put_0 : decode cX8_put 0 = .ok (.iload_n 1, 1) := by decide +kernel
theorem dX8_put_1 : decode cX8_put 1 = .ok (.ifCond .lt 13, 3) := by decide +kernel
theorem dX8_put_4 : decode cX8_put 4 = .ok (.iload_n 1, 1) := by decide +kernel
theorem dX8_put_5 : decode cX8_put 5 = .ok (.aload_n 0, 1) := by decide +kernel
theorem dX8_put_6 : decode cX8_put 6 = .ok (.arraylength, 1) := by decide +kernel
theorem dX8_put_7 : decode cX8_put 7 = .ok (.if_icmp .ge 7, 3) := by decide +kernel
theorem dX8_put_10 : decode cX8_put 10 = .ok (.aload_n 0, 1) := by decide +kernel
theorem dX8_put_11 : decode cX8_put 11 = .ok (.iload_n 1, 1) := by decide +kernel
theorem dX8_put_12 : decode cX8_put 12 = .ok (.iload_n 2, 1) := by decide +kernel
theorem dX8_put_13 : decode cX8_put 13 = .ok (.iastore, 1) := by decide +kernel
theorem dX8_put_14 : decode cX8_put 14 = .ok (.return_, 1) := by decide +kernel
theorem dX8_fraction_0 : decode cX8_fraction 0 = .ok (.lload_n 0, 1) := by decide +kernel
theorem dX8_fraction_1 : decode cX8_fraction 1 = .ok (.lload_n 2, 1) := by decide +kernel
theorem dX8_fraction_2 : decode cX8_fraction 2 = .ok (.invokestatic 273, 3) := by decide +kernel
theorem dX8_fraction_5 : decode cX8_fraction 5 = .ok (.lstore 5, 2) := by decide +kernel
theorem dX8_fraction_7 : decode cX8_fraction 7 = .ok (.lload 5, 2) := by decide +kernel
theorem dX8_fraction_9 : decode cX8_fraction 9 = .ok (.lconst 1, 1) := by decide +kernel
theorem dX8_fraction_10 : decode cX8_fraction 10 = .ok (.lcmp, 1) := by decide +kernel
theorem dX8_fraction_11 : decode cX8_fraction 11 = .ok (.ifCond .ge 14, 3) := by decide +kernel
theorem dX8_fraction_14 : decode cX8_fraction 14 = .ok (.iload 4, 2) := by decide +kernel
theorem dX8_fraction_16 : decode cX8_fraction 16 = .ok (.ifCond .eq 7, 3) := by decide +kernel
theorem dX8_fraction_19 : decode cX8_fraction 19 = .ok (.lconst 0, 1) := by decide +kernel
theorem dX8_fraction_20 : decode cX8_fraction 20 = .ok (.goto 4, 3) := by decide +kernel
theorem dX8_fraction_23 : decode cX8_fraction 23 = .ok (.lconst 1, 1) := by decide +kernel
theorem dX8_fraction_24 : decode cX8_fraction 24 = .ok (.lreturn, 1) := by decide +kernel
theorem dX8_fraction_25 : decode cX8_fraction 25 = .ok (.iload 4, 2) := by decide +kernel
theorem dX8_fraction_27 : decode cX8_fraction 27 = .ok (.ifCond .eq 7, 3) := by decide +kernel
theorem dX8_fraction_30 : decode cX8_fraction 30 = .ok (.lload_n 0, 1) := by decide +kernel
theorem dX8_fraction_31 : decode cX8_fraction 31 = .ok (.goto 4, 3) := by decide +kernel
theorem dX8_fraction_34 : decode cX8_fraction 34 = .ok (.lload_n 2, 1) := by decide +kernel
theorem dX8_fraction_35 : decode cX8_fraction 35 = .ok (.lload 5, 2) := by decide +kernel
theorem dX8_fraction_37 : decode cX8_fraction 37 = .ok (.ldiv, 1) := by decide +kernel
theorem dX8_fraction_38 : decode cX8_fraction 38 = .ok (.lreturn, 1) := by decide +kernel
theorem dX8_commonDivisor_0 : decode cX8_commonDivisor 0 = .ok (.lload_n 0, 1) := by decide +kernel
theorem dX8_commonDivisor_1 : decode cX8_commonDivisor 1 = .ok (.lstore 4, 2) := by decide +kernel
theorem dX8_commonDivisor_3 : decode cX8_commonDivisor 3 = .ok (.lload_n 2, 1) := by decide +kernel
theorem dX8_commonDivisor_4 : decode cX8_commonDivisor 4 = .ok (.lstore 6, 2) := by decide +kernel
theorem dX8_commonDivisor_6 : decode cX8_commonDivisor 6 = .ok (.iconst 0, 1) := by decide +kernel
theorem dX8_commonDivisor_7 : decode cX8_commonDivisor 7 = .ok (.istore 8, 2) := by decide +kernel
theorem dX8_commonDivisor_9 : decode cX8_commonDivisor 9 = .ok (.iload 8, 2) := by decide +kernel
theorem dX8_commonDivisor_11 : decode cX8_commonDivisor 11 = .ok (.bipush 100, 2) := by decide +kernel
theorem dX8_commonDivisor_13 : decode cX8_commonDivisor 13 = .ok (.if_icmp .ge 31, 3) := by decide +kernel
theorem dX8_commonDivisor_16 : decode cX8_commonDivisor 16 = .ok (.lload 6, 2) := by decide +kernel
theorem dX8_commonDivisor_18 : decode cX8_commonDivisor 18 = .ok (.lconst 0, 1) := by decide +kernel
theorem dX8_commonDivisor_19 : decode cX8_commonDivisor 19 = .ok (.lcmp, 1) := by decide +kernel
theorem dX8_commonDivisor_20 : decode cX8_commonDivisor 20 = .ok (.ifCond .eq 24, 3) := by decide +kernel
theorem dX8_commonDivisor_23 : decode cX8_commonDivisor 23 = .ok (.lload 4, 2) := by decide +kernel
theorem dX8_commonDivisor_25 : decode cX8_commonDivisor 25 = .ok (.lload 6, 2) := by decide +kernel
theorem dX8_commonDivisor_27 : decode cX8_commonDivisor 27 = .ok (.lrem, 1) := by decide +kernel
theorem dX8_commonDivisor_28 : decode cX8_commonDivisor 28 = .ok (.lstore 9, 2) := by decide +kernel
theorem dX8_commonDivisor_30 : decode cX8_commonDivisor 30 = .ok (.lload 6, 2) := by decide +kernel
theorem dX8_commonDivisor_32 : decode cX8_commonDivisor 32 = .ok (.lstore 4, 2) := by decide +kernel
theorem dX8_commonDivisor_34 : decode cX8_commonDivisor 34 = .ok (.lload 9, 2) := by decide +kernel
theorem dX8_commonDivisor_36 : decode cX8_commonDivisor 36 = .ok (.lstore 6, 2) := by decide +kernel
theorem dX8_commonDivisor_38 : decode cX8_commonDivisor 38 = .ok (.iinc 8 1, 3) := by decide +kernel
theorem dX8_commonDivisor_41 : decode cX8_commonDivisor 41 = .ok (.goto (-32), 3) := by decide +kernel
theorem dX8_commonDivisor_44 : decode cX8_commonDivisor 44 = .ok (.lload 4, 2) := by decide +kernel
theorem dX8_commonDivisor_46 : decode cX8_commonDivisor 46 = .ok (.lreturn, 1) := by decide +kernel
theorem dX8_tenTo_0 : decode cX8_tenTo 0 = .ok (.lconst 1, 1) := by decide +kernel
theorem dX8_tenTo_1 : decode cX8_tenTo 1 = .ok (.lstore_n 1, 1) := by decide +kernel
theorem dX8_tenTo_2 : decode cX8_tenTo 2 = .ok (.iconst 0, 1) := by decide +kernel
theorem dX8_tenTo_3 : decode cX8_tenTo 3 = .ok (.istore_n 3, 1) := by decide +kernel
theorem dX8_tenTo_4 : decode cX8_tenTo 4 = .ok (.iload_n 3, 1) := by decide +kernel
theorem dX8_tenTo_5 : decode cX8_tenTo 5 = .ok (.iload_n 0, 1) := by decide +kernel
theorem dX8_tenTo_6 : decode cX8_tenTo 6 = .ok (.if_icmp .ge 15, 3) := by decide +kernel
theorem dX8_tenTo_9 : decode cX8_tenTo 9 = .ok (.lload_n 1, 1) := by decide +kernel
theorem dX8_tenTo_10 : decode cX8_tenTo 10 = .ok (.ldc2_w 277, 3) := by decide +kernel
theorem dX8_tenTo_13 : decode cX8_tenTo 13 = .ok (.lmul, 1) := by decide +kernel
theorem dX8_tenTo_14 : decode cX8_tenTo 14 = .ok (.lstore_n 1, 1) := by decide +kernel
theorem dX8_tenTo_15 : decode cX8_tenTo 15 = .ok (.iinc 3 1, 3) := by decide +kernel
theorem dX8_tenTo_18 : decode cX8_tenTo 18 = .ok (.goto (-14), 3) := by decide +kernel
theorem dX8_tenTo_21 : decode cX8_tenTo 21 = .ok (.lload_n 1, 1) := by decide +kernel
theorem dX8_tenTo_22 : decode cX8_tenTo 22 = .ok (.lreturn, 1) := by decide +kernel
theorem dX8_share_0 : decode cX8_share 0 = .ok (.iload_n 0, 1) := by decide +kernel
theorem dX8_share_1 : decode cX8_share 1 = .ok (.iconst 1, 1) := by decide +kernel
theorem dX8_share_2 : decode cX8_share 2 = .ok (.if_icmp .ge 7, 3) := by decide +kernel
theorem dX8_share_5 : decode cX8_share 5 = .ok (.lconst 0, 1) := by decide +kernel
theorem dX8_share_6 : decode cX8_share 6 = .ok (.goto 9, 3) := by decide +kernel
theorem dX8_share_9 : decode cX8_share 9 = .ok (.sipush 27720, 3) := by decide +kernel
theorem dX8_share_12 : decode cX8_share 12 = .ok (.iload_n 0, 1) := by decide +kernel
theorem dX8_share_13 : decode cX8_share 13 = .ok (.idiv, 1) := by decide +kernel
theorem dX8_share_14 : decode cX8_share 14 = .ok (.i2l, 1) := by decide +kernel
theorem dX8_share_15 : decode cX8_share 15 = .ok (.lreturn, 1) := by decide +kernel
theorem dX8_choices_0 : decode cX8_choices 0 = .ok (.iload_n 1, 1) := by decide +kernel
theorem dX8_choices_1 : decode cX8_choices 1 = .ok (.ifCond .lt 8, 3) := by decide +kernel
theorem dX8_choices_4 : decode cX8_choices 4 = .ok (.iload_n 1, 1) := by decide +kernel
theorem dX8_choices_5 : decode cX8_choices 5 = .ok (.iload_n 0, 1) := by decide +kernel
theorem dX8_choices_6 : decode cX8_choices 6 = .ok (.if_icmp .le 5, 3) := by decide +kernel
theorem dX8_choices_9 : decode cX8_choices 9 = .ok (.lconst 0, 1) := by decide +kernel
theorem dX8_choices_10 : decode cX8_choices 10 = .ok (.lreturn, 1) := by decide +kernel
theorem dX8_choices_11 : decode cX8_choices 11 = .ok (.lconst 1, 1) := by decide +kernel
theorem dX8_choices_12 : decode cX8_choices 12 = .ok (.lstore_n 2, 1) := by decide +kernel
theorem dX8_choices_13 : decode cX8_choices 13 = .ok (.iconst 1, 1) := by decide +kernel
theorem dX8_choices_14 : decode cX8_choices 14 = .ok (.istore 4, 2) := by decide +kernel
theorem dX8_choices_16 : decode cX8_choices 16 = .ok (.iload 4, 2) := by decide +kernel
theorem dX8_choices_18 : decode cX8_choices 18 = .ok (.iload_n 1, 1) := by decide +kernel
theorem dX8_choices_19 : decode cX8_choices 19 = .ok (.if_icmp .gt 23, 3) := by decide +kernel
theorem dX8_choices_22 : decode cX8_choices 22 = .ok (.lload_n 2, 1) := by decide +kernel
theorem dX8_choices_23 : decode cX8_choices 23 = .ok (.iload_n 0, 1) := by decide +kernel
theorem dX8_choices_24 : decode cX8_choices 24 = .ok (.iload_n 1, 1) := by decide +kernel
theorem dX8_choices_25 : decode cX8_choices 25 = .ok (.isub, 1) := by decide +kernel
theorem dX8_choices_26 : decode cX8_choices 26 = .ok (.iload 4, 2) := by decide +kernel
theorem dX8_choices_28 : decode cX8_choices 28 = .ok (.iadd, 1) := by decide +kernel
theorem dX8_choices_29 : decode cX8_choices 29 = .ok (.i2l, 1) := by decide +kernel
theorem dX8_choices_30 : decode cX8_choices 30 = .ok (.lmul, 1) := by decide +kernel
theorem dX8_choices_31 : decode cX8_choices 31 = .ok (.iload 4, 2) := by decide +kernel
theorem dX8_choices_33 : decode cX8_choices 33 = .ok (.i2l, 1) := by decide +kernel
theorem dX8_choices_34 : decode cX8_choices 34 = .ok (.ldiv, 1) := by decide +kernel
theorem dX8_choices_35 : decode cX8_choices 35 = .ok (.lstore_n 2, 1) := by decide +kernel
theorem dX8_choices_36 : decode cX8_choices 36 = .ok (.iinc 4 1, 3) := by decide +kernel
theorem dX8_choices_39 : decode cX8_choices 39 = .ok (.goto (-23), 3) := by decide +kernel
theorem dX8_choices_42 : decode cX8_choices 42 = .ok (.lload_n 2, 1) := by decide +kernel
theorem dX8_choices_43 : decode cX8_choices 43 = .ok (.lreturn, 1) := by decide +kernel
theorem dX8_waysToSee_0 : decode cX8_waysToSee 0 = .ok (.iload_n 1, 1) := by decide +kernel
theorem dX8_waysToSee_1 : decode cX8_waysToSee 1 = .ok (.iload_n 3, 1) := by decide +kernel
theorem dX8_waysToSee_2 : decode cX8_waysToSee 2 = .ok (.invokestatic 234, 3) := by decide +kernel
theorem dX8_waysToSee_5 : decode cX8_waysToSee 5 = .ok (.iload_n 0, 1) := by decide +kernel
theorem dX8_waysToSee_6 : decode cX8_waysToSee 6 = .ok (.iload_n 1, 1) := by decide +kernel
theorem dX8_waysToSee_7 : decode cX8_waysToSee 7 = .ok (.isub, 1) := by decide +kernel
theorem dX8_waysToSee_8 : decode cX8_waysToSee 8 = .ok (.iload_n 2, 1) := by decide +kernel
theorem dX8_waysToSee_9 : decode cX8_waysToSee 9 = .ok (.iload_n 3, 1) := by decide +kernel
theorem dX8_waysToSee_10 : decode cX8_waysToSee 10 = .ok (.isub, 1) := by decide +kernel
theorem dX8_waysToSee_11 : decode cX8_waysToSee 11 = .ok (.invokestatic 234, 3) := by decide +kernel
theorem dX8_waysToSee_14 : decode cX8_waysToSee 14 = .ok (.lmul, 1) := by decide +kernel
theorem dX8_waysToSee_15 : decode cX8_waysToSee 15 = .ok (.lreturn, 1) := by decide +kernel
end
section
theorem dX9_init_0 : decode cX9_init 0 = .ok (.aload_n 0, 1) := by decide +kernel
theorem dX9_init_1 : decode cX9_init 1 = .ok (.invokespecial 1, 3) := by decide +kernel
theorem dX9_init_4 : decode cX9_init 4 = .ok (.aload_n 0, 1) := by decide +kernel
theorem dX9_init_5 : decode cX9_init 5 = .ok (.bipush 72, 2) := by decide +kernel
theorem dX9_init_7 : decode cX9_init 7 = .ok (.newarray .int, 2) := by decide +kernel
theorem dX9_init_9 : decode cX9_init 9 = .ok (.putfield 7, 3) := by decide +kernel
theorem dX9_init_12 : decode cX9_init 12 = .ok (.aload_n 0, 1) := by decide +kernel
theorem dX9_init_13 : decode cX9_init 13 = .ok (.bipush 72, 2) := by decide +kernel
theorem dX9_init_15 : decode cX9_init 15 = .ok (.newarray .int, 2) := by decide +kernel
theorem dX9_init_17 : decode cX9_init 17 = .ok (.putfield 13, 3) := by decide +kernel
theorem dX9_init_20 : decode cX9_init 20 = .ok (.aload_n 0, 1) := by decide +kernel
theorem dX9_init_21 : decode cX9_init 21 = .ok (.bipush 12, 2) := by decide +kernel
theorem dX9_init_23 : decode cX9_init 23 = .ok (.newarray .int, 2) := by decide +kernel
theorem dX9_init_25 : decode cX9_init 25 = .ok (.putfield 16, 3) := by decide +kernel
theorem dX9_init_28 : decode cX9_init 28 = .ok (.aload_n 0, 1) := by decide +kernel
theorem dX9_init_29 : decode cX9_init 29 = .ok (.bipush 12, 2) := by decide +kernel
theorem dX9_init_31 : decode cX9_init 31 = .ok (.newarray .int, 2) := by decide +kernel
theorem dX9_init_33 : decode cX9_init 33 = .ok (.putfield 19, 3) := by decide +kernel
theorem dX9_init_36 : decode cX9_init 36 = .ok (.aload_n 0, 1) := by decide +kernel
theorem dX9_init_37 : decode cX9_init 37 = .ok (.bipush 72, 2) := by decide +kernel
theorem dX9_init_39 : decode cX9_init 39 = .ok (.newarray .int, 2) := by decide +kernel
theorem dX9_init_41 : decode cX9_init 41 = .ok (.putfield 22, 3) := by decide +kernel
theorem dX9_init_44 : decode cX9_init 44 = .ok (.aload_n 0, 1) := by decide +kernel
theorem dX9_init_45 : decode cX9_init 45 = .ok (.sipush 169, 3) := by decide +kernel
theorem dX9_init_48 : decode cX9_init 48 = .ok (.newarray .long, 2) := by decide +kernel
theorem dX9_init_50 : decode cX9_init 50 = .ok (.putfield 25, 3) := by decide +kernel
theorem dX9_init_53 : decode cX9_init 53 = .ok (.aload_n 0, 1) := by decide +kernel
theorem dX9_init_54 : decode cX9_init 54 = .ok (.bipush 13, 2) := by decide +kernel
theorem dX9_init_56 : decode cX9_init 56 = .ok (.newarray .long, 2) := by decide +kernel
theorem dX9_init_58 : decode cX9_init 58 = .ok (.putfield 29, 3) := by decide +kernel
theorem dX9_init_61 : decode cX9_init 61 = .ok (.aload_n 0, 1) := by decide +kernel
theorem dX9_init_62 : decode cX9_init 62 = .ok (.bipush 12, 2) := by decide +kernel
theorem dX9_init_64 : decode cX9_init 64 = .ok (.newarray .int, 2) := by decide +kernel
theorem dX9_init_66 : decode cX9_init 66 = .ok (.putfield 32, 3) := by decide +kernel
theorem dX9_init_69 : decode cX9_init 69 = .ok (.aload_n 0, 1) := by decide +kernel
theorem dX9_init_70 : decode cX9_init 70 = .ok (.bipush 12, 2) := by decide +kernel
theorem dX9_init_72 : decode cX9_init 72 = .ok (.newarray .int, 2) := by decide +kernel
theorem dX9_init_74 : decode cX9_init 74 = .ok (.putfield 35, 3) := by decide +kernel
theorem dX9_init_77 : decode cX9_init 77 = .ok (.aload_n 0, 1) := by decide +kernel
theorem dX9_init_78 : decode cX9_init 78 = .ok (.bipush 10, 2) := by decide +kernel
theorem dX9_init_80 : decode cX9_init 80 = .ok (.newarray .int, 2) := by decide +kernel
theorem dX9_init_82 : decode cX9_init 82 = .ok (.putfield 38, 3) := by decide +kernel
theorem dX9_init_85 : decode cX9_init 85 = .ok (.aload_n 0, 1) := by decide +kernel
theorem dX9_init_86 : decode cX9_init 86 = .ok (.bipush 10, 2) := by decide +kernel
theorem dX9_init_88 : decode cX9_init 88 = .ok (.newarray .boolean, 2) := by decide +kernel
theorem dX9_init_90 : decode cX9_init 90 = .ok (.putfield 41, 3) := by decide +kernel
theorem dX9_init_93 : decode cX9_init 93 = .ok (.aload_n 0, 1) := by decide +kernel
theorem dX9_init_94 : decode cX9_init 94 = .ok (.iconst 2, 1) := by decide +kernel
theorem dX9_init_95 : decode cX9_init 95 = .ok (.newarray .boolean, 2) := by decide +kernel
theorem dX9_init_97 : decode cX9_init 97 = .ok (.putfield 45, 3) := by decide +kernel
theorem dX9_init_100 : decode cX9_init 100 = .ok (.aload_n 0, 1) := by decide +kernel
theorem dX9_init_101 : decode cX9_init 101 = .ok (.bipush 24, 2) := by decide +kernel
theorem dX9_init_103 : decode cX9_init 103 = .ok (.newarray .int, 2) := by decide +kernel
theorem dX9_init_105 : decode cX9_init 105 = .ok (.putfield 48, 3) := by decide +kernel
theorem dX9_init_108 : decode cX9_init 108 = .ok (.aload_n 0, 1) := by decide +kernel
theorem dX9_init_109 : decode cX9_init 109 = .ok (.bipush 24, 2) := by decide +kernel
theorem dX9_init_111 : decode cX9_init 111 = .ok (.newarray .int, 2) := by decide +kernel
theorem dX9_init_113 : decode cX9_init 113 = .ok (.putfield 51, 3) := by decide +kernel
theorem dX9_init_116 : decode cX9_init 116 = .ok (.aload_n 0, 1) := by decide +kernel
theorem dX9_init_117 : decode cX9_init 117 = .ok (.iconst 2, 1) := by decide +kernel
theorem dX9_init_118 : decode cX9_init 118 = .ok (.newarray .long, 2) := by decide +kernel
theorem dX9_init_120 : decode cX9_init 120 = .ok (.putfield 54, 3) := by decide +kernel
theorem dX9_init_123 : decode cX9_init 123 = .ok (.aload_n 0, 1) := by decide +kernel
theorem dX9_init_124 : decode cX9_init 124 = .ok (.bipush 6, 2) := by decide +kernel
theorem dX9_init_126 : decode cX9_init 126 = .ok (.newarray .int, 2) := by decide +kernel
theorem dX9_init_128 : decode cX9_init 128 = .ok (.putfield 57, 3) := by decide +kernel
theorem dX9_init_131 : decode cX9_init 131 = .ok (.aload_n 0, 1) := by decide +kernel
theorem dX9_init_132 : decode cX9_init 132 = .ok (.iconst 5, 1) := by decide +kernel
theorem dX9_init_133 : decode cX9_init 133 = .ok (.putfield 60, 3) := by decide +kernel
theorem dX9_init_136 : decode cX9_init 136 = .ok (.return_, 1) := by decide +kernel
theorem dX9_in_0 : decode cX9_in 0 = .ok (.lload_n 0, 1) := by decide +kernel
theorem dX9_in_1 : decode cX9_in 1 = .ok (.lload_n 2, 1) := by decide +kernel
theorem dX9_in_2 : decode cX9_in 2 = .ok (.lcmp, 1) := by decide +kernel
theorem dX9_in_3 : decode cX9_in 3 = .ok (.ifCond .lt 14, 3) := by decide +kernel
theorem dX9_in_6 : decode cX9_in 6 = .ok (.lload_n 0, 1) := by decide +kernel
theorem dX9_in_7 : decode cX9_in 7 = .ok (.lload 4, 2) := by decide +kernel
theorem dX9_in_9 : decode cX9_in 9 = .ok (.lcmp, 1) := by decide +kernel
theorem dX9_in_10 : decode cX9_in 10 = .ok (.ifCond .gt 7, 3) := by decide +kernel
theorem dX9_in_13 : decode cX9_in 13 = .ok (.iconst 1, 1) := by decide +kernel
theorem dX9_in_14 : decode cX9_in 14 = .ok (.goto 4, 3) := by decide +kernel
theorem dX9_in_17 : decode cX9_in 17 = .ok (.iconst 0, 1) := by decide +kernel
theorem dX9_in_18 : decode cX9_in 18 = .ok (.ireturn, 1) := by decide +kernel
theorem dX9_write_0 : decode cX9_write 0 = .ok (.iload_n 1, 1) := by decide +kernel
theorem dX9_write_1 : decode cX9_write 1 = .ok (.i2l, 1) := by decide +kernel
theorem dX9_write_2 : decode cX9_write 2 = .ok (.lconst 1, 1) := by decide +kernel
theorem dX9_write_3 : decode cX9_write 3 = .ok (.ldc2_w 64, 3) := by decide +kernel
theorem dX9_write_6 : decode cX9_write 6 = .ok (.invokestatic 66, 3) := by decide +kernel
theorem dX9_write_9 : decode cX9_write 9 = .ok (.ifCond .ne 6, 3) := by decide +kernel
theorem dX9_write_12 : decode cX9_write 12 = .ok (.bipush (-2), 2) := by decide +kernel
theorem dX9_write_14 : decode cX9_write 14 = .ok (.ireturn, 1) := by decide +kernel
theorem dX9_write_15 : decode cX9_write 15 = .ok (.aload_n 0, 1) := by decide +kernel
theorem dX9_write_16 : decode cX9_write 16 = .ok (.getfield 70, 3) := by decide +kernel
theorem dX9_write_19 : decode cX9_write 19 = .ok (.iload_n 1, 1) := by decide +kernel
theorem dX9_write_20 : decode cX9_write 20 = .ok (.iadd, 1) := by decide +kernel
theorem dX9_write_21 : decode cX9_write 21 = .ok (.bipush 72, 2) := by decide +kernel
theorem dX9_write_23 : decode cX9_write 23 = .ok (.if_icmp .le 6, 3) := by decide +kernel
theorem dX9_write_26 : decode cX9_write 26 = .ok (.bipush (-4), 2) := by decide +kernel
theorem dX9_write_28 : decode cX9_write 28 = .ok (.ireturn, 1) := by decide +kernel
theorem dX9_write_29 : decode cX9_write 29 = .ok (.iload_n 1, 1) := by decide +kernel
theorem dX9_write_30 : decode cX9_write 30 = .ok (.iconst 1, 1) := by decide +kernel
theorem dX9_write_31 : decode cX9_write 31 = .ok (.isub, 1) := by decide +kernel
theorem dX9_write_32 : decode cX9_write 32 = .ok (.istore 4, 2) := by decide +kernel
theorem dX9_write_34 : decode cX9_write 34 = .ok (.iload 4, 2) := by decide +kernel
theorem dX9_write_36 : decode cX9_write 36 = .ok (.ifCond .lt 40, 3) := by decide +kernel
theorem dX9_write_39 : decode cX9_write 39 = .ok (.aload_n 0, 1) := by decide +kernel
theorem dX9_write_40 : decode cX9_write 40 = .ok (.getfield 22, 3) := by decide +kernel
theorem dX9_write_43 : decode cX9_write 43 = .ok (.aload_n 0, 1) := by decide +kernel
theorem dX9_write_44 : decode cX9_write 44 = .ok (.getfield 70, 3) := by decide +kernel
theorem dX9_write_47 : decode cX9_write 47 = .ok (.lload_n 2, 1) := by decide +kernel
theorem dX9_write_48 : decode cX9_write 48 = .ok (.bipush 8, 2) := by decide +kernel
theorem dX9_write_50 : decode cX9_write 50 = .ok (.iload 4, 2) := by decide +kernel
theorem dX9_write_52 : decode cX9_write 52 = .ok (.imul, 1) := by decide +kernel
theorem dX9_write_53 : decode cX9_write 53 = .ok (.lshr, 1) := by decide +kernel
theorem dX9_write_54 : decode cX9_write 54 = .ok (.ldc2_w 73, 3) := by decide +kernel
theorem dX9_write_57 : decode cX9_write 57 = .ok (.land, 1) := by decide +kernel
theorem dX9_write_58 : decode cX9_write 58 = .ok (.l2i, 1) := by decide +kernel
theorem dX9_write_59 : decode cX9_write 59 = .ok (.iastore, 1) := by decide +kernel
theorem dX9_write_60 : decode cX9_write 60 = .ok (.aload_n 0, 1) := by decide +kernel
theorem dX9_write_61 : decode cX9_write 61 = .ok (.dup, 1) := by decide +kernel
theorem dX9_write_62 : decode cX9_write 62 = .ok (.getfield 70, 3) := by decide +kernel
theorem dX9_write_65 : decode cX9_write 65 = .ok (.iconst 1, 1) := by decide +kernel
theorem dX9_write_66 : decode cX9_write 66 = .ok (.iadd, 1) := by decide +kernel
theorem dX9_write_67 : decode cX9_write 67 = .ok (.putfield 70, 3) := by decide +kernel
theorem dX9_write_70 : decode cX9_write 70 = .ok (.iinc 4 (-1), 3) := by decide +kernel
theorem dX9_write_73 : decode cX9_write 73 = .ok (.goto (-39), 3) := by decide +kernel
theorem dX9_write_76 : decode cX9_write 76 = .ok (.aload_n 0, 1) := by decide +kernel
theorem dX9_write_77 : decode cX9_write 77 = .ok (.getfield 70, 3) := by decide +kernel
theorem dX9_write_80 : decode cX9_write 80 = .ok (.ireturn, 1) := by decide +kernel
theorem dX9_wipe_0 : decode cX9_wipe 0 = .ok (.aload_n 0, 1) := by decide +kernel
theorem dX9_wipe_1 : decode cX9_wipe 1 = .ok (.getfield 70, 3) := by decide +kernel
theorem dX9_wipe_4 : decode cX9_wipe 4 = .ok (.istore_n 1, 1) := by decide +kernel
theorem dX9_wipe_5 : decode cX9_wipe 5 = .ok (.aload_n 0, 1) := by decide +kernel
theorem dX9_wipe_6 : decode cX9_wipe 6 = .ok (.iconst 0, 1) := by decide +kernel
theorem dX9_wipe_7 : decode cX9_wipe 7 = .ok (.putfield 70, 3) := by decide +kernel
theorem dX9_wipe_10 : decode cX9_wipe 10 = .ok (.iload_n 1, 1) := by decide +kernel
theorem dX9_wipe_11 : decode cX9_wipe 11 = .ok (.ireturn, 1) := by decide +kernel
theorem dX9_figure_0 : decode cX9_figure 0 = .ok (.aload_n 0, 1) := by decide +kernel
theorem dX9_figure_1 : decode cX9_figure 1 = .ok (.getfield 75, 3) := by decide +kernel
theorem dX9_figure_4 : decode cX9_figure 4 = .ok (.bipush (-9), 2) := by decide +kernel
theorem dX9_figure_6 : decode cX9_figure 6 = .ok (.if_icmp .ne 29, 3) := by decide +kernel
theorem dX9_figure_9 : decode cX9_figure 9 = .ok (.aload_n 0, 1) := by decide +kernel
theorem dX9_figure_10 : decode cX9_figure 10 = .ok (.getfield 78, 3) := by decide +kernel
theorem dX9_figure_13 : decode cX9_figure 13 = .ok (.aload_n 0, 1) := by decide +kernel
theorem dX9_figure_14 : decode cX9_figure 14 = .ok (.getfield 70, 3) := by decide +kernel
theorem dX9_figure_17 : decode cX9_figure 17 = .ok (.if_icmp .ge 18, 3) := by decide +kernel
theorem dX9_figure_20 : decode cX9_figure 20 = .ok (.aload_n 0, 1) := by decide +kernel
theorem dX9_figure_21 : decode cX9_figure 21 = .ok (.getfield 22, 3) := by decide +kernel
theorem dX9_figure_24 : decode cX9_figure 24 = .ok (.aload_n 0, 1) := by decide +kernel
theorem dX9_figure_25 : decode cX9_figure 25 = .ok (.getfield 78, 3) := by decide +kernel
theorem dX9_figure_28 : decode cX9_figure 28 = .ok (.iaload, 1) := by decide +kernel
theorem dX9_figure_29 : decode cX9_figure 29 = .ok (.bipush 48, 2) := by decide +kernel
theorem dX9_figure_31 : decode cX9_figure 31 = .ok (.isub, 1) := by decide +kernel
theorem dX9_figure_32 : decode cX9_figure 32 = .ok (.goto 4, 3) := by decide +kernel
theorem dX9_figure_35 : decode cX9_figure 35 = .ok (.iconst (-1), 1) := by decide +kernel
theorem dX9_figure_36 : decode cX9_figure 36 = .ok (.istore_n 2, 1) := by decide +kernel
theorem dX9_figure_37 : decode cX9_figure 37 = .ok (.iload_n 2, 1) := by decide +kernel
theorem dX9_figure_38 : decode cX9_figure 38 = .ok (.i2l, 1) := by decide +kernel
theorem dX9_figure_39 : decode cX9_figure 39 = .ok (.lconst 0, 1) := by decide +kernel
theorem dX9_figure_40 : decode cX9_figure 40 = .ok (.ldc2_w 81, 3) := by decide +kernel
theorem dX9_figure_43 : decode cX9_figure 43 = .ok (.invokestatic 66, 3) := by decide +kernel
theorem dX9_figure_46 : decode cX9_figure 46 = .ok (.ifCond .eq 11, 3) := by decide +kernel
theorem dX9_figure_49 : decode cX9_figure 49 = .ok (.iload_n 1, 1) := by decide +kernel
theorem dX9_figure_50 : decode cX9_figure 50 = .ok (.iload_n 2, 1) := by decide +kernel
theorem dX9_figure_51 : decode cX9_figure 51 = .ok (.ishr, 1) := by decide +kernel
theorem dX9_figure_52 : decode cX9_figure 52 = .ok (.iconst 1, 1) := by decide +kernel
theorem dX9_figure_53 : decode cX9_figure 53 = .ok (.iand, 1) := by decide +kernel
theorem dX9_figure_54 : decode cX9_figure 54 = .ok (.ifCond .ne 29, 3) := by decide +kernel
theorem dX9_figure_57 : decode cX9_figure 57 = .ok (.aload_n 0, 1) := by decide +kernel
theorem dX9_figure_58 : decode cX9_figure 58 = .ok (.aload_n 0, 1) := by decide +kernel
theorem dX9_figure_59 : decode cX9_figure 59 = .ok (.getfield 75, 3) := by decide +kernel
theorem dX9_figure_62 : decode cX9_figure 62 = .ok (.bipush (-9), 2) := by decide +kernel
theorem dX9_figure_64 : decode cX9_figure 64 = .ok (.if_icmp .ne 10, 3) := by decide +kernel
theorem dX9_figure_67 : decode cX9_figure 67 = .ok (.aload_n 0, 1) := by decide +kernel
theorem dX9_figure_68 : decode cX9_figure 68 = .ok (.getfield 78, 3) := by decide +kernel
theorem dX9_figure_71 : decode cX9_figure 71 = .ok (.goto 7, 3) := by decide +kernel
theorem dX9_figure_74 : decode cX9_figure 74 = .ok (.aload_n 0, 1) := by decide +kernel
theorem dX9_figure_75 : decode cX9_figure 75 = .ok (.getfield 75, 3) := by decide +kernel
theorem dX9_figure_78 : decode cX9_figure 78 = .ok (.putfield 75, 3) := by decide +kernel
theorem dX9_figure_81 : decode cX9_figure 81 = .ok (.iconst 0, 1) := by decide +kernel
theorem dX9_figure_82 : decode cX9_figure 82 = .ok (.ireturn, 1) := by decide +kernel
theorem dX9_figure_83 : decode cX9_figure 83 = .ok (.aload_n 0, 1) := by decide +kernel
theorem dX9_figure_84 : decode cX9_figure 84 = .ok (.dup, 1) := by decide +kernel
theorem dX9_figure_85 : decode cX9_figure 85 = .ok (.getfield 78, 3) := by decide +kernel
theorem dX9_figure_88 : decode cX9_figure 88 = .ok (.iconst 1, 1) := by decide +kernel
theorem dX9_figure_89 : decode cX9_figure 89 = .ok (.iadd, 1) := by decide +kernel
theorem dX9_figure_90 : decode cX9_figure 90 = .ok (.putfield 78, 3) := by decide +kernel
theorem dX9_figure_93 : decode cX9_figure 93 = .ok (.iload_n 2, 1) := by decide +kernel
theorem dX9_figure_94 : decode cX9_figure 94 = .ok (.ireturn, 1) := by decide +kernel
theorem dX9_free_0 : decode cX9_free 0 = .ok (.bipush 63, 2) := by decide +kernel
theorem dX9_free_2 : decode cX9_free 2 = .ok (.istore_n 2, 1) := by decide +kernel
theorem dX9_free_3 : decode cX9_free 3 = .ok (.iconst 0, 1) := by decide +kernel
theorem dX9_free_4 : decode cX9_free 4 = .ok (.istore_n 3, 1) := by decide +kernel
theorem dX9_free_5 : decode cX9_free 5 = .ok (.iload_n 3, 1) := by decide +kernel
theorem dX9_free_6 : decode cX9_free 6 = .ok (.aload_n 0, 1) := by decide +kernel
theorem dX9_free_7 : decode cX9_free 7 = .ok (.getfield 83, 3) := by decide +kernel
theorem dX9_free_10 : decode cX9_free 10 = .ok (.if_icmp .ge 45, 3) := by decide +kernel
theorem dX9_free_13 : decode cX9_free 13 = .ok (.iload_n 2, 1) := by decide +kernel
theorem dX9_free_14 : decode cX9_free 14 = .ok (.aload_n 0, 1) := by decide +kernel
theorem dX9_free_15 : decode cX9_free 15 = .ok (.getfield 7, 3) := by decide +kernel
theorem dX9_free_18 : decode cX9_free 18 = .ok (.bipush 6, 2) := by decide +kernel
theorem dX9_free_20 : decode cX9_free 20 = .ok (.iload_n 3, 1) := by decide +kernel
theorem dX9_free_21 : decode cX9_free 21 = .ok (.imul, 1) := by decide +kernel
theorem dX9_free_22 : decode cX9_free 22 = .ok (.iaload, 1) := by decide +kernel
theorem dX9_free_23 : decode cX9_free 23 = .ok (.iload_n 1, 1) := by decide +kernel
theorem dX9_free_24 : decode cX9_free 24 = .ok (.if_icmp .ne 21, 3) := by decide +kernel
theorem dX9_free_27 : decode cX9_free 27 = .ok (.iconst 1, 1) := by decide +kernel
theorem dX9_free_28 : decode cX9_free 28 = .ok (.aload_n 0, 1) := by decide +kernel
theorem dX9_free_29 : decode cX9_free 29 = .ok (.getfield 7, 3) := by decide +kernel
theorem dX9_free_32 : decode cX9_free 32 = .ok (.bipush 6, 2) := by decide +kernel
theorem dX9_free_34 : decode cX9_free 34 = .ok (.iload_n 3, 1) := by decide +kernel
theorem dX9_free_35 : decode cX9_free 35 = .ok (.imul, 1) := by decide +kernel
theorem dX9_free_36 : decode cX9_free 36 = .ok (.iconst 1, 1) := by decide +kernel
theorem dX9_free_37 : decode cX9_free 37 = .ok (.iadd, 1) := by decide +kernel
theorem dX9_free_38 : decode cX9_free 38 = .ok (.iaload, 1) := by decide +kernel
theorem dX9_free_39 : decode cX9_free 39 = .ok (.ishl, 1) := by decide +kernel
theorem dX9_free_40 : decode cX9_free 40 = .ok (.iconst (-1), 1) := by decide +kernel
theorem dX9_free_41 : decode cX9_free 41 = .ok (.ixor, 1) := by decide +kernel
theorem dX9_free_42 : decode cX9_free 42 = .ok (.goto 5, 3) := by decide +kernel
theorem dX9_free_45 : decode cX9_free 45 = .ok (.bipush 63, 2) := by decide +kernel
theorem dX9_free_47 : decode cX9_free 47 = .ok (.iand, 1) := by decide +kernel
theorem dX9_free_48 : decode cX9_free 48 = .ok (.istore_n 2, 1) := by decide +kernel
theorem dX9_free_49 : decode cX9_free 49 = .ok (.iinc 3 1, 3) := by decide +kernel
theorem dX9_free_52 : decode cX9_free 52 = .ok (.goto (-47), 3) := by decide +kernel
theorem dX9_free_55 : decode cX9_free 55 = .ok (.iload_n 2, 1) := by decide +kernel
theorem dX9_free_56 : decode cX9_free 56 = .ok (.ireturn, 1) := by decide +kernel
theorem dX9_readText_0 : decode cX9_readText 0 = .ok (.aload_n 0, 1) := by decide +kernel
theorem dX9_readText_1 : decode cX9_readText 1 = .ok (.iconst 0, 1) := by decide +kernel
theorem dX9_readText_2 : decode cX9_readText 2 = .ok (.putfield 78, 3) := by decide +kernel
theorem dX9_readText_5 : decode cX9_readText 5 = .ok (.aload_n 0, 1) := by decide +kernel
theorem dX9_readText_6 : decode cX9_readText 6 = .ok (.bipush (-9), 2) := by decide +kernel
theorem dX9_readText_8 : decode cX9_readText 8 = .ok (.putfield 75, 3) := by decide +kernel
theorem dX9_readText_11 : decode cX9_readText 11 = .ok (.aload_n 0, 1) := by decide +kernel
theorem dX9_readText_12 : decode cX9_readText 12 = .ok (.iconst 0, 1) := by decide +kernel
theorem dX9_readText_13 : decode cX9_readText 13 = .ok (.putfield 83, 3) := by decide +kernel
theorem dX9_readText_16 : decode cX9_readText 16 = .ok (.aload_n 0, 1) := by decide +kernel
theorem dX9_readText_17 : decode cX9_readText 17 = .ok (.getfield 75, 3) := by decide +kernel
theorem dX9_readText_20 : decode cX9_readText 20 = .ok (.bipush (-9), 2) := by decide +kernel
theorem dX9_readText_22 : decode cX9_readText 22 = .ok (.if_icmp .ne 221, 3) := by decide +kernel
theorem dX9_readText_25 : decode cX9_readText 25 = .ok (.aload_n 0, 1) := by decide +kernel
theorem dX9_readText_26 : decode cX9_readText 26 = .ok (.getfield 78, 3) := by decide +kernel
theorem dX9_readText_29 : decode cX9_readText 29 = .ok (.aload_n 0, 1) := by decide +kernel
theorem dX9_readText_30 : decode cX9_readText 30 = .ok (.getfield 70, 3) := by decide +kernel
theorem dX9_readText_33 : decode cX9_readText 33 = .ok (.if_icmp .ge 210, 3) := by decide +kernel
theorem dX9_readText_36 : decode cX9_readText 36 = .ok (.aload_n 0, 1) := by decide +kernel
theorem dX9_readText_37 : decode cX9_readText 37 = .ok (.getfield 22, 3) := by decide +kernel
theorem dX9_readText_40 : decode cX9_readText 40 = .ok (.aload_n 0, 1) := by decide +kernel
theorem dX9_readText_41 : decode cX9_readText 41 = .ok (.getfield 78, 3) := by decide +kernel
theorem dX9_readText_44 : decode cX9_readText 44 = .ok (.iaload, 1) := by decide +kernel
theorem dX9_readText_45 : decode cX9_readText 45 = .ok (.istore_n 1, 1) := by decide +kernel
theorem dX9_readText_46 : decode cX9_readText 46 = .ok (.iload_n 1, 1) := by decide +kernel
theorem dX9_readText_47 : decode cX9_readText 47 = .ok (.bipush 80, 2) := by decide +kernel
theorem dX9_readText_49 : decode cX9_readText 49 = .ok (.if_icmp .eq 9, 3) := by decide +kernel
theorem dX9_readText_52 : decode cX9_readText 52 = .ok (.iload_n 1, 1) := by decide +kernel
theorem dX9_readText_53 : decode cX9_readText 53 = .ok (.bipush 70, 2) := by decide +kernel
theorem dX9_readText_55 : decode cX9_readText 55 = .ok (.if_icmp .ne 177, 3) := by decide +kernel
theorem dX9_readText_58 : decode cX9_readText 58 = .ok (.aload_n 0, 1) := by decide +kernel
theorem dX9_readText_59 : decode cX9_readText 59 = .ok (.getfield 83, 3) := by decide +kernel
theorem dX9_readText_62 : decode cX9_readText 62 = .ok (.bipush 12, 2) := by decide +kernel
theorem dX9_readText_64 : decode cX9_readText 64 = .ok (.if_icmp .ge 168, 3) := by decide +kernel
theorem dX9_readText_67 : decode cX9_readText 67 = .ok (.aload_n 0, 1) := by decide +kernel
theorem dX9_readText_68 : decode cX9_readText 68 = .ok (.dup, 1) := by decide +kernel
theorem dX9_readText_69 : decode cX9_readText 69 = .ok (.getfield 78, 3) := by decide +kernel
theorem dX9_readText_72 : decode cX9_readText 72 = .ok (.iconst 1, 1) := by decide +kernel
theorem dX9_readText_73 : decode cX9_readText 73 = .ok (.iadd, 1) := by decide +kernel
theorem dX9_readText_74 : decode cX9_readText 74 = .ok (.putfield 78, 3) := by decide +kernel
theorem dX9_readText_77 : decode cX9_readText 77 = .ok (.iconst 0, 1) := by decide +kernel
theorem dX9_readText_78 : decode cX9_readText 78 = .ok (.istore_n 2, 1) := by decide +kernel
theorem dX9_readText_79 : decode cX9_readText 79 = .ok (.iconst 0, 1) := by decide +kernel
theorem dX9_readText_80 : decode cX9_readText 80 = .ok (.istore_n 3, 1) := by decide +kernel
theorem dX9_readText_81 : decode cX9_readText 81 = .ok (.iload_n 3, 1) := by decide +kernel
theorem dX9_readText_82 : decode cX9_readText 82 = .ok (.iconst 4, 1) := by decide +kernel
theorem dX9_readText_83 : decode cX9_readText 83 = .ok (.if_icmp .ge 27, 3) := by decide +kernel
theorem dX9_readText_86 : decode cX9_readText 86 = .ok (.iload_n 2, 1) := by decide +kernel
theorem dX9_readText_87 : decode cX9_readText 87 = .ok (.aload_n 0, 1) := by decide +kernel
theorem dX9_readText_88 : decode cX9_readText 88 = .ok (.iload_n 3, 1) := by decide +kernel
theorem dX9_readText_89 : decode cX9_readText 89 = .ok (.invokevirtual 86, 3) := by decide +kernel
theorem dX9_readText_92 : decode cX9_readText 92 = .ok (.ifCond .eq 9, 3) := by decide +kernel
theorem dX9_readText_95 : decode cX9_readText 95 = .ok (.iconst 1, 1) := by decide +kernel
theorem dX9_readText_96 : decode cX9_readText 96 = .ok (.iload_n 3, 1) := by decide +kernel
theorem dX9_readText_97 : decode cX9_readText 97 = .ok (.ishl, 1) := by decide +kernel
theorem dX9_readText_98 : decode cX9_readText 98 = .ok (.goto 4, 3) := by decide +kernel
theorem dX9_readText_101 : decode cX9_readText 101 = .ok (.iconst 0, 1) := by decide +kernel
theorem dX9_readText_102 : decode cX9_readText 102 = .ok (.ior, 1) := by decide +kernel
theorem dX9_readText_103 : decode cX9_readText 103 = .ok (.istore_n 2, 1) := by decide +kernel
theorem dX9_readText_104 : decode cX9_readText 104 = .ok (.iinc 3 1, 3) := by decide +kernel
theorem dX9_readText_107 : decode cX9_readText 107 = .ok (.goto (-26), 3) := by decide +kernel
theorem dX9_readText_110 : decode cX9_readText 110 = .ok (.bipush 6, 2) := by decide +kernel
theorem dX9_readText_112 : decode cX9_readText 112 = .ok (.aload_n 0, 1) := by decide +kernel
theorem dX9_readText_113 : decode cX9_readText 113 = .ok (.getfield 83, 3) := by decide +kernel
theorem dX9_readText_116 : decode cX9_readText 116 = .ok (.imul, 1) := by decide +kernel
theorem dX9_readText_117 : decode cX9_readText 117 = .ok (.istore_n 3, 1) := by decide +kernel
theorem dX9_readText_118 : decode cX9_readText 118 = .ok (.aload_n 0, 1) := by decide +kernel
theorem dX9_readText_119 : decode cX9_readText 119 = .ok (.iload_n 2, 1) := by decide +kernel
theorem dX9_readText_120 : decode cX9_readText 120 = .ok (.invokevirtual 90, 3) := by decide +kernel
theorem dX9_readText_123 : decode cX9_readText 123 = .ok (.istore 4, 2) := by decide +kernel
theorem dX9_readText_125 : decode cX9_readText 125 = .ok (.aload_n 0, 1) := by decide +kernel
theorem dX9_readText_126 : decode cX9_readText 126 = .ok (.aload_n 0, 1) := by decide +kernel
theorem dX9_readText_127 : decode cX9_readText 127 = .ok (.iload 4, 2) := by decide +kernel
theorem dX9_readText_129 : decode cX9_readText 129 = .ok (.invokevirtual 86, 3) := by decide +kernel
theorem dX9_readText_132 : decode cX9_readText 132 = .ok (.invokevirtual 90, 3) := by decide +kernel
theorem dX9_readText_135 : decode cX9_readText 135 = .ok (.istore 5, 2) := by decide +kernel
theorem dX9_readText_137 : decode cX9_readText 137 = .ok (.aload_n 0, 1) := by decide +kernel
theorem dX9_readText_138 : decode cX9_readText 138 = .ok (.getfield 7, 3) := by decide +kernel
theorem dX9_readText_141 : decode cX9_readText 141 = .ok (.iload_n 3, 1) := by decide +kernel
theorem dX9_readText_142 : decode cX9_readText 142 = .ok (.iload 4, 2) := by decide +kernel
theorem dX9_readText_144 : decode cX9_readText 144 = .ok (.iastore, 1) := by decide +kernel
theorem dX9_readText_145 : decode cX9_readText 145 = .ok (.aload_n 0, 1) := by decide +kernel
theorem dX9_readText_146 : decode cX9_readText 146 = .ok (.getfield 7, 3) := by decide +kernel
theorem dX9_readText_149 : decode cX9_readText 149 = .ok (.iload_n 3, 1) := by decide +kernel
theorem dX9_readText_150 : decode cX9_readText 150 = .ok (.iconst 1, 1) := by decide +kernel
theorem dX9_readText_151 : decode cX9_readText 151 = .ok (.iadd, 1) := by decide +kernel
theorem dX9_readText_152 : decode cX9_readText 152 = .ok (.iload 5, 2) := by decide +kernel
theorem dX9_readText_154 : decode cX9_readText 154 = .ok (.iastore, 1) := by decide +kernel
theorem dX9_readText_155 : decode cX9_readText 155 = .ok (.aload_n 0, 1) := by decide +kernel
theorem dX9_readText_156 : decode cX9_readText 156 = .ok (.getfield 7, 3) := by decide +kernel
theorem dX9_readText_159 : decode cX9_readText 159 = .ok (.iload_n 3, 1) := by decide +kernel
theorem dX9_readText_160 : decode cX9_readText 160 = .ok (.iconst 2, 1) := by decide +kernel
theorem dX9_readText_161 : decode cX9_readText 161 = .ok (.iadd, 1) := by decide +kernel
theorem dX9_readText_162 : decode cX9_readText 162 = .ok (.aload_n 0, 1) := by decide +kernel
theorem dX9_readText_163 : decode cX9_readText 163 = .ok (.sipush 1023, 3) := by decide +kernel
theorem dX9_readText_166 : decode cX9_readText 166 = .ok (.invokevirtual 90, 3) := by decide +kernel
theorem dX9_readText_169 : decode cX9_readText 169 = .ok (.iastore, 1) := by decide +kernel
theorem dX9_readText_170 : decode cX9_readText 170 = .ok (.aload_n 0, 1) := by decide +kernel
theorem dX9_readText_171 : decode cX9_readText 171 = .ok (.getfield 7, 3) := by decide +kernel
theorem dX9_readText_174 : decode cX9_readText 174 = .ok (.iload_n 3, 1) := by decide +kernel
theorem dX9_readText_175 : decode cX9_readText 175 = .ok (.iconst 3, 1) := by decide +kernel
theorem dX9_readText_176 : decode cX9_readText 176 = .ok (.iadd, 1) := by decide +kernel
theorem dX9_readText_177 : decode cX9_readText 177 = .ok (.aload_n 0, 1) := by decide +kernel
theorem dX9_readText_178 : decode cX9_readText 178 = .ok (.sipush 1023, 3) := by decide +kernel
theorem dX9_readText_181 : decode cX9_readText 181 = .ok (.invokevirtual 90, 3) := by decide +kernel
theorem dX9_readText_184 : decode cX9_readText 184 = .ok (.iastore, 1) := by decide +kernel
theorem dX9_readText_185 : decode cX9_readText 185 = .ok (.aload_n 0, 1) := by decide +kernel
theorem dX9_readText_186 : decode cX9_readText 186 = .ok (.getfield 7, 3) := by decide +kernel
theorem dX9_readText_189 : decode cX9_readText 189 = .ok (.iload_n 3, 1) := by decide +kernel
theorem dX9_readText_190 : decode cX9_readText 190 = .ok (.iconst 4, 1) := by decide +kernel
theorem dX9_readText_191 : decode cX9_readText 191 = .ok (.iadd, 1) := by decide +kernel
theorem dX9_readText_192 : decode cX9_readText 192 = .ok (.aload_n 0, 1) := by decide +kernel
theorem dX9_readText_193 : decode cX9_readText 193 = .ok (.sipush 1023, 3) := by decide +kernel
theorem dX9_readText_196 : decode cX9_readText 196 = .ok (.invokevirtual 90, 3) := by decide +kernel
theorem dX9_readText_199 : decode cX9_readText 199 = .ok (.iastore, 1) := by decide +kernel
theorem dX9_readText_200 : decode cX9_readText 200 = .ok (.aload_n 0, 1) := by decide +kernel
theorem dX9_readText_201 : decode cX9_readText 201 = .ok (.getfield 7, 3) := by decide +kernel
theorem dX9_readText_204 : decode cX9_readText 204 = .ok (.iload_n 3, 1) := by decide +kernel
theorem dX9_readText_205 : decode cX9_readText 205 = .ok (.iconst 5, 1) := by decide +kernel
theorem dX9_readText_206 : decode cX9_readText 206 = .ok (.iadd, 1) := by decide +kernel
theorem dX9_readText_207 : decode cX9_readText 207 = .ok (.iload_n 1, 1) := by decide +kernel
theorem dX9_readText_208 : decode cX9_readText 208 = .ok (.bipush 70, 2) := by decide +kernel
theorem dX9_readText_210 : decode cX9_readText 210 = .ok (.if_icmp .ne 7, 3) := by decide +kernel
theorem dX9_readText_213 : decode cX9_readText 213 = .ok (.iconst 1, 1) := by decide +kernel
theorem dX9_readText_214 : decode cX9_readText 214 = .ok (.goto 4, 3) := by decide +kernel
theorem dX9_readText_217 : decode cX9_readText 217 = .ok (.iconst 0, 1) := by decide +kernel
theorem dX9_readText_218 : decode cX9_readText 218 = .ok (.iastore, 1) := by decide +kernel
theorem dX9_readText_219 : decode cX9_readText 219 = .ok (.aload_n 0, 1) := by decide +kernel
theorem dX9_readText_220 : decode cX9_readText 220 = .ok (.dup, 1) := by decide +kernel
theorem dX9_readText_221 : decode cX9_readText 221 = .ok (.getfield 83, 3) := by decide +kernel
theorem dX9_readText_224 : decode cX9_readText 224 = .ok (.iconst 1, 1) := by decide +kernel
theorem dX9_readText_225 : decode cX9_readText 225 = .ok (.iadd, 1) := by decide +kernel
theorem dX9_readText_226 : decode cX9_readText 226 = .ok (.putfield 83, 3) := by decide +kernel
theorem dX9_readText_229 : decode cX9_readText 229 = .ok (.goto 11, 3) := by decide +kernel
theorem dX9_readText_232 : decode cX9_readText 232 = .ok (.aload_n 0, 1) := by decide +kernel
theorem dX9_readText_233 : decode cX9_readText 233 = .ok (.aload_n 0, 1) := by decide +kernel
theorem dX9_readText_234 : decode cX9_readText 234 = .ok (.getfield 78, 3) := by decide +kernel
theorem dX9_readText_237 : decode cX9_readText 237 = .ok (.putfield 75, 3) := by decide +kernel
theorem dX9_readText_240 : decode cX9_readText 240 = .ok (.goto (-224), 3) := by decide +kernel
theorem dX9_readText_243 : decode cX9_readText 243 = .ok (.aload_n 0, 1) := by decide +kernel
theorem dX9_readText_244 : decode cX9_readText 244 = .ok (.getfield 75, 3) := by decide +kernel
theorem dX9_readText_247 : decode cX9_readText 247 = .ok (.ireturn, 1) := by decide +kernel
theorem dX9_fault_0 : decode cX9_fault 0 = .ok (.aload_n 0, 1) := by decide +kernel
theorem dX9_fault_1 : decode cX9_fault 1 = .ok (.invokevirtual 93, 3) := by decide +kernel
theorem dX9_fault_4 : decode cX9_fault 4 = .ok (.ireturn, 1) := by decide +kernel
theorem dX9_room_0 : decode cX9_room 0 = .ok (.aload_n 0, 1) := by decide +kernel
theorem dX9_room_1 : decode cX9_room 1 = .ok (.invokevirtual 93, 3) := by decide +kernel
theorem dX9_room_4 : decode cX9_room 4 = .ok (.bipush (-9), 2) := by decide +kernel
theorem dX9_room_6 : decode cX9_room 6 = .ok (.if_icmp .eq 6, 3) := by decide +kernel
theorem dX9_room_9 : decode cX9_room 9 = .ok (.bipush (-3), 2) := by decide +kernel
theorem dX9_room_11 : decode cX9_room 11 = .ok (.ireturn, 1) := by decide +kernel
theorem dX9_room_12 : decode cX9_room 12 = .ok (.iconst 0, 1) := by decide +kernel
theorem dX9_room_13 : decode cX9_room 13 = .ok (.istore_n 1, 1) := by decide +kernel
theorem dX9_room_14 : decode cX9_room 14 = .ok (.iload_n 1, 1) := by decide +kernel
theorem dX9_room_15 : decode cX9_room 15 = .ok (.bipush 72, 2) := by decide +kernel
theorem dX9_room_17 : decode cX9_room 17 = .ok (.if_icmp .ge 21, 3) := by decide +kernel
theorem dX9_room_20 : decode cX9_room 20 = .ok (.aload_n 0, 1) := by decide +kernel
theorem dX9_room_21 : decode cX9_room 21 = .ok (.getfield 13, 3) := by decide +kernel
theorem dX9_room_24 : decode cX9_room 24 = .ok (.iload_n 1, 1) := by decide +kernel
theorem dX9_room_25 : decode cX9_room 25 = .ok (.aload_n 0, 1) := by decide +kernel
theorem dX9_room_26 : decode cX9_room 26 = .ok (.getfield 7, 3) := by decide +kernel
theorem dX9_room_29 : decode cX9_room 29 = .ok (.iload_n 1, 1) := by decide +kernel
theorem dX9_room_30 : decode cX9_room 30 = .ok (.iaload, 1) := by decide +kernel
theorem dX9_room_31 : decode cX9_room 31 = .ok (.iastore, 1) := by decide +kernel
theorem dX9_room_32 : decode cX9_room 32 = .ok (.iinc 1 1, 3) := by decide +kernel
theorem dX9_room_35 : decode cX9_room 35 = .ok (.goto (-21), 3) := by decide +kernel
theorem dX9_room_38 : decode cX9_room 38 = .ok (.aload_n 0, 1) := by decide +kernel
theorem dX9_room_39 : decode cX9_room 39 = .ok (.aload_n 0, 1) := by decide +kernel
theorem dX9_room_40 : decode cX9_room 40 = .ok (.getfield 83, 3) := by decide +kernel
theorem dX9_room_43 : decode cX9_room 43 = .ok (.putfield 97, 3) := by decide +kernel
theorem dX9_room_46 : decode cX9_room 46 = .ok (.iconst 0, 1) := by decide +kernel
theorem dX9_room_47 : decode cX9_room 47 = .ok (.istore_n 1, 1) := by decide +kernel
theorem dX9_room_48 : decode cX9_room 48 = .ok (.iload_n 1, 1) := by decide +kernel
theorem dX9_room_49 : decode cX9_room 49 = .ok (.bipush 12, 2) := by decide +kernel
theorem dX9_room_51 : decode cX9_room 51 = .ok (.if_icmp .ge 33, 3) := by decide +kernel
theorem dX9_room_54 : decode cX9_room 54 = .ok (.aload_n 0, 1) := by decide +kernel
theorem dX9_room_55 : decode cX9_room 55 = .ok (.getfield 16, 3) := by decide +kernel
theorem dX9_room_58 : decode cX9_room 58 = .ok (.iload_n 1, 1) := by decide +kernel
theorem dX9_room_59 : decode cX9_room 59 = .ok (.aload_n 0, 1) := by decide +kernel
theorem dX9_room_60 : decode cX9_room 60 = .ok (.getfield 13, 3) := by decide +kernel
theorem dX9_room_63 : decode cX9_room 63 = .ok (.bipush 6, 2) := by decide +kernel
theorem dX9_room_65 : decode cX9_room 65 = .ok (.iload_n 1, 1) := by decide +kernel
theorem dX9_room_66 : decode cX9_room 66 = .ok (.imul, 1) := by decide +kernel
theorem dX9_room_67 : decode cX9_room 67 = .ok (.iconst 4, 1) := by decide +kernel
theorem dX9_room_68 : decode cX9_room 68 = .ok (.iadd, 1) := by decide +kernel
theorem dX9_room_69 : decode cX9_room 69 = .ok (.iaload, 1) := by decide +kernel
theorem dX9_room_70 : decode cX9_room 70 = .ok (.iastore, 1) := by decide +kernel
theorem dX9_room_71 : decode cX9_room 71 = .ok (.aload_n 0, 1) := by decide +kernel
theorem dX9_room_72 : decode cX9_room 72 = .ok (.getfield 19, 3) := by decide +kernel
theorem dX9_room_75 : decode cX9_room 75 = .ok (.iload_n 1, 1) := by decide +kernel
theorem dX9_room_76 : decode cX9_room 76 = .ok (.iconst 0, 1) := by decide +kernel
theorem dX9_room_77 : decode cX9_room 77 = .ok (.iastore, 1) := by decide +kernel
theorem dX9_room_78 : decode cX9_room 78 = .ok (.iinc 1 1, 3) := by decide +kernel
theorem dX9_room_81 : decode cX9_room 81 = .ok (.goto (-33), 3) := by decide +kernel
theorem dX9_room_84 : decode cX9_room 84 = .ok (.aload_n 0, 1) := by decide +kernel
theorem dX9_room_85 : decode cX9_room 85 = .ok (.lconst 0, 1) := by decide +kernel
theorem dX9_room_86 : decode cX9_room 86 = .ok (.putfield 100, 3) := by decide +kernel
theorem dX9_room_89 : decode cX9_room 89 = .ok (.aload_n 0, 1) := by decide +kernel
theorem dX9_room_90 : decode cX9_room 90 = .ok (.iconst 0, 1) := by decide +kernel
theorem dX9_room_91 : decode cX9_room 91 = .ok (.putfield 104, 3) := by decide +kernel
theorem dX9_room_94 : decode cX9_room 94 = .ok (.aload_n 0, 1) := by decide +kernel
theorem dX9_room_95 : decode cX9_room 95 = .ok (.iconst 0, 1) := by decide +kernel
theorem dX9_room_96 : decode cX9_room 96 = .ok (.putfield 107, 3) := by decide +kernel
theorem dX9_room_99 : decode cX9_room 99 = .ok (.aload_n 0, 1) := by decide +kernel
theorem dX9_room_100 : decode cX9_room 100 = .ok (.iconst 0, 1) := by decide +kernel
theorem dX9_room_101 : decode cX9_room 101 = .ok (.putfield 110, 3) := by decide +kernel
theorem dX9_room_104 : decode cX9_room 104 = .ok (.aload_n 0, 1) := by decide +kernel
theorem dX9_room_105 : decode cX9_room 105 = .ok (.getfield 45, 3) := by decide +kernel
theorem dX9_room_108 : decode cX9_room 108 = .ok (.iconst 0, 1) := by decide +kernel
theorem dX9_room_109 : decode cX9_room 109 = .ok (.iconst 0, 1) := by decide +kernel
theorem dX9_room_110 : decode cX9_room 110 = .ok (.bastore, 1) := by decide +kernel
theorem dX9_room_111 : decode cX9_room 111 = .ok (.aload_n 0, 1) := by decide +kernel
theorem dX9_room_112 : decode cX9_room 112 = .ok (.getfield 45, 3) := by decide +kernel
theorem dX9_room_115 : decode cX9_room 115 = .ok (.iconst 1, 1) := by decide +kernel
theorem dX9_room_116 : decode cX9_room 116 = .ok (.iconst 0, 1) := by decide +kernel
theorem dX9_room_117 : decode cX9_room 117 = .ok (.bastore, 1) := by decide +kernel
theorem dX9_room_118 : decode cX9_room 118 = .ok (.aload_n 0, 1) := by decide +kernel
theorem dX9_room_119 : decode cX9_room 119 = .ok (.getfield 97, 3) := by decide +kernel
theorem dX9_room_122 : decode cX9_room 122 = .ok (.ireturn, 1) := by decide +kernel
theorem dX9_isPupil_0 : decode cX9_isPupil 0 = .ok (.iload_n 1, 1) := by decide +kernel
theorem dX9_isPupil_1 : decode cX9_isPupil 1 = .ok (.i2l, 1) := by decide +kernel
theorem dX9_isPupil_2 : decode cX9_isPupil 2 = .ok (.lconst 0, 1) := by decide +kernel
theorem dX9_isPupil_3 : decode cX9_isPupil 3 = .ok (.aload_n 0, 1) := by decide +kernel
theorem dX9_isPupil_4 : decode cX9_isPupil 4 = .ok (.getfield 97, 3) := by decide +kernel
theorem dX9_isPupil_7 : decode cX9_isPupil 7 = .ok (.iconst 1, 1) := by decide +kernel
theorem dX9_isPupil_8 : decode cX9_isPupil 8 = .ok (.isub, 1) := by decide +kernel
theorem dX9_isPupil_9 : decode cX9_isPupil 9 = .ok (.i2l, 1) := by decide +kernel
theorem dX9_isPupil_10 : decode cX9_isPupil 10 = .ok (.invokestatic 66, 3) := by decide +kernel
theorem dX9_isPupil_13 : decode cX9_isPupil 13 = .ok (.ireturn, 1) := by decide +kernel
theorem dX9_isWait_0 : decode cX9_isWait 0 = .ok (.iload_n 0, 1) := by decide +kernel
theorem dX9_isWait_1 : decode cX9_isWait 1 = .ok (.i2l, 1) := by decide +kernel
theorem dX9_isWait_2 : decode cX9_isWait 2 = .ok (.lconst 0, 1) := by decide +kernel
theorem dX9_isWait_3 : decode cX9_isWait 3 = .ok (.ldc2_w 81, 3) := by decide +kernel
theorem dX9_isWait_6 : decode cX9_isWait 6 = .ok (.invokestatic 66, 3) := by decide +kernel
theorem dX9_isWait_9 : decode cX9_isWait 9 = .ok (.ireturn, 1) := by decide +kernel
theorem dX9_isRule_0 : decode cX9_isRule 0 = .ok (.iload_n 0, 1) := by decide +kernel
theorem dX9_isRule_1 : decode cX9_isRule 1 = .ok (.i2l, 1) := by decide +kernel
theorem dX9_isRule_2 : decode cX9_isRule 2 = .ok (.lconst 0, 1) := by decide +kernel
theorem dX9_isRule_3 : decode cX9_isRule 3 = .ok (.ldc2_w 113, 3) := by decide +kernel
theorem dX9_isRule_6 : decode cX9_isRule 6 = .ok (.invokestatic 66, 3) := by decide +kernel
theorem dX9_isRule_9 : decode cX9_isRule 9 = .ok (.ireturn, 1) := by decide +kernel
theorem dX9_about_0 : decode cX9_about 0 = .ok (.aload_n 0, 1) := by decide +kernel
theorem dX9_about_1 : decode cX9_about 1 = .ok (.iload_n 1, 1) := by decide +kernel
theorem dX9_about_2 : decode cX9_about 2 = .ok (.invokevirtual 115, 3) := by decide +kernel
theorem dX9_about_5 : decode cX9_about 5 = .ok (.ifCond .ne 5, 3) := by decide +kernel
theorem dX9_about_8 : decode cX9_about 8 = .ok (.iconst (-1), 1) := by decide +kernel
theorem dX9_about_9 : decode cX9_about 9 = .ok (.ireturn, 1) := by decide +kernel
theorem dX9_about_10 : decode cX9_about 10 = .ok (.iload_n 2, 1) := by decide +kernel
theorem dX9_about_11 : decode cX9_about 11 = .ok (.i2l, 1) := by decide +kernel
theorem dX9_about_12 : decode cX9_about 12 = .ok (.lconst 0, 1) := by decide +kernel
theorem dX9_about_13 : decode cX9_about 13 = .ok (.ldc2_w 119, 3) := by decide +kernel
theorem dX9_about_16 : decode cX9_about 16 = .ok (.invokestatic 66, 3) := by decide +kernel
theorem dX9_about_19 : decode cX9_about 19 = .ok (.ifCond .ne 6, 3) := by decide +kernel
theorem dX9_about_22 : decode cX9_about 22 = .ok (.bipush (-2), 2) := by decide +kernel
theorem dX9_about_24 : decode cX9_about 24 = .ok (.ireturn, 1) := by decide +kernel
theorem dX9_about_25 : decode cX9_about 25 = .ok (.iload_n 2, 1) := by decide +kernel
theorem dX9_about_26 : decode cX9_about 26 = .ok (.bipush 6, 2) := by decide +kernel
theorem dX9_about_28 : decode cX9_about 28 = .ok (.if_icmp .ge 17, 3) := by decide +kernel
theorem dX9_about_31 : decode cX9_about 31 = .ok (.aload_n 0, 1) := by decide +kernel
theorem dX9_about_32 : decode cX9_about 32 = .ok (.getfield 13, 3) := by decide +kernel
theorem dX9_about_35 : decode cX9_about 35 = .ok (.bipush 6, 2) := by decide +kernel
theorem dX9_about_37 : decode cX9_about 37 = .ok (.iload_n 1, 1) := by decide +kernel
theorem dX9_about_38 : decode cX9_about 38 = .ok (.imul, 1) := by decide +kernel
theorem dX9_about_39 : decode cX9_about 39 = .ok (.iload_n 2, 1) := by decide +kernel
theorem dX9_about_40 : decode cX9_about 40 = .ok (.iadd, 1) := by decide +kernel
theorem dX9_about_41 : decode cX9_about 41 = .ok (.iaload, 1) := by decide +kernel
theorem dX9_about_42 : decode cX9_about 42 = .ok (.goto 24, 3) := by decide +kernel
theorem dX9_about_45 : decode cX9_about 45 = .ok (.iload_n 2, 1) := by decide +kernel
theorem dX9_about_46 : decode cX9_about 46 = .ok (.bipush 6, 2) := by decide +kernel
theorem dX9_about_48 : decode cX9_about 48 = .ok (.if_icmp .ne 12, 3) := by decide +kernel
theorem dX9_about_51 : decode cX9_about 51 = .ok (.aload_n 0, 1) := by decide +kernel
theorem dX9_about_52 : decode cX9_about 52 = .ok (.getfield 16, 3) := by decide +kernel
theorem dX9_about_55 : decode cX9_about 55 = .ok (.iload_n 1, 1) := by decide +kernel
theorem dX9_about_56 : decode cX9_about 56 = .ok (.iaload, 1) := by decide +kernel
theorem dX9_about_57 : decode cX9_about 57 = .ok (.goto 9, 3) := by decide +kernel
theorem dX9_about_60 : decode cX9_about 60 = .ok (.aload_n 0, 1) := by decide +kernel
theorem dX9_about_61 : decode cX9_about 61 = .ok (.getfield 19, 3) := by decide +kernel
theorem dX9_about_64 : decode cX9_about 64 = .ok (.iload_n 1, 1) := by decide +kernel
theorem dX9_about_65 : decode cX9_about 65 = .ok (.iaload, 1) := by decide +kernel
theorem dX9_about_66 : decode cX9_about 66 = .ok (.ireturn, 1) := by decide +kernel
theorem dX9_mood_0 : decode cX9_mood 0 = .ok (.iload_n 1, 1) := by decide +kernel
theorem dX9_mood_1 : decode cX9_mood 1 = .ok (.i2l, 1) := by decide +kernel
theorem dX9_mood_2 : decode cX9_mood 2 = .ok (.lconst 0, 1) := by decide +kernel
theorem dX9_mood_3 : decode cX9_mood 3 = .ok (.ldc2_w 81, 3) := by decide +kernel
theorem dX9_mood_6 : decode cX9_mood 6 = .ok (.invokestatic 66, 3) := by decide +kernel
theorem dX9_mood_9 : decode cX9_mood 9 = .ok (.ifCond .ne 6, 3) := by decide +kernel
theorem dX9_mood_12 : decode cX9_mood 12 = .ok (.bipush (-2), 2) := by decide +kernel
theorem dX9_mood_14 : decode cX9_mood 14 = .ok (.ireturn, 1) := by decide +kernel
theorem dX9_mood_15 : decode cX9_mood 15 = .ok (.aload_n 0, 1) := by decide +kernel
theorem dX9_mood_16 : decode cX9_mood 16 = .ok (.getfield 60, 3) := by decide +kernel
theorem dX9_mood_19 : decode cX9_mood 19 = .ok (.istore_n 2, 1) := by decide +kernel
theorem dX9_mood_20 : decode cX9_mood 20 = .ok (.aload_n 0, 1) := by decide +kernel
theorem dX9_mood_21 : decode cX9_mood 21 = .ok (.iload_n 1, 1) := by decide +kernel
theorem dX9_mood_22 : decode cX9_mood 22 = .ok (.putfield 60, 3) := by decide +kernel
theorem dX9_mood_25 : decode cX9_mood 25 = .ok (.iload_n 2, 1) := by decide +kernel
theorem dX9_mood_26 : decode cX9_mood 26 = .ok (.ireturn, 1) := by decide +kernel
theorem dX9_upOf_0 : decode cX9_upOf 0 = .ok (.aload_n 0, 1) := by decide +kernel
theorem dX9_upOf_1 : decode cX9_upOf 1 = .ok (.getfield 13, 3) := by decide +kernel
theorem dX9_upOf_4 : decode cX9_upOf 4 = .ok (.bipush 6, 2) := by decide +kernel
theorem dX9_upOf_6 : decode cX9_upOf 6 = .ok (.iload_n 1, 1) := by decide +kernel
theorem dX9_upOf_7 : decode cX9_upOf 7 = .ok (.imul, 1) := by decide +kernel
theorem dX9_upOf_8 : decode cX9_upOf 8 = .ok (.iconst 5, 1) := by decide +kernel
theorem dX9_upOf_9 : decode cX9_upOf 9 = .ok (.iadd, 1) := by decide +kernel
theorem dX9_upOf_10 : decode cX9_upOf 10 = .ok (.iaload, 1) := by decide +kernel
theorem dX9_upOf_11 : decode cX9_upOf 11 = .ok (.iconst 1, 1) := by decide +kernel
theorem dX9_upOf_12 : decode cX9_upOf 12 = .ok (.if_icmp .ne 7, 3) := by decide +kernel
theorem dX9_upOf_15 : decode cX9_upOf 15 = .ok (.iconst 1, 1) := by decide +kernel
theorem dX9_upOf_16 : decode cX9_upOf 16 = .ok (.goto 4, 3) := by decide +kernel
theorem dX9_upOf_19 : decode cX9_upOf 19 = .ok (.iconst 0, 1) := by decide +kernel
theorem dX9_upOf_20 : decode cX9_upOf 20 = .ok (.istore_n 3, 1) := by decide +kernel
theorem dX9_upOf_21 : decode cX9_upOf 21 = .ok (.aload_n 0, 1) := by decide +kernel
theorem dX9_upOf_22 : decode cX9_upOf 22 = .ok (.getfield 16, 3) := by decide +kernel
theorem dX9_upOf_25 : decode cX9_upOf 25 = .ok (.iload_n 1, 1) := by decide +kernel
theorem dX9_upOf_26 : decode cX9_upOf 26 = .ok (.iaload, 1) := by decide +kernel
theorem dX9_upOf_27 : decode cX9_upOf 27 = .ok (.aload_n 0, 1) := by decide +kernel
theorem dX9_upOf_28 : decode cX9_upOf 28 = .ok (.getfield 60, 3) := by decide +kernel
theorem dX9_upOf_31 : decode cX9_upOf 31 = .ok (.if_icmp .lt 26, 3) := by decide +kernel
theorem dX9_upOf_34 : decode cX9_upOf 34 = .ok (.iload_n 3, 1) := by decide +kernel
theorem dX9_upOf_35 : decode cX9_upOf 35 = .ok (.ifCond .ne 18, 3) := by decide +kernel
theorem dX9_upOf_38 : decode cX9_upOf 38 = .ok (.aload_n 0, 1) := by decide +kernel
theorem dX9_upOf_39 : decode cX9_upOf 39 = .ok (.getfield 13, 3) := by decide +kernel
theorem dX9_upOf_42 : decode cX9_upOf 42 = .ok (.bipush 6, 2) := by decide +kernel
theorem dX9_upOf_44 : decode cX9_upOf 44 = .ok (.iload_n 1, 1) := by decide +kernel
theorem dX9_upOf_45 : decode cX9_upOf 45 = .ok (.imul, 1) := by decide +kernel
theorem dX9_upOf_46 : decode cX9_upOf 46 = .ok (.iconst 3, 1) := by decide +kernel
theorem dX9_upOf_47 : decode cX9_upOf 47 = .ok (.iadd, 1) := by decide +kernel
theorem dX9_upOf_48 : decode cX9_upOf 48 = .ok (.iaload, 1) := by decide +kernel
theorem dX9_upOf_49 : decode cX9_upOf 49 = .ok (.iload_n 2, 1) := by decide +kernel
theorem dX9_upOf_50 : decode cX9_upOf 50 = .ok (.if_icmp .gt 7, 3) := by decide +kernel
theorem dX9_upOf_53 : decode cX9_upOf 53 = .ok (.iconst 1, 1) := by decide +kernel
theorem dX9_upOf_54 : decode cX9_upOf 54 = .ok (.goto 4, 3) := by decide +kernel
theorem dX9_upOf_57 : decode cX9_upOf 57 = .ok (.iconst 0, 1) := by decide +kernel
theorem dX9_upOf_58 : decode cX9_upOf 58 = .ok (.istore 4, 2) := by decide +kernel
theorem dX9_upOf_60 : decode cX9_upOf 60 = .ok (.iload 4, 2) := by decide +kernel
theorem dX9_upOf_62 : decode cX9_upOf 62 = .ok (.ifCond .ne 7, 3) := by decide +kernel
theorem dX9_upOf_65 : decode cX9_upOf 65 = .ok (.iconst 0, 1) := by decide +kernel
theorem dX9_upOf_66 : decode cX9_upOf 66 = .ok (.goto 23, 3) := by decide +kernel
theorem dX9_upOf_69 : decode cX9_upOf 69 = .ok (.iload_n 3, 1) := by decide +kernel
theorem dX9_upOf_70 : decode cX9_upOf 70 = .ok (.ifCond .eq 8, 3) := by decide +kernel
theorem dX9_upOf_73 : decode cX9_upOf 73 = .ok (.bipush 10, 2) := by decide +kernel
theorem dX9_upOf_75 : decode cX9_upOf 75 = .ok (.goto 14, 3) := by decide +kernel
theorem dX9_upOf_78 : decode cX9_upOf 78 = .ok (.aload_n 0, 1) := by decide +kernel
theorem dX9_upOf_79 : decode cX9_upOf 79 = .ok (.getfield 13, 3) := by decide +kernel
theorem dX9_upOf_82 : decode cX9_upOf 82 = .ok (.bipush 6, 2) := by decide +kernel
theorem dX9_upOf_84 : decode cX9_upOf 84 = .ok (.iload_n 1, 1) := by decide +kernel
theorem dX9_upOf_85 : decode cX9_upOf 85 = .ok (.imul, 1) := by decide +kernel
theorem dX9_upOf_86 : decode cX9_upOf 86 = .ok (.iconst 2, 1) := by decide +kernel
theorem dX9_upOf_87 : decode cX9_upOf 87 = .ok (.iadd, 1) := by decide +kernel
theorem dX9_upOf_88 : decode cX9_upOf 88 = .ok (.iaload, 1) := by decide +kernel
theorem dX9_upOf_89 : decode cX9_upOf 89 = .ok (.ireturn, 1) := by decide +kernel
theorem dX9_up_0 : decode cX9_up 0 = .ok (.aload_n 0, 1) := by decide +kernel
theorem dX9_up_1 : decode cX9_up 1 = .ok (.iload_n 1, 1) := by decide +kernel
theorem dX9_up_2 : decode cX9_up 2 = .ok (.invokevirtual 115, 3) := by decide +kernel
theorem dX9_up_5 : decode cX9_up 5 = .ok (.ifCond .ne 5, 3) := by decide +kernel
theorem dX9_up_8 : decode cX9_up 8 = .ok (.iconst (-1), 1) := by decide +kernel
theorem dX9_up_9 : decode cX9_up 9 = .ok (.ireturn, 1) := by decide +kernel
theorem dX9_up_10 : decode cX9_up 10 = .ok (.iload_n 2, 1) := by decide +kernel
theorem dX9_up_11 : decode cX9_up 11 = .ok (.invokestatic 121, 3) := by decide +kernel
theorem dX9_up_14 : decode cX9_up 14 = .ok (.ifCond .eq 12, 3) := by decide +kernel
theorem dX9_up_17 : decode cX9_up 17 = .ok (.aload_n 0, 1) := by decide +kernel
theorem dX9_up_18 : decode cX9_up 18 = .ok (.iload_n 1, 1) := by decide +kernel
theorem dX9_up_19 : decode cX9_up 19 = .ok (.iload_n 2, 1) := by decide +kernel
theorem dX9_up_20 : decode cX9_up 20 = .ok (.invokevirtual 124, 3) := by decide +kernel
theorem dX9_up_23 : decode cX9_up 23 = .ok (.goto 5, 3) := by decide +kernel
theorem dX9_up_26 : decode cX9_up 26 = .ok (.bipush (-2), 2) := by decide +kernel
theorem dX9_up_28 : decode cX9_up 28 = .ok (.ireturn, 1) := by decide +kernel
theorem dX9_meanOf_0 : decode cX9_meanOf 0 = .ok (.iconst 0, 1) := by decide +kernel
theorem dX9_meanOf_1 : decode cX9_meanOf 1 = .ok (.istore_n 2, 1) := by decide +kernel
theorem dX9_meanOf_2 : decode cX9_meanOf 2 = .ok (.iconst 0, 1) := by decide +kernel
theorem dX9_meanOf_3 : decode cX9_meanOf 3 = .ok (.istore_n 3, 1) := by decide +kernel
theorem dX9_meanOf_4 : decode cX9_meanOf 4 = .ok (.iload_n 3, 1) := by decide +kernel
theorem dX9_meanOf_5 : decode cX9_meanOf 5 = .ok (.aload_n 0, 1) := by decide +kernel
theorem dX9_meanOf_6 : decode cX9_meanOf 6 = .ok (.getfield 97, 3) := by decide +kernel
theorem dX9_meanOf_9 : decode cX9_meanOf 9 = .ok (.if_icmp .ge 18, 3) := by decide +kernel
theorem dX9_meanOf_12 : decode cX9_meanOf 12 = .ok (.iload_n 2, 1) := by decide +kernel
theorem dX9_meanOf_13 : decode cX9_meanOf 13 = .ok (.aload_n 0, 1) := by decide +kernel
theorem dX9_meanOf_14 : decode cX9_meanOf 14 = .ok (.iload_n 3, 1) := by decide +kernel
theorem dX9_meanOf_15 : decode cX9_meanOf 15 = .ok (.iload_n 1, 1) := by decide +kernel
theorem dX9_meanOf_16 : decode cX9_meanOf 16 = .ok (.invokevirtual 124, 3) := by decide +kernel
theorem dX9_meanOf_19 : decode cX9_meanOf 19 = .ok (.iadd, 1) := by decide +kernel
theorem dX9_meanOf_20 : decode cX9_meanOf 20 = .ok (.istore_n 2, 1) := by decide +kernel
theorem dX9_meanOf_21 : decode cX9_meanOf 21 = .ok (.iinc 3 1, 3) := by decide +kernel
theorem dX9_meanOf_24 : decode cX9_meanOf 24 = .ok (.goto (-20), 3) := by decide +kernel
theorem dX9_meanOf_27 : decode cX9_meanOf 27 = .ok (.iload_n 2, 1) := by decide +kernel
theorem dX9_meanOf_28 : decode cX9_meanOf 28 = .ok (.ireturn, 1) := by decide +kernel
theorem dX9_mean_0 : decode cX9_mean 0 = .ok (.iload_n 1, 1) := by decide +kernel
theorem dX9_mean_1 : decode cX9_mean 1 = .ok (.invokestatic 121, 3) := by decide +kernel
theorem dX9_mean_4 : decode cX9_mean 4 = .ok (.ifCond .eq 11, 3) := by decide +kernel
theorem dX9_mean_7 : decode cX9_mean 7 = .ok (.aload_n 0, 1) := by decide +kernel
theorem dX9_mean_8 : decode cX9_mean 8 = .ok (.iload_n 1, 1) := by decide +kernel
theorem dX9_mean_9 : decode cX9_mean 9 = .ok (.invokevirtual 128, 3) := by decide +kernel
theorem dX9_mean_12 : decode cX9_mean 12 = .ok (.goto 5, 3) := by decide +kernel
theorem dX9_mean_15 : decode cX9_mean 15 = .ok (.bipush (-2), 2) := by decide +kernel
theorem dX9_mean_17 : decode cX9_mean 17 = .ok (.ireturn, 1) := by decide +kernel
theorem dX9_quiet_0 : decode cX9_quiet 0 = .ok (.iload_n 1, 1) := by decide +kernel
theorem dX9_quiet_1 : decode cX9_quiet 1 = .ok (.invokestatic 121, 3) := by decide +kernel
theorem dX9_quiet_4 : decode cX9_quiet 4 = .ok (.ifCond .ne 6, 3) := by decide +kernel
theorem dX9_quiet_7 : decode cX9_quiet 7 = .ok (.bipush (-2), 2) := by decide +kernel
theorem dX9_quiet_9 : decode cX9_quiet 9 = .ok (.ireturn, 1) := by decide +kernel
theorem dX9_quiet_10 : decode cX9_quiet 10 = .ok (.iconst 0, 1) := by decide +kernel
theorem dX9_quiet_11 : decode cX9_quiet 11 = .ok (.istore_n 2, 1) := by decide +kernel
theorem dX9_quiet_12 : decode cX9_quiet 12 = .ok (.iconst 0, 1) := by decide +kernel
theorem dX9_quiet_13 : decode cX9_quiet 13 = .ok (.istore_n 3, 1) := by decide +kernel
theorem dX9_quiet_14 : decode cX9_quiet 14 = .ok (.iload_n 3, 1) := by decide +kernel
theorem dX9_quiet_15 : decode cX9_quiet 15 = .ok (.aload_n 0, 1) := by decide +kernel
theorem dX9_quiet_16 : decode cX9_quiet 16 = .ok (.getfield 97, 3) := by decide +kernel
theorem dX9_quiet_19 : decode cX9_quiet 19 = .ok (.if_icmp .ge 82, 3) := by decide +kernel
theorem dX9_quiet_22 : decode cX9_quiet 22 = .ok (.aload_n 0, 1) := by decide +kernel
theorem dX9_quiet_23 : decode cX9_quiet 23 = .ok (.getfield 16, 3) := by decide +kernel
theorem dX9_quiet_26 : decode cX9_quiet 26 = .ok (.iload_n 3, 1) := by decide +kernel
theorem dX9_quiet_27 : decode cX9_quiet 27 = .ok (.iaload, 1) := by decide +kernel
theorem dX9_quiet_28 : decode cX9_quiet 28 = .ok (.aload_n 0, 1) := by decide +kernel
theorem dX9_quiet_29 : decode cX9_quiet 29 = .ok (.getfield 60, 3) := by decide +kernel
theorem dX9_quiet_32 : decode cX9_quiet 32 = .ok (.if_icmp .lt 37, 3) := by decide +kernel
theorem dX9_quiet_35 : decode cX9_quiet 35 = .ok (.aload_n 0, 1) := by decide +kernel
theorem dX9_quiet_36 : decode cX9_quiet 36 = .ok (.getfield 13, 3) := by decide +kernel
theorem dX9_quiet_39 : decode cX9_quiet 39 = .ok (.bipush 6, 2) := by decide +kernel
theorem dX9_quiet_41 : decode cX9_quiet 41 = .ok (.iload_n 3, 1) := by decide +kernel
theorem dX9_quiet_42 : decode cX9_quiet 42 = .ok (.imul, 1) := by decide +kernel
theorem dX9_quiet_43 : decode cX9_quiet 43 = .ok (.iconst 5, 1) := by decide +kernel
theorem dX9_quiet_44 : decode cX9_quiet 44 = .ok (.iadd, 1) := by decide +kernel
theorem dX9_quiet_45 : decode cX9_quiet 45 = .ok (.iaload, 1) := by decide +kernel
theorem dX9_quiet_46 : decode cX9_quiet 46 = .ok (.iconst 1, 1) := by decide +kernel
theorem dX9_quiet_47 : decode cX9_quiet 47 = .ok (.if_icmp .eq 18, 3) := by decide +kernel
theorem dX9_quiet_50 : decode cX9_quiet 50 = .ok (.aload_n 0, 1) := by decide +kernel
theorem dX9_quiet_51 : decode cX9_quiet 51 = .ok (.getfield 13, 3) := by decide +kernel
theorem dX9_quiet_54 : decode cX9_quiet 54 = .ok (.bipush 6, 2) := by decide +kernel
theorem dX9_quiet_56 : decode cX9_quiet 56 = .ok (.iload_n 3, 1) := by decide +kernel
theorem dX9_quiet_57 : decode cX9_quiet 57 = .ok (.imul, 1) := by decide +kernel
theorem dX9_quiet_58 : decode cX9_quiet 58 = .ok (.iconst 3, 1) := by decide +kernel
theorem dX9_quiet_59 : decode cX9_quiet 59 = .ok (.iadd, 1) := by decide +kernel
theorem dX9_quiet_60 : decode cX9_quiet 60 = .ok (.iaload, 1) := by decide +kernel
theorem dX9_quiet_61 : decode cX9_quiet 61 = .ok (.iload_n 1, 1) := by decide +kernel
theorem dX9_quiet_62 : decode cX9_quiet 62 = .ok (.if_icmp .gt 7, 3) := by decide +kernel
theorem dX9_quiet_65 : decode cX9_quiet 65 = .ok (.iconst 1, 1) := by decide +kernel
theorem dX9_quiet_66 : decode cX9_quiet 66 = .ok (.goto 4, 3) := by decide +kernel
theorem dX9_quiet_69 : decode cX9_quiet 69 = .ok (.iconst 0, 1) := by decide +kernel
theorem dX9_quiet_70 : decode cX9_quiet 70 = .ok (.istore 4, 2) := by decide +kernel
theorem dX9_quiet_72 : decode cX9_quiet 72 = .ok (.iload_n 2, 1) := by decide +kernel
theorem dX9_quiet_73 : decode cX9_quiet 73 = .ok (.iload 4, 2) := by decide +kernel
theorem dX9_quiet_75 : decode cX9_quiet 75 = .ok (.ifCond .eq 7, 3) := by decide +kernel
theorem dX9_quiet_78 : decode cX9_quiet 78 = .ok (.iconst 0, 1) := by decide +kernel
theorem dX9_quiet_79 : decode cX9_quiet 79 = .ok (.goto 14, 3) := by decide +kernel
theorem dX9_quiet_82 : decode cX9_quiet 82 = .ok (.aload_n 0, 1) := by decide +kernel
theorem dX9_quiet_83 : decode cX9_quiet 83 = .ok (.getfield 13, 3) := by decide +kernel
theorem dX9_quiet_86 : decode cX9_quiet 86 = .ok (.bipush 6, 2) := by decide +kernel
theorem dX9_quiet_88 : decode cX9_quiet 88 = .ok (.iload_n 3, 1) := by decide +kernel
theorem dX9_quiet_89 : decode cX9_quiet 89 = .ok (.imul, 1) := by decide +kernel
theorem dX9_quiet_90 : decode cX9_quiet 90 = .ok (.iconst 2, 1) := by decide +kernel
theorem dX9_quiet_91 : decode cX9_quiet 91 = .ok (.iadd, 1) := by decide +kernel
theorem dX9_quiet_92 : decode cX9_quiet 92 = .ok (.iaload, 1) := by decide +kernel
theorem dX9_quiet_93 : decode cX9_quiet 93 = .ok (.iadd, 1) := by decide +kernel
theorem dX9_quiet_94 : decode cX9_quiet 94 = .ok (.istore_n 2, 1) := by decide +kernel
theorem dX9_quiet_95 : decode cX9_quiet 95 = .ok (.iinc 3 1, 3) := by decide +kernel
theorem dX9_quiet_98 : decode cX9_quiet 98 = .ok (.goto (-84), 3) := by decide +kernel
theorem dX9_quiet_101 : decode cX9_quiet 101 = .ok (.iload_n 2, 1) := by decide +kernel
theorem dX9_quiet_102 : decode cX9_quiet 102 = .ok (.ireturn, 1) := by decide +kernel
theorem dX9_part_0 : decode cX9_part 0 = .ok (.lload_n 0, 1) := by decide +kernel
theorem dX9_part_1 : decode cX9_part 1 = .ok (.lstore 5, 2) := by decide +kernel
theorem dX9_part_3 : decode cX9_part 3 = .ok (.lload_n 2, 1) := by decide +kernel
theorem dX9_part_4 : decode cX9_part 4 = .ok (.lstore 7, 2) := by decide +kernel
theorem dX9_part_6 : decode cX9_part 6 = .ok (.lload 7, 2) := by decide +kernel
theorem dX9_part_8 : decode cX9_part 8 = .ok (.lconst 0, 1) := by decide +kernel
theorem dX9_part_9 : decode cX9_part 9 = .ok (.lcmp, 1) := by decide +kernel
theorem dX9_part_10 : decode cX9_part 10 = .ok (.ifCond .eq 21, 3) := by decide +kernel
theorem dX9_part_13 : decode cX9_part 13 = .ok (.lload 5, 2) := by decide +kernel
theorem dX9_part_15 : decode cX9_part 15 = .ok (.lload 7, 2) := by decide +kernel
theorem dX9_part_17 : decode cX9_part 17 = .ok (.lrem, 1) := by decide +kernel
theorem dX9_part_18 : decode cX9_part 18 = .ok (.lstore 9, 2) := by decide +kernel
theorem dX9_part_20 : decode cX9_part 20 = .ok (.lload 7, 2) := by decide +kernel
theorem dX9_part_22 : decode cX9_part 22 = .ok (.lstore 5, 2) := by decide +kernel
theorem dX9_part_24 : decode cX9_part 24 = .ok (.lload 9, 2) := by decide +kernel
theorem dX9_part_26 : decode cX9_part 26 = .ok (.lstore 7, 2) := by decide +kernel
theorem dX9_part_28 : decode cX9_part 28 = .ok (.goto (-22), 3) := by decide +kernel
theorem dX9_part_31 : decode cX9_part 31 = .ok (.iload 4, 2) := by decide +kernel
theorem dX9_part_33 : decode cX9_part 33 = .ok (.ifCond .eq 10, 3) := by decide +kernel
theorem dX9_part_36 : decode cX9_part 36 = .ok (.lload_n 0, 1) := by decide +kernel
theorem dX9_part_37 : decode cX9_part 37 = .ok (.lload 5, 2) := by decide +kernel
theorem dX9_part_39 : decode cX9_part 39 = .ok (.ldiv, 1) := by decide +kernel
theorem dX9_part_40 : decode cX9_part 40 = .ok (.goto 7, 3) := by decide +kernel
theorem dX9_part_43 : decode cX9_part 43 = .ok (.lload_n 2, 1) := by decide +kernel
theorem dX9_part_44 : decode cX9_part 44 = .ok (.lload 5, 2) := by decide +kernel
theorem dX9_part_46 : decode cX9_part 46 = .ok (.ldiv, 1) := by decide +kernel
theorem dX9_part_47 : decode cX9_part 47 = .ok (.lreturn, 1) := by decide +kernel
theorem dX9_whole_0 : decode cX9_whole 0 = .ok (.lconst 1, 1) := by decide +kernel
theorem dX9_whole_1 : decode cX9_whole 1 = .ok (.lstore_n 1, 1) := by decide +kernel
theorem dX9_whole_2 : decode cX9_whole 2 = .ok (.iconst 0, 1) := by decide +kernel
theorem dX9_whole_3 : decode cX9_whole 3 = .ok (.istore_n 3, 1) := by decide +kernel
theorem dX9_whole_4 : decode cX9_whole 4 = .ok (.iload_n 3, 1) := by decide +kernel
theorem dX9_whole_5 : decode cX9_whole 5 = .ok (.aload_n 0, 1) := by decide +kernel
theorem dX9_whole_6 : decode cX9_whole 6 = .ok (.getfield 97, 3) := by decide +kernel
theorem dX9_whole_9 : decode cX9_whole 9 = .ok (.if_icmp .ge 15, 3) := by decide +kernel
theorem dX9_whole_12 : decode cX9_whole 12 = .ok (.lload_n 1, 1) := by decide +kernel
theorem dX9_whole_13 : decode cX9_whole 13 = .ok (.ldc2_w 131, 3) := by decide +kernel
theorem dX9_whole_16 : decode cX9_whole 16 = .ok (.lmul, 1) := by decide +kernel
theorem dX9_whole_17 : decode cX9_whole 17 = .ok (.lstore_n 1, 1) := by decide +kernel
theorem dX9_whole_18 : decode cX9_whole 18 = .ok (.iinc 3 1, 3) := by decide +kernel
theorem dX9_whole_21 : decode cX9_whole 21 = .ok (.goto (-17), 3) := by decide +kernel
theorem dX9_whole_24 : decode cX9_whole 24 = .ok (.lload_n 1, 1) := by decide +kernel
theorem dX9_whole_25 : decode cX9_whole 25 = .ok (.lreturn, 1) := by decide +kernel
theorem dX9_layJoint_0 : decode cX9_layJoint 0 = .ok (.iconst 0, 1) := by decide +kernel
theorem dX9_layJoint_1 : decode cX9_layJoint 1 = .ok (.istore_n 2, 1) := by decide +kernel
theorem dX9_layJoint_2 : decode cX9_layJoint 2 = .ok (.iload_n 2, 1) := by decide +kernel
theorem dX9_layJoint_3 : decode cX9_layJoint 3 = .ok (.sipush 169, 3) := by decide +kernel
theorem dX9_layJoint_6 : decode cX9_layJoint 6 = .ok (.if_icmp .ge 16, 3) := by decide +kernel
theorem dX9_layJoint_9 : decode cX9_layJoint 9 = .ok (.aload_n 0, 1) := by decide +kernel
theorem dX9_layJoint_10 : decode cX9_layJoint 10 = .ok (.getfield 25, 3) := by decide +kernel
theorem dX9_layJoint_13 : decode cX9_layJoint 13 = .ok (.iload_n 2, 1) := by decide +kernel
theorem dX9_layJoint_14 : decode cX9_layJoint 14 = .ok (.lconst 0, 1) := by decide +kernel
theorem dX9_layJoint_15 : decode cX9_layJoint 15 = .ok (.lastore, 1) := by decide +kernel
theorem dX9_layJoint_16 : decode cX9_layJoint 16 = .ok (.iinc 2 1, 3) := by decide +kernel
theorem dX9_layJoint_19 : decode cX9_layJoint 19 = .ok (.goto (-17), 3) := by decide +kernel
theorem dX9_layJoint_22 : decode cX9_layJoint 22 = .ok (.aload_n 0, 1) := by decide +kernel
theorem dX9_layJoint_23 : decode cX9_layJoint 23 = .ok (.getfield 25, 3) := by decide +kernel
theorem dX9_layJoint_26 : decode cX9_layJoint 26 = .ok (.iconst 0, 1) := by decide +kernel
theorem dX9_layJoint_27 : decode cX9_layJoint 27 = .ok (.lconst 1, 1) := by decide +kernel
theorem dX9_layJoint_28 : decode cX9_layJoint 28 = .ok (.lastore, 1) := by decide +kernel
theorem dX9_layJoint_29 : decode cX9_layJoint 29 = .ok (.iconst 0, 1) := by decide +kernel
theorem dX9_layJoint_30 : decode cX9_layJoint 30 = .ok (.istore_n 2, 1) := by decide +kernel
theorem dX9_layJoint_31 : decode cX9_layJoint 31 = .ok (.iload_n 2, 1) := by decide +kernel
theorem dX9_layJoint_32 : decode cX9_layJoint 32 = .ok (.aload_n 0, 1) := by decide +kernel
theorem dX9_layJoint_33 : decode cX9_layJoint 33 = .ok (.getfield 97, 3) := by decide +kernel
theorem dX9_layJoint_36 : decode cX9_layJoint 36 = .ok (.if_icmp .ge 214, 3) := by decide +kernel
theorem dX9_layJoint_39 : decode cX9_layJoint 39 = .ok (.aload_n 0, 1) := by decide +kernel
theorem dX9_layJoint_40 : decode cX9_layJoint 40 = .ok (.getfield 13, 3) := by decide +kernel
theorem dX9_layJoint_43 : decode cX9_layJoint 43 = .ok (.bipush 6, 2) := by decide +kernel
theorem dX9_layJoint_45 : decode cX9_layJoint 45 = .ok (.iload_n 2, 1) := by decide +kernel
theorem dX9_layJoint_46 : decode cX9_layJoint 46 = .ok (.imul, 1) := by decide +kernel
theorem dX9_layJoint_47 : decode cX9_layJoint 47 = .ok (.iconst 2, 1) := by decide +kernel
theorem dX9_layJoint_48 : decode cX9_layJoint 48 = .ok (.iadd, 1) := by decide +kernel
theorem dX9_layJoint_49 : decode cX9_layJoint 49 = .ok (.iaload, 1) := by decide +kernel
theorem dX9_layJoint_50 : decode cX9_layJoint 50 = .ok (.istore_n 3, 1) := by decide +kernel
theorem dX9_layJoint_51 : decode cX9_layJoint 51 = .ok (.aload_n 0, 1) := by decide +kernel
theorem dX9_layJoint_52 : decode cX9_layJoint 52 = .ok (.getfield 13, 3) := by decide +kernel
theorem dX9_layJoint_55 : decode cX9_layJoint 55 = .ok (.bipush 6, 2) := by decide +kernel
theorem dX9_layJoint_57 : decode cX9_layJoint 57 = .ok (.iload_n 2, 1) := by decide +kernel
theorem dX9_layJoint_58 : decode cX9_layJoint 58 = .ok (.imul, 1) := by decide +kernel
theorem dX9_layJoint_59 : decode cX9_layJoint 59 = .ok (.iconst 5, 1) := by decide +kernel
theorem dX9_layJoint_60 : decode cX9_layJoint 60 = .ok (.iadd, 1) := by decide +kernel
theorem dX9_layJoint_61 : decode cX9_layJoint 61 = .ok (.iaload, 1) := by decide +kernel
theorem dX9_layJoint_62 : decode cX9_layJoint 62 = .ok (.iconst 1, 1) := by decide +kernel
theorem dX9_layJoint_63 : decode cX9_layJoint 63 = .ok (.if_icmp .ne 7, 3) := by decide +kernel
theorem dX9_layJoint_66 : decode cX9_layJoint 66 = .ok (.iconst 1, 1) := by decide +kernel
theorem dX9_layJoint_67 : decode cX9_layJoint 67 = .ok (.goto 4, 3) := by decide +kernel
theorem dX9_layJoint_70 : decode cX9_layJoint 70 = .ok (.iconst 0, 1) := by decide +kernel
theorem dX9_layJoint_71 : decode cX9_layJoint 71 = .ok (.istore 4, 2) := by decide +kernel
theorem dX9_layJoint_73 : decode cX9_layJoint 73 = .ok (.aload_n 0, 1) := by decide +kernel
theorem dX9_layJoint_74 : decode cX9_layJoint 74 = .ok (.getfield 16, 3) := by decide +kernel
theorem dX9_layJoint_77 : decode cX9_layJoint 77 = .ok (.iload_n 2, 1) := by decide +kernel
theorem dX9_layJoint_78 : decode cX9_layJoint 78 = .ok (.iaload, 1) := by decide +kernel
theorem dX9_layJoint_79 : decode cX9_layJoint 79 = .ok (.aload_n 0, 1) := by decide +kernel
theorem dX9_layJoint_80 : decode cX9_layJoint 80 = .ok (.getfield 60, 3) := by decide +kernel
theorem dX9_layJoint_83 : decode cX9_layJoint 83 = .ok (.if_icmp .lt 27, 3) := by decide +kernel
theorem dX9_layJoint_86 : decode cX9_layJoint 86 = .ok (.iload 4, 2) := by decide +kernel
theorem dX9_layJoint_88 : decode cX9_layJoint 88 = .ok (.ifCond .ne 18, 3) := by decide +kernel
theorem dX9_layJoint_91 : decode cX9_layJoint 91 = .ok (.aload_n 0, 1) := by decide +kernel
theorem dX9_layJoint_92 : decode cX9_layJoint 92 = .ok (.getfield 13, 3) := by decide +kernel
theorem dX9_layJoint_95 : decode cX9_layJoint 95 = .ok (.bipush 6, 2) := by decide +kernel
theorem dX9_layJoint_97 : decode cX9_layJoint 97 = .ok (.iload_n 2, 1) := by decide +kernel
theorem dX9_layJoint_98 : decode cX9_layJoint 98 = .ok (.imul, 1) := by decide +kernel
theorem dX9_layJoint_99 : decode cX9_layJoint 99 = .ok (.iconst 3, 1) := by decide +kernel
theorem dX9_layJoint_100 : decode cX9_layJoint 100 = .ok (.iadd, 1) := by decide +kernel
theorem dX9_layJoint_101 : decode cX9_layJoint 101 = .ok (.iaload, 1) := by decide +kernel
theorem dX9_layJoint_102 : decode cX9_layJoint 102 = .ok (.iload_n 1, 1) := by decide +kernel
theorem dX9_layJoint_103 : decode cX9_layJoint 103 = .ok (.if_icmp .gt 7, 3) := by decide +kernel
theorem dX9_layJoint_106 : decode cX9_layJoint 106 = .ok (.iconst 1, 1) := by decide +kernel
theorem dX9_layJoint_107 : decode cX9_layJoint 107 = .ok (.goto 4, 3) := by decide +kernel
theorem dX9_layJoint_110 : decode cX9_layJoint 110 = .ok (.iconst 0, 1) := by decide +kernel
theorem dX9_layJoint_111 : decode cX9_layJoint 111 = .ok (.istore 5, 2) := by decide +kernel
theorem dX9_layJoint_113 : decode cX9_layJoint 113 = .ok (.iload 5, 2) := by decide +kernel
theorem dX9_layJoint_115 : decode cX9_layJoint 115 = .ok (.ifCond .eq 8, 3) := by decide +kernel
theorem dX9_layJoint_118 : decode cX9_layJoint 118 = .ok (.bipush 14, 2) := by decide +kernel
theorem dX9_layJoint_120 : decode cX9_layJoint 120 = .ok (.goto 4, 3) := by decide +kernel
theorem dX9_layJoint_123 : decode cX9_layJoint 123 = .ok (.iconst 1, 1) := by decide +kernel
theorem dX9_layJoint_124 : decode cX9_layJoint 124 = .ok (.istore 6, 2) := by decide +kernel
theorem dX9_layJoint_126 : decode cX9_layJoint 126 = .ok (.iload 5, 2) := by decide +kernel
theorem dX9_layJoint_128 : decode cX9_layJoint 128 = .ok (.ifCond .eq 13, 3) := by decide +kernel
theorem dX9_layJoint_131 : decode cX9_layJoint 131 = .ok (.iload 4, 2) := by decide +kernel
theorem dX9_layJoint_133 : decode cX9_layJoint 133 = .ok (.ifCond .eq 8, 3) := by decide +kernel
theorem dX9_layJoint_136 : decode cX9_layJoint 136 = .ok (.bipush 13, 2) := by decide +kernel
theorem dX9_layJoint_138 : decode cX9_layJoint 138 = .ok (.goto 4, 3) := by decide +kernel
theorem dX9_layJoint_141 : decode cX9_layJoint 141 = .ok (.iconst 0, 1) := by decide +kernel
theorem dX9_layJoint_142 : decode cX9_layJoint 142 = .ok (.istore 7, 2) := by decide +kernel
theorem dX9_layJoint_144 : decode cX9_layJoint 144 = .ok (.sipush 168, 3) := by decide +kernel
theorem dX9_layJoint_147 : decode cX9_layJoint 147 = .ok (.istore 8, 2) := by decide +kernel
theorem dX9_layJoint_149 : decode cX9_layJoint 149 = .ok (.iload 8, 2) := by decide +kernel
theorem dX9_layJoint_151 : decode cX9_layJoint 151 = .ok (.ifCond .lt 93, 3) := by decide +kernel
theorem dX9_layJoint_154 : decode cX9_layJoint 154 = .ok (.iload 7, 2) := by decide +kernel
theorem dX9_layJoint_156 : decode cX9_layJoint 156 = .ok (.ifCond .ne 19, 3) := by decide +kernel
theorem dX9_layJoint_159 : decode cX9_layJoint 159 = .ok (.aload_n 0, 1) := by decide +kernel
theorem dX9_layJoint_160 : decode cX9_layJoint 160 = .ok (.getfield 25, 3) := by decide +kernel
theorem dX9_layJoint_163 : decode cX9_layJoint 163 = .ok (.iload 8, 2) := by decide +kernel
theorem dX9_layJoint_165 : decode cX9_layJoint 165 = .ok (.laload, 1) := by decide +kernel
theorem dX9_layJoint_166 : decode cX9_layJoint 166 = .ok (.bipush 10, 2) := by decide +kernel
theorem dX9_layJoint_168 : decode cX9_layJoint 168 = .ok (.iload_n 3, 1) := by decide +kernel
theorem dX9_layJoint_169 : decode cX9_layJoint 169 = .ok (.isub, 1) := by decide +kernel
theorem dX9_layJoint_170 : decode cX9_layJoint 170 = .ok (.i2l, 1) := by decide +kernel
theorem dX9_layJoint_171 : decode cX9_layJoint 171 = .ok (.lmul, 1) := by decide +kernel
theorem dX9_layJoint_172 : decode cX9_layJoint 172 = .ok (.goto 30, 3) := by decide +kernel
theorem dX9_layJoint_175 : decode cX9_layJoint 175 = .ok (.iload 8, 2) := by decide +kernel
theorem dX9_layJoint_177 : decode cX9_layJoint 177 = .ok (.iload 7, 2) := by decide +kernel
theorem dX9_layJoint_179 : decode cX9_layJoint 179 = .ok (.if_icmp .lt 22, 3) := by decide +kernel
theorem dX9_layJoint_182 : decode cX9_layJoint 182 = .ok (.aload_n 0, 1) := by decide +kernel
theorem dX9_layJoint_183 : decode cX9_layJoint 183 = .ok (.getfield 25, 3) := by decide +kernel
theorem dX9_layJoint_186 : decode cX9_layJoint 186 = .ok (.iload 8, 2) := by decide +kernel
theorem dX9_layJoint_188 : decode cX9_layJoint 188 = .ok (.iload 7, 2) := by decide +kernel
theorem dX9_layJoint_190 : decode cX9_layJoint 190 = .ok (.isub, 1) := by decide +kernel
theorem dX9_layJoint_191 : decode cX9_layJoint 191 = .ok (.laload, 1) := by decide +kernel
theorem dX9_layJoint_192 : decode cX9_layJoint 192 = .ok (.bipush 10, 2) := by decide +kernel
theorem dX9_layJoint_194 : decode cX9_layJoint 194 = .ok (.iload_n 3, 1) := by decide +kernel
theorem dX9_layJoint_195 : decode cX9_layJoint 195 = .ok (.isub, 1) := by decide +kernel
theorem dX9_layJoint_196 : decode cX9_layJoint 196 = .ok (.i2l, 1) := by decide +kernel
theorem dX9_layJoint_197 : decode cX9_layJoint 197 = .ok (.lmul, 1) := by decide +kernel
theorem dX9_layJoint_198 : decode cX9_layJoint 198 = .ok (.goto 4, 3) := by decide +kernel
theorem dX9_layJoint_201 : decode cX9_layJoint 201 = .ok (.lconst 0, 1) := by decide +kernel
theorem dX9_layJoint_202 : decode cX9_layJoint 202 = .ok (.lstore 9, 2) := by decide +kernel
theorem dX9_layJoint_204 : decode cX9_layJoint 204 = .ok (.aload_n 0, 1) := by decide +kernel
theorem dX9_layJoint_205 : decode cX9_layJoint 205 = .ok (.getfield 25, 3) := by decide +kernel
theorem dX9_layJoint_208 : decode cX9_layJoint 208 = .ok (.iload 8, 2) := by decide +kernel
theorem dX9_layJoint_210 : decode cX9_layJoint 210 = .ok (.lload 9, 2) := by decide +kernel
theorem dX9_layJoint_212 : decode cX9_layJoint 212 = .ok (.iload 8, 2) := by decide +kernel
theorem dX9_layJoint_214 : decode cX9_layJoint 214 = .ok (.iload 6, 2) := by decide +kernel
theorem dX9_layJoint_216 : decode cX9_layJoint 216 = .ok (.if_icmp .lt 19, 3) := by decide +kernel
theorem dX9_layJoint_219 : decode cX9_layJoint 219 = .ok (.aload_n 0, 1) := by decide +kernel
theorem dX9_layJoint_220 : decode cX9_layJoint 220 = .ok (.getfield 25, 3) := by decide +kernel
theorem dX9_layJoint_223 : decode cX9_layJoint 223 = .ok (.iload 8, 2) := by decide +kernel
theorem dX9_layJoint_225 : decode cX9_layJoint 225 = .ok (.iload 6, 2) := by decide +kernel
theorem dX9_layJoint_227 : decode cX9_layJoint 227 = .ok (.isub, 1) := by decide +kernel
theorem dX9_layJoint_228 : decode cX9_layJoint 228 = .ok (.laload, 1) := by decide +kernel
theorem dX9_layJoint_229 : decode cX9_layJoint 229 = .ok (.iload_n 3, 1) := by decide +kernel
theorem dX9_layJoint_230 : decode cX9_layJoint 230 = .ok (.i2l, 1) := by decide +kernel
theorem dX9_layJoint_231 : decode cX9_layJoint 231 = .ok (.lmul, 1) := by decide +kernel
theorem dX9_layJoint_232 : decode cX9_layJoint 232 = .ok (.goto 4, 3) := by decide +kernel
theorem dX9_layJoint_235 : decode cX9_layJoint 235 = .ok (.lconst 0, 1) := by decide +kernel
theorem dX9_layJoint_236 : decode cX9_layJoint 236 = .ok (.ladd, 1) := by decide +kernel
theorem dX9_layJoint_237 : decode cX9_layJoint 237 = .ok (.lastore, 1) := by decide +kernel
theorem dX9_layJoint_238 : decode cX9_layJoint 238 = .ok (.iinc 8 (-1), 3) := by decide +kernel
theorem dX9_layJoint_241 : decode cX9_layJoint 241 = .ok (.goto (-92), 3) := by decide +kernel
theorem dX9_layJoint_244 : decode cX9_layJoint 244 = .ok (.iinc 2 1, 3) := by decide +kernel
theorem dX9_layJoint_247 : decode cX9_layJoint 247 = .ok (.goto (-216), 3) := by decide +kernel
theorem dX9_layJoint_250 : decode cX9_layJoint 250 = .ok (.return_, 1) := by decide +kernel
theorem dX9_handsOf_0 : decode cX9_handsOf 0 = .ok (.lconst 0, 1) := by decide +kernel
theorem dX9_handsOf_1 : decode cX9_handsOf 1 = .ok (.lstore_n 2, 1) := by decide +kernel
theorem dX9_handsOf_2 : decode cX9_handsOf 2 = .ok (.iconst 0, 1) := by decide +kernel
theorem dX9_handsOf_3 : decode cX9_handsOf 3 = .ok (.istore 4, 2) := by decide +kernel
theorem dX9_handsOf_5 : decode cX9_handsOf 5 = .ok (.iload 4, 2) := by decide +kernel
theorem dX9_handsOf_7 : decode cX9_handsOf 7 = .ok (.bipush 13, 2) := by decide +kernel
theorem dX9_handsOf_9 : decode cX9_handsOf 9 = .ok (.if_icmp .ge 24, 3) := by decide +kernel
theorem dX9_handsOf_12 : decode cX9_handsOf 12 = .ok (.lload_n 2, 1) := by decide +kernel
theorem dX9_handsOf_13 : decode cX9_handsOf 13 = .ok (.aload_n 0, 1) := by decide +kernel
theorem dX9_handsOf_14 : decode cX9_handsOf 14 = .ok (.getfield 25, 3) := by decide +kernel
theorem dX9_handsOf_17 : decode cX9_handsOf 17 = .ok (.bipush 13, 2) := by decide +kernel
theorem dX9_handsOf_19 : decode cX9_handsOf 19 = .ok (.iload_n 1, 1) := by decide +kernel
theorem dX9_handsOf_20 : decode cX9_handsOf 20 = .ok (.imul, 1) := by decide +kernel
theorem dX9_handsOf_21 : decode cX9_handsOf 21 = .ok (.iload 4, 2) := by decide +kernel
theorem dX9_handsOf_23 : decode cX9_handsOf 23 = .ok (.iadd, 1) := by decide +kernel
theorem dX9_handsOf_24 : decode cX9_handsOf 24 = .ok (.laload, 1) := by decide +kernel
theorem dX9_handsOf_25 : decode cX9_handsOf 25 = .ok (.ladd, 1) := by decide +kernel
theorem dX9_handsOf_26 : decode cX9_handsOf 26 = .ok (.lstore_n 2, 1) := by decide +kernel
theorem dX9_handsOf_27 : decode cX9_handsOf 27 = .ok (.iinc 4 1, 3) := by decide +kernel
theorem dX9_handsOf_30 : decode cX9_handsOf 30 = .ok (.goto (-25), 3) := by decide +kernel
theorem dX9_handsOf_33 : decode cX9_handsOf 33 = .ok (.lload_n 2, 1) := by decide +kernel
theorem dX9_handsOf_34 : decode cX9_handsOf 34 = .ok (.lreturn, 1) := by decide +kernel
theorem dX9_hands_0 : decode cX9_hands 0 = .ok (.iload_n 1, 1) := by decide +kernel
theorem dX9_hands_1 : decode cX9_hands 1 = .ok (.invokestatic 121, 3) := by decide +kernel
theorem dX9_hands_4 : decode cX9_hands 4 = .ok (.ifCond .eq 15, 3) := by decide +kernel
theorem dX9_hands_7 : decode cX9_hands 7 = .ok (.iload_n 2, 1) := by decide +kernel
theorem dX9_hands_8 : decode cX9_hands 8 = .ok (.i2l, 1) := by decide +kernel
theorem dX9_hands_9 : decode cX9_hands 9 = .ok (.lconst 0, 1) := by decide +kernel
theorem dX9_hands_10 : decode cX9_hands 10 = .ok (.ldc2_w 133, 3) := by decide +kernel
theorem dX9_hands_13 : decode cX9_hands 13 = .ok (.invokestatic 66, 3) := by decide +kernel
theorem dX9_hands_16 : decode cX9_hands 16 = .ok (.ifCond .ne 7, 3) := by decide +kernel
theorem dX9_hands_19 : decode cX9_hands 19 = .ok (.ldc2_w 135, 3) := by decide +kernel
theorem dX9_hands_22 : decode cX9_hands 22 = .ok (.lreturn, 1) := by decide +kernel
theorem dX9_hands_23 : decode cX9_hands 23 = .ok (.aload_n 0, 1) := by decide +kernel
theorem dX9_hands_24 : decode cX9_hands 24 = .ok (.iload_n 1, 1) := by decide +kernel
theorem dX9_hands_25 : decode cX9_hands 25 = .ok (.invokevirtual 137, 3) := by decide +kernel
theorem dX9_hands_28 : decode cX9_hands 28 = .ok (.aload_n 0, 1) := by decide +kernel
theorem dX9_hands_29 : decode cX9_hands 29 = .ok (.iload_n 2, 1) := by decide +kernel
theorem dX9_hands_30 : decode cX9_hands 30 = .ok (.invokevirtual 141, 3) := by decide +kernel
theorem dX9_hands_33 : decode cX9_hands 33 = .ok (.aload_n 0, 1) := by decide +kernel
theorem dX9_hands_34 : decode cX9_hands 34 = .ok (.invokevirtual 145, 3) := by decide +kernel
theorem dX9_hands_37 : decode cX9_hands 37 = .ok (.iload_n 3, 1) := by decide +kernel
theorem dX9_hands_38 : decode cX9_hands 38 = .ok (.invokestatic 149, 3) := by decide +kernel
theorem dX9_hands_41 : decode cX9_hands 41 = .ok (.lreturn, 1) := by decide +kernel
theorem dX9_given_0 : decode cX9_given 0 = .ok (.iload_n 1, 1) := by decide +kernel
theorem dX9_given_1 : decode cX9_given 1 = .ok (.invokestatic 121, 3) := by decide +kernel
theorem dX9_given_4 : decode cX9_given 4 = .ok (.ifCond .eq 27, 3) := by decide +kernel
theorem dX9_given_7 : decode cX9_given 7 = .ok (.iload_n 2, 1) := by decide +kernel
theorem dX9_given_8 : decode cX9_given 8 = .ok (.i2l, 1) := by decide +kernel
theorem dX9_given_9 : decode cX9_given 9 = .ok (.lconst 0, 1) := by decide +kernel
theorem dX9_given_10 : decode cX9_given 10 = .ok (.ldc2_w 133, 3) := by decide +kernel
theorem dX9_given_13 : decode cX9_given 13 = .ok (.invokestatic 66, 3) := by decide +kernel
theorem dX9_given_16 : decode cX9_given 16 = .ok (.ifCond .eq 15, 3) := by decide +kernel
theorem dX9_given_19 : decode cX9_given 19 = .ok (.iload_n 3, 1) := by decide +kernel
theorem dX9_given_20 : decode cX9_given 20 = .ok (.i2l, 1) := by decide +kernel
theorem dX9_given_21 : decode cX9_given 21 = .ok (.lconst 0, 1) := by decide +kernel
theorem dX9_given_22 : decode cX9_given 22 = .ok (.ldc2_w 133, 3) := by decide +kernel
theorem dX9_given_25 : decode cX9_given 25 = .ok (.invokestatic 66, 3) := by decide +kernel
theorem dX9_given_28 : decode cX9_given 28 = .ok (.ifCond .ne 7, 3) := by decide +kernel
theorem dX9_given_31 : decode cX9_given 31 = .ok (.ldc2_w 135, 3) := by decide +kernel
theorem dX9_given_34 : decode cX9_given 34 = .ok (.lreturn, 1) := by decide +kernel
theorem dX9_given_35 : decode cX9_given 35 = .ok (.aload_n 0, 1) := by decide +kernel
theorem dX9_given_36 : decode cX9_given 36 = .ok (.iload_n 1, 1) := by decide +kernel
theorem dX9_given_37 : decode cX9_given 37 = .ok (.invokevirtual 137, 3) := by decide +kernel
theorem dX9_given_40 : decode cX9_given 40 = .ok (.aload_n 0, 1) := by decide +kernel
theorem dX9_given_41 : decode cX9_given 41 = .ok (.iload_n 2, 1) := by decide +kernel
theorem dX9_given_42 : decode cX9_given 42 = .ok (.invokevirtual 141, 3) := by decide +kernel
theorem dX9_given_45 : decode cX9_given 45 = .ok (.lconst 0, 1) := by decide +kernel
theorem dX9_given_46 : decode cX9_given 46 = .ok (.lcmp, 1) := by decide +kernel
theorem dX9_given_47 : decode cX9_given 47 = .ok (.ifCond .ne 9, 3) := by decide +kernel
theorem dX9_given_50 : decode cX9_given 50 = .ok (.ldc2_w 153, 3) := by decide +kernel
theorem dX9_given_53 : decode cX9_given 53 = .ok (.goto 24, 3) := by decide +kernel
theorem dX9_given_56 : decode cX9_given 56 = .ok (.aload_n 0, 1) := by decide +kernel
theorem dX9_given_57 : decode cX9_given 57 = .ok (.getfield 25, 3) := by decide +kernel
theorem dX9_given_60 : decode cX9_given 60 = .ok (.bipush 13, 2) := by decide +kernel
theorem dX9_given_62 : decode cX9_given 62 = .ok (.iload_n 2, 1) := by decide +kernel
theorem dX9_given_63 : decode cX9_given 63 = .ok (.imul, 1) := by decide +kernel
theorem dX9_given_64 : decode cX9_given 64 = .ok (.iload_n 3, 1) := by decide +kernel
theorem dX9_given_65 : decode cX9_given 65 = .ok (.iadd, 1) := by decide +kernel
theorem dX9_given_66 : decode cX9_given 66 = .ok (.laload, 1) := by decide +kernel
theorem dX9_given_67 : decode cX9_given 67 = .ok (.aload_n 0, 1) := by decide +kernel
theorem dX9_given_68 : decode cX9_given 68 = .ok (.iload_n 2, 1) := by decide +kernel
theorem dX9_given_69 : decode cX9_given 69 = .ok (.invokevirtual 141, 3) := by decide +kernel
theorem dX9_given_72 : decode cX9_given 72 = .ok (.iload 4, 2) := by decide +kernel
theorem dX9_given_74 : decode cX9_given 74 = .ok (.invokestatic 149, 3) := by decide +kernel
theorem dX9_given_77 : decode cX9_given 77 = .ok (.lreturn, 1) := by decide +kernel
theorem dX9_likely_0 : decode cX9_likely 0 = .ok (.iload_n 1, 1) := by decide +kernel
theorem dX9_likely_1 : decode cX9_likely 1 = .ok (.invokestatic 121, 3) := by decide +kernel
theorem dX9_likely_4 : decode cX9_likely 4 = .ok (.ifCond .eq 15, 3) := by decide +kernel
theorem dX9_likely_7 : decode cX9_likely 7 = .ok (.iload_n 2, 1) := by decide +kernel
theorem dX9_likely_8 : decode cX9_likely 8 = .ok (.i2l, 1) := by decide +kernel
theorem dX9_likely_9 : decode cX9_likely 9 = .ok (.lconst 0, 1) := by decide +kernel
theorem dX9_likely_10 : decode cX9_likely 10 = .ok (.ldc2_w 133, 3) := by decide +kernel
theorem dX9_likely_13 : decode cX9_likely 13 = .ok (.invokestatic 66, 3) := by decide +kernel
theorem dX9_likely_16 : decode cX9_likely 16 = .ok (.ifCond .ne 6, 3) := by decide +kernel
theorem dX9_likely_19 : decode cX9_likely 19 = .ok (.bipush (-2), 2) := by decide +kernel
theorem dX9_likely_21 : decode cX9_likely 21 = .ok (.ireturn, 1) := by decide +kernel
theorem dX9_likely_22 : decode cX9_likely 22 = .ok (.aload_n 0, 1) := by decide +kernel
theorem dX9_likely_23 : decode cX9_likely 23 = .ok (.iload_n 1, 1) := by decide +kernel
theorem dX9_likely_24 : decode cX9_likely 24 = .ok (.invokevirtual 137, 3) := by decide +kernel
theorem dX9_likely_27 : decode cX9_likely 27 = .ok (.aload_n 0, 1) := by decide +kernel
theorem dX9_likely_28 : decode cX9_likely 28 = .ok (.iload_n 2, 1) := by decide +kernel
theorem dX9_likely_29 : decode cX9_likely 29 = .ok (.invokevirtual 141, 3) := by decide +kernel
theorem dX9_likely_32 : decode cX9_likely 32 = .ok (.lconst 0, 1) := by decide +kernel
theorem dX9_likely_33 : decode cX9_likely 33 = .ok (.lcmp, 1) := by decide +kernel
theorem dX9_likely_34 : decode cX9_likely 34 = .ok (.ifCond .ne 6, 3) := by decide +kernel
theorem dX9_likely_37 : decode cX9_likely 37 = .ok (.bipush (-3), 2) := by decide +kernel
theorem dX9_likely_39 : decode cX9_likely 39 = .ok (.ireturn, 1) := by decide +kernel
theorem dX9_likely_40 : decode cX9_likely 40 = .ok (.iconst 0, 1) := by decide +kernel
theorem dX9_likely_41 : decode cX9_likely 41 = .ok (.istore_n 3, 1) := by decide +kernel
theorem dX9_likely_42 : decode cX9_likely 42 = .ok (.iconst 1, 1) := by decide +kernel
theorem dX9_likely_43 : decode cX9_likely 43 = .ok (.istore 4, 2) := by decide +kernel
theorem dX9_likely_45 : decode cX9_likely 45 = .ok (.iload 4, 2) := by decide +kernel
theorem dX9_likely_47 : decode cX9_likely 47 = .ok (.bipush 13, 2) := by decide +kernel
theorem dX9_likely_49 : decode cX9_likely 49 = .ok (.if_icmp .ge 43, 3) := by decide +kernel
theorem dX9_likely_52 : decode cX9_likely 52 = .ok (.aload_n 0, 1) := by decide +kernel
theorem dX9_likely_53 : decode cX9_likely 53 = .ok (.getfield 25, 3) := by decide +kernel
theorem dX9_likely_56 : decode cX9_likely 56 = .ok (.bipush 13, 2) := by decide +kernel
theorem dX9_likely_58 : decode cX9_likely 58 = .ok (.iload_n 2, 1) := by decide +kernel
theorem dX9_likely_59 : decode cX9_likely 59 = .ok (.imul, 1) := by decide +kernel
theorem dX9_likely_60 : decode cX9_likely 60 = .ok (.iload 4, 2) := by decide +kernel
theorem dX9_likely_62 : decode cX9_likely 62 = .ok (.iadd, 1) := by decide +kernel
theorem dX9_likely_63 : decode cX9_likely 63 = .ok (.laload, 1) := by decide +kernel
theorem dX9_likely_64 : decode cX9_likely 64 = .ok (.aload_n 0, 1) := by decide +kernel
theorem dX9_likely_65 : decode cX9_likely 65 = .ok (.getfield 25, 3) := by decide +kernel
theorem dX9_likely_68 : decode cX9_likely 68 = .ok (.bipush 13, 2) := by decide +kernel
theorem dX9_likely_70 : decode cX9_likely 70 = .ok (.iload_n 2, 1) := by decide +kernel
theorem dX9_likely_71 : decode cX9_likely 71 = .ok (.imul, 1) := by decide +kernel
theorem dX9_likely_72 : decode cX9_likely 72 = .ok (.iload_n 3, 1) := by decide +kernel
theorem dX9_likely_73 : decode cX9_likely 73 = .ok (.iadd, 1) := by decide +kernel
theorem dX9_likely_74 : decode cX9_likely 74 = .ok (.laload, 1) := by decide +kernel
theorem dX9_likely_75 : decode cX9_likely 75 = .ok (.lcmp, 1) := by decide +kernel
theorem dX9_likely_76 : decode cX9_likely 76 = .ok (.ifCond .le 8, 3) := by decide +kernel
theorem dX9_likely_79 : decode cX9_likely 79 = .ok (.iload 4, 2) := by decide +kernel
theorem dX9_likely_81 : decode cX9_likely 81 = .ok (.goto 4, 3) := by decide +kernel
theorem dX9_likely_84 : decode cX9_likely 84 = .ok (.iload_n 3, 1) := by decide +kernel
theorem dX9_likely_85 : decode cX9_likely 85 = .ok (.istore_n 3, 1) := by decide +kernel
theorem dX9_likely_86 : decode cX9_likely 86 = .ok (.iinc 4 1, 3) := by decide +kernel
theorem dX9_likely_89 : decode cX9_likely 89 = .ok (.goto (-44), 3) := by decide +kernel
theorem dX9_likely_92 : decode cX9_likely 92 = .ok (.iload_n 3, 1) := by decide +kernel
theorem dX9_likely_93 : decode cX9_likely 93 = .ok (.ireturn, 1) := by decide +kernel
theorem dX9_isAhead_0 : decode cX9_isAhead 0 = .ok (.iload_n 3, 1) := by decide +kernel
theorem dX9_isAhead_1 : decode cX9_isAhead 1 = .ok (.iconst 1, 1) := by decide +kernel
theorem dX9_isAhead_2 : decode cX9_isAhead 2 = .ok (.if_icmp .ne 17, 3) := by decide +kernel
theorem dX9_isAhead_5 : decode cX9_isAhead 5 = .ok (.aload_n 0, 1) := by decide +kernel
theorem dX9_isAhead_6 : decode cX9_isAhead 6 = .ok (.getfield 13, 3) := by decide +kernel
theorem dX9_isAhead_9 : decode cX9_isAhead 9 = .ok (.bipush 6, 2) := by decide +kernel
theorem dX9_isAhead_11 : decode cX9_isAhead 11 = .ok (.iload_n 1, 1) := by decide +kernel
theorem dX9_isAhead_12 : decode cX9_isAhead 12 = .ok (.imul, 1) := by decide +kernel
theorem dX9_isAhead_13 : decode cX9_isAhead 13 = .ok (.iconst 3, 1) := by decide +kernel
theorem dX9_isAhead_14 : decode cX9_isAhead 14 = .ok (.iadd, 1) := by decide +kernel
theorem dX9_isAhead_15 : decode cX9_isAhead 15 = .ok (.iaload, 1) := by decide +kernel
theorem dX9_isAhead_16 : decode cX9_isAhead 16 = .ok (.goto 22, 3) := by decide +kernel
theorem dX9_isAhead_19 : decode cX9_isAhead 19 = .ok (.iload_n 3, 1) := by decide +kernel
theorem dX9_isAhead_20 : decode cX9_isAhead 20 = .ok (.iconst 4, 1) := by decide +kernel
theorem dX9_isAhead_21 : decode cX9_isAhead 21 = .ok (.if_icmp .ne 12, 3) := by decide +kernel
theorem dX9_isAhead_24 : decode cX9_isAhead 24 = .ok (.aload_n 0, 1) := by decide +kernel
theorem dX9_isAhead_25 : decode cX9_isAhead 25 = .ok (.getfield 19, 3) := by decide +kernel
theorem dX9_isAhead_28 : decode cX9_isAhead 28 = .ok (.iload_n 1, 1) := by decide +kernel
theorem dX9_isAhead_29 : decode cX9_isAhead 29 = .ok (.iaload, 1) := by decide +kernel
theorem dX9_isAhead_30 : decode cX9_isAhead 30 = .ok (.goto 8, 3) := by decide +kernel
theorem dX9_isAhead_33 : decode cX9_isAhead 33 = .ok (.aload_n 0, 1) := by decide +kernel
theorem dX9_isAhead_34 : decode cX9_isAhead 34 = .ok (.iload_n 1, 1) := by decide +kernel
theorem dX9_isAhead_35 : decode cX9_isAhead 35 = .ok (.invokevirtual 155, 3) := by decide +kernel
theorem dX9_isAhead_38 : decode cX9_isAhead 38 = .ok (.istore 4, 2) := by decide +kernel
theorem dX9_isAhead_40 : decode cX9_isAhead 40 = .ok (.iload_n 3, 1) := by decide +kernel
theorem dX9_isAhead_41 : decode cX9_isAhead 41 = .ok (.iconst 1, 1) := by decide +kernel
theorem dX9_isAhead_42 : decode cX9_isAhead 42 = .ok (.if_icmp .ne 17, 3) := by decide +kernel
theorem dX9_isAhead_45 : decode cX9_isAhead 45 = .ok (.aload_n 0, 1) := by decide +kernel
theorem dX9_isAhead_46 : decode cX9_isAhead 46 = .ok (.getfield 13, 3) := by decide +kernel
theorem dX9_isAhead_49 : decode cX9_isAhead 49 = .ok (.bipush 6, 2) := by decide +kernel
theorem dX9_isAhead_51 : decode cX9_isAhead 51 = .ok (.iload_n 2, 1) := by decide +kernel
theorem dX9_isAhead_52 : decode cX9_isAhead 52 = .ok (.imul, 1) := by decide +kernel
theorem dX9_isAhead_53 : decode cX9_isAhead 53 = .ok (.iconst 3, 1) := by decide +kernel
theorem dX9_isAhead_54 : decode cX9_isAhead 54 = .ok (.iadd, 1) := by decide +kernel
theorem dX9_isAhead_55 : decode cX9_isAhead 55 = .ok (.iaload, 1) := by decide +kernel
theorem dX9_isAhead_56 : decode cX9_isAhead 56 = .ok (.goto 22, 3) := by decide +kernel
theorem dX9_isAhead_59 : decode cX9_isAhead 59 = .ok (.iload_n 3, 1) := by decide +kernel
theorem dX9_isAhead_60 : decode cX9_isAhead 60 = .ok (.iconst 4, 1) := by decide +kernel
theorem dX9_isAhead_61 : decode cX9_isAhead 61 = .ok (.if_icmp .ne 12, 3) := by decide +kernel
theorem dX9_isAhead_64 : decode cX9_isAhead 64 = .ok (.aload_n 0, 1) := by decide +kernel
theorem dX9_isAhead_65 : decode cX9_isAhead 65 = .ok (.getfield 19, 3) := by decide +kernel
theorem dX9_isAhead_68 : decode cX9_isAhead 68 = .ok (.iload_n 2, 1) := by decide +kernel
theorem dX9_isAhead_69 : decode cX9_isAhead 69 = .ok (.iaload, 1) := by decide +kernel
theorem dX9_isAhead_70 : decode cX9_isAhead 70 = .ok (.goto 8, 3) := by decide +kernel
theorem dX9_isAhead_73 : decode cX9_isAhead 73 = .ok (.aload_n 0, 1) := by decide +kernel
theorem dX9_isAhead_74 : decode cX9_isAhead 74 = .ok (.iload_n 2, 1) := by decide +kernel
theorem dX9_isAhead_75 : decode cX9_isAhead 75 = .ok (.invokevirtual 155, 3) := by decide +kernel
theorem dX9_isAhead_78 : decode cX9_isAhead 78 = .ok (.istore 5, 2) := by decide +kernel
theorem dX9_isAhead_80 : decode cX9_isAhead 80 = .ok (.iload 4, 2) := by decide +kernel
theorem dX9_isAhead_82 : decode cX9_isAhead 82 = .ok (.iload 5, 2) := by decide +kernel
theorem dX9_isAhead_84 : decode cX9_isAhead 84 = .ok (.if_icmp .lt 15, 3) := by decide +kernel
theorem dX9_isAhead_87 : decode cX9_isAhead 87 = .ok (.iload 4, 2) := by decide +kernel
theorem dX9_isAhead_89 : decode cX9_isAhead 89 = .ok (.iload 5, 2) := by decide +kernel
theorem dX9_isAhead_91 : decode cX9_isAhead 91 = .ok (.if_icmp .ne 12, 3) := by decide +kernel
theorem dX9_isAhead_94 : decode cX9_isAhead 94 = .ok (.iload_n 1, 1) := by decide +kernel
theorem dX9_isAhead_95 : decode cX9_isAhead 95 = .ok (.iload_n 2, 1) := by decide +kernel
theorem dX9_isAhead_96 : decode cX9_isAhead 96 = .ok (.if_icmp .ge 7, 3) := by decide +kernel
theorem dX9_isAhead_99 : decode cX9_isAhead 99 = .ok (.iconst 1, 1) := by decide +kernel
theorem dX9_isAhead_100 : decode cX9_isAhead 100 = .ok (.goto 4, 3) := by decide +kernel
theorem dX9_isAhead_103 : decode cX9_isAhead 103 = .ok (.iconst 0, 1) := by decide +kernel
theorem dX9_isAhead_104 : decode cX9_isAhead 104 = .ok (.ireturn, 1) := by decide +kernel
theorem dX9_placeOf_0 : decode cX9_placeOf 0 = .ok (.iconst 2, 1) := by decide +kernel
theorem dX9_placeOf_1 : decode cX9_placeOf 1 = .ok (.aload_n 0, 1) := by decide +kernel
theorem dX9_placeOf_2 : decode cX9_placeOf 2 = .ok (.getfield 13, 3) := by decide +kernel
theorem dX9_placeOf_5 : decode cX9_placeOf 5 = .ok (.bipush 6, 2) := by decide +kernel
theorem dX9_placeOf_7 : decode cX9_placeOf 7 = .ok (.iload_n 1, 1) := by decide +kernel
theorem dX9_placeOf_8 : decode cX9_placeOf 8 = .ok (.imul, 1) := by decide +kernel
theorem dX9_placeOf_9 : decode cX9_placeOf 9 = .ok (.iconst 1, 1) := by decide +kernel
theorem dX9_placeOf_10 : decode cX9_placeOf 10 = .ok (.iadd, 1) := by decide +kernel
theorem dX9_placeOf_11 : decode cX9_placeOf 11 = .ok (.iaload, 1) := by decide +kernel
theorem dX9_placeOf_12 : decode cX9_placeOf 12 = .ok (.imul, 1) := by decide +kernel
theorem dX9_placeOf_13 : decode cX9_placeOf 13 = .ok (.iconst 5, 1) := by decide +kernel
theorem dX9_placeOf_14 : decode cX9_placeOf 14 = .ok (.isub, 1) := by decide +kernel
theorem dX9_placeOf_15 : decode cX9_placeOf 15 = .ok (.istore_n 2, 1) := by decide +kernel
theorem dX9_placeOf_16 : decode cX9_placeOf 16 = .ok (.bipush 100, 2) := by decide +kernel
theorem dX9_placeOf_18 : decode cX9_placeOf 18 = .ok (.aload_n 0, 1) := by decide +kernel
theorem dX9_placeOf_19 : decode cX9_placeOf 19 = .ok (.getfield 13, 3) := by decide +kernel
theorem dX9_placeOf_22 : decode cX9_placeOf 22 = .ok (.bipush 6, 2) := by decide +kernel
theorem dX9_placeOf_24 : decode cX9_placeOf 24 = .ok (.iload_n 1, 1) := by decide +kernel
theorem dX9_placeOf_25 : decode cX9_placeOf 25 = .ok (.imul, 1) := by decide +kernel
theorem dX9_placeOf_26 : decode cX9_placeOf 26 = .ok (.iaload, 1) := by decide +kernel
theorem dX9_placeOf_27 : decode cX9_placeOf 27 = .ok (.imul, 1) := by decide +kernel
theorem dX9_placeOf_28 : decode cX9_placeOf 28 = .ok (.bipush 10, 2) := by decide +kernel
theorem dX9_placeOf_30 : decode cX9_placeOf 30 = .ok (.iload_n 2, 1) := by decide +kernel
theorem dX9_placeOf_31 : decode cX9_placeOf 31 = .ok (.ifCond .ge 8, 3) := by decide +kernel
theorem dX9_placeOf_34 : decode cX9_placeOf 34 = .ok (.iload_n 2, 1) := by decide +kernel
theorem dX9_placeOf_35 : decode cX9_placeOf 35 = .ok (.ineg, 1) := by decide +kernel
theorem dX9_placeOf_36 : decode cX9_placeOf 36 = .ok (.goto 4, 3) := by decide +kernel
theorem dX9_placeOf_39 : decode cX9_placeOf 39 = .ok (.iload_n 2, 1) := by decide +kernel
theorem dX9_placeOf_40 : decode cX9_placeOf 40 = .ok (.imul, 1) := by decide +kernel
theorem dX9_placeOf_41 : decode cX9_placeOf 41 = .ok (.iadd, 1) := by decide +kernel
theorem dX9_placeOf_42 : decode cX9_placeOf 42 = .ok (.aload_n 0, 1) := by decide +kernel
theorem dX9_placeOf_43 : decode cX9_placeOf 43 = .ok (.getfield 13, 3) := by decide +kernel
theorem dX9_placeOf_46 : decode cX9_placeOf 46 = .ok (.bipush 6, 2) := by decide +kernel
theorem dX9_placeOf_48 : decode cX9_placeOf 48 = .ok (.iload_n 1, 1) := by decide +kernel
theorem dX9_placeOf_49 : decode cX9_placeOf 49 = .ok (.imul, 1) := by decide +kernel
theorem dX9_placeOf_50 : decode cX9_placeOf 50 = .ok (.iconst 1, 1) := by decide +kernel
theorem dX9_placeOf_51 : decode cX9_placeOf 51 = .ok (.iadd, 1) := by decide +kernel
theorem dX9_placeOf_52 : decode cX9_placeOf 52 = .ok (.iaload, 1) := by decide +kernel
theorem dX9_placeOf_53 : decode cX9_placeOf 53 = .ok (.iadd, 1) := by decide +kernel
theorem dX9_placeOf_54 : decode cX9_placeOf 54 = .ok (.ireturn, 1) := by decide +kernel
theorem dX9_takenOf_0 : decode cX9_takenOf 0 = .ok (.iload_n 3, 1) := by decide +kernel
theorem dX9_takenOf_1 : decode cX9_takenOf 1 = .ok (.iconst 3, 1) := by decide +kernel
theorem dX9_takenOf_2 : decode cX9_takenOf 2 = .ok (.if_icmp .ne 18, 3) := by decide +kernel
theorem dX9_takenOf_5 : decode cX9_takenOf 5 = .ok (.aload_n 0, 1) := by decide +kernel
theorem dX9_takenOf_6 : decode cX9_takenOf 6 = .ok (.invokevirtual 145, 3) := by decide +kernel
theorem dX9_takenOf_9 : decode cX9_takenOf 9 = .ok (.ldc2_w 158, 3) := by decide +kernel
theorem dX9_takenOf_12 : decode cX9_takenOf 12 = .ok (.aload_n 0, 1) := by decide +kernel
theorem dX9_takenOf_13 : decode cX9_takenOf 13 = .ok (.getfield 97, 3) := by decide +kernel
theorem dX9_takenOf_16 : decode cX9_takenOf 16 = .ok (.i2l, 1) := by decide +kernel
theorem dX9_takenOf_17 : decode cX9_takenOf 17 = .ok (.ldiv, 1) := by decide +kernel
theorem dX9_takenOf_18 : decode cX9_takenOf 18 = .ok (.lmul, 1) := by decide +kernel
theorem dX9_takenOf_19 : decode cX9_takenOf 19 = .ok (.lreturn, 1) := by decide +kernel
theorem dX9_takenOf_20 : decode cX9_takenOf 20 = .ok (.iload_n 3, 1) := by decide +kernel
theorem dX9_takenOf_21 : decode cX9_takenOf 21 = .ok (.iconst 2, 1) := by decide +kernel
theorem dX9_takenOf_22 : decode cX9_takenOf 22 = .ok (.if_icmp .eq 80, 3) := by decide +kernel
theorem dX9_takenOf_25 : decode cX9_takenOf 25 = .ok (.aload_n 0, 1) := by decide +kernel
theorem dX9_takenOf_26 : decode cX9_takenOf 26 = .ok (.iload_n 1, 1) := by decide +kernel
theorem dX9_takenOf_27 : decode cX9_takenOf 27 = .ok (.iload_n 2, 1) := by decide +kernel
theorem dX9_takenOf_28 : decode cX9_takenOf 28 = .ok (.invokevirtual 124, 3) := by decide +kernel
theorem dX9_takenOf_31 : decode cX9_takenOf 31 = .ok (.i2l, 1) := by decide +kernel
theorem dX9_takenOf_32 : decode cX9_takenOf 32 = .ok (.lstore 4, 2) := by decide +kernel
theorem dX9_takenOf_34 : decode cX9_takenOf 34 = .ok (.iconst 0, 1) := by decide +kernel
theorem dX9_takenOf_35 : decode cX9_takenOf 35 = .ok (.istore 6, 2) := by decide +kernel
theorem dX9_takenOf_37 : decode cX9_takenOf 37 = .ok (.iload 6, 2) := by decide +kernel
theorem dX9_takenOf_39 : decode cX9_takenOf 39 = .ok (.aload_n 0, 1) := by decide +kernel
theorem dX9_takenOf_40 : decode cX9_takenOf 40 = .ok (.getfield 97, 3) := by decide +kernel
theorem dX9_takenOf_43 : decode cX9_takenOf 43 = .ok (.if_icmp .ge 52, 3) := by decide +kernel
theorem dX9_takenOf_46 : decode cX9_takenOf 46 = .ok (.lload 4, 2) := by decide +kernel
theorem dX9_takenOf_48 : decode cX9_takenOf 48 = .ok (.iload 6, 2) := by decide +kernel
theorem dX9_takenOf_50 : decode cX9_takenOf 50 = .ok (.iload_n 1, 1) := by decide +kernel
theorem dX9_takenOf_51 : decode cX9_takenOf 51 = .ok (.if_icmp .ne 7, 3) := by decide +kernel
theorem dX9_takenOf_54 : decode cX9_takenOf 54 = .ok (.lconst 1, 1) := by decide +kernel
theorem dX9_takenOf_55 : decode cX9_takenOf 55 = .ok (.goto 31, 3) := by decide +kernel
theorem dX9_takenOf_58 : decode cX9_takenOf 58 = .ok (.aload_n 0, 1) := by decide +kernel
theorem dX9_takenOf_59 : decode cX9_takenOf 59 = .ok (.iload 6, 2) := by decide +kernel
theorem dX9_takenOf_61 : decode cX9_takenOf 61 = .ok (.iload_n 1, 1) := by decide +kernel
theorem dX9_takenOf_62 : decode cX9_takenOf 62 = .ok (.iload_n 3, 1) := by decide +kernel
theorem dX9_takenOf_63 : decode cX9_takenOf 63 = .ok (.invokevirtual 160, 3) := by decide +kernel
theorem dX9_takenOf_66 : decode cX9_takenOf 66 = .ok (.ifCond .eq 17, 3) := by decide +kernel
theorem dX9_takenOf_69 : decode cX9_takenOf 69 = .ok (.bipush 10, 2) := by decide +kernel
theorem dX9_takenOf_71 : decode cX9_takenOf 71 = .ok (.aload_n 0, 1) := by decide +kernel
theorem dX9_takenOf_72 : decode cX9_takenOf 72 = .ok (.iload 6, 2) := by decide +kernel
theorem dX9_takenOf_74 : decode cX9_takenOf 74 = .ok (.iload_n 2, 1) := by decide +kernel
theorem dX9_takenOf_75 : decode cX9_takenOf 75 = .ok (.invokevirtual 124, 3) := by decide +kernel
theorem dX9_takenOf_78 : decode cX9_takenOf 78 = .ok (.isub, 1) := by decide +kernel
theorem dX9_takenOf_79 : decode cX9_takenOf 79 = .ok (.i2l, 1) := by decide +kernel
theorem dX9_takenOf_80 : decode cX9_takenOf 80 = .ok (.goto 6, 3) := by decide +kernel
theorem dX9_takenOf_83 : decode cX9_takenOf 83 = .ok (.ldc2_w 131, 3) := by decide +kernel
theorem dX9_takenOf_86 : decode cX9_takenOf 86 = .ok (.lmul, 1) := by decide +kernel
theorem dX9_takenOf_87 : decode cX9_takenOf 87 = .ok (.lstore 4, 2) := by decide +kernel
theorem dX9_takenOf_89 : decode cX9_takenOf 89 = .ok (.iinc 6 1, 3) := by decide +kernel
theorem dX9_takenOf_92 : decode cX9_takenOf 92 = .ok (.goto (-55), 3) := by decide +kernel
theorem dX9_takenOf_95 : decode cX9_takenOf 95 = .ok (.lload 4, 2) := by decide +kernel
theorem dX9_takenOf_97 : decode cX9_takenOf 97 = .ok (.ldc2_w 158, 3) := by decide +kernel
theorem dX9_takenOf_100 : decode cX9_takenOf 100 = .ok (.lmul, 1) := by decide +kernel
theorem dX9_takenOf_101 : decode cX9_takenOf 101 = .ok (.lreturn, 1) := by decide +kernel
theorem dX9_takenOf_102 : decode cX9_takenOf 102 = .ok (.iconst 0, 1) := by decide +kernel
theorem dX9_takenOf_103 : decode cX9_takenOf 103 = .ok (.istore 4, 2) := by decide +kernel
theorem dX9_takenOf_105 : decode cX9_takenOf 105 = .ok (.iload 4, 2) := by decide +kernel
theorem dX9_takenOf_107 : decode cX9_takenOf 107 = .ok (.bipush 13, 2) := by decide +kernel
theorem dX9_takenOf_109 : decode cX9_takenOf 109 = .ok (.if_icmp .ge 32, 3) := by decide +kernel
theorem dX9_takenOf_112 : decode cX9_takenOf 112 = .ok (.aload_n 0, 1) := by decide +kernel
theorem dX9_takenOf_113 : decode cX9_takenOf 113 = .ok (.getfield 29, 3) := by decide +kernel
theorem dX9_takenOf_116 : decode cX9_takenOf 116 = .ok (.iload 4, 2) := by decide +kernel
theorem dX9_takenOf_118 : decode cX9_takenOf 118 = .ok (.iload 4, 2) := by decide +kernel
theorem dX9_takenOf_120 : decode cX9_takenOf 120 = .ok (.ifCond .ne 13, 3) := by decide +kernel
theorem dX9_takenOf_123 : decode cX9_takenOf 123 = .ok (.aload_n 0, 1) := by decide +kernel
theorem dX9_takenOf_124 : decode cX9_takenOf 124 = .ok (.iload_n 1, 1) := by decide +kernel
theorem dX9_takenOf_125 : decode cX9_takenOf 125 = .ok (.iload_n 2, 1) := by decide +kernel
theorem dX9_takenOf_126 : decode cX9_takenOf 126 = .ok (.invokevirtual 124, 3) := by decide +kernel
theorem dX9_takenOf_129 : decode cX9_takenOf 129 = .ok (.i2l, 1) := by decide +kernel
theorem dX9_takenOf_130 : decode cX9_takenOf 130 = .ok (.goto 4, 3) := by decide +kernel
theorem dX9_takenOf_133 : decode cX9_takenOf 133 = .ok (.lconst 0, 1) := by decide +kernel
theorem dX9_takenOf_134 : decode cX9_takenOf 134 = .ok (.lastore, 1) := by decide +kernel
theorem dX9_takenOf_135 : decode cX9_takenOf 135 = .ok (.iinc 4 1, 3) := by decide +kernel
theorem dX9_takenOf_138 : decode cX9_takenOf 138 = .ok (.goto (-33), 3) := by decide +kernel
theorem dX9_takenOf_141 : decode cX9_takenOf 141 = .ok (.iconst 0, 1) := by decide +kernel
theorem dX9_takenOf_142 : decode cX9_takenOf 142 = .ok (.istore 4, 2) := by decide +kernel
theorem dX9_takenOf_144 : decode cX9_takenOf 144 = .ok (.iload 4, 2) := by decide +kernel
theorem dX9_takenOf_146 : decode cX9_takenOf 146 = .ok (.aload_n 0, 1) := by decide +kernel
theorem dX9_takenOf_147 : decode cX9_takenOf 147 = .ok (.getfield 97, 3) := by decide +kernel
theorem dX9_takenOf_150 : decode cX9_takenOf 150 = .ok (.if_icmp .ge 84, 3) := by decide +kernel
theorem dX9_takenOf_153 : decode cX9_takenOf 153 = .ok (.bipush 12, 2) := by decide +kernel
theorem dX9_takenOf_155 : decode cX9_takenOf 155 = .ok (.istore 5, 2) := by decide +kernel
theorem dX9_takenOf_157 : decode cX9_takenOf 157 = .ok (.iload 5, 2) := by decide +kernel
theorem dX9_takenOf_159 : decode cX9_takenOf 159 = .ok (.ifCond .lt 69, 3) := by decide +kernel
theorem dX9_takenOf_162 : decode cX9_takenOf 162 = .ok (.iload 4, 2) := by decide +kernel
theorem dX9_takenOf_164 : decode cX9_takenOf 164 = .ok (.iload_n 1, 1) := by decide +kernel
theorem dX9_takenOf_165 : decode cX9_takenOf 165 = .ok (.if_icmp .eq 63, 3) := by decide +kernel
theorem dX9_takenOf_168 : decode cX9_takenOf 168 = .ok (.aload_n 0, 1) := by decide +kernel
theorem dX9_takenOf_169 : decode cX9_takenOf 169 = .ok (.getfield 29, 3) := by decide +kernel
theorem dX9_takenOf_172 : decode cX9_takenOf 172 = .ok (.iload 5, 2) := by decide +kernel
theorem dX9_takenOf_174 : decode cX9_takenOf 174 = .ok (.aload_n 0, 1) := by decide +kernel
theorem dX9_takenOf_175 : decode cX9_takenOf 175 = .ok (.getfield 29, 3) := by decide +kernel
theorem dX9_takenOf_178 : decode cX9_takenOf 178 = .ok (.iload 5, 2) := by decide +kernel
theorem dX9_takenOf_180 : decode cX9_takenOf 180 = .ok (.laload, 1) := by decide +kernel
theorem dX9_takenOf_181 : decode cX9_takenOf 181 = .ok (.bipush 10, 2) := by decide +kernel
theorem dX9_takenOf_183 : decode cX9_takenOf 183 = .ok (.aload_n 0, 1) := by decide +kernel
theorem dX9_takenOf_184 : decode cX9_takenOf 184 = .ok (.iload 4, 2) := by decide +kernel
theorem dX9_takenOf_186 : decode cX9_takenOf 186 = .ok (.iload_n 2, 1) := by decide +kernel
theorem dX9_takenOf_187 : decode cX9_takenOf 187 = .ok (.invokevirtual 124, 3) := by decide +kernel
theorem dX9_takenOf_190 : decode cX9_takenOf 190 = .ok (.isub, 1) := by decide +kernel
theorem dX9_takenOf_191 : decode cX9_takenOf 191 = .ok (.i2l, 1) := by decide +kernel
theorem dX9_takenOf_192 : decode cX9_takenOf 192 = .ok (.lmul, 1) := by decide +kernel
theorem dX9_takenOf_193 : decode cX9_takenOf 193 = .ok (.iload 5, 2) := by decide +kernel
theorem dX9_takenOf_195 : decode cX9_takenOf 195 = .ok (.ifCond .le 24, 3) := by decide +kernel
theorem dX9_takenOf_198 : decode cX9_takenOf 198 = .ok (.aload_n 0, 1) := by decide +kernel
theorem dX9_takenOf_199 : decode cX9_takenOf 199 = .ok (.getfield 29, 3) := by decide +kernel
theorem dX9_takenOf_202 : decode cX9_takenOf 202 = .ok (.iload 5, 2) := by decide +kernel
theorem dX9_takenOf_204 : decode cX9_takenOf 204 = .ok (.iconst 1, 1) := by decide +kernel
theorem dX9_takenOf_205 : decode cX9_takenOf 205 = .ok (.isub, 1) := by decide +kernel
theorem dX9_takenOf_206 : decode cX9_takenOf 206 = .ok (.laload, 1) := by decide +kernel
theorem dX9_takenOf_207 : decode cX9_takenOf 207 = .ok (.aload_n 0, 1) := by decide +kernel
theorem dX9_takenOf_208 : decode cX9_takenOf 208 = .ok (.iload 4, 2) := by decide +kernel
theorem dX9_takenOf_210 : decode cX9_takenOf 210 = .ok (.iload_n 2, 1) := by decide +kernel
theorem dX9_takenOf_211 : decode cX9_takenOf 211 = .ok (.invokevirtual 124, 3) := by decide +kernel
theorem dX9_takenOf_214 : decode cX9_takenOf 214 = .ok (.i2l, 1) := by decide +kernel
theorem dX9_takenOf_215 : decode cX9_takenOf 215 = .ok (.lmul, 1) := by decide +kernel
theorem dX9_takenOf_216 : decode cX9_takenOf 216 = .ok (.goto 4, 3) := by decide +kernel
theorem dX9_takenOf_219 : decode cX9_takenOf 219 = .ok (.lconst 0, 1) := by decide +kernel
theorem dX9_takenOf_220 : decode cX9_takenOf 220 = .ok (.ladd, 1) := by decide +kernel
theorem dX9_takenOf_221 : decode cX9_takenOf 221 = .ok (.lastore, 1) := by decide +kernel
theorem dX9_takenOf_222 : decode cX9_takenOf 222 = .ok (.iinc 5 (-1), 3) := by decide +kernel
theorem dX9_takenOf_225 : decode cX9_takenOf 225 = .ok (.goto (-68), 3) := by decide +kernel
theorem dX9_takenOf_228 : decode cX9_takenOf 228 = .ok (.iinc 4 1, 3) := by decide +kernel
theorem dX9_takenOf_231 : decode cX9_takenOf 231 = .ok (.goto (-87), 3) := by decide +kernel
theorem dX9_takenOf_234 : decode cX9_takenOf 234 = .ok (.lconst 0, 1) := by decide +kernel
theorem dX9_takenOf_235 : decode cX9_takenOf 235 = .ok (.lstore 4, 2) := by decide +kernel
theorem dX9_takenOf_237 : decode cX9_takenOf 237 = .ok (.iconst 0, 1) := by decide +kernel
theorem dX9_takenOf_238 : decode cX9_takenOf 238 = .ok (.istore 6, 2) := by decide +kernel
theorem dX9_takenOf_240 : decode cX9_takenOf 240 = .ok (.iload 6, 2) := by decide +kernel
theorem dX9_takenOf_242 : decode cX9_takenOf 242 = .ok (.bipush 12, 2) := by decide +kernel
theorem dX9_takenOf_244 : decode cX9_takenOf 244 = .ok (.if_icmp .ge 31, 3) := by decide +kernel
theorem dX9_takenOf_247 : decode cX9_takenOf 247 = .ok (.lload 4, 2) := by decide +kernel
theorem dX9_takenOf_249 : decode cX9_takenOf 249 = .ok (.aload_n 0, 1) := by decide +kernel
theorem dX9_takenOf_250 : decode cX9_takenOf 250 = .ok (.getfield 29, 3) := by decide +kernel
theorem dX9_takenOf_253 : decode cX9_takenOf 253 = .ok (.iload 6, 2) := by decide +kernel
theorem dX9_takenOf_255 : decode cX9_takenOf 255 = .ok (.laload, 1) := by decide +kernel
theorem dX9_takenOf_256 : decode cX9_takenOf 256 = .ok (.ldc2_w 158, 3) := by decide +kernel
theorem dX9_takenOf_259 : decode cX9_takenOf 259 = .ok (.iload 6, 2) := by decide +kernel
theorem dX9_takenOf_261 : decode cX9_takenOf 261 = .ok (.iconst 1, 1) := by decide +kernel
theorem dX9_takenOf_262 : decode cX9_takenOf 262 = .ok (.iadd, 1) := by decide +kernel
theorem dX9_takenOf_263 : decode cX9_takenOf 263 = .ok (.i2l, 1) := by decide +kernel
theorem dX9_takenOf_264 : decode cX9_takenOf 264 = .ok (.ldiv, 1) := by decide +kernel
theorem dX9_takenOf_265 : decode cX9_takenOf 265 = .ok (.lmul, 1) := by decide +kernel
theorem dX9_takenOf_266 : decode cX9_takenOf 266 = .ok (.ladd, 1) := by decide +kernel
theorem dX9_takenOf_267 : decode cX9_takenOf 267 = .ok (.lstore 4, 2) := by decide +kernel
theorem dX9_takenOf_269 : decode cX9_takenOf 269 = .ok (.iinc 6 1, 3) := by decide +kernel
theorem dX9_takenOf_272 : decode cX9_takenOf 272 = .ok (.goto (-32), 3) := by decide +kernel
theorem dX9_takenOf_275 : decode cX9_takenOf 275 = .ok (.lload 4, 2) := by decide +kernel
theorem dX9_takenOf_277 : decode cX9_takenOf 277 = .ok (.lreturn, 1) := by decide +kernel
theorem dX9_taken_0 : decode cX9_taken 0 = .ok (.aload_n 0, 1) := by decide +kernel
theorem dX9_taken_1 : decode cX9_taken 1 = .ok (.iload_n 1, 1) := by decide +kernel
theorem dX9_taken_2 : decode cX9_taken 2 = .ok (.invokevirtual 115, 3) := by decide +kernel
theorem dX9_taken_5 : decode cX9_taken 5 = .ok (.ifCond .eq 10, 3) := by decide +kernel
theorem dX9_taken_8 : decode cX9_taken 8 = .ok (.iload_n 3, 1) := by decide +kernel
theorem dX9_taken_9 : decode cX9_taken 9 = .ok (.invokestatic 164, 3) := by decide +kernel
theorem dX9_taken_12 : decode cX9_taken 12 = .ok (.ifCond .ne 7, 3) := by decide +kernel
theorem dX9_taken_15 : decode cX9_taken 15 = .ok (.ldc2_w 167, 3) := by decide +kernel
theorem dX9_taken_18 : decode cX9_taken 18 = .ok (.lreturn, 1) := by decide +kernel
theorem dX9_taken_19 : decode cX9_taken 19 = .ok (.iload_n 2, 1) := by decide +kernel
theorem dX9_taken_20 : decode cX9_taken 20 = .ok (.invokestatic 121, 3) := by decide +kernel
theorem dX9_taken_23 : decode cX9_taken 23 = .ok (.ifCond .eq 26, 3) := by decide +kernel
theorem dX9_taken_26 : decode cX9_taken 26 = .ok (.aload_n 0, 1) := by decide +kernel
theorem dX9_taken_27 : decode cX9_taken 27 = .ok (.iload_n 1, 1) := by decide +kernel
theorem dX9_taken_28 : decode cX9_taken 28 = .ok (.iload_n 2, 1) := by decide +kernel
theorem dX9_taken_29 : decode cX9_taken 29 = .ok (.iload_n 3, 1) := by decide +kernel
theorem dX9_taken_30 : decode cX9_taken 30 = .ok (.invokevirtual 169, 3) := by decide +kernel
theorem dX9_taken_33 : decode cX9_taken 33 = .ok (.aload_n 0, 1) := by decide +kernel
theorem dX9_taken_34 : decode cX9_taken 34 = .ok (.invokevirtual 145, 3) := by decide +kernel
theorem dX9_taken_37 : decode cX9_taken 37 = .ok (.ldc2_w 158, 3) := by decide +kernel
theorem dX9_taken_40 : decode cX9_taken 40 = .ok (.lmul, 1) := by decide +kernel
theorem dX9_taken_41 : decode cX9_taken 41 = .ok (.iload 4, 2) := by decide +kernel
theorem dX9_taken_43 : decode cX9_taken 43 = .ok (.invokestatic 149, 3) := by decide +kernel
theorem dX9_taken_46 : decode cX9_taken 46 = .ok (.goto 6, 3) := by decide +kernel
theorem dX9_taken_49 : decode cX9_taken 49 = .ok (.ldc2_w 135, 3) := by decide +kernel
theorem dX9_taken_52 : decode cX9_taken 52 = .ok (.lreturn, 1) := by decide +kernel
theorem dX9_right_0 : decode cX9_right 0 = .ok (.iload_n 2, 1) := by decide +kernel
theorem dX9_right_1 : decode cX9_right 1 = .ok (.invokestatic 164, 3) := by decide +kernel
theorem dX9_right_4 : decode cX9_right 4 = .ok (.ifCond .ne 7, 3) := by decide +kernel
theorem dX9_right_7 : decode cX9_right 7 = .ok (.ldc2_w 167, 3) := by decide +kernel
theorem dX9_right_10 : decode cX9_right 10 = .ok (.lreturn, 1) := by decide +kernel
theorem dX9_right_11 : decode cX9_right 11 = .ok (.iload_n 1, 1) := by decide +kernel
theorem dX9_right_12 : decode cX9_right 12 = .ok (.invokestatic 121, 3) := by decide +kernel
theorem dX9_right_15 : decode cX9_right 15 = .ok (.ifCond .ne 7, 3) := by decide +kernel
theorem dX9_right_18 : decode cX9_right 18 = .ok (.ldc2_w 135, 3) := by decide +kernel
theorem dX9_right_21 : decode cX9_right 21 = .ok (.lreturn, 1) := by decide +kernel
theorem dX9_right_22 : decode cX9_right 22 = .ok (.lconst 0, 1) := by decide +kernel
theorem dX9_right_23 : decode cX9_right 23 = .ok (.lstore 4, 2) := by decide +kernel
theorem dX9_right_25 : decode cX9_right 25 = .ok (.iconst 0, 1) := by decide +kernel
theorem dX9_right_26 : decode cX9_right 26 = .ok (.istore 6, 2) := by decide +kernel
theorem dX9_right_28 : decode cX9_right 28 = .ok (.iload 6, 2) := by decide +kernel
theorem dX9_right_30 : decode cX9_right 30 = .ok (.aload_n 0, 1) := by decide +kernel
theorem dX9_right_31 : decode cX9_right 31 = .ok (.getfield 97, 3) := by decide +kernel
theorem dX9_right_34 : decode cX9_right 34 = .ok (.if_icmp .ge 85, 3) := by decide +kernel
theorem dX9_right_37 : decode cX9_right 37 = .ok (.aload_n 0, 1) := by decide +kernel
theorem dX9_right_38 : decode cX9_right 38 = .ok (.getfield 13, 3) := by decide +kernel
theorem dX9_right_41 : decode cX9_right 41 = .ok (.bipush 6, 2) := by decide +kernel
theorem dX9_right_43 : decode cX9_right 43 = .ok (.iload 6, 2) := by decide +kernel
theorem dX9_right_45 : decode cX9_right 45 = .ok (.imul, 1) := by decide +kernel
theorem dX9_right_46 : decode cX9_right 46 = .ok (.iconst 3, 1) := by decide +kernel
theorem dX9_right_47 : decode cX9_right 47 = .ok (.iadd, 1) := by decide +kernel
theorem dX9_right_48 : decode cX9_right 48 = .ok (.iaload, 1) := by decide +kernel
theorem dX9_right_49 : decode cX9_right 49 = .ok (.iload_n 1, 1) := by decide +kernel
theorem dX9_right_50 : decode cX9_right 50 = .ok (.if_icmp .le 7, 3) := by decide +kernel
theorem dX9_right_53 : decode cX9_right 53 = .ok (.iconst 0, 1) := by decide +kernel
theorem dX9_right_54 : decode cX9_right 54 = .ok (.goto 40, 3) := by decide +kernel
theorem dX9_right_57 : decode cX9_right 57 = .ok (.iload_n 2, 1) := by decide +kernel
theorem dX9_right_58 : decode cX9_right 58 = .ok (.iconst 3, 1) := by decide +kernel
theorem dX9_right_59 : decode cX9_right 59 = .ok (.if_icmp .eq 23, 3) := by decide +kernel
theorem dX9_right_62 : decode cX9_right 62 = .ok (.aload_n 0, 1) := by decide +kernel
theorem dX9_right_63 : decode cX9_right 63 = .ok (.getfield 13, 3) := by decide +kernel
theorem dX9_right_66 : decode cX9_right 66 = .ok (.bipush 6, 2) := by decide +kernel
theorem dX9_right_68 : decode cX9_right 68 = .ok (.iload 6, 2) := by decide +kernel
theorem dX9_right_70 : decode cX9_right 70 = .ok (.imul, 1) := by decide +kernel
theorem dX9_right_71 : decode cX9_right 71 = .ok (.iconst 5, 1) := by decide +kernel
theorem dX9_right_72 : decode cX9_right 72 = .ok (.iadd, 1) := by decide +kernel
theorem dX9_right_73 : decode cX9_right 73 = .ok (.iaload, 1) := by decide +kernel
theorem dX9_right_74 : decode cX9_right 74 = .ok (.ifCond .ne 8, 3) := by decide +kernel
theorem dX9_right_77 : decode cX9_right 77 = .ok (.bipush 10, 2) := by decide +kernel
theorem dX9_right_79 : decode cX9_right 79 = .ok (.goto 15, 3) := by decide +kernel
theorem dX9_right_82 : decode cX9_right 82 = .ok (.aload_n 0, 1) := by decide +kernel
theorem dX9_right_83 : decode cX9_right 83 = .ok (.getfield 13, 3) := by decide +kernel
theorem dX9_right_86 : decode cX9_right 86 = .ok (.bipush 6, 2) := by decide +kernel
theorem dX9_right_88 : decode cX9_right 88 = .ok (.iload 6, 2) := by decide +kernel
theorem dX9_right_90 : decode cX9_right 90 = .ok (.imul, 1) := by decide +kernel
theorem dX9_right_91 : decode cX9_right 91 = .ok (.iconst 2, 1) := by decide +kernel
theorem dX9_right_92 : decode cX9_right 92 = .ok (.iadd, 1) := by decide +kernel
theorem dX9_right_93 : decode cX9_right 93 = .ok (.iaload, 1) := by decide +kernel
theorem dX9_right_94 : decode cX9_right 94 = .ok (.istore 7, 2) := by decide +kernel
theorem dX9_right_96 : decode cX9_right 96 = .ok (.lload 4, 2) := by decide +kernel
theorem dX9_right_98 : decode cX9_right 98 = .ok (.aload_n 0, 1) := by decide +kernel
theorem dX9_right_99 : decode cX9_right 99 = .ok (.iload 6, 2) := by decide +kernel
theorem dX9_right_101 : decode cX9_right 101 = .ok (.iload_n 1, 1) := by decide +kernel
theorem dX9_right_102 : decode cX9_right 102 = .ok (.iload_n 2, 1) := by decide +kernel
theorem dX9_right_103 : decode cX9_right 103 = .ok (.invokevirtual 169, 3) := by decide +kernel
theorem dX9_right_106 : decode cX9_right 106 = .ok (.iload 7, 2) := by decide +kernel
theorem dX9_right_108 : decode cX9_right 108 = .ok (.i2l, 1) := by decide +kernel
theorem dX9_right_109 : decode cX9_right 109 = .ok (.lmul, 1) := by decide +kernel
theorem dX9_right_110 : decode cX9_right 110 = .ok (.ladd, 1) := by decide +kernel
theorem dX9_right_111 : decode cX9_right 111 = .ok (.lstore 4, 2) := by decide +kernel
theorem dX9_right_113 : decode cX9_right 113 = .ok (.iinc 6 1, 3) := by decide +kernel
theorem dX9_right_116 : decode cX9_right 116 = .ok (.goto (-88), 3) := by decide +kernel
theorem dX9_right_119 : decode cX9_right 119 = .ok (.lload 4, 2) := by decide +kernel
theorem dX9_right_121 : decode cX9_right 121 = .ok (.aload_n 0, 1) := by decide +kernel
theorem dX9_right_122 : decode cX9_right 122 = .ok (.invokevirtual 145, 3) := by decide +kernel
theorem dX9_right_125 : decode cX9_right 125 = .ok (.ldc2_w 158, 3) := by decide +kernel
theorem dX9_right_128 : decode cX9_right 128 = .ok (.lmul, 1) := by decide +kernel
theorem dX9_right_129 : decode cX9_right 129 = .ok (.ldc2_w 131, 3) := by decide +kernel
theorem dX9_right_132 : decode cX9_right 132 = .ok (.lmul, 1) := by decide +kernel
theorem dX9_right_133 : decode cX9_right 133 = .ok (.iload_n 3, 1) := by decide +kernel
theorem dX9_right_134 : decode cX9_right 134 = .ok (.invokestatic 149, 3) := by decide +kernel
theorem dX9_right_137 : decode cX9_right 137 = .ok (.lreturn, 1) := by decide +kernel
theorem dX9_mostly_0 : decode cX9_mostly 0 = .ok (.iload_n 2, 1) := by decide +kernel
theorem dX9_mostly_1 : decode cX9_mostly 1 = .ok (.invokestatic 164, 3) := by decide +kernel
theorem dX9_mostly_4 : decode cX9_mostly 4 = .ok (.ifCond .ne 5, 3) := by decide +kernel
theorem dX9_mostly_7 : decode cX9_mostly 7 = .ok (.iconst (-1), 1) := by decide +kernel
theorem dX9_mostly_8 : decode cX9_mostly 8 = .ok (.ireturn, 1) := by decide +kernel
theorem dX9_mostly_9 : decode cX9_mostly 9 = .ok (.iload_n 1, 1) := by decide +kernel
theorem dX9_mostly_10 : decode cX9_mostly 10 = .ok (.invokestatic 121, 3) := by decide +kernel
theorem dX9_mostly_13 : decode cX9_mostly 13 = .ok (.ifCond .ne 6, 3) := by decide +kernel
theorem dX9_mostly_16 : decode cX9_mostly 16 = .ok (.bipush (-2), 2) := by decide +kernel
theorem dX9_mostly_18 : decode cX9_mostly 18 = .ok (.ireturn, 1) := by decide +kernel
theorem dX9_mostly_19 : decode cX9_mostly 19 = .ok (.bipush (-9), 2) := by decide +kernel
theorem dX9_mostly_21 : decode cX9_mostly 21 = .ok (.istore_n 3, 1) := by decide +kernel
theorem dX9_mostly_22 : decode cX9_mostly 22 = .ok (.lconst 0, 1) := by decide +kernel
theorem dX9_mostly_23 : decode cX9_mostly 23 = .ok (.lstore 4, 2) := by decide +kernel
theorem dX9_mostly_25 : decode cX9_mostly 25 = .ok (.iconst 0, 1) := by decide +kernel
theorem dX9_mostly_26 : decode cX9_mostly 26 = .ok (.istore 6, 2) := by decide +kernel
theorem dX9_mostly_28 : decode cX9_mostly 28 = .ok (.iload 6, 2) := by decide +kernel
theorem dX9_mostly_30 : decode cX9_mostly 30 = .ok (.aload_n 0, 1) := by decide +kernel
theorem dX9_mostly_31 : decode cX9_mostly 31 = .ok (.getfield 97, 3) := by decide +kernel
theorem dX9_mostly_34 : decode cX9_mostly 34 = .ok (.if_icmp .ge 51, 3) := by decide +kernel
theorem dX9_mostly_37 : decode cX9_mostly 37 = .ok (.aload_n 0, 1) := by decide +kernel
theorem dX9_mostly_38 : decode cX9_mostly 38 = .ok (.iload 6, 2) := by decide +kernel
theorem dX9_mostly_40 : decode cX9_mostly 40 = .ok (.iload_n 1, 1) := by decide +kernel
theorem dX9_mostly_41 : decode cX9_mostly 41 = .ok (.iload_n 2, 1) := by decide +kernel
theorem dX9_mostly_42 : decode cX9_mostly 42 = .ok (.invokevirtual 169, 3) := by decide +kernel
theorem dX9_mostly_45 : decode cX9_mostly 45 = .ok (.lstore 7, 2) := by decide +kernel
theorem dX9_mostly_47 : decode cX9_mostly 47 = .ok (.lload 7, 2) := by decide +kernel
theorem dX9_mostly_49 : decode cX9_mostly 49 = .ok (.lload 4, 2) := by decide +kernel
theorem dX9_mostly_51 : decode cX9_mostly 51 = .ok (.lcmp, 1) := by decide +kernel
theorem dX9_mostly_52 : decode cX9_mostly 52 = .ok (.ifCond .le 8, 3) := by decide +kernel
theorem dX9_mostly_55 : decode cX9_mostly 55 = .ok (.iload 6, 2) := by decide +kernel
theorem dX9_mostly_57 : decode cX9_mostly 57 = .ok (.goto 4, 3) := by decide +kernel
theorem dX9_mostly_60 : decode cX9_mostly 60 = .ok (.iload_n 3, 1) := by decide +kernel
theorem dX9_mostly_61 : decode cX9_mostly 61 = .ok (.istore_n 3, 1) := by decide +kernel
theorem dX9_mostly_62 : decode cX9_mostly 62 = .ok (.lload 7, 2) := by decide +kernel
theorem dX9_mostly_64 : decode cX9_mostly 64 = .ok (.lload 4, 2) := by decide +kernel
theorem dX9_mostly_66 : decode cX9_mostly 66 = .ok (.lcmp, 1) := by decide +kernel
theorem dX9_mostly_67 : decode cX9_mostly 67 = .ok (.ifCond .le 8, 3) := by decide +kernel
theorem dX9_mostly_70 : decode cX9_mostly 70 = .ok (.lload 7, 2) := by decide +kernel
theorem dX9_mostly_72 : decode cX9_mostly 72 = .ok (.goto 5, 3) := by decide +kernel
theorem dX9_mostly_75 : decode cX9_mostly 75 = .ok (.lload 4, 2) := by decide +kernel
theorem dX9_mostly_77 : decode cX9_mostly 77 = .ok (.lstore 4, 2) := by decide +kernel
theorem dX9_mostly_79 : decode cX9_mostly 79 = .ok (.iinc 6 1, 3) := by decide +kernel
theorem dX9_mostly_82 : decode cX9_mostly 82 = .ok (.goto (-54), 3) := by decide +kernel
theorem dX9_mostly_85 : decode cX9_mostly 85 = .ok (.iload_n 3, 1) := by decide +kernel
theorem dX9_mostly_86 : decode cX9_mostly 86 = .ok (.ireturn, 1) := by decide +kernel
theorem dX9_await_0 : decode cX9_await 0 = .ok (.iload_n 1, 1) := by decide +kernel
theorem dX9_await_1 : decode cX9_await 1 = .ok (.i2l, 1) := by decide +kernel
theorem dX9_await_2 : decode cX9_await 2 = .ok (.lconst 0, 1) := by decide +kernel
theorem dX9_await_3 : decode cX9_await 3 = .ok (.ldc2_w 173, 3) := by decide +kernel
theorem dX9_await_6 : decode cX9_await 6 = .ok (.invokestatic 66, 3) := by decide +kernel
theorem dX9_await_9 : decode cX9_await 9 = .ok (.ifCond .eq 15, 3) := by decide +kernel
theorem dX9_await_12 : decode cX9_await 12 = .ok (.iload_n 2, 1) := by decide +kernel
theorem dX9_await_13 : decode cX9_await 13 = .ok (.i2l, 1) := by decide +kernel
theorem dX9_await_14 : decode cX9_await 14 = .ok (.lconst 0, 1) := by decide +kernel
theorem dX9_await_15 : decode cX9_await 15 = .ok (.ldc2_w 173, 3) := by decide +kernel
theorem dX9_await_18 : decode cX9_await 18 = .ok (.invokestatic 66, 3) := by decide +kernel
theorem dX9_await_21 : decode cX9_await 21 = .ok (.ifCond .ne 6, 3) := by decide +kernel
theorem dX9_await_24 : decode cX9_await 24 = .ok (.bipush (-2), 2) := by decide +kernel
theorem dX9_await_26 : decode cX9_await 26 = .ok (.ireturn, 1) := by decide +kernel
theorem dX9_await_27 : decode cX9_await 27 = .ok (.iconst 0, 1) := by decide +kernel
theorem dX9_await_28 : decode cX9_await 28 = .ok (.istore_n 3, 1) := by decide +kernel
theorem dX9_await_29 : decode cX9_await 29 = .ok (.iconst 1, 1) := by decide +kernel
theorem dX9_await_30 : decode cX9_await 30 = .ok (.istore 4, 2) := by decide +kernel
theorem dX9_await_32 : decode cX9_await 32 = .ok (.iload 4, 2) := by decide +kernel
theorem dX9_await_34 : decode cX9_await 34 = .ok (.bipush 10, 2) := by decide +kernel
theorem dX9_await_36 : decode cX9_await 36 = .ok (.if_icmp .ge 49, 3) := by decide +kernel
theorem dX9_await_39 : decode cX9_await 39 = .ok (.iload_n 1, 1) := by decide +kernel
theorem dX9_await_40 : decode cX9_await 40 = .ok (.aload_n 0, 1) := by decide +kernel
theorem dX9_await_41 : decode cX9_await 41 = .ok (.iload 4, 2) := by decide +kernel
theorem dX9_await_43 : decode cX9_await 43 = .ok (.invokevirtual 128, 3) := by decide +kernel
theorem dX9_await_46 : decode cX9_await 46 = .ok (.imul, 1) := by decide +kernel
theorem dX9_await_47 : decode cX9_await 47 = .ok (.bipush 10, 2) := by decide +kernel
theorem dX9_await_49 : decode cX9_await 49 = .ok (.iload_n 2, 1) := by decide +kernel
theorem dX9_await_50 : decode cX9_await 50 = .ok (.imul, 1) := by decide +kernel
theorem dX9_await_51 : decode cX9_await 51 = .ok (.iload 4, 2) := by decide +kernel
theorem dX9_await_53 : decode cX9_await 53 = .ok (.imul, 1) := by decide +kernel
theorem dX9_await_54 : decode cX9_await 54 = .ok (.isub, 1) := by decide +kernel
theorem dX9_await_55 : decode cX9_await 55 = .ok (.iload_n 1, 1) := by decide +kernel
theorem dX9_await_56 : decode cX9_await 56 = .ok (.aload_n 0, 1) := by decide +kernel
theorem dX9_await_57 : decode cX9_await 57 = .ok (.iload_n 3, 1) := by decide +kernel
theorem dX9_await_58 : decode cX9_await 58 = .ok (.invokevirtual 128, 3) := by decide +kernel
theorem dX9_await_61 : decode cX9_await 61 = .ok (.imul, 1) := by decide +kernel
theorem dX9_await_62 : decode cX9_await 62 = .ok (.bipush 10, 2) := by decide +kernel
theorem dX9_await_64 : decode cX9_await 64 = .ok (.iload_n 2, 1) := by decide +kernel
theorem dX9_await_65 : decode cX9_await 65 = .ok (.imul, 1) := by decide +kernel
theorem dX9_await_66 : decode cX9_await 66 = .ok (.iload_n 3, 1) := by decide +kernel
theorem dX9_await_67 : decode cX9_await 67 = .ok (.imul, 1) := by decide +kernel
theorem dX9_await_68 : decode cX9_await 68 = .ok (.isub, 1) := by decide +kernel
theorem dX9_await_69 : decode cX9_await 69 = .ok (.if_icmp .le 8, 3) := by decide +kernel
theorem dX9_await_72 : decode cX9_await 72 = .ok (.iload 4, 2) := by decide +kernel
theorem dX9_await_74 : decode cX9_await 74 = .ok (.goto 4, 3) := by decide +kernel
theorem dX9_await_77 : decode cX9_await 77 = .ok (.iload_n 3, 1) := by decide +kernel
theorem dX9_await_78 : decode cX9_await 78 = .ok (.istore_n 3, 1) := by decide +kernel
theorem dX9_await_79 : decode cX9_await 79 = .ok (.iinc 4 1, 3) := by decide +kernel
theorem dX9_await_82 : decode cX9_await 82 = .ok (.goto (-50), 3) := by decide +kernel
theorem dX9_await_85 : decode cX9_await 85 = .ok (.iload_n 3, 1) := by decide +kernel
theorem dX9_await_86 : decode cX9_await 86 = .ok (.ireturn, 1) := by decide +kernel
theorem dX9_isKnown_0 : decode cX9_isKnown 0 = .ok (.iload_n 1, 1) := by decide +kernel
theorem dX9_isKnown_1 : decode cX9_isKnown 1 = .ok (.i2l, 1) := by decide +kernel
theorem dX9_isKnown_2 : decode cX9_isKnown 2 = .ok (.lconst 0, 1) := by decide +kernel
theorem dX9_isKnown_3 : decode cX9_isKnown 3 = .ok (.iconst 1, 1) := by decide +kernel
theorem dX9_isKnown_4 : decode cX9_isKnown 4 = .ok (.aload_n 0, 1) := by decide +kernel
theorem dX9_isKnown_5 : decode cX9_isKnown 5 = .ok (.getfield 97, 3) := by decide +kernel
theorem dX9_isKnown_8 : decode cX9_isKnown 8 = .ok (.ishl, 1) := by decide +kernel
theorem dX9_isKnown_9 : decode cX9_isKnown 9 = .ok (.iconst 1, 1) := by decide +kernel
theorem dX9_isKnown_10 : decode cX9_isKnown 10 = .ok (.isub, 1) := by decide +kernel
theorem dX9_isKnown_11 : decode cX9_isKnown 11 = .ok (.i2l, 1) := by decide +kernel
theorem dX9_isKnown_12 : decode cX9_isKnown 12 = .ok (.invokestatic 66, 3) := by decide +kernel
theorem dX9_isKnown_15 : decode cX9_isKnown 15 = .ok (.ireturn, 1) := by decide +kernel
theorem dX9_raisedOf_0 : decode cX9_raisedOf 0 = .ok (.iconst 0, 1) := by decide +kernel
theorem dX9_raisedOf_1 : decode cX9_raisedOf 1 = .ok (.istore_n 3, 1) := by decide +kernel
theorem dX9_raisedOf_2 : decode cX9_raisedOf 2 = .ok (.iconst 0, 1) := by decide +kernel
theorem dX9_raisedOf_3 : decode cX9_raisedOf 3 = .ok (.istore 4, 2) := by decide +kernel
theorem dX9_raisedOf_5 : decode cX9_raisedOf 5 = .ok (.iload 4, 2) := by decide +kernel
theorem dX9_raisedOf_7 : decode cX9_raisedOf 7 = .ok (.aload_n 0, 1) := by decide +kernel
theorem dX9_raisedOf_8 : decode cX9_raisedOf 8 = .ok (.getfield 97, 3) := by decide +kernel
theorem dX9_raisedOf_11 : decode cX9_raisedOf 11 = .ok (.if_icmp .ge 88, 3) := by decide +kernel
theorem dX9_raisedOf_14 : decode cX9_raisedOf 14 = .ok (.aload_n 0, 1) := by decide +kernel
theorem dX9_raisedOf_15 : decode cX9_raisedOf 15 = .ok (.getfield 13, 3) := by decide +kernel
theorem dX9_raisedOf_18 : decode cX9_raisedOf 18 = .ok (.bipush 6, 2) := by decide +kernel
theorem dX9_raisedOf_20 : decode cX9_raisedOf 20 = .ok (.iload 4, 2) := by decide +kernel
theorem dX9_raisedOf_22 : decode cX9_raisedOf 22 = .ok (.imul, 1) := by decide +kernel
theorem dX9_raisedOf_23 : decode cX9_raisedOf 23 = .ok (.iconst 5, 1) := by decide +kernel
theorem dX9_raisedOf_24 : decode cX9_raisedOf 24 = .ok (.iadd, 1) := by decide +kernel
theorem dX9_raisedOf_25 : decode cX9_raisedOf 25 = .ok (.iaload, 1) := by decide +kernel
theorem dX9_raisedOf_26 : decode cX9_raisedOf 26 = .ok (.iconst 1, 1) := by decide +kernel
theorem dX9_raisedOf_27 : decode cX9_raisedOf 27 = .ok (.if_icmp .eq 29, 3) := by decide +kernel
theorem dX9_raisedOf_30 : decode cX9_raisedOf 30 = .ok (.iload_n 1, 1) := by decide +kernel
theorem dX9_raisedOf_31 : decode cX9_raisedOf 31 = .ok (.iload 4, 2) := by decide +kernel
theorem dX9_raisedOf_33 : decode cX9_raisedOf 33 = .ok (.ishr, 1) := by decide +kernel
theorem dX9_raisedOf_34 : decode cX9_raisedOf 34 = .ok (.iconst 1, 1) := by decide +kernel
theorem dX9_raisedOf_35 : decode cX9_raisedOf 35 = .ok (.iand, 1) := by decide +kernel
theorem dX9_raisedOf_36 : decode cX9_raisedOf 36 = .ok (.iconst 1, 1) := by decide +kernel
theorem dX9_raisedOf_37 : decode cX9_raisedOf 37 = .ok (.if_icmp .ne 23, 3) := by decide +kernel
theorem dX9_raisedOf_40 : decode cX9_raisedOf 40 = .ok (.aload_n 0, 1) := by decide +kernel
theorem dX9_raisedOf_41 : decode cX9_raisedOf 41 = .ok (.getfield 13, 3) := by decide +kernel
theorem dX9_raisedOf_44 : decode cX9_raisedOf 44 = .ok (.bipush 6, 2) := by decide +kernel
theorem dX9_raisedOf_46 : decode cX9_raisedOf 46 = .ok (.iload 4, 2) := by decide +kernel
theorem dX9_raisedOf_48 : decode cX9_raisedOf 48 = .ok (.imul, 1) := by decide +kernel
theorem dX9_raisedOf_49 : decode cX9_raisedOf 49 = .ok (.iconst 3, 1) := by decide +kernel
theorem dX9_raisedOf_50 : decode cX9_raisedOf 50 = .ok (.iadd, 1) := by decide +kernel
theorem dX9_raisedOf_51 : decode cX9_raisedOf 51 = .ok (.iaload, 1) := by decide +kernel
theorem dX9_raisedOf_52 : decode cX9_raisedOf 52 = .ok (.iload_n 2, 1) := by decide +kernel
theorem dX9_raisedOf_53 : decode cX9_raisedOf 53 = .ok (.if_icmp .gt 7, 3) := by decide +kernel
theorem dX9_raisedOf_56 : decode cX9_raisedOf 56 = .ok (.iconst 1, 1) := by decide +kernel
theorem dX9_raisedOf_57 : decode cX9_raisedOf 57 = .ok (.goto 4, 3) := by decide +kernel
theorem dX9_raisedOf_60 : decode cX9_raisedOf 60 = .ok (.iconst 0, 1) := by decide +kernel
theorem dX9_raisedOf_61 : decode cX9_raisedOf 61 = .ok (.istore 5, 2) := by decide +kernel
theorem dX9_raisedOf_63 : decode cX9_raisedOf 63 = .ok (.iload_n 3, 1) := by decide +kernel
theorem dX9_raisedOf_64 : decode cX9_raisedOf 64 = .ok (.iload 5, 2) := by decide +kernel
theorem dX9_raisedOf_66 : decode cX9_raisedOf 66 = .ok (.ifCond .eq 24, 3) := by decide +kernel
theorem dX9_raisedOf_69 : decode cX9_raisedOf 69 = .ok (.aload_n 0, 1) := by decide +kernel
theorem dX9_raisedOf_70 : decode cX9_raisedOf 70 = .ok (.getfield 16, 3) := by decide +kernel
theorem dX9_raisedOf_73 : decode cX9_raisedOf 73 = .ok (.iload 4, 2) := by decide +kernel
theorem dX9_raisedOf_75 : decode cX9_raisedOf 75 = .ok (.iaload, 1) := by decide +kernel
theorem dX9_raisedOf_76 : decode cX9_raisedOf 76 = .ok (.aload_n 0, 1) := by decide +kernel
theorem dX9_raisedOf_77 : decode cX9_raisedOf 77 = .ok (.getfield 60, 3) := by decide +kernel
theorem dX9_raisedOf_80 : decode cX9_raisedOf 80 = .ok (.if_icmp .lt 10, 3) := by decide +kernel
theorem dX9_raisedOf_83 : decode cX9_raisedOf 83 = .ok (.iconst 1, 1) := by decide +kernel
theorem dX9_raisedOf_84 : decode cX9_raisedOf 84 = .ok (.iload 4, 2) := by decide +kernel
theorem dX9_raisedOf_86 : decode cX9_raisedOf 86 = .ok (.ishl, 1) := by decide +kernel
theorem dX9_raisedOf_87 : decode cX9_raisedOf 87 = .ok (.goto 4, 3) := by decide +kernel
theorem dX9_raisedOf_90 : decode cX9_raisedOf 90 = .ok (.iconst 0, 1) := by decide +kernel
theorem dX9_raisedOf_91 : decode cX9_raisedOf 91 = .ok (.ior, 1) := by decide +kernel
theorem dX9_raisedOf_92 : decode cX9_raisedOf 92 = .ok (.istore_n 3, 1) := by decide +kernel
theorem dX9_raisedOf_93 : decode cX9_raisedOf 93 = .ok (.iinc 4 1, 3) := by decide +kernel
theorem dX9_raisedOf_96 : decode cX9_raisedOf 96 = .ok (.goto (-91), 3) := by decide +kernel
theorem dX9_raisedOf_99 : decode cX9_raisedOf 99 = .ok (.iload_n 3, 1) := by decide +kernel
theorem dX9_raisedOf_100 : decode cX9_raisedOf 100 = .ok (.ireturn, 1) := by decide +kernel
theorem dX9_raised_0 : decode cX9_raised 0 = .ok (.aload_n 0, 1) := by decide +kernel
theorem dX9_raised_1 : decode cX9_raised 1 = .ok (.iload_n 1, 1) := by decide +kernel
theorem dX9_raised_2 : decode cX9_raised 2 = .ok (.invokevirtual 175, 3) := by decide +kernel
theorem dX9_raised_5 : decode cX9_raised 5 = .ok (.ifCond .eq 19, 3) := by decide +kernel
theorem dX9_raised_8 : decode cX9_raised 8 = .ok (.iload_n 2, 1) := by decide +kernel
theorem dX9_raised_9 : decode cX9_raised 9 = .ok (.invokestatic 121, 3) := by decide +kernel
theorem dX9_raised_12 : decode cX9_raised 12 = .ok (.ifCond .eq 12, 3) := by decide +kernel
theorem dX9_raised_15 : decode cX9_raised 15 = .ok (.aload_n 0, 1) := by decide +kernel
theorem dX9_raised_16 : decode cX9_raised 16 = .ok (.iload_n 1, 1) := by decide +kernel
theorem dX9_raised_17 : decode cX9_raised 17 = .ok (.iload_n 2, 1) := by decide +kernel
theorem dX9_raised_18 : decode cX9_raised 18 = .ok (.invokevirtual 178, 3) := by decide +kernel
theorem dX9_raised_21 : decode cX9_raised 21 = .ok (.goto 5, 3) := by decide +kernel
theorem dX9_raised_24 : decode cX9_raised 24 = .ok (.bipush (-2), 2) := by decide +kernel
theorem dX9_raised_26 : decode cX9_raised 26 = .ok (.ireturn, 1) := by decide +kernel
theorem dX9_silent_0 : decode cX9_silent 0 = .ok (.aload_n 0, 1) := by decide +kernel
theorem dX9_silent_1 : decode cX9_silent 1 = .ok (.iload_n 1, 1) := by decide +kernel
theorem dX9_silent_2 : decode cX9_silent 2 = .ok (.invokevirtual 175, 3) := by decide +kernel
theorem dX9_silent_5 : decode cX9_silent 5 = .ok (.ifCond .eq 23, 3) := by decide +kernel
theorem dX9_silent_8 : decode cX9_silent 8 = .ok (.iload_n 2, 1) := by decide +kernel
theorem dX9_silent_9 : decode cX9_silent 9 = .ok (.invokestatic 121, 3) := by decide +kernel
theorem dX9_silent_12 : decode cX9_silent 12 = .ok (.ifCond .eq 16, 3) := by decide +kernel
theorem dX9_silent_15 : decode cX9_silent 15 = .ok (.iload_n 1, 1) := by decide +kernel
theorem dX9_silent_16 : decode cX9_silent 16 = .ok (.aload_n 0, 1) := by decide +kernel
theorem dX9_silent_17 : decode cX9_silent 17 = .ok (.iload_n 1, 1) := by decide +kernel
theorem dX9_silent_18 : decode cX9_silent 18 = .ok (.iload_n 2, 1) := by decide +kernel
theorem dX9_silent_19 : decode cX9_silent 19 = .ok (.invokevirtual 178, 3) := by decide +kernel
theorem dX9_silent_22 : decode cX9_silent 22 = .ok (.iconst (-1), 1) := by decide +kernel
theorem dX9_silent_23 : decode cX9_silent 23 = .ok (.ixor, 1) := by decide +kernel
theorem dX9_silent_24 : decode cX9_silent 24 = .ok (.iand, 1) := by decide +kernel
theorem dX9_silent_25 : decode cX9_silent 25 = .ok (.goto 5, 3) := by decide +kernel
theorem dX9_silent_28 : decode cX9_silent 28 = .ok (.bipush (-2), 2) := by decide +kernel
theorem dX9_silent_30 : decode cX9_silent 30 = .ok (.ireturn, 1) := by decide +kernel
theorem dX9_seed_0 : decode cX9_seed 0 = .ok (.aload_n 0, 1) := by decide +kernel
theorem dX9_seed_1 : decode cX9_seed 1 = .ok (.getfield 100, 3) := by decide +kernel
theorem dX9_seed_4 : decode cX9_seed 4 = .ok (.lstore_n 3, 1) := by decide +kernel
theorem dX9_seed_5 : decode cX9_seed 5 = .ok (.aload_n 0, 1) := by decide +kernel
theorem dX9_seed_6 : decode cX9_seed 6 = .ok (.lload_n 1, 1) := by decide +kernel
theorem dX9_seed_7 : decode cX9_seed 7 = .ok (.putfield 100, 3) := by decide +kernel
theorem dX9_seed_10 : decode cX9_seed 10 = .ok (.lload_n 3, 1) := by decide +kernel
theorem dX9_seed_11 : decode cX9_seed 11 = .ok (.lreturn, 1) := by decide +kernel
theorem dX9_ones_0 : decode cX9_ones 0 = .ok (.iconst 0, 1) := by decide +kernel
theorem dX9_ones_1 : decode cX9_ones 1 = .ok (.istore_n 1, 1) := by decide +kernel
theorem dX9_ones_2 : decode cX9_ones 2 = .ok (.iconst 0, 1) := by decide +kernel
theorem dX9_ones_3 : decode cX9_ones 3 = .ok (.istore_n 2, 1) := by decide +kernel
theorem dX9_ones_4 : decode cX9_ones 4 = .ok (.iload_n 2, 1) := by decide +kernel
theorem dX9_ones_5 : decode cX9_ones 5 = .ok (.bipush 12, 2) := by decide +kernel
theorem dX9_ones_7 : decode cX9_ones 7 = .ok (.if_icmp .ge 17, 3) := by decide +kernel
theorem dX9_ones_10 : decode cX9_ones 10 = .ok (.iload_n 1, 1) := by decide +kernel
theorem dX9_ones_11 : decode cX9_ones 11 = .ok (.iload_n 0, 1) := by decide +kernel
theorem dX9_ones_12 : decode cX9_ones 12 = .ok (.iload_n 2, 1) := by decide +kernel
theorem dX9_ones_13 : decode cX9_ones 13 = .ok (.ishr, 1) := by decide +kernel
theorem dX9_ones_14 : decode cX9_ones 14 = .ok (.iconst 1, 1) := by decide +kernel
theorem dX9_ones_15 : decode cX9_ones 15 = .ok (.iand, 1) := by decide +kernel
theorem dX9_ones_16 : decode cX9_ones 16 = .ok (.iadd, 1) := by decide +kernel
theorem dX9_ones_17 : decode cX9_ones 17 = .ok (.istore_n 1, 1) := by decide +kernel
theorem dX9_ones_18 : decode cX9_ones 18 = .ok (.iinc 2 1, 3) := by decide +kernel
theorem dX9_ones_21 : decode cX9_ones 21 = .ok (.goto (-17), 3) := by decide +kernel
theorem dX9_ones_24 : decode cX9_ones 24 = .ok (.iload_n 1, 1) := by decide +kernel
theorem dX9_ones_25 : decode cX9_ones 25 = .ok (.ireturn, 1) := by decide +kernel
theorem dX9_drawOf_0 : decode cX9_drawOf 0 = .ok (.iload_n 1, 1) := by decide +kernel
theorem dX9_drawOf_1 : decode cX9_drawOf 1 = .ok (.ifCond .ne 6, 3) := by decide +kernel
theorem dX9_drawOf_4 : decode cX9_drawOf 4 = .ok (.bipush (-9), 2) := by decide +kernel
theorem dX9_drawOf_6 : decode cX9_drawOf 6 = .ok (.ireturn, 1) := by decide +kernel
theorem dX9_drawOf_7 : decode cX9_drawOf 7 = .ok (.aload_n 0, 1) := by decide +kernel
theorem dX9_drawOf_8 : decode cX9_drawOf 8 = .ok (.aload_n 0, 1) := by decide +kernel
theorem dX9_drawOf_9 : decode cX9_drawOf 9 = .ok (.getfield 100, 3) := by decide +kernel
theorem dX9_drawOf_12 : decode cX9_drawOf 12 = .ok (.ldc2_w 181, 3) := by decide +kernel
theorem dX9_drawOf_15 : decode cX9_drawOf 15 = .ok (.lmul, 1) := by decide +kernel
theorem dX9_drawOf_16 : decode cX9_drawOf 16 = .ok (.ldc2_w 183, 3) := by decide +kernel
theorem dX9_drawOf_19 : decode cX9_drawOf 19 = .ok (.ladd, 1) := by decide +kernel
theorem dX9_drawOf_20 : decode cX9_drawOf 20 = .ok (.putfield 100, 3) := by decide +kernel
theorem dX9_drawOf_23 : decode cX9_drawOf 23 = .ok (.aload_n 0, 1) := by decide +kernel
theorem dX9_drawOf_24 : decode cX9_drawOf 24 = .ok (.getfield 100, 3) := by decide +kernel
theorem dX9_drawOf_27 : decode cX9_drawOf 27 = .ok (.bipush 33, 2) := by decide +kernel
theorem dX9_drawOf_29 : decode cX9_drawOf 29 = .ok (.lushr, 1) := by decide +kernel
theorem dX9_drawOf_30 : decode cX9_drawOf 30 = .ok (.iload_n 1, 1) := by decide +kernel
theorem dX9_drawOf_31 : decode cX9_drawOf 31 = .ok (.invokestatic 185, 3) := by decide +kernel
theorem dX9_drawOf_34 : decode cX9_drawOf 34 = .ok (.i2l, 1) := by decide +kernel
theorem dX9_drawOf_35 : decode cX9_drawOf 35 = .ok (.lrem, 1) := by decide +kernel
theorem dX9_drawOf_36 : decode cX9_drawOf 36 = .ok (.l2i, 1) := by decide +kernel
theorem dX9_drawOf_37 : decode cX9_drawOf 37 = .ok (.istore_n 2, 1) := by decide +kernel
theorem dX9_drawOf_38 : decode cX9_drawOf 38 = .ok (.iconst 0, 1) := by decide +kernel
theorem dX9_drawOf_39 : decode cX9_drawOf 39 = .ok (.istore_n 3, 1) := by decide +kernel
theorem dX9_drawOf_40 : decode cX9_drawOf 40 = .ok (.iload_n 1, 1) := by decide +kernel
theorem dX9_drawOf_41 : decode cX9_drawOf 41 = .ok (.iload_n 3, 1) := by decide +kernel
theorem dX9_drawOf_42 : decode cX9_drawOf 42 = .ok (.ishr, 1) := by decide +kernel
theorem dX9_drawOf_43 : decode cX9_drawOf 43 = .ok (.iconst 1, 1) := by decide +kernel
theorem dX9_drawOf_44 : decode cX9_drawOf 44 = .ok (.iand, 1) := by decide +kernel
theorem dX9_drawOf_45 : decode cX9_drawOf 45 = .ok (.ifCond .eq 7, 3) := by decide +kernel
theorem dX9_drawOf_48 : decode cX9_drawOf 48 = .ok (.iload_n 2, 1) := by decide +kernel
theorem dX9_drawOf_49 : decode cX9_drawOf 49 = .ok (.ifCond .le 17, 3) := by decide +kernel
theorem dX9_drawOf_52 : decode cX9_drawOf 52 = .ok (.iload_n 2, 1) := by decide +kernel
theorem dX9_drawOf_53 : decode cX9_drawOf 53 = .ok (.iload_n 1, 1) := by decide +kernel
theorem dX9_drawOf_54 : decode cX9_drawOf 54 = .ok (.iload_n 3, 1) := by decide +kernel
theorem dX9_drawOf_55 : decode cX9_drawOf 55 = .ok (.ishr, 1) := by decide +kernel
theorem dX9_drawOf_56 : decode cX9_drawOf 56 = .ok (.iconst 1, 1) := by decide +kernel
theorem dX9_drawOf_57 : decode cX9_drawOf 57 = .ok (.iand, 1) := by decide +kernel
theorem dX9_drawOf_58 : decode cX9_drawOf 58 = .ok (.isub, 1) := by decide +kernel
theorem dX9_drawOf_59 : decode cX9_drawOf 59 = .ok (.istore_n 2, 1) := by decide +kernel
theorem dX9_drawOf_60 : decode cX9_drawOf 60 = .ok (.iinc 3 1, 3) := by decide +kernel
theorem dX9_drawOf_63 : decode cX9_drawOf 63 = .ok (.goto (-23), 3) := by decide +kernel
theorem dX9_drawOf_66 : decode cX9_drawOf 66 = .ok (.iload_n 3, 1) := by decide +kernel
theorem dX9_drawOf_67 : decode cX9_drawOf 67 = .ok (.ireturn, 1) := by decide +kernel
theorem dX9_takes_0 : decode cX9_takes 0 = .ok (.bipush (-9), 2) := by decide +kernel
theorem dX9_takes_2 : decode cX9_takes 2 = .ok (.istore_n 3, 1) := by decide +kernel
theorem dX9_takes_3 : decode cX9_takes 3 = .ok (.iconst 0, 1) := by decide +kernel
theorem dX9_takes_4 : decode cX9_takes 4 = .ok (.istore 4, 2) := by decide +kernel
theorem dX9_takes_6 : decode cX9_takes 6 = .ok (.iload 4, 2) := by decide +kernel
theorem dX9_takes_8 : decode cX9_takes 8 = .ok (.aload_n 0, 1) := by decide +kernel
theorem dX9_takes_9 : decode cX9_takes 9 = .ok (.getfield 97, 3) := by decide +kernel
theorem dX9_takes_12 : decode cX9_takes 12 = .ok (.if_icmp .ge 43, 3) := by decide +kernel
theorem dX9_takes_15 : decode cX9_takes 15 = .ok (.iload_n 1, 1) := by decide +kernel
theorem dX9_takes_16 : decode cX9_takes 16 = .ok (.iload 4, 2) := by decide +kernel
theorem dX9_takes_18 : decode cX9_takes 18 = .ok (.ishr, 1) := by decide +kernel
theorem dX9_takes_19 : decode cX9_takes 19 = .ok (.iconst 1, 1) := by decide +kernel
theorem dX9_takes_20 : decode cX9_takes 20 = .ok (.iand, 1) := by decide +kernel
theorem dX9_takes_21 : decode cX9_takes 21 = .ok (.iconst 1, 1) := by decide +kernel
theorem dX9_takes_22 : decode cX9_takes 22 = .ok (.if_icmp .ne 25, 3) := by decide +kernel
theorem dX9_takes_25 : decode cX9_takes 25 = .ok (.iload_n 3, 1) := by decide +kernel
theorem dX9_takes_26 : decode cX9_takes 26 = .ok (.bipush (-9), 2) := by decide +kernel
theorem dX9_takes_28 : decode cX9_takes 28 = .ok (.if_icmp .eq 14, 3) := by decide +kernel
theorem dX9_takes_31 : decode cX9_takes 31 = .ok (.aload_n 0, 1) := by decide +kernel
theorem dX9_takes_32 : decode cX9_takes 32 = .ok (.iload 4, 2) := by decide +kernel
theorem dX9_takes_34 : decode cX9_takes 34 = .ok (.iload_n 3, 1) := by decide +kernel
theorem dX9_takes_35 : decode cX9_takes 35 = .ok (.iload_n 2, 1) := by decide +kernel
theorem dX9_takes_36 : decode cX9_takes 36 = .ok (.invokevirtual 160, 3) := by decide +kernel
theorem dX9_takes_39 : decode cX9_takes 39 = .ok (.ifCond .eq 8, 3) := by decide +kernel
theorem dX9_takes_42 : decode cX9_takes 42 = .ok (.iload 4, 2) := by decide +kernel
theorem dX9_takes_44 : decode cX9_takes 44 = .ok (.goto 4, 3) := by decide +kernel
theorem dX9_takes_47 : decode cX9_takes 47 = .ok (.iload_n 3, 1) := by decide +kernel
theorem dX9_takes_48 : decode cX9_takes 48 = .ok (.istore_n 3, 1) := by decide +kernel
theorem dX9_takes_49 : decode cX9_takes 49 = .ok (.iinc 4 1, 3) := by decide +kernel
theorem dX9_takes_52 : decode cX9_takes 52 = .ok (.goto (-46), 3) := by decide +kernel
theorem dX9_takes_55 : decode cX9_takes 55 = .ok (.iload_n 3, 1) := by decide +kernel
theorem dX9_takes_56 : decode cX9_takes 56 = .ok (.ireturn, 1) := by decide +kernel
theorem dX9_ask_0 : decode cX9_ask 0 = .ok (.iload_n 3, 1) := by decide +kernel
theorem dX9_ask_1 : decode cX9_ask 1 = .ok (.invokestatic 164, 3) := by decide +kernel
theorem dX9_ask_4 : decode cX9_ask 4 = .ok (.ifCond .ne 5, 3) := by decide +kernel
theorem dX9_ask_7 : decode cX9_ask 7 = .ok (.iconst (-1), 1) := by decide +kernel
theorem dX9_ask_8 : decode cX9_ask 8 = .ok (.ireturn, 1) := by decide +kernel
theorem dX9_ask_9 : decode cX9_ask 9 = .ok (.aload_n 0, 1) := by decide +kernel
theorem dX9_ask_10 : decode cX9_ask 10 = .ok (.iload_n 1, 1) := by decide +kernel
theorem dX9_ask_11 : decode cX9_ask 11 = .ok (.invokevirtual 175, 3) := by decide +kernel
theorem dX9_ask_14 : decode cX9_ask 14 = .ok (.ifCond .eq 10, 3) := by decide +kernel
theorem dX9_ask_17 : decode cX9_ask 17 = .ok (.iload_n 2, 1) := by decide +kernel
theorem dX9_ask_18 : decode cX9_ask 18 = .ok (.invokestatic 121, 3) := by decide +kernel
theorem dX9_ask_21 : decode cX9_ask 21 = .ok (.ifCond .ne 6, 3) := by decide +kernel
theorem dX9_ask_24 : decode cX9_ask 24 = .ok (.bipush (-2), 2) := by decide +kernel
theorem dX9_ask_26 : decode cX9_ask 26 = .ok (.ireturn, 1) := by decide +kernel
theorem dX9_ask_27 : decode cX9_ask 27 = .ok (.aload_n 0, 1) := by decide +kernel
theorem dX9_ask_28 : decode cX9_ask 28 = .ok (.iload_n 1, 1) := by decide +kernel
theorem dX9_ask_29 : decode cX9_ask 29 = .ok (.iload_n 2, 1) := by decide +kernel
theorem dX9_ask_30 : decode cX9_ask 30 = .ok (.invokevirtual 178, 3) := by decide +kernel
theorem dX9_ask_33 : decode cX9_ask 33 = .ok (.istore 5, 2) := by decide +kernel
theorem dX9_ask_35 : decode cX9_ask 35 = .ok (.iload_n 3, 1) := by decide +kernel
theorem dX9_ask_36 : decode cX9_ask 36 = .ok (.iconst 2, 1) := by decide +kernel
theorem dX9_ask_37 : decode cX9_ask 37 = .ok (.if_icmp .ne 12, 3) := by decide +kernel
theorem dX9_ask_40 : decode cX9_ask 40 = .ok (.aload_n 0, 1) := by decide +kernel
theorem dX9_ask_41 : decode cX9_ask 41 = .ok (.iload 5, 2) := by decide +kernel
theorem dX9_ask_43 : decode cX9_ask 43 = .ok (.invokevirtual 188, 3) := by decide +kernel
theorem dX9_ask_46 : decode cX9_ask 46 = .ok (.goto 30, 3) := by decide +kernel
theorem dX9_ask_49 : decode cX9_ask 49 = .ok (.iload_n 3, 1) := by decide +kernel
theorem dX9_ask_50 : decode cX9_ask 50 = .ok (.iconst 3, 1) := by decide +kernel
theorem dX9_ask_51 : decode cX9_ask 51 = .ok (.if_icmp .ne 18, 3) := by decide +kernel
theorem dX9_ask_54 : decode cX9_ask 54 = .ok (.aload_n 0, 1) := by decide +kernel
theorem dX9_ask_55 : decode cX9_ask 55 = .ok (.iconst 1, 1) := by decide +kernel
theorem dX9_ask_56 : decode cX9_ask 56 = .ok (.aload_n 0, 1) := by decide +kernel
theorem dX9_ask_57 : decode cX9_ask 57 = .ok (.getfield 97, 3) := by decide +kernel
theorem dX9_ask_60 : decode cX9_ask 60 = .ok (.ishl, 1) := by decide +kernel
theorem dX9_ask_61 : decode cX9_ask 61 = .ok (.iconst 1, 1) := by decide +kernel
theorem dX9_ask_62 : decode cX9_ask 62 = .ok (.isub, 1) := by decide +kernel
theorem dX9_ask_63 : decode cX9_ask 63 = .ok (.invokevirtual 188, 3) := by decide +kernel
theorem dX9_ask_66 : decode cX9_ask 66 = .ok (.goto 10, 3) := by decide +kernel
theorem dX9_ask_69 : decode cX9_ask 69 = .ok (.aload_n 0, 1) := by decide +kernel
theorem dX9_ask_70 : decode cX9_ask 70 = .ok (.iload 5, 2) := by decide +kernel
theorem dX9_ask_72 : decode cX9_ask 72 = .ok (.iload_n 3, 1) := by decide +kernel
theorem dX9_ask_73 : decode cX9_ask 73 = .ok (.invokevirtual 191, 3) := by decide +kernel
theorem dX9_ask_76 : decode cX9_ask 76 = .ok (.istore 6, 2) := by decide +kernel
theorem dX9_ask_78 : decode cX9_ask 78 = .ok (.aload_n 0, 1) := by decide +kernel
theorem dX9_ask_79 : decode cX9_ask 79 = .ok (.dup, 1) := by decide +kernel
theorem dX9_ask_80 : decode cX9_ask 80 = .ok (.getfield 104, 3) := by decide +kernel
theorem dX9_ask_83 : decode cX9_ask 83 = .ok (.iconst 1, 1) := by decide +kernel
theorem dX9_ask_84 : decode cX9_ask 84 = .ok (.iadd, 1) := by decide +kernel
theorem dX9_ask_85 : decode cX9_ask 85 = .ok (.putfield 104, 3) := by decide +kernel
theorem dX9_ask_88 : decode cX9_ask 88 = .ok (.iload 6, 2) := by decide +kernel
theorem dX9_ask_90 : decode cX9_ask 90 = .ok (.bipush (-9), 2) := by decide +kernel
theorem dX9_ask_92 : decode cX9_ask 92 = .ok (.if_icmp .ne 6, 3) := by decide +kernel
theorem dX9_ask_95 : decode cX9_ask 95 = .ok (.bipush (-9), 2) := by decide +kernel
theorem dX9_ask_97 : decode cX9_ask 97 = .ok (.ireturn, 1) := by decide +kernel
theorem dX9_ask_98 : decode cX9_ask 98 = .ok (.aload_n 0, 1) := by decide +kernel
theorem dX9_ask_99 : decode cX9_ask 99 = .ok (.getfield 19, 3) := by decide +kernel
theorem dX9_ask_102 : decode cX9_ask 102 = .ok (.iload 6, 2) := by decide +kernel
theorem dX9_ask_104 : decode cX9_ask 104 = .ok (.dup2, 1) := by decide +kernel
theorem dX9_ask_105 : decode cX9_ask 105 = .ok (.iaload, 1) := by decide +kernel
theorem dX9_ask_106 : decode cX9_ask 106 = .ok (.iconst 1, 1) := by decide +kernel
theorem dX9_ask_107 : decode cX9_ask 107 = .ok (.iadd, 1) := by decide +kernel
theorem dX9_ask_108 : decode cX9_ask 108 = .ok (.iastore, 1) := by decide +kernel
theorem dX9_ask_109 : decode cX9_ask 109 = .ok (.iload_n 1, 1) := by decide +kernel
theorem dX9_ask_110 : decode cX9_ask 110 = .ok (.iload 6, 2) := by decide +kernel
theorem dX9_ask_112 : decode cX9_ask 112 = .ok (.ishr, 1) := by decide +kernel
theorem dX9_ask_113 : decode cX9_ask 113 = .ok (.iconst 1, 1) := by decide +kernel
theorem dX9_ask_114 : decode cX9_ask 114 = .ok (.iand, 1) := by decide +kernel
theorem dX9_ask_115 : decode cX9_ask 115 = .ok (.iconst 1, 1) := by decide +kernel
theorem dX9_ask_116 : decode cX9_ask 116 = .ok (.if_icmp .ne 23, 3) := by decide +kernel
theorem dX9_ask_119 : decode cX9_ask 119 = .ok (.aload_n 0, 1) := by decide +kernel
theorem dX9_ask_120 : decode cX9_ask 120 = .ok (.getfield 13, 3) := by decide +kernel
theorem dX9_ask_123 : decode cX9_ask 123 = .ok (.bipush 6, 2) := by decide +kernel
theorem dX9_ask_125 : decode cX9_ask 125 = .ok (.iload 6, 2) := by decide +kernel
theorem dX9_ask_127 : decode cX9_ask 127 = .ok (.imul, 1) := by decide +kernel
theorem dX9_ask_128 : decode cX9_ask 128 = .ok (.iconst 3, 1) := by decide +kernel
theorem dX9_ask_129 : decode cX9_ask 129 = .ok (.iadd, 1) := by decide +kernel
theorem dX9_ask_130 : decode cX9_ask 130 = .ok (.iaload, 1) := by decide +kernel
theorem dX9_ask_131 : decode cX9_ask 131 = .ok (.iload_n 2, 1) := by decide +kernel
theorem dX9_ask_132 : decode cX9_ask 132 = .ok (.if_icmp .gt 7, 3) := by decide +kernel
theorem dX9_ask_135 : decode cX9_ask 135 = .ok (.iconst 1, 1) := by decide +kernel
theorem dX9_ask_136 : decode cX9_ask 136 = .ok (.goto 4, 3) := by decide +kernel
theorem dX9_ask_139 : decode cX9_ask 139 = .ok (.iconst 0, 1) := by decide +kernel
theorem dX9_ask_140 : decode cX9_ask 140 = .ok (.istore 7, 2) := by decide +kernel
theorem dX9_ask_142 : decode cX9_ask 142 = .ok (.aload_n 0, 1) := by decide +kernel
theorem dX9_ask_143 : decode cX9_ask 143 = .ok (.getfield 16, 3) := by decide +kernel
theorem dX9_ask_146 : decode cX9_ask 146 = .ok (.iload 6, 2) := by decide +kernel
theorem dX9_ask_148 : decode cX9_ask 148 = .ok (.iaload, 1) := by decide +kernel
theorem dX9_ask_149 : decode cX9_ask 149 = .ok (.iload 7, 2) := by decide +kernel
theorem dX9_ask_151 : decode cX9_ask 151 = .ok (.ifCond .eq 7, 3) := by decide +kernel
theorem dX9_ask_154 : decode cX9_ask 154 = .ok (.iconst 1, 1) := by decide +kernel
theorem dX9_ask_155 : decode cX9_ask 155 = .ok (.goto 15, 3) := by decide +kernel
theorem dX9_ask_158 : decode cX9_ask 158 = .ok (.iload 4, 2) := by decide +kernel
theorem dX9_ask_160 : decode cX9_ask 160 = .ok (.ifCond .eq 8, 3) := by decide +kernel
theorem dX9_ask_163 : decode cX9_ask 163 = .ok (.bipush (-4), 2) := by decide +kernel
theorem dX9_ask_165 : decode cX9_ask 165 = .ok (.goto 5, 3) := by decide +kernel
theorem dX9_ask_168 : decode cX9_ask 168 = .ok (.bipush (-2), 2) := by decide +kernel
theorem dX9_ask_170 : decode cX9_ask 170 = .ok (.iadd, 1) := by decide +kernel
theorem dX9_ask_171 : decode cX9_ask 171 = .ok (.istore 8, 2) := by decide +kernel
theorem dX9_ask_173 : decode cX9_ask 173 = .ok (.aload_n 0, 1) := by decide +kernel
theorem dX9_ask_174 : decode cX9_ask 174 = .ok (.getfield 16, 3) := by decide +kernel
theorem dX9_ask_177 : decode cX9_ask 177 = .ok (.iload 6, 2) := by decide +kernel
theorem dX9_ask_179 : decode cX9_ask 179 = .ok (.iload 8, 2) := by decide +kernel
theorem dX9_ask_181 : decode cX9_ask 181 = .ok (.ifCond .ge 7, 3) := by decide +kernel
theorem dX9_ask_184 : decode cX9_ask 184 = .ok (.iconst 0, 1) := by decide +kernel
theorem dX9_ask_185 : decode cX9_ask 185 = .ok (.goto 17, 3) := by decide +kernel
theorem dX9_ask_188 : decode cX9_ask 188 = .ok (.iload 8, 2) := by decide +kernel
theorem dX9_ask_190 : decode cX9_ask 190 = .ok (.bipush 9, 2) := by decide +kernel
theorem dX9_ask_192 : decode cX9_ask 192 = .ok (.if_icmp .le 8, 3) := by decide +kernel
theorem dX9_ask_195 : decode cX9_ask 195 = .ok (.bipush 9, 2) := by decide +kernel
theorem dX9_ask_197 : decode cX9_ask 197 = .ok (.goto 5, 3) := by decide +kernel
theorem dX9_ask_200 : decode cX9_ask 200 = .ok (.iload 8, 2) := by decide +kernel
theorem dX9_ask_202 : decode cX9_ask 202 = .ok (.iastore, 1) := by decide +kernel
theorem dX9_ask_203 : decode cX9_ask 203 = .ok (.aload_n 0, 1) := by decide +kernel
theorem dX9_ask_204 : decode cX9_ask 204 = .ok (.dup, 1) := by decide +kernel
theorem dX9_ask_205 : decode cX9_ask 205 = .ok (.getfield 107, 3) := by decide +kernel
theorem dX9_ask_208 : decode cX9_ask 208 = .ok (.iload 7, 2) := by decide +kernel
theorem dX9_ask_210 : decode cX9_ask 210 = .ok (.ifCond .eq 7, 3) := by decide +kernel
theorem dX9_ask_213 : decode cX9_ask 213 = .ok (.iconst 1, 1) := by decide +kernel
theorem dX9_ask_214 : decode cX9_ask 214 = .ok (.goto 4, 3) := by decide +kernel
theorem dX9_ask_217 : decode cX9_ask 217 = .ok (.iconst 0, 1) := by decide +kernel
theorem dX9_ask_218 : decode cX9_ask 218 = .ok (.iadd, 1) := by decide +kernel
theorem dX9_ask_219 : decode cX9_ask 219 = .ok (.putfield 107, 3) := by decide +kernel
theorem dX9_ask_222 : decode cX9_ask 222 = .ok (.aload_n 0, 1) := by decide +kernel
theorem dX9_ask_223 : decode cX9_ask 223 = .ok (.dup, 1) := by decide +kernel
theorem dX9_ask_224 : decode cX9_ask 224 = .ok (.getfield 110, 3) := by decide +kernel
theorem dX9_ask_227 : decode cX9_ask 227 = .ok (.iload 7, 2) := by decide +kernel
theorem dX9_ask_229 : decode cX9_ask 229 = .ok (.ifCond .eq 7, 3) := by decide +kernel
theorem dX9_ask_232 : decode cX9_ask 232 = .ok (.iconst 0, 1) := by decide +kernel
theorem dX9_ask_233 : decode cX9_ask 233 = .ok (.goto 4, 3) := by decide +kernel
theorem dX9_ask_236 : decode cX9_ask 236 = .ok (.iconst 1, 1) := by decide +kernel
theorem dX9_ask_237 : decode cX9_ask 237 = .ok (.iadd, 1) := by decide +kernel
theorem dX9_ask_238 : decode cX9_ask 238 = .ok (.putfield 110, 3) := by decide +kernel
theorem dX9_ask_241 : decode cX9_ask 241 = .ok (.iload 6, 2) := by decide +kernel
theorem dX9_ask_243 : decode cX9_ask 243 = .ok (.ireturn, 1) := by decide +kernel
theorem dX9_lesson_0 : decode cX9_lesson 0 = .ok (.iconst 0, 1) := by decide +kernel
theorem dX9_lesson_1 : decode cX9_lesson 1 = .ok (.istore_n 2, 1) := by decide +kernel
theorem dX9_lesson_2 : decode cX9_lesson 2 = .ok (.iconst 0, 1) := by decide +kernel
theorem dX9_lesson_3 : decode cX9_lesson 3 = .ok (.istore_n 3, 1) := by decide +kernel
theorem dX9_lesson_4 : decode cX9_lesson 4 = .ok (.iconst 0, 1) := by decide +kernel
theorem dX9_lesson_5 : decode cX9_lesson 5 = .ok (.istore 4, 2) := by decide +kernel
theorem dX9_lesson_7 : decode cX9_lesson 7 = .ok (.iload 4, 2) := by decide +kernel
theorem dX9_lesson_9 : decode cX9_lesson 9 = .ok (.aload_n 0, 1) := by decide +kernel
theorem dX9_lesson_10 : decode cX9_lesson 10 = .ok (.getfield 97, 3) := by decide +kernel
theorem dX9_lesson_13 : decode cX9_lesson 13 = .ok (.if_icmp .ge 50, 3) := by decide +kernel
theorem dX9_lesson_16 : decode cX9_lesson 16 = .ok (.iload_n 2, 1) := by decide +kernel
theorem dX9_lesson_17 : decode cX9_lesson 17 = .ok (.aload_n 0, 1) := by decide +kernel
theorem dX9_lesson_18 : decode cX9_lesson 18 = .ok (.getfield 19, 3) := by decide +kernel
theorem dX9_lesson_21 : decode cX9_lesson 21 = .ok (.iload 4, 2) := by decide +kernel
theorem dX9_lesson_23 : decode cX9_lesson 23 = .ok (.iaload, 1) := by decide +kernel
theorem dX9_lesson_24 : decode cX9_lesson 24 = .ok (.ifCond .ne 7, 3) := by decide +kernel
theorem dX9_lesson_27 : decode cX9_lesson 27 = .ok (.iconst 1, 1) := by decide +kernel
theorem dX9_lesson_28 : decode cX9_lesson 28 = .ok (.goto 4, 3) := by decide +kernel
theorem dX9_lesson_31 : decode cX9_lesson 31 = .ok (.iconst 0, 1) := by decide +kernel
theorem dX9_lesson_32 : decode cX9_lesson 32 = .ok (.iadd, 1) := by decide +kernel
theorem dX9_lesson_33 : decode cX9_lesson 33 = .ok (.istore_n 2, 1) := by decide +kernel
theorem dX9_lesson_34 : decode cX9_lesson 34 = .ok (.aload_n 0, 1) := by decide +kernel
theorem dX9_lesson_35 : decode cX9_lesson 35 = .ok (.getfield 19, 3) := by decide +kernel
theorem dX9_lesson_38 : decode cX9_lesson 38 = .ok (.iload 4, 2) := by decide +kernel
theorem dX9_lesson_40 : decode cX9_lesson 40 = .ok (.iaload, 1) := by decide +kernel
theorem dX9_lesson_41 : decode cX9_lesson 41 = .ok (.iload_n 3, 1) := by decide +kernel
theorem dX9_lesson_42 : decode cX9_lesson 42 = .ok (.if_icmp .le 13, 3) := by decide +kernel
theorem dX9_lesson_45 : decode cX9_lesson 45 = .ok (.aload_n 0, 1) := by decide +kernel
theorem dX9_lesson_46 : decode cX9_lesson 46 = .ok (.getfield 19, 3) := by decide +kernel
theorem dX9_lesson_49 : decode cX9_lesson 49 = .ok (.iload 4, 2) := by decide +kernel
theorem dX9_lesson_51 : decode cX9_lesson 51 = .ok (.iaload, 1) := by decide +kernel
theorem dX9_lesson_52 : decode cX9_lesson 52 = .ok (.goto 4, 3) := by decide +kernel
theorem dX9_lesson_55 : decode cX9_lesson 55 = .ok (.iload_n 3, 1) := by decide +kernel
theorem dX9_lesson_56 : decode cX9_lesson 56 = .ok (.istore_n 3, 1) := by decide +kernel
theorem dX9_lesson_57 : decode cX9_lesson 57 = .ok (.iinc 4 1, 3) := by decide +kernel
theorem dX9_lesson_60 : decode cX9_lesson 60 = .ok (.goto (-53), 3) := by decide +kernel
theorem dX9_lesson_63 : decode cX9_lesson 63 = .ok (.iload_n 1, 1) := by decide +kernel
theorem dX9_lesson_64 : decode cX9_lesson 64 = .ok (.tableswitch 74 0 5 #[40, 45, 50, 55, 70, 72], 40) := by decide +kernel
theorem dX9_lesson_104 : decode cX9_lesson 104 = .ok (.aload_n 0, 1) := by decide +kernel
theorem dX9_lesson_105 : decode cX9_lesson 105 = .ok (.getfield 104, 3) := by decide +kernel
theorem dX9_lesson_108 : decode cX9_lesson 108 = .ok (.ireturn, 1) := by decide +kernel
theorem dX9_lesson_109 : decode cX9_lesson 109 = .ok (.aload_n 0, 1) := by decide +kernel
theorem dX9_lesson_110 : decode cX9_lesson 110 = .ok (.getfield 107, 3) := by decide +kernel
theorem dX9_lesson_113 : decode cX9_lesson 113 = .ok (.ireturn, 1) := by decide +kernel
theorem dX9_lesson_114 : decode cX9_lesson 114 = .ok (.aload_n 0, 1) := by decide +kernel
theorem dX9_lesson_115 : decode cX9_lesson 115 = .ok (.getfield 110, 3) := by decide +kernel
theorem dX9_lesson_118 : decode cX9_lesson 118 = .ok (.ireturn, 1) := by decide +kernel
theorem dX9_lesson_119 : decode cX9_lesson 119 = .ok (.aload_n 0, 1) := by decide +kernel
theorem dX9_lesson_120 : decode cX9_lesson 120 = .ok (.getfield 104, 3) := by decide +kernel
theorem dX9_lesson_123 : decode cX9_lesson 123 = .ok (.aload_n 0, 1) := by decide +kernel
theorem dX9_lesson_124 : decode cX9_lesson 124 = .ok (.getfield 107, 3) := by decide +kernel
theorem dX9_lesson_127 : decode cX9_lesson 127 = .ok (.isub, 1) := by decide +kernel
theorem dX9_lesson_128 : decode cX9_lesson 128 = .ok (.aload_n 0, 1) := by decide +kernel
theorem dX9_lesson_129 : decode cX9_lesson 129 = .ok (.getfield 110, 3) := by decide +kernel
theorem dX9_lesson_132 : decode cX9_lesson 132 = .ok (.isub, 1) := by decide +kernel
theorem dX9_lesson_133 : decode cX9_lesson 133 = .ok (.ireturn, 1) := by decide +kernel
theorem dX9_lesson_134 : decode cX9_lesson 134 = .ok (.iload_n 2, 1) := by decide +kernel
theorem dX9_lesson_135 : decode cX9_lesson 135 = .ok (.ireturn, 1) := by decide +kernel
theorem dX9_lesson_136 : decode cX9_lesson 136 = .ok (.iload_n 3, 1) := by decide +kernel
theorem dX9_lesson_137 : decode cX9_lesson 137 = .ok (.ireturn, 1) := by decide +kernel
theorem dX9_lesson_138 : decode cX9_lesson 138 = .ok (.bipush (-2), 2) := by decide +kernel
theorem dX9_lesson_140 : decode cX9_lesson 140 = .ok (.ireturn, 1) := by decide +kernel
theorem dX9_isGroup_0 : decode cX9_isGroup 0 = .ok (.iload_n 0, 1) := by decide +kernel
theorem dX9_isGroup_1 : decode cX9_isGroup 1 = .ok (.i2l, 1) := by decide +kernel
theorem dX9_isGroup_2 : decode cX9_isGroup 2 = .ok (.lconst 0, 1) := by decide +kernel
theorem dX9_isGroup_3 : decode cX9_isGroup 3 = .ok (.ldc2_w 194, 3) := by decide +kernel
theorem dX9_isGroup_6 : decode cX9_isGroup 6 = .ok (.invokestatic 66, 3) := by decide +kernel
theorem dX9_isGroup_9 : decode cX9_isGroup 9 = .ok (.ireturn, 1) := by decide +kernel
theorem dX9_tape_0 : decode cX9_tape 0 = .ok (.iload_n 1, 1) := by decide +kernel
theorem dX9_tape_1 : decode cX9_tape 1 = .ok (.i2l, 1) := by decide +kernel
theorem dX9_tape_2 : decode cX9_tape 2 = .ok (.lconst 1, 1) := by decide +kernel
theorem dX9_tape_3 : decode cX9_tape 3 = .ok (.ldc2_w 194, 3) := by decide +kernel
theorem dX9_tape_6 : decode cX9_tape 6 = .ok (.invokestatic 66, 3) := by decide +kernel
theorem dX9_tape_9 : decode cX9_tape 9 = .ok (.ifCond .eq 23, 3) := by decide +kernel
theorem dX9_tape_12 : decode cX9_tape 12 = .ok (.iload_n 2, 1) := by decide +kernel
theorem dX9_tape_13 : decode cX9_tape 13 = .ok (.i2l, 1) := by decide +kernel
theorem dX9_tape_14 : decode cX9_tape 14 = .ok (.lconst 0, 1) := by decide +kernel
theorem dX9_tape_15 : decode cX9_tape 15 = .ok (.ldc2_w 196, 3) := by decide +kernel
theorem dX9_tape_18 : decode cX9_tape 18 = .ok (.invokestatic 66, 3) := by decide +kernel
theorem dX9_tape_21 : decode cX9_tape 21 = .ok (.ifCond .eq 11, 3) := by decide +kernel
theorem dX9_tape_24 : decode cX9_tape 24 = .ok (.iload_n 1, 1) := by decide +kernel
theorem dX9_tape_25 : decode cX9_tape 25 = .ok (.iload_n 2, 1) := by decide +kernel
theorem dX9_tape_26 : decode cX9_tape 26 = .ok (.ishr, 1) := by decide +kernel
theorem dX9_tape_27 : decode cX9_tape 27 = .ok (.iconst 1, 1) := by decide +kernel
theorem dX9_tape_28 : decode cX9_tape 28 = .ok (.iand, 1) := by decide +kernel
theorem dX9_tape_29 : decode cX9_tape 29 = .ok (.ifCond .ne 6, 3) := by decide +kernel
theorem dX9_tape_32 : decode cX9_tape 32 = .ok (.bipush (-2), 2) := by decide +kernel
theorem dX9_tape_34 : decode cX9_tape 34 = .ok (.ireturn, 1) := by decide +kernel
theorem dX9_tape_35 : decode cX9_tape 35 = .ok (.aload_n 0, 1) := by decide +kernel
theorem dX9_tape_36 : decode cX9_tape 36 = .ok (.getfield 198, 3) := by decide +kernel
theorem dX9_tape_39 : decode cX9_tape 39 = .ok (.bipush 12, 2) := by decide +kernel
theorem dX9_tape_41 : decode cX9_tape 41 = .ok (.if_icmp .ne 6, 3) := by decide +kernel
theorem dX9_tape_44 : decode cX9_tape 44 = .ok (.bipush (-4), 2) := by decide +kernel
theorem dX9_tape_46 : decode cX9_tape 46 = .ok (.ireturn, 1) := by decide +kernel
theorem dX9_tape_47 : decode cX9_tape 47 = .ok (.aload_n 0, 1) := by decide +kernel
theorem dX9_tape_48 : decode cX9_tape 48 = .ok (.getfield 32, 3) := by decide +kernel
theorem dX9_tape_51 : decode cX9_tape 51 = .ok (.aload_n 0, 1) := by decide +kernel
theorem dX9_tape_52 : decode cX9_tape 52 = .ok (.getfield 198, 3) := by decide +kernel
theorem dX9_tape_55 : decode cX9_tape 55 = .ok (.iload_n 1, 1) := by decide +kernel
theorem dX9_tape_56 : decode cX9_tape 56 = .ok (.iastore, 1) := by decide +kernel
theorem dX9_tape_57 : decode cX9_tape 57 = .ok (.aload_n 0, 1) := by decide +kernel
theorem dX9_tape_58 : decode cX9_tape 58 = .ok (.getfield 35, 3) := by decide +kernel
theorem dX9_tape_61 : decode cX9_tape 61 = .ok (.aload_n 0, 1) := by decide +kernel
theorem dX9_tape_62 : decode cX9_tape 62 = .ok (.getfield 198, 3) := by decide +kernel
theorem dX9_tape_65 : decode cX9_tape 65 = .ok (.iload_n 2, 1) := by decide +kernel
theorem dX9_tape_66 : decode cX9_tape 66 = .ok (.iastore, 1) := by decide +kernel
theorem dX9_tape_67 : decode cX9_tape 67 = .ok (.aload_n 0, 1) := by decide +kernel
theorem dX9_tape_68 : decode cX9_tape 68 = .ok (.dup, 1) := by decide +kernel
theorem dX9_tape_69 : decode cX9_tape 69 = .ok (.getfield 198, 3) := by decide +kernel
theorem dX9_tape_72 : decode cX9_tape 72 = .ok (.iconst 1, 1) := by decide +kernel
theorem dX9_tape_73 : decode cX9_tape 73 = .ok (.iadd, 1) := by decide +kernel
theorem dX9_tape_74 : decode cX9_tape 74 = .ok (.putfield 198, 3) := by decide +kernel
theorem dX9_tape_77 : decode cX9_tape 77 = .ok (.aload_n 0, 1) := by decide +kernel
theorem dX9_tape_78 : decode cX9_tape 78 = .ok (.getfield 198, 3) := by decide +kernel
theorem dX9_tape_81 : decode cX9_tape 81 = .ok (.ireturn, 1) := by decide +kernel
theorem dX9_untape_0 : decode cX9_untape 0 = .ok (.aload_n 0, 1) := by decide +kernel
theorem dX9_untape_1 : decode cX9_untape 1 = .ok (.getfield 198, 3) := by decide +kernel
theorem dX9_untape_4 : decode cX9_untape 4 = .ok (.istore_n 1, 1) := by decide +kernel
theorem dX9_untape_5 : decode cX9_untape 5 = .ok (.aload_n 0, 1) := by decide +kernel
theorem dX9_untape_6 : decode cX9_untape 6 = .ok (.iconst 0, 1) := by decide +kernel
theorem dX9_untape_7 : decode cX9_untape 7 = .ok (.putfield 198, 3) := by decide +kernel
theorem dX9_untape_10 : decode cX9_untape 10 = .ok (.iload_n 1, 1) := by decide +kernel
theorem dX9_untape_11 : decode cX9_untape 11 = .ok (.ireturn, 1) := by decide +kernel
theorem dX9_cameOf_0 : decode cX9_cameOf 0 = .ok (.iconst 0, 1) := by decide +kernel
theorem dX9_cameOf_1 : decode cX9_cameOf 1 = .ok (.istore_n 2, 1) := by decide +kernel
theorem dX9_cameOf_2 : decode cX9_cameOf 2 = .ok (.iconst 0, 1) := by decide +kernel
theorem dX9_cameOf_3 : decode cX9_cameOf 3 = .ok (.istore_n 3, 1) := by decide +kernel
theorem dX9_cameOf_4 : decode cX9_cameOf 4 = .ok (.iload_n 3, 1) := by decide +kernel
theorem dX9_cameOf_5 : decode cX9_cameOf 5 = .ok (.aload_n 0, 1) := by decide +kernel
theorem dX9_cameOf_6 : decode cX9_cameOf 6 = .ok (.getfield 198, 3) := by decide +kernel
theorem dX9_cameOf_9 : decode cX9_cameOf 9 = .ok (.if_icmp .ge 22, 3) := by decide +kernel
theorem dX9_cameOf_12 : decode cX9_cameOf 12 = .ok (.iload_n 2, 1) := by decide +kernel
theorem dX9_cameOf_13 : decode cX9_cameOf 13 = .ok (.iload_n 1, 1) := by decide +kernel
theorem dX9_cameOf_14 : decode cX9_cameOf 14 = .ok (.aload_n 0, 1) := by decide +kernel
theorem dX9_cameOf_15 : decode cX9_cameOf 15 = .ok (.getfield 35, 3) := by decide +kernel
theorem dX9_cameOf_18 : decode cX9_cameOf 18 = .ok (.iload_n 3, 1) := by decide +kernel
theorem dX9_cameOf_19 : decode cX9_cameOf 19 = .ok (.iaload, 1) := by decide +kernel
theorem dX9_cameOf_20 : decode cX9_cameOf 20 = .ok (.ishr, 1) := by decide +kernel
theorem dX9_cameOf_21 : decode cX9_cameOf 21 = .ok (.iconst 1, 1) := by decide +kernel
theorem dX9_cameOf_22 : decode cX9_cameOf 22 = .ok (.iand, 1) := by decide +kernel
theorem dX9_cameOf_23 : decode cX9_cameOf 23 = .ok (.iadd, 1) := by decide +kernel
theorem dX9_cameOf_24 : decode cX9_cameOf 24 = .ok (.istore_n 2, 1) := by decide +kernel
theorem dX9_cameOf_25 : decode cX9_cameOf 25 = .ok (.iinc 3 1, 3) := by decide +kernel
theorem dX9_cameOf_28 : decode cX9_cameOf 28 = .ok (.goto (-24), 3) := by decide +kernel
theorem dX9_cameOf_31 : decode cX9_cameOf 31 = .ok (.iload_n 2, 1) := by decide +kernel
theorem dX9_cameOf_32 : decode cX9_cameOf 32 = .ok (.ireturn, 1) := by decide +kernel
theorem dX9_came_0 : decode cX9_came 0 = .ok (.iload_n 1, 1) := by decide +kernel
theorem dX9_came_1 : decode cX9_came 1 = .ok (.invokestatic 201, 3) := by decide +kernel
theorem dX9_came_4 : decode cX9_came 4 = .ok (.ifCond .eq 11, 3) := by decide +kernel
theorem dX9_came_7 : decode cX9_came 7 = .ok (.aload_n 0, 1) := by decide +kernel
theorem dX9_came_8 : decode cX9_came 8 = .ok (.iload_n 1, 1) := by decide +kernel
theorem dX9_came_9 : decode cX9_came 9 = .ok (.invokevirtual 204, 3) := by decide +kernel
theorem dX9_came_12 : decode cX9_came 12 = .ok (.goto 5, 3) := by decide +kernel
theorem dX9_came_15 : decode cX9_came 15 = .ok (.bipush (-2), 2) := by decide +kernel
theorem dX9_came_17 : decode cX9_came 17 = .ok (.ireturn, 1) := by decide +kernel
theorem dX9_due_0 : decode cX9_due 0 = .ok (.iload_n 1, 1) := by decide +kernel
theorem dX9_due_1 : decode cX9_due 1 = .ok (.invokestatic 201, 3) := by decide +kernel
theorem dX9_due_4 : decode cX9_due 4 = .ok (.ifCond .ne 7, 3) := by decide +kernel
theorem dX9_due_7 : decode cX9_due 7 = .ok (.ldc2_w 135, 3) := by decide +kernel
theorem dX9_due_10 : decode cX9_due 10 = .ok (.lreturn, 1) := by decide +kernel
theorem dX9_due_11 : decode cX9_due 11 = .ok (.lconst 0, 1) := by decide +kernel
theorem dX9_due_12 : decode cX9_due 12 = .ok (.lstore_n 3, 1) := by decide +kernel
theorem dX9_due_13 : decode cX9_due 13 = .ok (.iconst 0, 1) := by decide +kernel
theorem dX9_due_14 : decode cX9_due 14 = .ok (.istore 5, 2) := by decide +kernel
theorem dX9_due_16 : decode cX9_due 16 = .ok (.iload 5, 2) := by decide +kernel
theorem dX9_due_18 : decode cX9_due 18 = .ok (.aload_n 0, 1) := by decide +kernel
theorem dX9_due_19 : decode cX9_due 19 = .ok (.getfield 198, 3) := by decide +kernel
theorem dX9_due_22 : decode cX9_due 22 = .ok (.if_icmp .ge 41, 3) := by decide +kernel
theorem dX9_due_25 : decode cX9_due 25 = .ok (.lload_n 3, 1) := by decide +kernel
theorem dX9_due_26 : decode cX9_due 26 = .ok (.aload_n 0, 1) := by decide +kernel
theorem dX9_due_27 : decode cX9_due 27 = .ok (.getfield 32, 3) := by decide +kernel
theorem dX9_due_30 : decode cX9_due 30 = .ok (.iload 5, 2) := by decide +kernel
theorem dX9_due_32 : decode cX9_due 32 = .ok (.iaload, 1) := by decide +kernel
theorem dX9_due_33 : decode cX9_due 33 = .ok (.iload_n 1, 1) := by decide +kernel
theorem dX9_due_34 : decode cX9_due 34 = .ok (.iand, 1) := by decide +kernel
theorem dX9_due_35 : decode cX9_due 35 = .ok (.invokestatic 185, 3) := by decide +kernel
theorem dX9_due_38 : decode cX9_due 38 = .ok (.i2l, 1) := by decide +kernel
theorem dX9_due_39 : decode cX9_due 39 = .ok (.ldc2_w 158, 3) := by decide +kernel
theorem dX9_due_42 : decode cX9_due 42 = .ok (.aload_n 0, 1) := by decide +kernel
theorem dX9_due_43 : decode cX9_due 43 = .ok (.getfield 32, 3) := by decide +kernel
theorem dX9_due_46 : decode cX9_due 46 = .ok (.iload 5, 2) := by decide +kernel
theorem dX9_due_48 : decode cX9_due 48 = .ok (.iaload, 1) := by decide +kernel
theorem dX9_due_49 : decode cX9_due 49 = .ok (.invokestatic 185, 3) := by decide +kernel
theorem dX9_due_52 : decode cX9_due 52 = .ok (.i2l, 1) := by decide +kernel
theorem dX9_due_53 : decode cX9_due 53 = .ok (.ldiv, 1) := by decide +kernel
theorem dX9_due_54 : decode cX9_due 54 = .ok (.lmul, 1) := by decide +kernel
theorem dX9_due_55 : decode cX9_due 55 = .ok (.ladd, 1) := by decide +kernel
theorem dX9_due_56 : decode cX9_due 56 = .ok (.lstore_n 3, 1) := by decide +kernel
theorem dX9_due_57 : decode cX9_due 57 = .ok (.iinc 5 1, 3) := by decide +kernel
theorem dX9_due_60 : decode cX9_due 60 = .ok (.goto (-44), 3) := by decide +kernel
theorem dX9_due_63 : decode cX9_due 63 = .ok (.lload_n 3, 1) := by decide +kernel
theorem dX9_due_64 : decode cX9_due 64 = .ok (.ldc2_w 158, 3) := by decide +kernel
theorem dX9_due_67 : decode cX9_due 67 = .ok (.iload_n 2, 1) := by decide +kernel
theorem dX9_due_68 : decode cX9_due 68 = .ok (.invokestatic 149, 3) := by decide +kernel
theorem dX9_due_71 : decode cX9_due 71 = .ok (.lreturn, 1) := by decide +kernel
theorem dX9_luck_0 : decode cX9_luck 0 = .ok (.iload_n 1, 1) := by decide +kernel
theorem dX9_luck_1 : decode cX9_luck 1 = .ok (.invokestatic 201, 3) := by decide +kernel
theorem dX9_luck_4 : decode cX9_luck 4 = .ok (.ifCond .ne 7, 3) := by decide +kernel
theorem dX9_luck_7 : decode cX9_luck 7 = .ok (.ldc2_w 135, 3) := by decide +kernel
theorem dX9_luck_10 : decode cX9_luck 10 = .ok (.lreturn, 1) := by decide +kernel
theorem dX9_luck_11 : decode cX9_luck 11 = .ok (.lconst 1, 1) := by decide +kernel
theorem dX9_luck_12 : decode cX9_luck 12 = .ok (.lstore_n 3, 1) := by decide +kernel
theorem dX9_luck_13 : decode cX9_luck 13 = .ok (.iconst 0, 1) := by decide +kernel
theorem dX9_luck_14 : decode cX9_luck 14 = .ok (.istore 5, 2) := by decide +kernel
theorem dX9_luck_16 : decode cX9_luck 16 = .ok (.iload 5, 2) := by decide +kernel
theorem dX9_luck_18 : decode cX9_luck 18 = .ok (.bipush 13, 2) := by decide +kernel
theorem dX9_luck_20 : decode cX9_luck 20 = .ok (.if_icmp .ge 26, 3) := by decide +kernel
theorem dX9_luck_23 : decode cX9_luck 23 = .ok (.aload_n 0, 1) := by decide +kernel
theorem dX9_luck_24 : decode cX9_luck 24 = .ok (.getfield 29, 3) := by decide +kernel
theorem dX9_luck_27 : decode cX9_luck 27 = .ok (.iload 5, 2) := by decide +kernel
theorem dX9_luck_29 : decode cX9_luck 29 = .ok (.iload 5, 2) := by decide +kernel
theorem dX9_luck_31 : decode cX9_luck 31 = .ok (.ifCond .ne 7, 3) := by decide +kernel
theorem dX9_luck_34 : decode cX9_luck 34 = .ok (.lconst 1, 1) := by decide +kernel
theorem dX9_luck_35 : decode cX9_luck 35 = .ok (.goto 4, 3) := by decide +kernel
theorem dX9_luck_38 : decode cX9_luck 38 = .ok (.lconst 0, 1) := by decide +kernel
theorem dX9_luck_39 : decode cX9_luck 39 = .ok (.lastore, 1) := by decide +kernel
theorem dX9_luck_40 : decode cX9_luck 40 = .ok (.iinc 5 1, 3) := by decide +kernel
theorem dX9_luck_43 : decode cX9_luck 43 = .ok (.goto (-27), 3) := by decide +kernel
theorem dX9_luck_46 : decode cX9_luck 46 = .ok (.iconst 0, 1) := by decide +kernel
theorem dX9_luck_47 : decode cX9_luck 47 = .ok (.istore 5, 2) := by decide +kernel
theorem dX9_luck_49 : decode cX9_luck 49 = .ok (.iload 5, 2) := by decide +kernel
theorem dX9_luck_51 : decode cX9_luck 51 = .ok (.aload_n 0, 1) := by decide +kernel
theorem dX9_luck_52 : decode cX9_luck 52 = .ok (.getfield 198, 3) := by decide +kernel
theorem dX9_luck_55 : decode cX9_luck 55 = .ok (.if_icmp .ge 103, 3) := by decide +kernel
theorem dX9_luck_58 : decode cX9_luck 58 = .ok (.aload_n 0, 1) := by decide +kernel
theorem dX9_luck_59 : decode cX9_luck 59 = .ok (.getfield 32, 3) := by decide +kernel
theorem dX9_luck_62 : decode cX9_luck 62 = .ok (.iload 5, 2) := by decide +kernel
theorem dX9_luck_64 : decode cX9_luck 64 = .ok (.iaload, 1) := by decide +kernel
theorem dX9_luck_65 : decode cX9_luck 65 = .ok (.iload_n 1, 1) := by decide +kernel
theorem dX9_luck_66 : decode cX9_luck 66 = .ok (.iand, 1) := by decide +kernel
theorem dX9_luck_67 : decode cX9_luck 67 = .ok (.invokestatic 185, 3) := by decide +kernel
theorem dX9_luck_70 : decode cX9_luck 70 = .ok (.istore 6, 2) := by decide +kernel
theorem dX9_luck_72 : decode cX9_luck 72 = .ok (.aload_n 0, 1) := by decide +kernel
theorem dX9_luck_73 : decode cX9_luck 73 = .ok (.getfield 32, 3) := by decide +kernel
theorem dX9_luck_76 : decode cX9_luck 76 = .ok (.iload 5, 2) := by decide +kernel
theorem dX9_luck_78 : decode cX9_luck 78 = .ok (.iaload, 1) := by decide +kernel
theorem dX9_luck_79 : decode cX9_luck 79 = .ok (.invokestatic 185, 3) := by decide +kernel
theorem dX9_luck_82 : decode cX9_luck 82 = .ok (.iload 6, 2) := by decide +kernel
theorem dX9_luck_84 : decode cX9_luck 84 = .ok (.isub, 1) := by decide +kernel
theorem dX9_luck_85 : decode cX9_luck 85 = .ok (.istore 7, 2) := by decide +kernel
theorem dX9_luck_87 : decode cX9_luck 87 = .ok (.lload_n 3, 1) := by decide +kernel
theorem dX9_luck_88 : decode cX9_luck 88 = .ok (.iload 6, 2) := by decide +kernel
theorem dX9_luck_90 : decode cX9_luck 90 = .ok (.iload 7, 2) := by decide +kernel
theorem dX9_luck_92 : decode cX9_luck 92 = .ok (.iadd, 1) := by decide +kernel
theorem dX9_luck_93 : decode cX9_luck 93 = .ok (.i2l, 1) := by decide +kernel
theorem dX9_luck_94 : decode cX9_luck 94 = .ok (.lmul, 1) := by decide +kernel
theorem dX9_luck_95 : decode cX9_luck 95 = .ok (.lstore_n 3, 1) := by decide +kernel
theorem dX9_luck_96 : decode cX9_luck 96 = .ok (.bipush 12, 2) := by decide +kernel
theorem dX9_luck_98 : decode cX9_luck 98 = .ok (.istore 8, 2) := by decide +kernel
theorem dX9_luck_100 : decode cX9_luck 100 = .ok (.iload 8, 2) := by decide +kernel
theorem dX9_luck_102 : decode cX9_luck 102 = .ok (.ifCond .lt 50, 3) := by decide +kernel
theorem dX9_luck_105 : decode cX9_luck 105 = .ok (.aload_n 0, 1) := by decide +kernel
theorem dX9_luck_106 : decode cX9_luck 106 = .ok (.getfield 29, 3) := by decide +kernel
theorem dX9_luck_109 : decode cX9_luck 109 = .ok (.iload 8, 2) := by decide +kernel
theorem dX9_luck_111 : decode cX9_luck 111 = .ok (.aload_n 0, 1) := by decide +kernel
theorem dX9_luck_112 : decode cX9_luck 112 = .ok (.getfield 29, 3) := by decide +kernel
theorem dX9_luck_115 : decode cX9_luck 115 = .ok (.iload 8, 2) := by decide +kernel
theorem dX9_luck_117 : decode cX9_luck 117 = .ok (.laload, 1) := by decide +kernel
theorem dX9_luck_118 : decode cX9_luck 118 = .ok (.iload 7, 2) := by decide +kernel
theorem dX9_luck_120 : decode cX9_luck 120 = .ok (.i2l, 1) := by decide +kernel
theorem dX9_luck_121 : decode cX9_luck 121 = .ok (.lmul, 1) := by decide +kernel
theorem dX9_luck_122 : decode cX9_luck 122 = .ok (.iload 8, 2) := by decide +kernel
theorem dX9_luck_124 : decode cX9_luck 124 = .ok (.ifCond .le 19, 3) := by decide +kernel
theorem dX9_luck_127 : decode cX9_luck 127 = .ok (.aload_n 0, 1) := by decide +kernel
theorem dX9_luck_128 : decode cX9_luck 128 = .ok (.getfield 29, 3) := by decide +kernel
theorem dX9_luck_131 : decode cX9_luck 131 = .ok (.iload 8, 2) := by decide +kernel
theorem dX9_luck_133 : decode cX9_luck 133 = .ok (.iconst 1, 1) := by decide +kernel
theorem dX9_luck_134 : decode cX9_luck 134 = .ok (.isub, 1) := by decide +kernel
theorem dX9_luck_135 : decode cX9_luck 135 = .ok (.laload, 1) := by decide +kernel
theorem dX9_luck_136 : decode cX9_luck 136 = .ok (.iload 6, 2) := by decide +kernel
theorem dX9_luck_138 : decode cX9_luck 138 = .ok (.i2l, 1) := by decide +kernel
theorem dX9_luck_139 : decode cX9_luck 139 = .ok (.lmul, 1) := by decide +kernel
theorem dX9_luck_140 : decode cX9_luck 140 = .ok (.goto 4, 3) := by decide +kernel
theorem dX9_luck_143 : decode cX9_luck 143 = .ok (.lconst 0, 1) := by decide +kernel
theorem dX9_luck_144 : decode cX9_luck 144 = .ok (.ladd, 1) := by decide +kernel
theorem dX9_luck_145 : decode cX9_luck 145 = .ok (.lastore, 1) := by decide +kernel
theorem dX9_luck_146 : decode cX9_luck 146 = .ok (.iinc 8 (-1), 3) := by decide +kernel
theorem dX9_luck_149 : decode cX9_luck 149 = .ok (.goto (-49), 3) := by decide +kernel
theorem dX9_luck_152 : decode cX9_luck 152 = .ok (.iinc 5 1, 3) := by decide +kernel
theorem dX9_luck_155 : decode cX9_luck 155 = .ok (.goto (-106), 3) := by decide +kernel
theorem dX9_luck_158 : decode cX9_luck 158 = .ok (.lconst 0, 1) := by decide +kernel
theorem dX9_luck_159 : decode cX9_luck 159 = .ok (.lstore 5, 2) := by decide +kernel
theorem dX9_luck_161 : decode cX9_luck 161 = .ok (.aload_n 0, 1) := by decide +kernel
theorem dX9_luck_162 : decode cX9_luck 162 = .ok (.iload_n 1, 1) := by decide +kernel
theorem dX9_luck_163 : decode cX9_luck 163 = .ok (.invokevirtual 204, 3) := by decide +kernel
theorem dX9_luck_166 : decode cX9_luck 166 = .ok (.istore 7, 2) := by decide +kernel
theorem dX9_luck_168 : decode cX9_luck 168 = .ok (.iload 7, 2) := by decide +kernel
theorem dX9_luck_170 : decode cX9_luck 170 = .ok (.bipush 13, 2) := by decide +kernel
theorem dX9_luck_172 : decode cX9_luck 172 = .ok (.if_icmp .ge 21, 3) := by decide +kernel
theorem dX9_luck_175 : decode cX9_luck 175 = .ok (.lload 5, 2) := by decide +kernel
theorem dX9_luck_177 : decode cX9_luck 177 = .ok (.aload_n 0, 1) := by decide +kernel
theorem dX9_luck_178 : decode cX9_luck 178 = .ok (.getfield 29, 3) := by decide +kernel
theorem dX9_luck_181 : decode cX9_luck 181 = .ok (.iload 7, 2) := by decide +kernel
theorem dX9_luck_183 : decode cX9_luck 183 = .ok (.laload, 1) := by decide +kernel
theorem dX9_luck_184 : decode cX9_luck 184 = .ok (.ladd, 1) := by decide +kernel
theorem dX9_luck_185 : decode cX9_luck 185 = .ok (.lstore 5, 2) := by decide +kernel
theorem dX9_luck_187 : decode cX9_luck 187 = .ok (.iinc 7 1, 3) := by decide +kernel
theorem dX9_luck_190 : decode cX9_luck 190 = .ok (.goto (-22), 3) := by decide +kernel
theorem dX9_luck_193 : decode cX9_luck 193 = .ok (.lload 5, 2) := by decide +kernel
theorem dX9_luck_195 : decode cX9_luck 195 = .ok (.lload_n 3, 1) := by decide +kernel
theorem dX9_luck_196 : decode cX9_luck 196 = .ok (.iload_n 2, 1) := by decide +kernel
theorem dX9_luck_197 : decode cX9_luck 197 = .ok (.invokestatic 149, 3) := by decide +kernel
theorem dX9_luck_200 : decode cX9_luck 200 = .ok (.lreturn, 1) := by decide +kernel
theorem dX9_choose_0 : decode cX9_choose 0 = .ok (.iload_n 1, 1) := by decide +kernel
theorem dX9_choose_1 : decode cX9_choose 1 = .ok (.ifCond .lt 8, 3) := by decide +kernel
theorem dX9_choose_4 : decode cX9_choose 4 = .ok (.iload_n 1, 1) := by decide +kernel
theorem dX9_choose_5 : decode cX9_choose 5 = .ok (.iload_n 0, 1) := by decide +kernel
theorem dX9_choose_6 : decode cX9_choose 6 = .ok (.if_icmp .le 5, 3) := by decide +kernel
theorem dX9_choose_9 : decode cX9_choose 9 = .ok (.lconst 0, 1) := by decide +kernel
theorem dX9_choose_10 : decode cX9_choose 10 = .ok (.lreturn, 1) := by decide +kernel
theorem dX9_choose_11 : decode cX9_choose 11 = .ok (.lconst 1, 1) := by decide +kernel
theorem dX9_choose_12 : decode cX9_choose 12 = .ok (.lstore_n 2, 1) := by decide +kernel
theorem dX9_choose_13 : decode cX9_choose 13 = .ok (.iconst 0, 1) := by decide +kernel
theorem dX9_choose_14 : decode cX9_choose 14 = .ok (.istore 4, 2) := by decide +kernel
theorem dX9_choose_16 : decode cX9_choose 16 = .ok (.iload 4, 2) := by decide +kernel
theorem dX9_choose_18 : decode cX9_choose 18 = .ok (.iload_n 1, 1) := by decide +kernel
theorem dX9_choose_19 : decode cX9_choose 19 = .ok (.if_icmp .ge 23, 3) := by decide +kernel
theorem dX9_choose_22 : decode cX9_choose 22 = .ok (.lload_n 2, 1) := by decide +kernel
theorem dX9_choose_23 : decode cX9_choose 23 = .ok (.iload_n 0, 1) := by decide +kernel
theorem dX9_choose_24 : decode cX9_choose 24 = .ok (.iload 4, 2) := by decide +kernel
theorem dX9_choose_26 : decode cX9_choose 26 = .ok (.isub, 1) := by decide +kernel
theorem dX9_choose_27 : decode cX9_choose 27 = .ok (.i2l, 1) := by decide +kernel
theorem dX9_choose_28 : decode cX9_choose 28 = .ok (.lmul, 1) := by decide +kernel
theorem dX9_choose_29 : decode cX9_choose 29 = .ok (.iload 4, 2) := by decide +kernel
theorem dX9_choose_31 : decode cX9_choose 31 = .ok (.iconst 1, 1) := by decide +kernel
theorem dX9_choose_32 : decode cX9_choose 32 = .ok (.iadd, 1) := by decide +kernel
theorem dX9_choose_33 : decode cX9_choose 33 = .ok (.i2l, 1) := by decide +kernel
theorem dX9_choose_34 : decode cX9_choose 34 = .ok (.ldiv, 1) := by decide +kernel
theorem dX9_choose_35 : decode cX9_choose 35 = .ok (.lstore_n 2, 1) := by decide +kernel
theorem dX9_choose_36 : decode cX9_choose 36 = .ok (.iinc 4 1, 3) := by decide +kernel
theorem dX9_choose_39 : decode cX9_choose 39 = .ok (.goto (-23), 3) := by decide +kernel
theorem dX9_choose_42 : decode cX9_choose 42 = .ok (.lload_n 2, 1) := by decide +kernel
theorem dX9_choose_43 : decode cX9_choose 43 = .ok (.lreturn, 1) := by decide +kernel
theorem dX9_boards_0 : decode cX9_boards 0 = .ok (.iload_n 1, 1) := by decide +kernel
theorem dX9_boards_1 : decode cX9_boards 1 = .ok (.i2l, 1) := by decide +kernel
theorem dX9_boards_2 : decode cX9_boards 2 = .ok (.lconst 1, 1) := by decide +kernel
theorem dX9_boards_3 : decode cX9_boards 3 = .ok (.ldc2_w 207, 3) := by decide +kernel
theorem dX9_boards_6 : decode cX9_boards 6 = .ok (.invokestatic 66, 3) := by decide +kernel
theorem dX9_boards_9 : decode cX9_boards 9 = .ok (.ifCond .eq 37, 3) := by decide +kernel
theorem dX9_boards_12 : decode cX9_boards 12 = .ok (.iload_n 2, 1) := by decide +kernel
theorem dX9_boards_13 : decode cX9_boards 13 = .ok (.i2l, 1) := by decide +kernel
theorem dX9_boards_14 : decode cX9_boards 14 = .ok (.lconst 0, 1) := by decide +kernel
theorem dX9_boards_15 : decode cX9_boards 15 = .ok (.iload_n 1, 1) := by decide +kernel
theorem dX9_boards_16 : decode cX9_boards 16 = .ok (.i2l, 1) := by decide +kernel
theorem dX9_boards_17 : decode cX9_boards 17 = .ok (.invokestatic 66, 3) := by decide +kernel
theorem dX9_boards_20 : decode cX9_boards 20 = .ok (.ifCond .eq 26, 3) := by decide +kernel
theorem dX9_boards_23 : decode cX9_boards 23 = .ok (.iload_n 3, 1) := by decide +kernel
theorem dX9_boards_24 : decode cX9_boards 24 = .ok (.i2l, 1) := by decide +kernel
theorem dX9_boards_25 : decode cX9_boards 25 = .ok (.lconst 1, 1) := by decide +kernel
theorem dX9_boards_26 : decode cX9_boards 26 = .ok (.iload_n 1, 1) := by decide +kernel
theorem dX9_boards_27 : decode cX9_boards 27 = .ok (.i2l, 1) := by decide +kernel
theorem dX9_boards_28 : decode cX9_boards 28 = .ok (.invokestatic 66, 3) := by decide +kernel
theorem dX9_boards_31 : decode cX9_boards 31 = .ok (.ifCond .eq 15, 3) := by decide +kernel
theorem dX9_boards_34 : decode cX9_boards 34 = .ok (.iload 4, 2) := by decide +kernel
theorem dX9_boards_36 : decode cX9_boards 36 = .ok (.i2l, 1) := by decide +kernel
theorem dX9_boards_37 : decode cX9_boards 37 = .ok (.lconst 0, 1) := by decide +kernel
theorem dX9_boards_38 : decode cX9_boards 38 = .ok (.iload_n 3, 1) := by decide +kernel
theorem dX9_boards_39 : decode cX9_boards 39 = .ok (.i2l, 1) := by decide +kernel
theorem dX9_boards_40 : decode cX9_boards 40 = .ok (.invokestatic 66, 3) := by decide +kernel
theorem dX9_boards_43 : decode cX9_boards 43 = .ok (.ifCond .ne 7, 3) := by decide +kernel
theorem dX9_boards_46 : decode cX9_boards 46 = .ok (.ldc2_w 135, 3) := by decide +kernel
theorem dX9_boards_49 : decode cX9_boards 49 = .ok (.lreturn, 1) := by decide +kernel
theorem dX9_boards_50 : decode cX9_boards 50 = .ok (.iload_n 2, 1) := by decide +kernel
theorem dX9_boards_51 : decode cX9_boards 51 = .ok (.iload 4, 2) := by decide +kernel
theorem dX9_boards_53 : decode cX9_boards 53 = .ok (.invokestatic 209, 3) := by decide +kernel
theorem dX9_boards_56 : decode cX9_boards 56 = .ok (.iload_n 1, 1) := by decide +kernel
theorem dX9_boards_57 : decode cX9_boards 57 = .ok (.iload_n 2, 1) := by decide +kernel
theorem dX9_boards_58 : decode cX9_boards 58 = .ok (.isub, 1) := by decide +kernel
theorem dX9_boards_59 : decode cX9_boards 59 = .ok (.iload_n 3, 1) := by decide +kernel
theorem dX9_boards_60 : decode cX9_boards 60 = .ok (.iload 4, 2) := by decide +kernel
theorem dX9_boards_62 : decode cX9_boards 62 = .ok (.isub, 1) := by decide +kernel
theorem dX9_boards_63 : decode cX9_boards 63 = .ok (.invokestatic 209, 3) := by decide +kernel
theorem dX9_boards_66 : decode cX9_boards 66 = .ok (.lmul, 1) := by decide +kernel
theorem dX9_boards_67 : decode cX9_boards 67 = .ok (.iload_n 1, 1) := by decide +kernel
theorem dX9_boards_68 : decode cX9_boards 68 = .ok (.iload_n 3, 1) := by decide +kernel
theorem dX9_boards_69 : decode cX9_boards 69 = .ok (.invokestatic 209, 3) := by decide +kernel
theorem dX9_boards_72 : decode cX9_boards 72 = .ok (.iload 5, 2) := by decide +kernel
theorem dX9_boards_74 : decode cX9_boards 74 = .ok (.invokestatic 149, 3) := by decide +kernel
theorem dX9_boards_77 : decode cX9_boards 77 = .ok (.lreturn, 1) := by decide +kernel
theorem dX9_span_0 : decode cX9_span 0 = .ok (.iload_n 1, 1) := by decide +kernel
theorem dX9_span_1 : decode cX9_span 1 = .ok (.i2l, 1) := by decide +kernel
theorem dX9_span_2 : decode cX9_span 2 = .ok (.lconst 1, 1) := by decide +kernel
theorem dX9_span_3 : decode cX9_span 3 = .ok (.ldc2_w 207, 3) := by decide +kernel
theorem dX9_span_6 : decode cX9_span 6 = .ok (.invokestatic 66, 3) := by decide +kernel
theorem dX9_span_9 : decode cX9_span 9 = .ok (.ifCond .eq 25, 3) := by decide +kernel
theorem dX9_span_12 : decode cX9_span 12 = .ok (.iload_n 2, 1) := by decide +kernel
theorem dX9_span_13 : decode cX9_span 13 = .ok (.i2l, 1) := by decide +kernel
theorem dX9_span_14 : decode cX9_span 14 = .ok (.lconst 1, 1) := by decide +kernel
theorem dX9_span_15 : decode cX9_span 15 = .ok (.iload_n 1, 1) := by decide +kernel
theorem dX9_span_16 : decode cX9_span 16 = .ok (.i2l, 1) := by decide +kernel
theorem dX9_span_17 : decode cX9_span 17 = .ok (.invokestatic 66, 3) := by decide +kernel
theorem dX9_span_20 : decode cX9_span 20 = .ok (.ifCond .eq 14, 3) := by decide +kernel
theorem dX9_span_23 : decode cX9_span 23 = .ok (.iload_n 3, 1) := by decide +kernel
theorem dX9_span_24 : decode cX9_span 24 = .ok (.i2l, 1) := by decide +kernel
theorem dX9_span_25 : decode cX9_span 25 = .ok (.lconst 0, 1) := by decide +kernel
theorem dX9_span_26 : decode cX9_span 26 = .ok (.iload_n 2, 1) := by decide +kernel
theorem dX9_span_27 : decode cX9_span 27 = .ok (.i2l, 1) := by decide +kernel
theorem dX9_span_28 : decode cX9_span 28 = .ok (.invokestatic 66, 3) := by decide +kernel
theorem dX9_span_31 : decode cX9_span 31 = .ok (.ifCond .ne 6, 3) := by decide +kernel
theorem dX9_span_34 : decode cX9_span 34 = .ok (.bipush (-2), 2) := by decide +kernel
theorem dX9_span_36 : decode cX9_span 36 = .ok (.ireturn, 1) := by decide +kernel
theorem dX9_span_37 : decode cX9_span 37 = .ok (.bipush (-9), 2) := by decide +kernel
theorem dX9_span_39 : decode cX9_span 39 = .ok (.istore 5, 2) := by decide +kernel
theorem dX9_span_41 : decode cX9_span 41 = .ok (.iconst 0, 1) := by decide +kernel
theorem dX9_span_42 : decode cX9_span 42 = .ok (.istore 6, 2) := by decide +kernel
theorem dX9_span_44 : decode cX9_span 44 = .ok (.iload 6, 2) := by decide +kernel
theorem dX9_span_46 : decode cX9_span 46 = .ok (.iload_n 1, 1) := by decide +kernel
theorem dX9_span_47 : decode cX9_span 47 = .ok (.if_icmp .gt 72, 3) := by decide +kernel
theorem dX9_span_50 : decode cX9_span 50 = .ok (.ldc2_w 213, 3) := by decide +kernel
theorem dX9_span_53 : decode cX9_span 53 = .ok (.iload 6, 2) := by decide +kernel
theorem dX9_span_55 : decode cX9_span 55 = .ok (.iload_n 3, 1) := by decide +kernel
theorem dX9_span_56 : decode cX9_span 56 = .ok (.invokestatic 209, 3) := by decide +kernel
theorem dX9_span_59 : decode cX9_span 59 = .ok (.lmul, 1) := by decide +kernel
theorem dX9_span_60 : decode cX9_span 60 = .ok (.iload_n 1, 1) := by decide +kernel
theorem dX9_span_61 : decode cX9_span 61 = .ok (.iload 6, 2) := by decide +kernel
theorem dX9_span_63 : decode cX9_span 63 = .ok (.isub, 1) := by decide +kernel
theorem dX9_span_64 : decode cX9_span 64 = .ok (.iload_n 2, 1) := by decide +kernel
theorem dX9_span_65 : decode cX9_span 65 = .ok (.iload_n 3, 1) := by decide +kernel
theorem dX9_span_66 : decode cX9_span 66 = .ok (.isub, 1) := by decide +kernel
theorem dX9_span_67 : decode cX9_span 67 = .ok (.invokestatic 209, 3) := by decide +kernel
theorem dX9_span_70 : decode cX9_span 70 = .ok (.lmul, 1) := by decide +kernel
theorem dX9_span_71 : decode cX9_span 71 = .ok (.iload_n 1, 1) := by decide +kernel
theorem dX9_span_72 : decode cX9_span 72 = .ok (.iload_n 2, 1) := by decide +kernel
theorem dX9_span_73 : decode cX9_span 73 = .ok (.invokestatic 209, 3) := by decide +kernel
theorem dX9_span_76 : decode cX9_span 76 = .ok (.lcmp, 1) := by decide +kernel
theorem dX9_span_77 : decode cX9_span 77 = .ok (.ifCond .lt 7, 3) := by decide +kernel
theorem dX9_span_80 : decode cX9_span 80 = .ok (.iconst 1, 1) := by decide +kernel
theorem dX9_span_81 : decode cX9_span 81 = .ok (.goto 4, 3) := by decide +kernel
theorem dX9_span_84 : decode cX9_span 84 = .ok (.iconst 0, 1) := by decide +kernel
theorem dX9_span_85 : decode cX9_span 85 = .ok (.istore 7, 2) := by decide +kernel
theorem dX9_span_87 : decode cX9_span 87 = .ok (.iload 7, 2) := by decide +kernel
theorem dX9_span_89 : decode cX9_span 89 = .ok (.ifCond .eq 20, 3) := by decide +kernel
theorem dX9_span_92 : decode cX9_span 92 = .ok (.iload 4, 2) := by decide +kernel
theorem dX9_span_94 : decode cX9_span 94 = .ok (.ifCond .ne 10, 3) := by decide +kernel
theorem dX9_span_97 : decode cX9_span 97 = .ok (.iload 5, 2) := by decide +kernel
theorem dX9_span_99 : decode cX9_span 99 = .ok (.bipush (-9), 2) := by decide +kernel
theorem dX9_span_101 : decode cX9_span 101 = .ok (.if_icmp .ne 8, 3) := by decide +kernel
theorem dX9_span_104 : decode cX9_span 104 = .ok (.iload 6, 2) := by decide +kernel
theorem dX9_span_106 : decode cX9_span 106 = .ok (.goto 5, 3) := by decide +kernel
theorem dX9_span_109 : decode cX9_span 109 = .ok (.iload 5, 2) := by decide +kernel
theorem dX9_span_111 : decode cX9_span 111 = .ok (.istore 5, 2) := by decide +kernel
theorem dX9_span_113 : decode cX9_span 113 = .ok (.iinc 6 1, 3) := by decide +kernel
theorem dX9_span_116 : decode cX9_span 116 = .ok (.goto (-72), 3) := by decide +kernel
theorem dX9_span_119 : decode cX9_span 119 = .ok (.iload 5, 2) := by decide +kernel
theorem dX9_span_121 : decode cX9_span 121 = .ok (.ireturn, 1) := by decide +kernel
theorem dX9_trial_0 : decode cX9_trial 0 = .ok (.iload_n 1, 1) := by decide +kernel
theorem dX9_trial_1 : decode cX9_trial 1 = .ok (.i2l, 1) := by decide +kernel
theorem dX9_trial_2 : decode cX9_trial 2 = .ok (.lconst 0, 1) := by decide +kernel
theorem dX9_trial_3 : decode cX9_trial 3 = .ok (.ldc2_w 173, 3) := by decide +kernel
theorem dX9_trial_6 : decode cX9_trial 6 = .ok (.invokestatic 66, 3) := by decide +kernel
theorem dX9_trial_9 : decode cX9_trial 9 = .ok (.ifCond .ne 6, 3) := by decide +kernel
theorem dX9_trial_12 : decode cX9_trial 12 = .ok (.bipush (-2), 2) := by decide +kernel
theorem dX9_trial_14 : decode cX9_trial 14 = .ok (.ireturn, 1) := by decide +kernel
theorem dX9_trial_15 : decode cX9_trial 15 = .ok (.aload_n 0, 1) := by decide +kernel
theorem dX9_trial_16 : decode cX9_trial 16 = .ok (.getfield 215, 3) := by decide +kernel
theorem dX9_trial_19 : decode cX9_trial 19 = .ok (.bipush 10, 2) := by decide +kernel
theorem dX9_trial_21 : decode cX9_trial 21 = .ok (.if_icmp .ne 6, 3) := by decide +kernel
theorem dX9_trial_24 : decode cX9_trial 24 = .ok (.bipush (-4), 2) := by decide +kernel
theorem dX9_trial_26 : decode cX9_trial 26 = .ok (.ireturn, 1) := by decide +kernel
theorem dX9_trial_27 : decode cX9_trial 27 = .ok (.aload_n 0, 1) := by decide +kernel
theorem dX9_trial_28 : decode cX9_trial 28 = .ok (.getfield 38, 3) := by decide +kernel
theorem dX9_trial_31 : decode cX9_trial 31 = .ok (.aload_n 0, 1) := by decide +kernel
theorem dX9_trial_32 : decode cX9_trial 32 = .ok (.getfield 215, 3) := by decide +kernel
theorem dX9_trial_35 : decode cX9_trial 35 = .ok (.iload_n 1, 1) := by decide +kernel
theorem dX9_trial_36 : decode cX9_trial 36 = .ok (.iastore, 1) := by decide +kernel
theorem dX9_trial_37 : decode cX9_trial 37 = .ok (.aload_n 0, 1) := by decide +kernel
theorem dX9_trial_38 : decode cX9_trial 38 = .ok (.getfield 41, 3) := by decide +kernel
theorem dX9_trial_41 : decode cX9_trial 41 = .ok (.aload_n 0, 1) := by decide +kernel
theorem dX9_trial_42 : decode cX9_trial 42 = .ok (.getfield 215, 3) := by decide +kernel
theorem dX9_trial_45 : decode cX9_trial 45 = .ok (.iload_n 2, 1) := by decide +kernel
theorem dX9_trial_46 : decode cX9_trial 46 = .ok (.bastore, 1) := by decide +kernel
theorem dX9_trial_47 : decode cX9_trial 47 = .ok (.aload_n 0, 1) := by decide +kernel
theorem dX9_trial_48 : decode cX9_trial 48 = .ok (.dup, 1) := by decide +kernel
theorem dX9_trial_49 : decode cX9_trial 49 = .ok (.getfield 215, 3) := by decide +kernel
theorem dX9_trial_52 : decode cX9_trial 52 = .ok (.iconst 1, 1) := by decide +kernel
theorem dX9_trial_53 : decode cX9_trial 53 = .ok (.iadd, 1) := by decide +kernel
theorem dX9_trial_54 : decode cX9_trial 54 = .ok (.putfield 215, 3) := by decide +kernel
theorem dX9_trial_57 : decode cX9_trial 57 = .ok (.aload_n 0, 1) := by decide +kernel
theorem dX9_trial_58 : decode cX9_trial 58 = .ok (.getfield 215, 3) := by decide +kernel
theorem dX9_trial_61 : decode cX9_trial 61 = .ok (.ireturn, 1) := by decide +kernel
theorem dX9_untrial_0 : decode cX9_untrial 0 = .ok (.aload_n 0, 1) := by decide +kernel
theorem dX9_untrial_1 : decode cX9_untrial 1 = .ok (.getfield 215, 3) := by decide +kernel
theorem dX9_untrial_4 : decode cX9_untrial 4 = .ok (.istore_n 1, 1) := by decide +kernel
theorem dX9_untrial_5 : decode cX9_untrial 5 = .ok (.aload_n 0, 1) := by decide +kernel
theorem dX9_untrial_6 : decode cX9_untrial 6 = .ok (.iconst 0, 1) := by decide +kernel
theorem dX9_untrial_7 : decode cX9_untrial 7 = .ok (.putfield 215, 3) := by decide +kernel
theorem dX9_untrial_10 : decode cX9_untrial 10 = .ok (.iload_n 1, 1) := by decide +kernel
theorem dX9_untrial_11 : decode cX9_untrial 11 = .ok (.ireturn, 1) := by decide +kernel
theorem dX9_waits_0 : decode cX9_waits 0 = .ok (.iconst 0, 1) := by decide +kernel
theorem dX9_waits_1 : decode cX9_waits 1 = .ok (.istore_n 1, 1) := by decide +kernel
theorem dX9_waits_2 : decode cX9_waits 2 = .ok (.iconst 0, 1) := by decide +kernel
theorem dX9_waits_3 : decode cX9_waits 3 = .ok (.istore_n 2, 1) := by decide +kernel
theorem dX9_waits_4 : decode cX9_waits 4 = .ok (.iload_n 2, 1) := by decide +kernel
theorem dX9_waits_5 : decode cX9_waits 5 = .ok (.aload_n 0, 1) := by decide +kernel
theorem dX9_waits_6 : decode cX9_waits 6 = .ok (.getfield 215, 3) := by decide +kernel
theorem dX9_waits_9 : decode cX9_waits 9 = .ok (.if_icmp .ge 26, 3) := by decide +kernel
theorem dX9_waits_12 : decode cX9_waits 12 = .ok (.iload_n 1, 1) := by decide +kernel
theorem dX9_waits_13 : decode cX9_waits 13 = .ok (.aload_n 0, 1) := by decide +kernel
theorem dX9_waits_14 : decode cX9_waits 14 = .ok (.getfield 41, 3) := by decide +kernel
theorem dX9_waits_17 : decode cX9_waits 17 = .ok (.iload_n 2, 1) := by decide +kernel
theorem dX9_waits_18 : decode cX9_waits 18 = .ok (.baload, 1) := by decide +kernel
theorem dX9_waits_19 : decode cX9_waits 19 = .ok (.ifCond .eq 7, 3) := by decide +kernel
theorem dX9_waits_22 : decode cX9_waits 22 = .ok (.iconst 1, 1) := by decide +kernel
theorem dX9_waits_23 : decode cX9_waits 23 = .ok (.goto 4, 3) := by decide +kernel
theorem dX9_waits_26 : decode cX9_waits 26 = .ok (.iconst 0, 1) := by decide +kernel
theorem dX9_waits_27 : decode cX9_waits 27 = .ok (.iadd, 1) := by decide +kernel
theorem dX9_waits_28 : decode cX9_waits 28 = .ok (.istore_n 1, 1) := by decide +kernel
theorem dX9_waits_29 : decode cX9_waits 29 = .ok (.iinc 2 1, 3) := by decide +kernel
theorem dX9_waits_32 : decode cX9_waits 32 = .ok (.goto (-28), 3) := by decide +kernel
theorem dX9_waits_35 : decode cX9_waits 35 = .ok (.iload_n 1, 1) := by decide +kernel
theorem dX9_waits_36 : decode cX9_waits 36 = .ok (.ireturn, 1) := by decide +kernel
theorem dX9_chance_0 : decode cX9_chance 0 = .ok (.iconst 0, 1) := by decide +kernel
theorem dX9_chance_1 : decode cX9_chance 1 = .ok (.istore_n 2, 1) := by decide +kernel
theorem dX9_chance_2 : decode cX9_chance 2 = .ok (.iconst 0, 1) := by decide +kernel
theorem dX9_chance_3 : decode cX9_chance 3 = .ok (.istore_n 3, 1) := by decide +kernel
theorem dX9_chance_4 : decode cX9_chance 4 = .ok (.iload_n 3, 1) := by decide +kernel
theorem dX9_chance_5 : decode cX9_chance 5 = .ok (.aload_n 0, 1) := by decide +kernel
theorem dX9_chance_6 : decode cX9_chance 6 = .ok (.getfield 215, 3) := by decide +kernel
theorem dX9_chance_9 : decode cX9_chance 9 = .ok (.if_icmp .ge 31, 3) := by decide +kernel
theorem dX9_chance_12 : decode cX9_chance 12 = .ok (.iload_n 2, 1) := by decide +kernel
theorem dX9_chance_13 : decode cX9_chance 13 = .ok (.aload_n 0, 1) := by decide +kernel
theorem dX9_chance_14 : decode cX9_chance 14 = .ok (.getfield 41, 3) := by decide +kernel
theorem dX9_chance_17 : decode cX9_chance 17 = .ok (.iload_n 3, 1) := by decide +kernel
theorem dX9_chance_18 : decode cX9_chance 18 = .ok (.baload, 1) := by decide +kernel
theorem dX9_chance_19 : decode cX9_chance 19 = .ok (.ifCond .eq 12, 3) := by decide +kernel
theorem dX9_chance_22 : decode cX9_chance 22 = .ok (.aload_n 0, 1) := by decide +kernel
theorem dX9_chance_23 : decode cX9_chance 23 = .ok (.getfield 38, 3) := by decide +kernel
theorem dX9_chance_26 : decode cX9_chance 26 = .ok (.iload_n 3, 1) := by decide +kernel
theorem dX9_chance_27 : decode cX9_chance 27 = .ok (.iaload, 1) := by decide +kernel
theorem dX9_chance_28 : decode cX9_chance 28 = .ok (.goto 4, 3) := by decide +kernel
theorem dX9_chance_31 : decode cX9_chance 31 = .ok (.iconst 0, 1) := by decide +kernel
theorem dX9_chance_32 : decode cX9_chance 32 = .ok (.iadd, 1) := by decide +kernel
theorem dX9_chance_33 : decode cX9_chance 33 = .ok (.istore_n 2, 1) := by decide +kernel
theorem dX9_chance_34 : decode cX9_chance 34 = .ok (.iinc 3 1, 3) := by decide +kernel
theorem dX9_chance_37 : decode cX9_chance 37 = .ok (.goto (-33), 3) := by decide +kernel
theorem dX9_chance_40 : decode cX9_chance 40 = .ok (.lconst 0, 1) := by decide +kernel
theorem dX9_chance_41 : decode cX9_chance 41 = .ok (.lstore_n 3, 1) := by decide +kernel
theorem dX9_chance_42 : decode cX9_chance 42 = .ok (.lconst 0, 1) := by decide +kernel
theorem dX9_chance_43 : decode cX9_chance 43 = .ok (.lstore 5, 2) := by decide +kernel
theorem dX9_chance_45 : decode cX9_chance 45 = .ok (.iconst 0, 1) := by decide +kernel
theorem dX9_chance_46 : decode cX9_chance 46 = .ok (.istore 7, 2) := by decide +kernel
theorem dX9_chance_48 : decode cX9_chance 48 = .ok (.iload 7, 2) := by decide +kernel
theorem dX9_chance_50 : decode cX9_chance 50 = .ok (.iconst 1, 1) := by decide +kernel
theorem dX9_chance_51 : decode cX9_chance 51 = .ok (.aload_n 0, 1) := by decide +kernel
theorem dX9_chance_52 : decode cX9_chance 52 = .ok (.getfield 215, 3) := by decide +kernel
theorem dX9_chance_55 : decode cX9_chance 55 = .ok (.ishl, 1) := by decide +kernel
theorem dX9_chance_56 : decode cX9_chance 56 = .ok (.if_icmp .ge 103, 3) := by decide +kernel
theorem dX9_chance_59 : decode cX9_chance 59 = .ok (.iconst 0, 1) := by decide +kernel
theorem dX9_chance_60 : decode cX9_chance 60 = .ok (.istore 8, 2) := by decide +kernel
theorem dX9_chance_62 : decode cX9_chance 62 = .ok (.iconst 0, 1) := by decide +kernel
theorem dX9_chance_63 : decode cX9_chance 63 = .ok (.istore 9, 2) := by decide +kernel
theorem dX9_chance_65 : decode cX9_chance 65 = .ok (.iload 9, 2) := by decide +kernel
theorem dX9_chance_67 : decode cX9_chance 67 = .ok (.aload_n 0, 1) := by decide +kernel
theorem dX9_chance_68 : decode cX9_chance 68 = .ok (.getfield 215, 3) := by decide +kernel
theorem dX9_chance_71 : decode cX9_chance 71 = .ok (.if_icmp .ge 29, 3) := by decide +kernel
theorem dX9_chance_74 : decode cX9_chance 74 = .ok (.iload 8, 2) := by decide +kernel
theorem dX9_chance_76 : decode cX9_chance 76 = .ok (.iload 7, 2) := by decide +kernel
theorem dX9_chance_78 : decode cX9_chance 78 = .ok (.iload 9, 2) := by decide +kernel
theorem dX9_chance_80 : decode cX9_chance 80 = .ok (.ishr, 1) := by decide +kernel
theorem dX9_chance_81 : decode cX9_chance 81 = .ok (.iconst 1, 1) := by decide +kernel
theorem dX9_chance_82 : decode cX9_chance 82 = .ok (.iand, 1) := by decide +kernel
theorem dX9_chance_83 : decode cX9_chance 83 = .ok (.aload_n 0, 1) := by decide +kernel
theorem dX9_chance_84 : decode cX9_chance 84 = .ok (.getfield 38, 3) := by decide +kernel
theorem dX9_chance_87 : decode cX9_chance 87 = .ok (.iload 9, 2) := by decide +kernel
theorem dX9_chance_89 : decode cX9_chance 89 = .ok (.iaload, 1) := by decide +kernel
theorem dX9_chance_90 : decode cX9_chance 90 = .ok (.imul, 1) := by decide +kernel
theorem dX9_chance_91 : decode cX9_chance 91 = .ok (.iadd, 1) := by decide +kernel
theorem dX9_chance_92 : decode cX9_chance 92 = .ok (.istore 8, 2) := by decide +kernel
theorem dX9_chance_94 : decode cX9_chance 94 = .ok (.iinc 9 1, 3) := by decide +kernel
theorem dX9_chance_97 : decode cX9_chance 97 = .ok (.goto (-32), 3) := by decide +kernel
theorem dX9_chance_100 : decode cX9_chance 100 = .ok (.iload 7, 2) := by decide +kernel
theorem dX9_chance_102 : decode cX9_chance 102 = .ok (.invokestatic 185, 3) := by decide +kernel
theorem dX9_chance_105 : decode cX9_chance 105 = .ok (.aload_n 0, 1) := by decide +kernel
theorem dX9_chance_106 : decode cX9_chance 106 = .ok (.invokevirtual 218, 3) := by decide +kernel
theorem dX9_chance_109 : decode cX9_chance 109 = .ok (.if_icmp .ne 7, 3) := by decide +kernel
theorem dX9_chance_112 : decode cX9_chance 112 = .ok (.iconst 1, 1) := by decide +kernel
theorem dX9_chance_113 : decode cX9_chance 113 = .ok (.goto 4, 3) := by decide +kernel
theorem dX9_chance_116 : decode cX9_chance 116 = .ok (.iconst 0, 1) := by decide +kernel
theorem dX9_chance_117 : decode cX9_chance 117 = .ok (.istore 9, 2) := by decide +kernel
theorem dX9_chance_119 : decode cX9_chance 119 = .ok (.lload_n 3, 1) := by decide +kernel
theorem dX9_chance_120 : decode cX9_chance 120 = .ok (.iload 9, 2) := by decide +kernel
theorem dX9_chance_122 : decode cX9_chance 122 = .ok (.ifCond .eq 7, 3) := by decide +kernel
theorem dX9_chance_125 : decode cX9_chance 125 = .ok (.lconst 1, 1) := by decide +kernel
theorem dX9_chance_126 : decode cX9_chance 126 = .ok (.goto 4, 3) := by decide +kernel
theorem dX9_chance_129 : decode cX9_chance 129 = .ok (.lconst 0, 1) := by decide +kernel
theorem dX9_chance_130 : decode cX9_chance 130 = .ok (.ladd, 1) := by decide +kernel
theorem dX9_chance_131 : decode cX9_chance 131 = .ok (.lstore_n 3, 1) := by decide +kernel
theorem dX9_chance_132 : decode cX9_chance 132 = .ok (.lload 5, 2) := by decide +kernel
theorem dX9_chance_134 : decode cX9_chance 134 = .ok (.iload 9, 2) := by decide +kernel
theorem dX9_chance_136 : decode cX9_chance 136 = .ok (.ifCond .eq 13, 3) := by decide +kernel
theorem dX9_chance_139 : decode cX9_chance 139 = .ok (.iload 8, 2) := by decide +kernel
theorem dX9_chance_141 : decode cX9_chance 141 = .ok (.iload_n 2, 1) := by decide +kernel
theorem dX9_chance_142 : decode cX9_chance 142 = .ok (.if_icmp .lt 7, 3) := by decide +kernel
theorem dX9_chance_145 : decode cX9_chance 145 = .ok (.lconst 1, 1) := by decide +kernel
theorem dX9_chance_146 : decode cX9_chance 146 = .ok (.goto 4, 3) := by decide +kernel
theorem dX9_chance_149 : decode cX9_chance 149 = .ok (.lconst 0, 1) := by decide +kernel
theorem dX9_chance_150 : decode cX9_chance 150 = .ok (.ladd, 1) := by decide +kernel
theorem dX9_chance_151 : decode cX9_chance 151 = .ok (.lstore 5, 2) := by decide +kernel
theorem dX9_chance_153 : decode cX9_chance 153 = .ok (.iinc 7 1, 3) := by decide +kernel
theorem dX9_chance_156 : decode cX9_chance 156 = .ok (.goto (-108), 3) := by decide +kernel
theorem dX9_chance_159 : decode cX9_chance 159 = .ok (.lload 5, 2) := by decide +kernel
theorem dX9_chance_161 : decode cX9_chance 161 = .ok (.lload_n 3, 1) := by decide +kernel
theorem dX9_chance_162 : decode cX9_chance 162 = .ok (.iload_n 1, 1) := by decide +kernel
theorem dX9_chance_163 : decode cX9_chance 163 = .ok (.invokestatic 149, 3) := by decide +kernel
theorem dX9_chance_166 : decode cX9_chance 166 = .ok (.lreturn, 1) := by decide +kernel
theorem dX9_until_0 : decode cX9_until 0 = .ok (.iload_n 1, 1) := by decide +kernel
theorem dX9_until_1 : decode cX9_until 1 = .ok (.i2l, 1) := by decide +kernel
theorem dX9_until_2 : decode cX9_until 2 = .ok (.lconst 1, 1) := by decide +kernel
theorem dX9_until_3 : decode cX9_until 3 = .ok (.ldc2_w 133, 3) := by decide +kernel
theorem dX9_until_6 : decode cX9_until 6 = .ok (.invokestatic 66, 3) := by decide +kernel
theorem dX9_until_9 : decode cX9_until 9 = .ok (.ifCond .ne 7, 3) := by decide +kernel
theorem dX9_until_12 : decode cX9_until 12 = .ok (.ldc2_w 135, 3) := by decide +kernel
theorem dX9_until_15 : decode cX9_until 15 = .ok (.lreturn, 1) := by decide +kernel
theorem dX9_until_16 : decode cX9_until 16 = .ok (.lconst 0, 1) := by decide +kernel
theorem dX9_until_17 : decode cX9_until 17 = .ok (.lstore_n 3, 1) := by decide +kernel
theorem dX9_until_18 : decode cX9_until 18 = .ok (.iconst 1, 1) := by decide +kernel
theorem dX9_until_19 : decode cX9_until 19 = .ok (.istore 5, 2) := by decide +kernel
theorem dX9_until_21 : decode cX9_until 21 = .ok (.iload 5, 2) := by decide +kernel
theorem dX9_until_23 : decode cX9_until 23 = .ok (.iload_n 1, 1) := by decide +kernel
theorem dX9_until_24 : decode cX9_until 24 = .ok (.if_icmp .gt 22, 3) := by decide +kernel
theorem dX9_until_27 : decode cX9_until 27 = .ok (.lload_n 3, 1) := by decide +kernel
theorem dX9_until_28 : decode cX9_until 28 = .ok (.iload_n 1, 1) := by decide +kernel
theorem dX9_until_29 : decode cX9_until 29 = .ok (.i2l, 1) := by decide +kernel
theorem dX9_until_30 : decode cX9_until 30 = .ok (.ldc2_w 158, 3) := by decide +kernel
theorem dX9_until_33 : decode cX9_until 33 = .ok (.iload 5, 2) := by decide +kernel
theorem dX9_until_35 : decode cX9_until 35 = .ok (.i2l, 1) := by decide +kernel
theorem dX9_until_36 : decode cX9_until 36 = .ok (.ldiv, 1) := by decide +kernel
theorem dX9_until_37 : decode cX9_until 37 = .ok (.lmul, 1) := by decide +kernel
theorem dX9_until_38 : decode cX9_until 38 = .ok (.ladd, 1) := by decide +kernel
theorem dX9_until_39 : decode cX9_until 39 = .ok (.lstore_n 3, 1) := by decide +kernel
theorem dX9_until_40 : decode cX9_until 40 = .ok (.iinc 5 1, 3) := by decide +kernel
theorem dX9_until_43 : decode cX9_until 43 = .ok (.goto (-22), 3) := by decide +kernel
theorem dX9_until_46 : decode cX9_until 46 = .ok (.lload_n 3, 1) := by decide +kernel
theorem dX9_until_47 : decode cX9_until 47 = .ok (.ldc2_w 158, 3) := by decide +kernel
theorem dX9_until_50 : decode cX9_until 50 = .ok (.iload_n 2, 1) := by decide +kernel
theorem dX9_until_51 : decode cX9_until 51 = .ok (.invokestatic 149, 3) := by decide +kernel
theorem dX9_until_54 : decode cX9_until 54 = .ok (.lreturn, 1) := by decide +kernel
theorem dX9_keep_0 : decode cX9_keep 0 = .ok (.iload_n 1, 1) := by decide +kernel
theorem dX9_keep_1 : decode cX9_keep 1 = .ok (.i2l, 1) := by decide +kernel
theorem dX9_keep_2 : decode cX9_keep 2 = .ok (.lconst 0, 1) := by decide +kernel
theorem dX9_keep_3 : decode cX9_keep 3 = .ok (.lconst 1, 1) := by decide +kernel
theorem dX9_keep_4 : decode cX9_keep 4 = .ok (.invokestatic 66, 3) := by decide +kernel
theorem dX9_keep_7 : decode cX9_keep 7 = .ok (.ifCond .ne 5, 3) := by decide +kernel
theorem dX9_keep_10 : decode cX9_keep 10 = .ok (.iconst (-1), 1) := by decide +kernel
theorem dX9_keep_11 : decode cX9_keep 11 = .ok (.ireturn, 1) := by decide +kernel
theorem dX9_keep_12 : decode cX9_keep 12 = .ok (.aload_n 0, 1) := by decide +kernel
theorem dX9_keep_13 : decode cX9_keep 13 = .ok (.getfield 45, 3) := by decide +kernel
theorem dX9_keep_16 : decode cX9_keep 16 = .ok (.iload_n 1, 1) := by decide +kernel
theorem dX9_keep_17 : decode cX9_keep 17 = .ok (.iconst 1, 1) := by decide +kernel
theorem dX9_keep_18 : decode cX9_keep 18 = .ok (.bastore, 1) := by decide +kernel
theorem dX9_keep_19 : decode cX9_keep 19 = .ok (.iconst 0, 1) := by decide +kernel
theorem dX9_keep_20 : decode cX9_keep 20 = .ok (.istore_n 2, 1) := by decide +kernel
theorem dX9_keep_21 : decode cX9_keep 21 = .ok (.iload_n 2, 1) := by decide +kernel
theorem dX9_keep_22 : decode cX9_keep 22 = .ok (.bipush 12, 2) := by decide +kernel
theorem dX9_keep_24 : decode cX9_keep 24 = .ok (.if_icmp .ge 43, 3) := by decide +kernel
theorem dX9_keep_27 : decode cX9_keep 27 = .ok (.aload_n 0, 1) := by decide +kernel
theorem dX9_keep_28 : decode cX9_keep 28 = .ok (.getfield 48, 3) := by decide +kernel
theorem dX9_keep_31 : decode cX9_keep 31 = .ok (.bipush 12, 2) := by decide +kernel
theorem dX9_keep_33 : decode cX9_keep 33 = .ok (.iload_n 1, 1) := by decide +kernel
theorem dX9_keep_34 : decode cX9_keep 34 = .ok (.imul, 1) := by decide +kernel
theorem dX9_keep_35 : decode cX9_keep 35 = .ok (.iload_n 2, 1) := by decide +kernel
theorem dX9_keep_36 : decode cX9_keep 36 = .ok (.iadd, 1) := by decide +kernel
theorem dX9_keep_37 : decode cX9_keep 37 = .ok (.aload_n 0, 1) := by decide +kernel
theorem dX9_keep_38 : decode cX9_keep 38 = .ok (.getfield 16, 3) := by decide +kernel
theorem dX9_keep_41 : decode cX9_keep 41 = .ok (.iload_n 2, 1) := by decide +kernel
theorem dX9_keep_42 : decode cX9_keep 42 = .ok (.iaload, 1) := by decide +kernel
theorem dX9_keep_43 : decode cX9_keep 43 = .ok (.iastore, 1) := by decide +kernel
theorem dX9_keep_44 : decode cX9_keep 44 = .ok (.aload_n 0, 1) := by decide +kernel
theorem dX9_keep_45 : decode cX9_keep 45 = .ok (.getfield 51, 3) := by decide +kernel
theorem dX9_keep_48 : decode cX9_keep 48 = .ok (.bipush 12, 2) := by decide +kernel
theorem dX9_keep_50 : decode cX9_keep 50 = .ok (.iload_n 1, 1) := by decide +kernel
theorem dX9_keep_51 : decode cX9_keep 51 = .ok (.imul, 1) := by decide +kernel
theorem dX9_keep_52 : decode cX9_keep 52 = .ok (.iload_n 2, 1) := by decide +kernel
theorem dX9_keep_53 : decode cX9_keep 53 = .ok (.iadd, 1) := by decide +kernel
theorem dX9_keep_54 : decode cX9_keep 54 = .ok (.aload_n 0, 1) := by decide +kernel
theorem dX9_keep_55 : decode cX9_keep 55 = .ok (.getfield 19, 3) := by decide +kernel
theorem dX9_keep_58 : decode cX9_keep 58 = .ok (.iload_n 2, 1) := by decide +kernel
theorem dX9_keep_59 : decode cX9_keep 59 = .ok (.iaload, 1) := by decide +kernel
theorem dX9_keep_60 : decode cX9_keep 60 = .ok (.iastore, 1) := by decide +kernel
theorem dX9_keep_61 : decode cX9_keep 61 = .ok (.iinc 2 1, 3) := by decide +kernel
theorem dX9_keep_64 : decode cX9_keep 64 = .ok (.goto (-43), 3) := by decide +kernel
theorem dX9_keep_67 : decode cX9_keep 67 = .ok (.aload_n 0, 1) := by decide +kernel
theorem dX9_keep_68 : decode cX9_keep 68 = .ok (.getfield 54, 3) := by decide +kernel
theorem dX9_keep_71 : decode cX9_keep 71 = .ok (.iload_n 1, 1) := by decide +kernel
theorem dX9_keep_72 : decode cX9_keep 72 = .ok (.aload_n 0, 1) := by decide +kernel
theorem dX9_keep_73 : decode cX9_keep 73 = .ok (.getfield 100, 3) := by decide +kernel
theorem dX9_keep_76 : decode cX9_keep 76 = .ok (.lastore, 1) := by decide +kernel
theorem dX9_keep_77 : decode cX9_keep 77 = .ok (.aload_n 0, 1) := by decide +kernel
theorem dX9_keep_78 : decode cX9_keep 78 = .ok (.getfield 57, 3) := by decide +kernel
theorem dX9_keep_81 : decode cX9_keep 81 = .ok (.iconst 3, 1) := by decide +kernel
theorem dX9_keep_82 : decode cX9_keep 82 = .ok (.iload_n 1, 1) := by decide +kernel
theorem dX9_keep_83 : decode cX9_keep 83 = .ok (.imul, 1) := by decide +kernel
theorem dX9_keep_84 : decode cX9_keep 84 = .ok (.aload_n 0, 1) := by decide +kernel
theorem dX9_keep_85 : decode cX9_keep 85 = .ok (.getfield 104, 3) := by decide +kernel
theorem dX9_keep_88 : decode cX9_keep 88 = .ok (.iastore, 1) := by decide +kernel
theorem dX9_keep_89 : decode cX9_keep 89 = .ok (.aload_n 0, 1) := by decide +kernel
theorem dX9_keep_90 : decode cX9_keep 90 = .ok (.getfield 57, 3) := by decide +kernel
theorem dX9_keep_93 : decode cX9_keep 93 = .ok (.iconst 3, 1) := by decide +kernel
theorem dX9_keep_94 : decode cX9_keep 94 = .ok (.iload_n 1, 1) := by decide +kernel
theorem dX9_keep_95 : decode cX9_keep 95 = .ok (.imul, 1) := by decide +kernel
theorem dX9_keep_96 : decode cX9_keep 96 = .ok (.iconst 1, 1) := by decide +kernel
theorem dX9_keep_97 : decode cX9_keep 97 = .ok (.iadd, 1) := by decide +kernel
theorem dX9_keep_98 : decode cX9_keep 98 = .ok (.aload_n 0, 1) := by decide +kernel
theorem dX9_keep_99 : decode cX9_keep 99 = .ok (.getfield 107, 3) := by decide +kernel
theorem dX9_keep_102 : decode cX9_keep 102 = .ok (.iastore, 1) := by decide +kernel
theorem dX9_keep_103 : decode cX9_keep 103 = .ok (.aload_n 0, 1) := by decide +kernel
theorem dX9_keep_104 : decode cX9_keep 104 = .ok (.getfield 57, 3) := by decide +kernel
theorem dX9_keep_107 : decode cX9_keep 107 = .ok (.iconst 3, 1) := by decide +kernel
theorem dX9_keep_108 : decode cX9_keep 108 = .ok (.iload_n 1, 1) := by decide +kernel
theorem dX9_keep_109 : decode cX9_keep 109 = .ok (.imul, 1) := by decide +kernel
theorem dX9_keep_110 : decode cX9_keep 110 = .ok (.iconst 2, 1) := by decide +kernel
theorem dX9_keep_111 : decode cX9_keep 111 = .ok (.iadd, 1) := by decide +kernel
theorem dX9_keep_112 : decode cX9_keep 112 = .ok (.aload_n 0, 1) := by decide +kernel
theorem dX9_keep_113 : decode cX9_keep 113 = .ok (.getfield 110, 3) := by decide +kernel
theorem dX9_keep_116 : decode cX9_keep 116 = .ok (.iastore, 1) := by decide +kernel
theorem dX9_keep_117 : decode cX9_keep 117 = .ok (.aload_n 0, 1) := by decide +kernel
theorem dX9_keep_118 : decode cX9_keep 118 = .ok (.getfield 104, 3) := by decide +kernel
theorem dX9_keep_121 : decode cX9_keep 121 = .ok (.ireturn, 1) := by decide +kernel
theorem dX9_again_0 : decode cX9_again 0 = .ok (.iload_n 1, 1) := by decide +kernel
theorem dX9_again_1 : decode cX9_again 1 = .ok (.i2l, 1) := by decide +kernel
theorem dX9_again_2 : decode cX9_again 2 = .ok (.lconst 0, 1) := by decide +kernel
theorem dX9_again_3 : decode cX9_again 3 = .ok (.lconst 1, 1) := by decide +kernel
theorem dX9_again_4 : decode cX9_again 4 = .ok (.invokestatic 66, 3) := by decide +kernel
theorem dX9_again_7 : decode cX9_again 7 = .ok (.ifCond .ne 5, 3) := by decide +kernel
theorem dX9_again_10 : decode cX9_again 10 = .ok (.iconst (-1), 1) := by decide +kernel
theorem dX9_again_11 : decode cX9_again 11 = .ok (.ireturn, 1) := by decide +kernel
theorem dX9_again_12 : decode cX9_again 12 = .ok (.aload_n 0, 1) := by decide +kernel
theorem dX9_again_13 : decode cX9_again 13 = .ok (.getfield 45, 3) := by decide +kernel
theorem dX9_again_16 : decode cX9_again 16 = .ok (.iload_n 1, 1) := by decide +kernel
theorem dX9_again_17 : decode cX9_again 17 = .ok (.baload, 1) := by decide +kernel
theorem dX9_again_18 : decode cX9_again 18 = .ok (.ifCond .ne 6, 3) := by decide +kernel
theorem dX9_again_21 : decode cX9_again 21 = .ok (.bipush (-3), 2) := by decide +kernel
theorem dX9_again_23 : decode cX9_again 23 = .ok (.ireturn, 1) := by decide +kernel
theorem dX9_again_24 : decode cX9_again 24 = .ok (.iconst 0, 1) := by decide +kernel
theorem dX9_again_25 : decode cX9_again 25 = .ok (.istore_n 2, 1) := by decide +kernel
theorem dX9_again_26 : decode cX9_again 26 = .ok (.iload_n 2, 1) := by decide +kernel
theorem dX9_again_27 : decode cX9_again 27 = .ok (.bipush 12, 2) := by decide +kernel
theorem dX9_again_29 : decode cX9_again 29 = .ok (.if_icmp .ge 43, 3) := by decide +kernel
theorem dX9_again_32 : decode cX9_again 32 = .ok (.aload_n 0, 1) := by decide +kernel
theorem dX9_again_33 : decode cX9_again 33 = .ok (.getfield 16, 3) := by decide +kernel
theorem dX9_again_36 : decode cX9_again 36 = .ok (.iload_n 2, 1) := by decide +kernel
theorem dX9_again_37 : decode cX9_again 37 = .ok (.aload_n 0, 1) := by decide +kernel
theorem dX9_again_38 : decode cX9_again 38 = .ok (.getfield 48, 3) := by decide +kernel
theorem dX9_again_41 : decode cX9_again 41 = .ok (.bipush 12, 2) := by decide +kernel
theorem dX9_again_43 : decode cX9_again 43 = .ok (.iload_n 1, 1) := by decide +kernel
theorem dX9_again_44 : decode cX9_again 44 = .ok (.imul, 1) := by decide +kernel
theorem dX9_again_45 : decode cX9_again 45 = .ok (.iload_n 2, 1) := by decide +kernel
theorem dX9_again_46 : decode cX9_again 46 = .ok (.iadd, 1) := by decide +kernel
theorem dX9_again_47 : decode cX9_again 47 = .ok (.iaload, 1) := by decide +kernel
theorem dX9_again_48 : decode cX9_again 48 = .ok (.iastore, 1) := by decide +kernel
theorem dX9_again_49 : decode cX9_again 49 = .ok (.aload_n 0, 1) := by decide +kernel
theorem dX9_again_50 : decode cX9_again 50 = .ok (.getfield 19, 3) := by decide +kernel
theorem dX9_again_53 : decode cX9_again 53 = .ok (.iload_n 2, 1) := by decide +kernel
theorem dX9_again_54 : decode cX9_again 54 = .ok (.aload_n 0, 1) := by decide +kernel
theorem dX9_again_55 : decode cX9_again 55 = .ok (.getfield 51, 3) := by decide +kernel
theorem dX9_again_58 : decode cX9_again 58 = .ok (.bipush 12, 2) := by decide +kernel
theorem dX9_again_60 : decode cX9_again 60 = .ok (.iload_n 1, 1) := by decide +kernel
theorem dX9_again_61 : decode cX9_again 61 = .ok (.imul, 1) := by decide +kernel
theorem dX9_again_62 : decode cX9_again 62 = .ok (.iload_n 2, 1) := by decide +kernel
theorem dX9_again_63 : decode cX9_again 63 = .ok (.iadd, 1) := by decide +kernel
theorem dX9_again_64 : decode cX9_again 64 = .ok (.iaload, 1) := by decide +kernel
theorem dX9_again_65 : decode cX9_again 65 = .ok (.iastore, 1) := by decide +kernel
theorem dX9_again_66 : decode cX9_again 66 = .ok (.iinc 2 1, 3) := by decide +kernel
theorem dX9_again_69 : decode cX9_again 69 = .ok (.goto (-43), 3) := by decide +kernel
theorem dX9_again_72 : decode cX9_again 72 = .ok (.aload_n 0, 1) := by decide +kernel
theorem dX9_again_73 : decode cX9_again 73 = .ok (.aload_n 0, 1) := by decide +kernel
theorem dX9_again_74 : decode cX9_again 74 = .ok (.getfield 54, 3) := by decide +kernel
theorem dX9_again_77 : decode cX9_again 77 = .ok (.iload_n 1, 1) := by decide +kernel
theorem dX9_again_78 : decode cX9_again 78 = .ok (.laload, 1) := by decide +kernel
theorem dX9_again_79 : decode cX9_again 79 = .ok (.putfield 100, 3) := by decide +kernel
theorem dX9_again_82 : decode cX9_again 82 = .ok (.aload_n 0, 1) := by decide +kernel
theorem dX9_again_83 : decode cX9_again 83 = .ok (.aload_n 0, 1) := by decide +kernel
theorem dX9_again_84 : decode cX9_again 84 = .ok (.getfield 57, 3) := by decide +kernel
theorem dX9_again_87 : decode cX9_again 87 = .ok (.iconst 3, 1) := by decide +kernel
theorem dX9_again_88 : decode cX9_again 88 = .ok (.iload_n 1, 1) := by decide +kernel
theorem dX9_again_89 : decode cX9_again 89 = .ok (.imul, 1) := by decide +kernel
theorem dX9_again_90 : decode cX9_again 90 = .ok (.iaload, 1) := by decide +kernel
theorem dX9_again_91 : decode cX9_again 91 = .ok (.putfield 104, 3) := by decide +kernel
theorem dX9_again_94 : decode cX9_again 94 = .ok (.aload_n 0, 1) := by decide +kernel
theorem dX9_again_95 : decode cX9_again 95 = .ok (.aload_n 0, 1) := by decide +kernel
theorem dX9_again_96 : decode cX9_again 96 = .ok (.getfield 57, 3) := by decide +kernel
theorem dX9_again_99 : decode cX9_again 99 = .ok (.iconst 3, 1) := by decide +kernel
theorem dX9_again_100 : decode cX9_again 100 = .ok (.iload_n 1, 1) := by decide +kernel
theorem dX9_again_101 : decode cX9_again 101 = .ok (.imul, 1) := by decide +kernel
theorem dX9_again_102 : decode cX9_again 102 = .ok (.iconst 1, 1) := by decide +kernel
theorem dX9_again_103 : decode cX9_again 103 = .ok (.iadd, 1) := by decide +kernel
theorem dX9_again_104 : decode cX9_again 104 = .ok (.iaload, 1) := by decide +kernel
theorem dX9_again_105 : decode cX9_again 105 = .ok (.putfield 107, 3) := by decide +kernel
theorem dX9_again_108 : decode cX9_again 108 = .ok (.aload_n 0, 1) := by decide +kernel
theorem dX9_again_109 : decode cX9_again 109 = .ok (.aload_n 0, 1) := by decide +kernel
theorem dX9_again_110 : decode cX9_again 110 = .ok (.getfield 57, 3) := by decide +kernel
theorem dX9_again_113 : decode cX9_again 113 = .ok (.iconst 3, 1) := by decide +kernel
theorem dX9_again_114 : decode cX9_again 114 = .ok (.iload_n 1, 1) := by decide +kernel
theorem dX9_again_115 : decode cX9_again 115 = .ok (.imul, 1) := by decide +kernel
theorem dX9_again_116 : decode cX9_again 116 = .ok (.iconst 2, 1) := by decide +kernel
theorem dX9_again_117 : decode cX9_again 117 = .ok (.iadd, 1) := by decide +kernel
theorem dX9_again_118 : decode cX9_again 118 = .ok (.iaload, 1) := by decide +kernel
theorem dX9_again_119 : decode cX9_again 119 = .ok (.putfield 110, 3) := by decide +kernel
theorem dX9_again_122 : decode cX9_again 122 = .ok (.aload_n 0, 1) := by decide +kernel
theorem dX9_again_123 : decode cX9_again 123 = .ok (.getfield 104, 3) := by decide +kernel
theorem dX9_again_126 : decode cX9_again 126 = .ok (.ireturn, 1) := by decide +kernel
theorem dX9_count_0 : decode cX9_count 0 = .ok (.iload_n 1, 1) := by decide +kernel
theorem dX9_count_1 : decode cX9_count 1 = .ok (.tableswitch 60 0 4 #[35, 40, 45, 50, 55], 35) := by decide +kernel
theorem dX9_count_36 : decode cX9_count 36 = .ok (.aload_n 0, 1) := by decide +kernel
theorem dX9_count_37 : decode cX9_count 37 = .ok (.getfield 70, 3) := by decide +kernel
theorem dX9_count_40 : decode cX9_count 40 = .ok (.ireturn, 1) := by decide +kernel
theorem dX9_count_41 : decode cX9_count 41 = .ok (.aload_n 0, 1) := by decide +kernel
theorem dX9_count_42 : decode cX9_count 42 = .ok (.getfield 97, 3) := by decide +kernel
theorem dX9_count_45 : decode cX9_count 45 = .ok (.ireturn, 1) := by decide +kernel
theorem dX9_count_46 : decode cX9_count 46 = .ok (.aload_n 0, 1) := by decide +kernel
theorem dX9_count_47 : decode cX9_count 47 = .ok (.getfield 198, 3) := by decide +kernel
theorem dX9_count_50 : decode cX9_count 50 = .ok (.ireturn, 1) := by decide +kernel
theorem dX9_count_51 : decode cX9_count 51 = .ok (.aload_n 0, 1) := by decide +kernel
theorem dX9_count_52 : decode cX9_count 52 = .ok (.getfield 215, 3) := by decide +kernel
theorem dX9_count_55 : decode cX9_count 55 = .ok (.ireturn, 1) := by decide +kernel
theorem dX9_count_56 : decode cX9_count 56 = .ok (.aload_n 0, 1) := by decide +kernel
theorem dX9_count_57 : decode cX9_count 57 = .ok (.invokevirtual 218, 3) := by decide +kernel
theorem dX9_count_60 : decode cX9_count 60 = .ok (.ireturn, 1) := by decide +kernel
theorem dX9_count_61 : decode cX9_count 61 = .ok (.bipush (-2), 2) := by decide +kernel
theorem dX9_count_63 : decode cX9_count 63 = .ok (.ireturn, 1) := by decide +kernel
end
section
theorem dX0_init_0 : decode cX0_init 0 = .ok (.aload_n 0, 1) := by decide +kernel
theorem dX0_init_1 : decode cX0_init 1 = .ok (.invokespecial 3, 3) := by decide +kernel
theorem dX0_init_4 : decode cX0_init 4 = .ok (.aload_n 0, 1) := by decide +kernel
theorem dX0_init_5 : decode cX0_init 5 = .ok (.bipush 12, 2) := by decide +kernel
theorem dX0_init_7 : decode cX0_init 7 = .ok (.newarray .int, 2) := by decide +kernel
theorem dX0_init_9 : decode cX0_init 9 = .ok (.putfield 9, 3) := by decide +kernel
theorem dX0_init_12 : decode cX0_init 12 = .ok (.aload_n 0, 1) := by decide +kernel
theorem dX0_init_13 : decode cX0_init 13 = .ok (.bipush 12, 2) := by decide +kernel
theorem dX0_init_15 : decode cX0_init 15 = .ok (.newarray .int, 2) := by decide +kernel
theorem dX0_init_17 : decode cX0_init 17 = .ok (.putfield 15, 3) := by decide +kernel
theorem dX0_init_20 : decode cX0_init 20 = .ok (.aload_n 0, 1) := by decide +kernel
theorem dX0_init_21 : decode cX0_init 21 = .ok (.bipush 12, 2) := by decide +kernel
theorem dX0_init_23 : decode cX0_init 23 = .ok (.newarray .int, 2) := by decide +kernel
theorem dX0_init_25 : decode cX0_init 25 = .ok (.putfield 18, 3) := by decide +kernel
theorem dX0_init_28 : decode cX0_init 28 = .ok (.aload_n 0, 1) := by decide +kernel
theorem dX0_init_29 : decode cX0_init 29 = .ok (.new 21, 3) := by decide +kernel
theorem dX0_init_32 : decode cX0_init 32 = .ok (.dup, 1) := by decide +kernel
theorem dX0_init_33 : decode cX0_init 33 = .ok (.invokespecial 23, 3) := by decide +kernel
theorem dX0_init_36 : decode cX0_init 36 = .ok (.putfield 24, 3) := by decide +kernel
theorem dX0_init_39 : decode cX0_init 39 = .ok (.return_, 1) := by decide +kernel
theorem dX0_look_0 : decode cX0_look 0 = .ok (.aload_n 0, 1) := by decide +kernel
theorem dX0_look_1 : decode cX0_look 1 = .ok (.aload_n 1, 1) := by decide +kernel
theorem dX0_look_2 : decode cX0_look 2 = .ok (.getfield 28, 3) := by decide +kernel
theorem dX0_look_5 : decode cX0_look 5 = .ok (.putfield 34, 3) := by decide +kernel
theorem dX0_look_8 : decode cX0_look 8 = .ok (.aload_n 0, 1) := by decide +kernel
theorem dX0_look_9 : decode cX0_look 9 = .ok (.iload_n 3, 1) := by decide +kernel
theorem dX0_look_10 : decode cX0_look 10 = .ok (.putfield 35, 3) := by decide +kernel
theorem dX0_look_13 : decode cX0_look 13 = .ok (.aload_n 0, 1) := by decide +kernel
theorem dX0_look_14 : decode cX0_look 14 = .ok (.getfield 35, 3) := by decide +kernel
theorem dX0_look_17 : decode cX0_look 17 = .ok (.iconst 3, 1) := by decide +kernel
theorem dX0_look_18 : decode cX0_look 18 = .ok (.if_icmp .ne 7, 3) := by decide +kernel
theorem dX0_look_21 : decode cX0_look 21 = .ok (.iconst 1, 1) := by decide +kernel
theorem dX0_look_22 : decode cX0_look 22 = .ok (.goto 4, 3) := by decide +kernel
theorem dX0_look_25 : decode cX0_look 25 = .ok (.iconst 0, 1) := by decide +kernel
theorem dX0_look_26 : decode cX0_look 26 = .ok (.istore 4, 2) := by decide +kernel
theorem dX0_look_28 : decode cX0_look 28 = .ok (.iconst 0, 1) := by decide +kernel
theorem dX0_look_29 : decode cX0_look 29 = .ok (.istore 5, 2) := by decide +kernel
theorem dX0_look_31 : decode cX0_look 31 = .ok (.iload 5, 2) := by decide +kernel
theorem dX0_look_33 : decode cX0_look 33 = .ok (.aload_n 0, 1) := by decide +kernel
theorem dX0_look_34 : decode cX0_look 34 = .ok (.getfield 34, 3) := by decide +kernel
theorem dX0_look_37 : decode cX0_look 37 = .ok (.if_icmp .ge 72, 3) := by decide +kernel
theorem dX0_look_40 : decode cX0_look 40 = .ok (.aload_n 0, 1) := by decide +kernel
theorem dX0_look_41 : decode cX0_look 41 = .ok (.getfield 9, 3) := by decide +kernel
theorem dX0_look_44 : decode cX0_look 44 = .ok (.iload 5, 2) := by decide +kernel
theorem dX0_look_46 : decode cX0_look 46 = .ok (.aload_n 1, 1) := by decide +kernel
theorem dX0_look_47 : decode cX0_look 47 = .ok (.iload 5, 2) := by decide +kernel
theorem dX0_look_49 : decode cX0_look 49 = .ok (.aload_n 0, 1) := by decide +kernel
theorem dX0_look_50 : decode cX0_look 50 = .ok (.getfield 35, 3) := by decide +kernel
theorem dX0_look_53 : decode cX0_look 53 = .ok (.invokevirtual 38, 3) := by decide +kernel
theorem dX0_look_56 : decode cX0_look 56 = .ok (.invokestatic 42, 3) := by decide +kernel
theorem dX0_look_59 : decode cX0_look 59 = .ok (.aload_n 0, 1) := by decide +kernel
theorem dX0_look_60 : decode cX0_look 60 = .ok (.getfield 15, 3) := by decide +kernel
theorem dX0_look_63 : decode cX0_look 63 = .ok (.iload 5, 2) := by decide +kernel
theorem dX0_look_65 : decode cX0_look 65 = .ok (.iload 4, 2) := by decide +kernel
theorem dX0_look_67 : decode cX0_look 67 = .ok (.ifCond .eq 8, 3) := by decide +kernel
theorem dX0_look_70 : decode cX0_look 70 = .ok (.bipush 10, 2) := by decide +kernel
theorem dX0_look_72 : decode cX0_look 72 = .ok (.goto 10, 3) := by decide +kernel
theorem dX0_look_75 : decode cX0_look 75 = .ok (.aload_n 1, 1) := by decide +kernel
theorem dX0_look_76 : decode cX0_look 76 = .ok (.iload 5, 2) := by decide +kernel
theorem dX0_look_78 : decode cX0_look 78 = .ok (.iload_n 2, 1) := by decide +kernel
theorem dX0_look_79 : decode cX0_look 79 = .ok (.invokevirtual 46, 3) := by decide +kernel
theorem dX0_look_82 : decode cX0_look 82 = .ok (.invokestatic 42, 3) := by decide +kernel
theorem dX0_look_85 : decode cX0_look 85 = .ok (.aload_n 0, 1) := by decide +kernel
theorem dX0_look_86 : decode cX0_look 86 = .ok (.getfield 18, 3) := by decide +kernel
theorem dX0_look_89 : decode cX0_look 89 = .ok (.iload 5, 2) := by decide +kernel
theorem dX0_look_91 : decode cX0_look 91 = .ok (.aload_n 1, 1) := by decide +kernel
theorem dX0_look_92 : decode cX0_look 92 = .ok (.iload 5, 2) := by decide +kernel
theorem dX0_look_94 : decode cX0_look 94 = .ok (.iload_n 2, 1) := by decide +kernel
theorem dX0_look_95 : decode cX0_look 95 = .ok (.iload 4, 2) := by decide +kernel
theorem dX0_look_97 : decode cX0_look 97 = .ok (.invokevirtual 49, 3) := by decide +kernel
theorem dX0_look_100 : decode cX0_look 100 = .ok (.invokestatic 42, 3) := by decide +kernel
theorem dX0_look_103 : decode cX0_look 103 = .ok (.iinc 5 1, 3) := by decide +kernel
theorem dX0_look_106 : decode cX0_look 106 = .ok (.goto (-75), 3) := by decide +kernel
theorem dX0_look_109 : decode cX0_look 109 = .ok (.return_, 1) := by decide +kernel
theorem dX0_weightOfAll_0 : decode cX0_weightOfAll 0 = .ok (.aload_n 0, 1) := by decide +kernel
theorem dX0_weightOfAll_1 : decode cX0_weightOfAll 1 = .ok (.getfield 35, 3) := by decide +kernel
theorem dX0_weightOfAll_4 : decode cX0_weightOfAll 4 = .ok (.lookupswitch 50 #[(2, 28), (3, 40)], 28) := by decide +kernel
theorem dX0_weightOfAll_32 : decode cX0_weightOfAll 32 = .ok (.ldc2_w 53, 3) := by decide +kernel
theorem dX0_weightOfAll_35 : decode cX0_weightOfAll 35 = .ok (.aload_n 0, 1) := by decide +kernel
theorem dX0_weightOfAll_36 : decode cX0_weightOfAll 36 = .ok (.getfield 34, 3) := by decide +kernel
theorem dX0_weightOfAll_39 : decode cX0_weightOfAll 39 = .ok (.invokestatic 55, 3) := by decide +kernel
theorem dX0_weightOfAll_42 : decode cX0_weightOfAll 42 = .ok (.lmul, 1) := by decide +kernel
theorem dX0_weightOfAll_43 : decode cX0_weightOfAll 43 = .ok (.lreturn, 1) := by decide +kernel
theorem dX0_weightOfAll_44 : decode cX0_weightOfAll 44 = .ok (.ldc2_w 59, 3) := by decide +kernel
theorem dX0_weightOfAll_47 : decode cX0_weightOfAll 47 = .ok (.aload_n 0, 1) := by decide +kernel
theorem dX0_weightOfAll_48 : decode cX0_weightOfAll 48 = .ok (.getfield 34, 3) := by decide +kernel
theorem dX0_weightOfAll_51 : decode cX0_weightOfAll 51 = .ok (.i2l, 1) := by decide +kernel
theorem dX0_weightOfAll_52 : decode cX0_weightOfAll 52 = .ok (.lmul, 1) := by decide +kernel
theorem dX0_weightOfAll_53 : decode cX0_weightOfAll 53 = .ok (.lreturn, 1) := by decide +kernel
theorem dX0_weightOfAll_54 : decode cX0_weightOfAll 54 = .ok (.aload_n 0, 1) := by decide +kernel
theorem dX0_weightOfAll_55 : decode cX0_weightOfAll 55 = .ok (.getfield 34, 3) := by decide +kernel
theorem dX0_weightOfAll_58 : decode cX0_weightOfAll 58 = .ok (.invokestatic 55, 3) := by decide +kernel
theorem dX0_weightOfAll_61 : decode cX0_weightOfAll 61 = .ok (.lreturn, 1) := by decide +kernel
theorem dX0_weightOfTaken_0 : decode cX0_weightOfTaken 0 = .ok (.aload_n 0, 1) := by decide +kernel
theorem dX0_weightOfTaken_1 : decode cX0_weightOfTaken 1 = .ok (.getfield 15, 3) := by decide +kernel
theorem dX0_weightOfTaken_4 : decode cX0_weightOfTaken 4 = .ok (.iload_n 1, 1) := by decide +kernel
theorem dX0_weightOfTaken_5 : decode cX0_weightOfTaken 5 = .ok (.invokestatic 61, 3) := by decide +kernel
theorem dX0_weightOfTaken_8 : decode cX0_weightOfTaken 8 = .ok (.i2l, 1) := by decide +kernel
theorem dX0_weightOfTaken_9 : decode cX0_weightOfTaken 9 = .ok (.aload_n 0, 1) := by decide +kernel
theorem dX0_weightOfTaken_10 : decode cX0_weightOfTaken 10 = .ok (.iload_n 1, 1) := by decide +kernel
theorem dX0_weightOfTaken_11 : decode cX0_weightOfTaken 11 = .ok (.invokevirtual 65, 3) := by decide +kernel
theorem dX0_weightOfTaken_14 : decode cX0_weightOfTaken 14 = .ok (.lmul, 1) := by decide +kernel
theorem dX0_weightOfTaken_15 : decode cX0_weightOfTaken 15 = .ok (.lreturn, 1) := by decide +kernel
theorem dX0_weightOfRight_0 : decode cX0_weightOfRight 0 = .ok (.lconst 0, 1) := by decide +kernel
theorem dX0_weightOfRight_1 : decode cX0_weightOfRight 1 = .ok (.lstore_n 1, 1) := by decide +kernel
theorem dX0_weightOfRight_2 : decode cX0_weightOfRight 2 = .ok (.iconst 0, 1) := by decide +kernel
theorem dX0_weightOfRight_3 : decode cX0_weightOfRight 3 = .ok (.istore_n 3, 1) := by decide +kernel
theorem dX0_weightOfRight_4 : decode cX0_weightOfRight 4 = .ok (.iload_n 3, 1) := by decide +kernel
theorem dX0_weightOfRight_5 : decode cX0_weightOfRight 5 = .ok (.aload_n 0, 1) := by decide +kernel
theorem dX0_weightOfRight_6 : decode cX0_weightOfRight 6 = .ok (.getfield 34, 3) := by decide +kernel
theorem dX0_weightOfRight_9 : decode cX0_weightOfRight 9 = .ok (.if_icmp .ge 27, 3) := by decide +kernel
theorem dX0_weightOfRight_12 : decode cX0_weightOfRight 12 = .ok (.lload_n 1, 1) := by decide +kernel
theorem dX0_weightOfRight_13 : decode cX0_weightOfRight 13 = .ok (.aload_n 0, 1) := by decide +kernel
theorem dX0_weightOfRight_14 : decode cX0_weightOfRight 14 = .ok (.getfield 18, 3) := by decide +kernel
theorem dX0_weightOfRight_17 : decode cX0_weightOfRight 17 = .ok (.iload_n 3, 1) := by decide +kernel
theorem dX0_weightOfRight_18 : decode cX0_weightOfRight 18 = .ok (.invokestatic 61, 3) := by decide +kernel
theorem dX0_weightOfRight_21 : decode cX0_weightOfRight 21 = .ok (.i2l, 1) := by decide +kernel
theorem dX0_weightOfRight_22 : decode cX0_weightOfRight 22 = .ok (.aload_n 0, 1) := by decide +kernel
theorem dX0_weightOfRight_23 : decode cX0_weightOfRight 23 = .ok (.iload_n 3, 1) := by decide +kernel
theorem dX0_weightOfRight_24 : decode cX0_weightOfRight 24 = .ok (.invokevirtual 65, 3) := by decide +kernel
theorem dX0_weightOfRight_27 : decode cX0_weightOfRight 27 = .ok (.lmul, 1) := by decide +kernel
theorem dX0_weightOfRight_28 : decode cX0_weightOfRight 28 = .ok (.ladd, 1) := by decide +kernel
theorem dX0_weightOfRight_29 : decode cX0_weightOfRight 29 = .ok (.lstore_n 1, 1) := by decide +kernel
theorem dX0_weightOfRight_30 : decode cX0_weightOfRight 30 = .ok (.iinc 3 1, 3) := by decide +kernel
theorem dX0_weightOfRight_33 : decode cX0_weightOfRight 33 = .ok (.goto (-29), 3) := by decide +kernel
theorem dX0_weightOfRight_36 : decode cX0_weightOfRight 36 = .ok (.lload_n 1, 1) := by decide +kernel
theorem dX0_weightOfRight_37 : decode cX0_weightOfRight 37 = .ok (.lreturn, 1) := by decide +kernel
theorem dX0_weightOfOthers_0 : decode cX0_weightOfOthers 0 = .ok (.aload_n 0, 1) := by decide +kernel
theorem dX0_weightOfOthers_1 : decode cX0_weightOfOthers 1 = .ok (.getfield 35, 3) := by decide +kernel
theorem dX0_weightOfOthers_4 : decode cX0_weightOfOthers 4 = .ok (.lookupswitch 36 #[(2, 28), (3, 34)], 28) := by decide +kernel
theorem dX0_weightOfOthers_32 : decode cX0_weightOfOthers 32 = .ok (.aload_n 0, 1) := by decide +kernel
theorem dX0_weightOfOthers_33 : decode cX0_weightOfOthers 33 = .ok (.iload_n 1, 1) := by decide +kernel
theorem dX0_weightOfOthers_34 : decode cX0_weightOfOthers 34 = .ok (.invokevirtual 68, 3) := by decide +kernel
theorem dX0_weightOfOthers_37 : decode cX0_weightOfOthers 37 = .ok (.lreturn, 1) := by decide +kernel
theorem dX0_weightOfOthers_38 : decode cX0_weightOfOthers 38 = .ok (.lconst 1, 1) := by decide +kernel
theorem dX0_weightOfOthers_39 : decode cX0_weightOfOthers 39 = .ok (.lreturn, 1) := by decide +kernel
theorem dX0_weightOfOthers_40 : decode cX0_weightOfOthers 40 = .ok (.aload_n 0, 1) := by decide +kernel
theorem dX0_weightOfOthers_41 : decode cX0_weightOfOthers 41 = .ok (.iload_n 1, 1) := by decide +kernel
theorem dX0_weightOfOthers_42 : decode cX0_weightOfOthers 42 = .ok (.invokevirtual 71, 3) := by decide +kernel
theorem dX0_weightOfOthers_45 : decode cX0_weightOfOthers 45 = .ok (.lreturn, 1) := by decide +kernel
theorem dX0_othersByLot_0 : decode cX0_othersByLot 0 = .ok (.aload_n 0, 1) := by decide +kernel
theorem dX0_othersByLot_1 : decode cX0_othersByLot 1 = .ok (.getfield 24, 3) := by decide +kernel
theorem dX0_othersByLot_4 : decode cX0_othersByLot 4 = .ok (.invokevirtual 74, 3) := by decide +kernel
theorem dX0_othersByLot_7 : decode cX0_othersByLot 7 = .ok (.iconst 0, 1) := by decide +kernel
theorem dX0_othersByLot_8 : decode cX0_othersByLot 8 = .ok (.istore_n 2, 1) := by decide +kernel
theorem dX0_othersByLot_9 : decode cX0_othersByLot 9 = .ok (.iload_n 2, 1) := by decide +kernel
theorem dX0_othersByLot_10 : decode cX0_othersByLot 10 = .ok (.aload_n 0, 1) := by decide +kernel
theorem dX0_othersByLot_11 : decode cX0_othersByLot 11 = .ok (.getfield 34, 3) := by decide +kernel
theorem dX0_othersByLot_14 : decode cX0_othersByLot 14 = .ok (.if_icmp .ge 44, 3) := by decide +kernel
theorem dX0_othersByLot_17 : decode cX0_othersByLot 17 = .ok (.iload_n 2, 1) := by decide +kernel
theorem dX0_othersByLot_18 : decode cX0_othersByLot 18 = .ok (.iload_n 1, 1) := by decide +kernel
theorem dX0_othersByLot_19 : decode cX0_othersByLot 19 = .ok (.if_icmp .eq 33, 3) := by decide +kernel
theorem dX0_othersByLot_22 : decode cX0_othersByLot 22 = .ok (.aload_n 0, 1) := by decide +kernel
theorem dX0_othersByLot_23 : decode cX0_othersByLot 23 = .ok (.getfield 24, 3) := by decide +kernel
theorem dX0_othersByLot_26 : decode cX0_othersByLot 26 = .ok (.lconst 0, 1) := by decide +kernel
theorem dX0_othersByLot_27 : decode cX0_othersByLot 27 = .ok (.aload_n 0, 1) := by decide +kernel
theorem dX0_othersByLot_28 : decode cX0_othersByLot 28 = .ok (.getfield 15, 3) := by decide +kernel
theorem dX0_othersByLot_31 : decode cX0_othersByLot 31 = .ok (.iload_n 2, 1) := by decide +kernel
theorem dX0_othersByLot_32 : decode cX0_othersByLot 32 = .ok (.invokestatic 61, 3) := by decide +kernel
theorem dX0_othersByLot_35 : decode cX0_othersByLot 35 = .ok (.i2l, 1) := by decide +kernel
theorem dX0_othersByLot_36 : decode cX0_othersByLot 36 = .ok (.lconst 0, 1) := by decide +kernel
theorem dX0_othersByLot_37 : decode cX0_othersByLot 37 = .ok (.bipush 10, 2) := by decide +kernel
theorem dX0_othersByLot_39 : decode cX0_othersByLot 39 = .ok (.aload_n 0, 1) := by decide +kernel
theorem dX0_othersByLot_40 : decode cX0_othersByLot 40 = .ok (.getfield 15, 3) := by decide +kernel
theorem dX0_othersByLot_43 : decode cX0_othersByLot 43 = .ok (.iload_n 2, 1) := by decide +kernel
theorem dX0_othersByLot_44 : decode cX0_othersByLot 44 = .ok (.invokestatic 61, 3) := by decide +kernel
theorem dX0_othersByLot_47 : decode cX0_othersByLot 47 = .ok (.isub, 1) := by decide +kernel
theorem dX0_othersByLot_48 : decode cX0_othersByLot 48 = .ok (.i2l, 1) := by decide +kernel
theorem dX0_othersByLot_49 : decode cX0_othersByLot 49 = .ok (.invokevirtual 77, 3) := by decide +kernel
theorem dX0_othersByLot_52 : decode cX0_othersByLot 52 = .ok (.iinc 2 1, 3) := by decide +kernel
theorem dX0_othersByLot_55 : decode cX0_othersByLot 55 = .ok (.goto (-46), 3) := by decide +kernel
theorem dX0_othersByLot_58 : decode cX0_othersByLot 58 = .ok (.lconst 0, 1) := by decide +kernel
theorem dX0_othersByLot_59 : decode cX0_othersByLot 59 = .ok (.lstore_n 2, 1) := by decide +kernel
theorem dX0_othersByLot_60 : decode cX0_othersByLot 60 = .ok (.iconst 0, 1) := by decide +kernel
theorem dX0_othersByLot_61 : decode cX0_othersByLot 61 = .ok (.istore 4, 2) := by decide +kernel
theorem dX0_othersByLot_63 : decode cX0_othersByLot 63 = .ok (.iload 4, 2) := by decide +kernel
theorem dX0_othersByLot_65 : decode cX0_othersByLot 65 = .ok (.aload_n 0, 1) := by decide +kernel
theorem dX0_othersByLot_66 : decode cX0_othersByLot 66 = .ok (.getfield 34, 3) := by decide +kernel
theorem dX0_othersByLot_69 : decode cX0_othersByLot 69 = .ok (.if_icmp .ge 30, 3) := by decide +kernel
theorem dX0_othersByLot_72 : decode cX0_othersByLot 72 = .ok (.lload_n 2, 1) := by decide +kernel
theorem dX0_othersByLot_73 : decode cX0_othersByLot 73 = .ok (.aload_n 0, 1) := by decide +kernel
theorem dX0_othersByLot_74 : decode cX0_othersByLot 74 = .ok (.getfield 24, 3) := by decide +kernel
theorem dX0_othersByLot_77 : decode cX0_othersByLot 77 = .ok (.iload 4, 2) := by decide +kernel
theorem dX0_othersByLot_79 : decode cX0_othersByLot 79 = .ok (.iconst 0, 1) := by decide +kernel
theorem dX0_othersByLot_80 : decode cX0_othersByLot 80 = .ok (.invokevirtual 81, 3) := by decide +kernel
theorem dX0_othersByLot_83 : decode cX0_othersByLot 83 = .ok (.iload 4, 2) := by decide +kernel
theorem dX0_othersByLot_85 : decode cX0_othersByLot 85 = .ok (.iconst 1, 1) := by decide +kernel
theorem dX0_othersByLot_86 : decode cX0_othersByLot 86 = .ok (.iadd, 1) := by decide +kernel
theorem dX0_othersByLot_87 : decode cX0_othersByLot 87 = .ok (.invokestatic 85, 3) := by decide +kernel
theorem dX0_othersByLot_90 : decode cX0_othersByLot 90 = .ok (.lmul, 1) := by decide +kernel
theorem dX0_othersByLot_91 : decode cX0_othersByLot 91 = .ok (.ladd, 1) := by decide +kernel
theorem dX0_othersByLot_92 : decode cX0_othersByLot 92 = .ok (.lstore_n 2, 1) := by decide +kernel
theorem dX0_othersByLot_93 : decode cX0_othersByLot 93 = .ok (.iinc 4 1, 3) := by decide +kernel
theorem dX0_othersByLot_96 : decode cX0_othersByLot 96 = .ok (.goto (-33), 3) := by decide +kernel
theorem dX0_othersByLot_99 : decode cX0_othersByLot 99 = .ok (.lload_n 2, 1) := by decide +kernel
theorem dX0_othersByLot_100 : decode cX0_othersByLot 100 = .ok (.lreturn, 1) := by decide +kernel
theorem dX0_othersByRank_0 : decode cX0_othersByRank 0 = .ok (.lconst 1, 1) := by decide +kernel
theorem dX0_othersByRank_1 : decode cX0_othersByRank 1 = .ok (.lstore_n 2, 1) := by decide +kernel
theorem dX0_othersByRank_2 : decode cX0_othersByRank 2 = .ok (.iconst 0, 1) := by decide +kernel
theorem dX0_othersByRank_3 : decode cX0_othersByRank 3 = .ok (.istore 4, 2) := by decide +kernel
theorem dX0_othersByRank_5 : decode cX0_othersByRank 5 = .ok (.iload 4, 2) := by decide +kernel
theorem dX0_othersByRank_7 : decode cX0_othersByRank 7 = .ok (.aload_n 0, 1) := by decide +kernel
theorem dX0_othersByRank_8 : decode cX0_othersByRank 8 = .ok (.getfield 34, 3) := by decide +kernel
theorem dX0_othersByRank_11 : decode cX0_othersByRank 11 = .ok (.if_icmp .ge 69, 3) := by decide +kernel
theorem dX0_othersByRank_14 : decode cX0_othersByRank 14 = .ok (.iload 4, 2) := by decide +kernel
theorem dX0_othersByRank_16 : decode cX0_othersByRank 16 = .ok (.iload_n 1, 1) := by decide +kernel
theorem dX0_othersByRank_17 : decode cX0_othersByRank 17 = .ok (.if_icmp .eq 57, 3) := by decide +kernel
theorem dX0_othersByRank_20 : decode cX0_othersByRank 20 = .ok (.aload_n 0, 1) := by decide +kernel
theorem dX0_othersByRank_21 : decode cX0_othersByRank 21 = .ok (.getfield 9, 3) := by decide +kernel
theorem dX0_othersByRank_24 : decode cX0_othersByRank 24 = .ok (.iload 4, 2) := by decide +kernel
theorem dX0_othersByRank_26 : decode cX0_othersByRank 26 = .ok (.invokestatic 61, 3) := by decide +kernel
theorem dX0_othersByRank_29 : decode cX0_othersByRank 29 = .ok (.aload_n 0, 1) := by decide +kernel
theorem dX0_othersByRank_30 : decode cX0_othersByRank 30 = .ok (.getfield 9, 3) := by decide +kernel
theorem dX0_othersByRank_33 : decode cX0_othersByRank 33 = .ok (.iload_n 1, 1) := by decide +kernel
theorem dX0_othersByRank_34 : decode cX0_othersByRank 34 = .ok (.invokestatic 61, 3) := by decide +kernel
theorem dX0_othersByRank_37 : decode cX0_othersByRank 37 = .ok (.if_icmp .ge 7, 3) := by decide +kernel
theorem dX0_othersByRank_40 : decode cX0_othersByRank 40 = .ok (.iconst 1, 1) := by decide +kernel
theorem dX0_othersByRank_41 : decode cX0_othersByRank 41 = .ok (.goto 4, 3) := by decide +kernel
theorem dX0_othersByRank_44 : decode cX0_othersByRank 44 = .ok (.iconst 0, 1) := by decide +kernel
theorem dX0_othersByRank_45 : decode cX0_othersByRank 45 = .ok (.istore 5, 2) := by decide +kernel
theorem dX0_othersByRank_47 : decode cX0_othersByRank 47 = .ok (.lload_n 2, 1) := by decide +kernel
theorem dX0_othersByRank_48 : decode cX0_othersByRank 48 = .ok (.iload 5, 2) := by decide +kernel
theorem dX0_othersByRank_50 : decode cX0_othersByRank 50 = .ok (.ifCond .eq 19, 3) := by decide +kernel
theorem dX0_othersByRank_53 : decode cX0_othersByRank 53 = .ok (.bipush 10, 2) := by decide +kernel
theorem dX0_othersByRank_55 : decode cX0_othersByRank 55 = .ok (.aload_n 0, 1) := by decide +kernel
theorem dX0_othersByRank_56 : decode cX0_othersByRank 56 = .ok (.getfield 15, 3) := by decide +kernel
theorem dX0_othersByRank_59 : decode cX0_othersByRank 59 = .ok (.iload 4, 2) := by decide +kernel
theorem dX0_othersByRank_61 : decode cX0_othersByRank 61 = .ok (.invokestatic 61, 3) := by decide +kernel
theorem dX0_othersByRank_64 : decode cX0_othersByRank 64 = .ok (.isub, 1) := by decide +kernel
theorem dX0_othersByRank_65 : decode cX0_othersByRank 65 = .ok (.i2l, 1) := by decide +kernel
theorem dX0_othersByRank_66 : decode cX0_othersByRank 66 = .ok (.goto 6, 3) := by decide +kernel
theorem dX0_othersByRank_69 : decode cX0_othersByRank 69 = .ok (.ldc2_w 59, 3) := by decide +kernel
theorem dX0_othersByRank_72 : decode cX0_othersByRank 72 = .ok (.lmul, 1) := by decide +kernel
theorem dX0_othersByRank_73 : decode cX0_othersByRank 73 = .ok (.lstore_n 2, 1) := by decide +kernel
theorem dX0_othersByRank_74 : decode cX0_othersByRank 74 = .ok (.iinc 4 1, 3) := by decide +kernel
theorem dX0_othersByRank_77 : decode cX0_othersByRank 77 = .ok (.goto (-72), 3) := by decide +kernel
theorem dX0_othersByRank_80 : decode cX0_othersByRank 80 = .ok (.lload_n 2, 1) := by decide +kernel
theorem dX0_othersByRank_81 : decode cX0_othersByRank 81 = .ok (.lreturn, 1) := by decide +kernel
theorem dX0_likeliest_0 : decode cX0_likeliest 0 = .ok (.bipush (-9), 2) := by decide +kernel
theorem dX0_likeliest_2 : decode cX0_likeliest 2 = .ok (.istore_n 1, 1) := by decide +kernel
theorem dX0_likeliest_3 : decode cX0_likeliest 3 = .ok (.lconst 0, 1) := by decide +kernel
theorem dX0_likeliest_4 : decode cX0_likeliest 4 = .ok (.lstore_n 2, 1) := by decide +kernel
theorem dX0_likeliest_5 : decode cX0_likeliest 5 = .ok (.iconst 0, 1) := by decide +kernel
theorem dX0_likeliest_6 : decode cX0_likeliest 6 = .ok (.istore 4, 2) := by decide +kernel
theorem dX0_likeliest_8 : decode cX0_likeliest 8 = .ok (.iload 4, 2) := by decide +kernel
theorem dX0_likeliest_10 : decode cX0_likeliest 10 = .ok (.aload_n 0, 1) := by decide +kernel
theorem dX0_likeliest_11 : decode cX0_likeliest 11 = .ok (.getfield 34, 3) := by decide +kernel
theorem dX0_likeliest_14 : decode cX0_likeliest 14 = .ok (.if_icmp .ge 30, 3) := by decide +kernel
theorem dX0_likeliest_17 : decode cX0_likeliest 17 = .ok (.aload_n 0, 1) := by decide +kernel
theorem dX0_likeliest_18 : decode cX0_likeliest 18 = .ok (.iload 4, 2) := by decide +kernel
theorem dX0_likeliest_20 : decode cX0_likeliest 20 = .ok (.invokevirtual 88, 3) := by decide +kernel
theorem dX0_likeliest_23 : decode cX0_likeliest 23 = .ok (.lstore 5, 2) := by decide +kernel
theorem dX0_likeliest_25 : decode cX0_likeliest 25 = .ok (.lload 5, 2) := by decide +kernel
theorem dX0_likeliest_27 : decode cX0_likeliest 27 = .ok (.lload_n 2, 1) := by decide +kernel
theorem dX0_likeliest_28 : decode cX0_likeliest 28 = .ok (.lcmp, 1) := by decide +kernel
theorem dX0_likeliest_29 : decode cX0_likeliest 29 = .ok (.ifCond .le 9, 3) := by decide +kernel
theorem dX0_likeliest_32 : decode cX0_likeliest 32 = .ok (.lload 5, 2) := by decide +kernel
theorem dX0_likeliest_34 : decode cX0_likeliest 34 = .ok (.lstore_n 2, 1) := by decide +kernel
theorem dX0_likeliest_35 : decode cX0_likeliest 35 = .ok (.iload 4, 2) := by decide +kernel
theorem dX0_likeliest_37 : decode cX0_likeliest 37 = .ok (.istore_n 1, 1) := by decide +kernel
theorem dX0_likeliest_38 : decode cX0_likeliest 38 = .ok (.iinc 4 1, 3) := by decide +kernel
theorem dX0_likeliest_41 : decode cX0_likeliest 41 = .ok (.goto (-33), 3) := by decide +kernel
theorem dX0_likeliest_44 : decode cX0_likeliest 44 = .ok (.iload_n 1, 1) := by decide +kernel
theorem dX0_likeliest_45 : decode cX0_likeliest 45 = .ok (.ireturn, 1) := by decide +kernel
theorem dX1_init_0 : decode cX1_init 0 = .ok (.aload_n 0, 1) := by decide +kernel
theorem dX1_init_1 : decode cX1_init 1 = .ok (.invokespecial 3, 3) := by decide +kernel
theorem dX1_init_4 : decode cX1_init 4 = .ok (.aload_n 0, 1) := by decide +kernel
theorem dX1_init_5 : decode cX1_init 5 = .ok (.new 9, 3) := by decide +kernel
theorem dX1_init_8 : decode cX1_init 8 = .ok (.dup, 1) := by decide +kernel
theorem dX1_init_9 : decode cX1_init 9 = .ok (.invokespecial 11, 3) := by decide +kernel
theorem dX1_init_12 : decode cX1_init 12 = .ok (.putfield 12, 3) := by decide +kernel
theorem dX1_init_15 : decode cX1_init 15 = .ok (.return_, 1) := by decide +kernel
theorem dX1_look_0 : decode cX1_look 0 = .ok (.aload_n 0, 1) := by decide +kernel
theorem dX1_look_1 : decode cX1_look 1 = .ok (.getfield 12, 3) := by decide +kernel
theorem dX1_look_4 : decode cX1_look 4 = .ok (.invokevirtual 18, 3) := by decide +kernel
theorem dX1_look_7 : decode cX1_look 7 = .ok (.iconst 0, 1) := by decide +kernel
theorem dX1_look_8 : decode cX1_look 8 = .ok (.istore_n 3, 1) := by decide +kernel
theorem dX1_look_9 : decode cX1_look 9 = .ok (.iload_n 3, 1) := by decide +kernel
theorem dX1_look_10 : decode cX1_look 10 = .ok (.aload_n 1, 1) := by decide +kernel
theorem dX1_look_11 : decode cX1_look 11 = .ok (.getfield 21, 3) := by decide +kernel
theorem dX1_look_14 : decode cX1_look 14 = .ok (.if_icmp .ge 98, 3) := by decide +kernel
theorem dX1_look_17 : decode cX1_look 17 = .ok (.aload_n 1, 1) := by decide +kernel
theorem dX1_look_18 : decode cX1_look 18 = .ok (.getfield 27, 3) := by decide +kernel
theorem dX1_look_21 : decode cX1_look 21 = .ok (.iload_n 3, 1) := by decide +kernel
theorem dX1_look_22 : decode cX1_look 22 = .ok (.invokestatic 31, 3) := by decide +kernel
theorem dX1_look_25 : decode cX1_look 25 = .ok (.istore 4, 2) := by decide +kernel
theorem dX1_look_27 : decode cX1_look 27 = .ok (.aload_n 1, 1) := by decide +kernel
theorem dX1_look_28 : decode cX1_look 28 = .ok (.iload_n 3, 1) := by decide +kernel
theorem dX1_look_29 : decode cX1_look 29 = .ok (.iconst 1, 1) := by decide +kernel
theorem dX1_look_30 : decode cX1_look 30 = .ok (.iload_n 2, 1) := by decide +kernel
theorem dX1_look_31 : decode cX1_look 31 = .ok (.invokevirtual 35, 3) := by decide +kernel
theorem dX1_look_34 : decode cX1_look 34 = .ok (.istore 5, 2) := by decide +kernel
theorem dX1_look_36 : decode cX1_look 36 = .ok (.aload_n 1, 1) := by decide +kernel
theorem dX1_look_37 : decode cX1_look 37 = .ok (.iload_n 3, 1) := by decide +kernel
theorem dX1_look_38 : decode cX1_look 38 = .ok (.iconst 0, 1) := by decide +kernel
theorem dX1_look_39 : decode cX1_look 39 = .ok (.iload_n 2, 1) := by decide +kernel
theorem dX1_look_40 : decode cX1_look 40 = .ok (.invokevirtual 35, 3) := by decide +kernel
theorem dX1_look_43 : decode cX1_look 43 = .ok (.istore 6, 2) := by decide +kernel
theorem dX1_look_45 : decode cX1_look 45 = .ok (.aload_n 0, 1) := by decide +kernel
theorem dX1_look_46 : decode cX1_look 46 = .ok (.getfield 12, 3) := by decide +kernel
theorem dX1_look_49 : decode cX1_look 49 = .ok (.iload 5, 2) := by decide +kernel
theorem dX1_look_51 : decode cX1_look 51 = .ok (.ifCond .eq 9, 3) := by decide +kernel
theorem dX1_look_54 : decode cX1_look 54 = .ok (.iload 4, 2) := by decide +kernel
theorem dX1_look_56 : decode cX1_look 56 = .ok (.i2l, 1) := by decide +kernel
theorem dX1_look_57 : decode cX1_look 57 = .ok (.goto 4, 3) := by decide +kernel
theorem dX1_look_60 : decode cX1_look 60 = .ok (.lconst 0, 1) := by decide +kernel
theorem dX1_look_61 : decode cX1_look 61 = .ok (.iload 6, 2) := by decide +kernel
theorem dX1_look_63 : decode cX1_look 63 = .ok (.ifCond .eq 12, 3) := by decide +kernel
theorem dX1_look_66 : decode cX1_look 66 = .ok (.bipush 10, 2) := by decide +kernel
theorem dX1_look_68 : decode cX1_look 68 = .ok (.iload 4, 2) := by decide +kernel
theorem dX1_look_70 : decode cX1_look 70 = .ok (.isub, 1) := by decide +kernel
theorem dX1_look_71 : decode cX1_look 71 = .ok (.i2l, 1) := by decide +kernel
theorem dX1_look_72 : decode cX1_look 72 = .ok (.goto 4, 3) := by decide +kernel
theorem dX1_look_75 : decode cX1_look 75 = .ok (.lconst 0, 1) := by decide +kernel
theorem dX1_look_76 : decode cX1_look 76 = .ok (.iload 5, 2) := by decide +kernel
theorem dX1_look_78 : decode cX1_look 78 = .ok (.ifCond .eq 7, 3) := by decide +kernel
theorem dX1_look_81 : decode cX1_look 81 = .ok (.lconst 0, 1) := by decide +kernel
theorem dX1_look_82 : decode cX1_look 82 = .ok (.goto 6, 3) := by decide +kernel
theorem dX1_look_85 : decode cX1_look 85 = .ok (.iload 4, 2) := by decide +kernel
theorem dX1_look_87 : decode cX1_look 87 = .ok (.i2l, 1) := by decide +kernel
theorem dX1_look_88 : decode cX1_look 88 = .ok (.iload 6, 2) := by decide +kernel
theorem dX1_look_90 : decode cX1_look 90 = .ok (.ifCond .eq 7, 3) := by decide +kernel
theorem dX1_look_93 : decode cX1_look 93 = .ok (.lconst 0, 1) := by decide +kernel
theorem dX1_look_94 : decode cX1_look 94 = .ok (.goto 9, 3) := by decide +kernel
theorem dX1_look_97 : decode cX1_look 97 = .ok (.bipush 10, 2) := by decide +kernel
theorem dX1_look_99 : decode cX1_look 99 = .ok (.iload 4, 2) := by decide +kernel
theorem dX1_look_101 : decode cX1_look 101 = .ok (.isub, 1) := by decide +kernel
theorem dX1_look_102 : decode cX1_look 102 = .ok (.i2l, 1) := by decide +kernel
theorem dX1_look_103 : decode cX1_look 103 = .ok (.invokevirtual 39, 3) := by decide +kernel
theorem dX1_look_106 : decode cX1_look 106 = .ok (.iinc 3 1, 3) := by decide +kernel
theorem dX1_look_109 : decode cX1_look 109 = .ok (.goto (-100), 3) := by decide +kernel
theorem dX1_look_112 : decode cX1_look 112 = .ok (.return_, 1) := by decide +kernel
theorem dX1_likeliestKnowing_0 : decode cX1_likeliestKnowing 0 = .ok (.iconst 0, 1) := by decide +kernel
theorem dX1_likeliestKnowing_1 : decode cX1_likeliestKnowing 1 = .ok (.istore_n 2, 1) := by decide +kernel
theorem dX1_likeliestKnowing_2 : decode cX1_likeliestKnowing 2 = .ok (.iconst 1, 1) := by decide +kernel
theorem dX1_likeliestKnowing_3 : decode cX1_likeliestKnowing 3 = .ok (.istore_n 3, 1) := by decide +kernel
theorem dX1_likeliestKnowing_4 : decode cX1_likeliestKnowing 4 = .ok (.iload_n 3, 1) := by decide +kernel
theorem dX1_likeliestKnowing_5 : decode cX1_likeliestKnowing 5 = .ok (.bipush 12, 2) := by decide +kernel
theorem dX1_likeliestKnowing_7 : decode cX1_likeliestKnowing 7 = .ok (.if_icmp .gt 33, 3) := by decide +kernel
theorem dX1_likeliestKnowing_10 : decode cX1_likeliestKnowing 10 = .ok (.aload_n 0, 1) := by decide +kernel
theorem dX1_likeliestKnowing_11 : decode cX1_likeliestKnowing 11 = .ok (.getfield 12, 3) := by decide +kernel
theorem dX1_likeliestKnowing_14 : decode cX1_likeliestKnowing 14 = .ok (.iload_n 1, 1) := by decide +kernel
theorem dX1_likeliestKnowing_15 : decode cX1_likeliestKnowing 15 = .ok (.iload_n 3, 1) := by decide +kernel
theorem dX1_likeliestKnowing_16 : decode cX1_likeliestKnowing 16 = .ok (.invokevirtual 43, 3) := by decide +kernel
theorem dX1_likeliestKnowing_19 : decode cX1_likeliestKnowing 19 = .ok (.aload_n 0, 1) := by decide +kernel
theorem dX1_likeliestKnowing_20 : decode cX1_likeliestKnowing 20 = .ok (.getfield 12, 3) := by decide +kernel
theorem dX1_likeliestKnowing_23 : decode cX1_likeliestKnowing 23 = .ok (.iload_n 1, 1) := by decide +kernel
theorem dX1_likeliestKnowing_24 : decode cX1_likeliestKnowing 24 = .ok (.iload_n 2, 1) := by decide +kernel
theorem dX1_likeliestKnowing_25 : decode cX1_likeliestKnowing 25 = .ok (.invokevirtual 43, 3) := by decide +kernel
theorem dX1_likeliestKnowing_28 : decode cX1_likeliestKnowing 28 = .ok (.lcmp, 1) := by decide +kernel
theorem dX1_likeliestKnowing_29 : decode cX1_likeliestKnowing 29 = .ok (.ifCond .le 5, 3) := by decide +kernel
theorem dX1_likeliestKnowing_32 : decode cX1_likeliestKnowing 32 = .ok (.iload_n 3, 1) := by decide +kernel
theorem dX1_likeliestKnowing_33 : decode cX1_likeliestKnowing 33 = .ok (.istore_n 2, 1) := by decide +kernel
theorem dX1_likeliestKnowing_34 : decode cX1_likeliestKnowing 34 = .ok (.iinc 3 1, 3) := by decide +kernel
theorem dX1_likeliestKnowing_37 : decode cX1_likeliestKnowing 37 = .ok (.goto (-33), 3) := by decide +kernel
theorem dX1_likeliestKnowing_40 : decode cX1_likeliestKnowing 40 = .ok (.iload_n 2, 1) := by decide +kernel
theorem dX1_likeliestKnowing_41 : decode cX1_likeliestKnowing 41 = .ok (.ireturn, 1) := by decide +kernel
theorem dX2_init_0 : decode cX2_init 0 = .ok (.aload_n 0, 1) := by decide +kernel
theorem dX2_init_1 : decode cX2_init 1 = .ok (.invokespecial 3, 3) := by decide +kernel
theorem dX2_init_4 : decode cX2_init 4 = .ok (.aload_n 0, 1) := by decide +kernel
theorem dX2_init_5 : decode cX2_init 5 = .ok (.bipush 12, 2) := by decide +kernel
theorem dX2_init_7 : decode cX2_init 7 = .ok (.newarray .int, 2) := by decide +kernel
theorem dX2_init_9 : decode cX2_init 9 = .ok (.putfield 9, 3) := by decide +kernel
theorem dX2_init_12 : decode cX2_init 12 = .ok (.aload_n 0, 1) := by decide +kernel
theorem dX2_init_13 : decode cX2_init 13 = .ok (.bipush 12, 2) := by decide +kernel
theorem dX2_init_15 : decode cX2_init 15 = .ok (.newarray .int, 2) := by decide +kernel
theorem dX2_init_17 : decode cX2_init 17 = .ok (.putfield 15, 3) := by decide +kernel
theorem dX2_init_20 : decode cX2_init 20 = .ok (.return_, 1) := by decide +kernel
theorem dX2_begin_0 : decode cX2_begin 0 = .ok (.aload_n 0, 1) := by decide +kernel
theorem dX2_begin_1 : decode cX2_begin 1 = .ok (.getfield 15, 3) := by decide +kernel
theorem dX2_begin_4 : decode cX2_begin 4 = .ok (.iconst 0, 1) := by decide +kernel
theorem dX2_begin_5 : decode cX2_begin 5 = .ok (.invokestatic 18, 3) := by decide +kernel
theorem dX2_begin_8 : decode cX2_begin 8 = .ok (.aload_n 0, 1) := by decide +kernel
theorem dX2_begin_9 : decode cX2_begin 9 = .ok (.lconst 0, 1) := by decide +kernel
theorem dX2_begin_10 : decode cX2_begin 10 = .ok (.putfield 24, 3) := by decide +kernel
theorem dX2_begin_13 : decode cX2_begin 13 = .ok (.aload_n 0, 1) := by decide +kernel
theorem dX2_begin_14 : decode cX2_begin 14 = .ok (.iconst 0, 1) := by decide +kernel
theorem dX2_begin_15 : decode cX2_begin 15 = .ok (.putfield 28, 3) := by decide +kernel
theorem dX2_begin_18 : decode cX2_begin 18 = .ok (.aload_n 0, 1) := by decide +kernel
theorem dX2_begin_19 : decode cX2_begin 19 = .ok (.iconst 0, 1) := by decide +kernel
theorem dX2_begin_20 : decode cX2_begin 20 = .ok (.putfield 32, 3) := by decide +kernel
theorem dX2_begin_23 : decode cX2_begin 23 = .ok (.aload_n 0, 1) := by decide +kernel
theorem dX2_begin_24 : decode cX2_begin 24 = .ok (.iconst 0, 1) := by decide +kernel
theorem dX2_begin_25 : decode cX2_begin 25 = .ok (.putfield 35, 3) := by decide +kernel
theorem dX2_begin_28 : decode cX2_begin 28 = .ok (.return_, 1) := by decide +kernel
theorem dX2_become_0 : decode cX2_become 0 = .ok (.iconst 0, 1) := by decide +kernel
theorem dX2_become_1 : decode cX2_become 1 = .ok (.istore_n 2, 1) := by decide +kernel
theorem dX2_become_2 : decode cX2_become 2 = .ok (.iload_n 2, 1) := by decide +kernel
theorem dX2_become_3 : decode cX2_become 3 = .ok (.bipush 12, 2) := by decide +kernel
theorem dX2_become_5 : decode cX2_become 5 = .ok (.if_icmp .ge 41, 3) := by decide +kernel
theorem dX2_become_8 : decode cX2_become 8 = .ok (.aload_n 0, 1) := by decide +kernel
theorem dX2_become_9 : decode cX2_become 9 = .ok (.getfield 9, 3) := by decide +kernel
theorem dX2_become_12 : decode cX2_become 12 = .ok (.iload_n 2, 1) := by decide +kernel
theorem dX2_become_13 : decode cX2_become 13 = .ok (.aload_n 1, 1) := by decide +kernel
theorem dX2_become_14 : decode cX2_become 14 = .ok (.getfield 9, 3) := by decide +kernel
theorem dX2_become_17 : decode cX2_become 17 = .ok (.iload_n 2, 1) := by decide +kernel
theorem dX2_become_18 : decode cX2_become 18 = .ok (.invokestatic 38, 3) := by decide +kernel
theorem dX2_become_21 : decode cX2_become 21 = .ok (.invokestatic 42, 3) := by decide +kernel
theorem dX2_become_24 : decode cX2_become 24 = .ok (.aload_n 0, 1) := by decide +kernel
theorem dX2_become_25 : decode cX2_become 25 = .ok (.getfield 15, 3) := by decide +kernel
theorem dX2_become_28 : decode cX2_become 28 = .ok (.iload_n 2, 1) := by decide +kernel
theorem dX2_become_29 : decode cX2_become 29 = .ok (.aload_n 1, 1) := by decide +kernel
theorem dX2_become_30 : decode cX2_become 30 = .ok (.getfield 15, 3) := by decide +kernel
theorem dX2_become_33 : decode cX2_become 33 = .ok (.iload_n 2, 1) := by decide +kernel
theorem dX2_become_34 : decode cX2_become 34 = .ok (.invokestatic 38, 3) := by decide +kernel
theorem dX2_become_37 : decode cX2_become 37 = .ok (.invokestatic 42, 3) := by decide +kernel
theorem dX2_become_40 : decode cX2_become 40 = .ok (.iinc 2 1, 3) := by decide +kernel
theorem dX2_become_43 : decode cX2_become 43 = .ok (.goto (-41), 3) := by decide +kernel
theorem dX2_become_46 : decode cX2_become 46 = .ok (.aload_n 0, 1) := by decide +kernel
theorem dX2_become_47 : decode cX2_become 47 = .ok (.aload_n 1, 1) := by decide +kernel
theorem dX2_become_48 : decode cX2_become 48 = .ok (.getfield 24, 3) := by decide +kernel
theorem dX2_become_51 : decode cX2_become 51 = .ok (.putfield 24, 3) := by decide +kernel
theorem dX2_become_54 : decode cX2_become 54 = .ok (.aload_n 0, 1) := by decide +kernel
theorem dX2_become_55 : decode cX2_become 55 = .ok (.aload_n 1, 1) := by decide +kernel
theorem dX2_become_56 : decode cX2_become 56 = .ok (.getfield 28, 3) := by decide +kernel
theorem dX2_become_59 : decode cX2_become 59 = .ok (.putfield 28, 3) := by decide +kernel
theorem dX2_become_62 : decode cX2_become 62 = .ok (.aload_n 0, 1) := by decide +kernel
theorem dX2_become_63 : decode cX2_become 63 = .ok (.aload_n 1, 1) := by decide +kernel
theorem dX2_become_64 : decode cX2_become 64 = .ok (.getfield 32, 3) := by decide +kernel
theorem dX2_become_67 : decode cX2_become 67 = .ok (.putfield 32, 3) := by decide +kernel
theorem dX2_become_70 : decode cX2_become 70 = .ok (.aload_n 0, 1) := by decide +kernel
theorem dX2_become_71 : decode cX2_become 71 = .ok (.aload_n 1, 1) := by decide +kernel
theorem dX2_become_72 : decode cX2_become 72 = .ok (.getfield 35, 3) := by decide +kernel
theorem dX2_become_75 : decode cX2_become 75 = .ok (.putfield 35, 3) := by decide +kernel
theorem dX2_become_78 : decode cX2_become 78 = .ok (.return_, 1) := by decide +kernel
theorem dX2_draw_0 : decode cX2_draw 0 = .ok (.iload_n 1, 1) := by decide +kernel
theorem dX2_draw_1 : decode cX2_draw 1 = .ok (.iconst 1, 1) := by decide +kernel
theorem dX2_draw_2 : decode cX2_draw 2 = .ok (.if_icmp .ge 5, 3) := by decide +kernel
theorem dX2_draw_5 : decode cX2_draw 5 = .ok (.iconst 0, 1) := by decide +kernel
theorem dX2_draw_6 : decode cX2_draw 6 = .ok (.ireturn, 1) := by decide +kernel
theorem dX2_draw_7 : decode cX2_draw 7 = .ok (.aload_n 0, 1) := by decide +kernel
theorem dX2_draw_8 : decode cX2_draw 8 = .ok (.aload_n 0, 1) := by decide +kernel
theorem dX2_draw_9 : decode cX2_draw 9 = .ok (.getfield 24, 3) := by decide +kernel
theorem dX2_draw_12 : decode cX2_draw 12 = .ok (.ldc2_w 46, 3) := by decide +kernel
theorem dX2_draw_15 : decode cX2_draw 15 = .ok (.lmul, 1) := by decide +kernel
theorem dX2_draw_16 : decode cX2_draw 16 = .ok (.ldc2_w 48, 3) := by decide +kernel
theorem dX2_draw_19 : decode cX2_draw 19 = .ok (.ladd, 1) := by decide +kernel
theorem dX2_draw_20 : decode cX2_draw 20 = .ok (.putfield 24, 3) := by decide +kernel
theorem dX2_draw_23 : decode cX2_draw 23 = .ok (.aload_n 0, 1) := by decide +kernel
theorem dX2_draw_24 : decode cX2_draw 24 = .ok (.getfield 24, 3) := by decide +kernel
theorem dX2_draw_27 : decode cX2_draw 27 = .ok (.bipush 33, 2) := by decide +kernel
theorem dX2_draw_29 : decode cX2_draw 29 = .ok (.lushr, 1) := by decide +kernel
theorem dX2_draw_30 : decode cX2_draw 30 = .ok (.iload_n 1, 1) := by decide +kernel
theorem dX2_draw_31 : decode cX2_draw 31 = .ok (.i2l, 1) := by decide +kernel
theorem dX2_draw_32 : decode cX2_draw 32 = .ok (.lrem, 1) := by decide +kernel
theorem dX2_draw_33 : decode cX2_draw 33 = .ok (.l2i, 1) := by decide +kernel
theorem dX2_draw_34 : decode cX2_draw 34 = .ok (.ireturn, 1) := by decide +kernel
theorem dX2_answer_0 : decode cX2_answer 0 = .ok (.aload_n 0, 1) := by decide +kernel
theorem dX2_answer_1 : decode cX2_answer 1 = .ok (.dup, 1) := by decide +kernel
theorem dX2_answer_2 : decode cX2_answer 2 = .ok (.getfield 28, 3) := by decide +kernel
theorem dX2_answer_5 : decode cX2_answer 5 = .ok (.iconst 1, 1) := by decide +kernel
theorem dX2_answer_6 : decode cX2_answer 6 = .ok (.iadd, 1) := by decide +kernel
theorem dX2_answer_7 : decode cX2_answer 7 = .ok (.putfield 28, 3) := by decide +kernel
theorem dX2_answer_10 : decode cX2_answer 10 = .ok (.iload_n 1, 1) := by decide +kernel
theorem dX2_answer_11 : decode cX2_answer 11 = .ok (.bipush (-9), 2) := by decide +kernel
theorem dX2_answer_13 : decode cX2_answer 13 = .ok (.if_icmp .ne 4, 3) := by decide +kernel
theorem dX2_answer_16 : decode cX2_answer 16 = .ok (.return_, 1) := by decide +kernel
theorem dX2_answer_17 : decode cX2_answer 17 = .ok (.aload_n 0, 1) := by decide +kernel
theorem dX2_answer_18 : decode cX2_answer 18 = .ok (.getfield 15, 3) := by decide +kernel
theorem dX2_answer_21 : decode cX2_answer 21 = .ok (.iload_n 1, 1) := by decide +kernel
theorem dX2_answer_22 : decode cX2_answer 22 = .ok (.aload_n 0, 1) := by decide +kernel
theorem dX2_answer_23 : decode cX2_answer 23 = .ok (.getfield 15, 3) := by decide +kernel
theorem dX2_answer_26 : decode cX2_answer 26 = .ok (.iload_n 1, 1) := by decide +kernel
theorem dX2_answer_27 : decode cX2_answer 27 = .ok (.invokestatic 38, 3) := by decide +kernel
theorem dX2_answer_30 : decode cX2_answer 30 = .ok (.iconst 1, 1) := by decide +kernel
theorem dX2_answer_31 : decode cX2_answer 31 = .ok (.iadd, 1) := by decide +kernel
theorem dX2_answer_32 : decode cX2_answer 32 = .ok (.invokestatic 42, 3) := by decide +kernel
theorem dX2_answer_35 : decode cX2_answer 35 = .ok (.iload_n 2, 1) := by decide +kernel
theorem dX2_answer_36 : decode cX2_answer 36 = .ok (.ifCond .eq 39, 3) := by decide +kernel
theorem dX2_answer_39 : decode cX2_answer 39 = .ok (.aload_n 0, 1) := by decide +kernel
theorem dX2_answer_40 : decode cX2_answer 40 = .ok (.dup, 1) := by decide +kernel
theorem dX2_answer_41 : decode cX2_answer 41 = .ok (.getfield 32, 3) := by decide +kernel
theorem dX2_answer_44 : decode cX2_answer 44 = .ok (.iconst 1, 1) := by decide +kernel
theorem dX2_answer_45 : decode cX2_answer 45 = .ok (.iadd, 1) := by decide +kernel
theorem dX2_answer_46 : decode cX2_answer 46 = .ok (.putfield 32, 3) := by decide +kernel
theorem dX2_answer_49 : decode cX2_answer 49 = .ok (.aload_n 0, 1) := by decide +kernel
theorem dX2_answer_50 : decode cX2_answer 50 = .ok (.getfield 9, 3) := by decide +kernel
theorem dX2_answer_53 : decode cX2_answer 53 = .ok (.iload_n 1, 1) := by decide +kernel
theorem dX2_answer_54 : decode cX2_answer 54 = .ok (.bipush 9, 2) := by decide +kernel
theorem dX2_answer_56 : decode cX2_answer 56 = .ok (.aload_n 0, 1) := by decide +kernel
theorem dX2_answer_57 : decode cX2_answer 57 = .ok (.getfield 9, 3) := by decide +kernel
theorem dX2_answer_60 : decode cX2_answer 60 = .ok (.iload_n 1, 1) := by decide +kernel
theorem dX2_answer_61 : decode cX2_answer 61 = .ok (.invokestatic 38, 3) := by decide +kernel
theorem dX2_answer_64 : decode cX2_answer 64 = .ok (.iconst 1, 1) := by decide +kernel
theorem dX2_answer_65 : decode cX2_answer 65 = .ok (.iadd, 1) := by decide +kernel
theorem dX2_answer_66 : decode cX2_answer 66 = .ok (.invokestatic 50, 3) := by decide +kernel
theorem dX2_answer_69 : decode cX2_answer 69 = .ok (.invokestatic 42, 3) := by decide +kernel
theorem dX2_answer_72 : decode cX2_answer 72 = .ok (.goto 43, 3) := by decide +kernel
theorem dX2_answer_75 : decode cX2_answer 75 = .ok (.aload_n 0, 1) := by decide +kernel
theorem dX2_answer_76 : decode cX2_answer 76 = .ok (.dup, 1) := by decide +kernel
theorem dX2_answer_77 : decode cX2_answer 77 = .ok (.getfield 35, 3) := by decide +kernel
theorem dX2_answer_80 : decode cX2_answer 80 = .ok (.iconst 1, 1) := by decide +kernel
theorem dX2_answer_81 : decode cX2_answer 81 = .ok (.iadd, 1) := by decide +kernel
theorem dX2_answer_82 : decode cX2_answer 82 = .ok (.putfield 35, 3) := by decide +kernel
theorem dX2_answer_85 : decode cX2_answer 85 = .ok (.aload_n 0, 1) := by decide +kernel
theorem dX2_answer_86 : decode cX2_answer 86 = .ok (.getfield 9, 3) := by decide +kernel
theorem dX2_answer_89 : decode cX2_answer 89 = .ok (.iload_n 1, 1) := by decide +kernel
theorem dX2_answer_90 : decode cX2_answer 90 = .ok (.iconst 0, 1) := by decide +kernel
theorem dX2_answer_91 : decode cX2_answer 91 = .ok (.aload_n 0, 1) := by decide +kernel
theorem dX2_answer_92 : decode cX2_answer 92 = .ok (.getfield 9, 3) := by decide +kernel
theorem dX2_answer_95 : decode cX2_answer 95 = .ok (.iload_n 1, 1) := by decide +kernel
theorem dX2_answer_96 : decode cX2_answer 96 = .ok (.invokestatic 38, 3) := by decide +kernel
theorem dX2_answer_99 : decode cX2_answer 99 = .ok (.iload_n 3, 1) := by decide +kernel
theorem dX2_answer_100 : decode cX2_answer 100 = .ok (.ifCond .eq 7, 3) := by decide +kernel
theorem dX2_answer_103 : decode cX2_answer 103 = .ok (.iconst 4, 1) := by decide +kernel
theorem dX2_answer_104 : decode cX2_answer 104 = .ok (.goto 4, 3) := by decide +kernel
theorem dX2_answer_107 : decode cX2_answer 107 = .ok (.iconst 2, 1) := by decide +kernel
theorem dX2_answer_108 : decode cX2_answer 108 = .ok (.isub, 1) := by decide +kernel
theorem dX2_answer_109 : decode cX2_answer 109 = .ok (.invokestatic 56, 3) := by decide +kernel
theorem dX2_answer_112 : decode cX2_answer 112 = .ok (.invokestatic 42, 3) := by decide +kernel
theorem dX2_answer_115 : decode cX2_answer 115 = .ok (.return_, 1) := by decide +kernel
theorem dX3_init_0 : decode cX3_init 0 = .ok (.aload_n 0, 1) := by decide +kernel
theorem dX3_init_1 : decode cX3_init 1 = .ok (.invokespecial 3, 3) := by decide +kernel
theorem dX3_init_4 : decode cX3_init 4 = .ok (.aload_n 0, 1) := by decide +kernel
theorem dX3_init_5 : decode cX3_init 5 = .ok (.bipush 12, 2) := by decide +kernel
theorem dX3_init_7 : decode cX3_init 7 = .ok (.newarray .int, 2) := by decide +kernel
theorem dX3_init_9 : decode cX3_init 9 = .ok (.putfield 9, 3) := by decide +kernel
theorem dX3_init_12 : decode cX3_init 12 = .ok (.aload_n 0, 1) := by decide +kernel
theorem dX3_init_13 : decode cX3_init 13 = .ok (.bipush 12, 2) := by decide +kernel
theorem dX3_init_15 : decode cX3_init 15 = .ok (.newarray .int, 2) := by decide +kernel
theorem dX3_init_17 : decode cX3_init 17 = .ok (.putfield 15, 3) := by decide +kernel
theorem dX3_init_20 : decode cX3_init 20 = .ok (.aload_n 0, 1) := by decide +kernel
theorem dX3_init_21 : decode cX3_init 21 = .ok (.bipush 12, 2) := by decide +kernel
theorem dX3_init_23 : decode cX3_init 23 = .ok (.newarray .int, 2) := by decide +kernel
theorem dX3_init_25 : decode cX3_init 25 = .ok (.putfield 18, 3) := by decide +kernel
theorem dX3_init_28 : decode cX3_init 28 = .ok (.aload_n 0, 1) := by decide +kernel
theorem dX3_init_29 : decode cX3_init 29 = .ok (.bipush 12, 2) := by decide +kernel
theorem dX3_init_31 : decode cX3_init 31 = .ok (.newarray .int, 2) := by decide +kernel
theorem dX3_init_33 : decode cX3_init 33 = .ok (.putfield 21, 3) := by decide +kernel
theorem dX3_init_36 : decode cX3_init 36 = .ok (.aload_n 0, 1) := by decide +kernel
theorem dX3_init_37 : decode cX3_init 37 = .ok (.bipush 12, 2) := by decide +kernel
theorem dX3_init_39 : decode cX3_init 39 = .ok (.newarray .int, 2) := by decide +kernel
theorem dX3_init_41 : decode cX3_init 41 = .ok (.putfield 24, 3) := by decide +kernel
theorem dX3_init_44 : decode cX3_init 44 = .ok (.aload_n 0, 1) := by decide +kernel
theorem dX3_init_45 : decode cX3_init 45 = .ok (.bipush 12, 2) := by decide +kernel
theorem dX3_init_47 : decode cX3_init 47 = .ok (.newarray .int, 2) := by decide +kernel
theorem dX3_init_49 : decode cX3_init 49 = .ok (.putfield 27, 3) := by decide +kernel
theorem dX3_init_52 : decode cX3_init 52 = .ok (.aload_n 0, 1) := by decide +kernel
theorem dX3_init_53 : decode cX3_init 53 = .ok (.new 30, 3) := by decide +kernel
theorem dX3_init_56 : decode cX3_init 56 = .ok (.dup, 1) := by decide +kernel
theorem dX3_init_57 : decode cX3_init 57 = .ok (.invokespecial 32, 3) := by decide +kernel
theorem dX3_init_60 : decode cX3_init 60 = .ok (.putfield 33, 3) := by decide +kernel
theorem dX3_init_63 : decode cX3_init 63 = .ok (.aload_n 0, 1) := by decide +kernel
theorem dX3_init_64 : decode cX3_init 64 = .ok (.iconst 5, 1) := by decide +kernel
theorem dX3_init_65 : decode cX3_init 65 = .ok (.putfield 37, 3) := by decide +kernel
theorem dX3_init_68 : decode cX3_init 68 = .ok (.return_, 1) := by decide +kernel
theorem dX3_seatAll_0 : decode cX3_seatAll 0 = .ok (.aload_n 0, 1) := by decide +kernel
theorem dX3_seatAll_1 : decode cX3_seatAll 1 = .ok (.aload_n 1, 1) := by decide +kernel
theorem dX3_seatAll_2 : decode cX3_seatAll 2 = .ok (.getfield 41, 3) := by decide +kernel
theorem dX3_seatAll_5 : decode cX3_seatAll 5 = .ok (.bipush 6, 2) := by decide +kernel
theorem dX3_seatAll_7 : decode cX3_seatAll 7 = .ok (.idiv, 1) := by decide +kernel
theorem dX3_seatAll_8 : decode cX3_seatAll 8 = .ok (.putfield 46, 3) := by decide +kernel
theorem dX3_seatAll_11 : decode cX3_seatAll 11 = .ok (.aload_n 0, 1) := by decide +kernel
theorem dX3_seatAll_12 : decode cX3_seatAll 12 = .ok (.getfield 33, 3) := by decide +kernel
theorem dX3_seatAll_15 : decode cX3_seatAll 15 = .ok (.invokevirtual 49, 3) := by decide +kernel
theorem dX3_seatAll_18 : decode cX3_seatAll 18 = .ok (.iconst 0, 1) := by decide +kernel
theorem dX3_seatAll_19 : decode cX3_seatAll 19 = .ok (.istore_n 2, 1) := by decide +kernel
theorem dX3_seatAll_20 : decode cX3_seatAll 20 = .ok (.iload_n 2, 1) := by decide +kernel
theorem dX3_seatAll_21 : decode cX3_seatAll 21 = .ok (.aload_n 0, 1) := by decide +kernel
theorem dX3_seatAll_22 : decode cX3_seatAll 22 = .ok (.getfield 46, 3) := by decide +kernel
theorem dX3_seatAll_25 : decode cX3_seatAll 25 = .ok (.if_icmp .ge 122, 3) := by decide +kernel
theorem dX3_seatAll_28 : decode cX3_seatAll 28 = .ok (.iload_n 2, 1) := by decide +kernel
theorem dX3_seatAll_29 : decode cX3_seatAll 29 = .ok (.bipush 6, 2) := by decide +kernel
theorem dX3_seatAll_31 : decode cX3_seatAll 31 = .ok (.imul, 1) := by decide +kernel
theorem dX3_seatAll_32 : decode cX3_seatAll 32 = .ok (.istore_n 3, 1) := by decide +kernel
theorem dX3_seatAll_33 : decode cX3_seatAll 33 = .ok (.aload_n 0, 1) := by decide +kernel
theorem dX3_seatAll_34 : decode cX3_seatAll 34 = .ok (.getfield 9, 3) := by decide +kernel
theorem dX3_seatAll_37 : decode cX3_seatAll 37 = .ok (.iload_n 2, 1) := by decide +kernel
theorem dX3_seatAll_38 : decode cX3_seatAll 38 = .ok (.aload_n 1, 1) := by decide +kernel
theorem dX3_seatAll_39 : decode cX3_seatAll 39 = .ok (.iload_n 3, 1) := by decide +kernel
theorem dX3_seatAll_40 : decode cX3_seatAll 40 = .ok (.iconst 0, 1) := by decide +kernel
theorem dX3_seatAll_41 : decode cX3_seatAll 41 = .ok (.iadd, 1) := by decide +kernel
theorem dX3_seatAll_42 : decode cX3_seatAll 42 = .ok (.invokevirtual 52, 3) := by decide +kernel
theorem dX3_seatAll_45 : decode cX3_seatAll 45 = .ok (.invokestatic 56, 3) := by decide +kernel
theorem dX3_seatAll_48 : decode cX3_seatAll 48 = .ok (.aload_n 0, 1) := by decide +kernel
theorem dX3_seatAll_49 : decode cX3_seatAll 49 = .ok (.getfield 15, 3) := by decide +kernel
theorem dX3_seatAll_52 : decode cX3_seatAll 52 = .ok (.iload_n 2, 1) := by decide +kernel
theorem dX3_seatAll_53 : decode cX3_seatAll 53 = .ok (.aload_n 1, 1) := by decide +kernel
theorem dX3_seatAll_54 : decode cX3_seatAll 54 = .ok (.iload_n 3, 1) := by decide +kernel
theorem dX3_seatAll_55 : decode cX3_seatAll 55 = .ok (.iconst 1, 1) := by decide +kernel
theorem dX3_seatAll_56 : decode cX3_seatAll 56 = .ok (.iadd, 1) := by decide +kernel
theorem dX3_seatAll_57 : decode cX3_seatAll 57 = .ok (.invokevirtual 60, 3) := by decide +kernel
theorem dX3_seatAll_60 : decode cX3_seatAll 60 = .ok (.invokestatic 56, 3) := by decide +kernel
theorem dX3_seatAll_63 : decode cX3_seatAll 63 = .ok (.aload_n 0, 1) := by decide +kernel
theorem dX3_seatAll_64 : decode cX3_seatAll 64 = .ok (.getfield 18, 3) := by decide +kernel
theorem dX3_seatAll_67 : decode cX3_seatAll 67 = .ok (.iload_n 2, 1) := by decide +kernel
theorem dX3_seatAll_68 : decode cX3_seatAll 68 = .ok (.aload_n 1, 1) := by decide +kernel
theorem dX3_seatAll_69 : decode cX3_seatAll 69 = .ok (.iload_n 3, 1) := by decide +kernel
theorem dX3_seatAll_70 : decode cX3_seatAll 70 = .ok (.iconst 2, 1) := by decide +kernel
theorem dX3_seatAll_71 : decode cX3_seatAll 71 = .ok (.iadd, 1) := by decide +kernel
theorem dX3_seatAll_72 : decode cX3_seatAll 72 = .ok (.invokevirtual 60, 3) := by decide +kernel
theorem dX3_seatAll_75 : decode cX3_seatAll 75 = .ok (.invokestatic 56, 3) := by decide +kernel
theorem dX3_seatAll_78 : decode cX3_seatAll 78 = .ok (.aload_n 0, 1) := by decide +kernel
theorem dX3_seatAll_79 : decode cX3_seatAll 79 = .ok (.getfield 21, 3) := by decide +kernel
theorem dX3_seatAll_82 : decode cX3_seatAll 82 = .ok (.iload_n 2, 1) := by decide +kernel
theorem dX3_seatAll_83 : decode cX3_seatAll 83 = .ok (.aload_n 1, 1) := by decide +kernel
theorem dX3_seatAll_84 : decode cX3_seatAll 84 = .ok (.iload_n 3, 1) := by decide +kernel
theorem dX3_seatAll_85 : decode cX3_seatAll 85 = .ok (.iconst 3, 1) := by decide +kernel
theorem dX3_seatAll_86 : decode cX3_seatAll 86 = .ok (.iadd, 1) := by decide +kernel
theorem dX3_seatAll_87 : decode cX3_seatAll 87 = .ok (.invokevirtual 60, 3) := by decide +kernel
theorem dX3_seatAll_90 : decode cX3_seatAll 90 = .ok (.invokestatic 56, 3) := by decide +kernel
theorem dX3_seatAll_93 : decode cX3_seatAll 93 = .ok (.aload_n 0, 1) := by decide +kernel
theorem dX3_seatAll_94 : decode cX3_seatAll 94 = .ok (.getfield 24, 3) := by decide +kernel
theorem dX3_seatAll_97 : decode cX3_seatAll 97 = .ok (.iload_n 2, 1) := by decide +kernel
theorem dX3_seatAll_98 : decode cX3_seatAll 98 = .ok (.aload_n 1, 1) := by decide +kernel
theorem dX3_seatAll_99 : decode cX3_seatAll 99 = .ok (.iload_n 3, 1) := by decide +kernel
theorem dX3_seatAll_100 : decode cX3_seatAll 100 = .ok (.iconst 4, 1) := by decide +kernel
theorem dX3_seatAll_101 : decode cX3_seatAll 101 = .ok (.iadd, 1) := by decide +kernel
theorem dX3_seatAll_102 : decode cX3_seatAll 102 = .ok (.invokevirtual 60, 3) := by decide +kernel
theorem dX3_seatAll_105 : decode cX3_seatAll 105 = .ok (.invokestatic 56, 3) := by decide +kernel
theorem dX3_seatAll_108 : decode cX3_seatAll 108 = .ok (.aload_n 0, 1) := by decide +kernel
theorem dX3_seatAll_109 : decode cX3_seatAll 109 = .ok (.getfield 27, 3) := by decide +kernel
theorem dX3_seatAll_112 : decode cX3_seatAll 112 = .ok (.iload_n 2, 1) := by decide +kernel
theorem dX3_seatAll_113 : decode cX3_seatAll 113 = .ok (.aload_n 1, 1) := by decide +kernel
theorem dX3_seatAll_114 : decode cX3_seatAll 114 = .ok (.iload_n 3, 1) := by decide +kernel
theorem dX3_seatAll_115 : decode cX3_seatAll 115 = .ok (.iconst 5, 1) := by decide +kernel
theorem dX3_seatAll_116 : decode cX3_seatAll 116 = .ok (.iadd, 1) := by decide +kernel
theorem dX3_seatAll_117 : decode cX3_seatAll 117 = .ok (.invokevirtual 60, 3) := by decide +kernel
theorem dX3_seatAll_120 : decode cX3_seatAll 120 = .ok (.invokestatic 56, 3) := by decide +kernel
theorem dX3_seatAll_123 : decode cX3_seatAll 123 = .ok (.aload_n 0, 1) := by decide +kernel
theorem dX3_seatAll_124 : decode cX3_seatAll 124 = .ok (.getfield 33, 3) := by decide +kernel
theorem dX3_seatAll_127 : decode cX3_seatAll 127 = .ok (.getfield 63, 3) := by decide +kernel
theorem dX3_seatAll_130 : decode cX3_seatAll 130 = .ok (.iload_n 2, 1) := by decide +kernel
theorem dX3_seatAll_131 : decode cX3_seatAll 131 = .ok (.aload_n 1, 1) := by decide +kernel
theorem dX3_seatAll_132 : decode cX3_seatAll 132 = .ok (.iload_n 3, 1) := by decide +kernel
theorem dX3_seatAll_133 : decode cX3_seatAll 133 = .ok (.iconst 5, 1) := by decide +kernel
theorem dX3_seatAll_134 : decode cX3_seatAll 134 = .ok (.iadd, 1) := by decide +kernel
theorem dX3_seatAll_135 : decode cX3_seatAll 135 = .ok (.invokevirtual 60, 3) := by decide +kernel
theorem dX3_seatAll_138 : decode cX3_seatAll 138 = .ok (.invokestatic 56, 3) := by decide +kernel
theorem dX3_seatAll_141 : decode cX3_seatAll 141 = .ok (.iinc 2 1, 3) := by decide +kernel
theorem dX3_seatAll_144 : decode cX3_seatAll 144 = .ok (.goto (-124), 3) := by decide +kernel
theorem dX3_seatAll_147 : decode cX3_seatAll 147 = .ok (.return_, 1) := by decide +kernel
theorem dX3_lacks_0 : decode cX3_lacks 0 = .ok (.iload_n 1, 1) := by decide +kernel
theorem dX3_lacks_1 : decode cX3_lacks 1 = .ok (.iconst 0, 1) := by decide +kernel
theorem dX3_lacks_2 : decode cX3_lacks 2 = .ok (.aload_n 0, 1) := by decide +kernel
theorem dX3_lacks_3 : decode cX3_lacks 3 = .ok (.getfield 46, 3) := by decide +kernel
theorem dX3_lacks_6 : decode cX3_lacks 6 = .ok (.iconst 1, 1) := by decide +kernel
theorem dX3_lacks_7 : decode cX3_lacks 7 = .ok (.isub, 1) := by decide +kernel
theorem dX3_lacks_8 : decode cX3_lacks 8 = .ok (.invokestatic 66, 3) := by decide +kernel
theorem dX3_lacks_11 : decode cX3_lacks 11 = .ok (.ireturn, 1) := by decide +kernel
theorem dX3_everyone_0 : decode cX3_everyone 0 = .ok (.iconst 1, 1) := by decide +kernel
theorem dX3_everyone_1 : decode cX3_everyone 1 = .ok (.aload_n 0, 1) := by decide +kernel
theorem dX3_everyone_2 : decode cX3_everyone 2 = .ok (.getfield 46, 3) := by decide +kernel
theorem dX3_everyone_5 : decode cX3_everyone 5 = .ok (.ishl, 1) := by decide +kernel
theorem dX3_everyone_6 : decode cX3_everyone 6 = .ok (.iconst 1, 1) := by decide +kernel
theorem dX3_everyone_7 : decode cX3_everyone 7 = .ok (.isub, 1) := by decide +kernel
theorem dX3_everyone_8 : decode cX3_everyone 8 = .ok (.ireturn, 1) := by decide +kernel
theorem dX3_noBits_0 : decode cX3_noBits 0 = .ok (.iload_n 1, 1) := by decide +kernel
theorem dX3_noBits_1 : decode cX3_noBits 1 = .ok (.iconst 0, 1) := by decide +kernel
theorem dX3_noBits_2 : decode cX3_noBits 2 = .ok (.aload_n 0, 1) := by decide +kernel
theorem dX3_noBits_3 : decode cX3_noBits 3 = .ok (.invokevirtual 70, 3) := by decide +kernel
theorem dX3_noBits_6 : decode cX3_noBits 6 = .ok (.invokestatic 66, 3) := by decide +kernel
theorem dX3_noBits_9 : decode cX3_noBits 9 = .ok (.ireturn, 1) := by decide +kernel
theorem dX3_isF_0 : decode cX3_isF 0 = .ok (.aload_n 0, 1) := by decide +kernel
theorem dX3_isF_1 : decode cX3_isF 1 = .ok (.getfield 9, 3) := by decide +kernel
theorem dX3_isF_4 : decode cX3_isF 4 = .ok (.iload_n 1, 1) := by decide +kernel
theorem dX3_isF_5 : decode cX3_isF 5 = .ok (.invokestatic 74, 3) := by decide +kernel
theorem dX3_isF_8 : decode cX3_isF 8 = .ok (.bipush 70, 2) := by decide +kernel
theorem dX3_isF_10 : decode cX3_isF 10 = .ok (.if_icmp .ne 7, 3) := by decide +kernel
theorem dX3_isF_13 : decode cX3_isF 13 = .ok (.iconst 1, 1) := by decide +kernel
theorem dX3_isF_14 : decode cX3_isF 14 = .ok (.goto 4, 3) := by decide +kernel
theorem dX3_isF_17 : decode cX3_isF 17 = .ok (.iconst 0, 1) := by decide +kernel
theorem dX3_isF_18 : decode cX3_isF 18 = .ok (.ireturn, 1) := by decide +kernel
theorem dX3_tell_0 : decode cX3_tell 0 = .ok (.iload_n 2, 1) := by decide +kernel
theorem dX3_tell_1 : decode cX3_tell 1 = .ok (.tableswitch 114 0 6 #[43, 52, 61, 70, 79, 88, 102], 43) := by decide +kernel
theorem dX3_tell_44 : decode cX3_tell 44 = .ok (.aload_n 0, 1) := by decide +kernel
theorem dX3_tell_45 : decode cX3_tell 45 = .ok (.getfield 15, 3) := by decide +kernel
theorem dX3_tell_48 : decode cX3_tell 48 = .ok (.iload_n 1, 1) := by decide +kernel
theorem dX3_tell_49 : decode cX3_tell 49 = .ok (.invokestatic 74, 3) := by decide +kernel
theorem dX3_tell_52 : decode cX3_tell 52 = .ok (.ireturn, 1) := by decide +kernel
theorem dX3_tell_53 : decode cX3_tell 53 = .ok (.aload_n 0, 1) := by decide +kernel
theorem dX3_tell_54 : decode cX3_tell 54 = .ok (.getfield 18, 3) := by decide +kernel
theorem dX3_tell_57 : decode cX3_tell 57 = .ok (.iload_n 1, 1) := by decide +kernel
theorem dX3_tell_58 : decode cX3_tell 58 = .ok (.invokestatic 74, 3) := by decide +kernel
theorem dX3_tell_61 : decode cX3_tell 61 = .ok (.ireturn, 1) := by decide +kernel
theorem dX3_tell_62 : decode cX3_tell 62 = .ok (.aload_n 0, 1) := by decide +kernel
theorem dX3_tell_63 : decode cX3_tell 63 = .ok (.getfield 21, 3) := by decide +kernel
theorem dX3_tell_66 : decode cX3_tell 66 = .ok (.iload_n 1, 1) := by decide +kernel
theorem dX3_tell_67 : decode cX3_tell 67 = .ok (.invokestatic 74, 3) := by decide +kernel
theorem dX3_tell_70 : decode cX3_tell 70 = .ok (.ireturn, 1) := by decide +kernel
theorem dX3_tell_71 : decode cX3_tell 71 = .ok (.aload_n 0, 1) := by decide +kernel
theorem dX3_tell_72 : decode cX3_tell 72 = .ok (.getfield 24, 3) := by decide +kernel
theorem dX3_tell_75 : decode cX3_tell 75 = .ok (.iload_n 1, 1) := by decide +kernel
theorem dX3_tell_76 : decode cX3_tell 76 = .ok (.invokestatic 74, 3) := by decide +kernel
theorem dX3_tell_79 : decode cX3_tell 79 = .ok (.ireturn, 1) := by decide +kernel
theorem dX3_tell_80 : decode cX3_tell 80 = .ok (.aload_n 0, 1) := by decide +kernel
theorem dX3_tell_81 : decode cX3_tell 81 = .ok (.getfield 27, 3) := by decide +kernel
theorem dX3_tell_84 : decode cX3_tell 84 = .ok (.iload_n 1, 1) := by decide +kernel
theorem dX3_tell_85 : decode cX3_tell 85 = .ok (.invokestatic 74, 3) := by decide +kernel
theorem dX3_tell_88 : decode cX3_tell 88 = .ok (.ireturn, 1) := by decide +kernel
theorem dX3_tell_89 : decode cX3_tell 89 = .ok (.aload_n 0, 1) := by decide +kernel
theorem dX3_tell_90 : decode cX3_tell 90 = .ok (.iload_n 1, 1) := by decide +kernel
theorem dX3_tell_91 : decode cX3_tell 91 = .ok (.invokevirtual 78, 3) := by decide +kernel
theorem dX3_tell_94 : decode cX3_tell 94 = .ok (.ifCond .eq 7, 3) := by decide +kernel
theorem dX3_tell_97 : decode cX3_tell 97 = .ok (.iconst 1, 1) := by decide +kernel
theorem dX3_tell_98 : decode cX3_tell 98 = .ok (.goto 4, 3) := by decide +kernel
theorem dX3_tell_101 : decode cX3_tell 101 = .ok (.iconst 0, 1) := by decide +kernel
theorem dX3_tell_102 : decode cX3_tell 102 = .ok (.ireturn, 1) := by decide +kernel
theorem dX3_tell_103 : decode cX3_tell 103 = .ok (.aload_n 0, 1) := by decide +kernel
theorem dX3_tell_104 : decode cX3_tell 104 = .ok (.getfield 33, 3) := by decide +kernel
theorem dX3_tell_107 : decode cX3_tell 107 = .ok (.getfield 63, 3) := by decide +kernel
theorem dX3_tell_110 : decode cX3_tell 110 = .ok (.iload_n 1, 1) := by decide +kernel
theorem dX3_tell_111 : decode cX3_tell 111 = .ok (.invokestatic 74, 3) := by decide +kernel
theorem dX3_tell_114 : decode cX3_tell 114 = .ok (.ireturn, 1) := by decide +kernel
theorem dX3_tell_115 : decode cX3_tell 115 = .ok (.aload_n 0, 1) := by decide +kernel
theorem dX3_tell_116 : decode cX3_tell 116 = .ok (.getfield 33, 3) := by decide +kernel
theorem dX3_tell_119 : decode cX3_tell 119 = .ok (.getfield 82, 3) := by decide +kernel
theorem dX3_tell_122 : decode cX3_tell 122 = .ok (.iload_n 1, 1) := by decide +kernel
theorem dX3_tell_123 : decode cX3_tell 123 = .ok (.invokestatic 74, 3) := by decide +kernel
theorem dX3_tell_126 : decode cX3_tell 126 = .ok (.ireturn, 1) := by decide +kernel
theorem dX3_isRight_0 : decode cX3_isRight 0 = .ok (.iload_n 2, 1) := by decide +kernel
theorem dX3_isRight_1 : decode cX3_isRight 1 = .ok (.ifCond .eq 19, 3) := by decide +kernel
theorem dX3_isRight_4 : decode cX3_isRight 4 = .ok (.aload_n 0, 1) := by decide +kernel
theorem dX3_isRight_5 : decode cX3_isRight 5 = .ok (.getfield 24, 3) := by decide +kernel
theorem dX3_isRight_8 : decode cX3_isRight 8 = .ok (.iload_n 1, 1) := by decide +kernel
theorem dX3_isRight_9 : decode cX3_isRight 9 = .ok (.invokestatic 74, 3) := by decide +kernel
theorem dX3_isRight_12 : decode cX3_isRight 12 = .ok (.iload_n 3, 1) := by decide +kernel
theorem dX3_isRight_13 : decode cX3_isRight 13 = .ok (.if_icmp .gt 7, 3) := by decide +kernel
theorem dX3_isRight_16 : decode cX3_isRight 16 = .ok (.iconst 1, 1) := by decide +kernel
theorem dX3_isRight_17 : decode cX3_isRight 17 = .ok (.goto 4, 3) := by decide +kernel
theorem dX3_isRight_20 : decode cX3_isRight 20 = .ok (.iconst 0, 1) := by decide +kernel
theorem dX3_isRight_21 : decode cX3_isRight 21 = .ok (.ireturn, 1) := by decide +kernel
theorem dX3_isUp_0 : decode cX3_isUp 0 = .ok (.aload_n 0, 1) := by decide +kernel
theorem dX3_isUp_1 : decode cX3_isUp 1 = .ok (.getfield 33, 3) := by decide +kernel
theorem dX3_isUp_4 : decode cX3_isUp 4 = .ok (.getfield 63, 3) := by decide +kernel
theorem dX3_isUp_7 : decode cX3_isUp 7 = .ok (.iload_n 1, 1) := by decide +kernel
theorem dX3_isUp_8 : decode cX3_isUp 8 = .ok (.invokestatic 74, 3) := by decide +kernel
theorem dX3_isUp_11 : decode cX3_isUp 11 = .ok (.aload_n 0, 1) := by decide +kernel
theorem dX3_isUp_12 : decode cX3_isUp 12 = .ok (.getfield 37, 3) := by decide +kernel
theorem dX3_isUp_15 : decode cX3_isUp 15 = .ok (.if_icmp .lt 25, 3) := by decide +kernel
theorem dX3_isUp_18 : decode cX3_isUp 18 = .ok (.aload_n 0, 1) := by decide +kernel
theorem dX3_isUp_19 : decode cX3_isUp 19 = .ok (.iload_n 1, 1) := by decide +kernel
theorem dX3_isUp_20 : decode cX3_isUp 20 = .ok (.invokevirtual 78, 3) := by decide +kernel
theorem dX3_isUp_23 : decode cX3_isUp 23 = .ok (.ifCond .ne 13, 3) := by decide +kernel
theorem dX3_isUp_26 : decode cX3_isUp 26 = .ok (.aload_n 0, 1) := by decide +kernel
theorem dX3_isUp_27 : decode cX3_isUp 27 = .ok (.iload_n 1, 1) := by decide +kernel
theorem dX3_isUp_28 : decode cX3_isUp 28 = .ok (.iload_n 2, 1) := by decide +kernel
theorem dX3_isUp_29 : decode cX3_isUp 29 = .ok (.iload_n 3, 1) := by decide +kernel
theorem dX3_isUp_30 : decode cX3_isUp 30 = .ok (.invokevirtual 85, 3) := by decide +kernel
theorem dX3_isUp_33 : decode cX3_isUp 33 = .ok (.ifCond .eq 7, 3) := by decide +kernel
theorem dX3_isUp_36 : decode cX3_isUp 36 = .ok (.iconst 1, 1) := by decide +kernel
theorem dX3_isUp_37 : decode cX3_isUp 37 = .ok (.goto 4, 3) := by decide +kernel
theorem dX3_isUp_40 : decode cX3_isUp 40 = .ok (.iconst 0, 1) := by decide +kernel
theorem dX3_isUp_41 : decode cX3_isUp 41 = .ok (.ireturn, 1) := by decide +kernel
theorem dX3_upTenths_0 : decode cX3_upTenths 0 = .ok (.aload_n 0, 1) := by decide +kernel
theorem dX3_upTenths_1 : decode cX3_upTenths 1 = .ok (.iload_n 1, 1) := by decide +kernel
theorem dX3_upTenths_2 : decode cX3_upTenths 2 = .ok (.iconst 1, 1) := by decide +kernel
theorem dX3_upTenths_3 : decode cX3_upTenths 3 = .ok (.iload_n 2, 1) := by decide +kernel
theorem dX3_upTenths_4 : decode cX3_upTenths 4 = .ok (.invokevirtual 89, 3) := by decide +kernel
theorem dX3_upTenths_7 : decode cX3_upTenths 7 = .ok (.ifCond .eq 14, 3) := by decide +kernel
theorem dX3_upTenths_10 : decode cX3_upTenths 10 = .ok (.aload_n 0, 1) := by decide +kernel
theorem dX3_upTenths_11 : decode cX3_upTenths 11 = .ok (.getfield 21, 3) := by decide +kernel
theorem dX3_upTenths_14 : decode cX3_upTenths 14 = .ok (.iload_n 1, 1) := by decide +kernel
theorem dX3_upTenths_15 : decode cX3_upTenths 15 = .ok (.invokestatic 74, 3) := by decide +kernel
theorem dX3_upTenths_18 : decode cX3_upTenths 18 = .ok (.goto 4, 3) := by decide +kernel
theorem dX3_upTenths_21 : decode cX3_upTenths 21 = .ok (.iconst 0, 1) := by decide +kernel
theorem dX3_upTenths_22 : decode cX3_upTenths 22 = .ok (.istore_n 3, 1) := by decide +kernel
theorem dX3_upTenths_23 : decode cX3_upTenths 23 = .ok (.aload_n 0, 1) := by decide +kernel
theorem dX3_upTenths_24 : decode cX3_upTenths 24 = .ok (.iload_n 1, 1) := by decide +kernel
theorem dX3_upTenths_25 : decode cX3_upTenths 25 = .ok (.iconst 0, 1) := by decide +kernel
theorem dX3_upTenths_26 : decode cX3_upTenths 26 = .ok (.iload_n 2, 1) := by decide +kernel
theorem dX3_upTenths_27 : decode cX3_upTenths 27 = .ok (.invokevirtual 89, 3) := by decide +kernel
theorem dX3_upTenths_30 : decode cX3_upTenths 30 = .ok (.ifCond .eq 17, 3) := by decide +kernel
theorem dX3_upTenths_33 : decode cX3_upTenths 33 = .ok (.bipush 10, 2) := by decide +kernel
theorem dX3_upTenths_35 : decode cX3_upTenths 35 = .ok (.aload_n 0, 1) := by decide +kernel
theorem dX3_upTenths_36 : decode cX3_upTenths 36 = .ok (.getfield 21, 3) := by decide +kernel
theorem dX3_upTenths_39 : decode cX3_upTenths 39 = .ok (.iload_n 1, 1) := by decide +kernel
theorem dX3_upTenths_40 : decode cX3_upTenths 40 = .ok (.invokestatic 74, 3) := by decide +kernel
theorem dX3_upTenths_43 : decode cX3_upTenths 43 = .ok (.isub, 1) := by decide +kernel
theorem dX3_upTenths_44 : decode cX3_upTenths 44 = .ok (.goto 4, 3) := by decide +kernel
theorem dX3_upTenths_47 : decode cX3_upTenths 47 = .ok (.iconst 0, 1) := by decide +kernel
theorem dX3_upTenths_48 : decode cX3_upTenths 48 = .ok (.istore 4, 2) := by decide +kernel
theorem dX3_upTenths_50 : decode cX3_upTenths 50 = .ok (.iload_n 3, 1) := by decide +kernel
theorem dX3_upTenths_51 : decode cX3_upTenths 51 = .ok (.iload 4, 2) := by decide +kernel
theorem dX3_upTenths_53 : decode cX3_upTenths 53 = .ok (.iadd, 1) := by decide +kernel
theorem dX3_upTenths_54 : decode cX3_upTenths 54 = .ok (.ireturn, 1) := by decide +kernel
theorem dX3_rightTenths_0 : decode cX3_rightTenths 0 = .ok (.iload_n 3, 1) := by decide +kernel
theorem dX3_rightTenths_1 : decode cX3_rightTenths 1 = .ok (.ifCond .ne 13, 3) := by decide +kernel
theorem dX3_rightTenths_4 : decode cX3_rightTenths 4 = .ok (.aload_n 0, 1) := by decide +kernel
theorem dX3_rightTenths_5 : decode cX3_rightTenths 5 = .ok (.iload_n 1, 1) := by decide +kernel
theorem dX3_rightTenths_6 : decode cX3_rightTenths 6 = .ok (.iconst 1, 1) := by decide +kernel
theorem dX3_rightTenths_7 : decode cX3_rightTenths 7 = .ok (.iload_n 2, 1) := by decide +kernel
theorem dX3_rightTenths_8 : decode cX3_rightTenths 8 = .ok (.invokevirtual 89, 3) := by decide +kernel
theorem dX3_rightTenths_11 : decode cX3_rightTenths 11 = .ok (.ifCond .eq 7, 3) := by decide +kernel
theorem dX3_rightTenths_14 : decode cX3_rightTenths 14 = .ok (.iconst 1, 1) := by decide +kernel
theorem dX3_rightTenths_15 : decode cX3_rightTenths 15 = .ok (.goto 4, 3) := by decide +kernel
theorem dX3_rightTenths_18 : decode cX3_rightTenths 18 = .ok (.iconst 0, 1) := by decide +kernel
theorem dX3_rightTenths_19 : decode cX3_rightTenths 19 = .ok (.istore 4, 2) := by decide +kernel
theorem dX3_rightTenths_21 : decode cX3_rightTenths 21 = .ok (.iload 4, 2) := by decide +kernel
theorem dX3_rightTenths_23 : decode cX3_rightTenths 23 = .ok (.ifCond .eq 24, 3) := by decide +kernel
theorem dX3_rightTenths_26 : decode cX3_rightTenths 26 = .ok (.aload_n 0, 1) := by decide +kernel
theorem dX3_rightTenths_27 : decode cX3_rightTenths 27 = .ok (.iload_n 1, 1) := by decide +kernel
theorem dX3_rightTenths_28 : decode cX3_rightTenths 28 = .ok (.iconst 1, 1) := by decide +kernel
theorem dX3_rightTenths_29 : decode cX3_rightTenths 29 = .ok (.iload_n 2, 1) := by decide +kernel
theorem dX3_rightTenths_30 : decode cX3_rightTenths 30 = .ok (.invokevirtual 85, 3) := by decide +kernel
theorem dX3_rightTenths_33 : decode cX3_rightTenths 33 = .ok (.ifCond .eq 14, 3) := by decide +kernel
theorem dX3_rightTenths_36 : decode cX3_rightTenths 36 = .ok (.aload_n 0, 1) := by decide +kernel
theorem dX3_rightTenths_37 : decode cX3_rightTenths 37 = .ok (.getfield 21, 3) := by decide +kernel
theorem dX3_rightTenths_40 : decode cX3_rightTenths 40 = .ok (.iload_n 1, 1) := by decide +kernel
theorem dX3_rightTenths_41 : decode cX3_rightTenths 41 = .ok (.invokestatic 74, 3) := by decide +kernel
theorem dX3_rightTenths_44 : decode cX3_rightTenths 44 = .ok (.goto 4, 3) := by decide +kernel
theorem dX3_rightTenths_47 : decode cX3_rightTenths 47 = .ok (.iconst 0, 1) := by decide +kernel
theorem dX3_rightTenths_48 : decode cX3_rightTenths 48 = .ok (.ireturn, 1) := by decide +kernel
theorem dX3_allUpTenths_0 : decode cX3_allUpTenths 0 = .ok (.iconst 0, 1) := by decide +kernel
theorem dX3_allUpTenths_1 : decode cX3_allUpTenths 1 = .ok (.istore_n 2, 1) := by decide +kernel
theorem dX3_allUpTenths_2 : decode cX3_allUpTenths 2 = .ok (.iconst 0, 1) := by decide +kernel
theorem dX3_allUpTenths_3 : decode cX3_allUpTenths 3 = .ok (.istore_n 3, 1) := by decide +kernel
theorem dX3_allUpTenths_4 : decode cX3_allUpTenths 4 = .ok (.iload_n 3, 1) := by decide +kernel
theorem dX3_allUpTenths_5 : decode cX3_allUpTenths 5 = .ok (.aload_n 0, 1) := by decide +kernel
theorem dX3_allUpTenths_6 : decode cX3_allUpTenths 6 = .ok (.getfield 46, 3) := by decide +kernel
theorem dX3_allUpTenths_9 : decode cX3_allUpTenths 9 = .ok (.if_icmp .ge 18, 3) := by decide +kernel
theorem dX3_allUpTenths_12 : decode cX3_allUpTenths 12 = .ok (.iload_n 2, 1) := by decide +kernel
theorem dX3_allUpTenths_13 : decode cX3_allUpTenths 13 = .ok (.aload_n 0, 1) := by decide +kernel
theorem dX3_allUpTenths_14 : decode cX3_allUpTenths 14 = .ok (.iload_n 3, 1) := by decide +kernel
theorem dX3_allUpTenths_15 : decode cX3_allUpTenths 15 = .ok (.iload_n 1, 1) := by decide +kernel
theorem dX3_allUpTenths_16 : decode cX3_allUpTenths 16 = .ok (.invokevirtual 92, 3) := by decide +kernel
theorem dX3_allUpTenths_19 : decode cX3_allUpTenths 19 = .ok (.iadd, 1) := by decide +kernel
theorem dX3_allUpTenths_20 : decode cX3_allUpTenths 20 = .ok (.istore_n 2, 1) := by decide +kernel
theorem dX3_allUpTenths_21 : decode cX3_allUpTenths 21 = .ok (.iinc 3 1, 3) := by decide +kernel
theorem dX3_allUpTenths_24 : decode cX3_allUpTenths 24 = .ok (.goto (-20), 3) := by decide +kernel
theorem dX3_allUpTenths_27 : decode cX3_allUpTenths 27 = .ok (.iload_n 2, 1) := by decide +kernel
theorem dX3_allUpTenths_28 : decode cX3_allUpTenths 28 = .ok (.ireturn, 1) := by decide +kernel
theorem dX3_allSilentTenths_0 : decode cX3_allSilentTenths 0 = .ok (.iconst 0, 1) := by decide +kernel
theorem dX3_allSilentTenths_1 : decode cX3_allSilentTenths 1 = .ok (.istore_n 2, 1) := by decide +kernel
theorem dX3_allSilentTenths_2 : decode cX3_allSilentTenths 2 = .ok (.iconst 0, 1) := by decide +kernel
theorem dX3_allSilentTenths_3 : decode cX3_allSilentTenths 3 = .ok (.istore_n 3, 1) := by decide +kernel
theorem dX3_allSilentTenths_4 : decode cX3_allSilentTenths 4 = .ok (.iload_n 3, 1) := by decide +kernel
theorem dX3_allSilentTenths_5 : decode cX3_allSilentTenths 5 = .ok (.aload_n 0, 1) := by decide +kernel
theorem dX3_allSilentTenths_6 : decode cX3_allSilentTenths 6 = .ok (.getfield 46, 3) := by decide +kernel
theorem dX3_allSilentTenths_9 : decode cX3_allSilentTenths 9 = .ok (.if_icmp .ge 34, 3) := by decide +kernel
theorem dX3_allSilentTenths_12 : decode cX3_allSilentTenths 12 = .ok (.iload_n 2, 1) := by decide +kernel
theorem dX3_allSilentTenths_13 : decode cX3_allSilentTenths 13 = .ok (.aload_n 0, 1) := by decide +kernel
theorem dX3_allSilentTenths_14 : decode cX3_allSilentTenths 14 = .ok (.iload_n 3, 1) := by decide +kernel
theorem dX3_allSilentTenths_15 : decode cX3_allSilentTenths 15 = .ok (.iconst 1, 1) := by decide +kernel
theorem dX3_allSilentTenths_16 : decode cX3_allSilentTenths 16 = .ok (.iload_n 1, 1) := by decide +kernel
theorem dX3_allSilentTenths_17 : decode cX3_allSilentTenths 17 = .ok (.invokevirtual 89, 3) := by decide +kernel
theorem dX3_allSilentTenths_20 : decode cX3_allSilentTenths 20 = .ok (.ifCond .eq 7, 3) := by decide +kernel
theorem dX3_allSilentTenths_23 : decode cX3_allSilentTenths 23 = .ok (.iconst 0, 1) := by decide +kernel
theorem dX3_allSilentTenths_24 : decode cX3_allSilentTenths 24 = .ok (.goto 11, 3) := by decide +kernel
theorem dX3_allSilentTenths_27 : decode cX3_allSilentTenths 27 = .ok (.aload_n 0, 1) := by decide +kernel
theorem dX3_allSilentTenths_28 : decode cX3_allSilentTenths 28 = .ok (.getfield 21, 3) := by decide +kernel
theorem dX3_allSilentTenths_31 : decode cX3_allSilentTenths 31 = .ok (.iload_n 3, 1) := by decide +kernel
theorem dX3_allSilentTenths_32 : decode cX3_allSilentTenths 32 = .ok (.invokestatic 74, 3) := by decide +kernel
theorem dX3_allSilentTenths_35 : decode cX3_allSilentTenths 35 = .ok (.iadd, 1) := by decide +kernel
theorem dX3_allSilentTenths_36 : decode cX3_allSilentTenths 36 = .ok (.istore_n 2, 1) := by decide +kernel
theorem dX3_allSilentTenths_37 : decode cX3_allSilentTenths 37 = .ok (.iinc 3 1, 3) := by decide +kernel
theorem dX3_allSilentTenths_40 : decode cX3_allSilentTenths 40 = .ok (.goto (-36), 3) := by decide +kernel
theorem dX3_allSilentTenths_43 : decode cX3_allSilentTenths 43 = .ok (.iload_n 2, 1) := by decide +kernel
theorem dX3_allSilentTenths_44 : decode cX3_allSilentTenths 44 = .ok (.ireturn, 1) := by decide +kernel
theorem dX3_bestWait_0 : decode cX3_bestWait 0 = .ok (.iconst 0, 1) := by decide +kernel
theorem dX3_bestWait_1 : decode cX3_bestWait 1 = .ok (.istore_n 3, 1) := by decide +kernel
theorem dX3_bestWait_2 : decode cX3_bestWait 2 = .ok (.iload_n 1, 1) := by decide +kernel
theorem dX3_bestWait_3 : decode cX3_bestWait 3 = .ok (.aload_n 0, 1) := by decide +kernel
theorem dX3_bestWait_4 : decode cX3_bestWait 4 = .ok (.iconst 0, 1) := by decide +kernel
theorem dX3_bestWait_5 : decode cX3_bestWait 5 = .ok (.invokevirtual 96, 3) := by decide +kernel
theorem dX3_bestWait_8 : decode cX3_bestWait 8 = .ok (.imul, 1) := by decide +kernel
theorem dX3_bestWait_9 : decode cX3_bestWait 9 = .ok (.istore 4, 2) := by decide +kernel
theorem dX3_bestWait_11 : decode cX3_bestWait 11 = .ok (.iconst 1, 1) := by decide +kernel
theorem dX3_bestWait_12 : decode cX3_bestWait 12 = .ok (.istore 5, 2) := by decide +kernel
theorem dX3_bestWait_14 : decode cX3_bestWait 14 = .ok (.iload 5, 2) := by decide +kernel
theorem dX3_bestWait_16 : decode cX3_bestWait 16 = .ok (.bipush 9, 2) := by decide +kernel
theorem dX3_bestWait_18 : decode cX3_bestWait 18 = .ok (.if_icmp .gt 41, 3) := by decide +kernel
theorem dX3_bestWait_21 : decode cX3_bestWait 21 = .ok (.iload_n 1, 1) := by decide +kernel
theorem dX3_bestWait_22 : decode cX3_bestWait 22 = .ok (.aload_n 0, 1) := by decide +kernel
theorem dX3_bestWait_23 : decode cX3_bestWait 23 = .ok (.iload 5, 2) := by decide +kernel
theorem dX3_bestWait_25 : decode cX3_bestWait 25 = .ok (.invokevirtual 96, 3) := by decide +kernel
theorem dX3_bestWait_28 : decode cX3_bestWait 28 = .ok (.imul, 1) := by decide +kernel
theorem dX3_bestWait_29 : decode cX3_bestWait 29 = .ok (.bipush 10, 2) := by decide +kernel
theorem dX3_bestWait_31 : decode cX3_bestWait 31 = .ok (.iload_n 2, 1) := by decide +kernel
theorem dX3_bestWait_32 : decode cX3_bestWait 32 = .ok (.imul, 1) := by decide +kernel
theorem dX3_bestWait_33 : decode cX3_bestWait 33 = .ok (.iload 5, 2) := by decide +kernel
theorem dX3_bestWait_35 : decode cX3_bestWait 35 = .ok (.imul, 1) := by decide +kernel
theorem dX3_bestWait_36 : decode cX3_bestWait 36 = .ok (.isub, 1) := by decide +kernel
theorem dX3_bestWait_37 : decode cX3_bestWait 37 = .ok (.istore 6, 2) := by decide +kernel
theorem dX3_bestWait_39 : decode cX3_bestWait 39 = .ok (.iload 6, 2) := by decide +kernel
theorem dX3_bestWait_41 : decode cX3_bestWait 41 = .ok (.iload 4, 2) := by decide +kernel
theorem dX3_bestWait_43 : decode cX3_bestWait 43 = .ok (.if_icmp .le 10, 3) := by decide +kernel
theorem dX3_bestWait_46 : decode cX3_bestWait 46 = .ok (.iload 6, 2) := by decide +kernel
theorem dX3_bestWait_48 : decode cX3_bestWait 48 = .ok (.istore 4, 2) := by decide +kernel
theorem dX3_bestWait_50 : decode cX3_bestWait 50 = .ok (.iload 5, 2) := by decide +kernel
theorem dX3_bestWait_52 : decode cX3_bestWait 52 = .ok (.istore_n 3, 1) := by decide +kernel
theorem dX3_bestWait_53 : decode cX3_bestWait 53 = .ok (.iinc 5 1, 3) := by decide +kernel
theorem dX3_bestWait_56 : decode cX3_bestWait 56 = .ok (.goto (-42), 3) := by decide +kernel
theorem dX3_bestWait_59 : decode cX3_bestWait 59 = .ok (.iload_n 3, 1) := by decide +kernel
theorem dX3_bestWait_60 : decode cX3_bestWait 60 = .ok (.ireturn, 1) := by decide +kernel
theorem dX3_upBits_0 : decode cX3_upBits 0 = .ok (.iconst 0, 1) := by decide +kernel
theorem dX3_upBits_1 : decode cX3_upBits 1 = .ok (.istore_n 3, 1) := by decide +kernel
theorem dX3_upBits_2 : decode cX3_upBits 2 = .ok (.iconst 0, 1) := by decide +kernel
theorem dX3_upBits_3 : decode cX3_upBits 3 = .ok (.istore 4, 2) := by decide +kernel
theorem dX3_upBits_5 : decode cX3_upBits 5 = .ok (.iload 4, 2) := by decide +kernel
theorem dX3_upBits_7 : decode cX3_upBits 7 = .ok (.aload_n 0, 1) := by decide +kernel
theorem dX3_upBits_8 : decode cX3_upBits 8 = .ok (.getfield 46, 3) := by decide +kernel
theorem dX3_upBits_11 : decode cX3_upBits 11 = .ok (.if_icmp .ge 32, 3) := by decide +kernel
theorem dX3_upBits_14 : decode cX3_upBits 14 = .ok (.aload_n 0, 1) := by decide +kernel
theorem dX3_upBits_15 : decode cX3_upBits 15 = .ok (.iload 4, 2) := by decide +kernel
theorem dX3_upBits_17 : decode cX3_upBits 17 = .ok (.iload_n 1, 1) := by decide +kernel
theorem dX3_upBits_18 : decode cX3_upBits 18 = .ok (.iload 4, 2) := by decide +kernel
theorem dX3_upBits_20 : decode cX3_upBits 20 = .ok (.invokestatic 99, 3) := by decide +kernel
theorem dX3_upBits_23 : decode cX3_upBits 23 = .ok (.iload_n 2, 1) := by decide +kernel
theorem dX3_upBits_24 : decode cX3_upBits 24 = .ok (.invokevirtual 89, 3) := by decide +kernel
theorem dX3_upBits_27 : decode cX3_upBits 27 = .ok (.ifCond .eq 10, 3) := by decide +kernel
theorem dX3_upBits_30 : decode cX3_upBits 30 = .ok (.iload_n 3, 1) := by decide +kernel
theorem dX3_upBits_31 : decode cX3_upBits 31 = .ok (.iconst 1, 1) := by decide +kernel
theorem dX3_upBits_32 : decode cX3_upBits 32 = .ok (.iload 4, 2) := by decide +kernel
theorem dX3_upBits_34 : decode cX3_upBits 34 = .ok (.ishl, 1) := by decide +kernel
theorem dX3_upBits_35 : decode cX3_upBits 35 = .ok (.ior, 1) := by decide +kernel
theorem dX3_upBits_36 : decode cX3_upBits 36 = .ok (.istore_n 3, 1) := by decide +kernel
theorem dX3_upBits_37 : decode cX3_upBits 37 = .ok (.iinc 4 1, 3) := by decide +kernel
theorem dX3_upBits_40 : decode cX3_upBits 40 = .ok (.goto (-35), 3) := by decide +kernel
theorem dX3_upBits_43 : decode cX3_upBits 43 = .ok (.iload_n 3, 1) := by decide +kernel
theorem dX3_upBits_44 : decode cX3_upBits 44 = .ok (.ireturn, 1) := by decide +kernel
theorem dX3_rank_0 : decode cX3_rank 0 = .ok (.aload_n 0, 1) := by decide +kernel
theorem dX3_rank_1 : decode cX3_rank 1 = .ok (.iload_n 1, 1) := by decide +kernel
theorem dX3_rank_2 : decode cX3_rank 2 = .ok (.iload_n 2, 1) := by decide +kernel
theorem dX3_rank_3 : decode cX3_rank 3 = .ok (.invokevirtual 103, 3) := by decide +kernel
theorem dX3_rank_6 : decode cX3_rank 6 = .ok (.bipush 12, 2) := by decide +kernel
theorem dX3_rank_8 : decode cX3_rank 8 = .ok (.imul, 1) := by decide +kernel
theorem dX3_rank_9 : decode cX3_rank 9 = .ok (.iload_n 1, 1) := by decide +kernel
theorem dX3_rank_10 : decode cX3_rank 10 = .ok (.iadd, 1) := by decide +kernel
theorem dX3_rank_11 : decode cX3_rank 11 = .ok (.ireturn, 1) := by decide +kernel
theorem dX3_rankByRule_0 : decode cX3_rankByRule 0 = .ok (.iload_n 2, 1) := by decide +kernel
theorem dX3_rankByRule_1 : decode cX3_rankByRule 1 = .ok (.tableswitch 81 0 4 #[35, 60, 81, 81, 69], 35) := by decide +kernel
theorem dX3_rankByRule_36 : decode cX3_rankByRule 36 = .ok (.aload_n 0, 1) := by decide +kernel
theorem dX3_rankByRule_37 : decode cX3_rankByRule 37 = .ok (.getfield 15, 3) := by decide +kernel
theorem dX3_rankByRule_40 : decode cX3_rankByRule 40 = .ok (.iload_n 1, 1) := by decide +kernel
theorem dX3_rankByRule_41 : decode cX3_rankByRule 41 = .ok (.invokestatic 74, 3) := by decide +kernel
theorem dX3_rankByRule_44 : decode cX3_rankByRule 44 = .ok (.bipush 100, 2) := by decide +kernel
theorem dX3_rankByRule_46 : decode cX3_rankByRule 46 = .ok (.imul, 1) := by decide +kernel
theorem dX3_rankByRule_47 : decode cX3_rankByRule 47 = .ok (.aload_n 0, 1) := by decide +kernel
theorem dX3_rankByRule_48 : decode cX3_rankByRule 48 = .ok (.aload_n 0, 1) := by decide +kernel
theorem dX3_rankByRule_49 : decode cX3_rankByRule 49 = .ok (.getfield 18, 3) := by decide +kernel
theorem dX3_rankByRule_52 : decode cX3_rankByRule 52 = .ok (.iload_n 1, 1) := by decide +kernel
theorem dX3_rankByRule_53 : decode cX3_rankByRule 53 = .ok (.invokestatic 74, 3) := by decide +kernel
theorem dX3_rankByRule_56 : decode cX3_rankByRule 56 = .ok (.invokevirtual 106, 3) := by decide +kernel
theorem dX3_rankByRule_59 : decode cX3_rankByRule 59 = .ok (.iadd, 1) := by decide +kernel
theorem dX3_rankByRule_60 : decode cX3_rankByRule 60 = .ok (.ireturn, 1) := by decide +kernel
theorem dX3_rankByRule_61 : decode cX3_rankByRule 61 = .ok (.aload_n 0, 1) := by decide +kernel
theorem dX3_rankByRule_62 : decode cX3_rankByRule 62 = .ok (.getfield 24, 3) := by decide +kernel
theorem dX3_rankByRule_65 : decode cX3_rankByRule 65 = .ok (.iload_n 1, 1) := by decide +kernel
theorem dX3_rankByRule_66 : decode cX3_rankByRule 66 = .ok (.invokestatic 74, 3) := by decide +kernel
theorem dX3_rankByRule_69 : decode cX3_rankByRule 69 = .ok (.ireturn, 1) := by decide +kernel
theorem dX3_rankByRule_70 : decode cX3_rankByRule 70 = .ok (.aload_n 0, 1) := by decide +kernel
theorem dX3_rankByRule_71 : decode cX3_rankByRule 71 = .ok (.getfield 33, 3) := by decide +kernel
theorem dX3_rankByRule_74 : decode cX3_rankByRule 74 = .ok (.getfield 82, 3) := by decide +kernel
theorem dX3_rankByRule_77 : decode cX3_rankByRule 77 = .ok (.iload_n 1, 1) := by decide +kernel
theorem dX3_rankByRule_78 : decode cX3_rankByRule 78 = .ok (.invokestatic 74, 3) := by decide +kernel
theorem dX3_rankByRule_81 : decode cX3_rankByRule 81 = .ok (.ireturn, 1) := by decide +kernel
theorem dX3_rankByRule_82 : decode cX3_rankByRule 82 = .ok (.iconst 0, 1) := by decide +kernel
theorem dX3_rankByRule_83 : decode cX3_rankByRule 83 = .ok (.ireturn, 1) := by decide +kernel
theorem dX3_rankInRow_0 : decode cX3_rankInRow 0 = .ok (.iconst 2, 1) := by decide +kernel
theorem dX3_rankInRow_1 : decode cX3_rankInRow 1 = .ok (.iload_n 1, 1) := by decide +kernel
theorem dX3_rankInRow_2 : decode cX3_rankInRow 2 = .ok (.imul, 1) := by decide +kernel
theorem dX3_rankInRow_3 : decode cX3_rankInRow 3 = .ok (.iconst 5, 1) := by decide +kernel
theorem dX3_rankInRow_4 : decode cX3_rankInRow 4 = .ok (.isub, 1) := by decide +kernel
theorem dX3_rankInRow_5 : decode cX3_rankInRow 5 = .ok (.invokestatic 109, 3) := by decide +kernel
theorem dX3_rankInRow_8 : decode cX3_rankInRow 8 = .ok (.bipush 10, 2) := by decide +kernel
theorem dX3_rankInRow_10 : decode cX3_rankInRow 10 = .ok (.imul, 1) := by decide +kernel
theorem dX3_rankInRow_11 : decode cX3_rankInRow 11 = .ok (.iload_n 1, 1) := by decide +kernel
theorem dX3_rankInRow_12 : decode cX3_rankInRow 12 = .ok (.iadd, 1) := by decide +kernel
theorem dX3_rankInRow_13 : decode cX3_rankInRow 13 = .ok (.ireturn, 1) := by decide +kernel
theorem dX3_choose_0 : decode cX3_choose 0 = .ok (.iload_n 3, 1) := by decide +kernel
theorem dX3_choose_1 : decode cX3_choose 1 = .ok (.iconst 3, 1) := by decide +kernel
theorem dX3_choose_2 : decode cX3_choose 2 = .ok (.if_icmp .ne 10, 3) := by decide +kernel
theorem dX3_choose_5 : decode cX3_choose 5 = .ok (.aload_n 0, 1) := by decide +kernel
theorem dX3_choose_6 : decode cX3_choose 6 = .ok (.invokevirtual 70, 3) := by decide +kernel
theorem dX3_choose_9 : decode cX3_choose 9 = .ok (.goto 9, 3) := by decide +kernel
theorem dX3_choose_12 : decode cX3_choose 12 = .ok (.aload_n 0, 1) := by decide +kernel
theorem dX3_choose_13 : decode cX3_choose 13 = .ok (.iload_n 1, 1) := by decide +kernel
theorem dX3_choose_14 : decode cX3_choose 14 = .ok (.iload_n 2, 1) := by decide +kernel
theorem dX3_choose_15 : decode cX3_choose 15 = .ok (.invokevirtual 114, 3) := by decide +kernel
theorem dX3_choose_18 : decode cX3_choose 18 = .ok (.istore 4, 2) := by decide +kernel
theorem dX3_choose_20 : decode cX3_choose 20 = .ok (.iload_n 3, 1) := by decide +kernel
theorem dX3_choose_21 : decode cX3_choose 21 = .ok (.iconst 2, 1) := by decide +kernel
theorem dX3_choose_22 : decode cX3_choose 22 = .ok (.if_icmp .eq 8, 3) := by decide +kernel
theorem dX3_choose_25 : decode cX3_choose 25 = .ok (.iload_n 3, 1) := by decide +kernel
theorem dX3_choose_26 : decode cX3_choose 26 = .ok (.iconst 3, 1) := by decide +kernel
theorem dX3_choose_27 : decode cX3_choose 27 = .ok (.if_icmp .ne 22, 3) := by decide +kernel
theorem dX3_choose_30 : decode cX3_choose 30 = .ok (.aload_n 0, 1) := by decide +kernel
theorem dX3_choose_31 : decode cX3_choose 31 = .ok (.iload 4, 2) := by decide +kernel
theorem dX3_choose_33 : decode cX3_choose 33 = .ok (.aload_n 0, 1) := by decide +kernel
theorem dX3_choose_34 : decode cX3_choose 34 = .ok (.getfield 33, 3) := by decide +kernel
theorem dX3_choose_37 : decode cX3_choose 37 = .ok (.iload 4, 2) := by decide +kernel
theorem dX3_choose_39 : decode cX3_choose 39 = .ok (.invokestatic 117, 3) := by decide +kernel
theorem dX3_choose_42 : decode cX3_choose 42 = .ok (.invokevirtual 122, 3) := by decide +kernel
theorem dX3_choose_45 : decode cX3_choose 45 = .ok (.invokevirtual 125, 3) := by decide +kernel
theorem dX3_choose_48 : decode cX3_choose 48 = .ok (.ireturn, 1) := by decide +kernel
theorem dX3_choose_49 : decode cX3_choose 49 = .ok (.aload_n 0, 1) := by decide +kernel
theorem dX3_choose_50 : decode cX3_choose 50 = .ok (.iload 4, 2) := by decide +kernel
theorem dX3_choose_52 : decode cX3_choose 52 = .ok (.iload_n 3, 1) := by decide +kernel
theorem dX3_choose_53 : decode cX3_choose 53 = .ok (.invokevirtual 128, 3) := by decide +kernel
theorem dX3_choose_56 : decode cX3_choose 56 = .ok (.ireturn, 1) := by decide +kernel
theorem dX3_member_0 : decode cX3_member 0 = .ok (.iconst 0, 1) := by decide +kernel
theorem dX3_member_1 : decode cX3_member 1 = .ok (.istore_n 3, 1) := by decide +kernel
theorem dX3_member_2 : decode cX3_member 2 = .ok (.iconst 0, 1) := by decide +kernel
theorem dX3_member_3 : decode cX3_member 3 = .ok (.istore 4, 2) := by decide +kernel
theorem dX3_member_5 : decode cX3_member 5 = .ok (.iload 4, 2) := by decide +kernel
theorem dX3_member_7 : decode cX3_member 7 = .ok (.aload_n 0, 1) := by decide +kernel
theorem dX3_member_8 : decode cX3_member 8 = .ok (.getfield 46, 3) := by decide +kernel
theorem dX3_member_11 : decode cX3_member 11 = .ok (.if_icmp .ge 29, 3) := by decide +kernel
theorem dX3_member_14 : decode cX3_member 14 = .ok (.iload_n 1, 1) := by decide +kernel
theorem dX3_member_15 : decode cX3_member 15 = .ok (.iload 4, 2) := by decide +kernel
theorem dX3_member_17 : decode cX3_member 17 = .ok (.invokestatic 99, 3) := by decide +kernel
theorem dX3_member_20 : decode cX3_member 20 = .ok (.ifCond .eq 14, 3) := by decide +kernel
theorem dX3_member_23 : decode cX3_member 23 = .ok (.iload_n 3, 1) := by decide +kernel
theorem dX3_member_24 : decode cX3_member 24 = .ok (.iload_n 2, 1) := by decide +kernel
theorem dX3_member_25 : decode cX3_member 25 = .ok (.if_icmp .ne 6, 3) := by decide +kernel
theorem dX3_member_28 : decode cX3_member 28 = .ok (.iload 4, 2) := by decide +kernel
theorem dX3_member_30 : decode cX3_member 30 = .ok (.ireturn, 1) := by decide +kernel
theorem dX3_member_31 : decode cX3_member 31 = .ok (.iinc 3 1, 3) := by decide +kernel
theorem dX3_member_34 : decode cX3_member 34 = .ok (.iinc 4 1, 3) := by decide +kernel
theorem dX3_member_37 : decode cX3_member 37 = .ok (.goto (-32), 3) := by decide +kernel
theorem dX3_member_40 : decode cX3_member 40 = .ok (.bipush (-9), 2) := by decide +kernel
theorem dX3_member_42 : decode cX3_member 42 = .ok (.ireturn, 1) := by decide +kernel
theorem dX3_foremost_0 : decode cX3_foremost 0 = .ok (.bipush (-9), 2) := by decide +kernel
theorem dX3_foremost_2 : decode cX3_foremost 2 = .ok (.istore_n 3, 1) := by decide +kernel
theorem dX3_foremost_3 : decode cX3_foremost 3 = .ok (.iconst 0, 1) := by decide +kernel
theorem dX3_foremost_4 : decode cX3_foremost 4 = .ok (.istore 4, 2) := by decide +kernel
theorem dX3_foremost_6 : decode cX3_foremost 6 = .ok (.iload 4, 2) := by decide +kernel
theorem dX3_foremost_8 : decode cX3_foremost 8 = .ok (.aload_n 0, 1) := by decide +kernel
theorem dX3_foremost_9 : decode cX3_foremost 9 = .ok (.getfield 46, 3) := by decide +kernel
theorem dX3_foremost_12 : decode cX3_foremost 12 = .ok (.if_icmp .ge 43, 3) := by decide +kernel
theorem dX3_foremost_15 : decode cX3_foremost 15 = .ok (.iload_n 1, 1) := by decide +kernel
theorem dX3_foremost_16 : decode cX3_foremost 16 = .ok (.iload 4, 2) := by decide +kernel
theorem dX3_foremost_18 : decode cX3_foremost 18 = .ok (.invokestatic 99, 3) := by decide +kernel
theorem dX3_foremost_21 : decode cX3_foremost 21 = .ok (.ifCond .eq 28, 3) := by decide +kernel
theorem dX3_foremost_24 : decode cX3_foremost 24 = .ok (.iload_n 3, 1) := by decide +kernel
theorem dX3_foremost_25 : decode cX3_foremost 25 = .ok (.bipush (-9), 2) := by decide +kernel
theorem dX3_foremost_27 : decode cX3_foremost 27 = .ok (.if_icmp .eq 19, 3) := by decide +kernel
theorem dX3_foremost_30 : decode cX3_foremost 30 = .ok (.aload_n 0, 1) := by decide +kernel
theorem dX3_foremost_31 : decode cX3_foremost 31 = .ok (.iload 4, 2) := by decide +kernel
theorem dX3_foremost_33 : decode cX3_foremost 33 = .ok (.iload_n 2, 1) := by decide +kernel
theorem dX3_foremost_34 : decode cX3_foremost 34 = .ok (.invokevirtual 131, 3) := by decide +kernel
theorem dX3_foremost_37 : decode cX3_foremost 37 = .ok (.aload_n 0, 1) := by decide +kernel
theorem dX3_foremost_38 : decode cX3_foremost 38 = .ok (.iload_n 3, 1) := by decide +kernel
theorem dX3_foremost_39 : decode cX3_foremost 39 = .ok (.iload_n 2, 1) := by decide +kernel
theorem dX3_foremost_40 : decode cX3_foremost 40 = .ok (.invokevirtual 131, 3) := by decide +kernel
theorem dX3_foremost_43 : decode cX3_foremost 43 = .ok (.if_icmp .ge 6, 3) := by decide +kernel
theorem dX3_foremost_46 : decode cX3_foremost 46 = .ok (.iload 4, 2) := by decide +kernel
theorem dX3_foremost_48 : decode cX3_foremost 48 = .ok (.istore_n 3, 1) := by decide +kernel
theorem dX3_foremost_49 : decode cX3_foremost 49 = .ok (.iinc 4 1, 3) := by decide +kernel
theorem dX3_foremost_52 : decode cX3_foremost 52 = .ok (.goto (-46), 3) := by decide +kernel
theorem dX3_foremost_55 : decode cX3_foremost 55 = .ok (.iload_n 3, 1) := by decide +kernel
theorem dX3_foremost_56 : decode cX3_foremost 56 = .ok (.ireturn, 1) := by decide +kernel
theorem dX3_neverTaken_0 : decode cX3_neverTaken 0 = .ok (.iconst 0, 1) := by decide +kernel
theorem dX3_neverTaken_1 : decode cX3_neverTaken 1 = .ok (.istore_n 1, 1) := by decide +kernel
theorem dX3_neverTaken_2 : decode cX3_neverTaken 2 = .ok (.iconst 0, 1) := by decide +kernel
theorem dX3_neverTaken_3 : decode cX3_neverTaken 3 = .ok (.istore_n 2, 1) := by decide +kernel
theorem dX3_neverTaken_4 : decode cX3_neverTaken 4 = .ok (.iload_n 2, 1) := by decide +kernel
theorem dX3_neverTaken_5 : decode cX3_neverTaken 5 = .ok (.aload_n 0, 1) := by decide +kernel
theorem dX3_neverTaken_6 : decode cX3_neverTaken 6 = .ok (.getfield 46, 3) := by decide +kernel
theorem dX3_neverTaken_9 : decode cX3_neverTaken 9 = .ok (.if_icmp .ge 26, 3) := by decide +kernel
theorem dX3_neverTaken_12 : decode cX3_neverTaken 12 = .ok (.aload_n 0, 1) := by decide +kernel
theorem dX3_neverTaken_13 : decode cX3_neverTaken 13 = .ok (.getfield 33, 3) := by decide +kernel
theorem dX3_neverTaken_16 : decode cX3_neverTaken 16 = .ok (.getfield 82, 3) := by decide +kernel
theorem dX3_neverTaken_19 : decode cX3_neverTaken 19 = .ok (.iload_n 2, 1) := by decide +kernel
theorem dX3_neverTaken_20 : decode cX3_neverTaken 20 = .ok (.invokestatic 74, 3) := by decide +kernel
theorem dX3_neverTaken_23 : decode cX3_neverTaken 23 = .ok (.ifCond .ne 6, 3) := by decide +kernel
theorem dX3_neverTaken_26 : decode cX3_neverTaken 26 = .ok (.iinc 1 1, 3) := by decide +kernel
theorem dX3_neverTaken_29 : decode cX3_neverTaken 29 = .ok (.iinc 2 1, 3) := by decide +kernel
theorem dX3_neverTaken_32 : decode cX3_neverTaken 32 = .ok (.goto (-28), 3) := by decide +kernel
theorem dX3_neverTaken_35 : decode cX3_neverTaken 35 = .ok (.iload_n 1, 1) := by decide +kernel
theorem dX3_neverTaken_36 : decode cX3_neverTaken 36 = .ok (.ireturn, 1) := by decide +kernel
theorem dX3_mostTimes_0 : decode cX3_mostTimes 0 = .ok (.iconst 0, 1) := by decide +kernel
theorem dX3_mostTimes_1 : decode cX3_mostTimes 1 = .ok (.istore_n 1, 1) := by decide +kernel
theorem dX3_mostTimes_2 : decode cX3_mostTimes 2 = .ok (.iconst 0, 1) := by decide +kernel
theorem dX3_mostTimes_3 : decode cX3_mostTimes 3 = .ok (.istore_n 2, 1) := by decide +kernel
theorem dX3_mostTimes_4 : decode cX3_mostTimes 4 = .ok (.iload_n 2, 1) := by decide +kernel
theorem dX3_mostTimes_5 : decode cX3_mostTimes 5 = .ok (.aload_n 0, 1) := by decide +kernel
theorem dX3_mostTimes_6 : decode cX3_mostTimes 6 = .ok (.getfield 46, 3) := by decide +kernel
theorem dX3_mostTimes_9 : decode cX3_mostTimes 9 = .ok (.if_icmp .ge 25, 3) := by decide +kernel
theorem dX3_mostTimes_12 : decode cX3_mostTimes 12 = .ok (.iload_n 1, 1) := by decide +kernel
theorem dX3_mostTimes_13 : decode cX3_mostTimes 13 = .ok (.aload_n 0, 1) := by decide +kernel
theorem dX3_mostTimes_14 : decode cX3_mostTimes 14 = .ok (.getfield 33, 3) := by decide +kernel
theorem dX3_mostTimes_17 : decode cX3_mostTimes 17 = .ok (.getfield 82, 3) := by decide +kernel
theorem dX3_mostTimes_20 : decode cX3_mostTimes 20 = .ok (.iload_n 2, 1) := by decide +kernel
theorem dX3_mostTimes_21 : decode cX3_mostTimes 21 = .ok (.invokestatic 74, 3) := by decide +kernel
theorem dX3_mostTimes_24 : decode cX3_mostTimes 24 = .ok (.invokestatic 134, 3) := by decide +kernel
theorem dX3_mostTimes_27 : decode cX3_mostTimes 27 = .ok (.istore_n 1, 1) := by decide +kernel
theorem dX3_mostTimes_28 : decode cX3_mostTimes 28 = .ok (.iinc 2 1, 3) := by decide +kernel
theorem dX3_mostTimes_31 : decode cX3_mostTimes 31 = .ok (.goto (-27), 3) := by decide +kernel
theorem dX3_mostTimes_34 : decode cX3_mostTimes 34 = .ok (.iload_n 1, 1) := by decide +kernel
theorem dX3_mostTimes_35 : decode cX3_mostTimes 35 = .ok (.ireturn, 1) := by decide +kernel
theorem dX4_init_0 : decode cX4_init 0 = .ok (.aload_n 0, 1) := by decide +kernel
theorem dX4_init_1 : decode cX4_init 1 = .ok (.invokespecial 3, 3) := by decide +kernel
theorem dX4_init_4 : decode cX4_init 4 = .ok (.aload_n 0, 1) := by decide +kernel
theorem dX4_init_5 : decode cX4_init 5 = .ok (.sipush 169, 3) := by decide +kernel
theorem dX4_init_8 : decode cX4_init 8 = .ok (.newarray .long, 2) := by decide +kernel
theorem dX4_init_10 : decode cX4_init 10 = .ok (.putfield 11, 3) := by decide +kernel
theorem dX4_init_13 : decode cX4_init 13 = .ok (.return_, 1) := by decide +kernel
theorem dX4_begin_0 : decode cX4_begin 0 = .ok (.aload_n 0, 1) := by decide +kernel
theorem dX4_begin_1 : decode cX4_begin 1 = .ok (.getfield 11, 3) := by decide +kernel
theorem dX4_begin_4 : decode cX4_begin 4 = .ok (.lconst 0, 1) := by decide +kernel
theorem dX4_begin_5 : decode cX4_begin 5 = .ok (.invokestatic 15, 3) := by decide +kernel
theorem dX4_begin_8 : decode cX4_begin 8 = .ok (.aload_n 0, 1) := by decide +kernel
theorem dX4_begin_9 : decode cX4_begin 9 = .ok (.iconst 0, 1) := by decide +kernel
theorem dX4_begin_10 : decode cX4_begin 10 = .ok (.iconst 0, 1) := by decide +kernel
theorem dX4_begin_11 : decode cX4_begin 11 = .ok (.lconst 1, 1) := by decide +kernel
theorem dX4_begin_12 : decode cX4_begin 12 = .ok (.invokevirtual 21, 3) := by decide +kernel
theorem dX4_begin_15 : decode cX4_begin 15 = .ok (.return_, 1) := by decide +kernel
theorem dX4_get_0 : decode cX4_get 0 = .ok (.iload_n 1, 1) := by decide +kernel
theorem dX4_get_1 : decode cX4_get 1 = .ok (.ifCond .lt 19, 3) := by decide +kernel
theorem dX4_get_4 : decode cX4_get 4 = .ok (.iload_n 2, 1) := by decide +kernel
theorem dX4_get_5 : decode cX4_get 5 = .ok (.ifCond .lt 15, 3) := by decide +kernel
theorem dX4_get_8 : decode cX4_get 8 = .ok (.iload_n 1, 1) := by decide +kernel
theorem dX4_get_9 : decode cX4_get 9 = .ok (.bipush 13, 2) := by decide +kernel
theorem dX4_get_11 : decode cX4_get 11 = .ok (.if_icmp .ge 9, 3) := by decide +kernel
theorem dX4_get_14 : decode cX4_get 14 = .ok (.iload_n 2, 1) := by decide +kernel
theorem dX4_get_15 : decode cX4_get 15 = .ok (.bipush 13, 2) := by decide +kernel
theorem dX4_get_17 : decode cX4_get 17 = .ok (.if_icmp .lt 7, 3) := by decide +kernel
theorem dX4_get_20 : decode cX4_get 20 = .ok (.lconst 0, 1) := by decide +kernel
theorem dX4_get_21 : decode cX4_get 21 = .ok (.goto 14, 3) := by decide +kernel
theorem dX4_get_24 : decode cX4_get 24 = .ok (.aload_n 0, 1) := by decide +kernel
theorem dX4_get_25 : decode cX4_get 25 = .ok (.getfield 11, 3) := by decide +kernel
theorem dX4_get_28 : decode cX4_get 28 = .ok (.iload_n 1, 1) := by decide +kernel
theorem dX4_get_29 : decode cX4_get 29 = .ok (.bipush 13, 2) := by decide +kernel
theorem dX4_get_31 : decode cX4_get 31 = .ok (.imul, 1) := by decide +kernel
theorem dX4_get_32 : decode cX4_get 32 = .ok (.iload_n 2, 1) := by decide +kernel
theorem dX4_get_33 : decode cX4_get 33 = .ok (.iadd, 1) := by decide +kernel
theorem dX4_get_34 : decode cX4_get 34 = .ok (.laload, 1) := by decide +kernel
theorem dX4_get_35 : decode cX4_get 35 = .ok (.lreturn, 1) := by decide +kernel
theorem dX4_set_0 : decode cX4_set 0 = .ok (.iload_n 1, 1) := by decide +kernel
theorem dX4_set_1 : decode cX4_set 1 = .ok (.ifCond .lt 31, 3) := by decide +kernel
theorem dX4_set_4 : decode cX4_set 4 = .ok (.iload_n 2, 1) := by decide +kernel
theorem dX4_set_5 : decode cX4_set 5 = .ok (.ifCond .lt 27, 3) := by decide +kernel
theorem dX4_set_8 : decode cX4_set 8 = .ok (.iload_n 1, 1) := by decide +kernel
theorem dX4_set_9 : decode cX4_set 9 = .ok (.bipush 13, 2) := by decide +kernel
theorem dX4_set_11 : decode cX4_set 11 = .ok (.if_icmp .ge 21, 3) := by decide +kernel
theorem dX4_set_14 : decode cX4_set 14 = .ok (.iload_n 2, 1) := by decide +kernel
theorem dX4_set_15 : decode cX4_set 15 = .ok (.bipush 13, 2) := by decide +kernel
theorem dX4_set_17 : decode cX4_set 17 = .ok (.if_icmp .ge 15, 3) := by decide +kernel
theorem dX4_set_20 : decode cX4_set 20 = .ok (.aload_n 0, 1) := by decide +kernel
theorem dX4_set_21 : decode cX4_set 21 = .ok (.getfield 11, 3) := by decide +kernel
theorem dX4_set_24 : decode cX4_set 24 = .ok (.iload_n 1, 1) := by decide +kernel
theorem dX4_set_25 : decode cX4_set 25 = .ok (.bipush 13, 2) := by decide +kernel
theorem dX4_set_27 : decode cX4_set 27 = .ok (.imul, 1) := by decide +kernel
theorem dX4_set_28 : decode cX4_set 28 = .ok (.iload_n 2, 1) := by decide +kernel
theorem dX4_set_29 : decode cX4_set 29 = .ok (.iadd, 1) := by decide +kernel
theorem dX4_set_30 : decode cX4_set 30 = .ok (.lload_n 3, 1) := by decide +kernel
theorem dX4_set_31 : decode cX4_set 31 = .ok (.lastore, 1) := by decide +kernel
theorem dX4_set_32 : decode cX4_set 32 = .ok (.return_, 1) := by decide +kernel
theorem dX4_join_0 : decode cX4_join 0 = .ok (.bipush 12, 2) := by decide +kernel
theorem dX4_join_2 : decode cX4_join 2 = .ok (.istore 9, 2) := by decide +kernel
theorem dX4_join_4 : decode cX4_join 4 = .ok (.iload 9, 2) := by decide +kernel
theorem dX4_join_6 : decode cX4_join 6 = .ok (.ifCond .lt 85, 3) := by decide +kernel
theorem dX4_join_9 : decode cX4_join 9 = .ok (.bipush 12, 2) := by decide +kernel
theorem dX4_join_11 : decode cX4_join 11 = .ok (.istore 10, 2) := by decide +kernel
theorem dX4_join_13 : decode cX4_join 13 = .ok (.iload 10, 2) := by decide +kernel
theorem dX4_join_15 : decode cX4_join 15 = .ok (.ifCond .lt 70, 3) := by decide +kernel
theorem dX4_join_18 : decode cX4_join 18 = .ok (.aload_n 0, 1) := by decide +kernel
theorem dX4_join_19 : decode cX4_join 19 = .ok (.iload 9, 2) := by decide +kernel
theorem dX4_join_21 : decode cX4_join 21 = .ok (.iload 10, 2) := by decide +kernel
theorem dX4_join_23 : decode cX4_join 23 = .ok (.aload_n 0, 1) := by decide +kernel
theorem dX4_join_24 : decode cX4_join 24 = .ok (.iload 9, 2) := by decide +kernel
theorem dX4_join_26 : decode cX4_join 26 = .ok (.iload 10, 2) := by decide +kernel
theorem dX4_join_28 : decode cX4_join 28 = .ok (.invokevirtual 25, 3) := by decide +kernel
theorem dX4_join_31 : decode cX4_join 31 = .ok (.lload 7, 2) := by decide +kernel
theorem dX4_join_33 : decode cX4_join 33 = .ok (.lmul, 1) := by decide +kernel
theorem dX4_join_34 : decode cX4_join 34 = .ok (.aload_n 0, 1) := by decide +kernel
theorem dX4_join_35 : decode cX4_join 35 = .ok (.iload 9, 2) := by decide +kernel
theorem dX4_join_37 : decode cX4_join 37 = .ok (.iconst 1, 1) := by decide +kernel
theorem dX4_join_38 : decode cX4_join 38 = .ok (.isub, 1) := by decide +kernel
theorem dX4_join_39 : decode cX4_join 39 = .ok (.iload 10, 2) := by decide +kernel
theorem dX4_join_41 : decode cX4_join 41 = .ok (.invokevirtual 25, 3) := by decide +kernel
theorem dX4_join_44 : decode cX4_join 44 = .ok (.lload_n 3, 1) := by decide +kernel
theorem dX4_join_45 : decode cX4_join 45 = .ok (.lmul, 1) := by decide +kernel
theorem dX4_join_46 : decode cX4_join 46 = .ok (.ladd, 1) := by decide +kernel
theorem dX4_join_47 : decode cX4_join 47 = .ok (.aload_n 0, 1) := by decide +kernel
theorem dX4_join_48 : decode cX4_join 48 = .ok (.iload 9, 2) := by decide +kernel
theorem dX4_join_50 : decode cX4_join 50 = .ok (.iload 10, 2) := by decide +kernel
theorem dX4_join_52 : decode cX4_join 52 = .ok (.iconst 1, 1) := by decide +kernel
theorem dX4_join_53 : decode cX4_join 53 = .ok (.isub, 1) := by decide +kernel
theorem dX4_join_54 : decode cX4_join 54 = .ok (.invokevirtual 25, 3) := by decide +kernel
theorem dX4_join_57 : decode cX4_join 57 = .ok (.lload 5, 2) := by decide +kernel
theorem dX4_join_59 : decode cX4_join 59 = .ok (.lmul, 1) := by decide +kernel
theorem dX4_join_60 : decode cX4_join 60 = .ok (.ladd, 1) := by decide +kernel
theorem dX4_join_61 : decode cX4_join 61 = .ok (.aload_n 0, 1) := by decide +kernel
theorem dX4_join_62 : decode cX4_join 62 = .ok (.iload 9, 2) := by decide +kernel
theorem dX4_join_64 : decode cX4_join 64 = .ok (.iconst 1, 1) := by decide +kernel
theorem dX4_join_65 : decode cX4_join 65 = .ok (.isub, 1) := by decide +kernel
theorem dX4_join_66 : decode cX4_join 66 = .ok (.iload 10, 2) := by decide +kernel
theorem dX4_join_68 : decode cX4_join 68 = .ok (.iconst 1, 1) := by decide +kernel
theorem dX4_join_69 : decode cX4_join 69 = .ok (.isub, 1) := by decide +kernel
theorem dX4_join_70 : decode cX4_join 70 = .ok (.invokevirtual 25, 3) := by decide +kernel
theorem dX4_join_73 : decode cX4_join 73 = .ok (.lload_n 1, 1) := by decide +kernel
theorem dX4_join_74 : decode cX4_join 74 = .ok (.lmul, 1) := by decide +kernel
theorem dX4_join_75 : decode cX4_join 75 = .ok (.ladd, 1) := by decide +kernel
theorem dX4_join_76 : decode cX4_join 76 = .ok (.invokevirtual 21, 3) := by decide +kernel
theorem dX4_join_79 : decode cX4_join 79 = .ok (.iinc 10 (-1), 3) := by decide +kernel
theorem dX4_join_82 : decode cX4_join 82 = .ok (.goto (-69), 3) := by decide +kernel
theorem dX4_join_85 : decode cX4_join 85 = .ok (.iinc 9 (-1), 3) := by decide +kernel
theorem dX4_join_88 : decode cX4_join 88 = .ok (.goto (-84), 3) := by decide +kernel
theorem dX4_join_91 : decode cX4_join 91 = .ok (.return_, 1) := by decide +kernel
theorem dX4_allOf_0 : decode cX4_allOf 0 = .ok (.lconst 0, 1) := by decide +kernel
theorem dX4_allOf_1 : decode cX4_allOf 1 = .ok (.lstore_n 2, 1) := by decide +kernel
theorem dX4_allOf_2 : decode cX4_allOf 2 = .ok (.iconst 0, 1) := by decide +kernel
theorem dX4_allOf_3 : decode cX4_allOf 3 = .ok (.istore 4, 2) := by decide +kernel
theorem dX4_allOf_5 : decode cX4_allOf 5 = .ok (.iload 4, 2) := by decide +kernel
theorem dX4_allOf_7 : decode cX4_allOf 7 = .ok (.bipush 13, 2) := by decide +kernel
theorem dX4_allOf_9 : decode cX4_allOf 9 = .ok (.if_icmp .ge 19, 3) := by decide +kernel
theorem dX4_allOf_12 : decode cX4_allOf 12 = .ok (.lload_n 2, 1) := by decide +kernel
theorem dX4_allOf_13 : decode cX4_allOf 13 = .ok (.aload_n 0, 1) := by decide +kernel
theorem dX4_allOf_14 : decode cX4_allOf 14 = .ok (.iload_n 1, 1) := by decide +kernel
theorem dX4_allOf_15 : decode cX4_allOf 15 = .ok (.iload 4, 2) := by decide +kernel
theorem dX4_allOf_17 : decode cX4_allOf 17 = .ok (.invokevirtual 25, 3) := by decide +kernel
theorem dX4_allOf_20 : decode cX4_allOf 20 = .ok (.ladd, 1) := by decide +kernel
theorem dX4_allOf_21 : decode cX4_allOf 21 = .ok (.lstore_n 2, 1) := by decide +kernel
theorem dX4_allOf_22 : decode cX4_allOf 22 = .ok (.iinc 4 1, 3) := by decide +kernel
theorem dX4_allOf_25 : decode cX4_allOf 25 = .ok (.goto (-20), 3) := by decide +kernel
theorem dX4_allOf_28 : decode cX4_allOf 28 = .ok (.lload_n 2, 1) := by decide +kernel
theorem dX4_allOf_29 : decode cX4_allOf 29 = .ok (.lreturn, 1) := by decide +kernel
theorem dX5_init_0 : decode cX5_init 0 = .ok (.aload_n 0, 1) := by decide +kernel
theorem dX5_init_1 : decode cX5_init 1 = .ok (.invokespecial 3, 3) := by decide +kernel
theorem dX5_init_4 : decode cX5_init 4 = .ok (.aload_n 0, 1) := by decide +kernel
theorem dX5_init_5 : decode cX5_init 5 = .ok (.bipush 12, 2) := by decide +kernel
theorem dX5_init_7 : decode cX5_init 7 = .ok (.newarray .int, 2) := by decide +kernel
theorem dX5_init_9 : decode cX5_init 9 = .ok (.putfield 9, 3) := by decide +kernel
theorem dX5_init_12 : decode cX5_init 12 = .ok (.aload_n 0, 1) := by decide +kernel
theorem dX5_init_13 : decode cX5_init 13 = .ok (.bipush 12, 2) := by decide +kernel
theorem dX5_init_15 : decode cX5_init 15 = .ok (.newarray .int, 2) := by decide +kernel
theorem dX5_init_17 : decode cX5_init 17 = .ok (.putfield 15, 3) := by decide +kernel
theorem dX5_init_20 : decode cX5_init 20 = .ok (.aload_n 0, 1) := by decide +kernel
theorem dX5_init_21 : decode cX5_init 21 = .ok (.new 18, 3) := by decide +kernel
theorem dX5_init_24 : decode cX5_init 24 = .ok (.dup, 1) := by decide +kernel
theorem dX5_init_25 : decode cX5_init 25 = .ok (.invokespecial 20, 3) := by decide +kernel
theorem dX5_init_28 : decode cX5_init 28 = .ok (.putfield 21, 3) := by decide +kernel
theorem dX5_init_31 : decode cX5_init 31 = .ok (.return_, 1) := by decide +kernel
theorem dX5_add_0 : decode cX5_add 0 = .ok (.aload_n 0, 1) := by decide +kernel
theorem dX5_add_1 : decode cX5_add 1 = .ok (.getfield 25, 3) := by decide +kernel
theorem dX5_add_4 : decode cX5_add 4 = .ok (.bipush 12, 2) := by decide +kernel
theorem dX5_add_6 : decode cX5_add 6 = .ok (.if_icmp .lt 6, 3) := by decide +kernel
theorem dX5_add_9 : decode cX5_add 9 = .ok (.bipush (-4), 2) := by decide +kernel
theorem dX5_add_11 : decode cX5_add 11 = .ok (.ireturn, 1) := by decide +kernel
theorem dX5_add_12 : decode cX5_add 12 = .ok (.aload_n 0, 1) := by decide +kernel
theorem dX5_add_13 : decode cX5_add 13 = .ok (.getfield 9, 3) := by decide +kernel
theorem dX5_add_16 : decode cX5_add 16 = .ok (.aload_n 0, 1) := by decide +kernel
theorem dX5_add_17 : decode cX5_add 17 = .ok (.getfield 25, 3) := by decide +kernel
theorem dX5_add_20 : decode cX5_add 20 = .ok (.iload_n 1, 1) := by decide +kernel
theorem dX5_add_21 : decode cX5_add 21 = .ok (.invokestatic 29, 3) := by decide +kernel
theorem dX5_add_24 : decode cX5_add 24 = .ok (.aload_n 0, 1) := by decide +kernel
theorem dX5_add_25 : decode cX5_add 25 = .ok (.getfield 15, 3) := by decide +kernel
theorem dX5_add_28 : decode cX5_add 28 = .ok (.aload_n 0, 1) := by decide +kernel
theorem dX5_add_29 : decode cX5_add 29 = .ok (.getfield 25, 3) := by decide +kernel
theorem dX5_add_32 : decode cX5_add 32 = .ok (.iload_n 2, 1) := by decide +kernel
theorem dX5_add_33 : decode cX5_add 33 = .ok (.invokestatic 29, 3) := by decide +kernel
theorem dX5_add_36 : decode cX5_add 36 = .ok (.aload_n 0, 1) := by decide +kernel
theorem dX5_add_37 : decode cX5_add 37 = .ok (.dup, 1) := by decide +kernel
theorem dX5_add_38 : decode cX5_add 38 = .ok (.getfield 25, 3) := by decide +kernel
theorem dX5_add_41 : decode cX5_add 41 = .ok (.iconst 1, 1) := by decide +kernel
theorem dX5_add_42 : decode cX5_add 42 = .ok (.iadd, 1) := by decide +kernel
theorem dX5_add_43 : decode cX5_add 43 = .ok (.putfield 25, 3) := by decide +kernel
theorem dX5_add_46 : decode cX5_add 46 = .ok (.aload_n 0, 1) := by decide +kernel
theorem dX5_add_47 : decode cX5_add 47 = .ok (.getfield 25, 3) := by decide +kernel
theorem dX5_add_50 : decode cX5_add 50 = .ok (.ireturn, 1) := by decide +kernel
theorem dX5_empty_0 : decode cX5_empty 0 = .ok (.aload_n 0, 1) := by decide +kernel
theorem dX5_empty_1 : decode cX5_empty 1 = .ok (.getfield 25, 3) := by decide +kernel
theorem dX5_empty_4 : decode cX5_empty 4 = .ok (.istore_n 1, 1) := by decide +kernel
theorem dX5_empty_5 : decode cX5_empty 5 = .ok (.aload_n 0, 1) := by decide +kernel
theorem dX5_empty_6 : decode cX5_empty 6 = .ok (.iconst 0, 1) := by decide +kernel
theorem dX5_empty_7 : decode cX5_empty 7 = .ok (.putfield 25, 3) := by decide +kernel
theorem dX5_empty_10 : decode cX5_empty 10 = .ok (.iload_n 1, 1) := by decide +kernel
theorem dX5_empty_11 : decode cX5_empty 11 = .ok (.ireturn, 1) := by decide +kernel
theorem dX5_takenOf_0 : decode cX5_takenOf 0 = .ok (.iconst 0, 1) := by decide +kernel
theorem dX5_takenOf_1 : decode cX5_takenOf 1 = .ok (.istore_n 2, 1) := by decide +kernel
theorem dX5_takenOf_2 : decode cX5_takenOf 2 = .ok (.iconst 0, 1) := by decide +kernel
theorem dX5_takenOf_3 : decode cX5_takenOf 3 = .ok (.istore_n 3, 1) := by decide +kernel
theorem dX5_takenOf_4 : decode cX5_takenOf 4 = .ok (.iload_n 3, 1) := by decide +kernel
theorem dX5_takenOf_5 : decode cX5_takenOf 5 = .ok (.aload_n 0, 1) := by decide +kernel
theorem dX5_takenOf_6 : decode cX5_takenOf 6 = .ok (.getfield 25, 3) := by decide +kernel
theorem dX5_takenOf_9 : decode cX5_takenOf 9 = .ok (.if_icmp .ge 27, 3) := by decide +kernel
theorem dX5_takenOf_12 : decode cX5_takenOf 12 = .ok (.iload_n 1, 1) := by decide +kernel
theorem dX5_takenOf_13 : decode cX5_takenOf 13 = .ok (.aload_n 0, 1) := by decide +kernel
theorem dX5_takenOf_14 : decode cX5_takenOf 14 = .ok (.getfield 15, 3) := by decide +kernel
theorem dX5_takenOf_17 : decode cX5_takenOf 17 = .ok (.iload_n 3, 1) := by decide +kernel
theorem dX5_takenOf_18 : decode cX5_takenOf 18 = .ok (.invokestatic 33, 3) := by decide +kernel
theorem dX5_takenOf_21 : decode cX5_takenOf 21 = .ok (.invokestatic 37, 3) := by decide +kernel
theorem dX5_takenOf_24 : decode cX5_takenOf 24 = .ok (.ifCond .eq 6, 3) := by decide +kernel
theorem dX5_takenOf_27 : decode cX5_takenOf 27 = .ok (.iinc 2 1, 3) := by decide +kernel
theorem dX5_takenOf_30 : decode cX5_takenOf 30 = .ok (.iinc 3 1, 3) := by decide +kernel
theorem dX5_takenOf_33 : decode cX5_takenOf 33 = .ok (.goto (-29), 3) := by decide +kernel
theorem dX5_takenOf_36 : decode cX5_takenOf 36 = .ok (.iload_n 2, 1) := by decide +kernel
theorem dX5_takenOf_37 : decode cX5_takenOf 37 = .ok (.ireturn, 1) := by decide +kernel
theorem dX5_sharesOf_0 : decode cX5_sharesOf 0 = .ok (.lconst 0, 1) := by decide +kernel
theorem dX5_sharesOf_1 : decode cX5_sharesOf 1 = .ok (.lstore_n 2, 1) := by decide +kernel
theorem dX5_sharesOf_2 : decode cX5_sharesOf 2 = .ok (.iconst 0, 1) := by decide +kernel
theorem dX5_sharesOf_3 : decode cX5_sharesOf 3 = .ok (.istore 4, 2) := by decide +kernel
theorem dX5_sharesOf_5 : decode cX5_sharesOf 5 = .ok (.iload 4, 2) := by decide +kernel
theorem dX5_sharesOf_7 : decode cX5_sharesOf 7 = .ok (.aload_n 0, 1) := by decide +kernel
theorem dX5_sharesOf_8 : decode cX5_sharesOf 8 = .ok (.getfield 25, 3) := by decide +kernel
theorem dX5_sharesOf_11 : decode cX5_sharesOf 11 = .ok (.if_icmp .ge 43, 3) := by decide +kernel
theorem dX5_sharesOf_14 : decode cX5_sharesOf 14 = .ok (.lload_n 2, 1) := by decide +kernel
theorem dX5_sharesOf_15 : decode cX5_sharesOf 15 = .ok (.aload_n 0, 1) := by decide +kernel
theorem dX5_sharesOf_16 : decode cX5_sharesOf 16 = .ok (.getfield 9, 3) := by decide +kernel
theorem dX5_sharesOf_19 : decode cX5_sharesOf 19 = .ok (.iload 4, 2) := by decide +kernel
theorem dX5_sharesOf_21 : decode cX5_sharesOf 21 = .ok (.invokestatic 33, 3) := by decide +kernel
theorem dX5_sharesOf_24 : decode cX5_sharesOf 24 = .ok (.iload_n 1, 1) := by decide +kernel
theorem dX5_sharesOf_25 : decode cX5_sharesOf 25 = .ok (.iand, 1) := by decide +kernel
theorem dX5_sharesOf_26 : decode cX5_sharesOf 26 = .ok (.invokestatic 41, 3) := by decide +kernel
theorem dX5_sharesOf_29 : decode cX5_sharesOf 29 = .ok (.i2l, 1) := by decide +kernel
theorem dX5_sharesOf_30 : decode cX5_sharesOf 30 = .ok (.aload_n 0, 1) := by decide +kernel
theorem dX5_sharesOf_31 : decode cX5_sharesOf 31 = .ok (.getfield 9, 3) := by decide +kernel
theorem dX5_sharesOf_34 : decode cX5_sharesOf 34 = .ok (.iload 4, 2) := by decide +kernel
theorem dX5_sharesOf_36 : decode cX5_sharesOf 36 = .ok (.invokestatic 33, 3) := by decide +kernel
theorem dX5_sharesOf_39 : decode cX5_sharesOf 39 = .ok (.invokestatic 41, 3) := by decide +kernel
theorem dX5_sharesOf_42 : decode cX5_sharesOf 42 = .ok (.invokestatic 47, 3) := by decide +kernel
theorem dX5_sharesOf_45 : decode cX5_sharesOf 45 = .ok (.lmul, 1) := by decide +kernel
theorem dX5_sharesOf_46 : decode cX5_sharesOf 46 = .ok (.ladd, 1) := by decide +kernel
theorem dX5_sharesOf_47 : decode cX5_sharesOf 47 = .ok (.lstore_n 2, 1) := by decide +kernel
theorem dX5_sharesOf_48 : decode cX5_sharesOf 48 = .ok (.iinc 4 1, 3) := by decide +kernel
theorem dX5_sharesOf_51 : decode cX5_sharesOf 51 = .ok (.goto (-46), 3) := by decide +kernel
theorem dX5_sharesOf_54 : decode cX5_sharesOf 54 = .ok (.lload_n 2, 1) := by decide +kernel
theorem dX5_sharesOf_55 : decode cX5_sharesOf 55 = .ok (.lreturn, 1) := by decide +kernel
theorem dX5_ways_0 : decode cX5_ways 0 = .ok (.lconst 1, 1) := by decide +kernel
theorem dX5_ways_1 : decode cX5_ways 1 = .ok (.lstore_n 1, 1) := by decide +kernel
theorem dX5_ways_2 : decode cX5_ways 2 = .ok (.iconst 0, 1) := by decide +kernel
theorem dX5_ways_3 : decode cX5_ways 3 = .ok (.istore_n 3, 1) := by decide +kernel
theorem dX5_ways_4 : decode cX5_ways 4 = .ok (.iload_n 3, 1) := by decide +kernel
theorem dX5_ways_5 : decode cX5_ways 5 = .ok (.aload_n 0, 1) := by decide +kernel
theorem dX5_ways_6 : decode cX5_ways 6 = .ok (.getfield 25, 3) := by decide +kernel
theorem dX5_ways_9 : decode cX5_ways 9 = .ok (.if_icmp .ge 24, 3) := by decide +kernel
theorem dX5_ways_12 : decode cX5_ways 12 = .ok (.lload_n 1, 1) := by decide +kernel
theorem dX5_ways_13 : decode cX5_ways 13 = .ok (.aload_n 0, 1) := by decide +kernel
theorem dX5_ways_14 : decode cX5_ways 14 = .ok (.getfield 9, 3) := by decide +kernel
theorem dX5_ways_17 : decode cX5_ways 17 = .ok (.iload_n 3, 1) := by decide +kernel
theorem dX5_ways_18 : decode cX5_ways 18 = .ok (.invokestatic 33, 3) := by decide +kernel
theorem dX5_ways_21 : decode cX5_ways 21 = .ok (.invokestatic 41, 3) := by decide +kernel
theorem dX5_ways_24 : decode cX5_ways 24 = .ok (.i2l, 1) := by decide +kernel
theorem dX5_ways_25 : decode cX5_ways 25 = .ok (.lmul, 1) := by decide +kernel
theorem dX5_ways_26 : decode cX5_ways 26 = .ok (.lstore_n 1, 1) := by decide +kernel
theorem dX5_ways_27 : decode cX5_ways 27 = .ok (.iinc 3 1, 3) := by decide +kernel
theorem dX5_ways_30 : decode cX5_ways 30 = .ok (.goto (-26), 3) := by decide +kernel
theorem dX5_ways_33 : decode cX5_ways 33 = .ok (.lload_n 1, 1) := by decide +kernel
theorem dX5_ways_34 : decode cX5_ways 34 = .ok (.lreturn, 1) := by decide +kernel
theorem dX5_waysToAsMany_0 : decode cX5_waysToAsMany 0 = .ok (.aload_n 0, 1) := by decide +kernel
theorem dX5_waysToAsMany_1 : decode cX5_waysToAsMany 1 = .ok (.getfield 21, 3) := by decide +kernel
theorem dX5_waysToAsMany_4 : decode cX5_waysToAsMany 4 = .ok (.invokevirtual 51, 3) := by decide +kernel
theorem dX5_waysToAsMany_7 : decode cX5_waysToAsMany 7 = .ok (.iconst 0, 1) := by decide +kernel
theorem dX5_waysToAsMany_8 : decode cX5_waysToAsMany 8 = .ok (.istore_n 2, 1) := by decide +kernel
theorem dX5_waysToAsMany_9 : decode cX5_waysToAsMany 9 = .ok (.iload_n 2, 1) := by decide +kernel
theorem dX5_waysToAsMany_10 : decode cX5_waysToAsMany 10 = .ok (.aload_n 0, 1) := by decide +kernel
theorem dX5_waysToAsMany_11 : decode cX5_waysToAsMany 11 = .ok (.getfield 25, 3) := by decide +kernel
theorem dX5_waysToAsMany_14 : decode cX5_waysToAsMany 14 = .ok (.if_icmp .ge 43, 3) := by decide +kernel
theorem dX5_waysToAsMany_17 : decode cX5_waysToAsMany 17 = .ok (.aload_n 0, 1) := by decide +kernel
theorem dX5_waysToAsMany_18 : decode cX5_waysToAsMany 18 = .ok (.getfield 9, 3) := by decide +kernel
theorem dX5_waysToAsMany_21 : decode cX5_waysToAsMany 21 = .ok (.iload_n 2, 1) := by decide +kernel
theorem dX5_waysToAsMany_22 : decode cX5_waysToAsMany 22 = .ok (.invokestatic 33, 3) := by decide +kernel
theorem dX5_waysToAsMany_25 : decode cX5_waysToAsMany 25 = .ok (.istore_n 3, 1) := by decide +kernel
theorem dX5_waysToAsMany_26 : decode cX5_waysToAsMany 26 = .ok (.aload_n 0, 1) := by decide +kernel
theorem dX5_waysToAsMany_27 : decode cX5_waysToAsMany 27 = .ok (.getfield 21, 3) := by decide +kernel
theorem dX5_waysToAsMany_30 : decode cX5_waysToAsMany 30 = .ok (.lconst 0, 1) := by decide +kernel
theorem dX5_waysToAsMany_31 : decode cX5_waysToAsMany 31 = .ok (.iload_n 3, 1) := by decide +kernel
theorem dX5_waysToAsMany_32 : decode cX5_waysToAsMany 32 = .ok (.iload_n 1, 1) := by decide +kernel
theorem dX5_waysToAsMany_33 : decode cX5_waysToAsMany 33 = .ok (.iand, 1) := by decide +kernel
theorem dX5_waysToAsMany_34 : decode cX5_waysToAsMany 34 = .ok (.invokestatic 41, 3) := by decide +kernel
theorem dX5_waysToAsMany_37 : decode cX5_waysToAsMany 37 = .ok (.i2l, 1) := by decide +kernel
theorem dX5_waysToAsMany_38 : decode cX5_waysToAsMany 38 = .ok (.lconst 0, 1) := by decide +kernel
theorem dX5_waysToAsMany_39 : decode cX5_waysToAsMany 39 = .ok (.iload_n 3, 1) := by decide +kernel
theorem dX5_waysToAsMany_40 : decode cX5_waysToAsMany 40 = .ok (.iload_n 1, 1) := by decide +kernel
theorem dX5_waysToAsMany_41 : decode cX5_waysToAsMany 41 = .ok (.iconst (-1), 1) := by decide +kernel
theorem dX5_waysToAsMany_42 : decode cX5_waysToAsMany 42 = .ok (.ixor, 1) := by decide +kernel
theorem dX5_waysToAsMany_43 : decode cX5_waysToAsMany 43 = .ok (.iand, 1) := by decide +kernel
theorem dX5_waysToAsMany_44 : decode cX5_waysToAsMany 44 = .ok (.invokestatic 41, 3) := by decide +kernel
theorem dX5_waysToAsMany_47 : decode cX5_waysToAsMany 47 = .ok (.i2l, 1) := by decide +kernel
theorem dX5_waysToAsMany_48 : decode cX5_waysToAsMany 48 = .ok (.invokevirtual 54, 3) := by decide +kernel
theorem dX5_waysToAsMany_51 : decode cX5_waysToAsMany 51 = .ok (.iinc 2 1, 3) := by decide +kernel
theorem dX5_waysToAsMany_54 : decode cX5_waysToAsMany 54 = .ok (.goto (-45), 3) := by decide +kernel
theorem dX5_waysToAsMany_57 : decode cX5_waysToAsMany 57 = .ok (.lconst 0, 1) := by decide +kernel
theorem dX5_waysToAsMany_58 : decode cX5_waysToAsMany 58 = .ok (.lstore_n 2, 1) := by decide +kernel
theorem dX5_waysToAsMany_59 : decode cX5_waysToAsMany 59 = .ok (.aload_n 0, 1) := by decide +kernel
theorem dX5_waysToAsMany_60 : decode cX5_waysToAsMany 60 = .ok (.iload_n 1, 1) := by decide +kernel
theorem dX5_waysToAsMany_61 : decode cX5_waysToAsMany 61 = .ok (.invokevirtual 58, 3) := by decide +kernel
theorem dX5_waysToAsMany_64 : decode cX5_waysToAsMany 64 = .ok (.istore 4, 2) := by decide +kernel
theorem dX5_waysToAsMany_66 : decode cX5_waysToAsMany 66 = .ok (.iload 4, 2) := by decide +kernel
theorem dX5_waysToAsMany_68 : decode cX5_waysToAsMany 68 = .ok (.aload_n 0, 1) := by decide +kernel
theorem dX5_waysToAsMany_69 : decode cX5_waysToAsMany 69 = .ok (.getfield 25, 3) := by decide +kernel
theorem dX5_waysToAsMany_72 : decode cX5_waysToAsMany 72 = .ok (.if_icmp .gt 22, 3) := by decide +kernel
theorem dX5_waysToAsMany_75 : decode cX5_waysToAsMany 75 = .ok (.lload_n 2, 1) := by decide +kernel
theorem dX5_waysToAsMany_76 : decode cX5_waysToAsMany 76 = .ok (.aload_n 0, 1) := by decide +kernel
theorem dX5_waysToAsMany_77 : decode cX5_waysToAsMany 77 = .ok (.getfield 21, 3) := by decide +kernel
theorem dX5_waysToAsMany_80 : decode cX5_waysToAsMany 80 = .ok (.iload 4, 2) := by decide +kernel
theorem dX5_waysToAsMany_82 : decode cX5_waysToAsMany 82 = .ok (.iconst 0, 1) := by decide +kernel
theorem dX5_waysToAsMany_83 : decode cX5_waysToAsMany 83 = .ok (.invokevirtual 61, 3) := by decide +kernel
theorem dX5_waysToAsMany_86 : decode cX5_waysToAsMany 86 = .ok (.ladd, 1) := by decide +kernel
theorem dX5_waysToAsMany_87 : decode cX5_waysToAsMany 87 = .ok (.lstore_n 2, 1) := by decide +kernel
theorem dX5_waysToAsMany_88 : decode cX5_waysToAsMany 88 = .ok (.iinc 4 1, 3) := by decide +kernel
theorem dX5_waysToAsMany_91 : decode cX5_waysToAsMany 91 = .ok (.goto (-25), 3) := by decide +kernel
theorem dX5_waysToAsMany_94 : decode cX5_waysToAsMany 94 = .ok (.lload_n 2, 1) := by decide +kernel
theorem dX5_waysToAsMany_95 : decode cX5_waysToAsMany 95 = .ok (.lreturn, 1) := by decide +kernel
theorem dX6_init_0 : decode cX6_init 0 = .ok (.aload_n 0, 1) := by decide +kernel
theorem dX6_init_1 : decode cX6_init 1 = .ok (.invokespecial 3, 3) := by decide +kernel
theorem dX6_init_4 : decode cX6_init 4 = .ok (.aload_n 0, 1) := by decide +kernel
theorem dX6_init_5 : decode cX6_init 5 = .ok (.bipush 72, 2) := by decide +kernel
theorem dX6_init_7 : decode cX6_init 7 = .ok (.newarray .int, 2) := by decide +kernel
theorem dX6_init_9 : decode cX6_init 9 = .ok (.putfield 9, 3) := by decide +kernel
theorem dX6_init_12 : decode cX6_init 12 = .ok (.return_, 1) := by decide +kernel
theorem dX6_append_0 : decode cX6_append 0 = .ok (.aload_n 0, 1) := by decide +kernel
theorem dX6_append_1 : decode cX6_append 1 = .ok (.getfield 15, 3) := by decide +kernel
theorem dX6_append_4 : decode cX6_append 4 = .ok (.iload_n 1, 1) := by decide +kernel
theorem dX6_append_5 : decode cX6_append 5 = .ok (.iadd, 1) := by decide +kernel
theorem dX6_append_6 : decode cX6_append 6 = .ok (.bipush 72, 2) := by decide +kernel
theorem dX6_append_8 : decode cX6_append 8 = .ok (.if_icmp .le 6, 3) := by decide +kernel
theorem dX6_append_11 : decode cX6_append 11 = .ok (.bipush (-4), 2) := by decide +kernel
theorem dX6_append_13 : decode cX6_append 13 = .ok (.ireturn, 1) := by decide +kernel
theorem dX6_append_14 : decode cX6_append 14 = .ok (.iload_n 1, 1) := by decide +kernel
theorem dX6_append_15 : decode cX6_append 15 = .ok (.iconst 1, 1) := by decide +kernel
theorem dX6_append_16 : decode cX6_append 16 = .ok (.isub, 1) := by decide +kernel
theorem dX6_append_17 : decode cX6_append 17 = .ok (.istore 4, 2) := by decide +kernel
theorem dX6_append_19 : decode cX6_append 19 = .ok (.iload 4, 2) := by decide +kernel
theorem dX6_append_21 : decode cX6_append 21 = .ok (.ifCond .lt 42, 3) := by decide +kernel
theorem dX6_append_24 : decode cX6_append 24 = .ok (.aload_n 0, 1) := by decide +kernel
theorem dX6_append_25 : decode cX6_append 25 = .ok (.getfield 9, 3) := by decide +kernel
theorem dX6_append_28 : decode cX6_append 28 = .ok (.aload_n 0, 1) := by decide +kernel
theorem dX6_append_29 : decode cX6_append 29 = .ok (.getfield 15, 3) := by decide +kernel
theorem dX6_append_32 : decode cX6_append 32 = .ok (.lload_n 2, 1) := by decide +kernel
theorem dX6_append_33 : decode cX6_append 33 = .ok (.bipush 8, 2) := by decide +kernel
theorem dX6_append_35 : decode cX6_append 35 = .ok (.iload 4, 2) := by decide +kernel
theorem dX6_append_37 : decode cX6_append 37 = .ok (.imul, 1) := by decide +kernel
theorem dX6_append_38 : decode cX6_append 38 = .ok (.lushr, 1) := by decide +kernel
theorem dX6_append_39 : decode cX6_append 39 = .ok (.l2i, 1) := by decide +kernel
theorem dX6_append_40 : decode cX6_append 40 = .ok (.sipush 255, 3) := by decide +kernel
theorem dX6_append_43 : decode cX6_append 43 = .ok (.iand, 1) := by decide +kernel
theorem dX6_append_44 : decode cX6_append 44 = .ok (.invokestatic 19, 3) := by decide +kernel
theorem dX6_append_47 : decode cX6_append 47 = .ok (.aload_n 0, 1) := by decide +kernel
theorem dX6_append_48 : decode cX6_append 48 = .ok (.dup, 1) := by decide +kernel
theorem dX6_append_49 : decode cX6_append 49 = .ok (.getfield 15, 3) := by decide +kernel
theorem dX6_append_52 : decode cX6_append 52 = .ok (.iconst 1, 1) := by decide +kernel
theorem dX6_append_53 : decode cX6_append 53 = .ok (.iadd, 1) := by decide +kernel
theorem dX6_append_54 : decode cX6_append 54 = .ok (.putfield 15, 3) := by decide +kernel
theorem dX6_append_57 : decode cX6_append 57 = .ok (.iinc 4 (-1), 3) := by decide +kernel
theorem dX6_append_60 : decode cX6_append 60 = .ok (.goto (-41), 3) := by decide +kernel
theorem dX6_append_63 : decode cX6_append 63 = .ok (.aload_n 0, 1) := by decide +kernel
theorem dX6_append_64 : decode cX6_append 64 = .ok (.getfield 15, 3) := by decide +kernel
theorem dX6_append_67 : decode cX6_append 67 = .ok (.ireturn, 1) := by decide +kernel
theorem dX6_empty_0 : decode cX6_empty 0 = .ok (.aload_n 0, 1) := by decide +kernel
theorem dX6_empty_1 : decode cX6_empty 1 = .ok (.getfield 15, 3) := by decide +kernel
theorem dX6_empty_4 : decode cX6_empty 4 = .ok (.istore_n 1, 1) := by decide +kernel
theorem dX6_empty_5 : decode cX6_empty 5 = .ok (.aload_n 0, 1) := by decide +kernel
theorem dX6_empty_6 : decode cX6_empty 6 = .ok (.iconst 0, 1) := by decide +kernel
theorem dX6_empty_7 : decode cX6_empty 7 = .ok (.putfield 15, 3) := by decide +kernel
theorem dX6_empty_10 : decode cX6_empty 10 = .ok (.iload_n 1, 1) := by decide +kernel
theorem dX6_empty_11 : decode cX6_empty 11 = .ok (.ireturn, 1) := by decide +kernel
theorem dX6_sign_0 : decode cX6_sign 0 = .ok (.aload_n 0, 1) := by decide +kernel
theorem dX6_sign_1 : decode cX6_sign 1 = .ok (.getfield 9, 3) := by decide +kernel
theorem dX6_sign_4 : decode cX6_sign 4 = .ok (.iload_n 1, 1) := by decide +kernel
theorem dX6_sign_5 : decode cX6_sign 5 = .ok (.invokestatic 23, 3) := by decide +kernel
theorem dX6_sign_8 : decode cX6_sign 8 = .ok (.ireturn, 1) := by decide +kernel
theorem dX6_figure_0 : decode cX6_figure 0 = .ok (.aload_n 0, 1) := by decide +kernel
theorem dX6_figure_1 : decode cX6_figure 1 = .ok (.getfield 9, 3) := by decide +kernel
theorem dX6_figure_4 : decode cX6_figure 4 = .ok (.iload_n 1, 1) := by decide +kernel
theorem dX6_figure_5 : decode cX6_figure 5 = .ok (.invokestatic 23, 3) := by decide +kernel
theorem dX6_figure_8 : decode cX6_figure 8 = .ok (.bipush 48, 2) := by decide +kernel
theorem dX6_figure_10 : decode cX6_figure 10 = .ok (.isub, 1) := by decide +kernel
theorem dX6_figure_11 : decode cX6_figure 11 = .ok (.ireturn, 1) := by decide +kernel
theorem dX6_firstFault_0 : decode cX6_firstFault 0 = .ok (.iconst 0, 1) := by decide +kernel
theorem dX6_firstFault_1 : decode cX6_firstFault 1 = .ok (.istore_n 1, 1) := by decide +kernel
theorem dX6_firstFault_2 : decode cX6_firstFault 2 = .ok (.iconst 0, 1) := by decide +kernel
theorem dX6_firstFault_3 : decode cX6_firstFault 3 = .ok (.istore_n 2, 1) := by decide +kernel
theorem dX6_firstFault_4 : decode cX6_firstFault 4 = .ok (.iload_n 2, 1) := by decide +kernel
theorem dX6_firstFault_5 : decode cX6_firstFault 5 = .ok (.aload_n 0, 1) := by decide +kernel
theorem dX6_firstFault_6 : decode cX6_firstFault 6 = .ok (.getfield 15, 3) := by decide +kernel
theorem dX6_firstFault_9 : decode cX6_firstFault 9 = .ok (.if_icmp .ge 36, 3) := by decide +kernel
theorem dX6_firstFault_12 : decode cX6_firstFault 12 = .ok (.aload_n 0, 1) := by decide +kernel
theorem dX6_firstFault_13 : decode cX6_firstFault 13 = .ok (.iload_n 2, 1) := by decide +kernel
theorem dX6_firstFault_14 : decode cX6_firstFault 14 = .ok (.iload_n 1, 1) := by decide +kernel
theorem dX6_firstFault_15 : decode cX6_firstFault 15 = .ok (.invokevirtual 27, 3) := by decide +kernel
theorem dX6_firstFault_18 : decode cX6_firstFault 18 = .ok (.ifCond .ne 5, 3) := by decide +kernel
theorem dX6_firstFault_21 : decode cX6_firstFault 21 = .ok (.iload_n 2, 1) := by decide +kernel
theorem dX6_firstFault_22 : decode cX6_firstFault 22 = .ok (.ireturn, 1) := by decide +kernel
theorem dX6_firstFault_23 : decode cX6_firstFault 23 = .ok (.iload_n 2, 1) := by decide +kernel
theorem dX6_firstFault_24 : decode cX6_firstFault 24 = .ok (.bipush 6, 2) := by decide +kernel
theorem dX6_firstFault_26 : decode cX6_firstFault 26 = .ok (.irem, 1) := by decide +kernel
theorem dX6_firstFault_27 : decode cX6_firstFault 27 = .ok (.iconst 2, 1) := by decide +kernel
theorem dX6_firstFault_28 : decode cX6_firstFault 28 = .ok (.if_icmp .ne 11, 3) := by decide +kernel
theorem dX6_firstFault_31 : decode cX6_firstFault 31 = .ok (.iload_n 1, 1) := by decide +kernel
theorem dX6_firstFault_32 : decode cX6_firstFault 32 = .ok (.aload_n 0, 1) := by decide +kernel
theorem dX6_firstFault_33 : decode cX6_firstFault 33 = .ok (.iload_n 2, 1) := by decide +kernel
theorem dX6_firstFault_34 : decode cX6_firstFault 34 = .ok (.invokevirtual 31, 3) := by decide +kernel
theorem dX6_firstFault_37 : decode cX6_firstFault 37 = .ok (.ior, 1) := by decide +kernel
theorem dX6_firstFault_38 : decode cX6_firstFault 38 = .ok (.istore_n 1, 1) := by decide +kernel
theorem dX6_firstFault_39 : decode cX6_firstFault 39 = .ok (.iinc 2 1, 3) := by decide +kernel
theorem dX6_firstFault_42 : decode cX6_firstFault 42 = .ok (.goto (-38), 3) := by decide +kernel
theorem dX6_firstFault_45 : decode cX6_firstFault 45 = .ok (.aload_n 0, 1) := by decide +kernel
theorem dX6_firstFault_46 : decode cX6_firstFault 46 = .ok (.getfield 15, 3) := by decide +kernel
theorem dX6_firstFault_49 : decode cX6_firstFault 49 = .ok (.bipush 6, 2) := by decide +kernel
theorem dX6_firstFault_51 : decode cX6_firstFault 51 = .ok (.irem, 1) := by decide +kernel
theorem dX6_firstFault_52 : decode cX6_firstFault 52 = .ok (.ifCond .ne 8, 3) := by decide +kernel
theorem dX6_firstFault_55 : decode cX6_firstFault 55 = .ok (.bipush (-9), 2) := by decide +kernel
theorem dX6_firstFault_57 : decode cX6_firstFault 57 = .ok (.goto 7, 3) := by decide +kernel
theorem dX6_firstFault_60 : decode cX6_firstFault 60 = .ok (.aload_n 0, 1) := by decide +kernel
theorem dX6_firstFault_61 : decode cX6_firstFault 61 = .ok (.getfield 15, 3) := by decide +kernel
theorem dX6_firstFault_64 : decode cX6_firstFault 64 = .ok (.ireturn, 1) := by decide +kernel
theorem dX6_fits_0 : decode cX6_fits 0 = .ok (.iload_n 1, 1) := by decide +kernel
theorem dX6_fits_1 : decode cX6_fits 1 = .ok (.bipush 6, 2) := by decide +kernel
theorem dX6_fits_3 : decode cX6_fits 3 = .ok (.irem, 1) := by decide +kernel
theorem dX6_fits_4 : decode cX6_fits 4 = .ok (.tableswitch 120 0 2 #[28, 54, 91], 28) := by decide +kernel
theorem dX6_fits_32 : decode cX6_fits 32 = .ok (.aload_n 0, 1) := by decide +kernel
theorem dX6_fits_33 : decode cX6_fits 33 = .ok (.iload_n 1, 1) := by decide +kernel
theorem dX6_fits_34 : decode cX6_fits 34 = .ok (.invokevirtual 35, 3) := by decide +kernel
theorem dX6_fits_37 : decode cX6_fits 37 = .ok (.bipush 80, 2) := by decide +kernel
theorem dX6_fits_39 : decode cX6_fits 39 = .ok (.if_icmp .eq 13, 3) := by decide +kernel
theorem dX6_fits_42 : decode cX6_fits 42 = .ok (.aload_n 0, 1) := by decide +kernel
theorem dX6_fits_43 : decode cX6_fits 43 = .ok (.iload_n 1, 1) := by decide +kernel
theorem dX6_fits_44 : decode cX6_fits 44 = .ok (.invokevirtual 35, 3) := by decide +kernel
theorem dX6_fits_47 : decode cX6_fits 47 = .ok (.bipush 70, 2) := by decide +kernel
theorem dX6_fits_49 : decode cX6_fits 49 = .ok (.if_icmp .ne 7, 3) := by decide +kernel
theorem dX6_fits_52 : decode cX6_fits 52 = .ok (.iconst 1, 1) := by decide +kernel
theorem dX6_fits_53 : decode cX6_fits 53 = .ok (.goto 4, 3) := by decide +kernel
theorem dX6_fits_56 : decode cX6_fits 56 = .ok (.iconst 0, 1) := by decide +kernel
theorem dX6_fits_57 : decode cX6_fits 57 = .ok (.ireturn, 1) := by decide +kernel
theorem dX6_fits_58 : decode cX6_fits 58 = .ok (.aload_n 0, 1) := by decide +kernel
theorem dX6_fits_59 : decode cX6_fits 59 = .ok (.iload_n 1, 1) := by decide +kernel
theorem dX6_fits_60 : decode cX6_fits 60 = .ok (.invokevirtual 38, 3) := by decide +kernel
theorem dX6_fits_63 : decode cX6_fits 63 = .ok (.iconst 0, 1) := by decide +kernel
theorem dX6_fits_64 : decode cX6_fits 64 = .ok (.iconst 3, 1) := by decide +kernel
theorem dX6_fits_65 : decode cX6_fits 65 = .ok (.invokestatic 41, 3) := by decide +kernel
theorem dX6_fits_68 : decode cX6_fits 68 = .ok (.ifCond .ne 25, 3) := by decide +kernel
theorem dX6_fits_71 : decode cX6_fits 71 = .ok (.iload_n 2, 1) := by decide +kernel
theorem dX6_fits_72 : decode cX6_fits 72 = .ok (.bipush 6, 2) := by decide +kernel
theorem dX6_fits_74 : decode cX6_fits 74 = .ok (.aload_n 0, 1) := by decide +kernel
theorem dX6_fits_75 : decode cX6_fits 75 = .ok (.iload_n 1, 1) := by decide +kernel
theorem dX6_fits_76 : decode cX6_fits 76 = .ok (.invokevirtual 38, 3) := by decide +kernel
theorem dX6_fits_79 : decode cX6_fits 79 = .ok (.imul, 1) := by decide +kernel
theorem dX6_fits_80 : decode cX6_fits 80 = .ok (.ishr, 1) := by decide +kernel
theorem dX6_fits_81 : decode cX6_fits 81 = .ok (.bipush 63, 2) := by decide +kernel
theorem dX6_fits_83 : decode cX6_fits 83 = .ok (.iand, 1) := by decide +kernel
theorem dX6_fits_84 : decode cX6_fits 84 = .ok (.bipush 63, 2) := by decide +kernel
theorem dX6_fits_86 : decode cX6_fits 86 = .ok (.if_icmp .eq 7, 3) := by decide +kernel
theorem dX6_fits_89 : decode cX6_fits 89 = .ok (.iconst 1, 1) := by decide +kernel
theorem dX6_fits_90 : decode cX6_fits 90 = .ok (.goto 4, 3) := by decide +kernel
theorem dX6_fits_93 : decode cX6_fits 93 = .ok (.iconst 0, 1) := by decide +kernel
theorem dX6_fits_94 : decode cX6_fits 94 = .ok (.ireturn, 1) := by decide +kernel
theorem dX6_fits_95 : decode cX6_fits 95 = .ok (.aload_n 0, 1) := by decide +kernel
theorem dX6_fits_96 : decode cX6_fits 96 = .ok (.iload_n 1, 1) := by decide +kernel
theorem dX6_fits_97 : decode cX6_fits 97 = .ok (.invokevirtual 38, 3) := by decide +kernel
theorem dX6_fits_100 : decode cX6_fits 100 = .ok (.iconst 0, 1) := by decide +kernel
theorem dX6_fits_101 : decode cX6_fits 101 = .ok (.iconst 5, 1) := by decide +kernel
theorem dX6_fits_102 : decode cX6_fits 102 = .ok (.invokestatic 41, 3) := by decide +kernel
theorem dX6_fits_105 : decode cX6_fits 105 = .ok (.ifCond .ne 17, 3) := by decide +kernel
theorem dX6_fits_108 : decode cX6_fits 108 = .ok (.iload_n 2, 1) := by decide +kernel
theorem dX6_fits_109 : decode cX6_fits 109 = .ok (.aload_n 0, 1) := by decide +kernel
theorem dX6_fits_110 : decode cX6_fits 110 = .ok (.iload_n 1, 1) := by decide +kernel
theorem dX6_fits_111 : decode cX6_fits 111 = .ok (.invokevirtual 31, 3) := by decide +kernel
theorem dX6_fits_114 : decode cX6_fits 114 = .ok (.iand, 1) := by decide +kernel
theorem dX6_fits_115 : decode cX6_fits 115 = .ok (.ifCond .ne 7, 3) := by decide +kernel
theorem dX6_fits_118 : decode cX6_fits 118 = .ok (.iconst 1, 1) := by decide +kernel
theorem dX6_fits_119 : decode cX6_fits 119 = .ok (.goto 4, 3) := by decide +kernel
theorem dX6_fits_122 : decode cX6_fits 122 = .ok (.iconst 0, 1) := by decide +kernel
theorem dX6_fits_123 : decode cX6_fits 123 = .ok (.ireturn, 1) := by decide +kernel
theorem dX6_fits_124 : decode cX6_fits 124 = .ok (.aload_n 0, 1) := by decide +kernel
theorem dX6_fits_125 : decode cX6_fits 125 = .ok (.iload_n 1, 1) := by decide +kernel
theorem dX6_fits_126 : decode cX6_fits 126 = .ok (.invokevirtual 38, 3) := by decide +kernel
theorem dX6_fits_129 : decode cX6_fits 129 = .ok (.iconst 0, 1) := by decide +kernel
theorem dX6_fits_130 : decode cX6_fits 130 = .ok (.bipush 9, 2) := by decide +kernel
theorem dX6_fits_132 : decode cX6_fits 132 = .ok (.invokestatic 41, 3) := by decide +kernel
theorem dX6_fits_135 : decode cX6_fits 135 = .ok (.ifCond .ne 7, 3) := by decide +kernel
theorem dX6_fits_138 : decode cX6_fits 138 = .ok (.iconst 1, 1) := by decide +kernel
theorem dX6_fits_139 : decode cX6_fits 139 = .ok (.goto 4, 3) := by decide +kernel
theorem dX6_fits_142 : decode cX6_fits 142 = .ok (.iconst 0, 1) := by decide +kernel
theorem dX6_fits_143 : decode cX6_fits 143 = .ok (.ireturn, 1) := by decide +kernel
theorem dX6_seat_0 : decode cX6_seat 0 = .ok (.iconst 1, 1) := by decide +kernel
theorem dX6_seat_1 : decode cX6_seat 1 = .ok (.bipush 6, 2) := by decide +kernel
theorem dX6_seat_3 : decode cX6_seat 3 = .ok (.aload_n 0, 1) := by decide +kernel
theorem dX6_seat_4 : decode cX6_seat 4 = .ok (.iload_n 1, 1) := by decide +kernel
theorem dX6_seat_5 : decode cX6_seat 5 = .ok (.iconst 1, 1) := by decide +kernel
theorem dX6_seat_6 : decode cX6_seat 6 = .ok (.isub, 1) := by decide +kernel
theorem dX6_seat_7 : decode cX6_seat 7 = .ok (.invokevirtual 38, 3) := by decide +kernel
theorem dX6_seat_10 : decode cX6_seat 10 = .ok (.imul, 1) := by decide +kernel
theorem dX6_seat_11 : decode cX6_seat 11 = .ok (.aload_n 0, 1) := by decide +kernel
theorem dX6_seat_12 : decode cX6_seat 12 = .ok (.iload_n 1, 1) := by decide +kernel
theorem dX6_seat_13 : decode cX6_seat 13 = .ok (.invokevirtual 38, 3) := by decide +kernel
theorem dX6_seat_16 : decode cX6_seat 16 = .ok (.iadd, 1) := by decide +kernel
theorem dX6_seat_17 : decode cX6_seat 17 = .ok (.ishl, 1) := by decide +kernel
theorem dX6_seat_18 : decode cX6_seat 18 = .ok (.ireturn, 1) := by decide +kernel
theorem dX7_init_0 : decode cX7_init 0 = .ok (.aload_n 0, 1) := by decide +kernel
theorem dX7_init_1 : decode cX7_init 1 = .ok (.invokespecial 3, 3) := by decide +kernel
theorem dX7_init_4 : decode cX7_init 4 = .ok (.aload_n 0, 1) := by decide +kernel
theorem dX7_init_5 : decode cX7_init 5 = .ok (.bipush 10, 2) := by decide +kernel
theorem dX7_init_7 : decode cX7_init 7 = .ok (.newarray .int, 2) := by decide +kernel
theorem dX7_init_9 : decode cX7_init 9 = .ok (.putfield 9, 3) := by decide +kernel
theorem dX7_init_12 : decode cX7_init 12 = .ok (.return_, 1) := by decide +kernel
theorem dX7_add_0 : decode cX7_add 0 = .ok (.aload_n 0, 1) := by decide +kernel
theorem dX7_add_1 : decode cX7_add 1 = .ok (.getfield 15, 3) := by decide +kernel
theorem dX7_add_4 : decode cX7_add 4 = .ok (.bipush 10, 2) := by decide +kernel
theorem dX7_add_6 : decode cX7_add 6 = .ok (.if_icmp .lt 6, 3) := by decide +kernel
theorem dX7_add_9 : decode cX7_add 9 = .ok (.bipush (-4), 2) := by decide +kernel
theorem dX7_add_11 : decode cX7_add 11 = .ok (.ireturn, 1) := by decide +kernel
theorem dX7_add_12 : decode cX7_add 12 = .ok (.aload_n 0, 1) := by decide +kernel
theorem dX7_add_13 : decode cX7_add 13 = .ok (.getfield 9, 3) := by decide +kernel
theorem dX7_add_16 : decode cX7_add 16 = .ok (.aload_n 0, 1) := by decide +kernel
theorem dX7_add_17 : decode cX7_add 17 = .ok (.getfield 15, 3) := by decide +kernel
theorem dX7_add_20 : decode cX7_add 20 = .ok (.iload_n 1, 1) := by decide +kernel
theorem dX7_add_21 : decode cX7_add 21 = .ok (.invokestatic 19, 3) := by decide +kernel
theorem dX7_add_24 : decode cX7_add 24 = .ok (.iload_n 2, 1) := by decide +kernel
theorem dX7_add_25 : decode cX7_add 25 = .ok (.ifCond .eq 18, 3) := by decide +kernel
theorem dX7_add_28 : decode cX7_add 28 = .ok (.aload_n 0, 1) := by decide +kernel
theorem dX7_add_29 : decode cX7_add 29 = .ok (.dup, 1) := by decide +kernel
theorem dX7_add_30 : decode cX7_add 30 = .ok (.getfield 23, 3) := by decide +kernel
theorem dX7_add_33 : decode cX7_add 33 = .ok (.iconst 1, 1) := by decide +kernel
theorem dX7_add_34 : decode cX7_add 34 = .ok (.aload_n 0, 1) := by decide +kernel
theorem dX7_add_35 : decode cX7_add 35 = .ok (.getfield 15, 3) := by decide +kernel
theorem dX7_add_38 : decode cX7_add 38 = .ok (.ishl, 1) := by decide +kernel
theorem dX7_add_39 : decode cX7_add 39 = .ok (.ior, 1) := by decide +kernel
theorem dX7_add_40 : decode cX7_add 40 = .ok (.putfield 23, 3) := by decide +kernel
theorem dX7_add_43 : decode cX7_add 43 = .ok (.aload_n 0, 1) := by decide +kernel
theorem dX7_add_44 : decode cX7_add 44 = .ok (.dup, 1) := by decide +kernel
theorem dX7_add_45 : decode cX7_add 45 = .ok (.getfield 15, 3) := by decide +kernel
theorem dX7_add_48 : decode cX7_add 48 = .ok (.iconst 1, 1) := by decide +kernel
theorem dX7_add_49 : decode cX7_add 49 = .ok (.iadd, 1) := by decide +kernel
theorem dX7_add_50 : decode cX7_add 50 = .ok (.putfield 15, 3) := by decide +kernel
theorem dX7_add_53 : decode cX7_add 53 = .ok (.aload_n 0, 1) := by decide +kernel
theorem dX7_add_54 : decode cX7_add 54 = .ok (.getfield 15, 3) := by decide +kernel
theorem dX7_add_57 : decode cX7_add 57 = .ok (.ireturn, 1) := by decide +kernel
theorem dX7_empty_0 : decode cX7_empty 0 = .ok (.aload_n 0, 1) := by decide +kernel
theorem dX7_empty_1 : decode cX7_empty 1 = .ok (.getfield 15, 3) := by decide +kernel
theorem dX7_empty_4 : decode cX7_empty 4 = .ok (.istore_n 1, 1) := by decide +kernel
theorem dX7_empty_5 : decode cX7_empty 5 = .ok (.aload_n 0, 1) := by decide +kernel
theorem dX7_empty_6 : decode cX7_empty 6 = .ok (.iconst 0, 1) := by decide +kernel
theorem dX7_empty_7 : decode cX7_empty 7 = .ok (.putfield 15, 3) := by decide +kernel
theorem dX7_empty_10 : decode cX7_empty 10 = .ok (.aload_n 0, 1) := by decide +kernel
theorem dX7_empty_11 : decode cX7_empty 11 = .ok (.iconst 0, 1) := by decide +kernel
theorem dX7_empty_12 : decode cX7_empty 12 = .ok (.putfield 23, 3) := by decide +kernel
theorem dX7_empty_15 : decode cX7_empty 15 = .ok (.iload_n 1, 1) := by decide +kernel
theorem dX7_empty_16 : decode cX7_empty 16 = .ok (.ireturn, 1) := by decide +kernel
theorem dX7_together_0 : decode cX7_together 0 = .ok (.iconst 0, 1) := by decide +kernel
theorem dX7_together_1 : decode cX7_together 1 = .ok (.istore_n 2, 1) := by decide +kernel
theorem dX7_together_2 : decode cX7_together 2 = .ok (.iconst 0, 1) := by decide +kernel
theorem dX7_together_3 : decode cX7_together 3 = .ok (.istore_n 3, 1) := by decide +kernel
theorem dX7_together_4 : decode cX7_together 4 = .ok (.iload_n 3, 1) := by decide +kernel
theorem dX7_together_5 : decode cX7_together 5 = .ok (.aload_n 0, 1) := by decide +kernel
theorem dX7_together_6 : decode cX7_together 6 = .ok (.getfield 15, 3) := by decide +kernel
theorem dX7_together_9 : decode cX7_together 9 = .ok (.if_icmp .ge 28, 3) := by decide +kernel
theorem dX7_together_12 : decode cX7_together 12 = .ok (.iload_n 1, 1) := by decide +kernel
theorem dX7_together_13 : decode cX7_together 13 = .ok (.iload_n 3, 1) := by decide +kernel
theorem dX7_together_14 : decode cX7_together 14 = .ok (.invokestatic 26, 3) := by decide +kernel
theorem dX7_together_17 : decode cX7_together 17 = .ok (.ifCond .eq 14, 3) := by decide +kernel
theorem dX7_together_20 : decode cX7_together 20 = .ok (.iload_n 2, 1) := by decide +kernel
theorem dX7_together_21 : decode cX7_together 21 = .ok (.aload_n 0, 1) := by decide +kernel
theorem dX7_together_22 : decode cX7_together 22 = .ok (.getfield 9, 3) := by decide +kernel
theorem dX7_together_25 : decode cX7_together 25 = .ok (.iload_n 3, 1) := by decide +kernel
theorem dX7_together_26 : decode cX7_together 26 = .ok (.invokestatic 30, 3) := by decide +kernel
theorem dX7_together_29 : decode cX7_together 29 = .ok (.iadd, 1) := by decide +kernel
theorem dX7_together_30 : decode cX7_together 30 = .ok (.istore_n 2, 1) := by decide +kernel
theorem dX7_together_31 : decode cX7_together 31 = .ok (.iinc 3 1, 3) := by decide +kernel
theorem dX7_together_34 : decode cX7_together 34 = .ok (.goto (-30), 3) := by decide +kernel
theorem dX7_together_37 : decode cX7_together 37 = .ok (.iload_n 2, 1) := by decide +kernel
theorem dX7_together_38 : decode cX7_together 38 = .ok (.ireturn, 1) := by decide +kernel
theorem dX7_deals_0 : decode cX7_deals 0 = .ok (.aload_n 0, 1) := by decide +kernel
theorem dX7_deals_1 : decode cX7_deals 1 = .ok (.aload_n 0, 1) := by decide +kernel
theorem dX7_deals_2 : decode cX7_deals 2 = .ok (.getfield 23, 3) := by decide +kernel
theorem dX7_deals_5 : decode cX7_deals 5 = .ok (.invokevirtual 34, 3) := by decide +kernel
theorem dX7_deals_8 : decode cX7_deals 8 = .ok (.istore_n 2, 1) := by decide +kernel
theorem dX7_deals_9 : decode cX7_deals 9 = .ok (.lconst 0, 1) := by decide +kernel
theorem dX7_deals_10 : decode cX7_deals 10 = .ok (.lstore_n 3, 1) := by decide +kernel
theorem dX7_deals_11 : decode cX7_deals 11 = .ok (.iconst 0, 1) := by decide +kernel
theorem dX7_deals_12 : decode cX7_deals 12 = .ok (.istore 5, 2) := by decide +kernel
theorem dX7_deals_14 : decode cX7_deals 14 = .ok (.iload 5, 2) := by decide +kernel
theorem dX7_deals_16 : decode cX7_deals 16 = .ok (.iconst 1, 1) := by decide +kernel
theorem dX7_deals_17 : decode cX7_deals 17 = .ok (.aload_n 0, 1) := by decide +kernel
theorem dX7_deals_18 : decode cX7_deals 18 = .ok (.getfield 15, 3) := by decide +kernel
theorem dX7_deals_21 : decode cX7_deals 21 = .ok (.ishl, 1) := by decide +kernel
theorem dX7_deals_22 : decode cX7_deals 22 = .ok (.if_icmp .ge 54, 3) := by decide +kernel
theorem dX7_deals_25 : decode cX7_deals 25 = .ok (.iload 5, 2) := by decide +kernel
theorem dX7_deals_27 : decode cX7_deals 27 = .ok (.invokestatic 38, 3) := by decide +kernel
theorem dX7_deals_30 : decode cX7_deals 30 = .ok (.aload_n 0, 1) := by decide +kernel
theorem dX7_deals_31 : decode cX7_deals 31 = .ok (.getfield 23, 3) := by decide +kernel
theorem dX7_deals_34 : decode cX7_deals 34 = .ok (.invokestatic 38, 3) := by decide +kernel
theorem dX7_deals_37 : decode cX7_deals 37 = .ok (.if_icmp .ne 7, 3) := by decide +kernel
theorem dX7_deals_40 : decode cX7_deals 40 = .ok (.iconst 1, 1) := by decide +kernel
theorem dX7_deals_41 : decode cX7_deals 41 = .ok (.goto 4, 3) := by decide +kernel
theorem dX7_deals_44 : decode cX7_deals 44 = .ok (.iconst 0, 1) := by decide +kernel
theorem dX7_deals_45 : decode cX7_deals 45 = .ok (.istore 6, 2) := by decide +kernel
theorem dX7_deals_47 : decode cX7_deals 47 = .ok (.iload 6, 2) := by decide +kernel
theorem dX7_deals_49 : decode cX7_deals 49 = .ok (.ifCond .eq 21, 3) := by decide +kernel
theorem dX7_deals_52 : decode cX7_deals 52 = .ok (.iload_n 1, 1) := by decide +kernel
theorem dX7_deals_53 : decode cX7_deals 53 = .ok (.ifCond .eq 13, 3) := by decide +kernel
theorem dX7_deals_56 : decode cX7_deals 56 = .ok (.aload_n 0, 1) := by decide +kernel
theorem dX7_deals_57 : decode cX7_deals 57 = .ok (.iload 5, 2) := by decide +kernel
theorem dX7_deals_59 : decode cX7_deals 59 = .ok (.invokevirtual 34, 3) := by decide +kernel
theorem dX7_deals_62 : decode cX7_deals 62 = .ok (.iload_n 2, 1) := by decide +kernel
theorem dX7_deals_63 : decode cX7_deals 63 = .ok (.if_icmp .lt 7, 3) := by decide +kernel
theorem dX7_deals_66 : decode cX7_deals 66 = .ok (.lload_n 3, 1) := by decide +kernel
theorem dX7_deals_67 : decode cX7_deals 67 = .ok (.lconst 1, 1) := by decide +kernel
theorem dX7_deals_68 : decode cX7_deals 68 = .ok (.ladd, 1) := by decide +kernel
theorem dX7_deals_69 : decode cX7_deals 69 = .ok (.lstore_n 3, 1) := by decide +kernel
theorem dX7_deals_70 : decode cX7_deals 70 = .ok (.iinc 5 1, 3) := by decide +kernel
theorem dX7_deals_73 : decode cX7_deals 73 = .ok (.goto (-59), 3) := by decide +kernel
theorem dX7_deals_76 : decode cX7_deals 76 = .ok (.lload_n 3, 1) := by decide +kernel
theorem dX7_deals_77 : decode cX7_deals 77 = .ok (.lreturn, 1) := by decide +kernel
theorem dJ6_bitCount_0f7a4_0 : decode cJ6_bitCount_0f7a4 0 = .ok (.iload_n 0, 1) := by decide +kernel
theorem dJ6_bitCount_0f7a4_1 : decode cJ6_bitCount_0f7a4 1 = .ok (.iload_n 0, 1) := by decide +kernel
theorem dJ6_bitCount_0f7a4_2 : decode cJ6_bitCount_0f7a4 2 = .ok (.iconst 1, 1) := by decide +kernel
theorem dJ6_bitCount_0f7a4_3 : decode cJ6_bitCount_0f7a4 3 = .ok (.iushr, 1) := by decide +kernel
theorem dJ6_bitCount_0f7a4_4 : decode cJ6_bitCount_0f7a4 4 = .ok (.ldc_w 265, 3) := by decide +kernel
theorem dJ6_bitCount_0f7a4_7 : decode cJ6_bitCount_0f7a4 7 = .ok (.iand, 1) := by decide +kernel
theorem dJ6_bitCount_0f7a4_8 : decode cJ6_bitCount_0f7a4 8 = .ok (.isub, 1) := by decide +kernel
theorem dJ6_bitCount_0f7a4_9 : decode cJ6_bitCount_0f7a4 9 = .ok (.istore_n 0, 1) := by decide +kernel
theorem dJ6_bitCount_0f7a4_10 : decode cJ6_bitCount_0f7a4 10 = .ok (.iload_n 0, 1) := by decide +kernel
theorem dJ6_bitCount_0f7a4_11 : decode cJ6_bitCount_0f7a4 11 = .ok (.ldc_w 266, 3) := by decide +kernel
theorem dJ6_bitCount_0f7a4_14 : decode cJ6_bitCount_0f7a4 14 = .ok (.iand, 1) := by decide +kernel
theorem dJ6_bitCount_0f7a4_15 : decode cJ6_bitCount_0f7a4 15 = .ok (.iload_n 0, 1) := by decide +kernel
theorem dJ6_bitCount_0f7a4_16 : decode cJ6_bitCount_0f7a4 16 = .ok (.iconst 2, 1) := by decide +kernel
theorem dJ6_bitCount_0f7a4_17 : decode cJ6_bitCount_0f7a4 17 = .ok (.iushr, 1) := by decide +kernel
theorem dJ6_bitCount_0f7a4_18 : decode cJ6_bitCount_0f7a4 18 = .ok (.ldc_w 266, 3) := by decide +kernel
theorem dJ6_bitCount_0f7a4_21 : decode cJ6_bitCount_0f7a4 21 = .ok (.iand, 1) := by decide +kernel
theorem dJ6_bitCount_0f7a4_22 : decode cJ6_bitCount_0f7a4 22 = .ok (.iadd, 1) := by decide +kernel
theorem dJ6_bitCount_0f7a4_23 : decode cJ6_bitCount_0f7a4 23 = .ok (.istore_n 0, 1) := by decide +kernel
theorem dJ6_bitCount_0f7a4_24 : decode cJ6_bitCount_0f7a4 24 = .ok (.iload_n 0, 1) := by decide +kernel
theorem dJ6_bitCount_0f7a4_25 : decode cJ6_bitCount_0f7a4 25 = .ok (.iload_n 0, 1) := by decide +kernel
theorem dJ6_bitCount_0f7a4_26 : decode cJ6_bitCount_0f7a4 26 = .ok (.iconst 4, 1) := by decide +kernel
theorem dJ6_bitCount_0f7a4_27 : decode cJ6_bitCount_0f7a4 27 = .ok (.iushr, 1) := by decide +kernel
theorem dJ6_bitCount_0f7a4_28 : decode cJ6_bitCount_0f7a4 28 = .ok (.iadd, 1) := by decide +kernel
theorem dJ6_bitCount_0f7a4_29 : decode cJ6_bitCount_0f7a4 29 = .ok (.ldc_w 267, 3) := by decide +kernel
theorem dJ6_bitCount_0f7a4_32 : decode cJ6_bitCount_0f7a4 32 = .ok (.iand, 1) := by decide +kernel
theorem dJ6_bitCount_0f7a4_33 : decode cJ6_bitCount_0f7a4 33 = .ok (.istore_n 0, 1) := by decide +kernel
theorem dJ6_bitCount_0f7a4_34 : decode cJ6_bitCount_0f7a4 34 = .ok (.iload_n 0, 1) := by decide +kernel
theorem dJ6_bitCount_0f7a4_35 : decode cJ6_bitCount_0f7a4 35 = .ok (.iload_n 0, 1) := by decide +kernel
theorem dJ6_bitCount_0f7a4_36 : decode cJ6_bitCount_0f7a4 36 = .ok (.bipush 8, 2) := by decide +kernel
theorem dJ6_bitCount_0f7a4_38 : decode cJ6_bitCount_0f7a4 38 = .ok (.iushr, 1) := by decide +kernel
theorem dJ6_bitCount_0f7a4_39 : decode cJ6_bitCount_0f7a4 39 = .ok (.iadd, 1) := by decide +kernel
theorem dJ6_bitCount_0f7a4_40 : decode cJ6_bitCount_0f7a4 40 = .ok (.istore_n 0, 1) := by decide +kernel
theorem dJ6_bitCount_0f7a4_41 : decode cJ6_bitCount_0f7a4 41 = .ok (.iload_n 0, 1) := by decide +kernel
theorem dJ6_bitCount_0f7a4_42 : decode cJ6_bitCount_0f7a4 42 = .ok (.iload_n 0, 1) := by decide +kernel
theorem dJ6_bitCount_0f7a4_43 : decode cJ6_bitCount_0f7a4 43 = .ok (.bipush 16, 2) := by decide +kernel
theorem dJ6_bitCount_0f7a4_45 : decode cJ6_bitCount_0f7a4 45 = .ok (.iushr, 1) := by decide +kernel
theorem dJ6_bitCount_0f7a4_46 : decode cJ6_bitCount_0f7a4 46 = .ok (.iadd, 1) := by decide +kernel
theorem dJ6_bitCount_0f7a4_47 : decode cJ6_bitCount_0f7a4 47 = .ok (.istore_n 0, 1) := by decide +kernel
theorem dJ6_bitCount_0f7a4_48 : decode cJ6_bitCount_0f7a4 48 = .ok (.iload_n 0, 1) := by decide +kernel
theorem dJ6_bitCount_0f7a4_49 : decode cJ6_bitCount_0f7a4 49 = .ok (.bipush 63, 2) := by decide +kernel
theorem dJ6_bitCount_0f7a4_51 : decode cJ6_bitCount_0f7a4 51 = .ok (.iand, 1) := by decide +kernel
theorem dJ6_bitCount_0f7a4_52 : decode cJ6_bitCount_0f7a4 52 = .ok (.ireturn, 1) := by decide +kernel
theorem dJ9_abs_0f7a4_0 : decode cJ9_abs_0f7a4 0 = .ok (.iload_n 0, 1) := by decide +kernel
theorem dJ9_abs_0f7a4_1 : decode cJ9_abs_0f7a4 1 = .ok (.ifCond .ge 8, 3) := by decide +kernel
theorem dJ9_abs_0f7a4_4 : decode cJ9_abs_0f7a4 4 = .ok (.iload_n 0, 1) := by decide +kernel
theorem dJ9_abs_0f7a4_5 : decode cJ9_abs_0f7a4 5 = .ok (.ineg, 1) := by decide +kernel
theorem dJ9_abs_0f7a4_6 : decode cJ9_abs_0f7a4 6 = .ok (.goto 4, 3) := by decide +kernel
theorem dJ9_abs_0f7a4_9 : decode cJ9_abs_0f7a4 9 = .ok (.iload_n 0, 1) := by decide +kernel
theorem dJ9_abs_0f7a4_10 : decode cJ9_abs_0f7a4 10 = .ok (.ireturn, 1) := by decide +kernel
theorem dJ9_max_7cf53_0 : decode cJ9_max_7cf53 0 = .ok (.iload_n 0, 1) := by decide +kernel
theorem dJ9_max_7cf53_1 : decode cJ9_max_7cf53 1 = .ok (.iload_n 1, 1) := by decide +kernel
theorem dJ9_max_7cf53_2 : decode cJ9_max_7cf53 2 = .ok (.if_icmp .lt 7, 3) := by decide +kernel
theorem dJ9_max_7cf53_5 : decode cJ9_max_7cf53 5 = .ok (.iload_n 0, 1) := by decide +kernel
theorem dJ9_max_7cf53_6 : decode cJ9_max_7cf53 6 = .ok (.goto 4, 3) := by decide +kernel
theorem dJ9_max_7cf53_9 : decode cJ9_max_7cf53 9 = .ok (.iload_n 1, 1) := by decide +kernel
theorem dJ9_max_7cf53_10 : decode cJ9_max_7cf53 10 = .ok (.ireturn, 1) := by decide +kernel
theorem dJ9_min_7cf53_0 : decode cJ9_min_7cf53 0 = .ok (.iload_n 0, 1) := by decide +kernel
theorem dJ9_min_7cf53_1 : decode cJ9_min_7cf53 1 = .ok (.iload_n 1, 1) := by decide +kernel
theorem dJ9_min_7cf53_2 : decode cJ9_min_7cf53 2 = .ok (.if_icmp .gt 7, 3) := by decide +kernel
theorem dJ9_min_7cf53_5 : decode cJ9_min_7cf53 5 = .ok (.iload_n 0, 1) := by decide +kernel
theorem dJ9_min_7cf53_6 : decode cJ9_min_7cf53 6 = .ok (.goto 4, 3) := by decide +kernel
theorem dJ9_min_7cf53_9 : decode cJ9_min_7cf53 9 = .ok (.iload_n 1, 1) := by decide +kernel
theorem dJ9_min_7cf53_10 : decode cJ9_min_7cf53 10 = .ok (.ireturn, 1) := by decide +kernel
theorem dJ7_fill_d0a16_0 : decode cJ7_fill_d0a16 0 = .ok (.iconst 0, 1) := by decide +kernel
theorem dJ7_fill_d0a16_1 : decode cJ7_fill_d0a16 1 = .ok (.istore_n 3, 1) := by decide +kernel
theorem dJ7_fill_d0a16_2 : decode cJ7_fill_d0a16 2 = .ok (.aload_n 0, 1) := by decide +kernel
theorem dJ7_fill_d0a16_3 : decode cJ7_fill_d0a16 3 = .ok (.arraylength, 1) := by decide +kernel
theorem dJ7_fill_d0a16_4 : decode cJ7_fill_d0a16 4 = .ok (.istore 4, 2) := by decide +kernel
theorem dJ7_fill_d0a16_6 : decode cJ7_fill_d0a16 6 = .ok (.iload_n 3, 1) := by decide +kernel
theorem dJ7_fill_d0a16_7 : decode cJ7_fill_d0a16 7 = .ok (.iload 4, 2) := by decide +kernel
theorem dJ7_fill_d0a16_9 : decode cJ7_fill_d0a16 9 = .ok (.if_icmp .ge 13, 3) := by decide +kernel
theorem dJ7_fill_d0a16_12 : decode cJ7_fill_d0a16 12 = .ok (.aload_n 0, 1) := by decide +kernel
theorem dJ7_fill_d0a16_13 : decode cJ7_fill_d0a16 13 = .ok (.iload_n 3, 1) := by decide +kernel
theorem dJ7_fill_d0a16_14 : decode cJ7_fill_d0a16 14 = .ok (.lload_n 1, 1) := by decide +kernel
theorem dJ7_fill_d0a16_15 : decode cJ7_fill_d0a16 15 = .ok (.lastore, 1) := by decide +kernel
theorem dJ7_fill_d0a16_16 : decode cJ7_fill_d0a16 16 = .ok (.iinc 3 1, 3) := by decide +kernel
theorem dJ7_fill_d0a16_19 : decode cJ7_fill_d0a16 19 = .ok (.goto (-13), 3) := by decide +kernel
theorem dJ7_fill_d0a16_22 : decode cJ7_fill_d0a16 22 = .ok (.return_, 1) := by decide +kernel
theorem dJ7_fill_53178_0 : decode cJ7_fill_53178 0 = .ok (.iconst 0, 1) := by decide +kernel
theorem dJ7_fill_53178_1 : decode cJ7_fill_53178 1 = .ok (.istore_n 2, 1) := by decide +kernel
theorem dJ7_fill_53178_2 : decode cJ7_fill_53178 2 = .ok (.aload_n 0, 1) := by decide +kernel
theorem dJ7_fill_53178_3 : decode cJ7_fill_53178 3 = .ok (.arraylength, 1) := by decide +kernel
theorem dJ7_fill_53178_4 : decode cJ7_fill_53178 4 = .ok (.istore_n 3, 1) := by decide +kernel
theorem dJ7_fill_53178_5 : decode cJ7_fill_53178 5 = .ok (.iload_n 2, 1) := by decide +kernel
theorem dJ7_fill_53178_6 : decode cJ7_fill_53178 6 = .ok (.iload_n 3, 1) := by decide +kernel
theorem dJ7_fill_53178_7 : decode cJ7_fill_53178 7 = .ok (.if_icmp .ge 13, 3) := by decide +kernel
theorem dJ7_fill_53178_10 : decode cJ7_fill_53178 10 = .ok (.aload_n 0, 1) := by decide +kernel
theorem dJ7_fill_53178_11 : decode cJ7_fill_53178 11 = .ok (.iload_n 2, 1) := by decide +kernel
theorem dJ7_fill_53178_12 : decode cJ7_fill_53178 12 = .ok (.iload_n 1, 1) := by decide +kernel
theorem dJ7_fill_53178_13 : decode cJ7_fill_53178 13 = .ok (.iastore, 1) := by decide +kernel
theorem dJ7_fill_53178_14 : decode cJ7_fill_53178 14 = .ok (.iinc 2 1, 3) := by decide +kernel
theorem dJ7_fill_53178_17 : decode cJ7_fill_53178 17 = .ok (.goto (-12), 3) := by decide +kernel
theorem dJ7_fill_53178_20 : decode cJ7_fill_53178 20 = .ok (.return_, 1) := by decide +kernel
end
section
theorem dL_law_0 : decode cL_law 0 = .ok (.new 7, 3) := by decide +kernel
theorem dL_law_3 : decode cL_law 3 = .ok (.dup, 1) := by decide +kernel
theorem dL_law_4 : decode cL_law 4 = .ok (.invokespecial 9, 3) := by decide +kernel
theorem dL_law_7 : decode cL_law 7 = .ok (.astore_n 1, 1) := by decide +kernel
theorem dL_law_8 : decode cL_law 8 = .ok (.new 10, 3) := by decide +kernel
theorem dL_law_11 : decode cL_law 11 = .ok (.dup, 1) := by decide +kernel
theorem dL_law_12 : decode cL_law 12 = .ok (.invokespecial 12, 3) := by decide +kernel
theorem dL_law_15 : decode cL_law 15 = .ok (.astore_n 2, 1) := by decide +kernel
theorem dL_law_16 : decode cL_law 16 = .ok (.iconst 0, 1) := by decide +kernel
theorem dL_law_17 : decode cL_law 17 = .ok (.istore_n 3, 1) := by decide +kernel
theorem dL_law_18 : decode cL_law 18 = .ok (.iload_n 3, 1) := by decide +kernel
theorem dL_law_19 : decode cL_law 19 = .ok (.aload_n 0, 1) := by decide +kernel
theorem dL_law_20 : decode cL_law 20 = .ok (.arraylength, 1) := by decide +kernel
theorem dL_law_21 : decode cL_law 21 = .ok (.bipush 6, 2) := by decide +kernel
theorem dL_law_23 : decode cL_law 23 = .ok (.isub, 1) := by decide +kernel
theorem dL_law_24 : decode cL_law 24 = .ok (.if_icmp .gt 1517, 3) := by decide +kernel
theorem dL_law_27 : decode cL_law 27 = .ok (.aload_n 0, 1) := by decide +kernel
theorem dL_law_28 : decode cL_law 28 = .ok (.iload_n 3, 1) := by decide +kernel
theorem dL_law_29 : decode cL_law 29 = .ok (.iaload, 1) := by decide +kernel
theorem dL_law_30 : decode cL_law 30 = .ok (.bipush 63, 2) := by decide +kernel
theorem dL_law_32 : decode cL_law 32 = .ok (.iand, 1) := by decide +kernel
theorem dL_law_33 : decode cL_law 33 = .ok (.tableswitch 1502 0 34 #[155, 218, 231, 244, 257, 290, 313, 346, 369, 392, 452, 522, 555, 625, 685, 718, 751, 784, 817, 871, 940, 963, 996, 1009, 1032, 1082, 1132, 1212, 1281, 1330, 1343, 1383, 1433, 1456, 1479], 155) := by decide +kernel
theorem dL_law_188 : decode cL_law 188 = .ok (.aload_n 1, 1) := by decide +kernel
theorem dL_law_189 : decode cL_law 189 = .ok (.aload_n 0, 1) := by decide +kernel
theorem dL_law_190 : decode cL_law 190 = .ok (.iload_n 3, 1) := by decide +kernel
theorem dL_law_191 : decode cL_law 191 = .ok (.iconst 1, 1) := by decide +kernel
theorem dL_law_192 : decode cL_law 192 = .ok (.iadd, 1) := by decide +kernel
theorem dL_law_193 : decode cL_law 193 = .ok (.iaload, 1) := by decide +kernel
theorem dL_law_194 : decode cL_law 194 = .ok (.aload_n 0, 1) := by decide +kernel
theorem dL_law_195 : decode cL_law 195 = .ok (.iload_n 3, 1) := by decide +kernel
theorem dL_law_196 : decode cL_law 196 = .ok (.iconst 2, 1) := by decide +kernel
theorem dL_law_197 : decode cL_law 197 = .ok (.iadd, 1) := by decide +kernel
theorem dL_law_198 : decode cL_law 198 = .ok (.iaload, 1) := by decide +kernel
theorem dL_law_199 : decode cL_law 199 = .ok (.i2l, 1) := by decide +kernel
theorem dL_law_200 : decode cL_law 200 = .ok (.bipush 32, 2) := by decide +kernel
theorem dL_law_202 : decode cL_law 202 = .ok (.lshl, 1) := by decide +kernel
theorem dL_law_203 : decode cL_law 203 = .ok (.aload_n 0, 1) := by decide +kernel
theorem dL_law_204 : decode cL_law 204 = .ok (.iload_n 3, 1) := by decide +kernel
theorem dL_law_205 : decode cL_law 205 = .ok (.iconst 3, 1) := by decide +kernel
theorem dL_law_206 : decode cL_law 206 = .ok (.iadd, 1) := by decide +kernel
theorem dL_law_207 : decode cL_law 207 = .ok (.iaload, 1) := by decide +kernel
theorem dL_law_208 : decode cL_law 208 = .ok (.i2l, 1) := by decide +kernel
theorem dL_law_209 : decode cL_law 209 = .ok (.ldc2_w 13, 3) := by decide +kernel
theorem dL_law_212 : decode cL_law 212 = .ok (.land, 1) := by decide +kernel
theorem dL_law_213 : decode cL_law 213 = .ok (.lor, 1) := by decide +kernel
theorem dL_law_214 : decode cL_law 214 = .ok (.invokevirtual 15, 3) := by decide +kernel
theorem dL_law_217 : decode cL_law 217 = .ok (.aload_n 2, 1) := by decide +kernel
theorem dL_law_218 : decode cL_law 218 = .ok (.aload_n 0, 1) := by decide +kernel
theorem dL_law_219 : decode cL_law 219 = .ok (.iload_n 3, 1) := by decide +kernel
theorem dL_law_220 : decode cL_law 220 = .ok (.iconst 1, 1) := by decide +kernel
theorem dL_law_221 : decode cL_law 221 = .ok (.iadd, 1) := by decide +kernel
theorem dL_law_222 : decode cL_law 222 = .ok (.iaload, 1) := by decide +kernel
theorem dL_law_223 : decode cL_law 223 = .ok (.aload_n 0, 1) := by decide +kernel
theorem dL_law_224 : decode cL_law 224 = .ok (.iload_n 3, 1) := by decide +kernel
theorem dL_law_225 : decode cL_law 225 = .ok (.iconst 2, 1) := by decide +kernel
theorem dL_law_226 : decode cL_law 226 = .ok (.iadd, 1) := by decide +kernel
theorem dL_law_227 : decode cL_law 227 = .ok (.iaload, 1) := by decide +kernel
theorem dL_law_228 : decode cL_law 228 = .ok (.i2l, 1) := by decide +kernel
theorem dL_law_229 : decode cL_law 229 = .ok (.bipush 32, 2) := by decide +kernel
theorem dL_law_231 : decode cL_law 231 = .ok (.lshl, 1) := by decide +kernel
theorem dL_law_232 : decode cL_law 232 = .ok (.aload_n 0, 1) := by decide +kernel
theorem dL_law_233 : decode cL_law 233 = .ok (.iload_n 3, 1) := by decide +kernel
theorem dL_law_234 : decode cL_law 234 = .ok (.iconst 3, 1) := by decide +kernel
theorem dL_law_235 : decode cL_law 235 = .ok (.iadd, 1) := by decide +kernel
theorem dL_law_236 : decode cL_law 236 = .ok (.iaload, 1) := by decide +kernel
theorem dL_law_237 : decode cL_law 237 = .ok (.i2l, 1) := by decide +kernel
theorem dL_law_238 : decode cL_law 238 = .ok (.ldc2_w 13, 3) := by decide +kernel
theorem dL_law_241 : decode cL_law 241 = .ok (.land, 1) := by decide +kernel
theorem dL_law_242 : decode cL_law 242 = .ok (.lor, 1) := by decide +kernel
theorem dL_law_243 : decode cL_law 243 = .ok (.invokevirtual 19, 3) := by decide +kernel
theorem dL_law_246 : decode cL_law 246 = .ok (.if_icmp .eq 1289, 3) := by decide +kernel
theorem dL_law_249 : decode cL_law 249 = .ok (.iconst 0, 1) := by decide +kernel
theorem dL_law_250 : decode cL_law 250 = .ok (.ireturn, 1) := by decide +kernel
theorem dL_law_251 : decode cL_law 251 = .ok (.aload_n 1, 1) := by decide +kernel
theorem dL_law_252 : decode cL_law 252 = .ok (.invokevirtual 20, 3) := by decide +kernel
theorem dL_law_255 : decode cL_law 255 = .ok (.aload_n 2, 1) := by decide +kernel
theorem dL_law_256 : decode cL_law 256 = .ok (.invokevirtual 24, 3) := by decide +kernel
theorem dL_law_259 : decode cL_law 259 = .ok (.if_icmp .eq 1276, 3) := by decide +kernel
theorem dL_law_262 : decode cL_law 262 = .ok (.iconst 0, 1) := by decide +kernel
theorem dL_law_263 : decode cL_law 263 = .ok (.ireturn, 1) := by decide +kernel
theorem dL_law_264 : decode cL_law 264 = .ok (.aload_n 1, 1) := by decide +kernel
theorem dL_law_265 : decode cL_law 265 = .ok (.invokevirtual 25, 3) := by decide +kernel
theorem dL_law_268 : decode cL_law 268 = .ok (.aload_n 2, 1) := by decide +kernel
theorem dL_law_269 : decode cL_law 269 = .ok (.invokevirtual 28, 3) := by decide +kernel
theorem dL_law_272 : decode cL_law 272 = .ok (.if_icmp .eq 1263, 3) := by decide +kernel
theorem dL_law_275 : decode cL_law 275 = .ok (.iconst 0, 1) := by decide +kernel
theorem dL_law_276 : decode cL_law 276 = .ok (.ireturn, 1) := by decide +kernel
theorem dL_law_277 : decode cL_law 277 = .ok (.aload_n 1, 1) := by decide +kernel
theorem dL_law_278 : decode cL_law 278 = .ok (.invokevirtual 29, 3) := by decide +kernel
theorem dL_law_281 : decode cL_law 281 = .ok (.aload_n 2, 1) := by decide +kernel
theorem dL_law_282 : decode cL_law 282 = .ok (.invokevirtual 32, 3) := by decide +kernel
theorem dL_law_285 : decode cL_law 285 = .ok (.if_icmp .eq 1250, 3) := by decide +kernel
theorem dL_law_288 : decode cL_law 288 = .ok (.iconst 0, 1) := by decide +kernel
theorem dL_law_289 : decode cL_law 289 = .ok (.ireturn, 1) := by decide +kernel
theorem dL_law_290 : decode cL_law 290 = .ok (.aload_n 1, 1) := by decide +kernel
theorem dL_law_291 : decode cL_law 291 = .ok (.aload_n 0, 1) := by decide +kernel
theorem dL_law_292 : decode cL_law 292 = .ok (.iload_n 3, 1) := by decide +kernel
theorem dL_law_293 : decode cL_law 293 = .ok (.iconst 1, 1) := by decide +kernel
theorem dL_law_294 : decode cL_law 294 = .ok (.iadd, 1) := by decide +kernel
theorem dL_law_295 : decode cL_law 295 = .ok (.iaload, 1) := by decide +kernel
theorem dL_law_296 : decode cL_law 296 = .ok (.aload_n 0, 1) := by decide +kernel
theorem dL_law_297 : decode cL_law 297 = .ok (.iload_n 3, 1) := by decide +kernel
theorem dL_law_298 : decode cL_law 298 = .ok (.iconst 2, 1) := by decide +kernel
theorem dL_law_299 : decode cL_law 299 = .ok (.iadd, 1) := by decide +kernel
theorem dL_law_300 : decode cL_law 300 = .ok (.iaload, 1) := by decide +kernel
theorem dL_law_301 : decode cL_law 301 = .ok (.invokevirtual 33, 3) := by decide +kernel
theorem dL_law_304 : decode cL_law 304 = .ok (.aload_n 2, 1) := by decide +kernel
theorem dL_law_305 : decode cL_law 305 = .ok (.aload_n 0, 1) := by decide +kernel
theorem dL_law_306 : decode cL_law 306 = .ok (.iload_n 3, 1) := by decide +kernel
theorem dL_law_307 : decode cL_law 307 = .ok (.iconst 1, 1) := by decide +kernel
theorem dL_law_308 : decode cL_law 308 = .ok (.iadd, 1) := by decide +kernel
theorem dL_law_309 : decode cL_law 309 = .ok (.iaload, 1) := by decide +kernel
theorem dL_law_310 : decode cL_law 310 = .ok (.aload_n 0, 1) := by decide +kernel
theorem dL_law_311 : decode cL_law 311 = .ok (.iload_n 3, 1) := by decide +kernel
theorem dL_law_312 : decode cL_law 312 = .ok (.iconst 2, 1) := by decide +kernel
theorem dL_law_313 : decode cL_law 313 = .ok (.iadd, 1) := by decide +kernel
theorem dL_law_314 : decode cL_law 314 = .ok (.iaload, 1) := by decide +kernel
theorem dL_law_315 : decode cL_law 315 = .ok (.invokevirtual 37, 3) := by decide +kernel
theorem dL_law_318 : decode cL_law 318 = .ok (.if_icmp .eq 1217, 3) := by decide +kernel
theorem dL_law_321 : decode cL_law 321 = .ok (.iconst 0, 1) := by decide +kernel
theorem dL_law_322 : decode cL_law 322 = .ok (.ireturn, 1) := by decide +kernel
theorem dL_law_323 : decode cL_law 323 = .ok (.aload_n 1, 1) := by decide +kernel
theorem dL_law_324 : decode cL_law 324 = .ok (.aload_n 0, 1) := by decide +kernel
theorem dL_law_325 : decode cL_law 325 = .ok (.iload_n 3, 1) := by decide +kernel
theorem dL_law_326 : decode cL_law 326 = .ok (.iconst 1, 1) := by decide +kernel
theorem dL_law_327 : decode cL_law 327 = .ok (.iadd, 1) := by decide +kernel
theorem dL_law_328 : decode cL_law 328 = .ok (.iaload, 1) := by decide +kernel
theorem dL_law_329 : decode cL_law 329 = .ok (.invokevirtual 38, 3) := by decide +kernel
theorem dL_law_332 : decode cL_law 332 = .ok (.aload_n 2, 1) := by decide +kernel
theorem dL_law_333 : decode cL_law 333 = .ok (.aload_n 0, 1) := by decide +kernel
theorem dL_law_334 : decode cL_law 334 = .ok (.iload_n 3, 1) := by decide +kernel
theorem dL_law_335 : decode cL_law 335 = .ok (.iconst 1, 1) := by decide +kernel
theorem dL_law_336 : decode cL_law 336 = .ok (.iadd, 1) := by decide +kernel
theorem dL_law_337 : decode cL_law 337 = .ok (.iaload, 1) := by decide +kernel
theorem dL_law_338 : decode cL_law 338 = .ok (.invokevirtual 42, 3) := by decide +kernel
theorem dL_law_341 : decode cL_law 341 = .ok (.if_icmp .eq 1194, 3) := by decide +kernel
theorem dL_law_344 : decode cL_law 344 = .ok (.iconst 0, 1) := by decide +kernel
theorem dL_law_345 : decode cL_law 345 = .ok (.ireturn, 1) := by decide +kernel
theorem dL_law_346 : decode cL_law 346 = .ok (.aload_n 1, 1) := by decide +kernel
theorem dL_law_347 : decode cL_law 347 = .ok (.aload_n 0, 1) := by decide +kernel
theorem dL_law_348 : decode cL_law 348 = .ok (.iload_n 3, 1) := by decide +kernel
theorem dL_law_349 : decode cL_law 349 = .ok (.iconst 1, 1) := by decide +kernel
theorem dL_law_350 : decode cL_law 350 = .ok (.iadd, 1) := by decide +kernel
theorem dL_law_351 : decode cL_law 351 = .ok (.iaload, 1) := by decide +kernel
theorem dL_law_352 : decode cL_law 352 = .ok (.aload_n 0, 1) := by decide +kernel
theorem dL_law_353 : decode cL_law 353 = .ok (.iload_n 3, 1) := by decide +kernel
theorem dL_law_354 : decode cL_law 354 = .ok (.iconst 2, 1) := by decide +kernel
theorem dL_law_355 : decode cL_law 355 = .ok (.iadd, 1) := by decide +kernel
theorem dL_law_356 : decode cL_law 356 = .ok (.iaload, 1) := by decide +kernel
theorem dL_law_357 : decode cL_law 357 = .ok (.invokevirtual 43, 3) := by decide +kernel
theorem dL_law_360 : decode cL_law 360 = .ok (.aload_n 2, 1) := by decide +kernel
theorem dL_law_361 : decode cL_law 361 = .ok (.aload_n 0, 1) := by decide +kernel
theorem dL_law_362 : decode cL_law 362 = .ok (.iload_n 3, 1) := by decide +kernel
theorem dL_law_363 : decode cL_law 363 = .ok (.iconst 1, 1) := by decide +kernel
theorem dL_law_364 : decode cL_law 364 = .ok (.iadd, 1) := by decide +kernel
theorem dL_law_365 : decode cL_law 365 = .ok (.iaload, 1) := by decide +kernel
theorem dL_law_366 : decode cL_law 366 = .ok (.aload_n 0, 1) := by decide +kernel
theorem dL_law_367 : decode cL_law 367 = .ok (.iload_n 3, 1) := by decide +kernel
theorem dL_law_368 : decode cL_law 368 = .ok (.iconst 2, 1) := by decide +kernel
theorem dL_law_369 : decode cL_law 369 = .ok (.iadd, 1) := by decide +kernel
theorem dL_law_370 : decode cL_law 370 = .ok (.iaload, 1) := by decide +kernel
theorem dL_law_371 : decode cL_law 371 = .ok (.invokevirtual 46, 3) := by decide +kernel
theorem dL_law_374 : decode cL_law 374 = .ok (.if_icmp .eq 1161, 3) := by decide +kernel
theorem dL_law_377 : decode cL_law 377 = .ok (.iconst 0, 1) := by decide +kernel
theorem dL_law_378 : decode cL_law 378 = .ok (.ireturn, 1) := by decide +kernel
theorem dL_law_379 : decode cL_law 379 = .ok (.aload_n 1, 1) := by decide +kernel
theorem dL_law_380 : decode cL_law 380 = .ok (.aload_n 0, 1) := by decide +kernel
theorem dL_law_381 : decode cL_law 381 = .ok (.iload_n 3, 1) := by decide +kernel
theorem dL_law_382 : decode cL_law 382 = .ok (.iconst 1, 1) := by decide +kernel
theorem dL_law_383 : decode cL_law 383 = .ok (.iadd, 1) := by decide +kernel
theorem dL_law_384 : decode cL_law 384 = .ok (.iaload, 1) := by decide +kernel
theorem dL_law_385 : decode cL_law 385 = .ok (.invokevirtual 47, 3) := by decide +kernel
theorem dL_law_388 : decode cL_law 388 = .ok (.aload_n 2, 1) := by decide +kernel
theorem dL_law_389 : decode cL_law 389 = .ok (.aload_n 0, 1) := by decide +kernel
theorem dL_law_390 : decode cL_law 390 = .ok (.iload_n 3, 1) := by decide +kernel
theorem dL_law_391 : decode cL_law 391 = .ok (.iconst 1, 1) := by decide +kernel
theorem dL_law_392 : decode cL_law 392 = .ok (.iadd, 1) := by decide +kernel
theorem dL_law_393 : decode cL_law 393 = .ok (.iaload, 1) := by decide +kernel
theorem dL_law_394 : decode cL_law 394 = .ok (.invokevirtual 50, 3) := by decide +kernel
theorem dL_law_397 : decode cL_law 397 = .ok (.if_icmp .eq 1138, 3) := by decide +kernel
theorem dL_law_400 : decode cL_law 400 = .ok (.iconst 0, 1) := by decide +kernel
theorem dL_law_401 : decode cL_law 401 = .ok (.ireturn, 1) := by decide +kernel
theorem dL_law_402 : decode cL_law 402 = .ok (.aload_n 1, 1) := by decide +kernel
theorem dL_law_403 : decode cL_law 403 = .ok (.aload_n 0, 1) := by decide +kernel
theorem dL_law_404 : decode cL_law 404 = .ok (.iload_n 3, 1) := by decide +kernel
theorem dL_law_405 : decode cL_law 405 = .ok (.iconst 1, 1) := by decide +kernel
theorem dL_law_406 : decode cL_law 406 = .ok (.iadd, 1) := by decide +kernel
theorem dL_law_407 : decode cL_law 407 = .ok (.iaload, 1) := by decide +kernel
theorem dL_law_408 : decode cL_law 408 = .ok (.invokevirtual 51, 3) := by decide +kernel
theorem dL_law_411 : decode cL_law 411 = .ok (.aload_n 2, 1) := by decide +kernel
theorem dL_law_412 : decode cL_law 412 = .ok (.aload_n 0, 1) := by decide +kernel
theorem dL_law_413 : decode cL_law 413 = .ok (.iload_n 3, 1) := by decide +kernel
theorem dL_law_414 : decode cL_law 414 = .ok (.iconst 1, 1) := by decide +kernel
theorem dL_law_415 : decode cL_law 415 = .ok (.iadd, 1) := by decide +kernel
theorem dL_law_416 : decode cL_law 416 = .ok (.iaload, 1) := by decide +kernel
theorem dL_law_417 : decode cL_law 417 = .ok (.invokevirtual 54, 3) := by decide +kernel
theorem dL_law_420 : decode cL_law 420 = .ok (.if_icmp .eq 1115, 3) := by decide +kernel
theorem dL_law_423 : decode cL_law 423 = .ok (.iconst 0, 1) := by decide +kernel
theorem dL_law_424 : decode cL_law 424 = .ok (.ireturn, 1) := by decide +kernel
theorem dL_law_425 : decode cL_law 425 = .ok (.aload_n 1, 1) := by decide +kernel
theorem dL_law_426 : decode cL_law 426 = .ok (.aload_n 0, 1) := by decide +kernel
theorem dL_law_427 : decode cL_law 427 = .ok (.iload_n 3, 1) := by decide +kernel
theorem dL_law_428 : decode cL_law 428 = .ok (.iconst 1, 1) := by decide +kernel
theorem dL_law_429 : decode cL_law 429 = .ok (.iadd, 1) := by decide +kernel
theorem dL_law_430 : decode cL_law 430 = .ok (.iaload, 1) := by decide +kernel
theorem dL_law_431 : decode cL_law 431 = .ok (.aload_n 0, 1) := by decide +kernel
theorem dL_law_432 : decode cL_law 432 = .ok (.iload_n 3, 1) := by decide +kernel
theorem dL_law_433 : decode cL_law 433 = .ok (.iconst 2, 1) := by decide +kernel
theorem dL_law_434 : decode cL_law 434 = .ok (.iadd, 1) := by decide +kernel
theorem dL_law_435 : decode cL_law 435 = .ok (.iaload, 1) := by decide +kernel
theorem dL_law_436 : decode cL_law 436 = .ok (.aload_n 0, 1) := by decide +kernel
theorem dL_law_437 : decode cL_law 437 = .ok (.iload_n 3, 1) := by decide +kernel
theorem dL_law_438 : decode cL_law 438 = .ok (.iconst 3, 1) := by decide +kernel
theorem dL_law_439 : decode cL_law 439 = .ok (.iadd, 1) := by decide +kernel
theorem dL_law_440 : decode cL_law 440 = .ok (.iaload, 1) := by decide +kernel
theorem dL_law_441 : decode cL_law 441 = .ok (.ifCond .eq 7, 3) := by decide +kernel
theorem dL_law_444 : decode cL_law 444 = .ok (.iconst 1, 1) := by decide +kernel
theorem dL_law_445 : decode cL_law 445 = .ok (.goto 4, 3) := by decide +kernel
theorem dL_law_448 : decode cL_law 448 = .ok (.iconst 0, 1) := by decide +kernel
theorem dL_law_449 : decode cL_law 449 = .ok (.invokevirtual 55, 3) := by decide +kernel
theorem dL_law_452 : decode cL_law 452 = .ok (.aload_n 2, 1) := by decide +kernel
theorem dL_law_453 : decode cL_law 453 = .ok (.aload_n 0, 1) := by decide +kernel
theorem dL_law_454 : decode cL_law 454 = .ok (.iload_n 3, 1) := by decide +kernel
theorem dL_law_455 : decode cL_law 455 = .ok (.iconst 1, 1) := by decide +kernel
theorem dL_law_456 : decode cL_law 456 = .ok (.iadd, 1) := by decide +kernel
theorem dL_law_457 : decode cL_law 457 = .ok (.iaload, 1) := by decide +kernel
theorem dL_law_458 : decode cL_law 458 = .ok (.aload_n 0, 1) := by decide +kernel
theorem dL_law_459 : decode cL_law 459 = .ok (.iload_n 3, 1) := by decide +kernel
theorem dL_law_460 : decode cL_law 460 = .ok (.iconst 2, 1) := by decide +kernel
theorem dL_law_461 : decode cL_law 461 = .ok (.iadd, 1) := by decide +kernel
theorem dL_law_462 : decode cL_law 462 = .ok (.iaload, 1) := by decide +kernel
theorem dL_law_463 : decode cL_law 463 = .ok (.aload_n 0, 1) := by decide +kernel
theorem dL_law_464 : decode cL_law 464 = .ok (.iload_n 3, 1) := by decide +kernel
theorem dL_law_465 : decode cL_law 465 = .ok (.iconst 3, 1) := by decide +kernel
theorem dL_law_466 : decode cL_law 466 = .ok (.iadd, 1) := by decide +kernel
theorem dL_law_467 : decode cL_law 467 = .ok (.iaload, 1) := by decide +kernel
theorem dL_law_468 : decode cL_law 468 = .ok (.ifCond .eq 7, 3) := by decide +kernel
theorem dL_law_471 : decode cL_law 471 = .ok (.iconst 1, 1) := by decide +kernel
theorem dL_law_472 : decode cL_law 472 = .ok (.goto 4, 3) := by decide +kernel
theorem dL_law_475 : decode cL_law 475 = .ok (.iconst 0, 1) := by decide +kernel
theorem dL_law_476 : decode cL_law 476 = .ok (.invokevirtual 59, 3) := by decide +kernel
theorem dL_law_479 : decode cL_law 479 = .ok (.lcmp, 1) := by decide +kernel
theorem dL_law_480 : decode cL_law 480 = .ok (.ifCond .eq 1055, 3) := by decide +kernel
theorem dL_law_483 : decode cL_law 483 = .ok (.iconst 0, 1) := by decide +kernel
theorem dL_law_484 : decode cL_law 484 = .ok (.ireturn, 1) := by decide +kernel
theorem dL_law_485 : decode cL_law 485 = .ok (.aload_n 1, 1) := by decide +kernel
theorem dL_law_486 : decode cL_law 486 = .ok (.aload_n 0, 1) := by decide +kernel
theorem dL_law_487 : decode cL_law 487 = .ok (.iload_n 3, 1) := by decide +kernel
theorem dL_law_488 : decode cL_law 488 = .ok (.iconst 1, 1) := by decide +kernel
theorem dL_law_489 : decode cL_law 489 = .ok (.iadd, 1) := by decide +kernel
theorem dL_law_490 : decode cL_law 490 = .ok (.iaload, 1) := by decide +kernel
theorem dL_law_491 : decode cL_law 491 = .ok (.aload_n 0, 1) := by decide +kernel
theorem dL_law_492 : decode cL_law 492 = .ok (.iload_n 3, 1) := by decide +kernel
theorem dL_law_493 : decode cL_law 493 = .ok (.iconst 2, 1) := by decide +kernel
theorem dL_law_494 : decode cL_law 494 = .ok (.iadd, 1) := by decide +kernel
theorem dL_law_495 : decode cL_law 495 = .ok (.iaload, 1) := by decide +kernel
theorem dL_law_496 : decode cL_law 496 = .ok (.aload_n 0, 1) := by decide +kernel
theorem dL_law_497 : decode cL_law 497 = .ok (.iload_n 3, 1) := by decide +kernel
theorem dL_law_498 : decode cL_law 498 = .ok (.iconst 3, 1) := by decide +kernel
theorem dL_law_499 : decode cL_law 499 = .ok (.iadd, 1) := by decide +kernel
theorem dL_law_500 : decode cL_law 500 = .ok (.iaload, 1) := by decide +kernel
theorem dL_law_501 : decode cL_law 501 = .ok (.aload_n 0, 1) := by decide +kernel
theorem dL_law_502 : decode cL_law 502 = .ok (.iload_n 3, 1) := by decide +kernel
theorem dL_law_503 : decode cL_law 503 = .ok (.iconst 4, 1) := by decide +kernel
theorem dL_law_504 : decode cL_law 504 = .ok (.iadd, 1) := by decide +kernel
theorem dL_law_505 : decode cL_law 505 = .ok (.iaload, 1) := by decide +kernel
theorem dL_law_506 : decode cL_law 506 = .ok (.ifCond .eq 7, 3) := by decide +kernel
theorem dL_law_509 : decode cL_law 509 = .ok (.iconst 1, 1) := by decide +kernel
theorem dL_law_510 : decode cL_law 510 = .ok (.goto 4, 3) := by decide +kernel
theorem dL_law_513 : decode cL_law 513 = .ok (.iconst 0, 1) := by decide +kernel
theorem dL_law_514 : decode cL_law 514 = .ok (.invokevirtual 60, 3) := by decide +kernel
theorem dL_law_517 : decode cL_law 517 = .ok (.aload_n 2, 1) := by decide +kernel
theorem dL_law_518 : decode cL_law 518 = .ok (.aload_n 0, 1) := by decide +kernel
theorem dL_law_519 : decode cL_law 519 = .ok (.iload_n 3, 1) := by decide +kernel
end
section
theorem dL_law_520 : decode cL_law 520 = .ok (.iconst 1, 1) := by decide +kernel
theorem dL_law_521 : decode cL_law 521 = .ok (.iadd, 1) := by decide +kernel
theorem dL_law_522 : decode cL_law 522 = .ok (.iaload, 1) := by decide +kernel
theorem dL_law_523 : decode cL_law 523 = .ok (.aload_n 0, 1) := by decide +kernel
theorem dL_law_524 : decode cL_law 524 = .ok (.iload_n 3, 1) := by decide +kernel
theorem dL_law_525 : decode cL_law 525 = .ok (.iconst 2, 1) := by decide +kernel
theorem dL_law_526 : decode cL_law 526 = .ok (.iadd, 1) := by decide +kernel
theorem dL_law_527 : decode cL_law 527 = .ok (.iaload, 1) := by decide +kernel
theorem dL_law_528 : decode cL_law 528 = .ok (.aload_n 0, 1) := by decide +kernel
theorem dL_law_529 : decode cL_law 529 = .ok (.iload_n 3, 1) := by decide +kernel
theorem dL_law_530 : decode cL_law 530 = .ok (.iconst 3, 1) := by decide +kernel
theorem dL_law_531 : decode cL_law 531 = .ok (.iadd, 1) := by decide +kernel
theorem dL_law_532 : decode cL_law 532 = .ok (.iaload, 1) := by decide +kernel
theorem dL_law_533 : decode cL_law 533 = .ok (.aload_n 0, 1) := by decide +kernel
theorem dL_law_534 : decode cL_law 534 = .ok (.iload_n 3, 1) := by decide +kernel
theorem dL_law_535 : decode cL_law 535 = .ok (.iconst 4, 1) := by decide +kernel
theorem dL_law_536 : decode cL_law 536 = .ok (.iadd, 1) := by decide +kernel
theorem dL_law_537 : decode cL_law 537 = .ok (.iaload, 1) := by decide +kernel
theorem dL_law_538 : decode cL_law 538 = .ok (.ifCond .eq 7, 3) := by decide +kernel
theorem dL_law_541 : decode cL_law 541 = .ok (.iconst 1, 1) := by decide +kernel
theorem dL_law_542 : decode cL_law 542 = .ok (.goto 4, 3) := by decide +kernel
theorem dL_law_545 : decode cL_law 545 = .ok (.iconst 0, 1) := by decide +kernel
theorem dL_law_546 : decode cL_law 546 = .ok (.invokevirtual 64, 3) := by decide +kernel
theorem dL_law_549 : decode cL_law 549 = .ok (.lcmp, 1) := by decide +kernel
theorem dL_law_550 : decode cL_law 550 = .ok (.ifCond .eq 985, 3) := by decide +kernel
theorem dL_law_553 : decode cL_law 553 = .ok (.iconst 0, 1) := by decide +kernel
theorem dL_law_554 : decode cL_law 554 = .ok (.ireturn, 1) := by decide +kernel
theorem dL_law_555 : decode cL_law 555 = .ok (.aload_n 1, 1) := by decide +kernel
theorem dL_law_556 : decode cL_law 556 = .ok (.aload_n 0, 1) := by decide +kernel
theorem dL_law_557 : decode cL_law 557 = .ok (.iload_n 3, 1) := by decide +kernel
theorem dL_law_558 : decode cL_law 558 = .ok (.iconst 1, 1) := by decide +kernel
theorem dL_law_559 : decode cL_law 559 = .ok (.iadd, 1) := by decide +kernel
theorem dL_law_560 : decode cL_law 560 = .ok (.iaload, 1) := by decide +kernel
theorem dL_law_561 : decode cL_law 561 = .ok (.aload_n 0, 1) := by decide +kernel
theorem dL_law_562 : decode cL_law 562 = .ok (.iload_n 3, 1) := by decide +kernel
theorem dL_law_563 : decode cL_law 563 = .ok (.iconst 2, 1) := by decide +kernel
theorem dL_law_564 : decode cL_law 564 = .ok (.iadd, 1) := by decide +kernel
theorem dL_law_565 : decode cL_law 565 = .ok (.iaload, 1) := by decide +kernel
theorem dL_law_566 : decode cL_law 566 = .ok (.invokevirtual 65, 3) := by decide +kernel
theorem dL_law_569 : decode cL_law 569 = .ok (.aload_n 2, 1) := by decide +kernel
theorem dL_law_570 : decode cL_law 570 = .ok (.aload_n 0, 1) := by decide +kernel
theorem dL_law_571 : decode cL_law 571 = .ok (.iload_n 3, 1) := by decide +kernel
theorem dL_law_572 : decode cL_law 572 = .ok (.iconst 1, 1) := by decide +kernel
theorem dL_law_573 : decode cL_law 573 = .ok (.iadd, 1) := by decide +kernel
theorem dL_law_574 : decode cL_law 574 = .ok (.iaload, 1) := by decide +kernel
theorem dL_law_575 : decode cL_law 575 = .ok (.aload_n 0, 1) := by decide +kernel
theorem dL_law_576 : decode cL_law 576 = .ok (.iload_n 3, 1) := by decide +kernel
theorem dL_law_577 : decode cL_law 577 = .ok (.iconst 2, 1) := by decide +kernel
theorem dL_law_578 : decode cL_law 578 = .ok (.iadd, 1) := by decide +kernel
theorem dL_law_579 : decode cL_law 579 = .ok (.iaload, 1) := by decide +kernel
theorem dL_law_580 : decode cL_law 580 = .ok (.invokevirtual 68, 3) := by decide +kernel
theorem dL_law_583 : decode cL_law 583 = .ok (.if_icmp .eq 952, 3) := by decide +kernel
theorem dL_law_586 : decode cL_law 586 = .ok (.iconst 0, 1) := by decide +kernel
theorem dL_law_587 : decode cL_law 587 = .ok (.ireturn, 1) := by decide +kernel
theorem dL_law_588 : decode cL_law 588 = .ok (.aload_n 1, 1) := by decide +kernel
theorem dL_law_589 : decode cL_law 589 = .ok (.aload_n 0, 1) := by decide +kernel
theorem dL_law_590 : decode cL_law 590 = .ok (.iload_n 3, 1) := by decide +kernel
theorem dL_law_591 : decode cL_law 591 = .ok (.iconst 1, 1) := by decide +kernel
theorem dL_law_592 : decode cL_law 592 = .ok (.iadd, 1) := by decide +kernel
theorem dL_law_593 : decode cL_law 593 = .ok (.iaload, 1) := by decide +kernel
theorem dL_law_594 : decode cL_law 594 = .ok (.aload_n 0, 1) := by decide +kernel
theorem dL_law_595 : decode cL_law 595 = .ok (.iload_n 3, 1) := by decide +kernel
theorem dL_law_596 : decode cL_law 596 = .ok (.iconst 2, 1) := by decide +kernel
theorem dL_law_597 : decode cL_law 597 = .ok (.iadd, 1) := by decide +kernel
theorem dL_law_598 : decode cL_law 598 = .ok (.iaload, 1) := by decide +kernel
theorem dL_law_599 : decode cL_law 599 = .ok (.aload_n 0, 1) := by decide +kernel
theorem dL_law_600 : decode cL_law 600 = .ok (.iload_n 3, 1) := by decide +kernel
theorem dL_law_601 : decode cL_law 601 = .ok (.iconst 3, 1) := by decide +kernel
theorem dL_law_602 : decode cL_law 602 = .ok (.iadd, 1) := by decide +kernel
theorem dL_law_603 : decode cL_law 603 = .ok (.iaload, 1) := by decide +kernel
theorem dL_law_604 : decode cL_law 604 = .ok (.aload_n 0, 1) := by decide +kernel
theorem dL_law_605 : decode cL_law 605 = .ok (.iload_n 3, 1) := by decide +kernel
theorem dL_law_606 : decode cL_law 606 = .ok (.iconst 4, 1) := by decide +kernel
theorem dL_law_607 : decode cL_law 607 = .ok (.iadd, 1) := by decide +kernel
theorem dL_law_608 : decode cL_law 608 = .ok (.iaload, 1) := by decide +kernel
theorem dL_law_609 : decode cL_law 609 = .ok (.ifCond .eq 7, 3) := by decide +kernel
theorem dL_law_612 : decode cL_law 612 = .ok (.iconst 1, 1) := by decide +kernel
theorem dL_law_613 : decode cL_law 613 = .ok (.goto 4, 3) := by decide +kernel
theorem dL_law_616 : decode cL_law 616 = .ok (.iconst 0, 1) := by decide +kernel
theorem dL_law_617 : decode cL_law 617 = .ok (.invokevirtual 69, 3) := by decide +kernel
theorem dL_law_620 : decode cL_law 620 = .ok (.aload_n 2, 1) := by decide +kernel
theorem dL_law_621 : decode cL_law 621 = .ok (.aload_n 0, 1) := by decide +kernel
theorem dL_law_622 : decode cL_law 622 = .ok (.iload_n 3, 1) := by decide +kernel
theorem dL_law_623 : decode cL_law 623 = .ok (.iconst 1, 1) := by decide +kernel
theorem dL_law_624 : decode cL_law 624 = .ok (.iadd, 1) := by decide +kernel
theorem dL_law_625 : decode cL_law 625 = .ok (.iaload, 1) := by decide +kernel
theorem dL_law_626 : decode cL_law 626 = .ok (.aload_n 0, 1) := by decide +kernel
theorem dL_law_627 : decode cL_law 627 = .ok (.iload_n 3, 1) := by decide +kernel
theorem dL_law_628 : decode cL_law 628 = .ok (.iconst 2, 1) := by decide +kernel
theorem dL_law_629 : decode cL_law 629 = .ok (.iadd, 1) := by decide +kernel
theorem dL_law_630 : decode cL_law 630 = .ok (.iaload, 1) := by decide +kernel
theorem dL_law_631 : decode cL_law 631 = .ok (.aload_n 0, 1) := by decide +kernel
theorem dL_law_632 : decode cL_law 632 = .ok (.iload_n 3, 1) := by decide +kernel
theorem dL_law_633 : decode cL_law 633 = .ok (.iconst 3, 1) := by decide +kernel
theorem dL_law_634 : decode cL_law 634 = .ok (.iadd, 1) := by decide +kernel
theorem dL_law_635 : decode cL_law 635 = .ok (.iaload, 1) := by decide +kernel
theorem dL_law_636 : decode cL_law 636 = .ok (.aload_n 0, 1) := by decide +kernel
theorem dL_law_637 : decode cL_law 637 = .ok (.iload_n 3, 1) := by decide +kernel
theorem dL_law_638 : decode cL_law 638 = .ok (.iconst 4, 1) := by decide +kernel
theorem dL_law_639 : decode cL_law 639 = .ok (.iadd, 1) := by decide +kernel
theorem dL_law_640 : decode cL_law 640 = .ok (.iaload, 1) := by decide +kernel
theorem dL_law_641 : decode cL_law 641 = .ok (.ifCond .eq 7, 3) := by decide +kernel
theorem dL_law_644 : decode cL_law 644 = .ok (.iconst 1, 1) := by decide +kernel
theorem dL_law_645 : decode cL_law 645 = .ok (.goto 4, 3) := by decide +kernel
theorem dL_law_648 : decode cL_law 648 = .ok (.iconst 0, 1) := by decide +kernel
theorem dL_law_649 : decode cL_law 649 = .ok (.invokevirtual 72, 3) := by decide +kernel
theorem dL_law_652 : decode cL_law 652 = .ok (.lcmp, 1) := by decide +kernel
theorem dL_law_653 : decode cL_law 653 = .ok (.ifCond .eq 882, 3) := by decide +kernel
theorem dL_law_656 : decode cL_law 656 = .ok (.iconst 0, 1) := by decide +kernel
theorem dL_law_657 : decode cL_law 657 = .ok (.ireturn, 1) := by decide +kernel
theorem dL_law_658 : decode cL_law 658 = .ok (.aload_n 1, 1) := by decide +kernel
theorem dL_law_659 : decode cL_law 659 = .ok (.aload_n 0, 1) := by decide +kernel
theorem dL_law_660 : decode cL_law 660 = .ok (.iload_n 3, 1) := by decide +kernel
theorem dL_law_661 : decode cL_law 661 = .ok (.iconst 1, 1) := by decide +kernel
theorem dL_law_662 : decode cL_law 662 = .ok (.iadd, 1) := by decide +kernel
theorem dL_law_663 : decode cL_law 663 = .ok (.iaload, 1) := by decide +kernel
theorem dL_law_664 : decode cL_law 664 = .ok (.aload_n 0, 1) := by decide +kernel
theorem dL_law_665 : decode cL_law 665 = .ok (.iload_n 3, 1) := by decide +kernel
theorem dL_law_666 : decode cL_law 666 = .ok (.iconst 2, 1) := by decide +kernel
theorem dL_law_667 : decode cL_law 667 = .ok (.iadd, 1) := by decide +kernel
theorem dL_law_668 : decode cL_law 668 = .ok (.iaload, 1) := by decide +kernel
theorem dL_law_669 : decode cL_law 669 = .ok (.aload_n 0, 1) := by decide +kernel
theorem dL_law_670 : decode cL_law 670 = .ok (.iload_n 3, 1) := by decide +kernel
theorem dL_law_671 : decode cL_law 671 = .ok (.iconst 3, 1) := by decide +kernel
theorem dL_law_672 : decode cL_law 672 = .ok (.iadd, 1) := by decide +kernel
theorem dL_law_673 : decode cL_law 673 = .ok (.iaload, 1) := by decide +kernel
theorem dL_law_674 : decode cL_law 674 = .ok (.ifCond .eq 7, 3) := by decide +kernel
theorem dL_law_677 : decode cL_law 677 = .ok (.iconst 1, 1) := by decide +kernel
theorem dL_law_678 : decode cL_law 678 = .ok (.goto 4, 3) := by decide +kernel
theorem dL_law_681 : decode cL_law 681 = .ok (.iconst 0, 1) := by decide +kernel
theorem dL_law_682 : decode cL_law 682 = .ok (.invokevirtual 73, 3) := by decide +kernel
theorem dL_law_685 : decode cL_law 685 = .ok (.aload_n 2, 1) := by decide +kernel
theorem dL_law_686 : decode cL_law 686 = .ok (.aload_n 0, 1) := by decide +kernel
theorem dL_law_687 : decode cL_law 687 = .ok (.iload_n 3, 1) := by decide +kernel
theorem dL_law_688 : decode cL_law 688 = .ok (.iconst 1, 1) := by decide +kernel
theorem dL_law_689 : decode cL_law 689 = .ok (.iadd, 1) := by decide +kernel
theorem dL_law_690 : decode cL_law 690 = .ok (.iaload, 1) := by decide +kernel
theorem dL_law_691 : decode cL_law 691 = .ok (.aload_n 0, 1) := by decide +kernel
theorem dL_law_692 : decode cL_law 692 = .ok (.iload_n 3, 1) := by decide +kernel
theorem dL_law_693 : decode cL_law 693 = .ok (.iconst 2, 1) := by decide +kernel
theorem dL_law_694 : decode cL_law 694 = .ok (.iadd, 1) := by decide +kernel
theorem dL_law_695 : decode cL_law 695 = .ok (.iaload, 1) := by decide +kernel
theorem dL_law_696 : decode cL_law 696 = .ok (.aload_n 0, 1) := by decide +kernel
theorem dL_law_697 : decode cL_law 697 = .ok (.iload_n 3, 1) := by decide +kernel
theorem dL_law_698 : decode cL_law 698 = .ok (.iconst 3, 1) := by decide +kernel
theorem dL_law_699 : decode cL_law 699 = .ok (.iadd, 1) := by decide +kernel
theorem dL_law_700 : decode cL_law 700 = .ok (.iaload, 1) := by decide +kernel
theorem dL_law_701 : decode cL_law 701 = .ok (.ifCond .eq 7, 3) := by decide +kernel
theorem dL_law_704 : decode cL_law 704 = .ok (.iconst 1, 1) := by decide +kernel
theorem dL_law_705 : decode cL_law 705 = .ok (.goto 4, 3) := by decide +kernel
theorem dL_law_708 : decode cL_law 708 = .ok (.iconst 0, 1) := by decide +kernel
theorem dL_law_709 : decode cL_law 709 = .ok (.invokevirtual 76, 3) := by decide +kernel
theorem dL_law_712 : decode cL_law 712 = .ok (.lcmp, 1) := by decide +kernel
theorem dL_law_713 : decode cL_law 713 = .ok (.ifCond .eq 822, 3) := by decide +kernel
theorem dL_law_716 : decode cL_law 716 = .ok (.iconst 0, 1) := by decide +kernel
theorem dL_law_717 : decode cL_law 717 = .ok (.ireturn, 1) := by decide +kernel
theorem dL_law_718 : decode cL_law 718 = .ok (.aload_n 1, 1) := by decide +kernel
theorem dL_law_719 : decode cL_law 719 = .ok (.aload_n 0, 1) := by decide +kernel
theorem dL_law_720 : decode cL_law 720 = .ok (.iload_n 3, 1) := by decide +kernel
theorem dL_law_721 : decode cL_law 721 = .ok (.iconst 1, 1) := by decide +kernel
theorem dL_law_722 : decode cL_law 722 = .ok (.iadd, 1) := by decide +kernel
theorem dL_law_723 : decode cL_law 723 = .ok (.iaload, 1) := by decide +kernel
theorem dL_law_724 : decode cL_law 724 = .ok (.aload_n 0, 1) := by decide +kernel
theorem dL_law_725 : decode cL_law 725 = .ok (.iload_n 3, 1) := by decide +kernel
theorem dL_law_726 : decode cL_law 726 = .ok (.iconst 2, 1) := by decide +kernel
theorem dL_law_727 : decode cL_law 727 = .ok (.iadd, 1) := by decide +kernel
theorem dL_law_728 : decode cL_law 728 = .ok (.iaload, 1) := by decide +kernel
theorem dL_law_729 : decode cL_law 729 = .ok (.invokevirtual 77, 3) := by decide +kernel
theorem dL_law_732 : decode cL_law 732 = .ok (.aload_n 2, 1) := by decide +kernel
theorem dL_law_733 : decode cL_law 733 = .ok (.aload_n 0, 1) := by decide +kernel
theorem dL_law_734 : decode cL_law 734 = .ok (.iload_n 3, 1) := by decide +kernel
theorem dL_law_735 : decode cL_law 735 = .ok (.iconst 1, 1) := by decide +kernel
theorem dL_law_736 : decode cL_law 736 = .ok (.iadd, 1) := by decide +kernel
theorem dL_law_737 : decode cL_law 737 = .ok (.iaload, 1) := by decide +kernel
theorem dL_law_738 : decode cL_law 738 = .ok (.aload_n 0, 1) := by decide +kernel
theorem dL_law_739 : decode cL_law 739 = .ok (.iload_n 3, 1) := by decide +kernel
theorem dL_law_740 : decode cL_law 740 = .ok (.iconst 2, 1) := by decide +kernel
theorem dL_law_741 : decode cL_law 741 = .ok (.iadd, 1) := by decide +kernel
theorem dL_law_742 : decode cL_law 742 = .ok (.iaload, 1) := by decide +kernel
theorem dL_law_743 : decode cL_law 743 = .ok (.invokevirtual 80, 3) := by decide +kernel
theorem dL_law_746 : decode cL_law 746 = .ok (.if_icmp .eq 789, 3) := by decide +kernel
theorem dL_law_749 : decode cL_law 749 = .ok (.iconst 0, 1) := by decide +kernel
theorem dL_law_750 : decode cL_law 750 = .ok (.ireturn, 1) := by decide +kernel
theorem dL_law_751 : decode cL_law 751 = .ok (.aload_n 1, 1) := by decide +kernel
theorem dL_law_752 : decode cL_law 752 = .ok (.aload_n 0, 1) := by decide +kernel
theorem dL_law_753 : decode cL_law 753 = .ok (.iload_n 3, 1) := by decide +kernel
theorem dL_law_754 : decode cL_law 754 = .ok (.iconst 1, 1) := by decide +kernel
theorem dL_law_755 : decode cL_law 755 = .ok (.iadd, 1) := by decide +kernel
theorem dL_law_756 : decode cL_law 756 = .ok (.iaload, 1) := by decide +kernel
theorem dL_law_757 : decode cL_law 757 = .ok (.aload_n 0, 1) := by decide +kernel
theorem dL_law_758 : decode cL_law 758 = .ok (.iload_n 3, 1) := by decide +kernel
theorem dL_law_759 : decode cL_law 759 = .ok (.iconst 2, 1) := by decide +kernel
theorem dL_law_760 : decode cL_law 760 = .ok (.iadd, 1) := by decide +kernel
theorem dL_law_761 : decode cL_law 761 = .ok (.iaload, 1) := by decide +kernel
theorem dL_law_762 : decode cL_law 762 = .ok (.invokevirtual 81, 3) := by decide +kernel
theorem dL_law_765 : decode cL_law 765 = .ok (.aload_n 2, 1) := by decide +kernel
theorem dL_law_766 : decode cL_law 766 = .ok (.aload_n 0, 1) := by decide +kernel
theorem dL_law_767 : decode cL_law 767 = .ok (.iload_n 3, 1) := by decide +kernel
theorem dL_law_768 : decode cL_law 768 = .ok (.iconst 1, 1) := by decide +kernel
theorem dL_law_769 : decode cL_law 769 = .ok (.iadd, 1) := by decide +kernel
theorem dL_law_770 : decode cL_law 770 = .ok (.iaload, 1) := by decide +kernel
theorem dL_law_771 : decode cL_law 771 = .ok (.aload_n 0, 1) := by decide +kernel
theorem dL_law_772 : decode cL_law 772 = .ok (.iload_n 3, 1) := by decide +kernel
theorem dL_law_773 : decode cL_law 773 = .ok (.iconst 2, 1) := by decide +kernel
theorem dL_law_774 : decode cL_law 774 = .ok (.iadd, 1) := by decide +kernel
theorem dL_law_775 : decode cL_law 775 = .ok (.iaload, 1) := by decide +kernel
theorem dL_law_776 : decode cL_law 776 = .ok (.invokevirtual 84, 3) := by decide +kernel
theorem dL_law_779 : decode cL_law 779 = .ok (.if_icmp .eq 756, 3) := by decide +kernel
theorem dL_law_782 : decode cL_law 782 = .ok (.iconst 0, 1) := by decide +kernel
theorem dL_law_783 : decode cL_law 783 = .ok (.ireturn, 1) := by decide +kernel
theorem dL_law_784 : decode cL_law 784 = .ok (.aload_n 1, 1) := by decide +kernel
theorem dL_law_785 : decode cL_law 785 = .ok (.aload_n 0, 1) := by decide +kernel
theorem dL_law_786 : decode cL_law 786 = .ok (.iload_n 3, 1) := by decide +kernel
theorem dL_law_787 : decode cL_law 787 = .ok (.iconst 1, 1) := by decide +kernel
theorem dL_law_788 : decode cL_law 788 = .ok (.iadd, 1) := by decide +kernel
theorem dL_law_789 : decode cL_law 789 = .ok (.iaload, 1) := by decide +kernel
theorem dL_law_790 : decode cL_law 790 = .ok (.aload_n 0, 1) := by decide +kernel
theorem dL_law_791 : decode cL_law 791 = .ok (.iload_n 3, 1) := by decide +kernel
theorem dL_law_792 : decode cL_law 792 = .ok (.iconst 2, 1) := by decide +kernel
theorem dL_law_793 : decode cL_law 793 = .ok (.iadd, 1) := by decide +kernel
theorem dL_law_794 : decode cL_law 794 = .ok (.iaload, 1) := by decide +kernel
theorem dL_law_795 : decode cL_law 795 = .ok (.invokevirtual 85, 3) := by decide +kernel
theorem dL_law_798 : decode cL_law 798 = .ok (.aload_n 2, 1) := by decide +kernel
theorem dL_law_799 : decode cL_law 799 = .ok (.aload_n 0, 1) := by decide +kernel
theorem dL_law_800 : decode cL_law 800 = .ok (.iload_n 3, 1) := by decide +kernel
theorem dL_law_801 : decode cL_law 801 = .ok (.iconst 1, 1) := by decide +kernel
theorem dL_law_802 : decode cL_law 802 = .ok (.iadd, 1) := by decide +kernel
theorem dL_law_803 : decode cL_law 803 = .ok (.iaload, 1) := by decide +kernel
theorem dL_law_804 : decode cL_law 804 = .ok (.aload_n 0, 1) := by decide +kernel
theorem dL_law_805 : decode cL_law 805 = .ok (.iload_n 3, 1) := by decide +kernel
theorem dL_law_806 : decode cL_law 806 = .ok (.iconst 2, 1) := by decide +kernel
theorem dL_law_807 : decode cL_law 807 = .ok (.iadd, 1) := by decide +kernel
theorem dL_law_808 : decode cL_law 808 = .ok (.iaload, 1) := by decide +kernel
theorem dL_law_809 : decode cL_law 809 = .ok (.invokevirtual 88, 3) := by decide +kernel
theorem dL_law_812 : decode cL_law 812 = .ok (.if_icmp .eq 723, 3) := by decide +kernel
theorem dL_law_815 : decode cL_law 815 = .ok (.iconst 0, 1) := by decide +kernel
theorem dL_law_816 : decode cL_law 816 = .ok (.ireturn, 1) := by decide +kernel
theorem dL_law_817 : decode cL_law 817 = .ok (.aload_n 1, 1) := by decide +kernel
theorem dL_law_818 : decode cL_law 818 = .ok (.aload_n 0, 1) := by decide +kernel
theorem dL_law_819 : decode cL_law 819 = .ok (.iload_n 3, 1) := by decide +kernel
theorem dL_law_820 : decode cL_law 820 = .ok (.iconst 1, 1) := by decide +kernel
theorem dL_law_821 : decode cL_law 821 = .ok (.iadd, 1) := by decide +kernel
theorem dL_law_822 : decode cL_law 822 = .ok (.iaload, 1) := by decide +kernel
theorem dL_law_823 : decode cL_law 823 = .ok (.aload_n 0, 1) := by decide +kernel
theorem dL_law_824 : decode cL_law 824 = .ok (.iload_n 3, 1) := by decide +kernel
theorem dL_law_825 : decode cL_law 825 = .ok (.iconst 2, 1) := by decide +kernel
theorem dL_law_826 : decode cL_law 826 = .ok (.iadd, 1) := by decide +kernel
theorem dL_law_827 : decode cL_law 827 = .ok (.iaload, 1) := by decide +kernel
theorem dL_law_828 : decode cL_law 828 = .ok (.invokevirtual 89, 3) := by decide +kernel
theorem dL_law_831 : decode cL_law 831 = .ok (.aload_n 2, 1) := by decide +kernel
theorem dL_law_832 : decode cL_law 832 = .ok (.aload_n 0, 1) := by decide +kernel
theorem dL_law_833 : decode cL_law 833 = .ok (.iload_n 3, 1) := by decide +kernel
theorem dL_law_834 : decode cL_law 834 = .ok (.iconst 1, 1) := by decide +kernel
theorem dL_law_835 : decode cL_law 835 = .ok (.iadd, 1) := by decide +kernel
theorem dL_law_836 : decode cL_law 836 = .ok (.iaload, 1) := by decide +kernel
theorem dL_law_837 : decode cL_law 837 = .ok (.aload_n 0, 1) := by decide +kernel
theorem dL_law_838 : decode cL_law 838 = .ok (.iload_n 3, 1) := by decide +kernel
theorem dL_law_839 : decode cL_law 839 = .ok (.iconst 2, 1) := by decide +kernel
theorem dL_law_840 : decode cL_law 840 = .ok (.iadd, 1) := by decide +kernel
theorem dL_law_841 : decode cL_law 841 = .ok (.iaload, 1) := by decide +kernel
theorem dL_law_842 : decode cL_law 842 = .ok (.invokevirtual 92, 3) := by decide +kernel
theorem dL_law_845 : decode cL_law 845 = .ok (.if_icmp .eq 690, 3) := by decide +kernel
theorem dL_law_848 : decode cL_law 848 = .ok (.iconst 0, 1) := by decide +kernel
theorem dL_law_849 : decode cL_law 849 = .ok (.ireturn, 1) := by decide +kernel
theorem dL_law_850 : decode cL_law 850 = .ok (.aload_n 1, 1) := by decide +kernel
theorem dL_law_851 : decode cL_law 851 = .ok (.aload_n 0, 1) := by decide +kernel
theorem dL_law_852 : decode cL_law 852 = .ok (.iload_n 3, 1) := by decide +kernel
theorem dL_law_853 : decode cL_law 853 = .ok (.iconst 1, 1) := by decide +kernel
theorem dL_law_854 : decode cL_law 854 = .ok (.iadd, 1) := by decide +kernel
theorem dL_law_855 : decode cL_law 855 = .ok (.iaload, 1) := by decide +kernel
theorem dL_law_856 : decode cL_law 856 = .ok (.i2l, 1) := by decide +kernel
theorem dL_law_857 : decode cL_law 857 = .ok (.bipush 32, 2) := by decide +kernel
theorem dL_law_859 : decode cL_law 859 = .ok (.lshl, 1) := by decide +kernel
theorem dL_law_860 : decode cL_law 860 = .ok (.aload_n 0, 1) := by decide +kernel
theorem dL_law_861 : decode cL_law 861 = .ok (.iload_n 3, 1) := by decide +kernel
theorem dL_law_862 : decode cL_law 862 = .ok (.iconst 2, 1) := by decide +kernel
theorem dL_law_863 : decode cL_law 863 = .ok (.iadd, 1) := by decide +kernel
theorem dL_law_864 : decode cL_law 864 = .ok (.iaload, 1) := by decide +kernel
theorem dL_law_865 : decode cL_law 865 = .ok (.i2l, 1) := by decide +kernel
theorem dL_law_866 : decode cL_law 866 = .ok (.ldc2_w 13, 3) := by decide +kernel
theorem dL_law_869 : decode cL_law 869 = .ok (.land, 1) := by decide +kernel
theorem dL_law_870 : decode cL_law 870 = .ok (.lor, 1) := by decide +kernel
theorem dL_law_871 : decode cL_law 871 = .ok (.invokevirtual 93, 3) := by decide +kernel
theorem dL_law_874 : decode cL_law 874 = .ok (.aload_n 2, 1) := by decide +kernel
theorem dL_law_875 : decode cL_law 875 = .ok (.aload_n 0, 1) := by decide +kernel
theorem dL_law_876 : decode cL_law 876 = .ok (.iload_n 3, 1) := by decide +kernel
theorem dL_law_877 : decode cL_law 877 = .ok (.iconst 1, 1) := by decide +kernel
theorem dL_law_878 : decode cL_law 878 = .ok (.iadd, 1) := by decide +kernel
theorem dL_law_879 : decode cL_law 879 = .ok (.iaload, 1) := by decide +kernel
theorem dL_law_880 : decode cL_law 880 = .ok (.i2l, 1) := by decide +kernel
theorem dL_law_881 : decode cL_law 881 = .ok (.bipush 32, 2) := by decide +kernel
theorem dL_law_883 : decode cL_law 883 = .ok (.lshl, 1) := by decide +kernel
theorem dL_law_884 : decode cL_law 884 = .ok (.aload_n 0, 1) := by decide +kernel
theorem dL_law_885 : decode cL_law 885 = .ok (.iload_n 3, 1) := by decide +kernel
theorem dL_law_886 : decode cL_law 886 = .ok (.iconst 2, 1) := by decide +kernel
theorem dL_law_887 : decode cL_law 887 = .ok (.iadd, 1) := by decide +kernel
theorem dL_law_888 : decode cL_law 888 = .ok (.iaload, 1) := by decide +kernel
theorem dL_law_889 : decode cL_law 889 = .ok (.i2l, 1) := by decide +kernel
theorem dL_law_890 : decode cL_law 890 = .ok (.ldc2_w 13, 3) := by decide +kernel
theorem dL_law_893 : decode cL_law 893 = .ok (.land, 1) := by decide +kernel
theorem dL_law_894 : decode cL_law 894 = .ok (.lor, 1) := by decide +kernel
theorem dL_law_895 : decode cL_law 895 = .ok (.invokevirtual 97, 3) := by decide +kernel
theorem dL_law_898 : decode cL_law 898 = .ok (.lcmp, 1) := by decide +kernel
theorem dL_law_899 : decode cL_law 899 = .ok (.ifCond .eq 636, 3) := by decide +kernel
theorem dL_law_902 : decode cL_law 902 = .ok (.iconst 0, 1) := by decide +kernel
theorem dL_law_903 : decode cL_law 903 = .ok (.ireturn, 1) := by decide +kernel
theorem dL_law_904 : decode cL_law 904 = .ok (.aload_n 1, 1) := by decide +kernel
theorem dL_law_905 : decode cL_law 905 = .ok (.aload_n 0, 1) := by decide +kernel
theorem dL_law_906 : decode cL_law 906 = .ok (.iload_n 3, 1) := by decide +kernel
theorem dL_law_907 : decode cL_law 907 = .ok (.iconst 1, 1) := by decide +kernel
theorem dL_law_908 : decode cL_law 908 = .ok (.iadd, 1) := by decide +kernel
theorem dL_law_909 : decode cL_law 909 = .ok (.iaload, 1) := by decide +kernel
theorem dL_law_910 : decode cL_law 910 = .ok (.aload_n 0, 1) := by decide +kernel
theorem dL_law_911 : decode cL_law 911 = .ok (.iload_n 3, 1) := by decide +kernel
theorem dL_law_912 : decode cL_law 912 = .ok (.iconst 2, 1) := by decide +kernel
theorem dL_law_913 : decode cL_law 913 = .ok (.iadd, 1) := by decide +kernel
theorem dL_law_914 : decode cL_law 914 = .ok (.iaload, 1) := by decide +kernel
theorem dL_law_915 : decode cL_law 915 = .ok (.aload_n 0, 1) := by decide +kernel
theorem dL_law_916 : decode cL_law 916 = .ok (.iload_n 3, 1) := by decide +kernel
theorem dL_law_917 : decode cL_law 917 = .ok (.iconst 3, 1) := by decide +kernel
theorem dL_law_918 : decode cL_law 918 = .ok (.iadd, 1) := by decide +kernel
theorem dL_law_919 : decode cL_law 919 = .ok (.iaload, 1) := by decide +kernel
theorem dL_law_920 : decode cL_law 920 = .ok (.aload_n 0, 1) := by decide +kernel
theorem dL_law_921 : decode cL_law 921 = .ok (.iload_n 3, 1) := by decide +kernel
theorem dL_law_922 : decode cL_law 922 = .ok (.iconst 4, 1) := by decide +kernel
theorem dL_law_923 : decode cL_law 923 = .ok (.iadd, 1) := by decide +kernel
theorem dL_law_924 : decode cL_law 924 = .ok (.iaload, 1) := by decide +kernel
theorem dL_law_925 : decode cL_law 925 = .ok (.ifCond .eq 7, 3) := by decide +kernel
theorem dL_law_928 : decode cL_law 928 = .ok (.iconst 1, 1) := by decide +kernel
theorem dL_law_929 : decode cL_law 929 = .ok (.goto 4, 3) := by decide +kernel
theorem dL_law_932 : decode cL_law 932 = .ok (.iconst 0, 1) := by decide +kernel
theorem dL_law_933 : decode cL_law 933 = .ok (.invokevirtual 98, 3) := by decide +kernel
theorem dL_law_936 : decode cL_law 936 = .ok (.aload_n 2, 1) := by decide +kernel
theorem dL_law_937 : decode cL_law 937 = .ok (.aload_n 0, 1) := by decide +kernel
theorem dL_law_938 : decode cL_law 938 = .ok (.iload_n 3, 1) := by decide +kernel
theorem dL_law_939 : decode cL_law 939 = .ok (.iconst 1, 1) := by decide +kernel
theorem dL_law_940 : decode cL_law 940 = .ok (.iadd, 1) := by decide +kernel
theorem dL_law_941 : decode cL_law 941 = .ok (.iaload, 1) := by decide +kernel
theorem dL_law_942 : decode cL_law 942 = .ok (.aload_n 0, 1) := by decide +kernel
theorem dL_law_943 : decode cL_law 943 = .ok (.iload_n 3, 1) := by decide +kernel
theorem dL_law_944 : decode cL_law 944 = .ok (.iconst 2, 1) := by decide +kernel
theorem dL_law_945 : decode cL_law 945 = .ok (.iadd, 1) := by decide +kernel
theorem dL_law_946 : decode cL_law 946 = .ok (.iaload, 1) := by decide +kernel
theorem dL_law_947 : decode cL_law 947 = .ok (.aload_n 0, 1) := by decide +kernel
theorem dL_law_948 : decode cL_law 948 = .ok (.iload_n 3, 1) := by decide +kernel
theorem dL_law_949 : decode cL_law 949 = .ok (.iconst 3, 1) := by decide +kernel
theorem dL_law_950 : decode cL_law 950 = .ok (.iadd, 1) := by decide +kernel
theorem dL_law_951 : decode cL_law 951 = .ok (.iaload, 1) := by decide +kernel
theorem dL_law_952 : decode cL_law 952 = .ok (.aload_n 0, 1) := by decide +kernel
theorem dL_law_953 : decode cL_law 953 = .ok (.iload_n 3, 1) := by decide +kernel
theorem dL_law_954 : decode cL_law 954 = .ok (.iconst 4, 1) := by decide +kernel
theorem dL_law_955 : decode cL_law 955 = .ok (.iadd, 1) := by decide +kernel
theorem dL_law_956 : decode cL_law 956 = .ok (.iaload, 1) := by decide +kernel
theorem dL_law_957 : decode cL_law 957 = .ok (.ifCond .eq 7, 3) := by decide +kernel
theorem dL_law_960 : decode cL_law 960 = .ok (.iconst 1, 1) := by decide +kernel
theorem dL_law_961 : decode cL_law 961 = .ok (.goto 4, 3) := by decide +kernel
theorem dL_law_964 : decode cL_law 964 = .ok (.iconst 0, 1) := by decide +kernel
theorem dL_law_965 : decode cL_law 965 = .ok (.invokevirtual 102, 3) := by decide +kernel
theorem dL_law_968 : decode cL_law 968 = .ok (.if_icmp .eq 567, 3) := by decide +kernel
theorem dL_law_971 : decode cL_law 971 = .ok (.iconst 0, 1) := by decide +kernel
theorem dL_law_972 : decode cL_law 972 = .ok (.ireturn, 1) := by decide +kernel
theorem dL_law_973 : decode cL_law 973 = .ok (.aload_n 1, 1) := by decide +kernel
theorem dL_law_974 : decode cL_law 974 = .ok (.aload_n 0, 1) := by decide +kernel
theorem dL_law_975 : decode cL_law 975 = .ok (.iload_n 3, 1) := by decide +kernel
theorem dL_law_976 : decode cL_law 976 = .ok (.iconst 1, 1) := by decide +kernel
theorem dL_law_977 : decode cL_law 977 = .ok (.iadd, 1) := by decide +kernel
theorem dL_law_978 : decode cL_law 978 = .ok (.iaload, 1) := by decide +kernel
theorem dL_law_979 : decode cL_law 979 = .ok (.invokevirtual 103, 3) := by decide +kernel
theorem dL_law_982 : decode cL_law 982 = .ok (.aload_n 2, 1) := by decide +kernel
theorem dL_law_983 : decode cL_law 983 = .ok (.aload_n 0, 1) := by decide +kernel
theorem dL_law_984 : decode cL_law 984 = .ok (.iload_n 3, 1) := by decide +kernel
theorem dL_law_985 : decode cL_law 985 = .ok (.iconst 1, 1) := by decide +kernel
theorem dL_law_986 : decode cL_law 986 = .ok (.iadd, 1) := by decide +kernel
theorem dL_law_987 : decode cL_law 987 = .ok (.iaload, 1) := by decide +kernel
theorem dL_law_988 : decode cL_law 988 = .ok (.invokevirtual 106, 3) := by decide +kernel
theorem dL_law_991 : decode cL_law 991 = .ok (.if_icmp .eq 544, 3) := by decide +kernel
theorem dL_law_994 : decode cL_law 994 = .ok (.iconst 0, 1) := by decide +kernel
theorem dL_law_995 : decode cL_law 995 = .ok (.ireturn, 1) := by decide +kernel
theorem dL_law_996 : decode cL_law 996 = .ok (.aload_n 1, 1) := by decide +kernel
theorem dL_law_997 : decode cL_law 997 = .ok (.aload_n 0, 1) := by decide +kernel
theorem dL_law_998 : decode cL_law 998 = .ok (.iload_n 3, 1) := by decide +kernel
theorem dL_law_999 : decode cL_law 999 = .ok (.iconst 1, 1) := by decide +kernel
theorem dL_law_1000 : decode cL_law 1000 = .ok (.iadd, 1) := by decide +kernel
theorem dL_law_1001 : decode cL_law 1001 = .ok (.iaload, 1) := by decide +kernel
theorem dL_law_1002 : decode cL_law 1002 = .ok (.aload_n 0, 1) := by decide +kernel
theorem dL_law_1003 : decode cL_law 1003 = .ok (.iload_n 3, 1) := by decide +kernel
theorem dL_law_1004 : decode cL_law 1004 = .ok (.iconst 2, 1) := by decide +kernel
theorem dL_law_1005 : decode cL_law 1005 = .ok (.iadd, 1) := by decide +kernel
theorem dL_law_1006 : decode cL_law 1006 = .ok (.iaload, 1) := by decide +kernel
theorem dL_law_1007 : decode cL_law 1007 = .ok (.invokevirtual 107, 3) := by decide +kernel
theorem dL_law_1010 : decode cL_law 1010 = .ok (.aload_n 2, 1) := by decide +kernel
theorem dL_law_1011 : decode cL_law 1011 = .ok (.aload_n 0, 1) := by decide +kernel
theorem dL_law_1012 : decode cL_law 1012 = .ok (.iload_n 3, 1) := by decide +kernel
theorem dL_law_1013 : decode cL_law 1013 = .ok (.iconst 1, 1) := by decide +kernel
theorem dL_law_1014 : decode cL_law 1014 = .ok (.iadd, 1) := by decide +kernel
theorem dL_law_1015 : decode cL_law 1015 = .ok (.iaload, 1) := by decide +kernel
theorem dL_law_1016 : decode cL_law 1016 = .ok (.aload_n 0, 1) := by decide +kernel
theorem dL_law_1017 : decode cL_law 1017 = .ok (.iload_n 3, 1) := by decide +kernel
theorem dL_law_1018 : decode cL_law 1018 = .ok (.iconst 2, 1) := by decide +kernel
theorem dL_law_1019 : decode cL_law 1019 = .ok (.iadd, 1) := by decide +kernel
theorem dL_law_1020 : decode cL_law 1020 = .ok (.iaload, 1) := by decide +kernel
theorem dL_law_1021 : decode cL_law 1021 = .ok (.invokevirtual 110, 3) := by decide +kernel
theorem dL_law_1024 : decode cL_law 1024 = .ok (.if_icmp .eq 511, 3) := by decide +kernel
theorem dL_law_1027 : decode cL_law 1027 = .ok (.iconst 0, 1) := by decide +kernel
theorem dL_law_1028 : decode cL_law 1028 = .ok (.ireturn, 1) := by decide +kernel
theorem dL_law_1029 : decode cL_law 1029 = .ok (.aload_n 1, 1) := by decide +kernel
theorem dL_law_1030 : decode cL_law 1030 = .ok (.invokevirtual 111, 3) := by decide +kernel
theorem dL_law_1033 : decode cL_law 1033 = .ok (.aload_n 2, 1) := by decide +kernel
theorem dL_law_1034 : decode cL_law 1034 = .ok (.invokevirtual 114, 3) := by decide +kernel
theorem dL_law_1037 : decode cL_law 1037 = .ok (.if_icmp .eq 498, 3) := by decide +kernel
end
section
theorem dL_law_1040 : decode cL_law 1040 = .ok (.iconst 0, 1) := by decide +kernel
theorem dL_law_1041 : decode cL_law 1041 = .ok (.ireturn, 1) := by decide +kernel
theorem dL_law_1042 : decode cL_law 1042 = .ok (.aload_n 1, 1) := by decide +kernel
theorem dL_law_1043 : decode cL_law 1043 = .ok (.aload_n 0, 1) := by decide +kernel
theorem dL_law_1044 : decode cL_law 1044 = .ok (.iload_n 3, 1) := by decide +kernel
theorem dL_law_1045 : decode cL_law 1045 = .ok (.iconst 1, 1) := by decide +kernel
theorem dL_law_1046 : decode cL_law 1046 = .ok (.iadd, 1) := by decide +kernel
theorem dL_law_1047 : decode cL_law 1047 = .ok (.iaload, 1) := by decide +kernel
theorem dL_law_1048 : decode cL_law 1048 = .ok (.invokevirtual 115, 3) := by decide +kernel
theorem dL_law_1051 : decode cL_law 1051 = .ok (.aload_n 2, 1) := by decide +kernel
theorem dL_law_1052 : decode cL_law 1052 = .ok (.aload_n 0, 1) := by decide +kernel
theorem dL_law_1053 : decode cL_law 1053 = .ok (.iload_n 3, 1) := by decide +kernel
theorem dL_law_1054 : decode cL_law 1054 = .ok (.iconst 1, 1) := by decide +kernel
theorem dL_law_1055 : decode cL_law 1055 = .ok (.iadd, 1) := by decide +kernel
theorem dL_law_1056 : decode cL_law 1056 = .ok (.iaload, 1) := by decide +kernel
theorem dL_law_1057 : decode cL_law 1057 = .ok (.invokevirtual 118, 3) := by decide +kernel
theorem dL_law_1060 : decode cL_law 1060 = .ok (.if_icmp .eq 475, 3) := by decide +kernel
theorem dL_law_1063 : decode cL_law 1063 = .ok (.iconst 0, 1) := by decide +kernel
theorem dL_law_1064 : decode cL_law 1064 = .ok (.ireturn, 1) := by decide +kernel
theorem dL_law_1065 : decode cL_law 1065 = .ok (.aload_n 1, 1) := by decide +kernel
theorem dL_law_1066 : decode cL_law 1066 = .ok (.aload_n 0, 1) := by decide +kernel
theorem dL_law_1067 : decode cL_law 1067 = .ok (.iload_n 3, 1) := by decide +kernel
theorem dL_law_1068 : decode cL_law 1068 = .ok (.iconst 1, 1) := by decide +kernel
theorem dL_law_1069 : decode cL_law 1069 = .ok (.iadd, 1) := by decide +kernel
theorem dL_law_1070 : decode cL_law 1070 = .ok (.iaload, 1) := by decide +kernel
theorem dL_law_1071 : decode cL_law 1071 = .ok (.aload_n 0, 1) := by decide +kernel
theorem dL_law_1072 : decode cL_law 1072 = .ok (.iload_n 3, 1) := by decide +kernel
theorem dL_law_1073 : decode cL_law 1073 = .ok (.iconst 2, 1) := by decide +kernel
theorem dL_law_1074 : decode cL_law 1074 = .ok (.iadd, 1) := by decide +kernel
theorem dL_law_1075 : decode cL_law 1075 = .ok (.iaload, 1) := by decide +kernel
theorem dL_law_1076 : decode cL_law 1076 = .ok (.ifCond .eq 7, 3) := by decide +kernel
theorem dL_law_1079 : decode cL_law 1079 = .ok (.iconst 1, 1) := by decide +kernel
theorem dL_law_1080 : decode cL_law 1080 = .ok (.goto 4, 3) := by decide +kernel
theorem dL_law_1083 : decode cL_law 1083 = .ok (.iconst 0, 1) := by decide +kernel
theorem dL_law_1084 : decode cL_law 1084 = .ok (.invokevirtual 119, 3) := by decide +kernel
theorem dL_law_1087 : decode cL_law 1087 = .ok (.aload_n 2, 1) := by decide +kernel
theorem dL_law_1088 : decode cL_law 1088 = .ok (.aload_n 0, 1) := by decide +kernel
theorem dL_law_1089 : decode cL_law 1089 = .ok (.iload_n 3, 1) := by decide +kernel
theorem dL_law_1090 : decode cL_law 1090 = .ok (.iconst 1, 1) := by decide +kernel
theorem dL_law_1091 : decode cL_law 1091 = .ok (.iadd, 1) := by decide +kernel
theorem dL_law_1092 : decode cL_law 1092 = .ok (.iaload, 1) := by decide +kernel
theorem dL_law_1093 : decode cL_law 1093 = .ok (.aload_n 0, 1) := by decide +kernel
theorem dL_law_1094 : decode cL_law 1094 = .ok (.iload_n 3, 1) := by decide +kernel
theorem dL_law_1095 : decode cL_law 1095 = .ok (.iconst 2, 1) := by decide +kernel
theorem dL_law_1096 : decode cL_law 1096 = .ok (.iadd, 1) := by decide +kernel
theorem dL_law_1097 : decode cL_law 1097 = .ok (.iaload, 1) := by decide +kernel
theorem dL_law_1098 : decode cL_law 1098 = .ok (.ifCond .eq 7, 3) := by decide +kernel
theorem dL_law_1101 : decode cL_law 1101 = .ok (.iconst 1, 1) := by decide +kernel
theorem dL_law_1102 : decode cL_law 1102 = .ok (.goto 4, 3) := by decide +kernel
theorem dL_law_1105 : decode cL_law 1105 = .ok (.iconst 0, 1) := by decide +kernel
theorem dL_law_1106 : decode cL_law 1106 = .ok (.invokevirtual 123, 3) := by decide +kernel
theorem dL_law_1109 : decode cL_law 1109 = .ok (.lcmp, 1) := by decide +kernel
theorem dL_law_1110 : decode cL_law 1110 = .ok (.ifCond .eq 425, 3) := by decide +kernel
theorem dL_law_1113 : decode cL_law 1113 = .ok (.iconst 0, 1) := by decide +kernel
theorem dL_law_1114 : decode cL_law 1114 = .ok (.ireturn, 1) := by decide +kernel
theorem dL_law_1115 : decode cL_law 1115 = .ok (.aload_n 1, 1) := by decide +kernel
theorem dL_law_1116 : decode cL_law 1116 = .ok (.aload_n 0, 1) := by decide +kernel
theorem dL_law_1117 : decode cL_law 1117 = .ok (.iload_n 3, 1) := by decide +kernel
theorem dL_law_1118 : decode cL_law 1118 = .ok (.iconst 1, 1) := by decide +kernel
theorem dL_law_1119 : decode cL_law 1119 = .ok (.iadd, 1) := by decide +kernel
theorem dL_law_1120 : decode cL_law 1120 = .ok (.iaload, 1) := by decide +kernel
theorem dL_law_1121 : decode cL_law 1121 = .ok (.aload_n 0, 1) := by decide +kernel
theorem dL_law_1122 : decode cL_law 1122 = .ok (.iload_n 3, 1) := by decide +kernel
theorem dL_law_1123 : decode cL_law 1123 = .ok (.iconst 2, 1) := by decide +kernel
theorem dL_law_1124 : decode cL_law 1124 = .ok (.iadd, 1) := by decide +kernel
theorem dL_law_1125 : decode cL_law 1125 = .ok (.iaload, 1) := by decide +kernel
theorem dL_law_1126 : decode cL_law 1126 = .ok (.ifCond .eq 7, 3) := by decide +kernel
theorem dL_law_1129 : decode cL_law 1129 = .ok (.iconst 1, 1) := by decide +kernel
theorem dL_law_1130 : decode cL_law 1130 = .ok (.goto 4, 3) := by decide +kernel
theorem dL_law_1133 : decode cL_law 1133 = .ok (.iconst 0, 1) := by decide +kernel
theorem dL_law_1134 : decode cL_law 1134 = .ok (.invokevirtual 124, 3) := by decide +kernel
theorem dL_law_1137 : decode cL_law 1137 = .ok (.aload_n 2, 1) := by decide +kernel
theorem dL_law_1138 : decode cL_law 1138 = .ok (.aload_n 0, 1) := by decide +kernel
theorem dL_law_1139 : decode cL_law 1139 = .ok (.iload_n 3, 1) := by decide +kernel
theorem dL_law_1140 : decode cL_law 1140 = .ok (.iconst 1, 1) := by decide +kernel
theorem dL_law_1141 : decode cL_law 1141 = .ok (.iadd, 1) := by decide +kernel
theorem dL_law_1142 : decode cL_law 1142 = .ok (.iaload, 1) := by decide +kernel
theorem dL_law_1143 : decode cL_law 1143 = .ok (.aload_n 0, 1) := by decide +kernel
theorem dL_law_1144 : decode cL_law 1144 = .ok (.iload_n 3, 1) := by decide +kernel
theorem dL_law_1145 : decode cL_law 1145 = .ok (.iconst 2, 1) := by decide +kernel
theorem dL_law_1146 : decode cL_law 1146 = .ok (.iadd, 1) := by decide +kernel
theorem dL_law_1147 : decode cL_law 1147 = .ok (.iaload, 1) := by decide +kernel
theorem dL_law_1148 : decode cL_law 1148 = .ok (.ifCond .eq 7, 3) := by decide +kernel
theorem dL_law_1151 : decode cL_law 1151 = .ok (.iconst 1, 1) := by decide +kernel
theorem dL_law_1152 : decode cL_law 1152 = .ok (.goto 4, 3) := by decide +kernel
theorem dL_law_1155 : decode cL_law 1155 = .ok (.iconst 0, 1) := by decide +kernel
theorem dL_law_1156 : decode cL_law 1156 = .ok (.invokevirtual 127, 3) := by decide +kernel
theorem dL_law_1159 : decode cL_law 1159 = .ok (.lcmp, 1) := by decide +kernel
theorem dL_law_1160 : decode cL_law 1160 = .ok (.ifCond .eq 375, 3) := by decide +kernel
theorem dL_law_1163 : decode cL_law 1163 = .ok (.iconst 0, 1) := by decide +kernel
theorem dL_law_1164 : decode cL_law 1164 = .ok (.ireturn, 1) := by decide +kernel
theorem dL_law_1165 : decode cL_law 1165 = .ok (.aload_n 1, 1) := by decide +kernel
theorem dL_law_1166 : decode cL_law 1166 = .ok (.aload_n 0, 1) := by decide +kernel
theorem dL_law_1167 : decode cL_law 1167 = .ok (.iload_n 3, 1) := by decide +kernel
theorem dL_law_1168 : decode cL_law 1168 = .ok (.iconst 1, 1) := by decide +kernel
theorem dL_law_1169 : decode cL_law 1169 = .ok (.iadd, 1) := by decide +kernel
theorem dL_law_1170 : decode cL_law 1170 = .ok (.iaload, 1) := by decide +kernel
theorem dL_law_1171 : decode cL_law 1171 = .ok (.aload_n 0, 1) := by decide +kernel
theorem dL_law_1172 : decode cL_law 1172 = .ok (.iload_n 3, 1) := by decide +kernel
theorem dL_law_1173 : decode cL_law 1173 = .ok (.iconst 2, 1) := by decide +kernel
theorem dL_law_1174 : decode cL_law 1174 = .ok (.iadd, 1) := by decide +kernel
theorem dL_law_1175 : decode cL_law 1175 = .ok (.iaload, 1) := by decide +kernel
theorem dL_law_1176 : decode cL_law 1176 = .ok (.aload_n 0, 1) := by decide +kernel
theorem dL_law_1177 : decode cL_law 1177 = .ok (.iload_n 3, 1) := by decide +kernel
theorem dL_law_1178 : decode cL_law 1178 = .ok (.iconst 3, 1) := by decide +kernel
theorem dL_law_1179 : decode cL_law 1179 = .ok (.iadd, 1) := by decide +kernel
theorem dL_law_1180 : decode cL_law 1180 = .ok (.iaload, 1) := by decide +kernel
theorem dL_law_1181 : decode cL_law 1181 = .ok (.aload_n 0, 1) := by decide +kernel
theorem dL_law_1182 : decode cL_law 1182 = .ok (.iload_n 3, 1) := by decide +kernel
theorem dL_law_1183 : decode cL_law 1183 = .ok (.iconst 4, 1) := by decide +kernel
theorem dL_law_1184 : decode cL_law 1184 = .ok (.iadd, 1) := by decide +kernel
theorem dL_law_1185 : decode cL_law 1185 = .ok (.iaload, 1) := by decide +kernel
theorem dL_law_1186 : decode cL_law 1186 = .ok (.aload_n 0, 1) := by decide +kernel
theorem dL_law_1187 : decode cL_law 1187 = .ok (.iload_n 3, 1) := by decide +kernel
theorem dL_law_1188 : decode cL_law 1188 = .ok (.iconst 5, 1) := by decide +kernel
theorem dL_law_1189 : decode cL_law 1189 = .ok (.iadd, 1) := by decide +kernel
theorem dL_law_1190 : decode cL_law 1190 = .ok (.iaload, 1) := by decide +kernel
theorem dL_law_1191 : decode cL_law 1191 = .ok (.ifCond .eq 7, 3) := by decide +kernel
theorem dL_law_1194 : decode cL_law 1194 = .ok (.iconst 1, 1) := by decide +kernel
theorem dL_law_1195 : decode cL_law 1195 = .ok (.goto 4, 3) := by decide +kernel
theorem dL_law_1198 : decode cL_law 1198 = .ok (.iconst 0, 1) := by decide +kernel
theorem dL_law_1199 : decode cL_law 1199 = .ok (.invokevirtual 128, 3) := by decide +kernel
theorem dL_law_1202 : decode cL_law 1202 = .ok (.aload_n 2, 1) := by decide +kernel
theorem dL_law_1203 : decode cL_law 1203 = .ok (.aload_n 0, 1) := by decide +kernel
theorem dL_law_1204 : decode cL_law 1204 = .ok (.iload_n 3, 1) := by decide +kernel
theorem dL_law_1205 : decode cL_law 1205 = .ok (.iconst 1, 1) := by decide +kernel
theorem dL_law_1206 : decode cL_law 1206 = .ok (.iadd, 1) := by decide +kernel
theorem dL_law_1207 : decode cL_law 1207 = .ok (.iaload, 1) := by decide +kernel
theorem dL_law_1208 : decode cL_law 1208 = .ok (.aload_n 0, 1) := by decide +kernel
theorem dL_law_1209 : decode cL_law 1209 = .ok (.iload_n 3, 1) := by decide +kernel
theorem dL_law_1210 : decode cL_law 1210 = .ok (.iconst 2, 1) := by decide +kernel
theorem dL_law_1211 : decode cL_law 1211 = .ok (.iadd, 1) := by decide +kernel
theorem dL_law_1212 : decode cL_law 1212 = .ok (.iaload, 1) := by decide +kernel
theorem dL_law_1213 : decode cL_law 1213 = .ok (.aload_n 0, 1) := by decide +kernel
theorem dL_law_1214 : decode cL_law 1214 = .ok (.iload_n 3, 1) := by decide +kernel
theorem dL_law_1215 : decode cL_law 1215 = .ok (.iconst 3, 1) := by decide +kernel
theorem dL_law_1216 : decode cL_law 1216 = .ok (.iadd, 1) := by decide +kernel
theorem dL_law_1217 : decode cL_law 1217 = .ok (.iaload, 1) := by decide +kernel
theorem dL_law_1218 : decode cL_law 1218 = .ok (.aload_n 0, 1) := by decide +kernel
theorem dL_law_1219 : decode cL_law 1219 = .ok (.iload_n 3, 1) := by decide +kernel
theorem dL_law_1220 : decode cL_law 1220 = .ok (.iconst 4, 1) := by decide +kernel
theorem dL_law_1221 : decode cL_law 1221 = .ok (.iadd, 1) := by decide +kernel
theorem dL_law_1222 : decode cL_law 1222 = .ok (.iaload, 1) := by decide +kernel
theorem dL_law_1223 : decode cL_law 1223 = .ok (.aload_n 0, 1) := by decide +kernel
theorem dL_law_1224 : decode cL_law 1224 = .ok (.iload_n 3, 1) := by decide +kernel
theorem dL_law_1225 : decode cL_law 1225 = .ok (.iconst 5, 1) := by decide +kernel
theorem dL_law_1226 : decode cL_law 1226 = .ok (.iadd, 1) := by decide +kernel
theorem dL_law_1227 : decode cL_law 1227 = .ok (.iaload, 1) := by decide +kernel
theorem dL_law_1228 : decode cL_law 1228 = .ok (.ifCond .eq 7, 3) := by decide +kernel
theorem dL_law_1231 : decode cL_law 1231 = .ok (.iconst 1, 1) := by decide +kernel
theorem dL_law_1232 : decode cL_law 1232 = .ok (.goto 4, 3) := by decide +kernel
theorem dL_law_1235 : decode cL_law 1235 = .ok (.iconst 0, 1) := by decide +kernel
theorem dL_law_1236 : decode cL_law 1236 = .ok (.invokevirtual 132, 3) := by decide +kernel
theorem dL_law_1239 : decode cL_law 1239 = .ok (.lcmp, 1) := by decide +kernel
theorem dL_law_1240 : decode cL_law 1240 = .ok (.ifCond .eq 295, 3) := by decide +kernel
theorem dL_law_1243 : decode cL_law 1243 = .ok (.iconst 0, 1) := by decide +kernel
theorem dL_law_1244 : decode cL_law 1244 = .ok (.ireturn, 1) := by decide +kernel
theorem dL_law_1245 : decode cL_law 1245 = .ok (.aload_n 1, 1) := by decide +kernel
theorem dL_law_1246 : decode cL_law 1246 = .ok (.aload_n 0, 1) := by decide +kernel
theorem dL_law_1247 : decode cL_law 1247 = .ok (.iload_n 3, 1) := by decide +kernel
theorem dL_law_1248 : decode cL_law 1248 = .ok (.iconst 1, 1) := by decide +kernel
theorem dL_law_1249 : decode cL_law 1249 = .ok (.iadd, 1) := by decide +kernel
theorem dL_law_1250 : decode cL_law 1250 = .ok (.iaload, 1) := by decide +kernel
theorem dL_law_1251 : decode cL_law 1251 = .ok (.aload_n 0, 1) := by decide +kernel
theorem dL_law_1252 : decode cL_law 1252 = .ok (.iload_n 3, 1) := by decide +kernel
theorem dL_law_1253 : decode cL_law 1253 = .ok (.iconst 2, 1) := by decide +kernel
theorem dL_law_1254 : decode cL_law 1254 = .ok (.iadd, 1) := by decide +kernel
theorem dL_law_1255 : decode cL_law 1255 = .ok (.iaload, 1) := by decide +kernel
theorem dL_law_1256 : decode cL_law 1256 = .ok (.aload_n 0, 1) := by decide +kernel
theorem dL_law_1257 : decode cL_law 1257 = .ok (.iload_n 3, 1) := by decide +kernel
theorem dL_law_1258 : decode cL_law 1258 = .ok (.iconst 3, 1) := by decide +kernel
theorem dL_law_1259 : decode cL_law 1259 = .ok (.iadd, 1) := by decide +kernel
theorem dL_law_1260 : decode cL_law 1260 = .ok (.iaload, 1) := by decide +kernel
theorem dL_law_1261 : decode cL_law 1261 = .ok (.aload_n 0, 1) := by decide +kernel
theorem dL_law_1262 : decode cL_law 1262 = .ok (.iload_n 3, 1) := by decide +kernel
theorem dL_law_1263 : decode cL_law 1263 = .ok (.iconst 4, 1) := by decide +kernel
theorem dL_law_1264 : decode cL_law 1264 = .ok (.iadd, 1) := by decide +kernel
theorem dL_law_1265 : decode cL_law 1265 = .ok (.iaload, 1) := by decide +kernel
theorem dL_law_1266 : decode cL_law 1266 = .ok (.ifCond .eq 7, 3) := by decide +kernel
theorem dL_law_1269 : decode cL_law 1269 = .ok (.iconst 1, 1) := by decide +kernel
theorem dL_law_1270 : decode cL_law 1270 = .ok (.goto 4, 3) := by decide +kernel
theorem dL_law_1273 : decode cL_law 1273 = .ok (.iconst 0, 1) := by decide +kernel
theorem dL_law_1274 : decode cL_law 1274 = .ok (.invokevirtual 133, 3) := by decide +kernel
theorem dL_law_1277 : decode cL_law 1277 = .ok (.aload_n 2, 1) := by decide +kernel
theorem dL_law_1278 : decode cL_law 1278 = .ok (.aload_n 0, 1) := by decide +kernel
theorem dL_law_1279 : decode cL_law 1279 = .ok (.iload_n 3, 1) := by decide +kernel
theorem dL_law_1280 : decode cL_law 1280 = .ok (.iconst 1, 1) := by decide +kernel
theorem dL_law_1281 : decode cL_law 1281 = .ok (.iadd, 1) := by decide +kernel
theorem dL_law_1282 : decode cL_law 1282 = .ok (.iaload, 1) := by decide +kernel
theorem dL_law_1283 : decode cL_law 1283 = .ok (.aload_n 0, 1) := by decide +kernel
theorem dL_law_1284 : decode cL_law 1284 = .ok (.iload_n 3, 1) := by decide +kernel
theorem dL_law_1285 : decode cL_law 1285 = .ok (.iconst 2, 1) := by decide +kernel
theorem dL_law_1286 : decode cL_law 1286 = .ok (.iadd, 1) := by decide +kernel
theorem dL_law_1287 : decode cL_law 1287 = .ok (.iaload, 1) := by decide +kernel
theorem dL_law_1288 : decode cL_law 1288 = .ok (.aload_n 0, 1) := by decide +kernel
theorem dL_law_1289 : decode cL_law 1289 = .ok (.iload_n 3, 1) := by decide +kernel
theorem dL_law_1290 : decode cL_law 1290 = .ok (.iconst 3, 1) := by decide +kernel
theorem dL_law_1291 : decode cL_law 1291 = .ok (.iadd, 1) := by decide +kernel
theorem dL_law_1292 : decode cL_law 1292 = .ok (.iaload, 1) := by decide +kernel
theorem dL_law_1293 : decode cL_law 1293 = .ok (.aload_n 0, 1) := by decide +kernel
theorem dL_law_1294 : decode cL_law 1294 = .ok (.iload_n 3, 1) := by decide +kernel
theorem dL_law_1295 : decode cL_law 1295 = .ok (.iconst 4, 1) := by decide +kernel
theorem dL_law_1296 : decode cL_law 1296 = .ok (.iadd, 1) := by decide +kernel
theorem dL_law_1297 : decode cL_law 1297 = .ok (.iaload, 1) := by decide +kernel
theorem dL_law_1298 : decode cL_law 1298 = .ok (.ifCond .eq 7, 3) := by decide +kernel
theorem dL_law_1301 : decode cL_law 1301 = .ok (.iconst 1, 1) := by decide +kernel
theorem dL_law_1302 : decode cL_law 1302 = .ok (.goto 4, 3) := by decide +kernel
theorem dL_law_1305 : decode cL_law 1305 = .ok (.iconst 0, 1) := by decide +kernel
theorem dL_law_1306 : decode cL_law 1306 = .ok (.invokevirtual 136, 3) := by decide +kernel
theorem dL_law_1309 : decode cL_law 1309 = .ok (.if_icmp .eq 226, 3) := by decide +kernel
theorem dL_law_1312 : decode cL_law 1312 = .ok (.iconst 0, 1) := by decide +kernel
theorem dL_law_1313 : decode cL_law 1313 = .ok (.ireturn, 1) := by decide +kernel
theorem dL_law_1314 : decode cL_law 1314 = .ok (.aload_n 1, 1) := by decide +kernel
theorem dL_law_1315 : decode cL_law 1315 = .ok (.aload_n 0, 1) := by decide +kernel
theorem dL_law_1316 : decode cL_law 1316 = .ok (.iload_n 3, 1) := by decide +kernel
theorem dL_law_1317 : decode cL_law 1317 = .ok (.iconst 1, 1) := by decide +kernel
theorem dL_law_1318 : decode cL_law 1318 = .ok (.iadd, 1) := by decide +kernel
theorem dL_law_1319 : decode cL_law 1319 = .ok (.iaload, 1) := by decide +kernel
theorem dL_law_1320 : decode cL_law 1320 = .ok (.aload_n 0, 1) := by decide +kernel
theorem dL_law_1321 : decode cL_law 1321 = .ok (.iload_n 3, 1) := by decide +kernel
theorem dL_law_1322 : decode cL_law 1322 = .ok (.iconst 2, 1) := by decide +kernel
theorem dL_law_1323 : decode cL_law 1323 = .ok (.iadd, 1) := by decide +kernel
theorem dL_law_1324 : decode cL_law 1324 = .ok (.iaload, 1) := by decide +kernel
theorem dL_law_1325 : decode cL_law 1325 = .ok (.ifCond .eq 7, 3) := by decide +kernel
theorem dL_law_1328 : decode cL_law 1328 = .ok (.iconst 1, 1) := by decide +kernel
theorem dL_law_1329 : decode cL_law 1329 = .ok (.goto 4, 3) := by decide +kernel
theorem dL_law_1332 : decode cL_law 1332 = .ok (.iconst 0, 1) := by decide +kernel
theorem dL_law_1333 : decode cL_law 1333 = .ok (.invokevirtual 137, 3) := by decide +kernel
theorem dL_law_1336 : decode cL_law 1336 = .ok (.aload_n 2, 1) := by decide +kernel
theorem dL_law_1337 : decode cL_law 1337 = .ok (.aload_n 0, 1) := by decide +kernel
theorem dL_law_1338 : decode cL_law 1338 = .ok (.iload_n 3, 1) := by decide +kernel
theorem dL_law_1339 : decode cL_law 1339 = .ok (.iconst 1, 1) := by decide +kernel
theorem dL_law_1340 : decode cL_law 1340 = .ok (.iadd, 1) := by decide +kernel
theorem dL_law_1341 : decode cL_law 1341 = .ok (.iaload, 1) := by decide +kernel
theorem dL_law_1342 : decode cL_law 1342 = .ok (.aload_n 0, 1) := by decide +kernel
theorem dL_law_1343 : decode cL_law 1343 = .ok (.iload_n 3, 1) := by decide +kernel
theorem dL_law_1344 : decode cL_law 1344 = .ok (.iconst 2, 1) := by decide +kernel
theorem dL_law_1345 : decode cL_law 1345 = .ok (.iadd, 1) := by decide +kernel
theorem dL_law_1346 : decode cL_law 1346 = .ok (.iaload, 1) := by decide +kernel
theorem dL_law_1347 : decode cL_law 1347 = .ok (.ifCond .eq 7, 3) := by decide +kernel
theorem dL_law_1350 : decode cL_law 1350 = .ok (.iconst 1, 1) := by decide +kernel
theorem dL_law_1351 : decode cL_law 1351 = .ok (.goto 4, 3) := by decide +kernel
theorem dL_law_1354 : decode cL_law 1354 = .ok (.iconst 0, 1) := by decide +kernel
theorem dL_law_1355 : decode cL_law 1355 = .ok (.invokevirtual 141, 3) := by decide +kernel
theorem dL_law_1358 : decode cL_law 1358 = .ok (.if_icmp .eq 177, 3) := by decide +kernel
theorem dL_law_1361 : decode cL_law 1361 = .ok (.iconst 0, 1) := by decide +kernel
theorem dL_law_1362 : decode cL_law 1362 = .ok (.ireturn, 1) := by decide +kernel
theorem dL_law_1363 : decode cL_law 1363 = .ok (.aload_n 1, 1) := by decide +kernel
theorem dL_law_1364 : decode cL_law 1364 = .ok (.invokevirtual 142, 3) := by decide +kernel
theorem dL_law_1367 : decode cL_law 1367 = .ok (.aload_n 2, 1) := by decide +kernel
theorem dL_law_1368 : decode cL_law 1368 = .ok (.invokevirtual 145, 3) := by decide +kernel
theorem dL_law_1371 : decode cL_law 1371 = .ok (.if_icmp .eq 164, 3) := by decide +kernel
theorem dL_law_1374 : decode cL_law 1374 = .ok (.iconst 0, 1) := by decide +kernel
theorem dL_law_1375 : decode cL_law 1375 = .ok (.ireturn, 1) := by decide +kernel
theorem dL_law_1376 : decode cL_law 1376 = .ok (.aload_n 1, 1) := by decide +kernel
theorem dL_law_1377 : decode cL_law 1377 = .ok (.aload_n 0, 1) := by decide +kernel
theorem dL_law_1378 : decode cL_law 1378 = .ok (.iload_n 3, 1) := by decide +kernel
theorem dL_law_1379 : decode cL_law 1379 = .ok (.iconst 1, 1) := by decide +kernel
theorem dL_law_1380 : decode cL_law 1380 = .ok (.iadd, 1) := by decide +kernel
theorem dL_law_1381 : decode cL_law 1381 = .ok (.iaload, 1) := by decide +kernel
theorem dL_law_1382 : decode cL_law 1382 = .ok (.ifCond .eq 7, 3) := by decide +kernel
theorem dL_law_1385 : decode cL_law 1385 = .ok (.iconst 1, 1) := by decide +kernel
theorem dL_law_1386 : decode cL_law 1386 = .ok (.goto 4, 3) := by decide +kernel
theorem dL_law_1389 : decode cL_law 1389 = .ok (.iconst 0, 1) := by decide +kernel
theorem dL_law_1390 : decode cL_law 1390 = .ok (.invokevirtual 146, 3) := by decide +kernel
theorem dL_law_1393 : decode cL_law 1393 = .ok (.aload_n 2, 1) := by decide +kernel
theorem dL_law_1394 : decode cL_law 1394 = .ok (.aload_n 0, 1) := by decide +kernel
theorem dL_law_1395 : decode cL_law 1395 = .ok (.iload_n 3, 1) := by decide +kernel
theorem dL_law_1396 : decode cL_law 1396 = .ok (.iconst 1, 1) := by decide +kernel
theorem dL_law_1397 : decode cL_law 1397 = .ok (.iadd, 1) := by decide +kernel
theorem dL_law_1398 : decode cL_law 1398 = .ok (.iaload, 1) := by decide +kernel
theorem dL_law_1399 : decode cL_law 1399 = .ok (.ifCond .eq 7, 3) := by decide +kernel
theorem dL_law_1402 : decode cL_law 1402 = .ok (.iconst 1, 1) := by decide +kernel
theorem dL_law_1403 : decode cL_law 1403 = .ok (.goto 4, 3) := by decide +kernel
theorem dL_law_1406 : decode cL_law 1406 = .ok (.iconst 0, 1) := by decide +kernel
theorem dL_law_1407 : decode cL_law 1407 = .ok (.invokevirtual 150, 3) := by decide +kernel
theorem dL_law_1410 : decode cL_law 1410 = .ok (.lcmp, 1) := by decide +kernel
theorem dL_law_1411 : decode cL_law 1411 = .ok (.ifCond .eq 124, 3) := by decide +kernel
theorem dL_law_1414 : decode cL_law 1414 = .ok (.iconst 0, 1) := by decide +kernel
theorem dL_law_1415 : decode cL_law 1415 = .ok (.ireturn, 1) := by decide +kernel
theorem dL_law_1416 : decode cL_law 1416 = .ok (.aload_n 1, 1) := by decide +kernel
theorem dL_law_1417 : decode cL_law 1417 = .ok (.aload_n 0, 1) := by decide +kernel
theorem dL_law_1418 : decode cL_law 1418 = .ok (.iload_n 3, 1) := by decide +kernel
theorem dL_law_1419 : decode cL_law 1419 = .ok (.iconst 1, 1) := by decide +kernel
theorem dL_law_1420 : decode cL_law 1420 = .ok (.iadd, 1) := by decide +kernel
theorem dL_law_1421 : decode cL_law 1421 = .ok (.iaload, 1) := by decide +kernel
theorem dL_law_1422 : decode cL_law 1422 = .ok (.aload_n 0, 1) := by decide +kernel
theorem dL_law_1423 : decode cL_law 1423 = .ok (.iload_n 3, 1) := by decide +kernel
theorem dL_law_1424 : decode cL_law 1424 = .ok (.iconst 2, 1) := by decide +kernel
theorem dL_law_1425 : decode cL_law 1425 = .ok (.iadd, 1) := by decide +kernel
theorem dL_law_1426 : decode cL_law 1426 = .ok (.iaload, 1) := by decide +kernel
theorem dL_law_1427 : decode cL_law 1427 = .ok (.ifCond .eq 7, 3) := by decide +kernel
theorem dL_law_1430 : decode cL_law 1430 = .ok (.iconst 1, 1) := by decide +kernel
theorem dL_law_1431 : decode cL_law 1431 = .ok (.goto 4, 3) := by decide +kernel
theorem dL_law_1434 : decode cL_law 1434 = .ok (.iconst 0, 1) := by decide +kernel
theorem dL_law_1435 : decode cL_law 1435 = .ok (.invokevirtual 151, 3) := by decide +kernel
theorem dL_law_1438 : decode cL_law 1438 = .ok (.aload_n 2, 1) := by decide +kernel
theorem dL_law_1439 : decode cL_law 1439 = .ok (.aload_n 0, 1) := by decide +kernel
theorem dL_law_1440 : decode cL_law 1440 = .ok (.iload_n 3, 1) := by decide +kernel
theorem dL_law_1441 : decode cL_law 1441 = .ok (.iconst 1, 1) := by decide +kernel
theorem dL_law_1442 : decode cL_law 1442 = .ok (.iadd, 1) := by decide +kernel
theorem dL_law_1443 : decode cL_law 1443 = .ok (.iaload, 1) := by decide +kernel
theorem dL_law_1444 : decode cL_law 1444 = .ok (.aload_n 0, 1) := by decide +kernel
theorem dL_law_1445 : decode cL_law 1445 = .ok (.iload_n 3, 1) := by decide +kernel
theorem dL_law_1446 : decode cL_law 1446 = .ok (.iconst 2, 1) := by decide +kernel
theorem dL_law_1447 : decode cL_law 1447 = .ok (.iadd, 1) := by decide +kernel
theorem dL_law_1448 : decode cL_law 1448 = .ok (.iaload, 1) := by decide +kernel
theorem dL_law_1449 : decode cL_law 1449 = .ok (.ifCond .eq 7, 3) := by decide +kernel
theorem dL_law_1452 : decode cL_law 1452 = .ok (.iconst 1, 1) := by decide +kernel
theorem dL_law_1453 : decode cL_law 1453 = .ok (.goto 4, 3) := by decide +kernel
theorem dL_law_1456 : decode cL_law 1456 = .ok (.iconst 0, 1) := by decide +kernel
theorem dL_law_1457 : decode cL_law 1457 = .ok (.invokevirtual 154, 3) := by decide +kernel
theorem dL_law_1460 : decode cL_law 1460 = .ok (.lcmp, 1) := by decide +kernel
theorem dL_law_1461 : decode cL_law 1461 = .ok (.ifCond .eq 74, 3) := by decide +kernel
theorem dL_law_1464 : decode cL_law 1464 = .ok (.iconst 0, 1) := by decide +kernel
theorem dL_law_1465 : decode cL_law 1465 = .ok (.ireturn, 1) := by decide +kernel
theorem dL_law_1466 : decode cL_law 1466 = .ok (.aload_n 1, 1) := by decide +kernel
theorem dL_law_1467 : decode cL_law 1467 = .ok (.aload_n 0, 1) := by decide +kernel
theorem dL_law_1468 : decode cL_law 1468 = .ok (.iload_n 3, 1) := by decide +kernel
theorem dL_law_1469 : decode cL_law 1469 = .ok (.iconst 1, 1) := by decide +kernel
theorem dL_law_1470 : decode cL_law 1470 = .ok (.iadd, 1) := by decide +kernel
theorem dL_law_1471 : decode cL_law 1471 = .ok (.iaload, 1) := by decide +kernel
theorem dL_law_1472 : decode cL_law 1472 = .ok (.invokevirtual 155, 3) := by decide +kernel
theorem dL_law_1475 : decode cL_law 1475 = .ok (.aload_n 2, 1) := by decide +kernel
theorem dL_law_1476 : decode cL_law 1476 = .ok (.aload_n 0, 1) := by decide +kernel
theorem dL_law_1477 : decode cL_law 1477 = .ok (.iload_n 3, 1) := by decide +kernel
theorem dL_law_1478 : decode cL_law 1478 = .ok (.iconst 1, 1) := by decide +kernel
theorem dL_law_1479 : decode cL_law 1479 = .ok (.iadd, 1) := by decide +kernel
theorem dL_law_1480 : decode cL_law 1480 = .ok (.iaload, 1) := by decide +kernel
theorem dL_law_1481 : decode cL_law 1481 = .ok (.invokevirtual 158, 3) := by decide +kernel
theorem dL_law_1484 : decode cL_law 1484 = .ok (.if_icmp .eq 51, 3) := by decide +kernel
theorem dL_law_1487 : decode cL_law 1487 = .ok (.iconst 0, 1) := by decide +kernel
theorem dL_law_1488 : decode cL_law 1488 = .ok (.ireturn, 1) := by decide +kernel
theorem dL_law_1489 : decode cL_law 1489 = .ok (.aload_n 1, 1) := by decide +kernel
theorem dL_law_1490 : decode cL_law 1490 = .ok (.aload_n 0, 1) := by decide +kernel
theorem dL_law_1491 : decode cL_law 1491 = .ok (.iload_n 3, 1) := by decide +kernel
theorem dL_law_1492 : decode cL_law 1492 = .ok (.iconst 1, 1) := by decide +kernel
theorem dL_law_1493 : decode cL_law 1493 = .ok (.iadd, 1) := by decide +kernel
theorem dL_law_1494 : decode cL_law 1494 = .ok (.iaload, 1) := by decide +kernel
theorem dL_law_1495 : decode cL_law 1495 = .ok (.invokevirtual 159, 3) := by decide +kernel
theorem dL_law_1498 : decode cL_law 1498 = .ok (.aload_n 2, 1) := by decide +kernel
theorem dL_law_1499 : decode cL_law 1499 = .ok (.aload_n 0, 1) := by decide +kernel
theorem dL_law_1500 : decode cL_law 1500 = .ok (.iload_n 3, 1) := by decide +kernel
theorem dL_law_1501 : decode cL_law 1501 = .ok (.iconst 1, 1) := by decide +kernel
theorem dL_law_1502 : decode cL_law 1502 = .ok (.iadd, 1) := by decide +kernel
theorem dL_law_1503 : decode cL_law 1503 = .ok (.iaload, 1) := by decide +kernel
theorem dL_law_1504 : decode cL_law 1504 = .ok (.invokevirtual 162, 3) := by decide +kernel
theorem dL_law_1507 : decode cL_law 1507 = .ok (.if_icmp .eq 28, 3) := by decide +kernel
theorem dL_law_1510 : decode cL_law 1510 = .ok (.iconst 0, 1) := by decide +kernel
theorem dL_law_1511 : decode cL_law 1511 = .ok (.ireturn, 1) := by decide +kernel
theorem dL_law_1512 : decode cL_law 1512 = .ok (.aload_n 1, 1) := by decide +kernel
theorem dL_law_1513 : decode cL_law 1513 = .ok (.aload_n 0, 1) := by decide +kernel
theorem dL_law_1514 : decode cL_law 1514 = .ok (.iload_n 3, 1) := by decide +kernel
theorem dL_law_1515 : decode cL_law 1515 = .ok (.iconst 1, 1) := by decide +kernel
theorem dL_law_1516 : decode cL_law 1516 = .ok (.iadd, 1) := by decide +kernel
theorem dL_law_1517 : decode cL_law 1517 = .ok (.iaload, 1) := by decide +kernel
theorem dL_law_1518 : decode cL_law 1518 = .ok (.invokevirtual 163, 3) := by decide +kernel
theorem dL_law_1521 : decode cL_law 1521 = .ok (.aload_n 2, 1) := by decide +kernel
theorem dL_law_1522 : decode cL_law 1522 = .ok (.aload_n 0, 1) := by decide +kernel
theorem dL_law_1523 : decode cL_law 1523 = .ok (.iload_n 3, 1) := by decide +kernel
theorem dL_law_1524 : decode cL_law 1524 = .ok (.iconst 1, 1) := by decide +kernel
theorem dL_law_1525 : decode cL_law 1525 = .ok (.iadd, 1) := by decide +kernel
theorem dL_law_1526 : decode cL_law 1526 = .ok (.iaload, 1) := by decide +kernel
theorem dL_law_1527 : decode cL_law 1527 = .ok (.invokevirtual 166, 3) := by decide +kernel
theorem dL_law_1530 : decode cL_law 1530 = .ok (.if_icmp .eq 5, 3) := by decide +kernel
theorem dL_law_1533 : decode cL_law 1533 = .ok (.iconst 0, 1) := by decide +kernel
theorem dL_law_1534 : decode cL_law 1534 = .ok (.ireturn, 1) := by decide +kernel
theorem dL_law_1535 : decode cL_law 1535 = .ok (.iinc 3 6, 3) := by decide +kernel
theorem dL_law_1538 : decode cL_law 1538 = .ok (.goto (-1520), 3) := by decide +kernel
theorem dL_law_1541 : decode cL_law 1541 = .ok (.iconst 1, 1) := by decide +kernel
theorem dL_law_1542 : decode cL_law 1542 = .ok (.ireturn, 1) := by decide +kernel
end
section
/-! my base: one word list for all methods, nest words, contracts that read and that write, call rows, loops as functions -/
def aw : List Cond := lw_tbl.filter goodWord
theorem aw_mem {w : Cond} (h : w ∈ lw_tbl) (hg : goodWord w = true) : w ∈ aw := List.mem_filter.mpr ⟨h, hg⟩
theorem aw_at (i : Nat) {w : Cond} (h : lw_tbl[i]? = some w) (hg : goodWord w = true) : w ∈ aw := aw_mem (List.mem_of_getElem? h) hg
theorem aw_good {w : Cond} (h : w ∈ aw) : (w.onTables && w.keeps) = true ∨ ∃ ty, w = .arrayClass ty := good_of_word (List.mem_filter.mp h).2
theorem aw_all {ws : List Cond} (h : ws.all (fun w => decide (w ∈ lw_tbl) && goodWord w) = true) : ∀ w ∈ ws, w ∈ aw := fun w hw => by
  have h1 := List.all_eq_true.mp h w hw
  simp only [Bool.and_eq_true, decide_eq_true_eq] at h1
  exact aw_mem h1.1 h1.2
def isNest : Cond → Bool
  | .methodLinkNest _ _ _ _ => true
  | .fieldLinkNest _ _ _ _ _ _ => true
  | _ => false
def nwA (U : State) : Prop := ∀ w ∈ lw_tbl, isNest w = true → va_Nw w U
theorem nw_warm {s U : State} (hW : s.WarmedH U.vm) (h : nwA s) : nwA U := fun w hw hn => by
  have h1 := h w hw hn
  cases w <;> first | (simp [isNest] at hn; done) | exact va_Nw.warmM hW h1 | exact va_Nw.warmF hW h1
theorem nw_same {s U : State} (e : s.vm = U.vm) (h : nwA s) : nwA U := fun w hw hn => by
  have h1 := h w hw hn
  cases w <;> first | (simp [isNest] at hn; done) | exact va_Nw.same rfl e h1
abbrev wq (y : MethodName) (c : ByteArray) (n : Nat) (r : Option FieldType) : List Cond := Cond.code y c n r :: aw
abbrev ty3 (cI cJ cZ : ClassId) : List (ClassId × FieldType) := [(cI, .int), (cJ, .long), (cZ, .boolean)]
/-- a start: the arguments, the world, the tables -/
def Pq (av : List Value) (D : va_G) (cI cJ cZ : ClassId) (ws : va_W) : Array Value → State → Prop := fun v U => v = av.toArray ∧ va_P D vwCl ws U.heap ∧ va_K D vwCl (ty3 cI cJ cZ) U ∧ nwA U
/-- an end that read -/
def Qq (r : Option Value) : Array Value → State → Outcome → State → Prop := fun _ st oc t => oc = .returned r ∧ t.heap = st.heap
/-- an end that wrote the cells at the places ms -/
def Qw (D : va_G) (A : Nat → Prop) (ws : va_W) (ms : List Nat) (r : Option Value) (B : va_W → Prop) : Array Value → State → Outcome → State → Prop := fun _ st oc t => oc = .returned r ∧ (∃ ws' : va_W, va_P D vwCl ws' t.heap ∧ va_D A ws' ∧ (∀ j : Nat, j ∉ ms → ws'[j]? = ws[j]?) ∧ B ws') ∧ va_F A st t
def Cx (y : MethodName) (cc : ByteArray) (maxL : Nat) (ret : Option FieldType) (D : va_G) (cI cJ cZ : ClassId) (p : Program) (s : State) (m : MethodId) (args : Array Value) (meth : Method) (c : Code) : Prop :=
  p.tables.exec = Jvm.exec ∧ c.code = cc ∧ meth.sig.returnType = ret ∧ c.maxLocals = maxL ∧ s.vm.findClass y.cls = some m.cls ∧ (∀ w ∈ aw, w.before args s = true) ∧ meth.locks = false ∧ va_K D vwCl (ty3 cI cJ cZ) s ∧ nwA s
theorem mq_of {l : Launch} {y : MethodName} {cc : ByteArray} {maxL : Nat} {ret : Option FieldType} {rm : Room} {av : List Value} {D : va_G} {cI cJ cZ : ClassId} {ws : va_W} {Qc : Array Value → State → Outcome → State → Prop} {free : Addr → Prop} {mc ms : Nat} (hy : plainName y.cls = true) (hlen : (lg_sl av).length ≤ maxL)
    (body : ∀ (p : Program) (e : Env) (s : State) (m : MethodId) (args : Array Value) (below : List Frame) (meth : Method) (c : Code) (ls : Array Slot) (Q : State → Prop), Q = MQ below Qc args s mc ms free → Cx y cc maxL ret D cI cJ cZ p s m args meth c → (y.name = "<init>" → meth.name = "<init>") → va_P D vwCl ws s.heap → lv_has ls maxL (lv_args 0 av) → W p l e rm s m args below meth c s.heap [] 0 0 Q (F0 m 0 ls [])) :
    Met l y (wq y cc maxL ret) rm (Pq av D cI cJ cZ ws) Qc mc ms free := by
  refine Met.ofW (cc := cc) (maxL := maxL) (ret := ret) hy rfl ?_
  intro p e s m args below meth c s₁ B hml hv
  obtain ⟨rfl, hP, hK, hN⟩ := hv
  have hts := atoms_spec (ws := wq y cc maxL ret) B.pre
  have hown : s.vm.findClass y.cls = some m.cls := findClass_of_methodNamed B.named
  have hl := lv_entry av (n := maxL) hlen
  rw [lg_entry_eq]
  generalize (lg_sl av ++ List.replicate (maxL - (lg_sl av).length) Slot.unset).toArray = ls at hl ⊢
  exact body p e s m av.toArray below meth c ls _ rfl ⟨B.exec, B.bytes, B.returns, hml, hown, fun w h => hts w (List.mem_cons_of_mem _ h), B.notSynchronized, hK, hN⟩ (fun h => (name_of_methodNamed B.named B.method).1.trans h) hP hl
theorem Pq_blind {av : List Value} {D : va_G} {cI cJ cZ : ClassId} {ws : va_W} : FrameBlind (Pq av D cI cJ cZ ws) := fun a U g mk q => by
  obtain ⟨q0, qP, qK, qN⟩ := q
  exact ⟨q0, qP, va_K.moved (u := U) (U := U.calling g mk a) (Vm.Alike.refl U.vm) qK, nw_same (s := U) (U := U.calling g mk a) rfl qN⟩
theorem Pq_pre {av : List Value} {D : va_G} {cI cJ cZ : ClassId} {ws : va_W} {H : Heap} {s : State} (hP : va_P D vwCl ws H) (hK : va_K D vwCl (ty3 cI cJ cZ) s) (hN : nwA s) : ∀ U : State, U.heap = H → s.WarmedH U.vm → Pq av D cI cJ cZ ws av.toArray U := fun U hU hW => ⟨rfl, by rw [hU]; exact hP, va_K.moved hW.alike hK, nw_warm hW hN⟩
/-- what the tables say of a method that is called on an object, statically, or as a constructor -/
def cqB (y : MethodName) (bytes : ByteArray) (maxL : Nat) (ret : Option FieldType) (n : Nat) : Prop := Cond.code y bytes maxL ret ∈ aw ∧ Cond.initialized y.cls ∈ aw ∧ (y.cls ≠ "java/lang/invoke/MethodHandle" ∧ y.cls ≠ "java/lang/invoke/VarHandle" ∧ (parseMethodDescriptor y.desc).map (fun d => d.parameters.length) = some n)
def cqV (y : MethodName) (bytes : ByteArray) (maxL : Nat) (ret : Option FieldType) (n : Nat) : Prop := cqB y bytes maxL ret n ∧ Cond.instanceMethod y ∈ aw ∧ Cond.selects y.cls y y ∈ aw
def cqS (y : MethodName) (bytes : ByteArray) (maxL : Nat) (ret : Option FieldType) (n : Nat) : Prop := cqB y bytes maxL ret n ∧ Cond.static y ∈ aw
def cqI (y : MethodName) (bytes : ByteArray) (maxL : Nat) (n : Nat) : Prop := cqB y bytes maxL none n ∧ Cond.instanceMethod y ∈ aw ∧ y.name = "<init>"
theorem aw_pay {y : MethodName} {bytes : ByteArray} {maxL : Nat} {ret : Option FieldType} {args : Array Value} {s : State} (hts : ∀ w ∈ aw, w.before args s = true) (hc : Cond.code y bytes maxL ret ∈ aw) : ∀ w ∈ wq y bytes maxL ret, ∀ (a' : Array Value) (U : State), s.WarmedH U.vm → w.before a' U = true := fun w hw a' U hW => by
  have h1 : w ∈ aw := by
    rcases List.mem_cons.mp hw with h | h
    · rw [h]; exact hc
    · exact h
  exact word_at hW (aw_good h1) (hts w h1)
section CALLS
variable {p : Program} {l : Launch} {e : Env} {R : Room} {s : State} {m : MethodId} {args : Array Value} {below : List Frame} {meth : Method} {c : Code} {H : Heap} {locs : List Loc} {cells slots : Nat} {Q : State → Prop}
variable {y y0 : MethodName} {bytes cc : ByteArray} {maxL nL mc ms n index : Nat} {ret ret0 : Option FieldType} {rm : Room} {Qc : Array Value → State → Outcome → State → Prop} {free : Addr → Prop} {own C : String} {b : Addr} {As rest : List Value} {pc : Nat} {ls : Array Slot} {st : List Value} {D : va_G} {cI cJ cZ : ClassId} {ws : va_W}
theorem cq_B (hts : ∀ w ∈ aw, w.before args s = true) (hq : cqB y bytes maxL ret n) (hlk : Cond.methodLink own index y ∈ aw) (hrc : rm.cells = mc) (hrs : rm.slots = ms) (hR : rm.frames + 1 ≤ R.frames ∧ 8 + (maxL + 11) + rm.locals ≤ R.locals) : CallB R s args own index y bytes maxL ret (wq y bytes maxL ret) rm mc ms n := by
  obtain ⟨h1, h2, h3, h4, h5⟩ := hq
  refine ⟨hrc, hrs, hR.1, hR.2, aw_pay hts h1, List.mem_cons_self, hts _ h1, hts _ h2, ⟨h3, h4⟩, fun sig h => ?_, hts _ hlk⟩
  rw [h] at h5
  exact (Option.some.inj h5).symm
theorem cq_N {host : String} (hts : ∀ w ∈ aw, w.before args s = true) (hN : nwA s) (hq : cqB y bytes maxL ret n) (hlk : Cond.methodLinkNest own index y host ∈ lw_tbl) (hrc : rm.cells = mc) (hrs : rm.slots = ms) (hR : rm.frames + 1 ≤ R.frames ∧ 8 + (maxL + 11) + rm.locals ≤ R.locals) : va_CN R s args own index y host bytes maxL ret (wq y bytes maxL ret) rm mc ms n := by
  obtain ⟨h1, h2, h3, h4, h5⟩ := hq
  refine ⟨⟨hrc, hrs, hR.1, hR.2, aw_pay hts h1, List.mem_cons_self⟩, hts _ h1, hts _ h2, ⟨h3, h4⟩, fun sig h => ?_, va_Nw.use rfl (hN _ hlk rfl)⟩
  rw [h] at h5
  exact (Option.some.inj h5).symm
/-- a private method of the own class, on an object -/
theorem runV (X : Cx y0 cc nL ret0 D cI cJ cZ p s m args meth c) (hq : cqV y bytes maxL ret n) (hlk : Cond.methodLink y0.cls index y ∈ aw) (hM : Met l y (wq y bytes maxL ret) rm (Pq (.ref b :: As) D cI cJ cZ ws) Qc mc ms free) (hrc : rm.cells = mc) (hrs : rm.slots = ms) (hR : rm.frames + 1 ≤ R.frames ∧ 8 + (maxL + 11) + rm.locals ≤ R.locals) (hP : va_P D vwCl ws H) {q0 ci N : Nat} {T : u_T} {fs : List Value} (he : ws[q0]? = some (b, .inr (ci, fs))) (hc : vwCl[ci]? = some (y.cls, T, N)) (hn : As.length = n) (hsize : ls.size = nL) (hstack : st = As.reverse ++ .ref b :: rest) (hW : (rest.map fun v => v.category).sum ≤ 8) (hdg : decode cc pc = .ok (.invokevirtual index, 3)) (hf : cells + mc ≤ R.cells ∧ slots + ms ≤ R.slots) :
    va_Run p l e R s m args below meth c H locs cells slots mc ms (F0 m pc ls st) rest (Qc (Value.ref b :: As).toArray) free := by
  obtain ⟨hx, hb, hr, hml, hown, hts, hlk0, hK, hN⟩ := X
  exact va_runV ⟨hx, hb, hml, hown, hts⟩ hM ⟨cq_B hts hq.1 hlk hrc hrs hR, hts _ hq.2.1, hts _ hq.2.2⟩ ⟨Pq_blind, va_recv hK hP hc he, Pq_pre hP hK hN⟩ rfl hn hsize hstack (lv_room hW) hdg hf
/-- a private method of a nest mate, on an object -/
theorem runVN {host : String} (X : Cx y0 cc nL ret0 D cI cJ cZ p s m args meth c) (hq : cqV y bytes maxL ret n) (hlk : Cond.methodLinkNest y0.cls index y host ∈ lw_tbl) (hM : Met l y (wq y bytes maxL ret) rm (Pq (.ref b :: As) D cI cJ cZ ws) Qc mc ms free) (hrc : rm.cells = mc) (hrs : rm.slots = ms) (hR : rm.frames + 1 ≤ R.frames ∧ 8 + (maxL + 11) + rm.locals ≤ R.locals) (hP : va_P D vwCl ws H) {q0 ci N : Nat} {T : u_T} {fs : List Value} (he : ws[q0]? = some (b, .inr (ci, fs))) (hc : vwCl[ci]? = some (y.cls, T, N)) (hn : As.length = n) (hsize : ls.size = nL) (hstack : st = As.reverse ++ .ref b :: rest) (hW : (rest.map fun v => v.category).sum ≤ 8) (hdg : decode cc pc = .ok (.invokevirtual index, 3)) (hf : cells + mc ≤ R.cells ∧ slots + ms ≤ R.slots) :
    va_Run p l e R s m args below meth c H locs cells slots mc ms (F0 m pc ls st) rest (Qc (Value.ref b :: As).toArray) free := by
  obtain ⟨hx, hb, hr, hml, hown, hts, hlk0, hK, hN⟩ := X
  exact va_runVN ⟨hx, hb, hml, hown, hts⟩ hM ⟨cq_N hts hN hq.1 hlk hrc hrs hR, hts _ hq.2.1, hts _ hq.2.2⟩ ⟨Pq_blind, va_recv hK hP hc he, Pq_pre hP hK hN⟩ rfl hn hsize hstack (lv_room hW) hdg hf
theorem runS (X : Cx y0 cc nL ret0 D cI cJ cZ p s m args meth c) (hq : cqS y bytes maxL ret n) (hlk : Cond.methodLink y0.cls index y ∈ aw) (hM : Met l y (wq y bytes maxL ret) rm (Pq As D cI cJ cZ ws) Qc mc ms free) (hrc : rm.cells = mc) (hrs : rm.slots = ms) (hR : rm.frames + 1 ≤ R.frames ∧ 8 + (maxL + 11) + rm.locals ≤ R.locals) (hP : va_P D vwCl ws H) (hn : As.length = n) (hsize : ls.size = nL) (hstack : st = As.reverse ++ rest) (hW : (rest.map fun v => v.category).sum ≤ 8) (hdg : decode cc pc = .ok (.invokestatic index, 3)) (hf : cells + mc ≤ R.cells ∧ slots + ms ≤ R.slots) :
    va_Run p l e R s m args below meth c H locs cells slots mc ms (F0 m pc ls st) rest (Qc As.toArray) free := by
  obtain ⟨hx, hb, hr, hml, hown, hts, hlk0, hK, hN⟩ := X
  exact va_runS ⟨hx, hb, hml, hown, hts⟩ hM ⟨cq_B hts hq.1 hlk hrc hrs hR, hts _ hq.2⟩ ⟨Pq_blind, Pq_pre hP hK hN⟩ rfl hn hsize hstack (lv_room hW) hdg hf
theorem runSN {host : String} (X : Cx y0 cc nL ret0 D cI cJ cZ p s m args meth c) (hq : cqS y bytes maxL ret n) (hlk : Cond.methodLinkNest y0.cls index y host ∈ lw_tbl) (hM : Met l y (wq y bytes maxL ret) rm (Pq As D cI cJ cZ ws) Qc mc ms free) (hrc : rm.cells = mc) (hrs : rm.slots = ms) (hR : rm.frames + 1 ≤ R.frames ∧ 8 + (maxL + 11) + rm.locals ≤ R.locals) (hP : va_P D vwCl ws H) (hn : As.length = n) (hsize : ls.size = nL) (hstack : st = As.reverse ++ rest) (hW : (rest.map fun v => v.category).sum ≤ 8) (hdg : decode cc pc = .ok (.invokestatic index, 3)) (hf : cells + mc ≤ R.cells ∧ slots + ms ≤ R.slots) :
    va_Run p l e R s m args below meth c H locs cells slots mc ms (F0 m pc ls st) rest (Qc As.toArray) free := by
  obtain ⟨hx, hb, hr, hml, hown, hts, hlk0, hK, hN⟩ := X
  exact va_runSN ⟨hx, hb, hml, hown, hts⟩ hM ⟨cq_N hts hN hq.1 hlk hrc hrs hR, hts _ hq.2, trivial⟩ ⟨Pq_blind, Pq_pre hP hK hN⟩ rfl hn hsize hstack (lv_room hW) hdg hf
/-- behind a call that read -/
theorem rd_call {v : Option Value} {a : Array Value} (hr : va_Run p l e R s m args below meth c H locs cells slots 0 0 (F0 m pc ls st) rest (Qq v a) (fun _ => False)) (kk : W p l e R s m args below meth c H locs cells slots Q (F0 m (pc + 3) ls (v.toList ++ rest))) : W p l e R s m args below meth c H locs cells slots Q (F0 m pc ls st) := by
  intro T hT X
  obtain ⟨v', st₀, t, T', L, h0, X', hL, e1, e2, ⟨hv, hh⟩, sx⟩ := hr T hT X
  cases hv
  obtain ⟨t2, a1, b1⟩ := kk T' (by rw [e1, hh, h0]) (Stand.forget X' (fun q h => (hL q h).elim))
  exact ⟨t2, sx t2 a1, b1⟩
theorem rd_i {r : Int32} {a : Array Value} (hr : va_Run p l e R s m args below meth c H locs cells slots 0 0 (F0 m pc ls st) rest (Qq (some (.int r)) a) (fun _ => False)) (kk : W p l e R s m args below meth c H locs cells slots Q (F0 m (pc + 3) ls (.int r :: rest))) : W p l e R s m args below meth c H locs cells slots Q (F0 m pc ls st) := rd_call hr kk
theorem rd_l {r : Int64} {a : Array Value} (hr : va_Run p l e R s m args below meth c H locs cells slots 0 0 (F0 m pc ls st) rest (Qq (some (.long r)) a) (fun _ => False)) (kk : W p l e R s m args below meth c H locs cells slots Q (F0 m (pc + 3) ls (.long r :: rest))) : W p l e R s m args below meth c H locs cells slots Q (F0 m pc ls st) := rd_call hr kk
theorem rd_a {r : Nat} {a : Array Value} (hr : va_Run p l e R s m args below meth c H locs cells slots 0 0 (F0 m pc ls st) rest (Qq (some (.ref r)) a) (fun _ => False)) (kk : W p l e R s m args below meth c H locs cells slots Q (F0 m (pc + 3) ls (.ref r :: rest))) : W p l e R s m args below meth c H locs cells slots Q (F0 m pc ls st) := rd_call hr kk
theorem rd_v {a : Array Value} (hr : va_Run p l e R s m args below meth c H locs cells slots 0 0 (F0 m pc ls st) rest (Qq none a) (fun _ => False)) (kk : W p l e R s m args below meth c H locs cells slots Q (F0 m (pc + 3) ls rest)) : W p l e R s m args below meth c H locs cells slots Q (F0 m pc ls st) := rd_call hr kk
/-- behind a call that wrote -/
theorem wr_call {v : Option Value} {a : Array Value} {A : Nat → Prop} {H0 : Heap} {mz : List Nat} {B : va_W → Prop} (hr : va_Run p l e R s m args below meth c H locs cells slots 0 0 (F0 m pc ls st) rest (Qw D A ws mz v B a) A) (hS : va_S A H0 H locs)
    (kk : ∀ (ws' : va_W) (H1 : Heap) (locs1 : List Loc), va_P D vwCl ws' H1 → va_D A ws' → (∀ j : Nat, j ∉ mz → ws'[j]? = ws[j]?) → B ws' → va_S A H0 H1 locs1 → W p l e R s m args below meth c H1 locs1 cells slots Q (F0 m (pc + 3) ls (v.toList ++ rest))) : W p l e R s m args below meth c H locs cells slots Q (F0 m pc ls st) := by
  intro T hT X
  obtain ⟨v', st₀, t, T', L, h0, X', hL, e1, e2, ⟨hv, ⟨ws', hP, hD, hs, hB⟩, hz, hk⟩, sx⟩ := hr T hT X
  cases hv
  rw [h0] at hz hk
  obtain ⟨t2, a1, b1⟩ := kk ws' T'.heap (locs ++ L) (by rw [e1]; exact hP) hD hs hB
    ⟨Nat.le_trans hS.1 (by rw [e1]; exact hz), fun q h1 h2 => by rw [e1, hk q (Nat.lt_of_lt_of_le h1 hS.1) h2]; exact hS.2.1 q h1 h2, fun q hq => by
      rcases List.mem_append.mp hq with h | h
      · exact hS.2.2 q h
      · exact hL q h⟩ T' rfl X'
  exact ⟨t2, sx t2 a1, b1⟩
theorem wr_i {r : Int32} {a : Array Value} {A : Nat → Prop} {H0 : Heap} {mz : List Nat} {B : va_W → Prop} (hr : va_Run p l e R s m args below meth c H locs cells slots 0 0 (F0 m pc ls st) rest (Qw D A ws mz (some (.int r)) B a) A) (hS : va_S A H0 H locs)
    (kk : ∀ (ws' : va_W) (H1 : Heap) (locs1 : List Loc), va_P D vwCl ws' H1 → va_D A ws' → (∀ j : Nat, j ∉ mz → ws'[j]? = ws[j]?) → B ws' → va_S A H0 H1 locs1 → W p l e R s m args below meth c H1 locs1 cells slots Q (F0 m (pc + 3) ls (.int r :: rest))) : W p l e R s m args below meth c H locs cells slots Q (F0 m pc ls st) := wr_call hr hS kk
theorem wr_l {r : Int64} {a : Array Value} {A : Nat → Prop} {H0 : Heap} {mz : List Nat} {B : va_W → Prop} (hr : va_Run p l e R s m args below meth c H locs cells slots 0 0 (F0 m pc ls st) rest (Qw D A ws mz (some (.long r)) B a) A) (hS : va_S A H0 H locs)
    (kk : ∀ (ws' : va_W) (H1 : Heap) (locs1 : List Loc), va_P D vwCl ws' H1 → va_D A ws' → (∀ j : Nat, j ∉ mz → ws'[j]? = ws[j]?) → B ws' → va_S A H0 H1 locs1 → W p l e R s m args below meth c H1 locs1 cells slots Q (F0 m (pc + 3) ls (.long r :: rest))) : W p l e R s m args below meth c H locs cells slots Q (F0 m pc ls st) := wr_call hr hS kk
theorem wr_v {a : Array Value} {A : Nat → Prop} {H0 : Heap} {mz : List Nat} {B : va_W → Prop} (hr : va_Run p l e R s m args below meth c H locs cells slots 0 0 (F0 m pc ls st) rest (Qw D A ws mz none B a) A) (hS : va_S A H0 H locs)
    (kk : ∀ (ws' : va_W) (H1 : Heap) (locs1 : List Loc), va_P D vwCl ws' H1 → va_D A ws' → (∀ j : Nat, j ∉ mz → ws'[j]? = ws[j]?) → B ws' → va_S A H0 H1 locs1 → W p l e R s m args below meth c H1 locs1 cells slots Q (F0 m (pc + 3) ls rest)) : W p l e R s m args below meth c H locs cells slots Q (F0 m pc ls st) := wr_call hr hS kk
/-- ends -/
theorem rt_i {v : Int32} {free : Addr → Prop} (X : Cx y0 cc nL (some .int) D cI cJ cZ p s m args meth c) (hdg : decode cc pc = .ok (.ireturn, 1)) : W p l e R s m args below meth c s.heap [] cells slots (MQ below (Qq (some (.int v))) args s cells slots free) (F0 m pc ls [.int v]) := W.iret X.1 X.2.1 X.2.2.1 (fun t ht _ => ⟨rfl, ht⟩) (fun q hq => by cases hq) hdg X.2.2.2.2.2.2.1
theorem rt_l {v : Int64} {free : Addr → Prop} (X : Cx y0 cc nL (some .long) D cI cJ cZ p s m args meth c) (hdg : decode cc pc = .ok (.lreturn, 1)) : W p l e R s m args below meth c s.heap [] cells slots (MQ below (Qq (some (.long v))) args s cells slots free) (F0 m pc ls [.long v]) := W.lret X.1 X.2.1 X.2.2.1 (fun t ht _ => ⟨rfl, ht⟩) (fun q hq => by cases hq) hdg X.2.2.2.2.2.2.1
def bi (b : Bool) : Int32 := if b = true then 1 else 0
theorem bi_n (b : Bool) : narrow .boolean (.int (bi b)) = .int (bi b) := by cases b <;> decide
theorem bi_f (b : Bool) : fits .boolean (.int (bi b)) = true := by cases b <;> decide
theorem bi_0 (b : Bool) : bi b = 0 ↔ b = false := by cases b <;> decide
theorem bi_1 (b : Bool) : ¬ bi b = 0 ↔ b = true := by cases b <;> decide
theorem rt_z {b : Bool} {free : Addr → Prop} (X : Cx y0 cc nL (some .boolean) D cI cJ cZ p s m args meth c) (hdg : decode cc pc = .ok (.ireturn, 1)) : W p l e R s m args below meth c s.heap [] cells slots (MQ below (Qq (some (.int (bi b)))) args s cells slots free) (F0 m pc ls [.int (bi b)]) := W.zret X.1 X.2.1 X.2.2.1 (bi_n b) (fun t ht _ => ⟨rfl, ht⟩) (fun q hq => by cases hq) hdg X.2.2.2.2.2.2.1
theorem rt_a {r : Nat} {o : String} {free : Addr → Prop} (X : Cx y0 cc nL (some (.object o)) D cI cJ cZ p s m args meth c) (hdg : decode cc pc = .ok (.areturn, 1)) : W p l e R s m args below meth c s.heap [] cells slots (MQ below (Qq (some (.ref r))) args s cells slots free) (F0 m pc ls [.ref r]) := W.aret X.1 X.2.1 X.2.2.1 (Or.inl ⟨o, rfl⟩) (Or.inr ⟨r, rfl⟩) (fun t ht _ => ⟨rfl, ht⟩) (fun q hq => by cases hq) hdg X.2.2.2.2.2.2.1
theorem rw_i {v : Int32} {A : Nat → Prop} {H : Heap} {locs : List Loc} {ws0 : va_W} {mz : List Nat} {B : va_W → Prop} (X : Cx y0 cc nL (some .int) D cI cJ cZ p s m args meth c) (hS : va_S A s.heap H locs) (hP : va_P D vwCl ws H) (hD : va_D A ws) (hs : ∀ j : Nat, j ∉ mz → ws[j]? = ws0[j]?) (hB : B ws) (hdg : decode cc pc = .ok (.ireturn, 1)) : W p l e R s m args below meth c H locs cells slots (MQ below (Qw D A ws0 mz (some (.int v)) B) args s cells slots A) (F0 m pc ls [.int v]) := W.iret X.1 X.2.1 X.2.2.1 (fun t ht _ => ⟨rfl, ⟨ws, by rw [ht]; exact hP, hD, hs, hB⟩, hS.F ht⟩) hS.2.2 hdg X.2.2.2.2.2.2.1
theorem rw_l {v : Int64} {A : Nat → Prop} {H : Heap} {locs : List Loc} {ws0 : va_W} {mz : List Nat} {B : va_W → Prop} (X : Cx y0 cc nL (some .long) D cI cJ cZ p s m args meth c) (hS : va_S A s.heap H locs) (hP : va_P D vwCl ws H) (hD : va_D A ws) (hs : ∀ j : Nat, j ∉ mz → ws[j]? = ws0[j]?) (hB : B ws) (hdg : decode cc pc = .ok (.lreturn, 1)) : W p l e R s m args below meth c H locs cells slots (MQ below (Qw D A ws0 mz (some (.long v)) B) args s cells slots A) (F0 m pc ls [.long v]) := W.lret X.1 X.2.1 X.2.2.1 (fun t ht _ => ⟨rfl, ⟨ws, by rw [ht]; exact hP, hD, hs, hB⟩, hS.F ht⟩) hS.2.2 hdg X.2.2.2.2.2.2.1
theorem rw_v {A : Nat → Prop} {H : Heap} {locs : List Loc} {ws0 : va_W} {mz : List Nat} {B : va_W → Prop} (X : Cx y0 cc nL none D cI cJ cZ p s m args meth c) (hS : va_S A s.heap H locs) (hP : va_P D vwCl ws H) (hD : va_D A ws) (hs : ∀ j : Nat, j ∉ mz → ws[j]? = ws0[j]?) (hB : B ws) (hdg : decode cc pc = .ok (.return_, 1)) : W p l e R s m args below meth c H locs cells slots (MQ below (Qw D A ws0 mz none B) args s cells slots A) (F0 m pc ls []) := W.vret X.1 X.2.1 X.2.2.1 (fun t ht _ => ⟨rfl, ⟨ws, by rw [ht]; exact hP, hD, hs, hB⟩, hS.F ht⟩) hS.2.2 hdg X.2.2.2.2.2.2.1
/-- branches on a truth value, and on a long comparison -/
theorem zf_eq (hexec : p.tables.exec = Jvm.exec) (hb : c.code = cc) {b : Bool} {off : Int} {tgt : Nat} (hdg : decode cc pc = .ok (.ifCond .eq off, 3)) (ht : (pc : Int) + off = (tgt : Int)) (kt : ¬ b = true → W p l e R s m args below meth c H locs cells slots Q (F0 m tgt ls rest)) (kf : b = true → W p l e R s m args below meth c H locs cells slots Q (F0 m (pc + 3) ls rest)) : W p l e R s m args below meth c H locs cells slots Q (F0 m pc ls (.int (bi b) :: rest)) :=
  lv_if_eq hexec hb hdg ht (fun h => kt (by rw [(bi_0 b).mp h]; decide)) (fun h => kf ((bi_1 b).mp h))
theorem zf_ne (hexec : p.tables.exec = Jvm.exec) (hb : c.code = cc) {b : Bool} {off : Int} {tgt : Nat} (hdg : decode cc pc = .ok (.ifCond .ne off, 3)) (ht : (pc : Int) + off = (tgt : Int)) (kt : b = true → W p l e R s m args below meth c H locs cells slots Q (F0 m tgt ls rest)) (kf : ¬ b = true → W p l e R s m args below meth c H locs cells slots Q (F0 m (pc + 3) ls rest)) : W p l e R s m args below meth c H locs cells slots Q (F0 m pc ls (.int (bi b) :: rest)) :=
  lv_if_ne hexec hb hdg ht (fun h => kt ((bi_1 b).mp h)) (fun h => kf (by rw [(bi_0 b).mp h]; decide))
end CALLS
theorem lc_lt (x y : Int64) : lg_cmp x y < 0 ↔ x < y := by
  unfold lg_cmp
  simp only [gt_iff_lt, Int64.lt_iff_toInt_lt, ← Int64.toInt_inj]
  repeat' split
  all_goals (constructor <;> intro h <;> first | omega | decide | exact absurd h (by decide))
theorem lc_ge (x y : Int64) : 0 ≤ lg_cmp x y ↔ y ≤ x := lg_cmp_ge x y
theorem lc_eq (x y : Int64) : lg_cmp x y = 0 ↔ x = y := by
  unfold lg_cmp
  simp only [gt_iff_lt, Int64.lt_iff_toInt_lt, ← Int64.toInt_inj]
  repeat' split
  all_goals (constructor <;> intro h <;> first | omega | decide | exact absurd h (by decide))
theorem lc_gt (x y : Int64) : 0 < lg_cmp x y ↔ y < x := by
  unfold lg_cmp
  simp only [gt_iff_lt, Int64.lt_iff_toInt_lt, ← Int64.toInt_inj]
  repeat' split
  all_goals (constructor <;> intro h <;> first | omega | decide | exact absurd h (by decide))
theorem lc_le (x y : Int64) : lg_cmp x y ≤ 0 ↔ x ≤ y := by
  unfold lg_cmp
  simp only [gt_iff_lt, Int64.lt_iff_toInt_lt, Int64.le_iff_toInt_le, ← Int64.toInt_inj]
  repeat' split
  all_goals (constructor <;> intro h <;> first | omega | decide | exact absurd h (by decide))
/-- worlds by their places -/
theorem st_eq {ws : va_W} {k : Nat} {x y : Nat × va_E} (h : ws[k]? = some x) : (ws.set k y)[k]? = some y := List.getElem?_set_self (List.getElem?_eq_some_iff.mp h).1
theorem st_ne {ws : va_W} {k j : Nat} {y : Nat × va_E} {o : Option (Nat × va_E)} (hn : j ≠ k) (h : ws[j]? = o) : (ws.set k y)[j]? = o := by rw [List.getElem?_set_ne (Ne.symm hn)]; exact h
theorem st_sm {ws ws0 : va_W} {k : Nat} {mz : List Nat} {y : Nat × va_E} (hk : k ∈ mz) (h : ∀ j : Nat, j ∉ mz → ws[j]? = ws0[j]?) : ∀ j : Nat, j ∉ mz → (ws.set k y)[j]? = ws0[j]? := fun j hj => st_ne (fun e => hj (e ▸ hk)) (h j hj)
theorem st_tr {ws1 ws ws0 : va_W} {m1 mz : List Nat} (h1 : ∀ j : Nat, j ∉ m1 → ws1[j]? = ws[j]?) (hm : ∀ j ∈ m1, j ∈ mz) (h : ∀ j : Nat, j ∉ mz → ws[j]? = ws0[j]?) : ∀ j : Nat, j ∉ mz → ws1[j]? = ws0[j]? := fun j hj => (h1 j (fun q => hj (hm j q))).trans (h j hj)
theorem ast_i {p : Program} {l : Launch} {e : Env} {R : Room} {s : State} {m : MethodId} {args : Array Value} {below : List Frame} {meth : Method} {c : Code} {H : Heap} {locs : List Loc} {cells slots : Nat} {Q : State → Prop} {cc : ByteArray} {pc : Nat} {ls : Array Slot} {rest : List Value} {D : va_G} {A : Nat → Prop} {a : Nat} {cI cJ cZ : ClassId} {ws : va_W} {H0 : Heap} (hexec : p.tables.exec = Jvm.exec) (hb : c.code = cc) (hK : va_K D vwCl (ty3 cI cJ cZ) s) (hP : va_P D vwCl ws H) (hD : va_D A ws) (hS : va_S A H0 H locs) {q0 n : Nat} {f : Nat → Int32} (ha : ws[q0]? = some (a, .inl (cI, n, .inl f))) {i x : Int32} (hin : vp_in i n) (hdg : decode cc pc = .ok (.iastore, 1))
    (kk : ∀ (ws' : va_W) (H1 : Heap) (locs1 : List Loc), va_P D vwCl ws' H1 → va_D A ws' → (∀ j : Nat, j ≠ q0 → ws'[j]? = ws[j]?) → ws'[q0]? = some (a, .inl (cI, n, .inl (upd f i.toNatClampNeg x))) → va_S A H0 H1 locs1 → W p l e R s m args below meth c H1 locs1 cells slots Q (F0 m (pc + 1) ls rest)) : W p l e R s m args below meth c H locs cells slots Q (F0 m pc ls (.int x :: .int i :: .ref a :: rest)) :=
  va_iast hexec hb hK hP hD hS q0 0 ha rfl hin hdg (fun H1 locs1 hP1 hD1 hS1 => kk _ H1 locs1 hP1 hD1 (fun j hj => st_ne hj rfl) (st_eq ha) hS1)
theorem ast_l {p : Program} {l : Launch} {e : Env} {R : Room} {s : State} {m : MethodId} {args : Array Value} {below : List Frame} {meth : Method} {c : Code} {H : Heap} {locs : List Loc} {cells slots : Nat} {Q : State → Prop} {cc : ByteArray} {pc : Nat} {ls : Array Slot} {rest : List Value} {D : va_G} {A : Nat → Prop} {a : Nat} {cI cJ cZ : ClassId} {ws : va_W} {H0 : Heap} (hexec : p.tables.exec = Jvm.exec) (hb : c.code = cc) (hK : va_K D vwCl (ty3 cI cJ cZ) s) (hP : va_P D vwCl ws H) (hD : va_D A ws) (hS : va_S A H0 H locs) {q0 n : Nat} {f : Nat → Int64} (ha : ws[q0]? = some (a, .inl (cJ, n, .inr (.inl f)))) {i : Int32} {x : Int64} (hin : vp_in i n) (hdg : decode cc pc = .ok (.lastore, 1))
    (kk : ∀ (ws' : va_W) (H1 : Heap) (locs1 : List Loc), va_P D vwCl ws' H1 → va_D A ws' → (∀ j : Nat, j ≠ q0 → ws'[j]? = ws[j]?) → ws'[q0]? = some (a, .inl (cJ, n, .inr (.inl (vp_updL f i.toNatClampNeg x)))) → va_S A H0 H1 locs1 → W p l e R s m args below meth c H1 locs1 cells slots Q (F0 m (pc + 1) ls rest)) : W p l e R s m args below meth c H locs cells slots Q (F0 m pc ls (.long x :: .int i :: .ref a :: rest)) :=
  va_last hexec hb hK hP hD hS q0 1 ha rfl hin hdg (fun H1 locs1 hP1 hD1 hS1 => kk _ H1 locs1 hP1 hD1 (fun j hj => st_ne hj rfl) (st_eq ha) hS1)
theorem ast_z {p : Program} {l : Launch} {e : Env} {R : Room} {s : State} {m : MethodId} {args : Array Value} {below : List Frame} {meth : Method} {c : Code} {H : Heap} {locs : List Loc} {cells slots : Nat} {Q : State → Prop} {cc : ByteArray} {pc : Nat} {ls : Array Slot} {rest : List Value} {D : va_G} {A : Nat → Prop} {a : Nat} {cI cJ cZ : ClassId} {ws : va_W} {H0 : Heap} (hexec : p.tables.exec = Jvm.exec) (hb : c.code = cc) (hK : va_K D vwCl (ty3 cI cJ cZ) s) (hP : va_P D vwCl ws H) (hD : va_D A ws) (hS : va_S A H0 H locs) {q0 n : Nat} {f : Nat → Int32} (ha : ws[q0]? = some (a, .inl (cZ, n, .inl f))) {i x : Int32} (hin : vp_in i n) (hdg : decode cc pc = .ok (.bastore, 1))
    (kk : ∀ (ws' : va_W) (H1 : Heap) (locs1 : List Loc), va_P D vwCl ws' H1 → va_D A ws' → (∀ j : Nat, j ≠ q0 → ws'[j]? = ws[j]?) → ws'[q0]? = some (a, .inl (cZ, n, .inl (upd f i.toNatClampNeg (vp_nar .boolean x)))) → va_S A H0 H1 locs1 → W p l e R s m args below meth c H1 locs1 cells slots Q (F0 m (pc + 1) ls rest)) : W p l e R s m args below meth c H locs cells slots Q (F0 m pc ls (.int x :: .int i :: .ref a :: rest)) :=
  va_zast hexec hb hK hP hD hS q0 2 ha rfl hin hdg (fun H1 locs1 hP1 hD1 hS1 => kk _ H1 locs1 hP1 hD1 (fun j hj => st_ne hj rfl) (st_eq ha) hS1)
theorem sm_k {ws1 ws ws0 : va_W} {k : Nat} {mz : List Nat} (h1 : ∀ j : Nat, j ≠ k → ws1[j]? = ws[j]?) (hk : k ∈ mz) (h : ∀ j : Nat, j ∉ mz → ws[j]? = ws0[j]?) : ∀ j : Nat, j ∉ mz → ws1[j]? = ws0[j]? := fun j hj => (h1 j (fun e => hj (e ▸ hk))).trans (h j hj)
/-- functions that may have no answer, loops -/
theorem bd_some {α β : Type} {o : Option α} {f : α → Option β} {r : β} (h : o.bind f = some r) : ∃ x, o = some x ∧ f x = some r := by
  cases o with
  | none => cases h
  | some x => exact ⟨x, rfl, h⟩
theorem gd_some {α : Type} {c : Prop} [Decidable c] {t : Option α} {r : α} (h : (if c then none else t) = some r) : ¬ c ∧ t = some r := by
  by_cases hc : c
  · rw [if_pos hc] at h; cases h
  · rw [if_neg hc] at h; exact ⟨hc, h⟩
def nmb {α β : Type} (x : α) (f : α → β) : β := f x
theorem nm_at {α β : Type} {x y : α} {f : α → β} {r : β} (h : nmb x f = r) (e : y = x) : f y = r := by subst e; exact h
def itr {α β : Type} (f : α → Option (α ⊕ β)) : Nat → α → Option β
  | 0, _ => none
  | n + 1, x => match f x with
    | none => none
    | some (.inl y) => itr f n y
    | some (.inr r) => some r
def itK {α β : Type} (f : α → Option (α ⊕ β)) (n : Nat) (r : β) : α ⊕ β → Prop
  | .inl y => itr f n y = some r
  | .inr o => o = r
theorem itr_0 {α β : Type} {f : α → Option (α ⊕ β)} {x : α} {r : β} (h : itr f 0 x = some r) : False := by cases h
theorem itr_s {α β : Type} {f : α → Option (α ⊕ β)} {n : Nat} {x : α} {r : β} (h : itr f (n + 1) x = some r) : ∃ w, f x = some w ∧ itK f n r w := by
  unfold itr at h
  cases hx : f x with
  | none => rw [hx] at h; cases h
  | some w =>
    rw [hx] at h
    cases w with
    | inl y => exact ⟨_, rfl, h⟩
    | inr o => exact ⟨_, rfl, Option.some.inj h⟩
end
section
def fu : Nat := 3000
/-- a loop that counts: g k is its state behind k rounds -/
theorem itr_up {α β : Type} {f : α → Option (α ⊕ β)} {g : Nat → α} {e : Nat} {r : β} : ∀ (d n k : Nat), k + d = e → d < n → (∀ k, k < e → f (g k) = some (.inl (g (k + 1)))) → f (g e) = some (.inr r) → itr f n (g k) = some r := by
  intro d
  induction d with
  | zero =>
    intro n k hk hn h1 h2
    obtain ⟨n, rfl⟩ : ∃ q, n = q + 1 := ⟨n - 1, by omega⟩
    have hk : k = e := by omega
    subst hk
    unfold itr
    rw [h2]
  | succ d ih =>
    intro n k hk hn h1 h2
    obtain ⟨n, rfl⟩ : ∃ q, n = q + 1 := ⟨n - 1, by omega⟩
    unfold itr
    rw [h1 k (by omega)]
    exact ih n (k + 1) (by omega) (by omega) h1 h2
theorem itr_cnt {α β : Type} {f : α → Option (α ⊕ β)} {g : Nat → α} {e n : Nat} {r : β} {x : α} (hn : e < n) (hx : x = g 0) (h1 : ∀ k, k < e → f (g k) = some (.inl (g (k + 1)))) (h2 : f (g e) = some (.inr r)) : itr f n x = some r := by
  subst hx
  exact itr_up e n 0 (by omega) hn h1 h2
theorem fu_le {n : Nat} (h : n < 3000) : n < fu := h
theorem inqX0 : ∀ w ∈ wsX00, w ∈ aw := aw_all (by decide +kernel)
theorem inqX1 : ∀ w ∈ wsX10, w ∈ aw := aw_all (by decide +kernel)
theorem inqX2 : ∀ w ∈ wsX20, w ∈ aw := aw_all (by decide +kernel)
theorem inqX3 : ∀ w ∈ wsX30, w ∈ aw := aw_all (by decide +kernel)
theorem inqX4 : ∀ w ∈ wsX40, w ∈ aw := aw_all (by decide +kernel)
theorem inqX5 : ∀ w ∈ wsX50, w ∈ aw := aw_all (by decide +kernel)
theorem inqX6 : ∀ w ∈ wsX60, w ∈ aw := aw_all (by decide +kernel)
theorem inqX7 : ∀ w ∈ wsX70, w ∈ aw := aw_all (by decide +kernel)
theorem inqX8 : ∀ w ∈ wsX80, w ∈ aw := aw_all (by decide +kernel)
theorem inqX9 : ∀ w ∈ wsX90, w ∈ aw := aw_all (by decide +kernel)
theorem cq_J6_bitCount_0f7a4 : cqS yJ6_bitCount_0f7a4 cJ6_bitCount_0f7a4 1 (some .int) 1 := ⟨⟨aw_at 617 (by decide +kernel) (by decide +kernel), aw_at 90 (by decide +kernel) (by decide +kernel), by decide +kernel, by decide +kernel, by decide +kernel⟩, aw_at 616 (by decide +kernel) (by decide +kernel)⟩
theorem cq_J7_fill_53178 : cqS yJ7_fill_53178 cJ7_fill_53178 4 none 2 := ⟨⟨aw_at 369 (by decide +kernel) (by decide +kernel), aw_at 88 (by decide +kernel) (by decide +kernel), by decide +kernel, by decide +kernel, by decide +kernel⟩, aw_at 368 (by decide +kernel) (by decide +kernel)⟩
theorem cq_J7_fill_d0a16 : cqS yJ7_fill_d0a16 cJ7_fill_d0a16 5 none 2 := ⟨⟨aw_at 446 (by decide +kernel) (by decide +kernel), aw_at 88 (by decide +kernel) (by decide +kernel), by decide +kernel, by decide +kernel, by decide +kernel⟩, aw_at 445 (by decide +kernel) (by decide +kernel)⟩
theorem cq_J9_abs_0f7a4 : cqS yJ9_abs_0f7a4 cJ9_abs_0f7a4 1 (some .int) 1 := ⟨⟨aw_at 516 (by decide +kernel) (by decide +kernel), aw_at 89 (by decide +kernel) (by decide +kernel), by decide +kernel, by decide +kernel, by decide +kernel⟩, aw_at 515 (by decide +kernel) (by decide +kernel)⟩
theorem cq_J9_max_7cf53 : cqS yJ9_max_7cf53 cJ9_max_7cf53 2 (some .int) 2 := ⟨⟨aw_at 649 (by decide +kernel) (by decide +kernel), aw_at 89 (by decide +kernel) (by decide +kernel), by decide +kernel, by decide +kernel, by decide +kernel⟩, aw_at 648 (by decide +kernel) (by decide +kernel)⟩
theorem cq_J9_min_7cf53 : cqS yJ9_min_7cf53 cJ9_min_7cf53 2 (some .int) 2 := ⟨⟨aw_at 646 (by decide +kernel) (by decide +kernel), aw_at 89 (by decide +kernel) (by decide +kernel), by decide +kernel, by decide +kernel, by decide +kernel⟩, aw_at 645 (by decide +kernel) (by decide +kernel)⟩
theorem cq_X0_likeliest : cqV yX0_likeliest cX0_likeliest 7 (some .int) 0 := ⟨⟨aw_at 568 (by decide +kernel) (by decide +kernel), aw_at 84 (by decide +kernel) (by decide +kernel), by decide +kernel, by decide +kernel, by decide +kernel⟩, aw_at 567 (by decide +kernel) (by decide +kernel), aw_at 35 (by decide +kernel) (by decide +kernel)⟩
theorem cq_X0_look : cqV yX0_look cX0_look 6 none 3 := ⟨⟨aw_at 501 (by decide +kernel) (by decide +kernel), aw_at 84 (by decide +kernel) (by decide +kernel), by decide +kernel, by decide +kernel, by decide +kernel⟩, aw_at 500 (by decide +kernel) (by decide +kernel), aw_at 24 (by decide +kernel) (by decide +kernel)⟩
theorem cq_X0_othersByLot : cqV yX0_othersByLot cX0_othersByLot 5 (some .long) 1 := ⟨⟨aw_at 535 (by decide +kernel) (by decide +kernel), aw_at 84 (by decide +kernel) (by decide +kernel), by decide +kernel, by decide +kernel, by decide +kernel⟩, aw_at 534 (by decide +kernel) (by decide +kernel), aw_at 31 (by decide +kernel) (by decide +kernel)⟩
theorem cq_X0_othersByRank : cqV yX0_othersByRank cX0_othersByRank 6 (some .long) 1 := ⟨⟨aw_at 545 (by decide +kernel) (by decide +kernel), aw_at 84 (by decide +kernel) (by decide +kernel), by decide +kernel, by decide +kernel, by decide +kernel⟩, aw_at 544 (by decide +kernel) (by decide +kernel), aw_at 32 (by decide +kernel) (by decide +kernel)⟩
theorem cq_X0_weightOfAll : cqV yX0_weightOfAll cX0_weightOfAll 1 (some .long) 0 := ⟨⟨aw_at 550 (by decide +kernel) (by decide +kernel), aw_at 84 (by decide +kernel) (by decide +kernel), by decide +kernel, by decide +kernel, by decide +kernel⟩, aw_at 549 (by decide +kernel) (by decide +kernel), aw_at 33 (by decide +kernel) (by decide +kernel)⟩
theorem cq_X0_weightOfOthers : cqV yX0_weightOfOthers cX0_weightOfOthers 2 (some .long) 1 := ⟨⟨aw_at 531 (by decide +kernel) (by decide +kernel), aw_at 84 (by decide +kernel) (by decide +kernel), by decide +kernel, by decide +kernel, by decide +kernel⟩, aw_at 530 (by decide +kernel) (by decide +kernel), aw_at 30 (by decide +kernel) (by decide +kernel)⟩
theorem cq_X0_weightOfRight : cqV yX0_weightOfRight cX0_weightOfRight 4 (some .long) 0 := ⟨⟨aw_at 560 (by decide +kernel) (by decide +kernel), aw_at 84 (by decide +kernel) (by decide +kernel), by decide +kernel, by decide +kernel, by decide +kernel⟩, aw_at 559 (by decide +kernel) (by decide +kernel), aw_at 34 (by decide +kernel) (by decide +kernel)⟩
theorem cq_X0_weightOfTaken : cqV yX0_weightOfTaken cX0_weightOfTaken 2 (some .long) 1 := ⟨⟨aw_at 526 (by decide +kernel) (by decide +kernel), aw_at 84 (by decide +kernel) (by decide +kernel), by decide +kernel, by decide +kernel, by decide +kernel⟩, aw_at 525 (by decide +kernel) (by decide +kernel), aw_at 29 (by decide +kernel) (by decide +kernel)⟩
theorem cq_X1_likeliestKnowing : cqV yX1_likeliestKnowing cX1_likeliestKnowing 4 (some .int) 1 := ⟨⟨aw_at 488 (by decide +kernel) (by decide +kernel), aw_at 82 (by decide +kernel) (by decide +kernel), by decide +kernel, by decide +kernel, by decide +kernel⟩, aw_at 487 (by decide +kernel) (by decide +kernel), aw_at 23 (by decide +kernel) (by decide +kernel)⟩
theorem cq_X1_look : cqV yX1_look cX1_look 7 none 2 := ⟨⟨aw_at 439 (by decide +kernel) (by decide +kernel), aw_at 82 (by decide +kernel) (by decide +kernel), by decide +kernel, by decide +kernel, by decide +kernel⟩, aw_at 438 (by decide +kernel) (by decide +kernel), aw_at 17 (by decide +kernel) (by decide +kernel)⟩
theorem cq_X2_answer : cqV yX2_answer cX2_answer 4 none 3 := ⟨⟨aw_at 641 (by decide +kernel) (by decide +kernel), aw_at 81 (by decide +kernel) (by decide +kernel), by decide +kernel, by decide +kernel, by decide +kernel⟩, aw_at 640 (by decide +kernel) (by decide +kernel), aw_at 44 (by decide +kernel) (by decide +kernel)⟩
theorem cq_X2_become : cqV yX2_become cX2_become 3 none 1 := ⟨⟨aw_at 780 (by decide +kernel) (by decide +kernel), aw_at 81 (by decide +kernel) (by decide +kernel), by decide +kernel, by decide +kernel, by decide +kernel⟩, aw_at 779 (by decide +kernel) (by decide +kernel), aw_at 58 (by decide +kernel) (by decide +kernel)⟩
theorem cq_X2_begin : cqV yX2_begin cX2_begin 1 none 0 := ⟨⟨aw_at 366 (by decide +kernel) (by decide +kernel), aw_at 81 (by decide +kernel) (by decide +kernel), by decide +kernel, by decide +kernel, by decide +kernel⟩, aw_at 365 (by decide +kernel) (by decide +kernel), aw_at 8 (by decide +kernel) (by decide +kernel)⟩
theorem cq_X2_draw : cqV yX2_draw cX2_draw 2 (some .int) 1 := ⟨⟨aw_at 624 (by decide +kernel) (by decide +kernel), aw_at 81 (by decide +kernel) (by decide +kernel), by decide +kernel, by decide +kernel, by decide +kernel⟩, aw_at 623 (by decide +kernel) (by decide +kernel), aw_at 41 (by decide +kernel) (by decide +kernel)⟩
theorem cq_X3_allSilentTenths : cqV yX3_allSilentTenths cX3_allSilentTenths 4 (some .int) 1 := ⟨⟨aw_at 430 (by decide +kernel) (by decide +kernel), aw_at 80 (by decide +kernel) (by decide +kernel), by decide +kernel, by decide +kernel, by decide +kernel⟩, aw_at 429 (by decide +kernel) (by decide +kernel), aw_at 16 (by decide +kernel) (by decide +kernel)⟩
theorem cq_X3_allUpTenths : cqV yX3_allUpTenths cX3_allUpTenths 4 (some .int) 1 := ⟨⟨aw_at 421 (by decide +kernel) (by decide +kernel), aw_at 80 (by decide +kernel) (by decide +kernel), by decide +kernel, by decide +kernel, by decide +kernel⟩, aw_at 420 (by decide +kernel) (by decide +kernel), aw_at 15 (by decide +kernel) (by decide +kernel)⟩
theorem cq_X3_bestWait : cqV yX3_bestWait cX3_bestWait 7 (some .int) 2 := ⟨⟨aw_at 577 (by decide +kernel) (by decide +kernel), aw_at 80 (by decide +kernel) (by decide +kernel), by decide +kernel, by decide +kernel, by decide +kernel⟩, aw_at 576 (by decide +kernel) (by decide +kernel), aw_at 36 (by decide +kernel) (by decide +kernel)⟩
theorem cq_X3_choose : cqV yX3_choose cX3_choose 5 (some .int) 3 := ⟨⟨aw_at 613 (by decide +kernel) (by decide +kernel), aw_at 80 (by decide +kernel) (by decide +kernel), by decide +kernel, by decide +kernel, by decide +kernel⟩, aw_at 612 (by decide +kernel) (by decide +kernel), aw_at 40 (by decide +kernel) (by decide +kernel)⟩
theorem cq_X3_everyone : cqV yX3_everyone cX3_everyone 1 (some .int) 0 := ⟨⟨aw_at 590 (by decide +kernel) (by decide +kernel), aw_at 80 (by decide +kernel) (by decide +kernel), by decide +kernel, by decide +kernel, by decide +kernel⟩, aw_at 589 (by decide +kernel) (by decide +kernel), aw_at 38 (by decide +kernel) (by decide +kernel)⟩
theorem cq_X3_foremost : cqV yX3_foremost cX3_foremost 5 (some .int) 2 := ⟨⟨aw_at 634 (by decide +kernel) (by decide +kernel), aw_at 80 (by decide +kernel) (by decide +kernel), by decide +kernel, by decide +kernel, by decide +kernel⟩, aw_at 633 (by decide +kernel) (by decide +kernel), aw_at 43 (by decide +kernel) (by decide +kernel)⟩
theorem cq_X3_isF : cqV yX3_isF cX3_isF 2 (some .boolean) 1 := ⟨⟨aw_at 390 (by decide +kernel) (by decide +kernel), aw_at 80 (by decide +kernel) (by decide +kernel), by decide +kernel, by decide +kernel, by decide +kernel⟩, aw_at 389 (by decide +kernel) (by decide +kernel), aw_at 11 (by decide +kernel) (by decide +kernel)⟩
theorem cq_X3_isRight : cqV yX3_isRight cX3_isRight 4 (some .boolean) 3 := ⟨⟨aw_at 413 (by decide +kernel) (by decide +kernel), aw_at 80 (by decide +kernel) (by decide +kernel), by decide +kernel, by decide +kernel, by decide +kernel⟩, aw_at 412 (by decide +kernel) (by decide +kernel), aw_at 14 (by decide +kernel) (by decide +kernel)⟩
theorem cq_X3_isUp : cqV yX3_isUp cX3_isUp 4 (some .boolean) 3 := ⟨⟨aw_at 409 (by decide +kernel) (by decide +kernel), aw_at 80 (by decide +kernel) (by decide +kernel), by decide +kernel, by decide +kernel, by decide +kernel⟩, aw_at 408 (by decide +kernel) (by decide +kernel), aw_at 13 (by decide +kernel) (by decide +kernel)⟩
theorem cq_X3_lacks : cqV yX3_lacks cX3_lacks 2 (some .boolean) 1 := ⟨⟨aw_at 380 (by decide +kernel) (by decide +kernel), aw_at 80 (by decide +kernel) (by decide +kernel), by decide +kernel, by decide +kernel, by decide +kernel⟩, aw_at 379 (by decide +kernel) (by decide +kernel), aw_at 9 (by decide +kernel) (by decide +kernel)⟩
theorem cq_X3_member : cqV yX3_member cX3_member 5 (some .int) 2 := ⟨⟨aw_at 630 (by decide +kernel) (by decide +kernel), aw_at 80 (by decide +kernel) (by decide +kernel), by decide +kernel, by decide +kernel, by decide +kernel⟩, aw_at 629 (by decide +kernel) (by decide +kernel), aw_at 42 (by decide +kernel) (by decide +kernel)⟩
theorem cq_X3_mostTimes : cqV yX3_mostTimes cX3_mostTimes 3 (some .int) 0 := ⟨⟨aw_at 661 (by decide +kernel) (by decide +kernel), aw_at 80 (by decide +kernel) (by decide +kernel), by decide +kernel, by decide +kernel, by decide +kernel⟩, aw_at 660 (by decide +kernel) (by decide +kernel), aw_at 46 (by decide +kernel) (by decide +kernel)⟩
theorem cq_X3_neverTaken : cqV yX3_neverTaken cX3_neverTaken 3 (some .int) 0 := ⟨⟨aw_at 657 (by decide +kernel) (by decide +kernel), aw_at 80 (by decide +kernel) (by decide +kernel), by decide +kernel, by decide +kernel, by decide +kernel⟩, aw_at 656 (by decide +kernel) (by decide +kernel), aw_at 45 (by decide +kernel) (by decide +kernel)⟩
theorem cq_X3_noBits : cqV yX3_noBits cX3_noBits 2 (some .boolean) 1 := ⟨⟨aw_at 586 (by decide +kernel) (by decide +kernel), aw_at 80 (by decide +kernel) (by decide +kernel), by decide +kernel, by decide +kernel, by decide +kernel⟩, aw_at 585 (by decide +kernel) (by decide +kernel), aw_at 37 (by decide +kernel) (by decide +kernel)⟩
theorem cq_X3_rank : cqV yX3_rank cX3_rank 3 (some .int) 2 := ⟨⟨aw_at 505 (by decide +kernel) (by decide +kernel), aw_at 80 (by decide +kernel) (by decide +kernel), by decide +kernel, by decide +kernel, by decide +kernel⟩, aw_at 504 (by decide +kernel) (by decide +kernel), aw_at 25 (by decide +kernel) (by decide +kernel)⟩
theorem cq_X3_rankByRule : cqV yX3_rankByRule cX3_rankByRule 3 (some .int) 2 := ⟨⟨aw_at 509 (by decide +kernel) (by decide +kernel), aw_at 80 (by decide +kernel) (by decide +kernel), by decide +kernel, by decide +kernel, by decide +kernel⟩, aw_at 508 (by decide +kernel) (by decide +kernel), aw_at 26 (by decide +kernel) (by decide +kernel)⟩
theorem cq_X3_rankInRow : cqV yX3_rankInRow cX3_rankInRow 2 (some .int) 1 := ⟨⟨aw_at 513 (by decide +kernel) (by decide +kernel), aw_at 80 (by decide +kernel) (by decide +kernel), by decide +kernel, by decide +kernel, by decide +kernel⟩, aw_at 512 (by decide +kernel) (by decide +kernel), aw_at 27 (by decide +kernel) (by decide +kernel)⟩
theorem cq_X3_rightTenths : cqV yX3_rightTenths cX3_rightTenths 5 (some .int) 3 := ⟨⟨aw_at 522 (by decide +kernel) (by decide +kernel), aw_at 80 (by decide +kernel) (by decide +kernel), by decide +kernel, by decide +kernel, by decide +kernel⟩, aw_at 521 (by decide +kernel) (by decide +kernel), aw_at 28 (by decide +kernel) (by decide +kernel)⟩
theorem cq_X3_seatAll : cqV yX3_seatAll cX3_seatAll 4 none 1 := ⟨⟨aw_at 362 (by decide +kernel) (by decide +kernel), aw_at 80 (by decide +kernel) (by decide +kernel), by decide +kernel, by decide +kernel, by decide +kernel⟩, aw_at 361 (by decide +kernel) (by decide +kernel), aw_at 7 (by decide +kernel) (by decide +kernel)⟩
theorem cq_X3_tell : cqV yX3_tell cX3_tell 3 (some .int) 2 := ⟨⟨aw_at 385 (by decide +kernel) (by decide +kernel), aw_at 80 (by decide +kernel) (by decide +kernel), by decide +kernel, by decide +kernel, by decide +kernel⟩, aw_at 384 (by decide +kernel) (by decide +kernel), aw_at 10 (by decide +kernel) (by decide +kernel)⟩
theorem cq_X3_upBits : cqV yX3_upBits cX3_upBits 5 (some .int) 2 := ⟨⟨aw_at 594 (by decide +kernel) (by decide +kernel), aw_at 80 (by decide +kernel) (by decide +kernel), by decide +kernel, by decide +kernel, by decide +kernel⟩, aw_at 593 (by decide +kernel) (by decide +kernel), aw_at 39 (by decide +kernel) (by decide +kernel)⟩
theorem cq_X3_upTenths : cqV yX3_upTenths cX3_upTenths 5 (some .int) 2 := ⟨⟨aw_at 405 (by decide +kernel) (by decide +kernel), aw_at 80 (by decide +kernel) (by decide +kernel), by decide +kernel, by decide +kernel, by decide +kernel⟩, aw_at 404 (by decide +kernel) (by decide +kernel), aw_at 12 (by decide +kernel) (by decide +kernel)⟩
theorem cq_X4_allOf : cqV yX4_allOf cX4_allOf 5 (some .long) 1 := ⟨⟨aw_at 464 (by decide +kernel) (by decide +kernel), aw_at 83 (by decide +kernel) (by decide +kernel), by decide +kernel, by decide +kernel, by decide +kernel⟩, aw_at 463 (by decide +kernel) (by decide +kernel), aw_at 22 (by decide +kernel) (by decide +kernel)⟩
theorem cq_X4_begin : cqV yX4_begin cX4_begin 1 none 0 := ⟨⟨aw_at 443 (by decide +kernel) (by decide +kernel), aw_at 83 (by decide +kernel) (by decide +kernel), by decide +kernel, by decide +kernel, by decide +kernel⟩, aw_at 442 (by decide +kernel) (by decide +kernel), aw_at 18 (by decide +kernel) (by decide +kernel)⟩
theorem cq_X4_get : cqV yX4_get cX4_get 3 (some .long) 2 := ⟨⟨aw_at 460 (by decide +kernel) (by decide +kernel), aw_at 83 (by decide +kernel) (by decide +kernel), by decide +kernel, by decide +kernel, by decide +kernel⟩, aw_at 459 (by decide +kernel) (by decide +kernel), aw_at 21 (by decide +kernel) (by decide +kernel)⟩
theorem cq_X4_join : cqV yX4_join cX4_join 11 none 4 := ⟨⟨aw_at 456 (by decide +kernel) (by decide +kernel), aw_at 83 (by decide +kernel) (by decide +kernel), by decide +kernel, by decide +kernel, by decide +kernel⟩, aw_at 455 (by decide +kernel) (by decide +kernel), aw_at 20 (by decide +kernel) (by decide +kernel)⟩
theorem cq_X4_set : cqV yX4_set cX4_set 5 none 3 := ⟨⟨aw_at 450 (by decide +kernel) (by decide +kernel), aw_at 83 (by decide +kernel) (by decide +kernel), by decide +kernel, by decide +kernel, by decide +kernel⟩, aw_at 449 (by decide +kernel) (by decide +kernel), aw_at 19 (by decide +kernel) (by decide +kernel)⟩
theorem cq_X5_add : cqV yX5_add cX5_add 3 (some .int) 2 := ⟨⟨aw_at 670 (by decide +kernel) (by decide +kernel), aw_at 85 (by decide +kernel) (by decide +kernel), by decide +kernel, by decide +kernel, by decide +kernel⟩, aw_at 669 (by decide +kernel) (by decide +kernel), aw_at 47 (by decide +kernel) (by decide +kernel)⟩
theorem cq_X5_empty : cqV yX5_empty cX5_empty 2 (some .int) 0 := ⟨⟨aw_at 679 (by decide +kernel) (by decide +kernel), aw_at 85 (by decide +kernel) (by decide +kernel), by decide +kernel, by decide +kernel, by decide +kernel⟩, aw_at 678 (by decide +kernel) (by decide +kernel), aw_at 48 (by decide +kernel) (by decide +kernel)⟩
theorem cq_X5_sharesOf : cqV yX5_sharesOf cX5_sharesOf 5 (some .long) 1 := ⟨⟨aw_at 697 (by decide +kernel) (by decide +kernel), aw_at 85 (by decide +kernel) (by decide +kernel), by decide +kernel, by decide +kernel, by decide +kernel⟩, aw_at 696 (by decide +kernel) (by decide +kernel), aw_at 50 (by decide +kernel) (by decide +kernel)⟩
theorem cq_X5_takenOf : cqV yX5_takenOf cX5_takenOf 4 (some .int) 1 := ⟨⟨aw_at 687 (by decide +kernel) (by decide +kernel), aw_at 85 (by decide +kernel) (by decide +kernel), by decide +kernel, by decide +kernel, by decide +kernel⟩, aw_at 686 (by decide +kernel) (by decide +kernel), aw_at 49 (by decide +kernel) (by decide +kernel)⟩
theorem cq_X5_ways : cqV yX5_ways cX5_ways 4 (some .long) 0 := ⟨⟨aw_at 716 (by decide +kernel) (by decide +kernel), aw_at 85 (by decide +kernel) (by decide +kernel), by decide +kernel, by decide +kernel, by decide +kernel⟩, aw_at 715 (by decide +kernel) (by decide +kernel), aw_at 52 (by decide +kernel) (by decide +kernel)⟩
theorem cq_X5_waysToAsMany : cqV yX5_waysToAsMany cX5_waysToAsMany 5 (some .long) 1 := ⟨⟨aw_at 708 (by decide +kernel) (by decide +kernel), aw_at 85 (by decide +kernel) (by decide +kernel), by decide +kernel, by decide +kernel, by decide +kernel⟩, aw_at 707 (by decide +kernel) (by decide +kernel), aw_at 51 (by decide +kernel) (by decide +kernel)⟩
theorem cq_X6_append : cqV yX6_append cX6_append 5 (some .int) 2 := ⟨⟨aw_at 315 (by decide +kernel) (by decide +kernel), aw_at 79 (by decide +kernel) (by decide +kernel), by decide +kernel, by decide +kernel, by decide +kernel⟩, aw_at 314 (by decide +kernel) (by decide +kernel), aw_at 0 (by decide +kernel) (by decide +kernel)⟩
theorem cq_X6_empty : cqV yX6_empty cX6_empty 2 (some .int) 0 := ⟨⟨aw_at 326 (by decide +kernel) (by decide +kernel), aw_at 79 (by decide +kernel) (by decide +kernel), by decide +kernel, by decide +kernel, by decide +kernel⟩, aw_at 325 (by decide +kernel) (by decide +kernel), aw_at 1 (by decide +kernel) (by decide +kernel)⟩
theorem cq_X6_figure : cqV yX6_figure cX6_figure 2 (some .int) 1 := ⟨⟨aw_at 349 (by decide +kernel) (by decide +kernel), aw_at 79 (by decide +kernel) (by decide +kernel), by decide +kernel, by decide +kernel, by decide +kernel⟩, aw_at 348 (by decide +kernel) (by decide +kernel), aw_at 5 (by decide +kernel) (by decide +kernel)⟩
theorem cq_X6_firstFault : cqV yX6_firstFault cX6_firstFault 3 (some .int) 0 := ⟨⟨aw_at 334 (by decide +kernel) (by decide +kernel), aw_at 79 (by decide +kernel) (by decide +kernel), by decide +kernel, by decide +kernel, by decide +kernel⟩, aw_at 333 (by decide +kernel) (by decide +kernel), aw_at 2 (by decide +kernel) (by decide +kernel)⟩
theorem cq_X6_fits : cqV yX6_fits cX6_fits 3 (some .boolean) 2 := ⟨⟨aw_at 338 (by decide +kernel) (by decide +kernel), aw_at 79 (by decide +kernel) (by decide +kernel), by decide +kernel, by decide +kernel, by decide +kernel⟩, aw_at 337 (by decide +kernel) (by decide +kernel), aw_at 3 (by decide +kernel) (by decide +kernel)⟩
theorem cq_X6_seat : cqV yX6_seat cX6_seat 2 (some .int) 1 := ⟨⟨aw_at 354 (by decide +kernel) (by decide +kernel), aw_at 79 (by decide +kernel) (by decide +kernel), by decide +kernel, by decide +kernel, by decide +kernel⟩, aw_at 353 (by decide +kernel) (by decide +kernel), aw_at 6 (by decide +kernel) (by decide +kernel)⟩
theorem cq_X6_sign : cqV yX6_sign cX6_sign 2 (some .int) 1 := ⟨⟨aw_at 342 (by decide +kernel) (by decide +kernel), aw_at 79 (by decide +kernel) (by decide +kernel), by decide +kernel, by decide +kernel, by decide +kernel⟩, aw_at 341 (by decide +kernel) (by decide +kernel), aw_at 4 (by decide +kernel) (by decide +kernel)⟩
theorem cq_X7_add : cqV yX7_add cX7_add 3 (some .int) 2 := ⟨⟨aw_at 739 (by decide +kernel) (by decide +kernel), aw_at 86 (by decide +kernel) (by decide +kernel), by decide +kernel, by decide +kernel, by decide +kernel⟩, aw_at 738 (by decide +kernel) (by decide +kernel), aw_at 53 (by decide +kernel) (by decide +kernel)⟩
theorem cq_X7_deals : cqV yX7_deals cX7_deals 7 (some .long) 1 := ⟨⟨aw_at 756 (by decide +kernel) (by decide +kernel), aw_at 86 (by decide +kernel) (by decide +kernel), by decide +kernel, by decide +kernel, by decide +kernel⟩, aw_at 755 (by decide +kernel) (by decide +kernel), aw_at 55 (by decide +kernel) (by decide +kernel)⟩
theorem cq_X7_empty : cqV yX7_empty cX7_empty 2 (some .int) 0 := ⟨⟨aw_at 748 (by decide +kernel) (by decide +kernel), aw_at 86 (by decide +kernel) (by decide +kernel), by decide +kernel, by decide +kernel, by decide +kernel⟩, aw_at 747 (by decide +kernel) (by decide +kernel), aw_at 54 (by decide +kernel) (by decide +kernel)⟩
theorem cq_X7_together : cqV yX7_together cX7_together 4 (some .int) 1 := ⟨⟨aw_at 760 (by decide +kernel) (by decide +kernel), aw_at 86 (by decide +kernel) (by decide +kernel), by decide +kernel, by decide +kernel, by decide +kernel⟩, aw_at 759 (by decide +kernel) (by decide +kernel), aw_at 56 (by decide +kernel) (by decide +kernel)⟩
theorem cq_X8_at : cqS yX8_at cX8_at 2 (some .int) 2 := ⟨⟨aw_at 345 (by decide +kernel) (by decide +kernel), aw_at 78 (by decide +kernel) (by decide +kernel), by decide +kernel, by decide +kernel, by decide +kernel⟩, aw_at 344 (by decide +kernel) (by decide +kernel)⟩
theorem cq_X8_choices : cqS yX8_choices cX8_choices 5 (some .long) 2 := ⟨⟨aw_at 726 (by decide +kernel) (by decide +kernel), aw_at 78 (by decide +kernel) (by decide +kernel), by decide +kernel, by decide +kernel, by decide +kernel⟩, aw_at 725 (by decide +kernel) (by decide +kernel)⟩
theorem cq_X8_commonDivisor : cqS yX8_commonDivisor cX8_commonDivisor 11 (some .long) 2 := ⟨⟨aw_at 474 (by decide +kernel) (by decide +kernel), aw_at 78 (by decide +kernel) (by decide +kernel), by decide +kernel, by decide +kernel, by decide +kernel⟩, aw_at 473 (by decide +kernel) (by decide +kernel)⟩
theorem cq_X8_fraction : cqS yX8_fraction cX8_fraction 7 (some .long) 3 := ⟨⟨aw_at 471 (by decide +kernel) (by decide +kernel), aw_at 78 (by decide +kernel) (by decide +kernel), by decide +kernel, by decide +kernel, by decide +kernel⟩, aw_at 470 (by decide +kernel) (by decide +kernel)⟩
theorem cq_X8_isIn : cqS yX8_isIn cX8_isIn 2 (some .boolean) 2 := ⟨⟨aw_at 597 (by decide +kernel) (by decide +kernel), aw_at 78 (by decide +kernel) (by decide +kernel), by decide +kernel, by decide +kernel, by decide +kernel⟩, aw_at 596 (by decide +kernel) (by decide +kernel)⟩
theorem cq_X8_noRule : cqS yX8_noRule cX8_noRule 1 (some .boolean) 1 := ⟨⟨aw_at 496 (by decide +kernel) (by decide +kernel), aw_at 78 (by decide +kernel) (by decide +kernel), by decide +kernel, by decide +kernel, by decide +kernel⟩, aw_at 495 (by decide +kernel) (by decide +kernel)⟩
theorem cq_X8_noSeconds : cqS yX8_noSeconds cX8_noSeconds 1 (some .boolean) 1 := ⟨⟨aw_at 401 (by decide +kernel) (by decide +kernel), aw_at 78 (by decide +kernel) (by decide +kernel), by decide +kernel, by decide +kernel, by decide +kernel⟩, aw_at 400 (by decide +kernel) (by decide +kernel)⟩
theorem cq_X8_outside : cqS yX8_outside cX8_outside 3 (some .boolean) 3 := ⟨⟨aw_at 311 (by decide +kernel) (by decide +kernel), aw_at 78 (by decide +kernel) (by decide +kernel), by decide +kernel, by decide +kernel, by decide +kernel⟩, aw_at 310 (by decide +kernel) (by decide +kernel)⟩
theorem cq_X8_put : cqS yX8_put cX8_put 3 none 3 := ⟨⟨aw_at 318 (by decide +kernel) (by decide +kernel), aw_at 78 (by decide +kernel) (by decide +kernel), by decide +kernel, by decide +kernel, by decide +kernel⟩, aw_at 317 (by decide +kernel) (by decide +kernel)⟩
theorem cq_X8_share : cqS yX8_share cX8_share 1 (some .long) 1 := ⟨⟨aw_at 541 (by decide +kernel) (by decide +kernel), aw_at 78 (by decide +kernel) (by decide +kernel), by decide +kernel, by decide +kernel, by decide +kernel⟩, aw_at 540 (by decide +kernel) (by decide +kernel)⟩
theorem cq_X8_slotOf : cqV yX8_slotOf cX8_slotOf 2 (some (.object "AHandGoesUp$Lessons")) 1 := ⟨⟨aw_at 776 (by decide +kernel) (by decide +kernel), aw_at 78 (by decide +kernel) (by decide +kernel), by decide +kernel, by decide +kernel, by decide +kernel⟩, aw_at 775 (by decide +kernel) (by decide +kernel), aw_at 57 (by decide +kernel) (by decide +kernel)⟩
theorem cq_X8_tenTo : cqS yX8_tenTo cX8_tenTo 4 (some .long) 1 := ⟨⟨aw_at 467 (by decide +kernel) (by decide +kernel), aw_at 78 (by decide +kernel) (by decide +kernel), by decide +kernel, by decide +kernel, by decide +kernel⟩, aw_at 466 (by decide +kernel) (by decide +kernel)⟩
theorem cq_X8_waysToSee : cqS yX8_waysToSee cX8_waysToSee 4 (some .long) 4 := ⟨⟨aw_at 723 (by decide +kernel) (by decide +kernel), aw_at 78 (by decide +kernel) (by decide +kernel), by decide +kernel, by decide +kernel, by decide +kernel⟩, aw_at 722 (by decide +kernel) (by decide +kernel)⟩
theorem cq_X9_cameOf : cqV yX9_cameOf cX9_cameOf 4 (some .int) 1 := ⟨⟨aw_at 1079 (by decide +kernel) (by decide +kernel), aw_at 87 (by decide +kernel) (by decide +kernel), by decide +kernel, by decide +kernel, by decide +kernel⟩, aw_at 1078 (by decide +kernel) (by decide +kernel), aw_at 75 (by decide +kernel) (by decide +kernel)⟩
theorem cq_X9_choose : cqS yX9_choose cX9_choose 5 (some .long) 2 := ⟨⟨aw_at 1095 (by decide +kernel) (by decide +kernel), aw_at 87 (by decide +kernel) (by decide +kernel), by decide +kernel, by decide +kernel, by decide +kernel⟩, aw_at 1094 (by decide +kernel) (by decide +kernel)⟩
theorem cq_X9_drawOf : cqV yX9_drawOf cX9_drawOf 4 (some .int) 1 := ⟨⟨aw_at 1045 (by decide +kernel) (by decide +kernel), aw_at 87 (by decide +kernel) (by decide +kernel), by decide +kernel, by decide +kernel, by decide +kernel⟩, aw_at 1044 (by decide +kernel) (by decide +kernel), aw_at 73 (by decide +kernel) (by decide +kernel)⟩
theorem cq_X9_figure : cqV yX9_figure cX9_figure 3 (some .int) 1 := ⟨⟨aw_at 910 (by decide +kernel) (by decide +kernel), aw_at 87 (by decide +kernel) (by decide +kernel), by decide +kernel, by decide +kernel, by decide +kernel⟩, aw_at 909 (by decide +kernel) (by decide +kernel), aw_at 61 (by decide +kernel) (by decide +kernel)⟩
theorem cq_X9_free : cqV yX9_free cX9_free 4 (some .int) 1 := ⟨⟨aw_at 906 (by decide +kernel) (by decide +kernel), aw_at 87 (by decide +kernel) (by decide +kernel), by decide +kernel, by decide +kernel, by decide +kernel⟩, aw_at 905 (by decide +kernel) (by decide +kernel), aw_at 60 (by decide +kernel) (by decide +kernel)⟩
theorem cq_X9_handsOf : cqV yX9_handsOf cX9_handsOf 5 (some .long) 1 := ⟨⟨aw_at 965 (by decide +kernel) (by decide +kernel), aw_at 87 (by decide +kernel) (by decide +kernel), by decide +kernel, by decide +kernel, by decide +kernel⟩, aw_at 964 (by decide +kernel) (by decide +kernel), aw_at 66 (by decide +kernel) (by decide +kernel)⟩
theorem cq_X9_in : cqS yX9_in cX9_in 6 (some .boolean) 3 := ⟨⟨aw_at 889 (by decide +kernel) (by decide +kernel), aw_at 87 (by decide +kernel) (by decide +kernel), by decide +kernel, by decide +kernel, by decide +kernel⟩, aw_at 888 (by decide +kernel) (by decide +kernel)⟩
theorem cq_X9_isAhead : cqV yX9_isAhead cX9_isAhead 6 (some .boolean) 3 := ⟨⟨aw_at 1000 (by decide +kernel) (by decide +kernel), aw_at 87 (by decide +kernel) (by decide +kernel), by decide +kernel, by decide +kernel, by decide +kernel⟩, aw_at 999 (by decide +kernel) (by decide +kernel), aw_at 69 (by decide +kernel) (by decide +kernel)⟩
theorem cq_X9_isGroup : cqS yX9_isGroup cX9_isGroup 1 (some .boolean) 1 := ⟨⟨aw_at 1075 (by decide +kernel) (by decide +kernel), aw_at 87 (by decide +kernel) (by decide +kernel), by decide +kernel, by decide +kernel, by decide +kernel⟩, aw_at 1074 (by decide +kernel) (by decide +kernel)⟩
theorem cq_X9_isKnown : cqV yX9_isKnown cX9_isKnown 2 (some .boolean) 1 := ⟨⟨aw_at 1025 (by decide +kernel) (by decide +kernel), aw_at 87 (by decide +kernel) (by decide +kernel), by decide +kernel, by decide +kernel, by decide +kernel⟩, aw_at 1024 (by decide +kernel) (by decide +kernel), aw_at 71 (by decide +kernel) (by decide +kernel)⟩
theorem cq_X9_isPupil : cqV yX9_isPupil cX9_isPupil 2 (some .boolean) 1 := ⟨⟨aw_at 923 (by decide +kernel) (by decide +kernel), aw_at 87 (by decide +kernel) (by decide +kernel), by decide +kernel, by decide +kernel, by decide +kernel⟩, aw_at 922 (by decide +kernel) (by decide +kernel), aw_at 62 (by decide +kernel) (by decide +kernel)⟩
theorem cq_X9_isRule : cqS yX9_isRule cX9_isRule 1 (some .boolean) 1 := ⟨⟨aw_at 989 (by decide +kernel) (by decide +kernel), aw_at 87 (by decide +kernel) (by decide +kernel), by decide +kernel, by decide +kernel, by decide +kernel⟩, aw_at 988 (by decide +kernel) (by decide +kernel)⟩
theorem cq_X9_isWait : cqS yX9_isWait cX9_isWait 1 (some .boolean) 1 := ⟨⟨aw_at 935 (by decide +kernel) (by decide +kernel), aw_at 87 (by decide +kernel) (by decide +kernel), by decide +kernel, by decide +kernel, by decide +kernel⟩, aw_at 934 (by decide +kernel) (by decide +kernel)⟩
theorem cq_X9_layJoint : cqV yX9_layJoint cX9_layJoint 11 none 1 := ⟨⟨aw_at 961 (by decide +kernel) (by decide +kernel), aw_at 87 (by decide +kernel) (by decide +kernel), by decide +kernel, by decide +kernel, by decide +kernel⟩, aw_at 960 (by decide +kernel) (by decide +kernel), aw_at 65 (by decide +kernel) (by decide +kernel)⟩
theorem cq_X9_meanOf : cqV yX9_meanOf cX9_meanOf 4 (some .int) 1 := ⟨⟨aw_at 947 (by decide +kernel) (by decide +kernel), aw_at 87 (by decide +kernel) (by decide +kernel), by decide +kernel, by decide +kernel, by decide +kernel⟩, aw_at 946 (by decide +kernel) (by decide +kernel), aw_at 64 (by decide +kernel) (by decide +kernel)⟩
theorem cq_X9_ones : cqS yX9_ones cX9_ones 3 (some .int) 1 := ⟨⟨aw_at 1050 (by decide +kernel) (by decide +kernel), aw_at 87 (by decide +kernel) (by decide +kernel), by decide +kernel, by decide +kernel, by decide +kernel⟩, aw_at 1049 (by decide +kernel) (by decide +kernel)⟩
theorem cq_X9_part : cqS yX9_part cX9_part 11 (some .long) 3 := ⟨⟨aw_at 973 (by decide +kernel) (by decide +kernel), aw_at 87 (by decide +kernel) (by decide +kernel), by decide +kernel, by decide +kernel, by decide +kernel⟩, aw_at 972 (by decide +kernel) (by decide +kernel)⟩
theorem cq_X9_placeOf : cqV yX9_placeOf cX9_placeOf 3 (some .int) 1 := ⟨⟨aw_at 1004 (by decide +kernel) (by decide +kernel), aw_at 87 (by decide +kernel) (by decide +kernel), by decide +kernel, by decide +kernel, by decide +kernel⟩, aw_at 1003 (by decide +kernel) (by decide +kernel), aw_at 70 (by decide +kernel) (by decide +kernel)⟩
theorem cq_X9_raisedOf : cqV yX9_raisedOf cX9_raisedOf 6 (some .int) 2 := ⟨⟨aw_at 1029 (by decide +kernel) (by decide +kernel), aw_at 87 (by decide +kernel) (by decide +kernel), by decide +kernel, by decide +kernel, by decide +kernel⟩, aw_at 1028 (by decide +kernel) (by decide +kernel), aw_at 72 (by decide +kernel) (by decide +kernel)⟩
theorem cq_X9_readText : cqV yX9_readText cX9_readText 6 (some .int) 0 := ⟨⟨aw_at 902 (by decide +kernel) (by decide +kernel), aw_at 87 (by decide +kernel) (by decide +kernel), by decide +kernel, by decide +kernel, by decide +kernel⟩, aw_at 901 (by decide +kernel) (by decide +kernel), aw_at 59 (by decide +kernel) (by decide +kernel)⟩
theorem cq_X9_takenOf : cqV yX9_takenOf cX9_takenOf 7 (some .long) 3 := ⟨⟨aw_at 995 (by decide +kernel) (by decide +kernel), aw_at 87 (by decide +kernel) (by decide +kernel), by decide +kernel, by decide +kernel, by decide +kernel⟩, aw_at 994 (by decide +kernel) (by decide +kernel), aw_at 68 (by decide +kernel) (by decide +kernel)⟩
theorem cq_X9_takes : cqV yX9_takes cX9_takes 5 (some .int) 2 := ⟨⟨aw_at 1054 (by decide +kernel) (by decide +kernel), aw_at 87 (by decide +kernel) (by decide +kernel), by decide +kernel, by decide +kernel, by decide +kernel⟩, aw_at 1053 (by decide +kernel) (by decide +kernel), aw_at 74 (by decide +kernel) (by decide +kernel)⟩
theorem cq_X9_upOf : cqV yX9_upOf cX9_upOf 5 (some .int) 2 := ⟨⟨aw_at 939 (by decide +kernel) (by decide +kernel), aw_at 87 (by decide +kernel) (by decide +kernel), by decide +kernel, by decide +kernel, by decide +kernel⟩, aw_at 938 (by decide +kernel) (by decide +kernel), aw_at 63 (by decide +kernel) (by decide +kernel)⟩
theorem cq_X9_waits : cqV yX9_waits cX9_waits 3 (some .int) 0 := ⟨⟨aw_at 1116 (by decide +kernel) (by decide +kernel), aw_at 87 (by decide +kernel) (by decide +kernel), by decide +kernel, by decide +kernel, by decide +kernel⟩, aw_at 1115 (by decide +kernel) (by decide +kernel), aw_at 76 (by decide +kernel) (by decide +kernel)⟩
theorem cq_X9_whole : cqV yX9_whole cX9_whole 4 (some .long) 0 := ⟨⟨aw_at 969 (by decide +kernel) (by decide +kernel), aw_at 87 (by decide +kernel) (by decide +kernel), by decide +kernel, by decide +kernel, by decide +kernel⟩, aw_at 968 (by decide +kernel) (by decide +kernel), aw_at 67 (by decide +kernel) (by decide +kernel)⟩
theorem ki_J6_265 : Cond.constant RJ6 265 (1431655765 : Int32) ∈ aw := aw_at 618 (by decide +kernel) (by decide +kernel)
theorem ki_J6_266 : Cond.constant RJ6 266 (858993459 : Int32) ∈ aw := aw_at 619 (by decide +kernel) (by decide +kernel)
theorem ki_J6_267 : Cond.constant RJ6 267 (252645135 : Int32) ∈ aw := aw_at 620 (by decide +kernel) (by decide +kernel)
theorem kl_X0_53 : Cond.constantLong RX0 53 (27720 : Int64) ∈ aw := aw_at 551 (by decide +kernel) (by decide +kernel)
theorem kl_X0_59 : Cond.constantLong RX0 59 (10 : Int64) ∈ aw := aw_at 546 (by decide +kernel) (by decide +kernel)
theorem kl_X2_46 : Cond.constantLong RX2 46 (6364136223846793005 : Int64) ∈ aw := aw_at 625 (by decide +kernel) (by decide +kernel)
theorem kl_X2_48 : Cond.constantLong RX2 48 (1442695040888963407 : Int64) ∈ aw := aw_at 626 (by decide +kernel) (by decide +kernel)
theorem kl_X8_112 : Cond.constantLong RX8 112 (-2 : Int64) ∈ aw := aw_at 435 (by decide +kernel) (by decide +kernel)
theorem kl_X8_135 : Cond.constantLong RX8 135 (-3 : Int64) ∈ aw := aw_at 479 (by decide +kernel) (by decide +kernel)
theorem kl_X8_147 : Cond.constantLong RX8 147 (-1 : Int64) ∈ aw := aw_at 497 (by decide +kernel) (by decide +kernel)
theorem kl_X8_222 : Cond.constantLong RX8 222 (27720 : Int64) ∈ aw := aw_at 700 (by decide +kernel) (by decide +kernel)
theorem kl_X8_237 : Cond.constantLong RX8 237 (20 : Int64) ∈ aw := aw_at 731 (by decide +kernel) (by decide +kernel)
theorem kl_X8_277 : Cond.constantLong RX8 277 (10 : Int64) ∈ aw := aw_at 468 (by decide +kernel) (by decide +kernel)
theorem kl_X9_113 : Cond.constantLong RX9 113 (4 : Int64) ∈ aw := aw_at 990 (by decide +kernel) (by decide +kernel)
theorem kl_X9_119 : Cond.constantLong RX9 119 (7 : Int64) ∈ aw := aw_at 924 (by decide +kernel) (by decide +kernel)
theorem kl_X9_131 : Cond.constantLong RX9 131 (10 : Int64) ∈ aw := aw_at 970 (by decide +kernel) (by decide +kernel)
theorem kl_X9_133 : Cond.constantLong RX9 133 (12 : Int64) ∈ aw := aw_at 956 (by decide +kernel) (by decide +kernel)
theorem kl_X9_135 : Cond.constantLong RX9 135 (-2 : Int64) ∈ aw := aw_at 957 (by decide +kernel) (by decide +kernel)
theorem kl_X9_153 : Cond.constantLong RX9 153 (-3 : Int64) ∈ aw := aw_at 978 (by decide +kernel) (by decide +kernel)
theorem kl_X9_158 : Cond.constantLong RX9 158 (27720 : Int64) ∈ aw := aw_at 996 (by decide +kernel) (by decide +kernel)
theorem kl_X9_167 : Cond.constantLong RX9 167 (-1 : Int64) ∈ aw := aw_at 991 (by decide +kernel) (by decide +kernel)
theorem kl_X9_173 : Cond.constantLong RX9 173 (99 : Int64) ∈ aw := aw_at 1017 (by decide +kernel) (by decide +kernel)
theorem kl_X9_181 : Cond.constantLong RX9 181 (6364136223846793005 : Int64) ∈ aw := aw_at 1046 (by decide +kernel) (by decide +kernel)
theorem kl_X9_183 : Cond.constantLong RX9 183 (1442695040888963407 : Int64) ∈ aw := aw_at 1047 (by decide +kernel) (by decide +kernel)
theorem kl_X9_194 : Cond.constantLong RX9 194 (4095 : Int64) ∈ aw := aw_at 1063 (by decide +kernel) (by decide +kernel)
theorem kl_X9_196 : Cond.constantLong RX9 196 (11 : Int64) ∈ aw := aw_at 1064 (by decide +kernel) (by decide +kernel)
theorem kl_X9_207 : Cond.constantLong RX9 207 (30 : Int64) ∈ aw := aw_at 1092 (by decide +kernel) (by decide +kernel)
theorem kl_X9_213 : Cond.constantLong RX9 213 (20 : Int64) ∈ aw := aw_at 1100 (by decide +kernel) (by decide +kernel)
theorem kl_X9_64 : Cond.constantLong RX9 64 (8 : Int64) ∈ aw := aw_at 886 (by decide +kernel) (by decide +kernel)
theorem kl_X9_73 : Cond.constantLong RX9 73 (255 : Int64) ∈ aw := aw_at 890 (by decide +kernel) (by decide +kernel)
theorem kl_X9_81 : Cond.constantLong RX9 81 (9 : Int64) ∈ aw := aw_at 911 (by decide +kernel) (by decide +kernel)
theorem lk_X0_38 : Cond.methodLinkNest RX0 38 yX3_rank "AHandGoesUp" ∈ lw_tbl := List.mem_of_getElem? (i := 502) (by decide +kernel)
theorem lk_X0_42 : Cond.methodLinkNest RX0 42 yX8_put "AHandGoesUp" ∈ lw_tbl := List.mem_of_getElem? (i := 517) (by decide +kernel)
theorem lk_X0_46 : Cond.methodLinkNest RX0 46 yX3_upTenths "AHandGoesUp" ∈ lw_tbl := List.mem_of_getElem? (i := 518) (by decide +kernel)
theorem lk_X0_49 : Cond.methodLinkNest RX0 49 yX3_rightTenths "AHandGoesUp" ∈ lw_tbl := List.mem_of_getElem? (i := 519) (by decide +kernel)
theorem lk_X0_55 : Cond.methodLinkNest RX0 55 yX8_tenTo "AHandGoesUp" ∈ lw_tbl := List.mem_of_getElem? (i := 552) (by decide +kernel)
theorem lk_X0_61 : Cond.methodLinkNest RX0 61 yX8_at "AHandGoesUp" ∈ lw_tbl := List.mem_of_getElem? (i := 527) (by decide +kernel)
theorem lk_X0_65 : Cond.methodLink RX0 65 yX0_weightOfOthers ∈ aw := aw_at 528 (by decide +kernel) (by decide +kernel)
theorem lk_X0_68 : Cond.methodLink RX0 68 yX0_othersByLot ∈ aw := aw_at 532 (by decide +kernel) (by decide +kernel)
theorem lk_X0_71 : Cond.methodLink RX0 71 yX0_othersByRank ∈ aw := aw_at 542 (by decide +kernel) (by decide +kernel)
theorem lk_X0_74 : Cond.methodLinkNest RX0 74 yX4_begin "AHandGoesUp" ∈ lw_tbl := List.mem_of_getElem? (i := 536) (by decide +kernel)
theorem lk_X0_77 : Cond.methodLinkNest RX0 77 yX4_join "AHandGoesUp" ∈ lw_tbl := List.mem_of_getElem? (i := 537) (by decide +kernel)
theorem lk_X0_81 : Cond.methodLinkNest RX0 81 yX4_get "AHandGoesUp" ∈ lw_tbl := List.mem_of_getElem? (i := 538) (by decide +kernel)
theorem lk_X0_85 : Cond.methodLinkNest RX0 85 yX8_share "AHandGoesUp" ∈ lw_tbl := List.mem_of_getElem? (i := 539) (by decide +kernel)
theorem lk_X0_88 : Cond.methodLink RX0 88 yX0_weightOfTaken ∈ aw := aw_at 569 (by decide +kernel) (by decide +kernel)
theorem lk_X1_18 : Cond.methodLinkNest RX1 18 yX4_begin "AHandGoesUp" ∈ lw_tbl := List.mem_of_getElem? (i := 440) (by decide +kernel)
theorem lk_X1_31 : Cond.methodLinkNest RX1 31 yX8_at "AHandGoesUp" ∈ lw_tbl := List.mem_of_getElem? (i := 451) (by decide +kernel)
theorem lk_X1_35 : Cond.methodLinkNest RX1 35 yX3_isUp "AHandGoesUp" ∈ lw_tbl := List.mem_of_getElem? (i := 452) (by decide +kernel)
theorem lk_X1_39 : Cond.methodLinkNest RX1 39 yX4_join "AHandGoesUp" ∈ lw_tbl := List.mem_of_getElem? (i := 453) (by decide +kernel)
theorem lk_X1_43 : Cond.methodLinkNest RX1 43 yX4_get "AHandGoesUp" ∈ lw_tbl := List.mem_of_getElem? (i := 489) (by decide +kernel)
theorem lk_X2_18 : Cond.methodLink RX2 18 yJ7_fill_53178 ∈ aw := aw_at 367 (by decide +kernel) (by decide +kernel)
theorem lk_X2_38 : Cond.methodLinkNest RX2 38 yX8_at "AHandGoesUp" ∈ lw_tbl := List.mem_of_getElem? (i := 642) (by decide +kernel)
theorem lk_X2_42 : Cond.methodLinkNest RX2 42 yX8_put "AHandGoesUp" ∈ lw_tbl := List.mem_of_getElem? (i := 643) (by decide +kernel)
theorem lk_X2_50 : Cond.methodLink RX2 50 yJ9_min_7cf53 ∈ aw := aw_at 644 (by decide +kernel) (by decide +kernel)
theorem lk_X2_56 : Cond.methodLink RX2 56 yJ9_max_7cf53 ∈ aw := aw_at 647 (by decide +kernel) (by decide +kernel)
theorem lk_X3_103 : Cond.methodLink RX3 103 yX3_rankByRule ∈ aw := aw_at 506 (by decide +kernel) (by decide +kernel)
theorem lk_X3_106 : Cond.methodLink RX3 106 yX3_rankInRow ∈ aw := aw_at 510 (by decide +kernel) (by decide +kernel)
theorem lk_X3_109 : Cond.methodLink RX3 109 yJ9_abs_0f7a4 ∈ aw := aw_at 514 (by decide +kernel) (by decide +kernel)
theorem lk_X3_114 : Cond.methodLink RX3 114 yX3_upBits ∈ aw := aw_at 614 (by decide +kernel) (by decide +kernel)
theorem lk_X3_117 : Cond.methodLink RX3 117 yJ6_bitCount_0f7a4 ∈ aw := aw_at 615 (by decide +kernel) (by decide +kernel)
theorem lk_X3_122 : Cond.methodLinkNest RX3 122 yX2_draw "AHandGoesUp" ∈ lw_tbl := List.mem_of_getElem? (i := 621) (by decide +kernel)
theorem lk_X3_125 : Cond.methodLink RX3 125 yX3_member ∈ aw := aw_at 627 (by decide +kernel) (by decide +kernel)
theorem lk_X3_128 : Cond.methodLink RX3 128 yX3_foremost ∈ aw := aw_at 631 (by decide +kernel) (by decide +kernel)
theorem lk_X3_131 : Cond.methodLink RX3 131 yX3_rank ∈ aw := aw_at 635 (by decide +kernel) (by decide +kernel)
theorem lk_X3_134 : Cond.methodLink RX3 134 yJ9_max_7cf53 ∈ aw := aw_at 662 (by decide +kernel) (by decide +kernel)
theorem lk_X3_49 : Cond.methodLinkNest RX3 49 yX2_begin "AHandGoesUp" ∈ lw_tbl := List.mem_of_getElem? (i := 363) (by decide +kernel)
theorem lk_X3_52 : Cond.methodLinkNest RX3 52 yX6_sign "AHandGoesUp" ∈ lw_tbl := List.mem_of_getElem? (i := 370) (by decide +kernel)
theorem lk_X3_56 : Cond.methodLinkNest RX3 56 yX8_put "AHandGoesUp" ∈ lw_tbl := List.mem_of_getElem? (i := 371) (by decide +kernel)
theorem lk_X3_60 : Cond.methodLinkNest RX3 60 yX6_figure "AHandGoesUp" ∈ lw_tbl := List.mem_of_getElem? (i := 372) (by decide +kernel)
theorem lk_X3_66 : Cond.methodLinkNest RX3 66 yX8_outside "AHandGoesUp" ∈ lw_tbl := List.mem_of_getElem? (i := 381) (by decide +kernel)
theorem lk_X3_70 : Cond.methodLink RX3 70 yX3_everyone ∈ aw := aw_at 587 (by decide +kernel) (by decide +kernel)
theorem lk_X3_74 : Cond.methodLinkNest RX3 74 yX8_at "AHandGoesUp" ∈ lw_tbl := List.mem_of_getElem? (i := 386) (by decide +kernel)
theorem lk_X3_78 : Cond.methodLink RX3 78 yX3_isF ∈ aw := aw_at 387 (by decide +kernel) (by decide +kernel)
theorem lk_X3_85 : Cond.methodLink RX3 85 yX3_isRight ∈ aw := aw_at 410 (by decide +kernel) (by decide +kernel)
theorem lk_X3_89 : Cond.methodLink RX3 89 yX3_isUp ∈ aw := aw_at 406 (by decide +kernel) (by decide +kernel)
theorem lk_X3_92 : Cond.methodLink RX3 92 yX3_upTenths ∈ aw := aw_at 422 (by decide +kernel) (by decide +kernel)
theorem lk_X3_96 : Cond.methodLink RX3 96 yX3_allUpTenths ∈ aw := aw_at 578 (by decide +kernel) (by decide +kernel)
theorem lk_X3_99 : Cond.methodLinkNest RX3 99 yX8_isIn "AHandGoesUp" ∈ lw_tbl := List.mem_of_getElem? (i := 595) (by decide +kernel)
theorem lk_X4_15 : Cond.methodLink RX4 15 yJ7_fill_d0a16 ∈ aw := aw_at 444 (by decide +kernel) (by decide +kernel)
theorem lk_X4_21 : Cond.methodLink RX4 21 yX4_set ∈ aw := aw_at 447 (by decide +kernel) (by decide +kernel)
theorem lk_X4_25 : Cond.methodLink RX4 25 yX4_get ∈ aw := aw_at 457 (by decide +kernel) (by decide +kernel)
theorem lk_X5_29 : Cond.methodLinkNest RX5 29 yX8_put "AHandGoesUp" ∈ lw_tbl := List.mem_of_getElem? (i := 671) (by decide +kernel)
theorem lk_X5_33 : Cond.methodLinkNest RX5 33 yX8_at "AHandGoesUp" ∈ lw_tbl := List.mem_of_getElem? (i := 688) (by decide +kernel)
theorem lk_X5_37 : Cond.methodLinkNest RX5 37 yX8_isIn "AHandGoesUp" ∈ lw_tbl := List.mem_of_getElem? (i := 689) (by decide +kernel)
theorem lk_X5_41 : Cond.methodLink RX5 41 yJ6_bitCount_0f7a4 ∈ aw := aw_at 698 (by decide +kernel) (by decide +kernel)
theorem lk_X5_47 : Cond.methodLinkNest RX5 47 yX8_share "AHandGoesUp" ∈ lw_tbl := List.mem_of_getElem? (i := 699) (by decide +kernel)
theorem lk_X5_51 : Cond.methodLinkNest RX5 51 yX4_begin "AHandGoesUp" ∈ lw_tbl := List.mem_of_getElem? (i := 709) (by decide +kernel)
theorem lk_X5_54 : Cond.methodLinkNest RX5 54 yX4_join "AHandGoesUp" ∈ lw_tbl := List.mem_of_getElem? (i := 710) (by decide +kernel)
theorem lk_X5_58 : Cond.methodLink RX5 58 yX5_takenOf ∈ aw := aw_at 711 (by decide +kernel) (by decide +kernel)
theorem lk_X5_61 : Cond.methodLinkNest RX5 61 yX4_get "AHandGoesUp" ∈ lw_tbl := List.mem_of_getElem? (i := 712) (by decide +kernel)
theorem lk_X6_19 : Cond.methodLinkNest RX6 19 yX8_put "AHandGoesUp" ∈ lw_tbl := List.mem_of_getElem? (i := 316) (by decide +kernel)
theorem lk_X6_23 : Cond.methodLinkNest RX6 23 yX8_at "AHandGoesUp" ∈ lw_tbl := List.mem_of_getElem? (i := 343) (by decide +kernel)
theorem lk_X6_27 : Cond.methodLink RX6 27 yX6_fits ∈ aw := aw_at 335 (by decide +kernel) (by decide +kernel)
theorem lk_X6_31 : Cond.methodLink RX6 31 yX6_seat ∈ aw := aw_at 351 (by decide +kernel) (by decide +kernel)
theorem lk_X6_35 : Cond.methodLink RX6 35 yX6_sign ∈ aw := aw_at 339 (by decide +kernel) (by decide +kernel)
theorem lk_X6_38 : Cond.methodLink RX6 38 yX6_figure ∈ aw := aw_at 346 (by decide +kernel) (by decide +kernel)
theorem lk_X6_41 : Cond.methodLinkNest RX6 41 yX8_outside "AHandGoesUp" ∈ lw_tbl := List.mem_of_getElem? (i := 350) (by decide +kernel)
theorem lk_X7_19 : Cond.methodLinkNest RX7 19 yX8_put "AHandGoesUp" ∈ lw_tbl := List.mem_of_getElem? (i := 740) (by decide +kernel)
theorem lk_X7_26 : Cond.methodLinkNest RX7 26 yX8_isIn "AHandGoesUp" ∈ lw_tbl := List.mem_of_getElem? (i := 761) (by decide +kernel)
theorem lk_X7_30 : Cond.methodLinkNest RX7 30 yX8_at "AHandGoesUp" ∈ lw_tbl := List.mem_of_getElem? (i := 762) (by decide +kernel)
theorem lk_X7_34 : Cond.methodLink RX7 34 yX7_together ∈ aw := aw_at 757 (by decide +kernel) (by decide +kernel)
theorem lk_X7_38 : Cond.methodLink RX7 38 yJ6_bitCount_0f7a4 ∈ aw := aw_at 763 (by decide +kernel) (by decide +kernel)
theorem lk_X8_102 : Cond.methodLinkNest RX8 102 yX3_upTenths "AHandGoesUp" ∈ lw_tbl := List.mem_of_getElem? (i := 402) (by decide +kernel)
theorem lk_X8_105 : Cond.methodLinkNest RX8 105 yX3_allUpTenths "AHandGoesUp" ∈ lw_tbl := List.mem_of_getElem? (i := 418) (by decide +kernel)
theorem lk_X8_109 : Cond.methodLinkNest RX8 109 yX3_allSilentTenths "AHandGoesUp" ∈ lw_tbl := List.mem_of_getElem? (i := 427) (by decide +kernel)
theorem lk_X8_114 : Cond.methodLinkNest RX8 114 yX1_look "AHandGoesUp" ∈ lw_tbl := List.mem_of_getElem? (i := 436) (by decide +kernel)
theorem lk_X8_122 : Cond.methodLinkNest RX8 122 yX4_allOf "AHandGoesUp" ∈ lw_tbl := List.mem_of_getElem? (i := 461) (by decide +kernel)
theorem lk_X8_128 : Cond.methodLink RX8 128 yX8_tenTo ∈ aw := aw_at 465 (by decide +kernel) (by decide +kernel)
theorem lk_X8_131 : Cond.methodLink RX8 131 yX8_fraction ∈ aw := aw_at 469 (by decide +kernel) (by decide +kernel)
theorem lk_X8_137 : Cond.methodLinkNest RX8 137 yX4_get "AHandGoesUp" ∈ lw_tbl := List.mem_of_getElem? (i := 480) (by decide +kernel)
theorem lk_X8_141 : Cond.methodLinkNest RX8 141 yX1_likeliestKnowing "AHandGoesUp" ∈ lw_tbl := List.mem_of_getElem? (i := 485) (by decide +kernel)
theorem lk_X8_144 : Cond.methodLink RX8 144 yX8_noRule ∈ aw := aw_at 494 (by decide +kernel) (by decide +kernel)
theorem lk_X8_149 : Cond.methodLinkNest RX8 149 yX0_look "AHandGoesUp" ∈ lw_tbl := List.mem_of_getElem? (i := 498) (by decide +kernel)
theorem lk_X8_152 : Cond.methodLinkNest RX8 152 yX0_weightOfTaken "AHandGoesUp" ∈ lw_tbl := List.mem_of_getElem? (i := 523) (by decide +kernel)
theorem lk_X8_155 : Cond.methodLinkNest RX8 155 yX0_weightOfAll "AHandGoesUp" ∈ lw_tbl := List.mem_of_getElem? (i := 547) (by decide +kernel)
theorem lk_X8_159 : Cond.methodLinkNest RX8 159 yX0_weightOfRight "AHandGoesUp" ∈ lw_tbl := List.mem_of_getElem? (i := 557) (by decide +kernel)
theorem lk_X8_162 : Cond.methodLinkNest RX8 162 yX0_likeliest "AHandGoesUp" ∈ lw_tbl := List.mem_of_getElem? (i := 565) (by decide +kernel)
theorem lk_X8_165 : Cond.methodLinkNest RX8 165 yX3_bestWait "AHandGoesUp" ∈ lw_tbl := List.mem_of_getElem? (i := 574) (by decide +kernel)
theorem lk_X8_168 : Cond.methodLinkNest RX8 168 yX3_noBits "AHandGoesUp" ∈ lw_tbl := List.mem_of_getElem? (i := 583) (by decide +kernel)
theorem lk_X8_171 : Cond.methodLinkNest RX8 171 yX3_upBits "AHandGoesUp" ∈ lw_tbl := List.mem_of_getElem? (i := 591) (by decide +kernel)
theorem lk_X8_181 : Cond.methodLinkNest RX8 181 yX3_choose "AHandGoesUp" ∈ lw_tbl := List.mem_of_getElem? (i := 610) (by decide +kernel)
theorem lk_X8_185 : Cond.methodLink RX8 185 yX8_isIn ∈ aw := aw_at 636 (by decide +kernel) (by decide +kernel)
theorem lk_X8_189 : Cond.methodLinkNest RX8 189 yX3_isRight "AHandGoesUp" ∈ lw_tbl := List.mem_of_getElem? (i := 637) (by decide +kernel)
theorem lk_X8_193 : Cond.methodLinkNest RX8 193 yX2_answer "AHandGoesUp" ∈ lw_tbl := List.mem_of_getElem? (i := 638) (by decide +kernel)
theorem lk_X8_206 : Cond.methodLinkNest RX8 206 yX3_neverTaken "AHandGoesUp" ∈ lw_tbl := List.mem_of_getElem? (i := 654) (by decide +kernel)
theorem lk_X8_209 : Cond.methodLinkNest RX8 209 yX3_mostTimes "AHandGoesUp" ∈ lw_tbl := List.mem_of_getElem? (i := 658) (by decide +kernel)
theorem lk_X8_212 : Cond.methodLinkNest RX8 212 yX5_add "AHandGoesUp" ∈ lw_tbl := List.mem_of_getElem? (i := 667) (by decide +kernel)
theorem lk_X8_215 : Cond.methodLinkNest RX8 215 yX5_empty "AHandGoesUp" ∈ lw_tbl := List.mem_of_getElem? (i := 676) (by decide +kernel)
theorem lk_X8_216 : Cond.methodLinkNest RX8 216 yX5_takenOf "AHandGoesUp" ∈ lw_tbl := List.mem_of_getElem? (i := 684) (by decide +kernel)
theorem lk_X8_219 : Cond.methodLinkNest RX8 219 yX5_sharesOf "AHandGoesUp" ∈ lw_tbl := List.mem_of_getElem? (i := 694) (by decide +kernel)
theorem lk_X8_224 : Cond.methodLinkNest RX8 224 yX5_waysToAsMany "AHandGoesUp" ∈ lw_tbl := List.mem_of_getElem? (i := 705) (by decide +kernel)
theorem lk_X8_227 : Cond.methodLinkNest RX8 227 yX5_ways "AHandGoesUp" ∈ lw_tbl := List.mem_of_getElem? (i := 713) (by decide +kernel)
theorem lk_X8_230 : Cond.methodLink RX8 230 yX8_waysToSee ∈ aw := aw_at 721 (by decide +kernel) (by decide +kernel)
theorem lk_X8_234 : Cond.methodLink RX8 234 yX8_choices ∈ aw := aw_at 724 (by decide +kernel) (by decide +kernel)
theorem lk_X8_239 : Cond.methodLinkNest RX8 239 yX7_add "AHandGoesUp" ∈ lw_tbl := List.mem_of_getElem? (i := 736) (by decide +kernel)
theorem lk_X8_242 : Cond.methodLinkNest RX8 242 yX7_empty "AHandGoesUp" ∈ lw_tbl := List.mem_of_getElem? (i := 745) (by decide +kernel)
theorem lk_X8_243 : Cond.methodLinkNest RX8 243 yX7_deals "AHandGoesUp" ∈ lw_tbl := List.mem_of_getElem? (i := 753) (by decide +kernel)
theorem lk_X8_247 : Cond.methodLink RX8 247 yX8_share ∈ aw := aw_at 768 (by decide +kernel) (by decide +kernel)
theorem lk_X8_250 : Cond.methodLink RX8 250 yX8_slotOf ∈ aw := aw_at 773 (by decide +kernel) (by decide +kernel)
theorem lk_X8_254 : Cond.methodLinkNest RX8 254 yX2_become "AHandGoesUp" ∈ lw_tbl := List.mem_of_getElem? (i := 777) (by decide +kernel)
theorem lk_X8_268 : Cond.methodLink RX8 268 yJ6_bitCount_0f7a4 ∈ aw := aw_at 789 (by decide +kernel) (by decide +kernel)
theorem lk_X8_273 : Cond.methodLink RX8 273 yX8_commonDivisor ∈ aw := aw_at 472 (by decide +kernel) (by decide +kernel)
theorem lk_X8_61 : Cond.methodLink RX8 61 yX8_outside ∈ aw := aw_at 309 (by decide +kernel) (by decide +kernel)
theorem lk_X8_65 : Cond.methodLinkNest RX8 65 yX6_append "AHandGoesUp" ∈ lw_tbl := List.mem_of_getElem? (i := 312) (by decide +kernel)
theorem lk_X8_69 : Cond.methodLinkNest RX8 69 yX6_empty "AHandGoesUp" ∈ lw_tbl := List.mem_of_getElem? (i := 323) (by decide +kernel)
theorem lk_X8_73 : Cond.methodLinkNest RX8 73 yX6_firstFault "AHandGoesUp" ∈ lw_tbl := List.mem_of_getElem? (i := 331) (by decide +kernel)
theorem lk_X8_76 : Cond.methodLinkNest RX8 76 yX3_seatAll "AHandGoesUp" ∈ lw_tbl := List.mem_of_getElem? (i := 359) (by decide +kernel)
theorem lk_X8_88 : Cond.methodLinkNest RX8 88 yX3_lacks "AHandGoesUp" ∈ lw_tbl := List.mem_of_getElem? (i := 377) (by decide +kernel)
theorem lk_X8_92 : Cond.methodLinkNest RX8 92 yX3_tell "AHandGoesUp" ∈ lw_tbl := List.mem_of_getElem? (i := 382) (by decide +kernel)
theorem lk_X8_99 : Cond.methodLink RX8 99 yX8_noSeconds ∈ aw := aw_at 399 (by decide +kernel) (by decide +kernel)
theorem lk_X9_115 : Cond.methodLink RX9 115 yX9_isPupil ∈ aw := aw_at 920 (by decide +kernel) (by decide +kernel)
theorem lk_X9_121 : Cond.methodLink RX9 121 yX9_isWait ∈ aw := aw_at 933 (by decide +kernel) (by decide +kernel)
theorem lk_X9_124 : Cond.methodLink RX9 124 yX9_upOf ∈ aw := aw_at 936 (by decide +kernel) (by decide +kernel)
theorem lk_X9_128 : Cond.methodLink RX9 128 yX9_meanOf ∈ aw := aw_at 944 (by decide +kernel) (by decide +kernel)
theorem lk_X9_137 : Cond.methodLink RX9 137 yX9_layJoint ∈ aw := aw_at 958 (by decide +kernel) (by decide +kernel)
theorem lk_X9_141 : Cond.methodLink RX9 141 yX9_handsOf ∈ aw := aw_at 962 (by decide +kernel) (by decide +kernel)
theorem lk_X9_145 : Cond.methodLink RX9 145 yX9_whole ∈ aw := aw_at 966 (by decide +kernel) (by decide +kernel)
theorem lk_X9_149 : Cond.methodLink RX9 149 yX9_part ∈ aw := aw_at 971 (by decide +kernel) (by decide +kernel)
theorem lk_X9_155 : Cond.methodLink RX9 155 yX9_placeOf ∈ aw := aw_at 1001 (by decide +kernel) (by decide +kernel)
theorem lk_X9_160 : Cond.methodLink RX9 160 yX9_isAhead ∈ aw := aw_at 997 (by decide +kernel) (by decide +kernel)
theorem lk_X9_164 : Cond.methodLink RX9 164 yX9_isRule ∈ aw := aw_at 987 (by decide +kernel) (by decide +kernel)
theorem lk_X9_169 : Cond.methodLink RX9 169 yX9_takenOf ∈ aw := aw_at 992 (by decide +kernel) (by decide +kernel)
theorem lk_X9_175 : Cond.methodLink RX9 175 yX9_isKnown ∈ aw := aw_at 1022 (by decide +kernel) (by decide +kernel)
theorem lk_X9_178 : Cond.methodLink RX9 178 yX9_raisedOf ∈ aw := aw_at 1026 (by decide +kernel) (by decide +kernel)
theorem lk_X9_185 : Cond.methodLink RX9 185 yX9_ones ∈ aw := aw_at 1048 (by decide +kernel) (by decide +kernel)
theorem lk_X9_188 : Cond.methodLink RX9 188 yX9_drawOf ∈ aw := aw_at 1042 (by decide +kernel) (by decide +kernel)
theorem lk_X9_191 : Cond.methodLink RX9 191 yX9_takes ∈ aw := aw_at 1051 (by decide +kernel) (by decide +kernel)
theorem lk_X9_201 : Cond.methodLink RX9 201 yX9_isGroup ∈ aw := aw_at 1073 (by decide +kernel) (by decide +kernel)
theorem lk_X9_204 : Cond.methodLink RX9 204 yX9_cameOf ∈ aw := aw_at 1076 (by decide +kernel) (by decide +kernel)
theorem lk_X9_209 : Cond.methodLink RX9 209 yX9_choose ∈ aw := aw_at 1093 (by decide +kernel) (by decide +kernel)
theorem lk_X9_218 : Cond.methodLink RX9 218 yX9_waits ∈ aw := aw_at 1113 (by decide +kernel) (by decide +kernel)
theorem lk_X9_66 : Cond.methodLink RX9 66 yX9_in ∈ aw := aw_at 887 (by decide +kernel) (by decide +kernel)
theorem lk_X9_86 : Cond.methodLink RX9 86 yX9_free ∈ aw := aw_at 903 (by decide +kernel) (by decide +kernel)
theorem lk_X9_90 : Cond.methodLink RX9 90 yX9_figure ∈ aw := aw_at 907 (by decide +kernel) (by decide +kernel)
theorem lk_X9_93 : Cond.methodLink RX9 93 yX9_readText ∈ aw := aw_at 899 (by decide +kernel) (by decide +kernel)
theorem fl_X0_9 : Cond.fieldLink RX0 9 "AHandGoesUp$Choice" "ranks" "[I" ∈ aw := aw_at 219 (by decide +kernel) (by decide +kernel)
theorem gf_X0_9 {p : Program} {l : Launch} {e : Env} {R : Room} {s : State} {m : MethodId} {args : Array Value} {below : List Frame} {meth : Method} {c : Code} {H : Heap} {locs : List Loc} {cells slots : Nat} {Q : State → Prop} {cc : ByteArray} {pc : Nat} {ls : Array Slot} {rest : List Value} {D : va_G} {a : Nat} {cI cJ cZ : ClassId} {ws : va_W} (hx : p.tables.exec = Jvm.exec) (hb : c.code = cc) (hts : ∀ w ∈ aw, w.before args s = true) (hown : s.vm.findClass RX0 = some m.cls) (hK : va_K D vwCl (ty3 cI cJ cZ) s) (hP : va_P D vwCl ws H) {q0 : Nat} {v0 v1 v2 v3 v4 v5 : Value} (he : ws[q0]? = some (a, .inr (0, [v0, v1, v2, v3, v4, v5]))) (hdg : decode cc pc = .ok (.getfield 9, 3)) (kk : W p l e R s m args below meth c H locs cells slots Q (F0 m (pc + 3) ls (v0 :: rest))) : W p l e R s m args below meth c H locs cells slots Q (F0 m pc ls (.ref a :: rest)) :=
  va_get (ci := 0) (v := v0) (C := RX0) (T := TX0) (N := 6) hx hb hts inqX0 hown hK hP q0 he rfl 0 (by decide) (hts _ fl_X0_9) (fun _ h9 => h9) rfl hdg kk
theorem fl_X0_15 : Cond.fieldLink RX0 15 "AHandGoesUp$Choice" "eligible" "[I" ∈ aw := aw_at 220 (by decide +kernel) (by decide +kernel)
theorem gf_X0_15 {p : Program} {l : Launch} {e : Env} {R : Room} {s : State} {m : MethodId} {args : Array Value} {below : List Frame} {meth : Method} {c : Code} {H : Heap} {locs : List Loc} {cells slots : Nat} {Q : State → Prop} {cc : ByteArray} {pc : Nat} {ls : Array Slot} {rest : List Value} {D : va_G} {a : Nat} {cI cJ cZ : ClassId} {ws : va_W} (hx : p.tables.exec = Jvm.exec) (hb : c.code = cc) (hts : ∀ w ∈ aw, w.before args s = true) (hown : s.vm.findClass RX0 = some m.cls) (hK : va_K D vwCl (ty3 cI cJ cZ) s) (hP : va_P D vwCl ws H) {q0 : Nat} {v0 v1 v2 v3 v4 v5 : Value} (he : ws[q0]? = some (a, .inr (0, [v0, v1, v2, v3, v4, v5]))) (hdg : decode cc pc = .ok (.getfield 15, 3)) (kk : W p l e R s m args below meth c H locs cells slots Q (F0 m (pc + 3) ls (v1 :: rest))) : W p l e R s m args below meth c H locs cells slots Q (F0 m pc ls (.ref a :: rest)) :=
  va_get (ci := 0) (v := v1) (C := RX0) (T := TX0) (N := 6) hx hb hts inqX0 hown hK hP q0 he rfl 1 (by decide) (hts _ fl_X0_15) (fun _ h9 => h9) rfl hdg kk
theorem fl_X0_18 : Cond.fieldLink RX0 18 "AHandGoesUp$Choice" "eligibleAndRight" "[I" ∈ aw := aw_at 221 (by decide +kernel) (by decide +kernel)
theorem gf_X0_18 {p : Program} {l : Launch} {e : Env} {R : Room} {s : State} {m : MethodId} {args : Array Value} {below : List Frame} {meth : Method} {c : Code} {H : Heap} {locs : List Loc} {cells slots : Nat} {Q : State → Prop} {cc : ByteArray} {pc : Nat} {ls : Array Slot} {rest : List Value} {D : va_G} {a : Nat} {cI cJ cZ : ClassId} {ws : va_W} (hx : p.tables.exec = Jvm.exec) (hb : c.code = cc) (hts : ∀ w ∈ aw, w.before args s = true) (hown : s.vm.findClass RX0 = some m.cls) (hK : va_K D vwCl (ty3 cI cJ cZ) s) (hP : va_P D vwCl ws H) {q0 : Nat} {v0 v1 v2 v3 v4 v5 : Value} (he : ws[q0]? = some (a, .inr (0, [v0, v1, v2, v3, v4, v5]))) (hdg : decode cc pc = .ok (.getfield 18, 3)) (kk : W p l e R s m args below meth c H locs cells slots Q (F0 m (pc + 3) ls (v2 :: rest))) : W p l e R s m args below meth c H locs cells slots Q (F0 m pc ls (.ref a :: rest)) :=
  va_get (ci := 0) (v := v2) (C := RX0) (T := TX0) (N := 6) hx hb hts inqX0 hown hK hP q0 he rfl 2 (by decide) (hts _ fl_X0_18) (fun _ h9 => h9) rfl hdg kk
theorem fl_X0_24 : Cond.fieldLink RX0 24 "AHandGoesUp$Choice" "spread" "LAHandGoesUp$Spread;" ∈ aw := aw_at 222 (by decide +kernel) (by decide +kernel)
theorem gf_X0_24 {p : Program} {l : Launch} {e : Env} {R : Room} {s : State} {m : MethodId} {args : Array Value} {below : List Frame} {meth : Method} {c : Code} {H : Heap} {locs : List Loc} {cells slots : Nat} {Q : State → Prop} {cc : ByteArray} {pc : Nat} {ls : Array Slot} {rest : List Value} {D : va_G} {a : Nat} {cI cJ cZ : ClassId} {ws : va_W} (hx : p.tables.exec = Jvm.exec) (hb : c.code = cc) (hts : ∀ w ∈ aw, w.before args s = true) (hown : s.vm.findClass RX0 = some m.cls) (hK : va_K D vwCl (ty3 cI cJ cZ) s) (hP : va_P D vwCl ws H) {q0 : Nat} {v0 v1 v2 v3 v4 v5 : Value} (he : ws[q0]? = some (a, .inr (0, [v0, v1, v2, v3, v4, v5]))) (hdg : decode cc pc = .ok (.getfield 24, 3)) (kk : W p l e R s m args below meth c H locs cells slots Q (F0 m (pc + 3) ls (v3 :: rest))) : W p l e R s m args below meth c H locs cells slots Q (F0 m pc ls (.ref a :: rest)) :=
  va_get (ci := 0) (v := v3) (C := RX0) (T := TX0) (N := 6) hx hb hts inqX0 hown hK hP q0 he rfl 3 (by decide) (hts _ fl_X0_24) (fun _ h9 => h9) rfl hdg kk
theorem fl_X0_28 : Cond.fieldLinkNest RX0 28 "AHandGoesUp$Roster" "pupils" "I" "AHandGoesUp" ∈ lw_tbl := List.mem_of_getElem? (i := 164) (by decide +kernel)
theorem gf_X0_28 {p : Program} {l : Launch} {e : Env} {R : Room} {s : State} {m : MethodId} {args : Array Value} {below : List Frame} {meth : Method} {c : Code} {H : Heap} {locs : List Loc} {cells slots : Nat} {Q : State → Prop} {cc : ByteArray} {pc : Nat} {ls : Array Slot} {rest : List Value} {D : va_G} {a : Nat} {cI cJ cZ : ClassId} {ws : va_W} (hx : p.tables.exec = Jvm.exec) (hb : c.code = cc) (hts : ∀ w ∈ aw, w.before args s = true) (hown : s.vm.findClass RX0 = some m.cls) (hK : va_K D vwCl (ty3 cI cJ cZ) s) (hN : nwA s) (hP : va_P D vwCl ws H) {q0 : Nat} {v0 v1 v2 v3 v4 v5 v6 v7 v8 : Value} (he : ws[q0]? = some (a, .inr (3, [v0, v1, v2, v3, v4, v5, v6, v7, v8]))) (hdg : decode cc pc = .ok (.getfield 28, 3)) (kk : W p l e R s m args below meth c H locs cells slots Q (F0 m (pc + 3) ls (v7 :: rest))) : W p l e R s m args below meth c H locs cells slots Q (F0 m pc ls (.ref a :: rest)) :=
  va_getN (ci := 3) (v := v7) (C := RX3) (T := TX3) (N := 9) hx hb hts inqX3 hown hK hP q0 he rfl 7 (by decide) (va_Nw.use rfl (hN _ fl_X0_28 rfl)) (fun _ h9 => h9) rfl hdg kk
theorem fl_X0_34 : Cond.fieldLink RX0 34 "AHandGoesUp$Choice" "pupils" "I" ∈ aw := aw_at 223 (by decide +kernel) (by decide +kernel)
theorem gf_X0_34 {p : Program} {l : Launch} {e : Env} {R : Room} {s : State} {m : MethodId} {args : Array Value} {below : List Frame} {meth : Method} {c : Code} {H : Heap} {locs : List Loc} {cells slots : Nat} {Q : State → Prop} {cc : ByteArray} {pc : Nat} {ls : Array Slot} {rest : List Value} {D : va_G} {a : Nat} {cI cJ cZ : ClassId} {ws : va_W} (hx : p.tables.exec = Jvm.exec) (hb : c.code = cc) (hts : ∀ w ∈ aw, w.before args s = true) (hown : s.vm.findClass RX0 = some m.cls) (hK : va_K D vwCl (ty3 cI cJ cZ) s) (hP : va_P D vwCl ws H) {q0 : Nat} {v0 v1 v2 v3 v4 v5 : Value} (he : ws[q0]? = some (a, .inr (0, [v0, v1, v2, v3, v4, v5]))) (hdg : decode cc pc = .ok (.getfield 34, 3)) (kk : W p l e R s m args below meth c H locs cells slots Q (F0 m (pc + 3) ls (v4 :: rest))) : W p l e R s m args below meth c H locs cells slots Q (F0 m pc ls (.ref a :: rest)) :=
  va_get (ci := 0) (v := v4) (C := RX0) (T := TX0) (N := 6) hx hb hts inqX0 hown hK hP q0 he rfl 4 (by decide) (hts _ fl_X0_34) (fun _ h9 => h9) rfl hdg kk
theorem pf_X0_34 {p : Program} {l : Launch} {e : Env} {R : Room} {s : State} {m : MethodId} {args : Array Value} {below : List Frame} {meth : Method} {c : Code} {H : Heap} {locs : List Loc} {cells slots : Nat} {Q : State → Prop} {cc : ByteArray} {pc : Nat} {ls : Array Slot} {rest : List Value} {D : va_G} {a : Nat} {cI cJ cZ : ClassId} {ws : va_W} {A : Nat → Prop} {H0 : Heap} (hx : p.tables.exec = Jvm.exec) (hb : c.code = cc) (hts : ∀ w ∈ aw, w.before args s = true) (hown : s.vm.findClass RX0 = some m.cls) (hK : va_K D vwCl (ty3 cI cJ cZ) s) (hP : va_P D vwCl ws H) (hD : va_D A ws) (hS : va_S A H0 H locs) {q0 : Nat} {v0 v1 v2 v3 v4 v5 v : Value} (he : ws[q0]? = some (a, .inr (0, [v0, v1, v2, v3, v4, v5]))) (hn : narrow .int v = v) (hf : fits .int v = true) (hdg : decode cc pc = .ok (.putfield 34, 3)) (kk : ∀ (ws' : va_W) (H1 : Heap) (locs1 : List Loc), va_P D vwCl ws' H1 → va_D A ws' → (∀ j : Nat, j ≠ q0 → ws'[j]? = ws[j]?) → ws'[q0]? = some (a, .inr (0, [v0, v1, v2, v3, v, v5])) → va_S A H0 H1 locs1 → W p l e R s m args below meth c H1 locs1 cells slots Q (F0 m (pc + 3) ls rest)) : W p l e R s m args below meth c H locs cells slots Q (F0 m pc ls (v :: .ref a :: rest)) :=
  va_put (ci := 0) (v := v) (ty := .int) (C := RX0) (T := TX0) (N := 6) hx hb hts inqX0 tyX0 tyX0_ok nmX0 hown hK hP hD hS q0 he rfl 4 (by decide) (hts _ fl_X0_34) (fun _ h9 => h9) rfl (by decide +kernel) hn hf (Nat.le_of_ble_eq_true rfl) hdg (fun H1 locs1 hP1 hD1 hS1 => kk _ H1 locs1 hP1 hD1 (fun j hj => st_ne hj rfl) (st_eq he) hS1)
theorem fl_X0_35 : Cond.fieldLink RX0 35 "AHandGoesUp$Choice" "rule" "I" ∈ aw := aw_at 224 (by decide +kernel) (by decide +kernel)
theorem gf_X0_35 {p : Program} {l : Launch} {e : Env} {R : Room} {s : State} {m : MethodId} {args : Array Value} {below : List Frame} {meth : Method} {c : Code} {H : Heap} {locs : List Loc} {cells slots : Nat} {Q : State → Prop} {cc : ByteArray} {pc : Nat} {ls : Array Slot} {rest : List Value} {D : va_G} {a : Nat} {cI cJ cZ : ClassId} {ws : va_W} (hx : p.tables.exec = Jvm.exec) (hb : c.code = cc) (hts : ∀ w ∈ aw, w.before args s = true) (hown : s.vm.findClass RX0 = some m.cls) (hK : va_K D vwCl (ty3 cI cJ cZ) s) (hP : va_P D vwCl ws H) {q0 : Nat} {v0 v1 v2 v3 v4 v5 : Value} (he : ws[q0]? = some (a, .inr (0, [v0, v1, v2, v3, v4, v5]))) (hdg : decode cc pc = .ok (.getfield 35, 3)) (kk : W p l e R s m args below meth c H locs cells slots Q (F0 m (pc + 3) ls (v5 :: rest))) : W p l e R s m args below meth c H locs cells slots Q (F0 m pc ls (.ref a :: rest)) :=
  va_get (ci := 0) (v := v5) (C := RX0) (T := TX0) (N := 6) hx hb hts inqX0 hown hK hP q0 he rfl 5 (by decide) (hts _ fl_X0_35) (fun _ h9 => h9) rfl hdg kk
theorem pf_X0_35 {p : Program} {l : Launch} {e : Env} {R : Room} {s : State} {m : MethodId} {args : Array Value} {below : List Frame} {meth : Method} {c : Code} {H : Heap} {locs : List Loc} {cells slots : Nat} {Q : State → Prop} {cc : ByteArray} {pc : Nat} {ls : Array Slot} {rest : List Value} {D : va_G} {a : Nat} {cI cJ cZ : ClassId} {ws : va_W} {A : Nat → Prop} {H0 : Heap} (hx : p.tables.exec = Jvm.exec) (hb : c.code = cc) (hts : ∀ w ∈ aw, w.before args s = true) (hown : s.vm.findClass RX0 = some m.cls) (hK : va_K D vwCl (ty3 cI cJ cZ) s) (hP : va_P D vwCl ws H) (hD : va_D A ws) (hS : va_S A H0 H locs) {q0 : Nat} {v0 v1 v2 v3 v4 v5 v : Value} (he : ws[q0]? = some (a, .inr (0, [v0, v1, v2, v3, v4, v5]))) (hn : narrow .int v = v) (hf : fits .int v = true) (hdg : decode cc pc = .ok (.putfield 35, 3)) (kk : ∀ (ws' : va_W) (H1 : Heap) (locs1 : List Loc), va_P D vwCl ws' H1 → va_D A ws' → (∀ j : Nat, j ≠ q0 → ws'[j]? = ws[j]?) → ws'[q0]? = some (a, .inr (0, [v0, v1, v2, v3, v4, v])) → va_S A H0 H1 locs1 → W p l e R s m args below meth c H1 locs1 cells slots Q (F0 m (pc + 3) ls rest)) : W p l e R s m args below meth c H locs cells slots Q (F0 m pc ls (v :: .ref a :: rest)) :=
  va_put (ci := 0) (v := v) (ty := .int) (C := RX0) (T := TX0) (N := 6) hx hb hts inqX0 tyX0 tyX0_ok nmX0 hown hK hP hD hS q0 he rfl 5 (by decide) (hts _ fl_X0_35) (fun _ h9 => h9) rfl (by decide +kernel) hn hf (Nat.le_of_ble_eq_true rfl) hdg (fun H1 locs1 hP1 hD1 hS1 => kk _ H1 locs1 hP1 hD1 (fun j hj => st_ne hj rfl) (st_eq he) hS1)
theorem fl_X1_12 : Cond.fieldLink RX1 12 "AHandGoesUp$Hands" "spread" "LAHandGoesUp$Spread;" ∈ aw := aw_at 206 (by decide +kernel) (by decide +kernel)
theorem gf_X1_12 {p : Program} {l : Launch} {e : Env} {R : Room} {s : State} {m : MethodId} {args : Array Value} {below : List Frame} {meth : Method} {c : Code} {H : Heap} {locs : List Loc} {cells slots : Nat} {Q : State → Prop} {cc : ByteArray} {pc : Nat} {ls : Array Slot} {rest : List Value} {D : va_G} {a : Nat} {cI cJ cZ : ClassId} {ws : va_W} (hx : p.tables.exec = Jvm.exec) (hb : c.code = cc) (hts : ∀ w ∈ aw, w.before args s = true) (hown : s.vm.findClass RX1 = some m.cls) (hK : va_K D vwCl (ty3 cI cJ cZ) s) (hP : va_P D vwCl ws H) {q0 : Nat} {v0 : Value} (he : ws[q0]? = some (a, .inr (1, [v0]))) (hdg : decode cc pc = .ok (.getfield 12, 3)) (kk : W p l e R s m args below meth c H locs cells slots Q (F0 m (pc + 3) ls (v0 :: rest))) : W p l e R s m args below meth c H locs cells slots Q (F0 m pc ls (.ref a :: rest)) :=
  va_get (ci := 1) (v := v0) (C := RX1) (T := TX1) (N := 1) hx hb hts inqX1 hown hK hP q0 he rfl 0 (by decide) (hts _ fl_X1_12) (fun _ h9 => h9) rfl hdg kk
theorem fl_X1_21 : Cond.fieldLinkNest RX1 21 "AHandGoesUp$Roster" "pupils" "I" "AHandGoesUp" ∈ lw_tbl := List.mem_of_getElem? (i := 166) (by decide +kernel)
theorem gf_X1_21 {p : Program} {l : Launch} {e : Env} {R : Room} {s : State} {m : MethodId} {args : Array Value} {below : List Frame} {meth : Method} {c : Code} {H : Heap} {locs : List Loc} {cells slots : Nat} {Q : State → Prop} {cc : ByteArray} {pc : Nat} {ls : Array Slot} {rest : List Value} {D : va_G} {a : Nat} {cI cJ cZ : ClassId} {ws : va_W} (hx : p.tables.exec = Jvm.exec) (hb : c.code = cc) (hts : ∀ w ∈ aw, w.before args s = true) (hown : s.vm.findClass RX1 = some m.cls) (hK : va_K D vwCl (ty3 cI cJ cZ) s) (hN : nwA s) (hP : va_P D vwCl ws H) {q0 : Nat} {v0 v1 v2 v3 v4 v5 v6 v7 v8 : Value} (he : ws[q0]? = some (a, .inr (3, [v0, v1, v2, v3, v4, v5, v6, v7, v8]))) (hdg : decode cc pc = .ok (.getfield 21, 3)) (kk : W p l e R s m args below meth c H locs cells slots Q (F0 m (pc + 3) ls (v7 :: rest))) : W p l e R s m args below meth c H locs cells slots Q (F0 m pc ls (.ref a :: rest)) :=
  va_getN (ci := 3) (v := v7) (C := RX3) (T := TX3) (N := 9) hx hb hts inqX3 hown hK hP q0 he rfl 7 (by decide) (va_Nw.use rfl (hN _ fl_X1_21 rfl)) (fun _ h9 => h9) rfl hdg kk
theorem fl_X1_27 : Cond.fieldLinkNest RX1 27 "AHandGoesUp$Roster" "tenths" "[I" "AHandGoesUp" ∈ lw_tbl := List.mem_of_getElem? (i := 159) (by decide +kernel)
theorem gf_X1_27 {p : Program} {l : Launch} {e : Env} {R : Room} {s : State} {m : MethodId} {args : Array Value} {below : List Frame} {meth : Method} {c : Code} {H : Heap} {locs : List Loc} {cells slots : Nat} {Q : State → Prop} {cc : ByteArray} {pc : Nat} {ls : Array Slot} {rest : List Value} {D : va_G} {a : Nat} {cI cJ cZ : ClassId} {ws : va_W} (hx : p.tables.exec = Jvm.exec) (hb : c.code = cc) (hts : ∀ w ∈ aw, w.before args s = true) (hown : s.vm.findClass RX1 = some m.cls) (hK : va_K D vwCl (ty3 cI cJ cZ) s) (hN : nwA s) (hP : va_P D vwCl ws H) {q0 : Nat} {v0 v1 v2 v3 v4 v5 v6 v7 v8 : Value} (he : ws[q0]? = some (a, .inr (3, [v0, v1, v2, v3, v4, v5, v6, v7, v8]))) (hdg : decode cc pc = .ok (.getfield 27, 3)) (kk : W p l e R s m args below meth c H locs cells slots Q (F0 m (pc + 3) ls (v3 :: rest))) : W p l e R s m args below meth c H locs cells slots Q (F0 m pc ls (.ref a :: rest)) :=
  va_getN (ci := 3) (v := v3) (C := RX3) (T := TX3) (N := 9) hx hb hts inqX3 hown hK hP q0 he rfl 3 (by decide) (va_Nw.use rfl (hN _ fl_X1_27 rfl)) (fun _ h9 => h9) rfl hdg kk
theorem fl_X2_9 : Cond.fieldLink RX2 9 "AHandGoesUp$Lessons" "dares" "[I" ∈ aw := aw_at 127 (by decide +kernel) (by decide +kernel)
theorem gf_X2_9 {p : Program} {l : Launch} {e : Env} {R : Room} {s : State} {m : MethodId} {args : Array Value} {below : List Frame} {meth : Method} {c : Code} {H : Heap} {locs : List Loc} {cells slots : Nat} {Q : State → Prop} {cc : ByteArray} {pc : Nat} {ls : Array Slot} {rest : List Value} {D : va_G} {a : Nat} {cI cJ cZ : ClassId} {ws : va_W} (hx : p.tables.exec = Jvm.exec) (hb : c.code = cc) (hts : ∀ w ∈ aw, w.before args s = true) (hown : s.vm.findClass RX2 = some m.cls) (hK : va_K D vwCl (ty3 cI cJ cZ) s) (hP : va_P D vwCl ws H) {q0 : Nat} {v0 v1 v2 v3 v4 v5 v6 : Value} (he : ws[q0]? = some (a, .inr (2, [v0, v1, v2, v3, v4, v5, v6]))) (hdg : decode cc pc = .ok (.getfield 9, 3)) (kk : W p l e R s m args below meth c H locs cells slots Q (F0 m (pc + 3) ls (v0 :: rest))) : W p l e R s m args below meth c H locs cells slots Q (F0 m pc ls (.ref a :: rest)) :=
  va_get (ci := 2) (v := v0) (C := RX2) (T := TX2) (N := 7) hx hb hts inqX2 hown hK hP q0 he rfl 0 (by decide) (hts _ fl_X2_9) (fun _ h9 => h9) rfl hdg kk
theorem fl_X2_15 : Cond.fieldLink RX2 15 "AHandGoesUp$Lessons" "times" "[I" ∈ aw := aw_at 129 (by decide +kernel) (by decide +kernel)
theorem gf_X2_15 {p : Program} {l : Launch} {e : Env} {R : Room} {s : State} {m : MethodId} {args : Array Value} {below : List Frame} {meth : Method} {c : Code} {H : Heap} {locs : List Loc} {cells slots : Nat} {Q : State → Prop} {cc : ByteArray} {pc : Nat} {ls : Array Slot} {rest : List Value} {D : va_G} {a : Nat} {cI cJ cZ : ClassId} {ws : va_W} (hx : p.tables.exec = Jvm.exec) (hb : c.code = cc) (hts : ∀ w ∈ aw, w.before args s = true) (hown : s.vm.findClass RX2 = some m.cls) (hK : va_K D vwCl (ty3 cI cJ cZ) s) (hP : va_P D vwCl ws H) {q0 : Nat} {v0 v1 v2 v3 v4 v5 v6 : Value} (he : ws[q0]? = some (a, .inr (2, [v0, v1, v2, v3, v4, v5, v6]))) (hdg : decode cc pc = .ok (.getfield 15, 3)) (kk : W p l e R s m args below meth c H locs cells slots Q (F0 m (pc + 3) ls (v1 :: rest))) : W p l e R s m args below meth c H locs cells slots Q (F0 m pc ls (.ref a :: rest)) :=
  va_get (ci := 2) (v := v1) (C := RX2) (T := TX2) (N := 7) hx hb hts inqX2 hown hK hP q0 he rfl 1 (by decide) (hts _ fl_X2_15) (fun _ h9 => h9) rfl hdg kk
theorem fl_X2_24 : Cond.fieldLink RX2 24 "AHandGoesUp$Lessons" "seed" "J" ∈ aw := aw_at 131 (by decide +kernel) (by decide +kernel)
theorem gf_X2_24 {p : Program} {l : Launch} {e : Env} {R : Room} {s : State} {m : MethodId} {args : Array Value} {below : List Frame} {meth : Method} {c : Code} {H : Heap} {locs : List Loc} {cells slots : Nat} {Q : State → Prop} {cc : ByteArray} {pc : Nat} {ls : Array Slot} {rest : List Value} {D : va_G} {a : Nat} {cI cJ cZ : ClassId} {ws : va_W} (hx : p.tables.exec = Jvm.exec) (hb : c.code = cc) (hts : ∀ w ∈ aw, w.before args s = true) (hown : s.vm.findClass RX2 = some m.cls) (hK : va_K D vwCl (ty3 cI cJ cZ) s) (hP : va_P D vwCl ws H) {q0 : Nat} {v0 v1 v2 v3 v4 v5 v6 : Value} (he : ws[q0]? = some (a, .inr (2, [v0, v1, v2, v3, v4, v5, v6]))) (hdg : decode cc pc = .ok (.getfield 24, 3)) (kk : W p l e R s m args below meth c H locs cells slots Q (F0 m (pc + 3) ls (v2 :: rest))) : W p l e R s m args below meth c H locs cells slots Q (F0 m pc ls (.ref a :: rest)) :=
  va_get (ci := 2) (v := v2) (C := RX2) (T := TX2) (N := 7) hx hb hts inqX2 hown hK hP q0 he rfl 2 (by decide) (hts _ fl_X2_24) (fun _ h9 => h9) rfl hdg kk
theorem pf_X2_24 {p : Program} {l : Launch} {e : Env} {R : Room} {s : State} {m : MethodId} {args : Array Value} {below : List Frame} {meth : Method} {c : Code} {H : Heap} {locs : List Loc} {cells slots : Nat} {Q : State → Prop} {cc : ByteArray} {pc : Nat} {ls : Array Slot} {rest : List Value} {D : va_G} {a : Nat} {cI cJ cZ : ClassId} {ws : va_W} {A : Nat → Prop} {H0 : Heap} (hx : p.tables.exec = Jvm.exec) (hb : c.code = cc) (hts : ∀ w ∈ aw, w.before args s = true) (hown : s.vm.findClass RX2 = some m.cls) (hK : va_K D vwCl (ty3 cI cJ cZ) s) (hP : va_P D vwCl ws H) (hD : va_D A ws) (hS : va_S A H0 H locs) {q0 : Nat} {v0 v1 v2 v3 v4 v5 v6 v : Value} (he : ws[q0]? = some (a, .inr (2, [v0, v1, v2, v3, v4, v5, v6]))) (hn : narrow .long v = v) (hf : fits .long v = true) (hdg : decode cc pc = .ok (.putfield 24, 3)) (kk : ∀ (ws' : va_W) (H1 : Heap) (locs1 : List Loc), va_P D vwCl ws' H1 → va_D A ws' → (∀ j : Nat, j ≠ q0 → ws'[j]? = ws[j]?) → ws'[q0]? = some (a, .inr (2, [v0, v1, v, v3, v4, v5, v6])) → va_S A H0 H1 locs1 → W p l e R s m args below meth c H1 locs1 cells slots Q (F0 m (pc + 3) ls rest)) : W p l e R s m args below meth c H locs cells slots Q (F0 m pc ls (v :: .ref a :: rest)) :=
  va_put (ci := 2) (v := v) (ty := .long) (C := RX2) (T := TX2) (N := 7) hx hb hts inqX2 tyX2 tyX2_ok nmX2 hown hK hP hD hS q0 he rfl 2 (by decide) (hts _ fl_X2_24) (fun _ h9 => h9) rfl (by decide +kernel) hn hf (Nat.le_of_ble_eq_true rfl) hdg (fun H1 locs1 hP1 hD1 hS1 => kk _ H1 locs1 hP1 hD1 (fun j hj => st_ne hj rfl) (st_eq he) hS1)
theorem fl_X2_28 : Cond.fieldLink RX2 28 "AHandGoesUp$Lessons" "questions" "I" ∈ aw := aw_at 133 (by decide +kernel) (by decide +kernel)
theorem gf_X2_28 {p : Program} {l : Launch} {e : Env} {R : Room} {s : State} {m : MethodId} {args : Array Value} {below : List Frame} {meth : Method} {c : Code} {H : Heap} {locs : List Loc} {cells slots : Nat} {Q : State → Prop} {cc : ByteArray} {pc : Nat} {ls : Array Slot} {rest : List Value} {D : va_G} {a : Nat} {cI cJ cZ : ClassId} {ws : va_W} (hx : p.tables.exec = Jvm.exec) (hb : c.code = cc) (hts : ∀ w ∈ aw, w.before args s = true) (hown : s.vm.findClass RX2 = some m.cls) (hK : va_K D vwCl (ty3 cI cJ cZ) s) (hP : va_P D vwCl ws H) {q0 : Nat} {v0 v1 v2 v3 v4 v5 v6 : Value} (he : ws[q0]? = some (a, .inr (2, [v0, v1, v2, v3, v4, v5, v6]))) (hdg : decode cc pc = .ok (.getfield 28, 3)) (kk : W p l e R s m args below meth c H locs cells slots Q (F0 m (pc + 3) ls (v3 :: rest))) : W p l e R s m args below meth c H locs cells slots Q (F0 m pc ls (.ref a :: rest)) :=
  va_get (ci := 2) (v := v3) (C := RX2) (T := TX2) (N := 7) hx hb hts inqX2 hown hK hP q0 he rfl 3 (by decide) (hts _ fl_X2_28) (fun _ h9 => h9) rfl hdg kk
theorem pf_X2_28 {p : Program} {l : Launch} {e : Env} {R : Room} {s : State} {m : MethodId} {args : Array Value} {below : List Frame} {meth : Method} {c : Code} {H : Heap} {locs : List Loc} {cells slots : Nat} {Q : State → Prop} {cc : ByteArray} {pc : Nat} {ls : Array Slot} {rest : List Value} {D : va_G} {a : Nat} {cI cJ cZ : ClassId} {ws : va_W} {A : Nat → Prop} {H0 : Heap} (hx : p.tables.exec = Jvm.exec) (hb : c.code = cc) (hts : ∀ w ∈ aw, w.before args s = true) (hown : s.vm.findClass RX2 = some m.cls) (hK : va_K D vwCl (ty3 cI cJ cZ) s) (hP : va_P D vwCl ws H) (hD : va_D A ws) (hS : va_S A H0 H locs) {q0 : Nat} {v0 v1 v2 v3 v4 v5 v6 v : Value} (he : ws[q0]? = some (a, .inr (2, [v0, v1, v2, v3, v4, v5, v6]))) (hn : narrow .int v = v) (hf : fits .int v = true) (hdg : decode cc pc = .ok (.putfield 28, 3)) (kk : ∀ (ws' : va_W) (H1 : Heap) (locs1 : List Loc), va_P D vwCl ws' H1 → va_D A ws' → (∀ j : Nat, j ≠ q0 → ws'[j]? = ws[j]?) → ws'[q0]? = some (a, .inr (2, [v0, v1, v2, v, v4, v5, v6])) → va_S A H0 H1 locs1 → W p l e R s m args below meth c H1 locs1 cells slots Q (F0 m (pc + 3) ls rest)) : W p l e R s m args below meth c H locs cells slots Q (F0 m pc ls (v :: .ref a :: rest)) :=
  va_put (ci := 2) (v := v) (ty := .int) (C := RX2) (T := TX2) (N := 7) hx hb hts inqX2 tyX2 tyX2_ok nmX2 hown hK hP hD hS q0 he rfl 3 (by decide) (hts _ fl_X2_28) (fun _ h9 => h9) rfl (by decide +kernel) hn hf (Nat.le_of_ble_eq_true rfl) hdg (fun H1 locs1 hP1 hD1 hS1 => kk _ H1 locs1 hP1 hD1 (fun j hj => st_ne hj rfl) (st_eq he) hS1)
theorem fl_X2_32 : Cond.fieldLink RX2 32 "AHandGoesUp$Lessons" "rightOnes" "I" ∈ aw := aw_at 135 (by decide +kernel) (by decide +kernel)
theorem gf_X2_32 {p : Program} {l : Launch} {e : Env} {R : Room} {s : State} {m : MethodId} {args : Array Value} {below : List Frame} {meth : Method} {c : Code} {H : Heap} {locs : List Loc} {cells slots : Nat} {Q : State → Prop} {cc : ByteArray} {pc : Nat} {ls : Array Slot} {rest : List Value} {D : va_G} {a : Nat} {cI cJ cZ : ClassId} {ws : va_W} (hx : p.tables.exec = Jvm.exec) (hb : c.code = cc) (hts : ∀ w ∈ aw, w.before args s = true) (hown : s.vm.findClass RX2 = some m.cls) (hK : va_K D vwCl (ty3 cI cJ cZ) s) (hP : va_P D vwCl ws H) {q0 : Nat} {v0 v1 v2 v3 v4 v5 v6 : Value} (he : ws[q0]? = some (a, .inr (2, [v0, v1, v2, v3, v4, v5, v6]))) (hdg : decode cc pc = .ok (.getfield 32, 3)) (kk : W p l e R s m args below meth c H locs cells slots Q (F0 m (pc + 3) ls (v4 :: rest))) : W p l e R s m args below meth c H locs cells slots Q (F0 m pc ls (.ref a :: rest)) :=
  va_get (ci := 2) (v := v4) (C := RX2) (T := TX2) (N := 7) hx hb hts inqX2 hown hK hP q0 he rfl 4 (by decide) (hts _ fl_X2_32) (fun _ h9 => h9) rfl hdg kk
theorem pf_X2_32 {p : Program} {l : Launch} {e : Env} {R : Room} {s : State} {m : MethodId} {args : Array Value} {below : List Frame} {meth : Method} {c : Code} {H : Heap} {locs : List Loc} {cells slots : Nat} {Q : State → Prop} {cc : ByteArray} {pc : Nat} {ls : Array Slot} {rest : List Value} {D : va_G} {a : Nat} {cI cJ cZ : ClassId} {ws : va_W} {A : Nat → Prop} {H0 : Heap} (hx : p.tables.exec = Jvm.exec) (hb : c.code = cc) (hts : ∀ w ∈ aw, w.before args s = true) (hown : s.vm.findClass RX2 = some m.cls) (hK : va_K D vwCl (ty3 cI cJ cZ) s) (hP : va_P D vwCl ws H) (hD : va_D A ws) (hS : va_S A H0 H locs) {q0 : Nat} {v0 v1 v2 v3 v4 v5 v6 v : Value} (he : ws[q0]? = some (a, .inr (2, [v0, v1, v2, v3, v4, v5, v6]))) (hn : narrow .int v = v) (hf : fits .int v = true) (hdg : decode cc pc = .ok (.putfield 32, 3)) (kk : ∀ (ws' : va_W) (H1 : Heap) (locs1 : List Loc), va_P D vwCl ws' H1 → va_D A ws' → (∀ j : Nat, j ≠ q0 → ws'[j]? = ws[j]?) → ws'[q0]? = some (a, .inr (2, [v0, v1, v2, v3, v, v5, v6])) → va_S A H0 H1 locs1 → W p l e R s m args below meth c H1 locs1 cells slots Q (F0 m (pc + 3) ls rest)) : W p l e R s m args below meth c H locs cells slots Q (F0 m pc ls (v :: .ref a :: rest)) :=
  va_put (ci := 2) (v := v) (ty := .int) (C := RX2) (T := TX2) (N := 7) hx hb hts inqX2 tyX2 tyX2_ok nmX2 hown hK hP hD hS q0 he rfl 4 (by decide) (hts _ fl_X2_32) (fun _ h9 => h9) rfl (by decide +kernel) hn hf (Nat.le_of_ble_eq_true rfl) hdg (fun H1 locs1 hP1 hD1 hS1 => kk _ H1 locs1 hP1 hD1 (fun j hj => st_ne hj rfl) (st_eq he) hS1)
theorem fl_X2_35 : Cond.fieldLink RX2 35 "AHandGoesUp$Lessons" "wrongOnes" "I" ∈ aw := aw_at 137 (by decide +kernel) (by decide +kernel)
theorem gf_X2_35 {p : Program} {l : Launch} {e : Env} {R : Room} {s : State} {m : MethodId} {args : Array Value} {below : List Frame} {meth : Method} {c : Code} {H : Heap} {locs : List Loc} {cells slots : Nat} {Q : State → Prop} {cc : ByteArray} {pc : Nat} {ls : Array Slot} {rest : List Value} {D : va_G} {a : Nat} {cI cJ cZ : ClassId} {ws : va_W} (hx : p.tables.exec = Jvm.exec) (hb : c.code = cc) (hts : ∀ w ∈ aw, w.before args s = true) (hown : s.vm.findClass RX2 = some m.cls) (hK : va_K D vwCl (ty3 cI cJ cZ) s) (hP : va_P D vwCl ws H) {q0 : Nat} {v0 v1 v2 v3 v4 v5 v6 : Value} (he : ws[q0]? = some (a, .inr (2, [v0, v1, v2, v3, v4, v5, v6]))) (hdg : decode cc pc = .ok (.getfield 35, 3)) (kk : W p l e R s m args below meth c H locs cells slots Q (F0 m (pc + 3) ls (v5 :: rest))) : W p l e R s m args below meth c H locs cells slots Q (F0 m pc ls (.ref a :: rest)) :=
  va_get (ci := 2) (v := v5) (C := RX2) (T := TX2) (N := 7) hx hb hts inqX2 hown hK hP q0 he rfl 5 (by decide) (hts _ fl_X2_35) (fun _ h9 => h9) rfl hdg kk
theorem pf_X2_35 {p : Program} {l : Launch} {e : Env} {R : Room} {s : State} {m : MethodId} {args : Array Value} {below : List Frame} {meth : Method} {c : Code} {H : Heap} {locs : List Loc} {cells slots : Nat} {Q : State → Prop} {cc : ByteArray} {pc : Nat} {ls : Array Slot} {rest : List Value} {D : va_G} {a : Nat} {cI cJ cZ : ClassId} {ws : va_W} {A : Nat → Prop} {H0 : Heap} (hx : p.tables.exec = Jvm.exec) (hb : c.code = cc) (hts : ∀ w ∈ aw, w.before args s = true) (hown : s.vm.findClass RX2 = some m.cls) (hK : va_K D vwCl (ty3 cI cJ cZ) s) (hP : va_P D vwCl ws H) (hD : va_D A ws) (hS : va_S A H0 H locs) {q0 : Nat} {v0 v1 v2 v3 v4 v5 v6 v : Value} (he : ws[q0]? = some (a, .inr (2, [v0, v1, v2, v3, v4, v5, v6]))) (hn : narrow .int v = v) (hf : fits .int v = true) (hdg : decode cc pc = .ok (.putfield 35, 3)) (kk : ∀ (ws' : va_W) (H1 : Heap) (locs1 : List Loc), va_P D vwCl ws' H1 → va_D A ws' → (∀ j : Nat, j ≠ q0 → ws'[j]? = ws[j]?) → ws'[q0]? = some (a, .inr (2, [v0, v1, v2, v3, v4, v, v6])) → va_S A H0 H1 locs1 → W p l e R s m args below meth c H1 locs1 cells slots Q (F0 m (pc + 3) ls rest)) : W p l e R s m args below meth c H locs cells slots Q (F0 m pc ls (v :: .ref a :: rest)) :=
  va_put (ci := 2) (v := v) (ty := .int) (C := RX2) (T := TX2) (N := 7) hx hb hts inqX2 tyX2 tyX2_ok nmX2 hown hK hP hD hS q0 he rfl 5 (by decide) (hts _ fl_X2_35) (fun _ h9 => h9) rfl (by decide +kernel) hn hf (Nat.le_of_ble_eq_true rfl) hdg (fun H1 locs1 hP1 hD1 hS1 => kk _ H1 locs1 hP1 hD1 (fun j hj => st_ne hj rfl) (st_eq he) hS1)
theorem fl_X3_9 : Cond.fieldLink RX3 9 "AHandGoesUp$Roster" "letters" "[I" ∈ aw := aw_at 155 (by decide +kernel) (by decide +kernel)
theorem gf_X3_9 {p : Program} {l : Launch} {e : Env} {R : Room} {s : State} {m : MethodId} {args : Array Value} {below : List Frame} {meth : Method} {c : Code} {H : Heap} {locs : List Loc} {cells slots : Nat} {Q : State → Prop} {cc : ByteArray} {pc : Nat} {ls : Array Slot} {rest : List Value} {D : va_G} {a : Nat} {cI cJ cZ : ClassId} {ws : va_W} (hx : p.tables.exec = Jvm.exec) (hb : c.code = cc) (hts : ∀ w ∈ aw, w.before args s = true) (hown : s.vm.findClass RX3 = some m.cls) (hK : va_K D vwCl (ty3 cI cJ cZ) s) (hP : va_P D vwCl ws H) {q0 : Nat} {v0 v1 v2 v3 v4 v5 v6 v7 v8 : Value} (he : ws[q0]? = some (a, .inr (3, [v0, v1, v2, v3, v4, v5, v6, v7, v8]))) (hdg : decode cc pc = .ok (.getfield 9, 3)) (kk : W p l e R s m args below meth c H locs cells slots Q (F0 m (pc + 3) ls (v0 :: rest))) : W p l e R s m args below meth c H locs cells slots Q (F0 m pc ls (.ref a :: rest)) :=
  va_get (ci := 3) (v := v0) (C := RX3) (T := TX3) (N := 9) hx hb hts inqX3 hown hK hP q0 he rfl 0 (by decide) (hts _ fl_X3_9) (fun _ h9 => h9) rfl hdg kk
theorem fl_X3_15 : Cond.fieldLink RX3 15 "AHandGoesUp$Roster" "rows" "[I" ∈ aw := aw_at 156 (by decide +kernel) (by decide +kernel)
theorem gf_X3_15 {p : Program} {l : Launch} {e : Env} {R : Room} {s : State} {m : MethodId} {args : Array Value} {below : List Frame} {meth : Method} {c : Code} {H : Heap} {locs : List Loc} {cells slots : Nat} {Q : State → Prop} {cc : ByteArray} {pc : Nat} {ls : Array Slot} {rest : List Value} {D : va_G} {a : Nat} {cI cJ cZ : ClassId} {ws : va_W} (hx : p.tables.exec = Jvm.exec) (hb : c.code = cc) (hts : ∀ w ∈ aw, w.before args s = true) (hown : s.vm.findClass RX3 = some m.cls) (hK : va_K D vwCl (ty3 cI cJ cZ) s) (hP : va_P D vwCl ws H) {q0 : Nat} {v0 v1 v2 v3 v4 v5 v6 v7 v8 : Value} (he : ws[q0]? = some (a, .inr (3, [v0, v1, v2, v3, v4, v5, v6, v7, v8]))) (hdg : decode cc pc = .ok (.getfield 15, 3)) (kk : W p l e R s m args below meth c H locs cells slots Q (F0 m (pc + 3) ls (v1 :: rest))) : W p l e R s m args below meth c H locs cells slots Q (F0 m pc ls (.ref a :: rest)) :=
  va_get (ci := 3) (v := v1) (C := RX3) (T := TX3) (N := 9) hx hb hts inqX3 hown hK hP q0 he rfl 1 (by decide) (hts _ fl_X3_15) (fun _ h9 => h9) rfl hdg kk
theorem fl_X3_18 : Cond.fieldLink RX3 18 "AHandGoesUp$Roster" "columns" "[I" ∈ aw := aw_at 157 (by decide +kernel) (by decide +kernel)
theorem gf_X3_18 {p : Program} {l : Launch} {e : Env} {R : Room} {s : State} {m : MethodId} {args : Array Value} {below : List Frame} {meth : Method} {c : Code} {H : Heap} {locs : List Loc} {cells slots : Nat} {Q : State → Prop} {cc : ByteArray} {pc : Nat} {ls : Array Slot} {rest : List Value} {D : va_G} {a : Nat} {cI cJ cZ : ClassId} {ws : va_W} (hx : p.tables.exec = Jvm.exec) (hb : c.code = cc) (hts : ∀ w ∈ aw, w.before args s = true) (hown : s.vm.findClass RX3 = some m.cls) (hK : va_K D vwCl (ty3 cI cJ cZ) s) (hP : va_P D vwCl ws H) {q0 : Nat} {v0 v1 v2 v3 v4 v5 v6 v7 v8 : Value} (he : ws[q0]? = some (a, .inr (3, [v0, v1, v2, v3, v4, v5, v6, v7, v8]))) (hdg : decode cc pc = .ok (.getfield 18, 3)) (kk : W p l e R s m args below meth c H locs cells slots Q (F0 m (pc + 3) ls (v2 :: rest))) : W p l e R s m args below meth c H locs cells slots Q (F0 m pc ls (.ref a :: rest)) :=
  va_get (ci := 3) (v := v2) (C := RX3) (T := TX3) (N := 9) hx hb hts inqX3 hown hK hP q0 he rfl 2 (by decide) (hts _ fl_X3_18) (fun _ h9 => h9) rfl hdg kk
theorem fl_X3_21 : Cond.fieldLink RX3 21 "AHandGoesUp$Roster" "tenths" "[I" ∈ aw := aw_at 158 (by decide +kernel) (by decide +kernel)
theorem gf_X3_21 {p : Program} {l : Launch} {e : Env} {R : Room} {s : State} {m : MethodId} {args : Array Value} {below : List Frame} {meth : Method} {c : Code} {H : Heap} {locs : List Loc} {cells slots : Nat} {Q : State → Prop} {cc : ByteArray} {pc : Nat} {ls : Array Slot} {rest : List Value} {D : va_G} {a : Nat} {cI cJ cZ : ClassId} {ws : va_W} (hx : p.tables.exec = Jvm.exec) (hb : c.code = cc) (hts : ∀ w ∈ aw, w.before args s = true) (hown : s.vm.findClass RX3 = some m.cls) (hK : va_K D vwCl (ty3 cI cJ cZ) s) (hP : va_P D vwCl ws H) {q0 : Nat} {v0 v1 v2 v3 v4 v5 v6 v7 v8 : Value} (he : ws[q0]? = some (a, .inr (3, [v0, v1, v2, v3, v4, v5, v6, v7, v8]))) (hdg : decode cc pc = .ok (.getfield 21, 3)) (kk : W p l e R s m args below meth c H locs cells slots Q (F0 m (pc + 3) ls (v3 :: rest))) : W p l e R s m args below meth c H locs cells slots Q (F0 m pc ls (.ref a :: rest)) :=
  va_get (ci := 3) (v := v3) (C := RX3) (T := TX3) (N := 9) hx hb hts inqX3 hown hK hP q0 he rfl 3 (by decide) (hts _ fl_X3_21) (fun _ h9 => h9) rfl hdg kk
theorem fl_X3_24 : Cond.fieldLink RX3 24 "AHandGoesUp$Roster" "needs" "[I" ∈ aw := aw_at 160 (by decide +kernel) (by decide +kernel)
theorem gf_X3_24 {p : Program} {l : Launch} {e : Env} {R : Room} {s : State} {m : MethodId} {args : Array Value} {below : List Frame} {meth : Method} {c : Code} {H : Heap} {locs : List Loc} {cells slots : Nat} {Q : State → Prop} {cc : ByteArray} {pc : Nat} {ls : Array Slot} {rest : List Value} {D : va_G} {a : Nat} {cI cJ cZ : ClassId} {ws : va_W} (hx : p.tables.exec = Jvm.exec) (hb : c.code = cc) (hts : ∀ w ∈ aw, w.before args s = true) (hown : s.vm.findClass RX3 = some m.cls) (hK : va_K D vwCl (ty3 cI cJ cZ) s) (hP : va_P D vwCl ws H) {q0 : Nat} {v0 v1 v2 v3 v4 v5 v6 v7 v8 : Value} (he : ws[q0]? = some (a, .inr (3, [v0, v1, v2, v3, v4, v5, v6, v7, v8]))) (hdg : decode cc pc = .ok (.getfield 24, 3)) (kk : W p l e R s m args below meth c H locs cells slots Q (F0 m (pc + 3) ls (v4 :: rest))) : W p l e R s m args below meth c H locs cells slots Q (F0 m pc ls (.ref a :: rest)) :=
  va_get (ci := 3) (v := v4) (C := RX3) (T := TX3) (N := 9) hx hb hts inqX3 hown hK hP q0 he rfl 4 (by decide) (hts _ fl_X3_24) (fun _ h9 => h9) rfl hdg kk
theorem fl_X3_27 : Cond.fieldLink RX3 27 "AHandGoesUp$Roster" "toldDares" "[I" ∈ aw := aw_at 161 (by decide +kernel) (by decide +kernel)
theorem gf_X3_27 {p : Program} {l : Launch} {e : Env} {R : Room} {s : State} {m : MethodId} {args : Array Value} {below : List Frame} {meth : Method} {c : Code} {H : Heap} {locs : List Loc} {cells slots : Nat} {Q : State → Prop} {cc : ByteArray} {pc : Nat} {ls : Array Slot} {rest : List Value} {D : va_G} {a : Nat} {cI cJ cZ : ClassId} {ws : va_W} (hx : p.tables.exec = Jvm.exec) (hb : c.code = cc) (hts : ∀ w ∈ aw, w.before args s = true) (hown : s.vm.findClass RX3 = some m.cls) (hK : va_K D vwCl (ty3 cI cJ cZ) s) (hP : va_P D vwCl ws H) {q0 : Nat} {v0 v1 v2 v3 v4 v5 v6 v7 v8 : Value} (he : ws[q0]? = some (a, .inr (3, [v0, v1, v2, v3, v4, v5, v6, v7, v8]))) (hdg : decode cc pc = .ok (.getfield 27, 3)) (kk : W p l e R s m args below meth c H locs cells slots Q (F0 m (pc + 3) ls (v5 :: rest))) : W p l e R s m args below meth c H locs cells slots Q (F0 m pc ls (.ref a :: rest)) :=
  va_get (ci := 3) (v := v5) (C := RX3) (T := TX3) (N := 9) hx hb hts inqX3 hown hK hP q0 he rfl 5 (by decide) (hts _ fl_X3_27) (fun _ h9 => h9) rfl hdg kk
theorem fl_X3_33 : Cond.fieldLink RX3 33 "AHandGoesUp$Roster" "lessons" "LAHandGoesUp$Lessons;" ∈ aw := aw_at 162 (by decide +kernel) (by decide +kernel)
theorem gf_X3_33 {p : Program} {l : Launch} {e : Env} {R : Room} {s : State} {m : MethodId} {args : Array Value} {below : List Frame} {meth : Method} {c : Code} {H : Heap} {locs : List Loc} {cells slots : Nat} {Q : State → Prop} {cc : ByteArray} {pc : Nat} {ls : Array Slot} {rest : List Value} {D : va_G} {a : Nat} {cI cJ cZ : ClassId} {ws : va_W} (hx : p.tables.exec = Jvm.exec) (hb : c.code = cc) (hts : ∀ w ∈ aw, w.before args s = true) (hown : s.vm.findClass RX3 = some m.cls) (hK : va_K D vwCl (ty3 cI cJ cZ) s) (hP : va_P D vwCl ws H) {q0 : Nat} {v0 v1 v2 v3 v4 v5 v6 v7 v8 : Value} (he : ws[q0]? = some (a, .inr (3, [v0, v1, v2, v3, v4, v5, v6, v7, v8]))) (hdg : decode cc pc = .ok (.getfield 33, 3)) (kk : W p l e R s m args below meth c H locs cells slots Q (F0 m (pc + 3) ls (v6 :: rest))) : W p l e R s m args below meth c H locs cells slots Q (F0 m pc ls (.ref a :: rest)) :=
  va_get (ci := 3) (v := v6) (C := RX3) (T := TX3) (N := 9) hx hb hts inqX3 hown hK hP q0 he rfl 6 (by decide) (hts _ fl_X3_33) (fun _ h9 => h9) rfl hdg kk
theorem fl_X3_37 : Cond.fieldLink RX3 37 "AHandGoesUp$Roster" "mood" "I" ∈ aw := aw_at 168 (by decide +kernel) (by decide +kernel)
theorem gf_X3_37 {p : Program} {l : Launch} {e : Env} {R : Room} {s : State} {m : MethodId} {args : Array Value} {below : List Frame} {meth : Method} {c : Code} {H : Heap} {locs : List Loc} {cells slots : Nat} {Q : State → Prop} {cc : ByteArray} {pc : Nat} {ls : Array Slot} {rest : List Value} {D : va_G} {a : Nat} {cI cJ cZ : ClassId} {ws : va_W} (hx : p.tables.exec = Jvm.exec) (hb : c.code = cc) (hts : ∀ w ∈ aw, w.before args s = true) (hown : s.vm.findClass RX3 = some m.cls) (hK : va_K D vwCl (ty3 cI cJ cZ) s) (hP : va_P D vwCl ws H) {q0 : Nat} {v0 v1 v2 v3 v4 v5 v6 v7 v8 : Value} (he : ws[q0]? = some (a, .inr (3, [v0, v1, v2, v3, v4, v5, v6, v7, v8]))) (hdg : decode cc pc = .ok (.getfield 37, 3)) (kk : W p l e R s m args below meth c H locs cells slots Q (F0 m (pc + 3) ls (v8 :: rest))) : W p l e R s m args below meth c H locs cells slots Q (F0 m pc ls (.ref a :: rest)) :=
  va_get (ci := 3) (v := v8) (C := RX3) (T := TX3) (N := 9) hx hb hts inqX3 hown hK hP q0 he rfl 8 (by decide) (hts _ fl_X3_37) (fun _ h9 => h9) rfl hdg kk
theorem fl_X3_41 : Cond.fieldLinkNest RX3 41 "AHandGoesUp$Text" "length" "I" "AHandGoesUp" ∈ lw_tbl := List.mem_of_getElem? (i := 107) (by decide +kernel)
theorem gf_X3_41 {p : Program} {l : Launch} {e : Env} {R : Room} {s : State} {m : MethodId} {args : Array Value} {below : List Frame} {meth : Method} {c : Code} {H : Heap} {locs : List Loc} {cells slots : Nat} {Q : State → Prop} {cc : ByteArray} {pc : Nat} {ls : Array Slot} {rest : List Value} {D : va_G} {a : Nat} {cI cJ cZ : ClassId} {ws : va_W} (hx : p.tables.exec = Jvm.exec) (hb : c.code = cc) (hts : ∀ w ∈ aw, w.before args s = true) (hown : s.vm.findClass RX3 = some m.cls) (hK : va_K D vwCl (ty3 cI cJ cZ) s) (hN : nwA s) (hP : va_P D vwCl ws H) {q0 : Nat} {v0 v1 : Value} (he : ws[q0]? = some (a, .inr (6, [v0, v1]))) (hdg : decode cc pc = .ok (.getfield 41, 3)) (kk : W p l e R s m args below meth c H locs cells slots Q (F0 m (pc + 3) ls (v1 :: rest))) : W p l e R s m args below meth c H locs cells slots Q (F0 m pc ls (.ref a :: rest)) :=
  va_getN (ci := 6) (v := v1) (C := RX6) (T := TX6) (N := 2) hx hb hts inqX6 hown hK hP q0 he rfl 1 (by decide) (va_Nw.use rfl (hN _ fl_X3_41 rfl)) (fun _ h9 => h9) rfl hdg kk
theorem fl_X3_46 : Cond.fieldLink RX3 46 "AHandGoesUp$Roster" "pupils" "I" ∈ aw := aw_at 165 (by decide +kernel) (by decide +kernel)
theorem gf_X3_46 {p : Program} {l : Launch} {e : Env} {R : Room} {s : State} {m : MethodId} {args : Array Value} {below : List Frame} {meth : Method} {c : Code} {H : Heap} {locs : List Loc} {cells slots : Nat} {Q : State → Prop} {cc : ByteArray} {pc : Nat} {ls : Array Slot} {rest : List Value} {D : va_G} {a : Nat} {cI cJ cZ : ClassId} {ws : va_W} (hx : p.tables.exec = Jvm.exec) (hb : c.code = cc) (hts : ∀ w ∈ aw, w.before args s = true) (hown : s.vm.findClass RX3 = some m.cls) (hK : va_K D vwCl (ty3 cI cJ cZ) s) (hP : va_P D vwCl ws H) {q0 : Nat} {v0 v1 v2 v3 v4 v5 v6 v7 v8 : Value} (he : ws[q0]? = some (a, .inr (3, [v0, v1, v2, v3, v4, v5, v6, v7, v8]))) (hdg : decode cc pc = .ok (.getfield 46, 3)) (kk : W p l e R s m args below meth c H locs cells slots Q (F0 m (pc + 3) ls (v7 :: rest))) : W p l e R s m args below meth c H locs cells slots Q (F0 m pc ls (.ref a :: rest)) :=
  va_get (ci := 3) (v := v7) (C := RX3) (T := TX3) (N := 9) hx hb hts inqX3 hown hK hP q0 he rfl 7 (by decide) (hts _ fl_X3_46) (fun _ h9 => h9) rfl hdg kk
theorem pf_X3_46 {p : Program} {l : Launch} {e : Env} {R : Room} {s : State} {m : MethodId} {args : Array Value} {below : List Frame} {meth : Method} {c : Code} {H : Heap} {locs : List Loc} {cells slots : Nat} {Q : State → Prop} {cc : ByteArray} {pc : Nat} {ls : Array Slot} {rest : List Value} {D : va_G} {a : Nat} {cI cJ cZ : ClassId} {ws : va_W} {A : Nat → Prop} {H0 : Heap} (hx : p.tables.exec = Jvm.exec) (hb : c.code = cc) (hts : ∀ w ∈ aw, w.before args s = true) (hown : s.vm.findClass RX3 = some m.cls) (hK : va_K D vwCl (ty3 cI cJ cZ) s) (hP : va_P D vwCl ws H) (hD : va_D A ws) (hS : va_S A H0 H locs) {q0 : Nat} {v0 v1 v2 v3 v4 v5 v6 v7 v8 v : Value} (he : ws[q0]? = some (a, .inr (3, [v0, v1, v2, v3, v4, v5, v6, v7, v8]))) (hn : narrow .int v = v) (hf : fits .int v = true) (hdg : decode cc pc = .ok (.putfield 46, 3)) (kk : ∀ (ws' : va_W) (H1 : Heap) (locs1 : List Loc), va_P D vwCl ws' H1 → va_D A ws' → (∀ j : Nat, j ≠ q0 → ws'[j]? = ws[j]?) → ws'[q0]? = some (a, .inr (3, [v0, v1, v2, v3, v4, v5, v6, v, v8])) → va_S A H0 H1 locs1 → W p l e R s m args below meth c H1 locs1 cells slots Q (F0 m (pc + 3) ls rest)) : W p l e R s m args below meth c H locs cells slots Q (F0 m pc ls (v :: .ref a :: rest)) :=
  va_put (ci := 3) (v := v) (ty := .int) (C := RX3) (T := TX3) (N := 9) hx hb hts inqX3 tyX3 tyX3_ok nmX3 hown hK hP hD hS q0 he rfl 7 (by decide) (hts _ fl_X3_46) (fun _ h9 => h9) rfl (by decide +kernel) hn hf (Nat.le_of_ble_eq_true rfl) hdg (fun H1 locs1 hP1 hD1 hS1 => kk _ H1 locs1 hP1 hD1 (fun j hj => st_ne hj rfl) (st_eq he) hS1)
theorem fl_X3_63 : Cond.fieldLinkNest RX3 63 "AHandGoesUp$Lessons" "dares" "[I" "AHandGoesUp" ∈ lw_tbl := List.mem_of_getElem? (i := 128) (by decide +kernel)
theorem gf_X3_63 {p : Program} {l : Launch} {e : Env} {R : Room} {s : State} {m : MethodId} {args : Array Value} {below : List Frame} {meth : Method} {c : Code} {H : Heap} {locs : List Loc} {cells slots : Nat} {Q : State → Prop} {cc : ByteArray} {pc : Nat} {ls : Array Slot} {rest : List Value} {D : va_G} {a : Nat} {cI cJ cZ : ClassId} {ws : va_W} (hx : p.tables.exec = Jvm.exec) (hb : c.code = cc) (hts : ∀ w ∈ aw, w.before args s = true) (hown : s.vm.findClass RX3 = some m.cls) (hK : va_K D vwCl (ty3 cI cJ cZ) s) (hN : nwA s) (hP : va_P D vwCl ws H) {q0 : Nat} {v0 v1 v2 v3 v4 v5 v6 : Value} (he : ws[q0]? = some (a, .inr (2, [v0, v1, v2, v3, v4, v5, v6]))) (hdg : decode cc pc = .ok (.getfield 63, 3)) (kk : W p l e R s m args below meth c H locs cells slots Q (F0 m (pc + 3) ls (v0 :: rest))) : W p l e R s m args below meth c H locs cells slots Q (F0 m pc ls (.ref a :: rest)) :=
  va_getN (ci := 2) (v := v0) (C := RX2) (T := TX2) (N := 7) hx hb hts inqX2 hown hK hP q0 he rfl 0 (by decide) (va_Nw.use rfl (hN _ fl_X3_63 rfl)) (fun _ h9 => h9) rfl hdg kk
theorem fl_X3_82 : Cond.fieldLinkNest RX3 82 "AHandGoesUp$Lessons" "times" "[I" "AHandGoesUp" ∈ lw_tbl := List.mem_of_getElem? (i := 130) (by decide +kernel)
theorem gf_X3_82 {p : Program} {l : Launch} {e : Env} {R : Room} {s : State} {m : MethodId} {args : Array Value} {below : List Frame} {meth : Method} {c : Code} {H : Heap} {locs : List Loc} {cells slots : Nat} {Q : State → Prop} {cc : ByteArray} {pc : Nat} {ls : Array Slot} {rest : List Value} {D : va_G} {a : Nat} {cI cJ cZ : ClassId} {ws : va_W} (hx : p.tables.exec = Jvm.exec) (hb : c.code = cc) (hts : ∀ w ∈ aw, w.before args s = true) (hown : s.vm.findClass RX3 = some m.cls) (hK : va_K D vwCl (ty3 cI cJ cZ) s) (hN : nwA s) (hP : va_P D vwCl ws H) {q0 : Nat} {v0 v1 v2 v3 v4 v5 v6 : Value} (he : ws[q0]? = some (a, .inr (2, [v0, v1, v2, v3, v4, v5, v6]))) (hdg : decode cc pc = .ok (.getfield 82, 3)) (kk : W p l e R s m args below meth c H locs cells slots Q (F0 m (pc + 3) ls (v1 :: rest))) : W p l e R s m args below meth c H locs cells slots Q (F0 m pc ls (.ref a :: rest)) :=
  va_getN (ci := 2) (v := v1) (C := RX2) (T := TX2) (N := 7) hx hb hts inqX2 hown hK hP q0 he rfl 1 (by decide) (va_Nw.use rfl (hN _ fl_X3_82 rfl)) (fun _ h9 => h9) rfl hdg kk
theorem fl_X4_11 : Cond.fieldLink RX4 11 "AHandGoesUp$Spread" "cells" "[J" ∈ aw := aw_at 201 (by decide +kernel) (by decide +kernel)
theorem gf_X4_11 {p : Program} {l : Launch} {e : Env} {R : Room} {s : State} {m : MethodId} {args : Array Value} {below : List Frame} {meth : Method} {c : Code} {H : Heap} {locs : List Loc} {cells slots : Nat} {Q : State → Prop} {cc : ByteArray} {pc : Nat} {ls : Array Slot} {rest : List Value} {D : va_G} {a : Nat} {cI cJ cZ : ClassId} {ws : va_W} (hx : p.tables.exec = Jvm.exec) (hb : c.code = cc) (hts : ∀ w ∈ aw, w.before args s = true) (hown : s.vm.findClass RX4 = some m.cls) (hK : va_K D vwCl (ty3 cI cJ cZ) s) (hP : va_P D vwCl ws H) {q0 : Nat} {v0 : Value} (he : ws[q0]? = some (a, .inr (4, [v0]))) (hdg : decode cc pc = .ok (.getfield 11, 3)) (kk : W p l e R s m args below meth c H locs cells slots Q (F0 m (pc + 3) ls (v0 :: rest))) : W p l e R s m args below meth c H locs cells slots Q (F0 m pc ls (.ref a :: rest)) :=
  va_get (ci := 4) (v := v0) (C := RX4) (T := TX4) (N := 1) hx hb hts inqX4 hown hK hP q0 he rfl 0 (by decide) (hts _ fl_X4_11) (fun _ h9 => h9) rfl hdg kk
theorem fl_X5_9 : Cond.fieldLink RX5 9 "AHandGoesUp$Tapes" "hands" "[I" ∈ aw := aw_at 248 (by decide +kernel) (by decide +kernel)
theorem gf_X5_9 {p : Program} {l : Launch} {e : Env} {R : Room} {s : State} {m : MethodId} {args : Array Value} {below : List Frame} {meth : Method} {c : Code} {H : Heap} {locs : List Loc} {cells slots : Nat} {Q : State → Prop} {cc : ByteArray} {pc : Nat} {ls : Array Slot} {rest : List Value} {D : va_G} {a : Nat} {cI cJ cZ : ClassId} {ws : va_W} (hx : p.tables.exec = Jvm.exec) (hb : c.code = cc) (hts : ∀ w ∈ aw, w.before args s = true) (hown : s.vm.findClass RX5 = some m.cls) (hK : va_K D vwCl (ty3 cI cJ cZ) s) (hP : va_P D vwCl ws H) {q0 : Nat} {v0 v1 v2 v3 : Value} (he : ws[q0]? = some (a, .inr (5, [v0, v1, v2, v3]))) (hdg : decode cc pc = .ok (.getfield 9, 3)) (kk : W p l e R s m args below meth c H locs cells slots Q (F0 m (pc + 3) ls (v0 :: rest))) : W p l e R s m args below meth c H locs cells slots Q (F0 m pc ls (.ref a :: rest)) :=
  va_get (ci := 5) (v := v0) (C := RX5) (T := TX5) (N := 4) hx hb hts inqX5 hown hK hP q0 he rfl 0 (by decide) (hts _ fl_X5_9) (fun _ h9 => h9) rfl hdg kk
theorem fl_X5_15 : Cond.fieldLink RX5 15 "AHandGoesUp$Tapes" "ones" "[I" ∈ aw := aw_at 249 (by decide +kernel) (by decide +kernel)
theorem gf_X5_15 {p : Program} {l : Launch} {e : Env} {R : Room} {s : State} {m : MethodId} {args : Array Value} {below : List Frame} {meth : Method} {c : Code} {H : Heap} {locs : List Loc} {cells slots : Nat} {Q : State → Prop} {cc : ByteArray} {pc : Nat} {ls : Array Slot} {rest : List Value} {D : va_G} {a : Nat} {cI cJ cZ : ClassId} {ws : va_W} (hx : p.tables.exec = Jvm.exec) (hb : c.code = cc) (hts : ∀ w ∈ aw, w.before args s = true) (hown : s.vm.findClass RX5 = some m.cls) (hK : va_K D vwCl (ty3 cI cJ cZ) s) (hP : va_P D vwCl ws H) {q0 : Nat} {v0 v1 v2 v3 : Value} (he : ws[q0]? = some (a, .inr (5, [v0, v1, v2, v3]))) (hdg : decode cc pc = .ok (.getfield 15, 3)) (kk : W p l e R s m args below meth c H locs cells slots Q (F0 m (pc + 3) ls (v1 :: rest))) : W p l e R s m args below meth c H locs cells slots Q (F0 m pc ls (.ref a :: rest)) :=
  va_get (ci := 5) (v := v1) (C := RX5) (T := TX5) (N := 4) hx hb hts inqX5 hown hK hP q0 he rfl 1 (by decide) (hts _ fl_X5_15) (fun _ h9 => h9) rfl hdg kk
theorem fl_X5_21 : Cond.fieldLink RX5 21 "AHandGoesUp$Tapes" "spread" "LAHandGoesUp$Spread;" ∈ aw := aw_at 250 (by decide +kernel) (by decide +kernel)
theorem gf_X5_21 {p : Program} {l : Launch} {e : Env} {R : Room} {s : State} {m : MethodId} {args : Array Value} {below : List Frame} {meth : Method} {c : Code} {H : Heap} {locs : List Loc} {cells slots : Nat} {Q : State → Prop} {cc : ByteArray} {pc : Nat} {ls : Array Slot} {rest : List Value} {D : va_G} {a : Nat} {cI cJ cZ : ClassId} {ws : va_W} (hx : p.tables.exec = Jvm.exec) (hb : c.code = cc) (hts : ∀ w ∈ aw, w.before args s = true) (hown : s.vm.findClass RX5 = some m.cls) (hK : va_K D vwCl (ty3 cI cJ cZ) s) (hP : va_P D vwCl ws H) {q0 : Nat} {v0 v1 v2 v3 : Value} (he : ws[q0]? = some (a, .inr (5, [v0, v1, v2, v3]))) (hdg : decode cc pc = .ok (.getfield 21, 3)) (kk : W p l e R s m args below meth c H locs cells slots Q (F0 m (pc + 3) ls (v2 :: rest))) : W p l e R s m args below meth c H locs cells slots Q (F0 m pc ls (.ref a :: rest)) :=
  va_get (ci := 5) (v := v2) (C := RX5) (T := TX5) (N := 4) hx hb hts inqX5 hown hK hP q0 he rfl 2 (by decide) (hts _ fl_X5_21) (fun _ h9 => h9) rfl hdg kk
theorem fl_X5_25 : Cond.fieldLink RX5 25 "AHandGoesUp$Tapes" "size" "I" ∈ aw := aw_at 251 (by decide +kernel) (by decide +kernel)
theorem gf_X5_25 {p : Program} {l : Launch} {e : Env} {R : Room} {s : State} {m : MethodId} {args : Array Value} {below : List Frame} {meth : Method} {c : Code} {H : Heap} {locs : List Loc} {cells slots : Nat} {Q : State → Prop} {cc : ByteArray} {pc : Nat} {ls : Array Slot} {rest : List Value} {D : va_G} {a : Nat} {cI cJ cZ : ClassId} {ws : va_W} (hx : p.tables.exec = Jvm.exec) (hb : c.code = cc) (hts : ∀ w ∈ aw, w.before args s = true) (hown : s.vm.findClass RX5 = some m.cls) (hK : va_K D vwCl (ty3 cI cJ cZ) s) (hP : va_P D vwCl ws H) {q0 : Nat} {v0 v1 v2 v3 : Value} (he : ws[q0]? = some (a, .inr (5, [v0, v1, v2, v3]))) (hdg : decode cc pc = .ok (.getfield 25, 3)) (kk : W p l e R s m args below meth c H locs cells slots Q (F0 m (pc + 3) ls (v3 :: rest))) : W p l e R s m args below meth c H locs cells slots Q (F0 m pc ls (.ref a :: rest)) :=
  va_get (ci := 5) (v := v3) (C := RX5) (T := TX5) (N := 4) hx hb hts inqX5 hown hK hP q0 he rfl 3 (by decide) (hts _ fl_X5_25) (fun _ h9 => h9) rfl hdg kk
theorem pf_X5_25 {p : Program} {l : Launch} {e : Env} {R : Room} {s : State} {m : MethodId} {args : Array Value} {below : List Frame} {meth : Method} {c : Code} {H : Heap} {locs : List Loc} {cells slots : Nat} {Q : State → Prop} {cc : ByteArray} {pc : Nat} {ls : Array Slot} {rest : List Value} {D : va_G} {a : Nat} {cI cJ cZ : ClassId} {ws : va_W} {A : Nat → Prop} {H0 : Heap} (hx : p.tables.exec = Jvm.exec) (hb : c.code = cc) (hts : ∀ w ∈ aw, w.before args s = true) (hown : s.vm.findClass RX5 = some m.cls) (hK : va_K D vwCl (ty3 cI cJ cZ) s) (hP : va_P D vwCl ws H) (hD : va_D A ws) (hS : va_S A H0 H locs) {q0 : Nat} {v0 v1 v2 v3 v : Value} (he : ws[q0]? = some (a, .inr (5, [v0, v1, v2, v3]))) (hn : narrow .int v = v) (hf : fits .int v = true) (hdg : decode cc pc = .ok (.putfield 25, 3)) (kk : ∀ (ws' : va_W) (H1 : Heap) (locs1 : List Loc), va_P D vwCl ws' H1 → va_D A ws' → (∀ j : Nat, j ≠ q0 → ws'[j]? = ws[j]?) → ws'[q0]? = some (a, .inr (5, [v0, v1, v2, v])) → va_S A H0 H1 locs1 → W p l e R s m args below meth c H1 locs1 cells slots Q (F0 m (pc + 3) ls rest)) : W p l e R s m args below meth c H locs cells slots Q (F0 m pc ls (v :: .ref a :: rest)) :=
  va_put (ci := 5) (v := v) (ty := .int) (C := RX5) (T := TX5) (N := 4) hx hb hts inqX5 tyX5 tyX5_ok nmX5 hown hK hP hD hS q0 he rfl 3 (by decide) (hts _ fl_X5_25) (fun _ h9 => h9) rfl (by decide +kernel) hn hf (Nat.le_of_ble_eq_true rfl) hdg (fun H1 locs1 hP1 hD1 hS1 => kk _ H1 locs1 hP1 hD1 (fun j hj => st_ne hj rfl) (st_eq he) hS1)
theorem fl_X6_9 : Cond.fieldLink RX6 9 "AHandGoesUp$Text" "bytes" "[I" ∈ aw := aw_at 105 (by decide +kernel) (by decide +kernel)
theorem gf_X6_9 {p : Program} {l : Launch} {e : Env} {R : Room} {s : State} {m : MethodId} {args : Array Value} {below : List Frame} {meth : Method} {c : Code} {H : Heap} {locs : List Loc} {cells slots : Nat} {Q : State → Prop} {cc : ByteArray} {pc : Nat} {ls : Array Slot} {rest : List Value} {D : va_G} {a : Nat} {cI cJ cZ : ClassId} {ws : va_W} (hx : p.tables.exec = Jvm.exec) (hb : c.code = cc) (hts : ∀ w ∈ aw, w.before args s = true) (hown : s.vm.findClass RX6 = some m.cls) (hK : va_K D vwCl (ty3 cI cJ cZ) s) (hP : va_P D vwCl ws H) {q0 : Nat} {v0 v1 : Value} (he : ws[q0]? = some (a, .inr (6, [v0, v1]))) (hdg : decode cc pc = .ok (.getfield 9, 3)) (kk : W p l e R s m args below meth c H locs cells slots Q (F0 m (pc + 3) ls (v0 :: rest))) : W p l e R s m args below meth c H locs cells slots Q (F0 m pc ls (.ref a :: rest)) :=
  va_get (ci := 6) (v := v0) (C := RX6) (T := TX6) (N := 2) hx hb hts inqX6 hown hK hP q0 he rfl 0 (by decide) (hts _ fl_X6_9) (fun _ h9 => h9) rfl hdg kk
theorem fl_X6_15 : Cond.fieldLink RX6 15 "AHandGoesUp$Text" "length" "I" ∈ aw := aw_at 106 (by decide +kernel) (by decide +kernel)
theorem gf_X6_15 {p : Program} {l : Launch} {e : Env} {R : Room} {s : State} {m : MethodId} {args : Array Value} {below : List Frame} {meth : Method} {c : Code} {H : Heap} {locs : List Loc} {cells slots : Nat} {Q : State → Prop} {cc : ByteArray} {pc : Nat} {ls : Array Slot} {rest : List Value} {D : va_G} {a : Nat} {cI cJ cZ : ClassId} {ws : va_W} (hx : p.tables.exec = Jvm.exec) (hb : c.code = cc) (hts : ∀ w ∈ aw, w.before args s = true) (hown : s.vm.findClass RX6 = some m.cls) (hK : va_K D vwCl (ty3 cI cJ cZ) s) (hP : va_P D vwCl ws H) {q0 : Nat} {v0 v1 : Value} (he : ws[q0]? = some (a, .inr (6, [v0, v1]))) (hdg : decode cc pc = .ok (.getfield 15, 3)) (kk : W p l e R s m args below meth c H locs cells slots Q (F0 m (pc + 3) ls (v1 :: rest))) : W p l e R s m args below meth c H locs cells slots Q (F0 m pc ls (.ref a :: rest)) :=
  va_get (ci := 6) (v := v1) (C := RX6) (T := TX6) (N := 2) hx hb hts inqX6 hown hK hP q0 he rfl 1 (by decide) (hts _ fl_X6_15) (fun _ h9 => h9) rfl hdg kk
theorem pf_X6_15 {p : Program} {l : Launch} {e : Env} {R : Room} {s : State} {m : MethodId} {args : Array Value} {below : List Frame} {meth : Method} {c : Code} {H : Heap} {locs : List Loc} {cells slots : Nat} {Q : State → Prop} {cc : ByteArray} {pc : Nat} {ls : Array Slot} {rest : List Value} {D : va_G} {a : Nat} {cI cJ cZ : ClassId} {ws : va_W} {A : Nat → Prop} {H0 : Heap} (hx : p.tables.exec = Jvm.exec) (hb : c.code = cc) (hts : ∀ w ∈ aw, w.before args s = true) (hown : s.vm.findClass RX6 = some m.cls) (hK : va_K D vwCl (ty3 cI cJ cZ) s) (hP : va_P D vwCl ws H) (hD : va_D A ws) (hS : va_S A H0 H locs) {q0 : Nat} {v0 v1 v : Value} (he : ws[q0]? = some (a, .inr (6, [v0, v1]))) (hn : narrow .int v = v) (hf : fits .int v = true) (hdg : decode cc pc = .ok (.putfield 15, 3)) (kk : ∀ (ws' : va_W) (H1 : Heap) (locs1 : List Loc), va_P D vwCl ws' H1 → va_D A ws' → (∀ j : Nat, j ≠ q0 → ws'[j]? = ws[j]?) → ws'[q0]? = some (a, .inr (6, [v0, v])) → va_S A H0 H1 locs1 → W p l e R s m args below meth c H1 locs1 cells slots Q (F0 m (pc + 3) ls rest)) : W p l e R s m args below meth c H locs cells slots Q (F0 m pc ls (v :: .ref a :: rest)) :=
  va_put (ci := 6) (v := v) (ty := .int) (C := RX6) (T := TX6) (N := 2) hx hb hts inqX6 tyX6 tyX6_ok nmX6 hown hK hP hD hS q0 he rfl 1 (by decide) (hts _ fl_X6_15) (fun _ h9 => h9) rfl (by decide +kernel) hn hf (Nat.le_of_ble_eq_true rfl) hdg (fun H1 locs1 hP1 hD1 hS1 => kk _ H1 locs1 hP1 hD1 (fun j hj => st_ne hj rfl) (st_eq he) hS1)
theorem fl_X7_9 : Cond.fieldLink RX7 9 "AHandGoesUp$Trials" "hands" "[I" ∈ aw := aw_at 268 (by decide +kernel) (by decide +kernel)
theorem gf_X7_9 {p : Program} {l : Launch} {e : Env} {R : Room} {s : State} {m : MethodId} {args : Array Value} {below : List Frame} {meth : Method} {c : Code} {H : Heap} {locs : List Loc} {cells slots : Nat} {Q : State → Prop} {cc : ByteArray} {pc : Nat} {ls : Array Slot} {rest : List Value} {D : va_G} {a : Nat} {cI cJ cZ : ClassId} {ws : va_W} (hx : p.tables.exec = Jvm.exec) (hb : c.code = cc) (hts : ∀ w ∈ aw, w.before args s = true) (hown : s.vm.findClass RX7 = some m.cls) (hK : va_K D vwCl (ty3 cI cJ cZ) s) (hP : va_P D vwCl ws H) {q0 : Nat} {v0 v1 v2 : Value} (he : ws[q0]? = some (a, .inr (7, [v0, v1, v2]))) (hdg : decode cc pc = .ok (.getfield 9, 3)) (kk : W p l e R s m args below meth c H locs cells slots Q (F0 m (pc + 3) ls (v0 :: rest))) : W p l e R s m args below meth c H locs cells slots Q (F0 m pc ls (.ref a :: rest)) :=
  va_get (ci := 7) (v := v0) (C := RX7) (T := TX7) (N := 3) hx hb hts inqX7 hown hK hP q0 he rfl 0 (by decide) (hts _ fl_X7_9) (fun _ h9 => h9) rfl hdg kk
theorem fl_X7_15 : Cond.fieldLink RX7 15 "AHandGoesUp$Trials" "size" "I" ∈ aw := aw_at 271 (by decide +kernel) (by decide +kernel)
theorem gf_X7_15 {p : Program} {l : Launch} {e : Env} {R : Room} {s : State} {m : MethodId} {args : Array Value} {below : List Frame} {meth : Method} {c : Code} {H : Heap} {locs : List Loc} {cells slots : Nat} {Q : State → Prop} {cc : ByteArray} {pc : Nat} {ls : Array Slot} {rest : List Value} {D : va_G} {a : Nat} {cI cJ cZ : ClassId} {ws : va_W} (hx : p.tables.exec = Jvm.exec) (hb : c.code = cc) (hts : ∀ w ∈ aw, w.before args s = true) (hown : s.vm.findClass RX7 = some m.cls) (hK : va_K D vwCl (ty3 cI cJ cZ) s) (hP : va_P D vwCl ws H) {q0 : Nat} {v0 v1 v2 : Value} (he : ws[q0]? = some (a, .inr (7, [v0, v1, v2]))) (hdg : decode cc pc = .ok (.getfield 15, 3)) (kk : W p l e R s m args below meth c H locs cells slots Q (F0 m (pc + 3) ls (v2 :: rest))) : W p l e R s m args below meth c H locs cells slots Q (F0 m pc ls (.ref a :: rest)) :=
  va_get (ci := 7) (v := v2) (C := RX7) (T := TX7) (N := 3) hx hb hts inqX7 hown hK hP q0 he rfl 2 (by decide) (hts _ fl_X7_15) (fun _ h9 => h9) rfl hdg kk
theorem pf_X7_15 {p : Program} {l : Launch} {e : Env} {R : Room} {s : State} {m : MethodId} {args : Array Value} {below : List Frame} {meth : Method} {c : Code} {H : Heap} {locs : List Loc} {cells slots : Nat} {Q : State → Prop} {cc : ByteArray} {pc : Nat} {ls : Array Slot} {rest : List Value} {D : va_G} {a : Nat} {cI cJ cZ : ClassId} {ws : va_W} {A : Nat → Prop} {H0 : Heap} (hx : p.tables.exec = Jvm.exec) (hb : c.code = cc) (hts : ∀ w ∈ aw, w.before args s = true) (hown : s.vm.findClass RX7 = some m.cls) (hK : va_K D vwCl (ty3 cI cJ cZ) s) (hP : va_P D vwCl ws H) (hD : va_D A ws) (hS : va_S A H0 H locs) {q0 : Nat} {v0 v1 v2 v : Value} (he : ws[q0]? = some (a, .inr (7, [v0, v1, v2]))) (hn : narrow .int v = v) (hf : fits .int v = true) (hdg : decode cc pc = .ok (.putfield 15, 3)) (kk : ∀ (ws' : va_W) (H1 : Heap) (locs1 : List Loc), va_P D vwCl ws' H1 → va_D A ws' → (∀ j : Nat, j ≠ q0 → ws'[j]? = ws[j]?) → ws'[q0]? = some (a, .inr (7, [v0, v1, v])) → va_S A H0 H1 locs1 → W p l e R s m args below meth c H1 locs1 cells slots Q (F0 m (pc + 3) ls rest)) : W p l e R s m args below meth c H locs cells slots Q (F0 m pc ls (v :: .ref a :: rest)) :=
  va_put (ci := 7) (v := v) (ty := .int) (C := RX7) (T := TX7) (N := 3) hx hb hts inqX7 tyX7 tyX7_ok nmX7 hown hK hP hD hS q0 he rfl 2 (by decide) (hts _ fl_X7_15) (fun _ h9 => h9) rfl (by decide +kernel) hn hf (Nat.le_of_ble_eq_true rfl) hdg (fun H1 locs1 hP1 hD1 hS1 => kk _ H1 locs1 hP1 hD1 (fun j hj => st_ne hj rfl) (st_eq he) hS1)
theorem fl_X7_23 : Cond.fieldLink RX7 23 "AHandGoesUp$Trials" "waited" "I" ∈ aw := aw_at 269 (by decide +kernel) (by decide +kernel)
theorem gf_X7_23 {p : Program} {l : Launch} {e : Env} {R : Room} {s : State} {m : MethodId} {args : Array Value} {below : List Frame} {meth : Method} {c : Code} {H : Heap} {locs : List Loc} {cells slots : Nat} {Q : State → Prop} {cc : ByteArray} {pc : Nat} {ls : Array Slot} {rest : List Value} {D : va_G} {a : Nat} {cI cJ cZ : ClassId} {ws : va_W} (hx : p.tables.exec = Jvm.exec) (hb : c.code = cc) (hts : ∀ w ∈ aw, w.before args s = true) (hown : s.vm.findClass RX7 = some m.cls) (hK : va_K D vwCl (ty3 cI cJ cZ) s) (hP : va_P D vwCl ws H) {q0 : Nat} {v0 v1 v2 : Value} (he : ws[q0]? = some (a, .inr (7, [v0, v1, v2]))) (hdg : decode cc pc = .ok (.getfield 23, 3)) (kk : W p l e R s m args below meth c H locs cells slots Q (F0 m (pc + 3) ls (v1 :: rest))) : W p l e R s m args below meth c H locs cells slots Q (F0 m pc ls (.ref a :: rest)) :=
  va_get (ci := 7) (v := v1) (C := RX7) (T := TX7) (N := 3) hx hb hts inqX7 hown hK hP q0 he rfl 1 (by decide) (hts _ fl_X7_23) (fun _ h9 => h9) rfl hdg kk
theorem pf_X7_23 {p : Program} {l : Launch} {e : Env} {R : Room} {s : State} {m : MethodId} {args : Array Value} {below : List Frame} {meth : Method} {c : Code} {H : Heap} {locs : List Loc} {cells slots : Nat} {Q : State → Prop} {cc : ByteArray} {pc : Nat} {ls : Array Slot} {rest : List Value} {D : va_G} {a : Nat} {cI cJ cZ : ClassId} {ws : va_W} {A : Nat → Prop} {H0 : Heap} (hx : p.tables.exec = Jvm.exec) (hb : c.code = cc) (hts : ∀ w ∈ aw, w.before args s = true) (hown : s.vm.findClass RX7 = some m.cls) (hK : va_K D vwCl (ty3 cI cJ cZ) s) (hP : va_P D vwCl ws H) (hD : va_D A ws) (hS : va_S A H0 H locs) {q0 : Nat} {v0 v1 v2 v : Value} (he : ws[q0]? = some (a, .inr (7, [v0, v1, v2]))) (hn : narrow .int v = v) (hf : fits .int v = true) (hdg : decode cc pc = .ok (.putfield 23, 3)) (kk : ∀ (ws' : va_W) (H1 : Heap) (locs1 : List Loc), va_P D vwCl ws' H1 → va_D A ws' → (∀ j : Nat, j ≠ q0 → ws'[j]? = ws[j]?) → ws'[q0]? = some (a, .inr (7, [v0, v, v2])) → va_S A H0 H1 locs1 → W p l e R s m args below meth c H1 locs1 cells slots Q (F0 m (pc + 3) ls rest)) : W p l e R s m args below meth c H locs cells slots Q (F0 m pc ls (v :: .ref a :: rest)) :=
  va_put (ci := 7) (v := v) (ty := .int) (C := RX7) (T := TX7) (N := 3) hx hb hts inqX7 tyX7 tyX7_ok nmX7 hown hK hP hD hS q0 he rfl 1 (by decide) (hts _ fl_X7_23) (fun _ h9 => h9) rfl (by decide +kernel) hn hf (Nat.le_of_ble_eq_true rfl) hdg (fun H1 locs1 hP1 hD1 hS1 => kk _ H1 locs1 hP1 hD1 (fun j hj => st_ne hj rfl) (st_eq he) hS1)
theorem fl_X8_10 : Cond.fieldLink RX8 10 "AHandGoesUp" "text" "LAHandGoesUp$Text;" ∈ aw := aw_at 280 (by decide +kernel) (by decide +kernel)
theorem gf_X8_10 {p : Program} {l : Launch} {e : Env} {R : Room} {s : State} {m : MethodId} {args : Array Value} {below : List Frame} {meth : Method} {c : Code} {H : Heap} {locs : List Loc} {cells slots : Nat} {Q : State → Prop} {cc : ByteArray} {pc : Nat} {ls : Array Slot} {rest : List Value} {D : va_G} {a : Nat} {cI cJ cZ : ClassId} {ws : va_W} (hx : p.tables.exec = Jvm.exec) (hb : c.code = cc) (hts : ∀ w ∈ aw, w.before args s = true) (hown : s.vm.findClass RX8 = some m.cls) (hK : va_K D vwCl (ty3 cI cJ cZ) s) (hP : va_P D vwCl ws H) {q0 : Nat} {v0 v1 v2 v3 v4 v5 v6 v7 : Value} (he : ws[q0]? = some (a, .inr (8, [v0, v1, v2, v3, v4, v5, v6, v7]))) (hdg : decode cc pc = .ok (.getfield 10, 3)) (kk : W p l e R s m args below meth c H locs cells slots Q (F0 m (pc + 3) ls (v0 :: rest))) : W p l e R s m args below meth c H locs cells slots Q (F0 m pc ls (.ref a :: rest)) :=
  va_get (ci := 8) (v := v0) (C := RX8) (T := TX8) (N := 8) hx hb hts inqX8 hown hK hP q0 he rfl 0 (by decide) (hts _ fl_X8_10) (fun _ h9 => h9) rfl hdg kk
theorem fl_X8_19 : Cond.fieldLink RX8 19 "AHandGoesUp" "roster" "LAHandGoesUp$Roster;" ∈ aw := aw_at 281 (by decide +kernel) (by decide +kernel)
theorem gf_X8_19 {p : Program} {l : Launch} {e : Env} {R : Room} {s : State} {m : MethodId} {args : Array Value} {below : List Frame} {meth : Method} {c : Code} {H : Heap} {locs : List Loc} {cells slots : Nat} {Q : State → Prop} {cc : ByteArray} {pc : Nat} {ls : Array Slot} {rest : List Value} {D : va_G} {a : Nat} {cI cJ cZ : ClassId} {ws : va_W} (hx : p.tables.exec = Jvm.exec) (hb : c.code = cc) (hts : ∀ w ∈ aw, w.before args s = true) (hown : s.vm.findClass RX8 = some m.cls) (hK : va_K D vwCl (ty3 cI cJ cZ) s) (hP : va_P D vwCl ws H) {q0 : Nat} {v0 v1 v2 v3 v4 v5 v6 v7 : Value} (he : ws[q0]? = some (a, .inr (8, [v0, v1, v2, v3, v4, v5, v6, v7]))) (hdg : decode cc pc = .ok (.getfield 19, 3)) (kk : W p l e R s m args below meth c H locs cells slots Q (F0 m (pc + 3) ls (v1 :: rest))) : W p l e R s m args below meth c H locs cells slots Q (F0 m pc ls (.ref a :: rest)) :=
  va_get (ci := 8) (v := v1) (C := RX8) (T := TX8) (N := 8) hx hb hts inqX8 hown hK hP q0 he rfl 1 (by decide) (hts _ fl_X8_19) (fun _ h9 => h9) rfl hdg kk
theorem fl_X8_26 : Cond.fieldLink RX8 26 "AHandGoesUp" "handsUp" "LAHandGoesUp$Hands;" ∈ aw := aw_at 282 (by decide +kernel) (by decide +kernel)
theorem gf_X8_26 {p : Program} {l : Launch} {e : Env} {R : Room} {s : State} {m : MethodId} {args : Array Value} {below : List Frame} {meth : Method} {c : Code} {H : Heap} {locs : List Loc} {cells slots : Nat} {Q : State → Prop} {cc : ByteArray} {pc : Nat} {ls : Array Slot} {rest : List Value} {D : va_G} {a : Nat} {cI cJ cZ : ClassId} {ws : va_W} (hx : p.tables.exec = Jvm.exec) (hb : c.code = cc) (hts : ∀ w ∈ aw, w.before args s = true) (hown : s.vm.findClass RX8 = some m.cls) (hK : va_K D vwCl (ty3 cI cJ cZ) s) (hP : va_P D vwCl ws H) {q0 : Nat} {v0 v1 v2 v3 v4 v5 v6 v7 : Value} (he : ws[q0]? = some (a, .inr (8, [v0, v1, v2, v3, v4, v5, v6, v7]))) (hdg : decode cc pc = .ok (.getfield 26, 3)) (kk : W p l e R s m args below meth c H locs cells slots Q (F0 m (pc + 3) ls (v2 :: rest))) : W p l e R s m args below meth c H locs cells slots Q (F0 m pc ls (.ref a :: rest)) :=
  va_get (ci := 8) (v := v2) (C := RX8) (T := TX8) (N := 8) hx hb hts inqX8 hown hK hP q0 he rfl 2 (by decide) (hts _ fl_X8_26) (fun _ h9 => h9) rfl hdg kk
theorem fl_X8_33 : Cond.fieldLink RX8 33 "AHandGoesUp" "choice" "LAHandGoesUp$Choice;" ∈ aw := aw_at 283 (by decide +kernel) (by decide +kernel)
theorem gf_X8_33 {p : Program} {l : Launch} {e : Env} {R : Room} {s : State} {m : MethodId} {args : Array Value} {below : List Frame} {meth : Method} {c : Code} {H : Heap} {locs : List Loc} {cells slots : Nat} {Q : State → Prop} {cc : ByteArray} {pc : Nat} {ls : Array Slot} {rest : List Value} {D : va_G} {a : Nat} {cI cJ cZ : ClassId} {ws : va_W} (hx : p.tables.exec = Jvm.exec) (hb : c.code = cc) (hts : ∀ w ∈ aw, w.before args s = true) (hown : s.vm.findClass RX8 = some m.cls) (hK : va_K D vwCl (ty3 cI cJ cZ) s) (hP : va_P D vwCl ws H) {q0 : Nat} {v0 v1 v2 v3 v4 v5 v6 v7 : Value} (he : ws[q0]? = some (a, .inr (8, [v0, v1, v2, v3, v4, v5, v6, v7]))) (hdg : decode cc pc = .ok (.getfield 33, 3)) (kk : W p l e R s m args below meth c H locs cells slots Q (F0 m (pc + 3) ls (v3 :: rest))) : W p l e R s m args below meth c H locs cells slots Q (F0 m pc ls (.ref a :: rest)) :=
  va_get (ci := 8) (v := v3) (C := RX8) (T := TX8) (N := 8) hx hb hts inqX8 hown hK hP q0 he rfl 3 (by decide) (hts _ fl_X8_33) (fun _ h9 => h9) rfl hdg kk
theorem fl_X8_40 : Cond.fieldLink RX8 40 "AHandGoesUp" "firstSlot" "LAHandGoesUp$Lessons;" ∈ aw := aw_at 284 (by decide +kernel) (by decide +kernel)
theorem gf_X8_40 {p : Program} {l : Launch} {e : Env} {R : Room} {s : State} {m : MethodId} {args : Array Value} {below : List Frame} {meth : Method} {c : Code} {H : Heap} {locs : List Loc} {cells slots : Nat} {Q : State → Prop} {cc : ByteArray} {pc : Nat} {ls : Array Slot} {rest : List Value} {D : va_G} {a : Nat} {cI cJ cZ : ClassId} {ws : va_W} (hx : p.tables.exec = Jvm.exec) (hb : c.code = cc) (hts : ∀ w ∈ aw, w.before args s = true) (hown : s.vm.findClass RX8 = some m.cls) (hK : va_K D vwCl (ty3 cI cJ cZ) s) (hP : va_P D vwCl ws H) {q0 : Nat} {v0 v1 v2 v3 v4 v5 v6 v7 : Value} (he : ws[q0]? = some (a, .inr (8, [v0, v1, v2, v3, v4, v5, v6, v7]))) (hdg : decode cc pc = .ok (.getfield 40, 3)) (kk : W p l e R s m args below meth c H locs cells slots Q (F0 m (pc + 3) ls (v4 :: rest))) : W p l e R s m args below meth c H locs cells slots Q (F0 m pc ls (.ref a :: rest)) :=
  va_get (ci := 8) (v := v4) (C := RX8) (T := TX8) (N := 8) hx hb hts inqX8 hown hK hP q0 he rfl 4 (by decide) (hts _ fl_X8_40) (fun _ h9 => h9) rfl hdg kk
theorem fl_X8_44 : Cond.fieldLink RX8 44 "AHandGoesUp" "secondSlot" "LAHandGoesUp$Lessons;" ∈ aw := aw_at 285 (by decide +kernel) (by decide +kernel)
theorem gf_X8_44 {p : Program} {l : Launch} {e : Env} {R : Room} {s : State} {m : MethodId} {args : Array Value} {below : List Frame} {meth : Method} {c : Code} {H : Heap} {locs : List Loc} {cells slots : Nat} {Q : State → Prop} {cc : ByteArray} {pc : Nat} {ls : Array Slot} {rest : List Value} {D : va_G} {a : Nat} {cI cJ cZ : ClassId} {ws : va_W} (hx : p.tables.exec = Jvm.exec) (hb : c.code = cc) (hts : ∀ w ∈ aw, w.before args s = true) (hown : s.vm.findClass RX8 = some m.cls) (hK : va_K D vwCl (ty3 cI cJ cZ) s) (hP : va_P D vwCl ws H) {q0 : Nat} {v0 v1 v2 v3 v4 v5 v6 v7 : Value} (he : ws[q0]? = some (a, .inr (8, [v0, v1, v2, v3, v4, v5, v6, v7]))) (hdg : decode cc pc = .ok (.getfield 44, 3)) (kk : W p l e R s m args below meth c H locs cells slots Q (F0 m (pc + 3) ls (v5 :: rest))) : W p l e R s m args below meth c H locs cells slots Q (F0 m pc ls (.ref a :: rest)) :=
  va_get (ci := 8) (v := v5) (C := RX8) (T := TX8) (N := 8) hx hb hts inqX8 hown hK hP q0 he rfl 5 (by decide) (hts _ fl_X8_44) (fun _ h9 => h9) rfl hdg kk
theorem fl_X8_50 : Cond.fieldLink RX8 50 "AHandGoesUp" "tapes" "LAHandGoesUp$Tapes;" ∈ aw := aw_at 286 (by decide +kernel) (by decide +kernel)
theorem gf_X8_50 {p : Program} {l : Launch} {e : Env} {R : Room} {s : State} {m : MethodId} {args : Array Value} {below : List Frame} {meth : Method} {c : Code} {H : Heap} {locs : List Loc} {cells slots : Nat} {Q : State → Prop} {cc : ByteArray} {pc : Nat} {ls : Array Slot} {rest : List Value} {D : va_G} {a : Nat} {cI cJ cZ : ClassId} {ws : va_W} (hx : p.tables.exec = Jvm.exec) (hb : c.code = cc) (hts : ∀ w ∈ aw, w.before args s = true) (hown : s.vm.findClass RX8 = some m.cls) (hK : va_K D vwCl (ty3 cI cJ cZ) s) (hP : va_P D vwCl ws H) {q0 : Nat} {v0 v1 v2 v3 v4 v5 v6 v7 : Value} (he : ws[q0]? = some (a, .inr (8, [v0, v1, v2, v3, v4, v5, v6, v7]))) (hdg : decode cc pc = .ok (.getfield 50, 3)) (kk : W p l e R s m args below meth c H locs cells slots Q (F0 m (pc + 3) ls (v6 :: rest))) : W p l e R s m args below meth c H locs cells slots Q (F0 m pc ls (.ref a :: rest)) :=
  va_get (ci := 8) (v := v6) (C := RX8) (T := TX8) (N := 8) hx hb hts inqX8 hown hK hP q0 he rfl 6 (by decide) (hts _ fl_X8_50) (fun _ h9 => h9) rfl hdg kk
theorem fl_X8_57 : Cond.fieldLink RX8 57 "AHandGoesUp" "trials" "LAHandGoesUp$Trials;" ∈ aw := aw_at 287 (by decide +kernel) (by decide +kernel)
theorem gf_X8_57 {p : Program} {l : Launch} {e : Env} {R : Room} {s : State} {m : MethodId} {args : Array Value} {below : List Frame} {meth : Method} {c : Code} {H : Heap} {locs : List Loc} {cells slots : Nat} {Q : State → Prop} {cc : ByteArray} {pc : Nat} {ls : Array Slot} {rest : List Value} {D : va_G} {a : Nat} {cI cJ cZ : ClassId} {ws : va_W} (hx : p.tables.exec = Jvm.exec) (hb : c.code = cc) (hts : ∀ w ∈ aw, w.before args s = true) (hown : s.vm.findClass RX8 = some m.cls) (hK : va_K D vwCl (ty3 cI cJ cZ) s) (hP : va_P D vwCl ws H) {q0 : Nat} {v0 v1 v2 v3 v4 v5 v6 v7 : Value} (he : ws[q0]? = some (a, .inr (8, [v0, v1, v2, v3, v4, v5, v6, v7]))) (hdg : decode cc pc = .ok (.getfield 57, 3)) (kk : W p l e R s m args below meth c H locs cells slots Q (F0 m (pc + 3) ls (v7 :: rest))) : W p l e R s m args below meth c H locs cells slots Q (F0 m pc ls (.ref a :: rest)) :=
  va_get (ci := 8) (v := v7) (C := RX8) (T := TX8) (N := 8) hx hb hts inqX8 hown hK hP q0 he rfl 7 (by decide) (hts _ fl_X8_57) (fun _ h9 => h9) rfl hdg kk
theorem fl_X8_80 : Cond.fieldLinkNest RX8 80 "AHandGoesUp$Lessons" "isKept" "Z" "AHandGoesUp" ∈ lw_tbl := List.mem_of_getElem? (i := 139) (by decide +kernel)
theorem gf_X8_80 {p : Program} {l : Launch} {e : Env} {R : Room} {s : State} {m : MethodId} {args : Array Value} {below : List Frame} {meth : Method} {c : Code} {H : Heap} {locs : List Loc} {cells slots : Nat} {Q : State → Prop} {cc : ByteArray} {pc : Nat} {ls : Array Slot} {rest : List Value} {D : va_G} {a : Nat} {cI cJ cZ : ClassId} {ws : va_W} (hx : p.tables.exec = Jvm.exec) (hb : c.code = cc) (hts : ∀ w ∈ aw, w.before args s = true) (hown : s.vm.findClass RX8 = some m.cls) (hK : va_K D vwCl (ty3 cI cJ cZ) s) (hN : nwA s) (hP : va_P D vwCl ws H) {q0 : Nat} {v0 v1 v2 v3 v4 v5 v6 : Value} (he : ws[q0]? = some (a, .inr (2, [v0, v1, v2, v3, v4, v5, v6]))) (hdg : decode cc pc = .ok (.getfield 80, 3)) (kk : W p l e R s m args below meth c H locs cells slots Q (F0 m (pc + 3) ls (v6 :: rest))) : W p l e R s m args below meth c H locs cells slots Q (F0 m pc ls (.ref a :: rest)) :=
  va_getN (ci := 2) (v := v6) (C := RX2) (T := TX2) (N := 7) hx hb hts inqX2 hown hK hP q0 he rfl 6 (by decide) (va_Nw.use rfl (hN _ fl_X8_80 rfl)) (fun _ h9 => h9) rfl hdg kk
theorem pf_X8_80 {p : Program} {l : Launch} {e : Env} {R : Room} {s : State} {m : MethodId} {args : Array Value} {below : List Frame} {meth : Method} {c : Code} {H : Heap} {locs : List Loc} {cells slots : Nat} {Q : State → Prop} {cc : ByteArray} {pc : Nat} {ls : Array Slot} {rest : List Value} {D : va_G} {a : Nat} {cI cJ cZ : ClassId} {ws : va_W} {A : Nat → Prop} {H0 : Heap} (hx : p.tables.exec = Jvm.exec) (hb : c.code = cc) (hts : ∀ w ∈ aw, w.before args s = true) (hown : s.vm.findClass RX8 = some m.cls) (hK : va_K D vwCl (ty3 cI cJ cZ) s) (hN : nwA s) (hP : va_P D vwCl ws H) (hD : va_D A ws) (hS : va_S A H0 H locs) {q0 : Nat} {v0 v1 v2 v3 v4 v5 v6 v : Value} (he : ws[q0]? = some (a, .inr (2, [v0, v1, v2, v3, v4, v5, v6]))) (hn : narrow .boolean v = v) (hf : fits .boolean v = true) (hdg : decode cc pc = .ok (.putfield 80, 3)) (kk : ∀ (ws' : va_W) (H1 : Heap) (locs1 : List Loc), va_P D vwCl ws' H1 → va_D A ws' → (∀ j : Nat, j ≠ q0 → ws'[j]? = ws[j]?) → ws'[q0]? = some (a, .inr (2, [v0, v1, v2, v3, v4, v5, v])) → va_S A H0 H1 locs1 → W p l e R s m args below meth c H1 locs1 cells slots Q (F0 m (pc + 3) ls rest)) : W p l e R s m args below meth c H locs cells slots Q (F0 m pc ls (v :: .ref a :: rest)) :=
  va_putN (ci := 2) (v := v) (ty := .boolean) (C := RX2) (T := TX2) (N := 7) hx hb hts inqX2 tyX2 tyX2_ok nmX2 hown hK hP hD hS q0 he rfl 6 (by decide) (va_Nw.use rfl (hN _ fl_X8_80 rfl)) (fun _ h9 => h9) rfl (by decide +kernel) hn hf (Nat.le_of_ble_eq_true rfl) hdg (fun H1 locs1 hP1 hD1 hS1 => kk _ H1 locs1 hP1 hD1 (fun j hj => st_ne hj rfl) (st_eq he) hS1)
theorem fl_X8_84 : Cond.fieldLinkNest RX8 84 "AHandGoesUp$Roster" "pupils" "I" "AHandGoesUp" ∈ lw_tbl := List.mem_of_getElem? (i := 167) (by decide +kernel)
theorem gf_X8_84 {p : Program} {l : Launch} {e : Env} {R : Room} {s : State} {m : MethodId} {args : Array Value} {below : List Frame} {meth : Method} {c : Code} {H : Heap} {locs : List Loc} {cells slots : Nat} {Q : State → Prop} {cc : ByteArray} {pc : Nat} {ls : Array Slot} {rest : List Value} {D : va_G} {a : Nat} {cI cJ cZ : ClassId} {ws : va_W} (hx : p.tables.exec = Jvm.exec) (hb : c.code = cc) (hts : ∀ w ∈ aw, w.before args s = true) (hown : s.vm.findClass RX8 = some m.cls) (hK : va_K D vwCl (ty3 cI cJ cZ) s) (hN : nwA s) (hP : va_P D vwCl ws H) {q0 : Nat} {v0 v1 v2 v3 v4 v5 v6 v7 v8 : Value} (he : ws[q0]? = some (a, .inr (3, [v0, v1, v2, v3, v4, v5, v6, v7, v8]))) (hdg : decode cc pc = .ok (.getfield 84, 3)) (kk : W p l e R s m args below meth c H locs cells slots Q (F0 m (pc + 3) ls (v7 :: rest))) : W p l e R s m args below meth c H locs cells slots Q (F0 m pc ls (.ref a :: rest)) :=
  va_getN (ci := 3) (v := v7) (C := RX3) (T := TX3) (N := 9) hx hb hts inqX3 hown hK hP q0 he rfl 7 (by decide) (va_Nw.use rfl (hN _ fl_X8_84 rfl)) (fun _ h9 => h9) rfl hdg kk
theorem fl_X8_96 : Cond.fieldLinkNest RX8 96 "AHandGoesUp$Roster" "mood" "I" "AHandGoesUp" ∈ lw_tbl := List.mem_of_getElem? (i := 169) (by decide +kernel)
theorem gf_X8_96 {p : Program} {l : Launch} {e : Env} {R : Room} {s : State} {m : MethodId} {args : Array Value} {below : List Frame} {meth : Method} {c : Code} {H : Heap} {locs : List Loc} {cells slots : Nat} {Q : State → Prop} {cc : ByteArray} {pc : Nat} {ls : Array Slot} {rest : List Value} {D : va_G} {a : Nat} {cI cJ cZ : ClassId} {ws : va_W} (hx : p.tables.exec = Jvm.exec) (hb : c.code = cc) (hts : ∀ w ∈ aw, w.before args s = true) (hown : s.vm.findClass RX8 = some m.cls) (hK : va_K D vwCl (ty3 cI cJ cZ) s) (hN : nwA s) (hP : va_P D vwCl ws H) {q0 : Nat} {v0 v1 v2 v3 v4 v5 v6 v7 v8 : Value} (he : ws[q0]? = some (a, .inr (3, [v0, v1, v2, v3, v4, v5, v6, v7, v8]))) (hdg : decode cc pc = .ok (.getfield 96, 3)) (kk : W p l e R s m args below meth c H locs cells slots Q (F0 m (pc + 3) ls (v8 :: rest))) : W p l e R s m args below meth c H locs cells slots Q (F0 m pc ls (.ref a :: rest)) :=
  va_getN (ci := 3) (v := v8) (C := RX3) (T := TX3) (N := 9) hx hb hts inqX3 hown hK hP q0 he rfl 8 (by decide) (va_Nw.use rfl (hN _ fl_X8_96 rfl)) (fun _ h9 => h9) rfl hdg kk
theorem pf_X8_96 {p : Program} {l : Launch} {e : Env} {R : Room} {s : State} {m : MethodId} {args : Array Value} {below : List Frame} {meth : Method} {c : Code} {H : Heap} {locs : List Loc} {cells slots : Nat} {Q : State → Prop} {cc : ByteArray} {pc : Nat} {ls : Array Slot} {rest : List Value} {D : va_G} {a : Nat} {cI cJ cZ : ClassId} {ws : va_W} {A : Nat → Prop} {H0 : Heap} (hx : p.tables.exec = Jvm.exec) (hb : c.code = cc) (hts : ∀ w ∈ aw, w.before args s = true) (hown : s.vm.findClass RX8 = some m.cls) (hK : va_K D vwCl (ty3 cI cJ cZ) s) (hN : nwA s) (hP : va_P D vwCl ws H) (hD : va_D A ws) (hS : va_S A H0 H locs) {q0 : Nat} {v0 v1 v2 v3 v4 v5 v6 v7 v8 v : Value} (he : ws[q0]? = some (a, .inr (3, [v0, v1, v2, v3, v4, v5, v6, v7, v8]))) (hn : narrow .int v = v) (hf : fits .int v = true) (hdg : decode cc pc = .ok (.putfield 96, 3)) (kk : ∀ (ws' : va_W) (H1 : Heap) (locs1 : List Loc), va_P D vwCl ws' H1 → va_D A ws' → (∀ j : Nat, j ≠ q0 → ws'[j]? = ws[j]?) → ws'[q0]? = some (a, .inr (3, [v0, v1, v2, v3, v4, v5, v6, v7, v])) → va_S A H0 H1 locs1 → W p l e R s m args below meth c H1 locs1 cells slots Q (F0 m (pc + 3) ls rest)) : W p l e R s m args below meth c H locs cells slots Q (F0 m pc ls (v :: .ref a :: rest)) :=
  va_putN (ci := 3) (v := v) (ty := .int) (C := RX3) (T := TX3) (N := 9) hx hb hts inqX3 tyX3 tyX3_ok nmX3 hown hK hP hD hS q0 he rfl 8 (by decide) (va_Nw.use rfl (hN _ fl_X8_96 rfl)) (fun _ h9 => h9) rfl (by decide +kernel) hn hf (Nat.le_of_ble_eq_true rfl) hdg (fun H1 locs1 hP1 hD1 hS1 => kk _ H1 locs1 hP1 hD1 (fun j hj => st_ne hj rfl) (st_eq he) hS1)
theorem fl_X8_118 : Cond.fieldLinkNest RX8 118 "AHandGoesUp$Hands" "spread" "LAHandGoesUp$Spread;" "AHandGoesUp" ∈ lw_tbl := List.mem_of_getElem? (i := 207) (by decide +kernel)
theorem gf_X8_118 {p : Program} {l : Launch} {e : Env} {R : Room} {s : State} {m : MethodId} {args : Array Value} {below : List Frame} {meth : Method} {c : Code} {H : Heap} {locs : List Loc} {cells slots : Nat} {Q : State → Prop} {cc : ByteArray} {pc : Nat} {ls : Array Slot} {rest : List Value} {D : va_G} {a : Nat} {cI cJ cZ : ClassId} {ws : va_W} (hx : p.tables.exec = Jvm.exec) (hb : c.code = cc) (hts : ∀ w ∈ aw, w.before args s = true) (hown : s.vm.findClass RX8 = some m.cls) (hK : va_K D vwCl (ty3 cI cJ cZ) s) (hN : nwA s) (hP : va_P D vwCl ws H) {q0 : Nat} {v0 : Value} (he : ws[q0]? = some (a, .inr (1, [v0]))) (hdg : decode cc pc = .ok (.getfield 118, 3)) (kk : W p l e R s m args below meth c H locs cells slots Q (F0 m (pc + 3) ls (v0 :: rest))) : W p l e R s m args below meth c H locs cells slots Q (F0 m pc ls (.ref a :: rest)) :=
  va_getN (ci := 1) (v := v0) (C := RX1) (T := TX1) (N := 1) hx hb hts inqX1 hown hK hP q0 he rfl 0 (by decide) (va_Nw.use rfl (hN _ fl_X8_118 rfl)) (fun _ h9 => h9) rfl hdg kk
theorem fl_X8_174 : Cond.fieldLinkNest RX8 174 "AHandGoesUp$Roster" "lessons" "LAHandGoesUp$Lessons;" "AHandGoesUp" ∈ lw_tbl := List.mem_of_getElem? (i := 163) (by decide +kernel)
theorem gf_X8_174 {p : Program} {l : Launch} {e : Env} {R : Room} {s : State} {m : MethodId} {args : Array Value} {below : List Frame} {meth : Method} {c : Code} {H : Heap} {locs : List Loc} {cells slots : Nat} {Q : State → Prop} {cc : ByteArray} {pc : Nat} {ls : Array Slot} {rest : List Value} {D : va_G} {a : Nat} {cI cJ cZ : ClassId} {ws : va_W} (hx : p.tables.exec = Jvm.exec) (hb : c.code = cc) (hts : ∀ w ∈ aw, w.before args s = true) (hown : s.vm.findClass RX8 = some m.cls) (hK : va_K D vwCl (ty3 cI cJ cZ) s) (hN : nwA s) (hP : va_P D vwCl ws H) {q0 : Nat} {v0 v1 v2 v3 v4 v5 v6 v7 v8 : Value} (he : ws[q0]? = some (a, .inr (3, [v0, v1, v2, v3, v4, v5, v6, v7, v8]))) (hdg : decode cc pc = .ok (.getfield 174, 3)) (kk : W p l e R s m args below meth c H locs cells slots Q (F0 m (pc + 3) ls (v6 :: rest))) : W p l e R s m args below meth c H locs cells slots Q (F0 m pc ls (.ref a :: rest)) :=
  va_getN (ci := 3) (v := v6) (C := RX3) (T := TX3) (N := 9) hx hb hts inqX3 hown hK hP q0 he rfl 6 (by decide) (va_Nw.use rfl (hN _ fl_X8_174 rfl)) (fun _ h9 => h9) rfl hdg kk
theorem fl_X8_177 : Cond.fieldLinkNest RX8 177 "AHandGoesUp$Lessons" "seed" "J" "AHandGoesUp" ∈ lw_tbl := List.mem_of_getElem? (i := 132) (by decide +kernel)
theorem gf_X8_177 {p : Program} {l : Launch} {e : Env} {R : Room} {s : State} {m : MethodId} {args : Array Value} {below : List Frame} {meth : Method} {c : Code} {H : Heap} {locs : List Loc} {cells slots : Nat} {Q : State → Prop} {cc : ByteArray} {pc : Nat} {ls : Array Slot} {rest : List Value} {D : va_G} {a : Nat} {cI cJ cZ : ClassId} {ws : va_W} (hx : p.tables.exec = Jvm.exec) (hb : c.code = cc) (hts : ∀ w ∈ aw, w.before args s = true) (hown : s.vm.findClass RX8 = some m.cls) (hK : va_K D vwCl (ty3 cI cJ cZ) s) (hN : nwA s) (hP : va_P D vwCl ws H) {q0 : Nat} {v0 v1 v2 v3 v4 v5 v6 : Value} (he : ws[q0]? = some (a, .inr (2, [v0, v1, v2, v3, v4, v5, v6]))) (hdg : decode cc pc = .ok (.getfield 177, 3)) (kk : W p l e R s m args below meth c H locs cells slots Q (F0 m (pc + 3) ls (v2 :: rest))) : W p l e R s m args below meth c H locs cells slots Q (F0 m pc ls (.ref a :: rest)) :=
  va_getN (ci := 2) (v := v2) (C := RX2) (T := TX2) (N := 7) hx hb hts inqX2 hown hK hP q0 he rfl 2 (by decide) (va_Nw.use rfl (hN _ fl_X8_177 rfl)) (fun _ h9 => h9) rfl hdg kk
theorem pf_X8_177 {p : Program} {l : Launch} {e : Env} {R : Room} {s : State} {m : MethodId} {args : Array Value} {below : List Frame} {meth : Method} {c : Code} {H : Heap} {locs : List Loc} {cells slots : Nat} {Q : State → Prop} {cc : ByteArray} {pc : Nat} {ls : Array Slot} {rest : List Value} {D : va_G} {a : Nat} {cI cJ cZ : ClassId} {ws : va_W} {A : Nat → Prop} {H0 : Heap} (hx : p.tables.exec = Jvm.exec) (hb : c.code = cc) (hts : ∀ w ∈ aw, w.before args s = true) (hown : s.vm.findClass RX8 = some m.cls) (hK : va_K D vwCl (ty3 cI cJ cZ) s) (hN : nwA s) (hP : va_P D vwCl ws H) (hD : va_D A ws) (hS : va_S A H0 H locs) {q0 : Nat} {v0 v1 v2 v3 v4 v5 v6 v : Value} (he : ws[q0]? = some (a, .inr (2, [v0, v1, v2, v3, v4, v5, v6]))) (hn : narrow .long v = v) (hf : fits .long v = true) (hdg : decode cc pc = .ok (.putfield 177, 3)) (kk : ∀ (ws' : va_W) (H1 : Heap) (locs1 : List Loc), va_P D vwCl ws' H1 → va_D A ws' → (∀ j : Nat, j ≠ q0 → ws'[j]? = ws[j]?) → ws'[q0]? = some (a, .inr (2, [v0, v1, v, v3, v4, v5, v6])) → va_S A H0 H1 locs1 → W p l e R s m args below meth c H1 locs1 cells slots Q (F0 m (pc + 3) ls rest)) : W p l e R s m args below meth c H locs cells slots Q (F0 m pc ls (v :: .ref a :: rest)) :=
  va_putN (ci := 2) (v := v) (ty := .long) (C := RX2) (T := TX2) (N := 7) hx hb hts inqX2 tyX2 tyX2_ok nmX2 hown hK hP hD hS q0 he rfl 2 (by decide) (va_Nw.use rfl (hN _ fl_X8_177 rfl)) (fun _ h9 => h9) rfl (by decide +kernel) hn hf (Nat.le_of_ble_eq_true rfl) hdg (fun H1 locs1 hP1 hD1 hS1 => kk _ H1 locs1 hP1 hD1 (fun j hj => st_ne hj rfl) (st_eq he) hS1)
theorem fl_X8_197 : Cond.fieldLinkNest RX8 197 "AHandGoesUp$Lessons" "questions" "I" "AHandGoesUp" ∈ lw_tbl := List.mem_of_getElem? (i := 134) (by decide +kernel)
theorem gf_X8_197 {p : Program} {l : Launch} {e : Env} {R : Room} {s : State} {m : MethodId} {args : Array Value} {below : List Frame} {meth : Method} {c : Code} {H : Heap} {locs : List Loc} {cells slots : Nat} {Q : State → Prop} {cc : ByteArray} {pc : Nat} {ls : Array Slot} {rest : List Value} {D : va_G} {a : Nat} {cI cJ cZ : ClassId} {ws : va_W} (hx : p.tables.exec = Jvm.exec) (hb : c.code = cc) (hts : ∀ w ∈ aw, w.before args s = true) (hown : s.vm.findClass RX8 = some m.cls) (hK : va_K D vwCl (ty3 cI cJ cZ) s) (hN : nwA s) (hP : va_P D vwCl ws H) {q0 : Nat} {v0 v1 v2 v3 v4 v5 v6 : Value} (he : ws[q0]? = some (a, .inr (2, [v0, v1, v2, v3, v4, v5, v6]))) (hdg : decode cc pc = .ok (.getfield 197, 3)) (kk : W p l e R s m args below meth c H locs cells slots Q (F0 m (pc + 3) ls (v3 :: rest))) : W p l e R s m args below meth c H locs cells slots Q (F0 m pc ls (.ref a :: rest)) :=
  va_getN (ci := 2) (v := v3) (C := RX2) (T := TX2) (N := 7) hx hb hts inqX2 hown hK hP q0 he rfl 3 (by decide) (va_Nw.use rfl (hN _ fl_X8_197 rfl)) (fun _ h9 => h9) rfl hdg kk
theorem fl_X8_200 : Cond.fieldLinkNest RX8 200 "AHandGoesUp$Lessons" "rightOnes" "I" "AHandGoesUp" ∈ lw_tbl := List.mem_of_getElem? (i := 136) (by decide +kernel)
theorem gf_X8_200 {p : Program} {l : Launch} {e : Env} {R : Room} {s : State} {m : MethodId} {args : Array Value} {below : List Frame} {meth : Method} {c : Code} {H : Heap} {locs : List Loc} {cells slots : Nat} {Q : State → Prop} {cc : ByteArray} {pc : Nat} {ls : Array Slot} {rest : List Value} {D : va_G} {a : Nat} {cI cJ cZ : ClassId} {ws : va_W} (hx : p.tables.exec = Jvm.exec) (hb : c.code = cc) (hts : ∀ w ∈ aw, w.before args s = true) (hown : s.vm.findClass RX8 = some m.cls) (hK : va_K D vwCl (ty3 cI cJ cZ) s) (hN : nwA s) (hP : va_P D vwCl ws H) {q0 : Nat} {v0 v1 v2 v3 v4 v5 v6 : Value} (he : ws[q0]? = some (a, .inr (2, [v0, v1, v2, v3, v4, v5, v6]))) (hdg : decode cc pc = .ok (.getfield 200, 3)) (kk : W p l e R s m args below meth c H locs cells slots Q (F0 m (pc + 3) ls (v4 :: rest))) : W p l e R s m args below meth c H locs cells slots Q (F0 m pc ls (.ref a :: rest)) :=
  va_getN (ci := 2) (v := v4) (C := RX2) (T := TX2) (N := 7) hx hb hts inqX2 hown hK hP q0 he rfl 4 (by decide) (va_Nw.use rfl (hN _ fl_X8_200 rfl)) (fun _ h9 => h9) rfl hdg kk
theorem fl_X8_203 : Cond.fieldLinkNest RX8 203 "AHandGoesUp$Lessons" "wrongOnes" "I" "AHandGoesUp" ∈ lw_tbl := List.mem_of_getElem? (i := 138) (by decide +kernel)
theorem gf_X8_203 {p : Program} {l : Launch} {e : Env} {R : Room} {s : State} {m : MethodId} {args : Array Value} {below : List Frame} {meth : Method} {c : Code} {H : Heap} {locs : List Loc} {cells slots : Nat} {Q : State → Prop} {cc : ByteArray} {pc : Nat} {ls : Array Slot} {rest : List Value} {D : va_G} {a : Nat} {cI cJ cZ : ClassId} {ws : va_W} (hx : p.tables.exec = Jvm.exec) (hb : c.code = cc) (hts : ∀ w ∈ aw, w.before args s = true) (hown : s.vm.findClass RX8 = some m.cls) (hK : va_K D vwCl (ty3 cI cJ cZ) s) (hN : nwA s) (hP : va_P D vwCl ws H) {q0 : Nat} {v0 v1 v2 v3 v4 v5 v6 : Value} (he : ws[q0]? = some (a, .inr (2, [v0, v1, v2, v3, v4, v5, v6]))) (hdg : decode cc pc = .ok (.getfield 203, 3)) (kk : W p l e R s m args below meth c H locs cells slots Q (F0 m (pc + 3) ls (v5 :: rest))) : W p l e R s m args below meth c H locs cells slots Q (F0 m pc ls (.ref a :: rest)) :=
  va_getN (ci := 2) (v := v5) (C := RX2) (T := TX2) (N := 7) hx hb hts inqX2 hown hK hP q0 he rfl 5 (by decide) (va_Nw.use rfl (hN _ fl_X8_203 rfl)) (fun _ h9 => h9) rfl hdg kk
theorem fl_X8_258 : Cond.fieldLinkNest RX8 258 "AHandGoesUp$Text" "length" "I" "AHandGoesUp" ∈ lw_tbl := List.mem_of_getElem? (i := 108) (by decide +kernel)
theorem gf_X8_258 {p : Program} {l : Launch} {e : Env} {R : Room} {s : State} {m : MethodId} {args : Array Value} {below : List Frame} {meth : Method} {c : Code} {H : Heap} {locs : List Loc} {cells slots : Nat} {Q : State → Prop} {cc : ByteArray} {pc : Nat} {ls : Array Slot} {rest : List Value} {D : va_G} {a : Nat} {cI cJ cZ : ClassId} {ws : va_W} (hx : p.tables.exec = Jvm.exec) (hb : c.code = cc) (hts : ∀ w ∈ aw, w.before args s = true) (hown : s.vm.findClass RX8 = some m.cls) (hK : va_K D vwCl (ty3 cI cJ cZ) s) (hN : nwA s) (hP : va_P D vwCl ws H) {q0 : Nat} {v0 v1 : Value} (he : ws[q0]? = some (a, .inr (6, [v0, v1]))) (hdg : decode cc pc = .ok (.getfield 258, 3)) (kk : W p l e R s m args below meth c H locs cells slots Q (F0 m (pc + 3) ls (v1 :: rest))) : W p l e R s m args below meth c H locs cells slots Q (F0 m pc ls (.ref a :: rest)) :=
  va_getN (ci := 6) (v := v1) (C := RX6) (T := TX6) (N := 2) hx hb hts inqX6 hown hK hP q0 he rfl 1 (by decide) (va_Nw.use rfl (hN _ fl_X8_258 rfl)) (fun _ h9 => h9) rfl hdg kk
theorem fl_X8_261 : Cond.fieldLinkNest RX8 261 "AHandGoesUp$Tapes" "size" "I" "AHandGoesUp" ∈ lw_tbl := List.mem_of_getElem? (i := 252) (by decide +kernel)
theorem gf_X8_261 {p : Program} {l : Launch} {e : Env} {R : Room} {s : State} {m : MethodId} {args : Array Value} {below : List Frame} {meth : Method} {c : Code} {H : Heap} {locs : List Loc} {cells slots : Nat} {Q : State → Prop} {cc : ByteArray} {pc : Nat} {ls : Array Slot} {rest : List Value} {D : va_G} {a : Nat} {cI cJ cZ : ClassId} {ws : va_W} (hx : p.tables.exec = Jvm.exec) (hb : c.code = cc) (hts : ∀ w ∈ aw, w.before args s = true) (hown : s.vm.findClass RX8 = some m.cls) (hK : va_K D vwCl (ty3 cI cJ cZ) s) (hN : nwA s) (hP : va_P D vwCl ws H) {q0 : Nat} {v0 v1 v2 v3 : Value} (he : ws[q0]? = some (a, .inr (5, [v0, v1, v2, v3]))) (hdg : decode cc pc = .ok (.getfield 261, 3)) (kk : W p l e R s m args below meth c H locs cells slots Q (F0 m (pc + 3) ls (v3 :: rest))) : W p l e R s m args below meth c H locs cells slots Q (F0 m pc ls (.ref a :: rest)) :=
  va_getN (ci := 5) (v := v3) (C := RX5) (T := TX5) (N := 4) hx hb hts inqX5 hown hK hP q0 he rfl 3 (by decide) (va_Nw.use rfl (hN _ fl_X8_261 rfl)) (fun _ h9 => h9) rfl hdg kk
theorem fl_X8_264 : Cond.fieldLinkNest RX8 264 "AHandGoesUp$Trials" "size" "I" "AHandGoesUp" ∈ lw_tbl := List.mem_of_getElem? (i := 272) (by decide +kernel)
theorem gf_X8_264 {p : Program} {l : Launch} {e : Env} {R : Room} {s : State} {m : MethodId} {args : Array Value} {below : List Frame} {meth : Method} {c : Code} {H : Heap} {locs : List Loc} {cells slots : Nat} {Q : State → Prop} {cc : ByteArray} {pc : Nat} {ls : Array Slot} {rest : List Value} {D : va_G} {a : Nat} {cI cJ cZ : ClassId} {ws : va_W} (hx : p.tables.exec = Jvm.exec) (hb : c.code = cc) (hts : ∀ w ∈ aw, w.before args s = true) (hown : s.vm.findClass RX8 = some m.cls) (hK : va_K D vwCl (ty3 cI cJ cZ) s) (hN : nwA s) (hP : va_P D vwCl ws H) {q0 : Nat} {v0 v1 v2 : Value} (he : ws[q0]? = some (a, .inr (7, [v0, v1, v2]))) (hdg : decode cc pc = .ok (.getfield 264, 3)) (kk : W p l e R s m args below meth c H locs cells slots Q (F0 m (pc + 3) ls (v2 :: rest))) : W p l e R s m args below meth c H locs cells slots Q (F0 m pc ls (.ref a :: rest)) :=
  va_getN (ci := 7) (v := v2) (C := RX7) (T := TX7) (N := 3) hx hb hts inqX7 hown hK hP q0 he rfl 2 (by decide) (va_Nw.use rfl (hN _ fl_X8_264 rfl)) (fun _ h9 => h9) rfl hdg kk
theorem fl_X8_265 : Cond.fieldLinkNest RX8 265 "AHandGoesUp$Trials" "waited" "I" "AHandGoesUp" ∈ lw_tbl := List.mem_of_getElem? (i := 270) (by decide +kernel)
theorem gf_X8_265 {p : Program} {l : Launch} {e : Env} {R : Room} {s : State} {m : MethodId} {args : Array Value} {below : List Frame} {meth : Method} {c : Code} {H : Heap} {locs : List Loc} {cells slots : Nat} {Q : State → Prop} {cc : ByteArray} {pc : Nat} {ls : Array Slot} {rest : List Value} {D : va_G} {a : Nat} {cI cJ cZ : ClassId} {ws : va_W} (hx : p.tables.exec = Jvm.exec) (hb : c.code = cc) (hts : ∀ w ∈ aw, w.before args s = true) (hown : s.vm.findClass RX8 = some m.cls) (hK : va_K D vwCl (ty3 cI cJ cZ) s) (hN : nwA s) (hP : va_P D vwCl ws H) {q0 : Nat} {v0 v1 v2 : Value} (he : ws[q0]? = some (a, .inr (7, [v0, v1, v2]))) (hdg : decode cc pc = .ok (.getfield 265, 3)) (kk : W p l e R s m args below meth c H locs cells slots Q (F0 m (pc + 3) ls (v1 :: rest))) : W p l e R s m args below meth c H locs cells slots Q (F0 m pc ls (.ref a :: rest)) :=
  va_getN (ci := 7) (v := v1) (C := RX7) (T := TX7) (N := 3) hx hb hts inqX7 hown hK hP q0 he rfl 1 (by decide) (va_Nw.use rfl (hN _ fl_X8_265 rfl)) (fun _ h9 => h9) rfl hdg kk
theorem fl_X9_7 : Cond.fieldLink RX9 7 "AHandGoesUpModel" "read" "[I" ∈ aw := aw_at 796 (by decide +kernel) (by decide +kernel)
theorem gf_X9_7 {p : Program} {l : Launch} {e : Env} {R : Room} {s : State} {m : MethodId} {args : Array Value} {below : List Frame} {meth : Method} {c : Code} {H : Heap} {locs : List Loc} {cells slots : Nat} {Q : State → Prop} {cc : ByteArray} {pc : Nat} {ls : Array Slot} {rest : List Value} {D : va_G} {a : Nat} {cI cJ cZ : ClassId} {ws : va_W} (hx : p.tables.exec = Jvm.exec) (hb : c.code = cc) (hts : ∀ w ∈ aw, w.before args s = true) (hown : s.vm.findClass RX9 = some m.cls) (hK : va_K D vwCl (ty3 cI cJ cZ) s) (hP : va_P D vwCl ws H) {q0 : Nat} {v0 v1 v2 v3 v4 v5 v6 v7 v8 v9 v10 v11 v12 v13 v14 v15 v16 v17 v18 v19 v20 v21 v22 v23 v24 v25 v26 v27 : Value} (he : ws[q0]? = some (a, .inr (9, [v0, v1, v2, v3, v4, v5, v6, v7, v8, v9, v10, v11, v12, v13, v14, v15, v16, v17, v18, v19, v20, v21, v22, v23, v24, v25, v26, v27]))) (hdg : decode cc pc = .ok (.getfield 7, 3)) (kk : W p l e R s m args below meth c H locs cells slots Q (F0 m (pc + 3) ls (v0 :: rest))) : W p l e R s m args below meth c H locs cells slots Q (F0 m pc ls (.ref a :: rest)) :=
  va_get (ci := 9) (v := v0) (C := RX9) (T := TX9) (N := 28) hx hb hts inqX9 hown hK hP q0 he rfl 0 (by decide) (hts _ fl_X9_7) (fun _ h9 => h9) rfl hdg kk
theorem fl_X9_13 : Cond.fieldLink RX9 13 "AHandGoesUpModel" "pupil" "[I" ∈ aw := aw_at 798 (by decide +kernel) (by decide +kernel)
theorem gf_X9_13 {p : Program} {l : Launch} {e : Env} {R : Room} {s : State} {m : MethodId} {args : Array Value} {below : List Frame} {meth : Method} {c : Code} {H : Heap} {locs : List Loc} {cells slots : Nat} {Q : State → Prop} {cc : ByteArray} {pc : Nat} {ls : Array Slot} {rest : List Value} {D : va_G} {a : Nat} {cI cJ cZ : ClassId} {ws : va_W} (hx : p.tables.exec = Jvm.exec) (hb : c.code = cc) (hts : ∀ w ∈ aw, w.before args s = true) (hown : s.vm.findClass RX9 = some m.cls) (hK : va_K D vwCl (ty3 cI cJ cZ) s) (hP : va_P D vwCl ws H) {q0 : Nat} {v0 v1 v2 v3 v4 v5 v6 v7 v8 v9 v10 v11 v12 v13 v14 v15 v16 v17 v18 v19 v20 v21 v22 v23 v24 v25 v26 v27 : Value} (he : ws[q0]? = some (a, .inr (9, [v0, v1, v2, v3, v4, v5, v6, v7, v8, v9, v10, v11, v12, v13, v14, v15, v16, v17, v18, v19, v20, v21, v22, v23, v24, v25, v26, v27]))) (hdg : decode cc pc = .ok (.getfield 13, 3)) (kk : W p l e R s m args below meth c H locs cells slots Q (F0 m (pc + 3) ls (v2 :: rest))) : W p l e R s m args below meth c H locs cells slots Q (F0 m pc ls (.ref a :: rest)) :=
  va_get (ci := 9) (v := v2) (C := RX9) (T := TX9) (N := 28) hx hb hts inqX9 hown hK hP q0 he rfl 2 (by decide) (hts _ fl_X9_13) (fun _ h9 => h9) rfl hdg kk
theorem fl_X9_16 : Cond.fieldLink RX9 16 "AHandGoesUpModel" "dares" "[I" ∈ aw := aw_at 800 (by decide +kernel) (by decide +kernel)
theorem gf_X9_16 {p : Program} {l : Launch} {e : Env} {R : Room} {s : State} {m : MethodId} {args : Array Value} {below : List Frame} {meth : Method} {c : Code} {H : Heap} {locs : List Loc} {cells slots : Nat} {Q : State → Prop} {cc : ByteArray} {pc : Nat} {ls : Array Slot} {rest : List Value} {D : va_G} {a : Nat} {cI cJ cZ : ClassId} {ws : va_W} (hx : p.tables.exec = Jvm.exec) (hb : c.code = cc) (hts : ∀ w ∈ aw, w.before args s = true) (hown : s.vm.findClass RX9 = some m.cls) (hK : va_K D vwCl (ty3 cI cJ cZ) s) (hP : va_P D vwCl ws H) {q0 : Nat} {v0 v1 v2 v3 v4 v5 v6 v7 v8 v9 v10 v11 v12 v13 v14 v15 v16 v17 v18 v19 v20 v21 v22 v23 v24 v25 v26 v27 : Value} (he : ws[q0]? = some (a, .inr (9, [v0, v1, v2, v3, v4, v5, v6, v7, v8, v9, v10, v11, v12, v13, v14, v15, v16, v17, v18, v19, v20, v21, v22, v23, v24, v25, v26, v27]))) (hdg : decode cc pc = .ok (.getfield 16, 3)) (kk : W p l e R s m args below meth c H locs cells slots Q (F0 m (pc + 3) ls (v4 :: rest))) : W p l e R s m args below meth c H locs cells slots Q (F0 m pc ls (.ref a :: rest)) :=
  va_get (ci := 9) (v := v4) (C := RX9) (T := TX9) (N := 28) hx hb hts inqX9 hown hK hP q0 he rfl 4 (by decide) (hts _ fl_X9_16) (fun _ h9 => h9) rfl hdg kk
theorem fl_X9_19 : Cond.fieldLink RX9 19 "AHandGoesUpModel" "times" "[I" ∈ aw := aw_at 801 (by decide +kernel) (by decide +kernel)
theorem gf_X9_19 {p : Program} {l : Launch} {e : Env} {R : Room} {s : State} {m : MethodId} {args : Array Value} {below : List Frame} {meth : Method} {c : Code} {H : Heap} {locs : List Loc} {cells slots : Nat} {Q : State → Prop} {cc : ByteArray} {pc : Nat} {ls : Array Slot} {rest : List Value} {D : va_G} {a : Nat} {cI cJ cZ : ClassId} {ws : va_W} (hx : p.tables.exec = Jvm.exec) (hb : c.code = cc) (hts : ∀ w ∈ aw, w.before args s = true) (hown : s.vm.findClass RX9 = some m.cls) (hK : va_K D vwCl (ty3 cI cJ cZ) s) (hP : va_P D vwCl ws H) {q0 : Nat} {v0 v1 v2 v3 v4 v5 v6 v7 v8 v9 v10 v11 v12 v13 v14 v15 v16 v17 v18 v19 v20 v21 v22 v23 v24 v25 v26 v27 : Value} (he : ws[q0]? = some (a, .inr (9, [v0, v1, v2, v3, v4, v5, v6, v7, v8, v9, v10, v11, v12, v13, v14, v15, v16, v17, v18, v19, v20, v21, v22, v23, v24, v25, v26, v27]))) (hdg : decode cc pc = .ok (.getfield 19, 3)) (kk : W p l e R s m args below meth c H locs cells slots Q (F0 m (pc + 3) ls (v5 :: rest))) : W p l e R s m args below meth c H locs cells slots Q (F0 m pc ls (.ref a :: rest)) :=
  va_get (ci := 9) (v := v5) (C := RX9) (T := TX9) (N := 28) hx hb hts inqX9 hown hK hP q0 he rfl 5 (by decide) (hts _ fl_X9_19) (fun _ h9 => h9) rfl hdg kk
theorem fl_X9_22 : Cond.fieldLink RX9 22 "AHandGoesUpModel" "text" "[I" ∈ aw := aw_at 803 (by decide +kernel) (by decide +kernel)
theorem gf_X9_22 {p : Program} {l : Launch} {e : Env} {R : Room} {s : State} {m : MethodId} {args : Array Value} {below : List Frame} {meth : Method} {c : Code} {H : Heap} {locs : List Loc} {cells slots : Nat} {Q : State → Prop} {cc : ByteArray} {pc : Nat} {ls : Array Slot} {rest : List Value} {D : va_G} {a : Nat} {cI cJ cZ : ClassId} {ws : va_W} (hx : p.tables.exec = Jvm.exec) (hb : c.code = cc) (hts : ∀ w ∈ aw, w.before args s = true) (hown : s.vm.findClass RX9 = some m.cls) (hK : va_K D vwCl (ty3 cI cJ cZ) s) (hP : va_P D vwCl ws H) {q0 : Nat} {v0 v1 v2 v3 v4 v5 v6 v7 v8 v9 v10 v11 v12 v13 v14 v15 v16 v17 v18 v19 v20 v21 v22 v23 v24 v25 v26 v27 : Value} (he : ws[q0]? = some (a, .inr (9, [v0, v1, v2, v3, v4, v5, v6, v7, v8, v9, v10, v11, v12, v13, v14, v15, v16, v17, v18, v19, v20, v21, v22, v23, v24, v25, v26, v27]))) (hdg : decode cc pc = .ok (.getfield 22, 3)) (kk : W p l e R s m args below meth c H locs cells slots Q (F0 m (pc + 3) ls (v7 :: rest))) : W p l e R s m args below meth c H locs cells slots Q (F0 m pc ls (.ref a :: rest)) :=
  va_get (ci := 9) (v := v7) (C := RX9) (T := TX9) (N := 28) hx hb hts inqX9 hown hK hP q0 he rfl 7 (by decide) (hts _ fl_X9_22) (fun _ h9 => h9) rfl hdg kk
theorem fl_X9_25 : Cond.fieldLink RX9 25 "AHandGoesUpModel" "joint" "[J" ∈ aw := aw_at 807 (by decide +kernel) (by decide +kernel)
theorem gf_X9_25 {p : Program} {l : Launch} {e : Env} {R : Room} {s : State} {m : MethodId} {args : Array Value} {below : List Frame} {meth : Method} {c : Code} {H : Heap} {locs : List Loc} {cells slots : Nat} {Q : State → Prop} {cc : ByteArray} {pc : Nat} {ls : Array Slot} {rest : List Value} {D : va_G} {a : Nat} {cI cJ cZ : ClassId} {ws : va_W} (hx : p.tables.exec = Jvm.exec) (hb : c.code = cc) (hts : ∀ w ∈ aw, w.before args s = true) (hown : s.vm.findClass RX9 = some m.cls) (hK : va_K D vwCl (ty3 cI cJ cZ) s) (hP : va_P D vwCl ws H) {q0 : Nat} {v0 v1 v2 v3 v4 v5 v6 v7 v8 v9 v10 v11 v12 v13 v14 v15 v16 v17 v18 v19 v20 v21 v22 v23 v24 v25 v26 v27 : Value} (he : ws[q0]? = some (a, .inr (9, [v0, v1, v2, v3, v4, v5, v6, v7, v8, v9, v10, v11, v12, v13, v14, v15, v16, v17, v18, v19, v20, v21, v22, v23, v24, v25, v26, v27]))) (hdg : decode cc pc = .ok (.getfield 25, 3)) (kk : W p l e R s m args below meth c H locs cells slots Q (F0 m (pc + 3) ls (v11 :: rest))) : W p l e R s m args below meth c H locs cells slots Q (F0 m pc ls (.ref a :: rest)) :=
  va_get (ci := 9) (v := v11) (C := RX9) (T := TX9) (N := 28) hx hb hts inqX9 hown hK hP q0 he rfl 11 (by decide) (hts _ fl_X9_25) (fun _ h9 => h9) rfl hdg kk
theorem fl_X9_29 : Cond.fieldLink RX9 29 "AHandGoesUpModel" "others" "[J" ∈ aw := aw_at 808 (by decide +kernel) (by decide +kernel)
theorem gf_X9_29 {p : Program} {l : Launch} {e : Env} {R : Room} {s : State} {m : MethodId} {args : Array Value} {below : List Frame} {meth : Method} {c : Code} {H : Heap} {locs : List Loc} {cells slots : Nat} {Q : State → Prop} {cc : ByteArray} {pc : Nat} {ls : Array Slot} {rest : List Value} {D : va_G} {a : Nat} {cI cJ cZ : ClassId} {ws : va_W} (hx : p.tables.exec = Jvm.exec) (hb : c.code = cc) (hts : ∀ w ∈ aw, w.before args s = true) (hown : s.vm.findClass RX9 = some m.cls) (hK : va_K D vwCl (ty3 cI cJ cZ) s) (hP : va_P D vwCl ws H) {q0 : Nat} {v0 v1 v2 v3 v4 v5 v6 v7 v8 v9 v10 v11 v12 v13 v14 v15 v16 v17 v18 v19 v20 v21 v22 v23 v24 v25 v26 v27 : Value} (he : ws[q0]? = some (a, .inr (9, [v0, v1, v2, v3, v4, v5, v6, v7, v8, v9, v10, v11, v12, v13, v14, v15, v16, v17, v18, v19, v20, v21, v22, v23, v24, v25, v26, v27]))) (hdg : decode cc pc = .ok (.getfield 29, 3)) (kk : W p l e R s m args below meth c H locs cells slots Q (F0 m (pc + 3) ls (v12 :: rest))) : W p l e R s m args below meth c H locs cells slots Q (F0 m pc ls (.ref a :: rest)) :=
  va_get (ci := 9) (v := v12) (C := RX9) (T := TX9) (N := 28) hx hb hts inqX9 hown hK hP q0 he rfl 12 (by decide) (hts _ fl_X9_29) (fun _ h9 => h9) rfl hdg kk
theorem fl_X9_32 : Cond.fieldLink RX9 32 "AHandGoesUpModel" "tapeHands" "[I" ∈ aw := aw_at 814 (by decide +kernel) (by decide +kernel)
theorem gf_X9_32 {p : Program} {l : Launch} {e : Env} {R : Room} {s : State} {m : MethodId} {args : Array Value} {below : List Frame} {meth : Method} {c : Code} {H : Heap} {locs : List Loc} {cells slots : Nat} {Q : State → Prop} {cc : ByteArray} {pc : Nat} {ls : Array Slot} {rest : List Value} {D : va_G} {a : Nat} {cI cJ cZ : ClassId} {ws : va_W} (hx : p.tables.exec = Jvm.exec) (hb : c.code = cc) (hts : ∀ w ∈ aw, w.before args s = true) (hown : s.vm.findClass RX9 = some m.cls) (hK : va_K D vwCl (ty3 cI cJ cZ) s) (hP : va_P D vwCl ws H) {q0 : Nat} {v0 v1 v2 v3 v4 v5 v6 v7 v8 v9 v10 v11 v12 v13 v14 v15 v16 v17 v18 v19 v20 v21 v22 v23 v24 v25 v26 v27 : Value} (he : ws[q0]? = some (a, .inr (9, [v0, v1, v2, v3, v4, v5, v6, v7, v8, v9, v10, v11, v12, v13, v14, v15, v16, v17, v18, v19, v20, v21, v22, v23, v24, v25, v26, v27]))) (hdg : decode cc pc = .ok (.getfield 32, 3)) (kk : W p l e R s m args below meth c H locs cells slots Q (F0 m (pc + 3) ls (v18 :: rest))) : W p l e R s m args below meth c H locs cells slots Q (F0 m pc ls (.ref a :: rest)) :=
  va_get (ci := 9) (v := v18) (C := RX9) (T := TX9) (N := 28) hx hb hts inqX9 hown hK hP q0 he rfl 18 (by decide) (hts _ fl_X9_32) (fun _ h9 => h9) rfl hdg kk
theorem fl_X9_35 : Cond.fieldLink RX9 35 "AHandGoesUpModel" "tapeTaken" "[I" ∈ aw := aw_at 815 (by decide +kernel) (by decide +kernel)
theorem gf_X9_35 {p : Program} {l : Launch} {e : Env} {R : Room} {s : State} {m : MethodId} {args : Array Value} {below : List Frame} {meth : Method} {c : Code} {H : Heap} {locs : List Loc} {cells slots : Nat} {Q : State → Prop} {cc : ByteArray} {pc : Nat} {ls : Array Slot} {rest : List Value} {D : va_G} {a : Nat} {cI cJ cZ : ClassId} {ws : va_W} (hx : p.tables.exec = Jvm.exec) (hb : c.code = cc) (hts : ∀ w ∈ aw, w.before args s = true) (hown : s.vm.findClass RX9 = some m.cls) (hK : va_K D vwCl (ty3 cI cJ cZ) s) (hP : va_P D vwCl ws H) {q0 : Nat} {v0 v1 v2 v3 v4 v5 v6 v7 v8 v9 v10 v11 v12 v13 v14 v15 v16 v17 v18 v19 v20 v21 v22 v23 v24 v25 v26 v27 : Value} (he : ws[q0]? = some (a, .inr (9, [v0, v1, v2, v3, v4, v5, v6, v7, v8, v9, v10, v11, v12, v13, v14, v15, v16, v17, v18, v19, v20, v21, v22, v23, v24, v25, v26, v27]))) (hdg : decode cc pc = .ok (.getfield 35, 3)) (kk : W p l e R s m args below meth c H locs cells slots Q (F0 m (pc + 3) ls (v19 :: rest))) : W p l e R s m args below meth c H locs cells slots Q (F0 m pc ls (.ref a :: rest)) :=
  va_get (ci := 9) (v := v19) (C := RX9) (T := TX9) (N := 28) hx hb hts inqX9 hown hK hP q0 he rfl 19 (by decide) (hts _ fl_X9_35) (fun _ h9 => h9) rfl hdg kk
theorem fl_X9_38 : Cond.fieldLink RX9 38 "AHandGoesUpModel" "trialHands" "[I" ∈ aw := aw_at 817 (by decide +kernel) (by decide +kernel)
theorem gf_X9_38 {p : Program} {l : Launch} {e : Env} {R : Room} {s : State} {m : MethodId} {args : Array Value} {below : List Frame} {meth : Method} {c : Code} {H : Heap} {locs : List Loc} {cells slots : Nat} {Q : State → Prop} {cc : ByteArray} {pc : Nat} {ls : Array Slot} {rest : List Value} {D : va_G} {a : Nat} {cI cJ cZ : ClassId} {ws : va_W} (hx : p.tables.exec = Jvm.exec) (hb : c.code = cc) (hts : ∀ w ∈ aw, w.before args s = true) (hown : s.vm.findClass RX9 = some m.cls) (hK : va_K D vwCl (ty3 cI cJ cZ) s) (hP : va_P D vwCl ws H) {q0 : Nat} {v0 v1 v2 v3 v4 v5 v6 v7 v8 v9 v10 v11 v12 v13 v14 v15 v16 v17 v18 v19 v20 v21 v22 v23 v24 v25 v26 v27 : Value} (he : ws[q0]? = some (a, .inr (9, [v0, v1, v2, v3, v4, v5, v6, v7, v8, v9, v10, v11, v12, v13, v14, v15, v16, v17, v18, v19, v20, v21, v22, v23, v24, v25, v26, v27]))) (hdg : decode cc pc = .ok (.getfield 38, 3)) (kk : W p l e R s m args below meth c H locs cells slots Q (F0 m (pc + 3) ls (v21 :: rest))) : W p l e R s m args below meth c H locs cells slots Q (F0 m pc ls (.ref a :: rest)) :=
  va_get (ci := 9) (v := v21) (C := RX9) (T := TX9) (N := 28) hx hb hts inqX9 hown hK hP q0 he rfl 21 (by decide) (hts _ fl_X9_38) (fun _ h9 => h9) rfl hdg kk
theorem fl_X9_41 : Cond.fieldLink RX9 41 "AHandGoesUpModel" "trialWaited" "[Z" ∈ aw := aw_at 818 (by decide +kernel) (by decide +kernel)
theorem gf_X9_41 {p : Program} {l : Launch} {e : Env} {R : Room} {s : State} {m : MethodId} {args : Array Value} {below : List Frame} {meth : Method} {c : Code} {H : Heap} {locs : List Loc} {cells slots : Nat} {Q : State → Prop} {cc : ByteArray} {pc : Nat} {ls : Array Slot} {rest : List Value} {D : va_G} {a : Nat} {cI cJ cZ : ClassId} {ws : va_W} (hx : p.tables.exec = Jvm.exec) (hb : c.code = cc) (hts : ∀ w ∈ aw, w.before args s = true) (hown : s.vm.findClass RX9 = some m.cls) (hK : va_K D vwCl (ty3 cI cJ cZ) s) (hP : va_P D vwCl ws H) {q0 : Nat} {v0 v1 v2 v3 v4 v5 v6 v7 v8 v9 v10 v11 v12 v13 v14 v15 v16 v17 v18 v19 v20 v21 v22 v23 v24 v25 v26 v27 : Value} (he : ws[q0]? = some (a, .inr (9, [v0, v1, v2, v3, v4, v5, v6, v7, v8, v9, v10, v11, v12, v13, v14, v15, v16, v17, v18, v19, v20, v21, v22, v23, v24, v25, v26, v27]))) (hdg : decode cc pc = .ok (.getfield 41, 3)) (kk : W p l e R s m args below meth c H locs cells slots Q (F0 m (pc + 3) ls (v22 :: rest))) : W p l e R s m args below meth c H locs cells slots Q (F0 m pc ls (.ref a :: rest)) :=
  va_get (ci := 9) (v := v22) (C := RX9) (T := TX9) (N := 28) hx hb hts inqX9 hown hK hP q0 he rfl 22 (by decide) (hts _ fl_X9_41) (fun _ h9 => h9) rfl hdg kk
theorem fl_X9_45 : Cond.fieldLink RX9 45 "AHandGoesUpModel" "isKept" "[Z" ∈ aw := aw_at 819 (by decide +kernel) (by decide +kernel)
theorem gf_X9_45 {p : Program} {l : Launch} {e : Env} {R : Room} {s : State} {m : MethodId} {args : Array Value} {below : List Frame} {meth : Method} {c : Code} {H : Heap} {locs : List Loc} {cells slots : Nat} {Q : State → Prop} {cc : ByteArray} {pc : Nat} {ls : Array Slot} {rest : List Value} {D : va_G} {a : Nat} {cI cJ cZ : ClassId} {ws : va_W} (hx : p.tables.exec = Jvm.exec) (hb : c.code = cc) (hts : ∀ w ∈ aw, w.before args s = true) (hown : s.vm.findClass RX9 = some m.cls) (hK : va_K D vwCl (ty3 cI cJ cZ) s) (hP : va_P D vwCl ws H) {q0 : Nat} {v0 v1 v2 v3 v4 v5 v6 v7 v8 v9 v10 v11 v12 v13 v14 v15 v16 v17 v18 v19 v20 v21 v22 v23 v24 v25 v26 v27 : Value} (he : ws[q0]? = some (a, .inr (9, [v0, v1, v2, v3, v4, v5, v6, v7, v8, v9, v10, v11, v12, v13, v14, v15, v16, v17, v18, v19, v20, v21, v22, v23, v24, v25, v26, v27]))) (hdg : decode cc pc = .ok (.getfield 45, 3)) (kk : W p l e R s m args below meth c H locs cells slots Q (F0 m (pc + 3) ls (v23 :: rest))) : W p l e R s m args below meth c H locs cells slots Q (F0 m pc ls (.ref a :: rest)) :=
  va_get (ci := 9) (v := v23) (C := RX9) (T := TX9) (N := 28) hx hb hts inqX9 hown hK hP q0 he rfl 23 (by decide) (hts _ fl_X9_45) (fun _ h9 => h9) rfl hdg kk
theorem fl_X9_48 : Cond.fieldLink RX9 48 "AHandGoesUpModel" "keptDares" "[I" ∈ aw := aw_at 820 (by decide +kernel) (by decide +kernel)
theorem gf_X9_48 {p : Program} {l : Launch} {e : Env} {R : Room} {s : State} {m : MethodId} {args : Array Value} {below : List Frame} {meth : Method} {c : Code} {H : Heap} {locs : List Loc} {cells slots : Nat} {Q : State → Prop} {cc : ByteArray} {pc : Nat} {ls : Array Slot} {rest : List Value} {D : va_G} {a : Nat} {cI cJ cZ : ClassId} {ws : va_W} (hx : p.tables.exec = Jvm.exec) (hb : c.code = cc) (hts : ∀ w ∈ aw, w.before args s = true) (hown : s.vm.findClass RX9 = some m.cls) (hK : va_K D vwCl (ty3 cI cJ cZ) s) (hP : va_P D vwCl ws H) {q0 : Nat} {v0 v1 v2 v3 v4 v5 v6 v7 v8 v9 v10 v11 v12 v13 v14 v15 v16 v17 v18 v19 v20 v21 v22 v23 v24 v25 v26 v27 : Value} (he : ws[q0]? = some (a, .inr (9, [v0, v1, v2, v3, v4, v5, v6, v7, v8, v9, v10, v11, v12, v13, v14, v15, v16, v17, v18, v19, v20, v21, v22, v23, v24, v25, v26, v27]))) (hdg : decode cc pc = .ok (.getfield 48, 3)) (kk : W p l e R s m args below meth c H locs cells slots Q (F0 m (pc + 3) ls (v24 :: rest))) : W p l e R s m args below meth c H locs cells slots Q (F0 m pc ls (.ref a :: rest)) :=
  va_get (ci := 9) (v := v24) (C := RX9) (T := TX9) (N := 28) hx hb hts inqX9 hown hK hP q0 he rfl 24 (by decide) (hts _ fl_X9_48) (fun _ h9 => h9) rfl hdg kk
theorem fl_X9_51 : Cond.fieldLink RX9 51 "AHandGoesUpModel" "keptTimes" "[I" ∈ aw := aw_at 821 (by decide +kernel) (by decide +kernel)
theorem gf_X9_51 {p : Program} {l : Launch} {e : Env} {R : Room} {s : State} {m : MethodId} {args : Array Value} {below : List Frame} {meth : Method} {c : Code} {H : Heap} {locs : List Loc} {cells slots : Nat} {Q : State → Prop} {cc : ByteArray} {pc : Nat} {ls : Array Slot} {rest : List Value} {D : va_G} {a : Nat} {cI cJ cZ : ClassId} {ws : va_W} (hx : p.tables.exec = Jvm.exec) (hb : c.code = cc) (hts : ∀ w ∈ aw, w.before args s = true) (hown : s.vm.findClass RX9 = some m.cls) (hK : va_K D vwCl (ty3 cI cJ cZ) s) (hP : va_P D vwCl ws H) {q0 : Nat} {v0 v1 v2 v3 v4 v5 v6 v7 v8 v9 v10 v11 v12 v13 v14 v15 v16 v17 v18 v19 v20 v21 v22 v23 v24 v25 v26 v27 : Value} (he : ws[q0]? = some (a, .inr (9, [v0, v1, v2, v3, v4, v5, v6, v7, v8, v9, v10, v11, v12, v13, v14, v15, v16, v17, v18, v19, v20, v21, v22, v23, v24, v25, v26, v27]))) (hdg : decode cc pc = .ok (.getfield 51, 3)) (kk : W p l e R s m args below meth c H locs cells slots Q (F0 m (pc + 3) ls (v25 :: rest))) : W p l e R s m args below meth c H locs cells slots Q (F0 m pc ls (.ref a :: rest)) :=
  va_get (ci := 9) (v := v25) (C := RX9) (T := TX9) (N := 28) hx hb hts inqX9 hown hK hP q0 he rfl 25 (by decide) (hts _ fl_X9_51) (fun _ h9 => h9) rfl hdg kk
theorem fl_X9_54 : Cond.fieldLink RX9 54 "AHandGoesUpModel" "keptDrawn" "[J" ∈ aw := aw_at 822 (by decide +kernel) (by decide +kernel)
theorem gf_X9_54 {p : Program} {l : Launch} {e : Env} {R : Room} {s : State} {m : MethodId} {args : Array Value} {below : List Frame} {meth : Method} {c : Code} {H : Heap} {locs : List Loc} {cells slots : Nat} {Q : State → Prop} {cc : ByteArray} {pc : Nat} {ls : Array Slot} {rest : List Value} {D : va_G} {a : Nat} {cI cJ cZ : ClassId} {ws : va_W} (hx : p.tables.exec = Jvm.exec) (hb : c.code = cc) (hts : ∀ w ∈ aw, w.before args s = true) (hown : s.vm.findClass RX9 = some m.cls) (hK : va_K D vwCl (ty3 cI cJ cZ) s) (hP : va_P D vwCl ws H) {q0 : Nat} {v0 v1 v2 v3 v4 v5 v6 v7 v8 v9 v10 v11 v12 v13 v14 v15 v16 v17 v18 v19 v20 v21 v22 v23 v24 v25 v26 v27 : Value} (he : ws[q0]? = some (a, .inr (9, [v0, v1, v2, v3, v4, v5, v6, v7, v8, v9, v10, v11, v12, v13, v14, v15, v16, v17, v18, v19, v20, v21, v22, v23, v24, v25, v26, v27]))) (hdg : decode cc pc = .ok (.getfield 54, 3)) (kk : W p l e R s m args below meth c H locs cells slots Q (F0 m (pc + 3) ls (v26 :: rest))) : W p l e R s m args below meth c H locs cells slots Q (F0 m pc ls (.ref a :: rest)) :=
  va_get (ci := 9) (v := v26) (C := RX9) (T := TX9) (N := 28) hx hb hts inqX9 hown hK hP q0 he rfl 26 (by decide) (hts _ fl_X9_54) (fun _ h9 => h9) rfl hdg kk
theorem fl_X9_57 : Cond.fieldLink RX9 57 "AHandGoesUpModel" "keptLesson" "[I" ∈ aw := aw_at 823 (by decide +kernel) (by decide +kernel)
theorem gf_X9_57 {p : Program} {l : Launch} {e : Env} {R : Room} {s : State} {m : MethodId} {args : Array Value} {below : List Frame} {meth : Method} {c : Code} {H : Heap} {locs : List Loc} {cells slots : Nat} {Q : State → Prop} {cc : ByteArray} {pc : Nat} {ls : Array Slot} {rest : List Value} {D : va_G} {a : Nat} {cI cJ cZ : ClassId} {ws : va_W} (hx : p.tables.exec = Jvm.exec) (hb : c.code = cc) (hts : ∀ w ∈ aw, w.before args s = true) (hown : s.vm.findClass RX9 = some m.cls) (hK : va_K D vwCl (ty3 cI cJ cZ) s) (hP : va_P D vwCl ws H) {q0 : Nat} {v0 v1 v2 v3 v4 v5 v6 v7 v8 v9 v10 v11 v12 v13 v14 v15 v16 v17 v18 v19 v20 v21 v22 v23 v24 v25 v26 v27 : Value} (he : ws[q0]? = some (a, .inr (9, [v0, v1, v2, v3, v4, v5, v6, v7, v8, v9, v10, v11, v12, v13, v14, v15, v16, v17, v18, v19, v20, v21, v22, v23, v24, v25, v26, v27]))) (hdg : decode cc pc = .ok (.getfield 57, 3)) (kk : W p l e R s m args below meth c H locs cells slots Q (F0 m (pc + 3) ls (v27 :: rest))) : W p l e R s m args below meth c H locs cells slots Q (F0 m pc ls (.ref a :: rest)) :=
  va_get (ci := 9) (v := v27) (C := RX9) (T := TX9) (N := 28) hx hb hts inqX9 hown hK hP q0 he rfl 27 (by decide) (hts _ fl_X9_57) (fun _ h9 => h9) rfl hdg kk
theorem fl_X9_60 : Cond.fieldLink RX9 60 "AHandGoesUpModel" "mood" "I" ∈ aw := aw_at 802 (by decide +kernel) (by decide +kernel)
theorem gf_X9_60 {p : Program} {l : Launch} {e : Env} {R : Room} {s : State} {m : MethodId} {args : Array Value} {below : List Frame} {meth : Method} {c : Code} {H : Heap} {locs : List Loc} {cells slots : Nat} {Q : State → Prop} {cc : ByteArray} {pc : Nat} {ls : Array Slot} {rest : List Value} {D : va_G} {a : Nat} {cI cJ cZ : ClassId} {ws : va_W} (hx : p.tables.exec = Jvm.exec) (hb : c.code = cc) (hts : ∀ w ∈ aw, w.before args s = true) (hown : s.vm.findClass RX9 = some m.cls) (hK : va_K D vwCl (ty3 cI cJ cZ) s) (hP : va_P D vwCl ws H) {q0 : Nat} {v0 v1 v2 v3 v4 v5 v6 v7 v8 v9 v10 v11 v12 v13 v14 v15 v16 v17 v18 v19 v20 v21 v22 v23 v24 v25 v26 v27 : Value} (he : ws[q0]? = some (a, .inr (9, [v0, v1, v2, v3, v4, v5, v6, v7, v8, v9, v10, v11, v12, v13, v14, v15, v16, v17, v18, v19, v20, v21, v22, v23, v24, v25, v26, v27]))) (hdg : decode cc pc = .ok (.getfield 60, 3)) (kk : W p l e R s m args below meth c H locs cells slots Q (F0 m (pc + 3) ls (v6 :: rest))) : W p l e R s m args below meth c H locs cells slots Q (F0 m pc ls (.ref a :: rest)) :=
  va_get (ci := 9) (v := v6) (C := RX9) (T := TX9) (N := 28) hx hb hts inqX9 hown hK hP q0 he rfl 6 (by decide) (hts _ fl_X9_60) (fun _ h9 => h9) rfl hdg kk
theorem pf_X9_60 {p : Program} {l : Launch} {e : Env} {R : Room} {s : State} {m : MethodId} {args : Array Value} {below : List Frame} {meth : Method} {c : Code} {H : Heap} {locs : List Loc} {cells slots : Nat} {Q : State → Prop} {cc : ByteArray} {pc : Nat} {ls : Array Slot} {rest : List Value} {D : va_G} {a : Nat} {cI cJ cZ : ClassId} {ws : va_W} {A : Nat → Prop} {H0 : Heap} (hx : p.tables.exec = Jvm.exec) (hb : c.code = cc) (hts : ∀ w ∈ aw, w.before args s = true) (hown : s.vm.findClass RX9 = some m.cls) (hK : va_K D vwCl (ty3 cI cJ cZ) s) (hP : va_P D vwCl ws H) (hD : va_D A ws) (hS : va_S A H0 H locs) {q0 : Nat} {v0 v1 v2 v3 v4 v5 v6 v7 v8 v9 v10 v11 v12 v13 v14 v15 v16 v17 v18 v19 v20 v21 v22 v23 v24 v25 v26 v27 v : Value} (he : ws[q0]? = some (a, .inr (9, [v0, v1, v2, v3, v4, v5, v6, v7, v8, v9, v10, v11, v12, v13, v14, v15, v16, v17, v18, v19, v20, v21, v22, v23, v24, v25, v26, v27]))) (hn : narrow .int v = v) (hf : fits .int v = true) (hdg : decode cc pc = .ok (.putfield 60, 3)) (kk : ∀ (ws' : va_W) (H1 : Heap) (locs1 : List Loc), va_P D vwCl ws' H1 → va_D A ws' → (∀ j : Nat, j ≠ q0 → ws'[j]? = ws[j]?) → ws'[q0]? = some (a, .inr (9, [v0, v1, v2, v3, v4, v5, v, v7, v8, v9, v10, v11, v12, v13, v14, v15, v16, v17, v18, v19, v20, v21, v22, v23, v24, v25, v26, v27])) → va_S A H0 H1 locs1 → W p l e R s m args below meth c H1 locs1 cells slots Q (F0 m (pc + 3) ls rest)) : W p l e R s m args below meth c H locs cells slots Q (F0 m pc ls (v :: .ref a :: rest)) :=
  va_put (ci := 9) (v := v) (ty := .int) (C := RX9) (T := TX9) (N := 28) hx hb hts inqX9 tyX9 tyX9_ok nmX9 hown hK hP hD hS q0 he rfl 6 (by decide) (hts _ fl_X9_60) (fun _ h9 => h9) rfl (by decide +kernel) hn hf (Nat.le_of_ble_eq_true rfl) hdg (fun H1 locs1 hP1 hD1 hS1 => kk _ H1 locs1 hP1 hD1 (fun j hj => st_ne hj rfl) (st_eq he) hS1)
theorem fl_X9_70 : Cond.fieldLink RX9 70 "AHandGoesUpModel" "length" "I" ∈ aw := aw_at 804 (by decide +kernel) (by decide +kernel)
theorem gf_X9_70 {p : Program} {l : Launch} {e : Env} {R : Room} {s : State} {m : MethodId} {args : Array Value} {below : List Frame} {meth : Method} {c : Code} {H : Heap} {locs : List Loc} {cells slots : Nat} {Q : State → Prop} {cc : ByteArray} {pc : Nat} {ls : Array Slot} {rest : List Value} {D : va_G} {a : Nat} {cI cJ cZ : ClassId} {ws : va_W} (hx : p.tables.exec = Jvm.exec) (hb : c.code = cc) (hts : ∀ w ∈ aw, w.before args s = true) (hown : s.vm.findClass RX9 = some m.cls) (hK : va_K D vwCl (ty3 cI cJ cZ) s) (hP : va_P D vwCl ws H) {q0 : Nat} {v0 v1 v2 v3 v4 v5 v6 v7 v8 v9 v10 v11 v12 v13 v14 v15 v16 v17 v18 v19 v20 v21 v22 v23 v24 v25 v26 v27 : Value} (he : ws[q0]? = some (a, .inr (9, [v0, v1, v2, v3, v4, v5, v6, v7, v8, v9, v10, v11, v12, v13, v14, v15, v16, v17, v18, v19, v20, v21, v22, v23, v24, v25, v26, v27]))) (hdg : decode cc pc = .ok (.getfield 70, 3)) (kk : W p l e R s m args below meth c H locs cells slots Q (F0 m (pc + 3) ls (v8 :: rest))) : W p l e R s m args below meth c H locs cells slots Q (F0 m pc ls (.ref a :: rest)) :=
  va_get (ci := 9) (v := v8) (C := RX9) (T := TX9) (N := 28) hx hb hts inqX9 hown hK hP q0 he rfl 8 (by decide) (hts _ fl_X9_70) (fun _ h9 => h9) rfl hdg kk
theorem pf_X9_70 {p : Program} {l : Launch} {e : Env} {R : Room} {s : State} {m : MethodId} {args : Array Value} {below : List Frame} {meth : Method} {c : Code} {H : Heap} {locs : List Loc} {cells slots : Nat} {Q : State → Prop} {cc : ByteArray} {pc : Nat} {ls : Array Slot} {rest : List Value} {D : va_G} {a : Nat} {cI cJ cZ : ClassId} {ws : va_W} {A : Nat → Prop} {H0 : Heap} (hx : p.tables.exec = Jvm.exec) (hb : c.code = cc) (hts : ∀ w ∈ aw, w.before args s = true) (hown : s.vm.findClass RX9 = some m.cls) (hK : va_K D vwCl (ty3 cI cJ cZ) s) (hP : va_P D vwCl ws H) (hD : va_D A ws) (hS : va_S A H0 H locs) {q0 : Nat} {v0 v1 v2 v3 v4 v5 v6 v7 v8 v9 v10 v11 v12 v13 v14 v15 v16 v17 v18 v19 v20 v21 v22 v23 v24 v25 v26 v27 v : Value} (he : ws[q0]? = some (a, .inr (9, [v0, v1, v2, v3, v4, v5, v6, v7, v8, v9, v10, v11, v12, v13, v14, v15, v16, v17, v18, v19, v20, v21, v22, v23, v24, v25, v26, v27]))) (hn : narrow .int v = v) (hf : fits .int v = true) (hdg : decode cc pc = .ok (.putfield 70, 3)) (kk : ∀ (ws' : va_W) (H1 : Heap) (locs1 : List Loc), va_P D vwCl ws' H1 → va_D A ws' → (∀ j : Nat, j ≠ q0 → ws'[j]? = ws[j]?) → ws'[q0]? = some (a, .inr (9, [v0, v1, v2, v3, v4, v5, v6, v7, v, v9, v10, v11, v12, v13, v14, v15, v16, v17, v18, v19, v20, v21, v22, v23, v24, v25, v26, v27])) → va_S A H0 H1 locs1 → W p l e R s m args below meth c H1 locs1 cells slots Q (F0 m (pc + 3) ls rest)) : W p l e R s m args below meth c H locs cells slots Q (F0 m pc ls (v :: .ref a :: rest)) :=
  va_put (ci := 9) (v := v) (ty := .int) (C := RX9) (T := TX9) (N := 28) hx hb hts inqX9 tyX9 tyX9_ok nmX9 hown hK hP hD hS q0 he rfl 8 (by decide) (hts _ fl_X9_70) (fun _ h9 => h9) rfl (by decide +kernel) hn hf (Nat.le_of_ble_eq_true rfl) hdg (fun H1 locs1 hP1 hD1 hS1 => kk _ H1 locs1 hP1 hD1 (fun j hj => st_ne hj rfl) (st_eq he) hS1)
theorem fl_X9_75 : Cond.fieldLink RX9 75 "AHandGoesUpModel" "faultAt" "I" ∈ aw := aw_at 806 (by decide +kernel) (by decide +kernel)
theorem gf_X9_75 {p : Program} {l : Launch} {e : Env} {R : Room} {s : State} {m : MethodId} {args : Array Value} {below : List Frame} {meth : Method} {c : Code} {H : Heap} {locs : List Loc} {cells slots : Nat} {Q : State → Prop} {cc : ByteArray} {pc : Nat} {ls : Array Slot} {rest : List Value} {D : va_G} {a : Nat} {cI cJ cZ : ClassId} {ws : va_W} (hx : p.tables.exec = Jvm.exec) (hb : c.code = cc) (hts : ∀ w ∈ aw, w.before args s = true) (hown : s.vm.findClass RX9 = some m.cls) (hK : va_K D vwCl (ty3 cI cJ cZ) s) (hP : va_P D vwCl ws H) {q0 : Nat} {v0 v1 v2 v3 v4 v5 v6 v7 v8 v9 v10 v11 v12 v13 v14 v15 v16 v17 v18 v19 v20 v21 v22 v23 v24 v25 v26 v27 : Value} (he : ws[q0]? = some (a, .inr (9, [v0, v1, v2, v3, v4, v5, v6, v7, v8, v9, v10, v11, v12, v13, v14, v15, v16, v17, v18, v19, v20, v21, v22, v23, v24, v25, v26, v27]))) (hdg : decode cc pc = .ok (.getfield 75, 3)) (kk : W p l e R s m args below meth c H locs cells slots Q (F0 m (pc + 3) ls (v10 :: rest))) : W p l e R s m args below meth c H locs cells slots Q (F0 m pc ls (.ref a :: rest)) :=
  va_get (ci := 9) (v := v10) (C := RX9) (T := TX9) (N := 28) hx hb hts inqX9 hown hK hP q0 he rfl 10 (by decide) (hts _ fl_X9_75) (fun _ h9 => h9) rfl hdg kk
theorem pf_X9_75 {p : Program} {l : Launch} {e : Env} {R : Room} {s : State} {m : MethodId} {args : Array Value} {below : List Frame} {meth : Method} {c : Code} {H : Heap} {locs : List Loc} {cells slots : Nat} {Q : State → Prop} {cc : ByteArray} {pc : Nat} {ls : Array Slot} {rest : List Value} {D : va_G} {a : Nat} {cI cJ cZ : ClassId} {ws : va_W} {A : Nat → Prop} {H0 : Heap} (hx : p.tables.exec = Jvm.exec) (hb : c.code = cc) (hts : ∀ w ∈ aw, w.before args s = true) (hown : s.vm.findClass RX9 = some m.cls) (hK : va_K D vwCl (ty3 cI cJ cZ) s) (hP : va_P D vwCl ws H) (hD : va_D A ws) (hS : va_S A H0 H locs) {q0 : Nat} {v0 v1 v2 v3 v4 v5 v6 v7 v8 v9 v10 v11 v12 v13 v14 v15 v16 v17 v18 v19 v20 v21 v22 v23 v24 v25 v26 v27 v : Value} (he : ws[q0]? = some (a, .inr (9, [v0, v1, v2, v3, v4, v5, v6, v7, v8, v9, v10, v11, v12, v13, v14, v15, v16, v17, v18, v19, v20, v21, v22, v23, v24, v25, v26, v27]))) (hn : narrow .int v = v) (hf : fits .int v = true) (hdg : decode cc pc = .ok (.putfield 75, 3)) (kk : ∀ (ws' : va_W) (H1 : Heap) (locs1 : List Loc), va_P D vwCl ws' H1 → va_D A ws' → (∀ j : Nat, j ≠ q0 → ws'[j]? = ws[j]?) → ws'[q0]? = some (a, .inr (9, [v0, v1, v2, v3, v4, v5, v6, v7, v8, v9, v, v11, v12, v13, v14, v15, v16, v17, v18, v19, v20, v21, v22, v23, v24, v25, v26, v27])) → va_S A H0 H1 locs1 → W p l e R s m args below meth c H1 locs1 cells slots Q (F0 m (pc + 3) ls rest)) : W p l e R s m args below meth c H locs cells slots Q (F0 m pc ls (v :: .ref a :: rest)) :=
  va_put (ci := 9) (v := v) (ty := .int) (C := RX9) (T := TX9) (N := 28) hx hb hts inqX9 tyX9 tyX9_ok nmX9 hown hK hP hD hS q0 he rfl 10 (by decide) (hts _ fl_X9_75) (fun _ h9 => h9) rfl (by decide +kernel) hn hf (Nat.le_of_ble_eq_true rfl) hdg (fun H1 locs1 hP1 hD1 hS1 => kk _ H1 locs1 hP1 hD1 (fun j hj => st_ne hj rfl) (st_eq he) hS1)
theorem fl_X9_78 : Cond.fieldLink RX9 78 "AHandGoesUpModel" "at" "I" ∈ aw := aw_at 805 (by decide +kernel) (by decide +kernel)
theorem gf_X9_78 {p : Program} {l : Launch} {e : Env} {R : Room} {s : State} {m : MethodId} {args : Array Value} {below : List Frame} {meth : Method} {c : Code} {H : Heap} {locs : List Loc} {cells slots : Nat} {Q : State → Prop} {cc : ByteArray} {pc : Nat} {ls : Array Slot} {rest : List Value} {D : va_G} {a : Nat} {cI cJ cZ : ClassId} {ws : va_W} (hx : p.tables.exec = Jvm.exec) (hb : c.code = cc) (hts : ∀ w ∈ aw, w.before args s = true) (hown : s.vm.findClass RX9 = some m.cls) (hK : va_K D vwCl (ty3 cI cJ cZ) s) (hP : va_P D vwCl ws H) {q0 : Nat} {v0 v1 v2 v3 v4 v5 v6 v7 v8 v9 v10 v11 v12 v13 v14 v15 v16 v17 v18 v19 v20 v21 v22 v23 v24 v25 v26 v27 : Value} (he : ws[q0]? = some (a, .inr (9, [v0, v1, v2, v3, v4, v5, v6, v7, v8, v9, v10, v11, v12, v13, v14, v15, v16, v17, v18, v19, v20, v21, v22, v23, v24, v25, v26, v27]))) (hdg : decode cc pc = .ok (.getfield 78, 3)) (kk : W p l e R s m args below meth c H locs cells slots Q (F0 m (pc + 3) ls (v9 :: rest))) : W p l e R s m args below meth c H locs cells slots Q (F0 m pc ls (.ref a :: rest)) :=
  va_get (ci := 9) (v := v9) (C := RX9) (T := TX9) (N := 28) hx hb hts inqX9 hown hK hP q0 he rfl 9 (by decide) (hts _ fl_X9_78) (fun _ h9 => h9) rfl hdg kk
theorem pf_X9_78 {p : Program} {l : Launch} {e : Env} {R : Room} {s : State} {m : MethodId} {args : Array Value} {below : List Frame} {meth : Method} {c : Code} {H : Heap} {locs : List Loc} {cells slots : Nat} {Q : State → Prop} {cc : ByteArray} {pc : Nat} {ls : Array Slot} {rest : List Value} {D : va_G} {a : Nat} {cI cJ cZ : ClassId} {ws : va_W} {A : Nat → Prop} {H0 : Heap} (hx : p.tables.exec = Jvm.exec) (hb : c.code = cc) (hts : ∀ w ∈ aw, w.before args s = true) (hown : s.vm.findClass RX9 = some m.cls) (hK : va_K D vwCl (ty3 cI cJ cZ) s) (hP : va_P D vwCl ws H) (hD : va_D A ws) (hS : va_S A H0 H locs) {q0 : Nat} {v0 v1 v2 v3 v4 v5 v6 v7 v8 v9 v10 v11 v12 v13 v14 v15 v16 v17 v18 v19 v20 v21 v22 v23 v24 v25 v26 v27 v : Value} (he : ws[q0]? = some (a, .inr (9, [v0, v1, v2, v3, v4, v5, v6, v7, v8, v9, v10, v11, v12, v13, v14, v15, v16, v17, v18, v19, v20, v21, v22, v23, v24, v25, v26, v27]))) (hn : narrow .int v = v) (hf : fits .int v = true) (hdg : decode cc pc = .ok (.putfield 78, 3)) (kk : ∀ (ws' : va_W) (H1 : Heap) (locs1 : List Loc), va_P D vwCl ws' H1 → va_D A ws' → (∀ j : Nat, j ≠ q0 → ws'[j]? = ws[j]?) → ws'[q0]? = some (a, .inr (9, [v0, v1, v2, v3, v4, v5, v6, v7, v8, v, v10, v11, v12, v13, v14, v15, v16, v17, v18, v19, v20, v21, v22, v23, v24, v25, v26, v27])) → va_S A H0 H1 locs1 → W p l e R s m args below meth c H1 locs1 cells slots Q (F0 m (pc + 3) ls rest)) : W p l e R s m args below meth c H locs cells slots Q (F0 m pc ls (v :: .ref a :: rest)) :=
  va_put (ci := 9) (v := v) (ty := .int) (C := RX9) (T := TX9) (N := 28) hx hb hts inqX9 tyX9 tyX9_ok nmX9 hown hK hP hD hS q0 he rfl 9 (by decide) (hts _ fl_X9_78) (fun _ h9 => h9) rfl (by decide +kernel) hn hf (Nat.le_of_ble_eq_true rfl) hdg (fun H1 locs1 hP1 hD1 hS1 => kk _ H1 locs1 hP1 hD1 (fun j hj => st_ne hj rfl) (st_eq he) hS1)
theorem fl_X9_83 : Cond.fieldLink RX9 83 "AHandGoesUpModel" "readMany" "I" ∈ aw := aw_at 797 (by decide +kernel) (by decide +kernel)
theorem gf_X9_83 {p : Program} {l : Launch} {e : Env} {R : Room} {s : State} {m : MethodId} {args : Array Value} {below : List Frame} {meth : Method} {c : Code} {H : Heap} {locs : List Loc} {cells slots : Nat} {Q : State → Prop} {cc : ByteArray} {pc : Nat} {ls : Array Slot} {rest : List Value} {D : va_G} {a : Nat} {cI cJ cZ : ClassId} {ws : va_W} (hx : p.tables.exec = Jvm.exec) (hb : c.code = cc) (hts : ∀ w ∈ aw, w.before args s = true) (hown : s.vm.findClass RX9 = some m.cls) (hK : va_K D vwCl (ty3 cI cJ cZ) s) (hP : va_P D vwCl ws H) {q0 : Nat} {v0 v1 v2 v3 v4 v5 v6 v7 v8 v9 v10 v11 v12 v13 v14 v15 v16 v17 v18 v19 v20 v21 v22 v23 v24 v25 v26 v27 : Value} (he : ws[q0]? = some (a, .inr (9, [v0, v1, v2, v3, v4, v5, v6, v7, v8, v9, v10, v11, v12, v13, v14, v15, v16, v17, v18, v19, v20, v21, v22, v23, v24, v25, v26, v27]))) (hdg : decode cc pc = .ok (.getfield 83, 3)) (kk : W p l e R s m args below meth c H locs cells slots Q (F0 m (pc + 3) ls (v1 :: rest))) : W p l e R s m args below meth c H locs cells slots Q (F0 m pc ls (.ref a :: rest)) :=
  va_get (ci := 9) (v := v1) (C := RX9) (T := TX9) (N := 28) hx hb hts inqX9 hown hK hP q0 he rfl 1 (by decide) (hts _ fl_X9_83) (fun _ h9 => h9) rfl hdg kk
theorem pf_X9_83 {p : Program} {l : Launch} {e : Env} {R : Room} {s : State} {m : MethodId} {args : Array Value} {below : List Frame} {meth : Method} {c : Code} {H : Heap} {locs : List Loc} {cells slots : Nat} {Q : State → Prop} {cc : ByteArray} {pc : Nat} {ls : Array Slot} {rest : List Value} {D : va_G} {a : Nat} {cI cJ cZ : ClassId} {ws : va_W} {A : Nat → Prop} {H0 : Heap} (hx : p.tables.exec = Jvm.exec) (hb : c.code = cc) (hts : ∀ w ∈ aw, w.before args s = true) (hown : s.vm.findClass RX9 = some m.cls) (hK : va_K D vwCl (ty3 cI cJ cZ) s) (hP : va_P D vwCl ws H) (hD : va_D A ws) (hS : va_S A H0 H locs) {q0 : Nat} {v0 v1 v2 v3 v4 v5 v6 v7 v8 v9 v10 v11 v12 v13 v14 v15 v16 v17 v18 v19 v20 v21 v22 v23 v24 v25 v26 v27 v : Value} (he : ws[q0]? = some (a, .inr (9, [v0, v1, v2, v3, v4, v5, v6, v7, v8, v9, v10, v11, v12, v13, v14, v15, v16, v17, v18, v19, v20, v21, v22, v23, v24, v25, v26, v27]))) (hn : narrow .int v = v) (hf : fits .int v = true) (hdg : decode cc pc = .ok (.putfield 83, 3)) (kk : ∀ (ws' : va_W) (H1 : Heap) (locs1 : List Loc), va_P D vwCl ws' H1 → va_D A ws' → (∀ j : Nat, j ≠ q0 → ws'[j]? = ws[j]?) → ws'[q0]? = some (a, .inr (9, [v0, v, v2, v3, v4, v5, v6, v7, v8, v9, v10, v11, v12, v13, v14, v15, v16, v17, v18, v19, v20, v21, v22, v23, v24, v25, v26, v27])) → va_S A H0 H1 locs1 → W p l e R s m args below meth c H1 locs1 cells slots Q (F0 m (pc + 3) ls rest)) : W p l e R s m args below meth c H locs cells slots Q (F0 m pc ls (v :: .ref a :: rest)) :=
  va_put (ci := 9) (v := v) (ty := .int) (C := RX9) (T := TX9) (N := 28) hx hb hts inqX9 tyX9 tyX9_ok nmX9 hown hK hP hD hS q0 he rfl 1 (by decide) (hts _ fl_X9_83) (fun _ h9 => h9) rfl (by decide +kernel) hn hf (Nat.le_of_ble_eq_true rfl) hdg (fun H1 locs1 hP1 hD1 hS1 => kk _ H1 locs1 hP1 hD1 (fun j hj => st_ne hj rfl) (st_eq he) hS1)
theorem fl_X9_97 : Cond.fieldLink RX9 97 "AHandGoesUpModel" "pupils" "I" ∈ aw := aw_at 799 (by decide +kernel) (by decide +kernel)
theorem gf_X9_97 {p : Program} {l : Launch} {e : Env} {R : Room} {s : State} {m : MethodId} {args : Array Value} {below : List Frame} {meth : Method} {c : Code} {H : Heap} {locs : List Loc} {cells slots : Nat} {Q : State → Prop} {cc : ByteArray} {pc : Nat} {ls : Array Slot} {rest : List Value} {D : va_G} {a : Nat} {cI cJ cZ : ClassId} {ws : va_W} (hx : p.tables.exec = Jvm.exec) (hb : c.code = cc) (hts : ∀ w ∈ aw, w.before args s = true) (hown : s.vm.findClass RX9 = some m.cls) (hK : va_K D vwCl (ty3 cI cJ cZ) s) (hP : va_P D vwCl ws H) {q0 : Nat} {v0 v1 v2 v3 v4 v5 v6 v7 v8 v9 v10 v11 v12 v13 v14 v15 v16 v17 v18 v19 v20 v21 v22 v23 v24 v25 v26 v27 : Value} (he : ws[q0]? = some (a, .inr (9, [v0, v1, v2, v3, v4, v5, v6, v7, v8, v9, v10, v11, v12, v13, v14, v15, v16, v17, v18, v19, v20, v21, v22, v23, v24, v25, v26, v27]))) (hdg : decode cc pc = .ok (.getfield 97, 3)) (kk : W p l e R s m args below meth c H locs cells slots Q (F0 m (pc + 3) ls (v3 :: rest))) : W p l e R s m args below meth c H locs cells slots Q (F0 m pc ls (.ref a :: rest)) :=
  va_get (ci := 9) (v := v3) (C := RX9) (T := TX9) (N := 28) hx hb hts inqX9 hown hK hP q0 he rfl 3 (by decide) (hts _ fl_X9_97) (fun _ h9 => h9) rfl hdg kk
theorem pf_X9_97 {p : Program} {l : Launch} {e : Env} {R : Room} {s : State} {m : MethodId} {args : Array Value} {below : List Frame} {meth : Method} {c : Code} {H : Heap} {locs : List Loc} {cells slots : Nat} {Q : State → Prop} {cc : ByteArray} {pc : Nat} {ls : Array Slot} {rest : List Value} {D : va_G} {a : Nat} {cI cJ cZ : ClassId} {ws : va_W} {A : Nat → Prop} {H0 : Heap} (hx : p.tables.exec = Jvm.exec) (hb : c.code = cc) (hts : ∀ w ∈ aw, w.before args s = true) (hown : s.vm.findClass RX9 = some m.cls) (hK : va_K D vwCl (ty3 cI cJ cZ) s) (hP : va_P D vwCl ws H) (hD : va_D A ws) (hS : va_S A H0 H locs) {q0 : Nat} {v0 v1 v2 v3 v4 v5 v6 v7 v8 v9 v10 v11 v12 v13 v14 v15 v16 v17 v18 v19 v20 v21 v22 v23 v24 v25 v26 v27 v : Value} (he : ws[q0]? = some (a, .inr (9, [v0, v1, v2, v3, v4, v5, v6, v7, v8, v9, v10, v11, v12, v13, v14, v15, v16, v17, v18, v19, v20, v21, v22, v23, v24, v25, v26, v27]))) (hn : narrow .int v = v) (hf : fits .int v = true) (hdg : decode cc pc = .ok (.putfield 97, 3)) (kk : ∀ (ws' : va_W) (H1 : Heap) (locs1 : List Loc), va_P D vwCl ws' H1 → va_D A ws' → (∀ j : Nat, j ≠ q0 → ws'[j]? = ws[j]?) → ws'[q0]? = some (a, .inr (9, [v0, v1, v2, v, v4, v5, v6, v7, v8, v9, v10, v11, v12, v13, v14, v15, v16, v17, v18, v19, v20, v21, v22, v23, v24, v25, v26, v27])) → va_S A H0 H1 locs1 → W p l e R s m args below meth c H1 locs1 cells slots Q (F0 m (pc + 3) ls rest)) : W p l e R s m args below meth c H locs cells slots Q (F0 m pc ls (v :: .ref a :: rest)) :=
  va_put (ci := 9) (v := v) (ty := .int) (C := RX9) (T := TX9) (N := 28) hx hb hts inqX9 tyX9 tyX9_ok nmX9 hown hK hP hD hS q0 he rfl 3 (by decide) (hts _ fl_X9_97) (fun _ h9 => h9) rfl (by decide +kernel) hn hf (Nat.le_of_ble_eq_true rfl) hdg (fun H1 locs1 hP1 hD1 hS1 => kk _ H1 locs1 hP1 hD1 (fun j hj => st_ne hj rfl) (st_eq he) hS1)
theorem fl_X9_100 : Cond.fieldLink RX9 100 "AHandGoesUpModel" "drawn" "J" ∈ aw := aw_at 809 (by decide +kernel) (by decide +kernel)
theorem gf_X9_100 {p : Program} {l : Launch} {e : Env} {R : Room} {s : State} {m : MethodId} {args : Array Value} {below : List Frame} {meth : Method} {c : Code} {H : Heap} {locs : List Loc} {cells slots : Nat} {Q : State → Prop} {cc : ByteArray} {pc : Nat} {ls : Array Slot} {rest : List Value} {D : va_G} {a : Nat} {cI cJ cZ : ClassId} {ws : va_W} (hx : p.tables.exec = Jvm.exec) (hb : c.code = cc) (hts : ∀ w ∈ aw, w.before args s = true) (hown : s.vm.findClass RX9 = some m.cls) (hK : va_K D vwCl (ty3 cI cJ cZ) s) (hP : va_P D vwCl ws H) {q0 : Nat} {v0 v1 v2 v3 v4 v5 v6 v7 v8 v9 v10 v11 v12 v13 v14 v15 v16 v17 v18 v19 v20 v21 v22 v23 v24 v25 v26 v27 : Value} (he : ws[q0]? = some (a, .inr (9, [v0, v1, v2, v3, v4, v5, v6, v7, v8, v9, v10, v11, v12, v13, v14, v15, v16, v17, v18, v19, v20, v21, v22, v23, v24, v25, v26, v27]))) (hdg : decode cc pc = .ok (.getfield 100, 3)) (kk : W p l e R s m args below meth c H locs cells slots Q (F0 m (pc + 3) ls (v13 :: rest))) : W p l e R s m args below meth c H locs cells slots Q (F0 m pc ls (.ref a :: rest)) :=
  va_get (ci := 9) (v := v13) (C := RX9) (T := TX9) (N := 28) hx hb hts inqX9 hown hK hP q0 he rfl 13 (by decide) (hts _ fl_X9_100) (fun _ h9 => h9) rfl hdg kk
theorem pf_X9_100 {p : Program} {l : Launch} {e : Env} {R : Room} {s : State} {m : MethodId} {args : Array Value} {below : List Frame} {meth : Method} {c : Code} {H : Heap} {locs : List Loc} {cells slots : Nat} {Q : State → Prop} {cc : ByteArray} {pc : Nat} {ls : Array Slot} {rest : List Value} {D : va_G} {a : Nat} {cI cJ cZ : ClassId} {ws : va_W} {A : Nat → Prop} {H0 : Heap} (hx : p.tables.exec = Jvm.exec) (hb : c.code = cc) (hts : ∀ w ∈ aw, w.before args s = true) (hown : s.vm.findClass RX9 = some m.cls) (hK : va_K D vwCl (ty3 cI cJ cZ) s) (hP : va_P D vwCl ws H) (hD : va_D A ws) (hS : va_S A H0 H locs) {q0 : Nat} {v0 v1 v2 v3 v4 v5 v6 v7 v8 v9 v10 v11 v12 v13 v14 v15 v16 v17 v18 v19 v20 v21 v22 v23 v24 v25 v26 v27 v : Value} (he : ws[q0]? = some (a, .inr (9, [v0, v1, v2, v3, v4, v5, v6, v7, v8, v9, v10, v11, v12, v13, v14, v15, v16, v17, v18, v19, v20, v21, v22, v23, v24, v25, v26, v27]))) (hn : narrow .long v = v) (hf : fits .long v = true) (hdg : decode cc pc = .ok (.putfield 100, 3)) (kk : ∀ (ws' : va_W) (H1 : Heap) (locs1 : List Loc), va_P D vwCl ws' H1 → va_D A ws' → (∀ j : Nat, j ≠ q0 → ws'[j]? = ws[j]?) → ws'[q0]? = some (a, .inr (9, [v0, v1, v2, v3, v4, v5, v6, v7, v8, v9, v10, v11, v12, v, v14, v15, v16, v17, v18, v19, v20, v21, v22, v23, v24, v25, v26, v27])) → va_S A H0 H1 locs1 → W p l e R s m args below meth c H1 locs1 cells slots Q (F0 m (pc + 3) ls rest)) : W p l e R s m args below meth c H locs cells slots Q (F0 m pc ls (v :: .ref a :: rest)) :=
  va_put (ci := 9) (v := v) (ty := .long) (C := RX9) (T := TX9) (N := 28) hx hb hts inqX9 tyX9 tyX9_ok nmX9 hown hK hP hD hS q0 he rfl 13 (by decide) (hts _ fl_X9_100) (fun _ h9 => h9) rfl (by decide +kernel) hn hf (Nat.le_of_ble_eq_true rfl) hdg (fun H1 locs1 hP1 hD1 hS1 => kk _ H1 locs1 hP1 hD1 (fun j hj => st_ne hj rfl) (st_eq he) hS1)
theorem fl_X9_104 : Cond.fieldLink RX9 104 "AHandGoesUpModel" "questions" "I" ∈ aw := aw_at 810 (by decide +kernel) (by decide +kernel)
theorem gf_X9_104 {p : Program} {l : Launch} {e : Env} {R : Room} {s : State} {m : MethodId} {args : Array Value} {below : List Frame} {meth : Method} {c : Code} {H : Heap} {locs : List Loc} {cells slots : Nat} {Q : State → Prop} {cc : ByteArray} {pc : Nat} {ls : Array Slot} {rest : List Value} {D : va_G} {a : Nat} {cI cJ cZ : ClassId} {ws : va_W} (hx : p.tables.exec = Jvm.exec) (hb : c.code = cc) (hts : ∀ w ∈ aw, w.before args s = true) (hown : s.vm.findClass RX9 = some m.cls) (hK : va_K D vwCl (ty3 cI cJ cZ) s) (hP : va_P D vwCl ws H) {q0 : Nat} {v0 v1 v2 v3 v4 v5 v6 v7 v8 v9 v10 v11 v12 v13 v14 v15 v16 v17 v18 v19 v20 v21 v22 v23 v24 v25 v26 v27 : Value} (he : ws[q0]? = some (a, .inr (9, [v0, v1, v2, v3, v4, v5, v6, v7, v8, v9, v10, v11, v12, v13, v14, v15, v16, v17, v18, v19, v20, v21, v22, v23, v24, v25, v26, v27]))) (hdg : decode cc pc = .ok (.getfield 104, 3)) (kk : W p l e R s m args below meth c H locs cells slots Q (F0 m (pc + 3) ls (v14 :: rest))) : W p l e R s m args below meth c H locs cells slots Q (F0 m pc ls (.ref a :: rest)) :=
  va_get (ci := 9) (v := v14) (C := RX9) (T := TX9) (N := 28) hx hb hts inqX9 hown hK hP q0 he rfl 14 (by decide) (hts _ fl_X9_104) (fun _ h9 => h9) rfl hdg kk
theorem pf_X9_104 {p : Program} {l : Launch} {e : Env} {R : Room} {s : State} {m : MethodId} {args : Array Value} {below : List Frame} {meth : Method} {c : Code} {H : Heap} {locs : List Loc} {cells slots : Nat} {Q : State → Prop} {cc : ByteArray} {pc : Nat} {ls : Array Slot} {rest : List Value} {D : va_G} {a : Nat} {cI cJ cZ : ClassId} {ws : va_W} {A : Nat → Prop} {H0 : Heap} (hx : p.tables.exec = Jvm.exec) (hb : c.code = cc) (hts : ∀ w ∈ aw, w.before args s = true) (hown : s.vm.findClass RX9 = some m.cls) (hK : va_K D vwCl (ty3 cI cJ cZ) s) (hP : va_P D vwCl ws H) (hD : va_D A ws) (hS : va_S A H0 H locs) {q0 : Nat} {v0 v1 v2 v3 v4 v5 v6 v7 v8 v9 v10 v11 v12 v13 v14 v15 v16 v17 v18 v19 v20 v21 v22 v23 v24 v25 v26 v27 v : Value} (he : ws[q0]? = some (a, .inr (9, [v0, v1, v2, v3, v4, v5, v6, v7, v8, v9, v10, v11, v12, v13, v14, v15, v16, v17, v18, v19, v20, v21, v22, v23, v24, v25, v26, v27]))) (hn : narrow .int v = v) (hf : fits .int v = true) (hdg : decode cc pc = .ok (.putfield 104, 3)) (kk : ∀ (ws' : va_W) (H1 : Heap) (locs1 : List Loc), va_P D vwCl ws' H1 → va_D A ws' → (∀ j : Nat, j ≠ q0 → ws'[j]? = ws[j]?) → ws'[q0]? = some (a, .inr (9, [v0, v1, v2, v3, v4, v5, v6, v7, v8, v9, v10, v11, v12, v13, v, v15, v16, v17, v18, v19, v20, v21, v22, v23, v24, v25, v26, v27])) → va_S A H0 H1 locs1 → W p l e R s m args below meth c H1 locs1 cells slots Q (F0 m (pc + 3) ls rest)) : W p l e R s m args below meth c H locs cells slots Q (F0 m pc ls (v :: .ref a :: rest)) :=
  va_put (ci := 9) (v := v) (ty := .int) (C := RX9) (T := TX9) (N := 28) hx hb hts inqX9 tyX9 tyX9_ok nmX9 hown hK hP hD hS q0 he rfl 14 (by decide) (hts _ fl_X9_104) (fun _ h9 => h9) rfl (by decide +kernel) hn hf (Nat.le_of_ble_eq_true rfl) hdg (fun H1 locs1 hP1 hD1 hS1 => kk _ H1 locs1 hP1 hD1 (fun j hj => st_ne hj rfl) (st_eq he) hS1)
theorem fl_X9_107 : Cond.fieldLink RX9 107 "AHandGoesUpModel" "rights" "I" ∈ aw := aw_at 811 (by decide +kernel) (by decide +kernel)
theorem gf_X9_107 {p : Program} {l : Launch} {e : Env} {R : Room} {s : State} {m : MethodId} {args : Array Value} {below : List Frame} {meth : Method} {c : Code} {H : Heap} {locs : List Loc} {cells slots : Nat} {Q : State → Prop} {cc : ByteArray} {pc : Nat} {ls : Array Slot} {rest : List Value} {D : va_G} {a : Nat} {cI cJ cZ : ClassId} {ws : va_W} (hx : p.tables.exec = Jvm.exec) (hb : c.code = cc) (hts : ∀ w ∈ aw, w.before args s = true) (hown : s.vm.findClass RX9 = some m.cls) (hK : va_K D vwCl (ty3 cI cJ cZ) s) (hP : va_P D vwCl ws H) {q0 : Nat} {v0 v1 v2 v3 v4 v5 v6 v7 v8 v9 v10 v11 v12 v13 v14 v15 v16 v17 v18 v19 v20 v21 v22 v23 v24 v25 v26 v27 : Value} (he : ws[q0]? = some (a, .inr (9, [v0, v1, v2, v3, v4, v5, v6, v7, v8, v9, v10, v11, v12, v13, v14, v15, v16, v17, v18, v19, v20, v21, v22, v23, v24, v25, v26, v27]))) (hdg : decode cc pc = .ok (.getfield 107, 3)) (kk : W p l e R s m args below meth c H locs cells slots Q (F0 m (pc + 3) ls (v15 :: rest))) : W p l e R s m args below meth c H locs cells slots Q (F0 m pc ls (.ref a :: rest)) :=
  va_get (ci := 9) (v := v15) (C := RX9) (T := TX9) (N := 28) hx hb hts inqX9 hown hK hP q0 he rfl 15 (by decide) (hts _ fl_X9_107) (fun _ h9 => h9) rfl hdg kk
theorem pf_X9_107 {p : Program} {l : Launch} {e : Env} {R : Room} {s : State} {m : MethodId} {args : Array Value} {below : List Frame} {meth : Method} {c : Code} {H : Heap} {locs : List Loc} {cells slots : Nat} {Q : State → Prop} {cc : ByteArray} {pc : Nat} {ls : Array Slot} {rest : List Value} {D : va_G} {a : Nat} {cI cJ cZ : ClassId} {ws : va_W} {A : Nat → Prop} {H0 : Heap} (hx : p.tables.exec = Jvm.exec) (hb : c.code = cc) (hts : ∀ w ∈ aw, w.before args s = true) (hown : s.vm.findClass RX9 = some m.cls) (hK : va_K D vwCl (ty3 cI cJ cZ) s) (hP : va_P D vwCl ws H) (hD : va_D A ws) (hS : va_S A H0 H locs) {q0 : Nat} {v0 v1 v2 v3 v4 v5 v6 v7 v8 v9 v10 v11 v12 v13 v14 v15 v16 v17 v18 v19 v20 v21 v22 v23 v24 v25 v26 v27 v : Value} (he : ws[q0]? = some (a, .inr (9, [v0, v1, v2, v3, v4, v5, v6, v7, v8, v9, v10, v11, v12, v13, v14, v15, v16, v17, v18, v19, v20, v21, v22, v23, v24, v25, v26, v27]))) (hn : narrow .int v = v) (hf : fits .int v = true) (hdg : decode cc pc = .ok (.putfield 107, 3)) (kk : ∀ (ws' : va_W) (H1 : Heap) (locs1 : List Loc), va_P D vwCl ws' H1 → va_D A ws' → (∀ j : Nat, j ≠ q0 → ws'[j]? = ws[j]?) → ws'[q0]? = some (a, .inr (9, [v0, v1, v2, v3, v4, v5, v6, v7, v8, v9, v10, v11, v12, v13, v14, v, v16, v17, v18, v19, v20, v21, v22, v23, v24, v25, v26, v27])) → va_S A H0 H1 locs1 → W p l e R s m args below meth c H1 locs1 cells slots Q (F0 m (pc + 3) ls rest)) : W p l e R s m args below meth c H locs cells slots Q (F0 m pc ls (v :: .ref a :: rest)) :=
  va_put (ci := 9) (v := v) (ty := .int) (C := RX9) (T := TX9) (N := 28) hx hb hts inqX9 tyX9 tyX9_ok nmX9 hown hK hP hD hS q0 he rfl 15 (by decide) (hts _ fl_X9_107) (fun _ h9 => h9) rfl (by decide +kernel) hn hf (Nat.le_of_ble_eq_true rfl) hdg (fun H1 locs1 hP1 hD1 hS1 => kk _ H1 locs1 hP1 hD1 (fun j hj => st_ne hj rfl) (st_eq he) hS1)
theorem fl_X9_110 : Cond.fieldLink RX9 110 "AHandGoesUpModel" "wrongs" "I" ∈ aw := aw_at 812 (by decide +kernel) (by decide +kernel)
theorem gf_X9_110 {p : Program} {l : Launch} {e : Env} {R : Room} {s : State} {m : MethodId} {args : Array Value} {below : List Frame} {meth : Method} {c : Code} {H : Heap} {locs : List Loc} {cells slots : Nat} {Q : State → Prop} {cc : ByteArray} {pc : Nat} {ls : Array Slot} {rest : List Value} {D : va_G} {a : Nat} {cI cJ cZ : ClassId} {ws : va_W} (hx : p.tables.exec = Jvm.exec) (hb : c.code = cc) (hts : ∀ w ∈ aw, w.before args s = true) (hown : s.vm.findClass RX9 = some m.cls) (hK : va_K D vwCl (ty3 cI cJ cZ) s) (hP : va_P D vwCl ws H) {q0 : Nat} {v0 v1 v2 v3 v4 v5 v6 v7 v8 v9 v10 v11 v12 v13 v14 v15 v16 v17 v18 v19 v20 v21 v22 v23 v24 v25 v26 v27 : Value} (he : ws[q0]? = some (a, .inr (9, [v0, v1, v2, v3, v4, v5, v6, v7, v8, v9, v10, v11, v12, v13, v14, v15, v16, v17, v18, v19, v20, v21, v22, v23, v24, v25, v26, v27]))) (hdg : decode cc pc = .ok (.getfield 110, 3)) (kk : W p l e R s m args below meth c H locs cells slots Q (F0 m (pc + 3) ls (v16 :: rest))) : W p l e R s m args below meth c H locs cells slots Q (F0 m pc ls (.ref a :: rest)) :=
  va_get (ci := 9) (v := v16) (C := RX9) (T := TX9) (N := 28) hx hb hts inqX9 hown hK hP q0 he rfl 16 (by decide) (hts _ fl_X9_110) (fun _ h9 => h9) rfl hdg kk
theorem pf_X9_110 {p : Program} {l : Launch} {e : Env} {R : Room} {s : State} {m : MethodId} {args : Array Value} {below : List Frame} {meth : Method} {c : Code} {H : Heap} {locs : List Loc} {cells slots : Nat} {Q : State → Prop} {cc : ByteArray} {pc : Nat} {ls : Array Slot} {rest : List Value} {D : va_G} {a : Nat} {cI cJ cZ : ClassId} {ws : va_W} {A : Nat → Prop} {H0 : Heap} (hx : p.tables.exec = Jvm.exec) (hb : c.code = cc) (hts : ∀ w ∈ aw, w.before args s = true) (hown : s.vm.findClass RX9 = some m.cls) (hK : va_K D vwCl (ty3 cI cJ cZ) s) (hP : va_P D vwCl ws H) (hD : va_D A ws) (hS : va_S A H0 H locs) {q0 : Nat} {v0 v1 v2 v3 v4 v5 v6 v7 v8 v9 v10 v11 v12 v13 v14 v15 v16 v17 v18 v19 v20 v21 v22 v23 v24 v25 v26 v27 v : Value} (he : ws[q0]? = some (a, .inr (9, [v0, v1, v2, v3, v4, v5, v6, v7, v8, v9, v10, v11, v12, v13, v14, v15, v16, v17, v18, v19, v20, v21, v22, v23, v24, v25, v26, v27]))) (hn : narrow .int v = v) (hf : fits .int v = true) (hdg : decode cc pc = .ok (.putfield 110, 3)) (kk : ∀ (ws' : va_W) (H1 : Heap) (locs1 : List Loc), va_P D vwCl ws' H1 → va_D A ws' → (∀ j : Nat, j ≠ q0 → ws'[j]? = ws[j]?) → ws'[q0]? = some (a, .inr (9, [v0, v1, v2, v3, v4, v5, v6, v7, v8, v9, v10, v11, v12, v13, v14, v15, v, v17, v18, v19, v20, v21, v22, v23, v24, v25, v26, v27])) → va_S A H0 H1 locs1 → W p l e R s m args below meth c H1 locs1 cells slots Q (F0 m (pc + 3) ls rest)) : W p l e R s m args below meth c H locs cells slots Q (F0 m pc ls (v :: .ref a :: rest)) :=
  va_put (ci := 9) (v := v) (ty := .int) (C := RX9) (T := TX9) (N := 28) hx hb hts inqX9 tyX9 tyX9_ok nmX9 hown hK hP hD hS q0 he rfl 16 (by decide) (hts _ fl_X9_110) (fun _ h9 => h9) rfl (by decide +kernel) hn hf (Nat.le_of_ble_eq_true rfl) hdg (fun H1 locs1 hP1 hD1 hS1 => kk _ H1 locs1 hP1 hD1 (fun j hj => st_ne hj rfl) (st_eq he) hS1)
theorem fl_X9_198 : Cond.fieldLink RX9 198 "AHandGoesUpModel" "tapes" "I" ∈ aw := aw_at 813 (by decide +kernel) (by decide +kernel)
theorem gf_X9_198 {p : Program} {l : Launch} {e : Env} {R : Room} {s : State} {m : MethodId} {args : Array Value} {below : List Frame} {meth : Method} {c : Code} {H : Heap} {locs : List Loc} {cells slots : Nat} {Q : State → Prop} {cc : ByteArray} {pc : Nat} {ls : Array Slot} {rest : List Value} {D : va_G} {a : Nat} {cI cJ cZ : ClassId} {ws : va_W} (hx : p.tables.exec = Jvm.exec) (hb : c.code = cc) (hts : ∀ w ∈ aw, w.before args s = true) (hown : s.vm.findClass RX9 = some m.cls) (hK : va_K D vwCl (ty3 cI cJ cZ) s) (hP : va_P D vwCl ws H) {q0 : Nat} {v0 v1 v2 v3 v4 v5 v6 v7 v8 v9 v10 v11 v12 v13 v14 v15 v16 v17 v18 v19 v20 v21 v22 v23 v24 v25 v26 v27 : Value} (he : ws[q0]? = some (a, .inr (9, [v0, v1, v2, v3, v4, v5, v6, v7, v8, v9, v10, v11, v12, v13, v14, v15, v16, v17, v18, v19, v20, v21, v22, v23, v24, v25, v26, v27]))) (hdg : decode cc pc = .ok (.getfield 198, 3)) (kk : W p l e R s m args below meth c H locs cells slots Q (F0 m (pc + 3) ls (v17 :: rest))) : W p l e R s m args below meth c H locs cells slots Q (F0 m pc ls (.ref a :: rest)) :=
  va_get (ci := 9) (v := v17) (C := RX9) (T := TX9) (N := 28) hx hb hts inqX9 hown hK hP q0 he rfl 17 (by decide) (hts _ fl_X9_198) (fun _ h9 => h9) rfl hdg kk
theorem pf_X9_198 {p : Program} {l : Launch} {e : Env} {R : Room} {s : State} {m : MethodId} {args : Array Value} {below : List Frame} {meth : Method} {c : Code} {H : Heap} {locs : List Loc} {cells slots : Nat} {Q : State → Prop} {cc : ByteArray} {pc : Nat} {ls : Array Slot} {rest : List Value} {D : va_G} {a : Nat} {cI cJ cZ : ClassId} {ws : va_W} {A : Nat → Prop} {H0 : Heap} (hx : p.tables.exec = Jvm.exec) (hb : c.code = cc) (hts : ∀ w ∈ aw, w.before args s = true) (hown : s.vm.findClass RX9 = some m.cls) (hK : va_K D vwCl (ty3 cI cJ cZ) s) (hP : va_P D vwCl ws H) (hD : va_D A ws) (hS : va_S A H0 H locs) {q0 : Nat} {v0 v1 v2 v3 v4 v5 v6 v7 v8 v9 v10 v11 v12 v13 v14 v15 v16 v17 v18 v19 v20 v21 v22 v23 v24 v25 v26 v27 v : Value} (he : ws[q0]? = some (a, .inr (9, [v0, v1, v2, v3, v4, v5, v6, v7, v8, v9, v10, v11, v12, v13, v14, v15, v16, v17, v18, v19, v20, v21, v22, v23, v24, v25, v26, v27]))) (hn : narrow .int v = v) (hf : fits .int v = true) (hdg : decode cc pc = .ok (.putfield 198, 3)) (kk : ∀ (ws' : va_W) (H1 : Heap) (locs1 : List Loc), va_P D vwCl ws' H1 → va_D A ws' → (∀ j : Nat, j ≠ q0 → ws'[j]? = ws[j]?) → ws'[q0]? = some (a, .inr (9, [v0, v1, v2, v3, v4, v5, v6, v7, v8, v9, v10, v11, v12, v13, v14, v15, v16, v, v18, v19, v20, v21, v22, v23, v24, v25, v26, v27])) → va_S A H0 H1 locs1 → W p l e R s m args below meth c H1 locs1 cells slots Q (F0 m (pc + 3) ls rest)) : W p l e R s m args below meth c H locs cells slots Q (F0 m pc ls (v :: .ref a :: rest)) :=
  va_put (ci := 9) (v := v) (ty := .int) (C := RX9) (T := TX9) (N := 28) hx hb hts inqX9 tyX9 tyX9_ok nmX9 hown hK hP hD hS q0 he rfl 17 (by decide) (hts _ fl_X9_198) (fun _ h9 => h9) rfl (by decide +kernel) hn hf (Nat.le_of_ble_eq_true rfl) hdg (fun H1 locs1 hP1 hD1 hS1 => kk _ H1 locs1 hP1 hD1 (fun j hj => st_ne hj rfl) (st_eq he) hS1)
theorem fl_X9_215 : Cond.fieldLink RX9 215 "AHandGoesUpModel" "trials" "I" ∈ aw := aw_at 816 (by decide +kernel) (by decide +kernel)
theorem gf_X9_215 {p : Program} {l : Launch} {e : Env} {R : Room} {s : State} {m : MethodId} {args : Array Value} {below : List Frame} {meth : Method} {c : Code} {H : Heap} {locs : List Loc} {cells slots : Nat} {Q : State → Prop} {cc : ByteArray} {pc : Nat} {ls : Array Slot} {rest : List Value} {D : va_G} {a : Nat} {cI cJ cZ : ClassId} {ws : va_W} (hx : p.tables.exec = Jvm.exec) (hb : c.code = cc) (hts : ∀ w ∈ aw, w.before args s = true) (hown : s.vm.findClass RX9 = some m.cls) (hK : va_K D vwCl (ty3 cI cJ cZ) s) (hP : va_P D vwCl ws H) {q0 : Nat} {v0 v1 v2 v3 v4 v5 v6 v7 v8 v9 v10 v11 v12 v13 v14 v15 v16 v17 v18 v19 v20 v21 v22 v23 v24 v25 v26 v27 : Value} (he : ws[q0]? = some (a, .inr (9, [v0, v1, v2, v3, v4, v5, v6, v7, v8, v9, v10, v11, v12, v13, v14, v15, v16, v17, v18, v19, v20, v21, v22, v23, v24, v25, v26, v27]))) (hdg : decode cc pc = .ok (.getfield 215, 3)) (kk : W p l e R s m args below meth c H locs cells slots Q (F0 m (pc + 3) ls (v20 :: rest))) : W p l e R s m args below meth c H locs cells slots Q (F0 m pc ls (.ref a :: rest)) :=
  va_get (ci := 9) (v := v20) (C := RX9) (T := TX9) (N := 28) hx hb hts inqX9 hown hK hP q0 he rfl 20 (by decide) (hts _ fl_X9_215) (fun _ h9 => h9) rfl hdg kk
theorem pf_X9_215 {p : Program} {l : Launch} {e : Env} {R : Room} {s : State} {m : MethodId} {args : Array Value} {below : List Frame} {meth : Method} {c : Code} {H : Heap} {locs : List Loc} {cells slots : Nat} {Q : State → Prop} {cc : ByteArray} {pc : Nat} {ls : Array Slot} {rest : List Value} {D : va_G} {a : Nat} {cI cJ cZ : ClassId} {ws : va_W} {A : Nat → Prop} {H0 : Heap} (hx : p.tables.exec = Jvm.exec) (hb : c.code = cc) (hts : ∀ w ∈ aw, w.before args s = true) (hown : s.vm.findClass RX9 = some m.cls) (hK : va_K D vwCl (ty3 cI cJ cZ) s) (hP : va_P D vwCl ws H) (hD : va_D A ws) (hS : va_S A H0 H locs) {q0 : Nat} {v0 v1 v2 v3 v4 v5 v6 v7 v8 v9 v10 v11 v12 v13 v14 v15 v16 v17 v18 v19 v20 v21 v22 v23 v24 v25 v26 v27 v : Value} (he : ws[q0]? = some (a, .inr (9, [v0, v1, v2, v3, v4, v5, v6, v7, v8, v9, v10, v11, v12, v13, v14, v15, v16, v17, v18, v19, v20, v21, v22, v23, v24, v25, v26, v27]))) (hn : narrow .int v = v) (hf : fits .int v = true) (hdg : decode cc pc = .ok (.putfield 215, 3)) (kk : ∀ (ws' : va_W) (H1 : Heap) (locs1 : List Loc), va_P D vwCl ws' H1 → va_D A ws' → (∀ j : Nat, j ≠ q0 → ws'[j]? = ws[j]?) → ws'[q0]? = some (a, .inr (9, [v0, v1, v2, v3, v4, v5, v6, v7, v8, v9, v10, v11, v12, v13, v14, v15, v16, v17, v18, v19, v, v21, v22, v23, v24, v25, v26, v27])) → va_S A H0 H1 locs1 → W p l e R s m args below meth c H1 locs1 cells slots Q (F0 m (pc + 3) ls rest)) : W p l e R s m args below meth c H locs cells slots Q (F0 m pc ls (v :: .ref a :: rest)) :=
  va_put (ci := 9) (v := v) (ty := .int) (C := RX9) (T := TX9) (N := 28) hx hb hts inqX9 tyX9 tyX9_ok nmX9 hown hK hP hD hS q0 he rfl 20 (by decide) (hts _ fl_X9_215) (fun _ h9 => h9) rfl (by decide +kernel) hn hf (Nat.le_of_ble_eq_true rfl) hdg (fun H1 locs1 hP1 hD1 hS1 => kk _ H1 locs1 hP1 hD1 (fun j hj => st_ne hj rfl) (st_eq he) hS1)
end
section
def FX8_outside (p1 : Int32) (p2 : Int32) (p3 : Int32) : Bool :=
  if p1 < p2 then true else (if p1 ≤ p3 then false else true)
def rm_X8_outside : Room := { frames := 0, cells := 0, slots := 0, locals := 0 }
set_option maxHeartbeats 4000000 in
set_option maxRecDepth 100000 in
theorem c_X8_outside (l : Launch) (D : va_G) (cI cJ cZ : ClassId) (a : Nat → Nat) (ws0 : va_W)   (p1 : Int32) (p2 : Int32) (p3 : Int32) (u : Bool) (hF : FX8_outside p1 p2 p3 = u) : Met l yX8_outside (wq yX8_outside cX8_outside 3 (some .boolean)) rm_X8_outside (Pq [.int p1, .int p2, .int p3] D cI cJ cZ ws0) (Qq (some (.int (bi u)))) 0 0 (fun _ => False) := by
  refine mq_of (by decide) (Nat.le_of_ble_eq_true rfl) (fun p e s m args below meth c ls Q hQ X _ hP hl => ?_)
  obtain ⟨hx, hb, hr, hml, hown, hts, hlk, hK, hN⟩ := id X
  have hown : s.vm.findClass RX8 = some m.cls := hown
  have hl : lv_has ls 3 [(0, .int p1), (1, .int p2), (2, .int p3)] := hl
  unfold FX8_outside at hF
  refine lv_iload_n hx hb dX8_outside_0 rfl (lv_at hl 0 rfl) ?_
  refine lv_iload_n hx hb dX8_outside_1 rfl (lv_at hl 1 rfl) ?_
  refine lv_icmp_lt (tgt := 10) hx hb dX8_outside_2 (by decide) (fun c1 => ?_) (fun c1 => ?_)
  · replace hF := (if_pos c1).symm.trans hF
    refine lv_iconst (v := (1 : Int32)) hx hb dX8_outside_10 (by decide) ?_
    refine lv_goto (tgt := 15) hx hb dX8_outside_11 (by decide) ?_
    subst hF
    rw [hQ]
    exact rt_z (b := true) X dX8_outside_15
  · replace hF := (if_neg c1).symm.trans hF
    refine lv_iload_n hx hb dX8_outside_5 rfl (lv_at hl 0 rfl) ?_
    refine lv_iload_n hx hb dX8_outside_6 rfl (lv_at hl 2 rfl) ?_
    refine lv_icmp_le (tgt := 14) hx hb dX8_outside_7 (by decide) (fun c2 => ?_) (fun c2 => ?_)
    · replace hF := (if_pos c2).symm.trans hF
      refine lv_iconst (v := (0 : Int32)) hx hb dX8_outside_14 (by decide) ?_
      subst hF
      rw [hQ]
      exact rt_z (b := false) X dX8_outside_15
    · replace hF := (if_neg c2).symm.trans hF
      refine lv_iconst (v := (1 : Int32)) hx hb dX8_outside_10 (by decide) ?_
      refine lv_goto (tgt := 15) hx hb dX8_outside_11 (by decide) ?_
      subst hF
      rw [hQ]
      exact rt_z (b := true) X dX8_outside_15
def FX8_put (p_f : Nat → Int32) (n : Nat) (p2 : Int32) (p3 : Int32) : Option ((Nat → Int32)) :=
  if p2 < 0 then (some p_f) else (if (nI n) ≤ p2 then (some p_f) else (if p2 < 0 ∨ n ≤ p2.toNatClampNeg then none else some (upd p_f p2.toNatClampNeg p3)))
def gput (f : Nat → Int32) (n : Nat) (i v : Int32) : Nat → Int32 := if i < 0 then f else if nI n ≤ i then f else upd f i.toNatClampNeg v
theorem FX8_put_eq (f : Nat → Int32) (n : Nat) (i v : Int32) (hn : n < 2147483648) : FX8_put f n i v = some (gput f n i v) := by
  unfold FX8_put gput
  rcases pk_ix i hn with h | h | ⟨j, hj, rfl⟩
  · rw [if_pos h, if_pos h]
  · by_cases h0 : i < 0
    · rw [if_pos h0, if_pos h0]
    · rw [if_neg h0, if_neg h0, if_pos h, if_pos h]
  · have h2 : j < 2147483648 := Nat.lt_trans hj hn
    rw [if_neg (nI_pos h2), if_neg (nI_pos h2), if_neg (nI_ge hj hn), if_neg (nI_ge hj hn), if_neg (vp_in_nI hj hn)]
def rm_X8_put : Room := { frames := 0, cells := 0, slots := 0, locals := 0 }
set_option maxHeartbeats 4000000 in
set_option maxRecDepth 100000 in
theorem c_X8_put (l : Launch) (D : va_G) (cI cJ cZ : ClassId) (a : Nat → Nat) (ws0 : va_W) (A : Nat → Prop) (k : Nat) (p_f : Nat → Int32) (n : Nat) (p2 : Int32) (p3 : Int32) (u : (Nat → Int32)) (hF : FX8_put p_f n p2 p3 = some u) (z_k0 : ws0[k]? = some (a k, .inl (cI, n, .inl p_f))) (hD : va_D A ws0) : Met l yX8_put (wq yX8_put cX8_put 3 none) rm_X8_put (Pq [.ref (a k), .int p2, .int p3] D cI cJ cZ ws0) (Qw D A ws0 [k] none (fun w => w[k]? = some (a k, .inl (cI, n, .inl u)))) 0 0 A := by
  refine mq_of (by decide) (Nat.le_of_ble_eq_true rfl) (fun p e s m args below meth c ls Q hQ X _ hP hl => ?_)
  obtain ⟨hx, hb, hr, hml, hown, hts, hlk, hK, hN⟩ := id X
  have hown : s.vm.findClass RX8 = some m.cls := hown
  have hl : lv_has ls 3 [(0, .ref (a k)), (1, .int p2), (2, .int p3)] := hl
  have hS : va_S A s.heap s.heap [] := va_S.rf
  have hs : ∀ j : Nat, j ∉ [k] → ws0[j]? = ws0[j]? := fun _ _ => rfl
  have h_k0 := z_k0
  unfold FX8_put at hF
  refine lv_iload_n hx hb dX8_put_0 rfl (lv_at hl 1 rfl) ?_
  refine lv_if_lt (tgt := 14) hx hb dX8_put_1 (by decide) (fun c1 => ?_) (fun c1 => ?_)
  · replace hF := (if_pos c1).symm.trans hF
    obtain rfl := Option.some.inj hF
    rw [hQ]
    exact rw_v X hS hP hD hs h_k0 dX8_put_14
  · replace hF := (if_neg c1).symm.trans hF
    refine lv_iload_n hx hb dX8_put_4 rfl (lv_at hl 1 rfl) ?_
    refine lv_aload_n hx hb dX8_put_5 rfl (lv_at hl 0 rfl) ?_
    refine va_alen (v := nI n) hx hb hK hP k 0 h_k0 rfl rfl dX8_put_6 ?_
    refine lv_icmp_ge (tgt := 14) hx hb dX8_put_7 (by decide) (fun c2 => ?_) (fun c2 => ?_)
    · replace hF := (if_pos c2).symm.trans hF
      obtain rfl := Option.some.inj hF
      rw [hQ]
      exact rw_v X hS hP hD hs h_k0 dX8_put_14
    · replace hF := (if_neg c2).symm.trans hF
      refine lv_aload_n hx hb dX8_put_10 rfl (lv_at hl 0 rfl) ?_
      refine lv_iload_n hx hb dX8_put_11 rfl (lv_at hl 1 rfl) ?_
      refine lv_iload_n hx hb dX8_put_12 rfl (lv_at hl 2 rfl) ?_
      obtain ⟨hg3, hF⟩ := gd_some hF
      refine ast_i hx hb hK hP hD hS h_k0 hg3 dX8_put_13 (fun w4 H locs hP hD hk hc hS => ?_)
      have h_k0 : w4[k]? = some (a k, .inl (cI, n, .inl (upd p_f p2.toNatClampNeg p3))) := hc
      replace hs := sm_k hk (by simp) hs
      obtain rfl := Option.some.inj hF
      rw [hQ]
      exact rw_v X hS hP hD hs h_k0 dX8_put_14
theorem t_X8_put (l : Launch) (D : va_G) (cI cJ cZ : ClassId) (a : Nat → Nat) (ws0 : va_W) (A : Nat → Prop) (k : Nat) (p_f : Nat → Int32) (n : Nat) (p2 : Int32) (p3 : Int32) (u : (Nat → Int32)) (hF : gput p_f n p2 p3 = u) (z_k0 : ws0[k]? = some (a k, .inl (cI, n, .inl p_f))) (hD : va_D A ws0) (hq0 : n < 2147483648) : Met l yX8_put (wq yX8_put cX8_put 3 none) rm_X8_put (Pq [.ref (a k), .int p2, .int p3] D cI cJ cZ ws0) (Qw D A ws0 [k] none (fun w => w[k]? = some (a k, .inl (cI, n, .inl u)))) 0 0 A :=
  c_X8_put l D cI cJ cZ a ws0 A k p_f n p2 p3 u ((FX8_put_eq p_f n p2 p3 hq0).trans (congrArg some hF)) z_k0 hD
def FX6_append_S19 (p2 : Int64) (x2 : Int32) (x3 : Nat → Int32) (x4 : Int32) : Option ((Int32 × (Nat → Int32) × Int32) ⊕ ((Nat → Int32) × Int32)) :=
  if x2 < 0 then (some (.inr (x3, x4))) else (nmb (gput x3 72 x4 ((((p2.toUInt64 >>> (((8 : Int32) * x2).toInt64.toUInt64 &&& Int64.toUInt64 63)).toInt64).toInt32) &&& (255 : Int32))) fun u6 => some (.inl (x2 + (-1 : Int32), u6, x4 + (1 : Int32))))
def FX6_append (tx_length : Int32) (tx_bytes : Nat → Int32) (p1 : Int32) (p2 : Int64) : Option (Int32 × (Nat → Int32) × Int32) :=
  if (tx_length + p1) ≤ (72 : Int32) then ((itr (fun v => FX6_append_S19 p2 v.1 v.2.1 v.2.2) fu (p1 - (1 : Int32), tx_bytes, tx_length)).bind fun o9 => some (o9.2, o9.1, o9.2)) else (some ((-4 : Int32), tx_bytes, tx_length))
def rm_X6_append : Room := { frames := 1, cells := 0, slots := 0, locals := 22 }
set_option maxHeartbeats 4000000 in
set_option maxRecDepth 100000 in
theorem c_X6_append (l : Launch) (D : va_G) (cI cJ cZ : ClassId) (a : Nat → Nat) (ws0 : va_W) (A : Nat → Prop)  (tx_length : Int32) (tx_bytes : Nat → Int32) (p1 : Int32) (p2 : Int64) (u : Int32 × (Nat → Int32) × Int32) (hF : FX6_append tx_length tx_bytes p1 p2 = some u) (z1 : ws0[1]? = some (a 1, .inr (6, [.ref (a 2), .int tx_length]))) (z2 : ws0[2]? = some (a 2, .inl (cI, 72, .inl tx_bytes))) (hD : va_D A ws0) : Met l yX6_append (wq yX6_append cX6_append 5 (some .int)) rm_X6_append (Pq [.ref (a 1), .int p1, .long p2] D cI cJ cZ ws0) (Qw D A ws0 [2, 1] (some (.int u.1)) (fun w => w[2]? = some (a 2, .inl (cI, 72, .inl u.2.1)) ∧ w[1]? = some (a 1, .inr (6, [.ref (a 2), .int u.2.2])))) 0 0 A := by
  refine mq_of (by decide) (Nat.le_of_ble_eq_true rfl) (fun p e s m args below meth c ls Q hQ X _ hP hl => ?_)
  obtain ⟨hx, hb, hr, hml, hown, hts, hlk, hK, hN⟩ := id X
  have hown : s.vm.findClass RX6 = some m.cls := hown
  have hl : lv_has ls 5 [(0, .ref (a 1)), (1, .int p1), (2, .long p2)] := hl
  have hS : va_S A s.heap s.heap [] := va_S.rf
  have hs : ∀ j : Nat, j ∉ [2, 1] → ws0[j]? = ws0[j]? := fun _ _ => rfl
  have h1 := z1
  have h2 := z2
  unfold FX6_append at hF
  refine lv_aload_n hx hb dX6_append_0 rfl (lv_at hl 0 rfl) ?_
  refine gf_X6_15 hx hb hts hown hK hP h1 dX6_append_1 ?_
  refine lv_iload_n hx hb dX6_append_4 rfl (lv_at hl 1 rfl) ?_
  refine lv_iadd hx hb dX6_append_5 ?_
  refine lv_bipush (v := (72 : Int32)) hx hb dX6_append_6 (by decide) ?_
  refine lv_icmp_le (tgt := 14) hx hb dX6_append_8 (by decide) (fun c1 => ?_) (fun c1 => ?_)
  · replace hF := (if_pos c1).symm.trans hF
    refine lv_iload_n hx hb dX6_append_14 rfl (lv_at hl 1 rfl) ?_
    refine lv_iconst (v := (1 : Int32)) hx hb dX6_append_15 (by decide) ?_
    refine lv_isub hx hb dX6_append_16 ?_
    refine lv_istore (lv' := [(4, .int (p1 - (1 : Int32))), (0, .ref (a 1)), (1, .int p1), (2, .long p2)]) hx hb dX6_append_17 hl (by decide) rfl (fun ls hl => ?_)
    have hL19 : ∀ (nf : Nat) (x2 : Int32) (x3 : Nat → Int32) (x4 : Int32) (r : (Nat → Int32) × Int32), itr (fun v => FX6_append_S19 p2 v.1 v.2.1 v.2.2) nf (x2, x3, x4) = some r → ∀ (wJ : va_W) (HJ : Heap) (lJ : List Loc), va_P D vwCl wJ HJ → va_D A wJ → va_S A s.heap HJ lJ → (∀ j : Nat, j ∉ [2, 1] → wJ[j]? = ws0[j]?) → wJ[2]? = some (a 2, .inl (cI, 72, .inl x3)) → wJ[1]? = some (a 1, .inr (6, [.ref (a 2), .int x4])) → ∀ ls, lv_has ls 5 [(4, .int x2), (0, .ref (a 1)), (2, .long p2)] → (∀ o : (Nat → Int32) × Int32, r = o → ∀ (wK : va_W) (HK : Heap) (lK : List Loc), va_P D vwCl wK HK → va_D A wK → va_S A s.heap HK lK → (∀ j : Nat, j ∉ [2, 1] → wK[j]? = ws0[j]?) → wK[2]? = some (a 2, .inl (cI, 72, .inl o.1)) → wK[1]? = some (a 1, .inr (6, [.ref (a 2), .int o.2])) → ∀ ls, lv_has ls 5 [(0, .ref (a 1))] → W p l e rm_X6_append s m args below meth c HK lK 0 0 Q (F0 m 63 ls [])) → W p l e rm_X6_append s m args below meth c HJ lJ 0 0 Q (F0 m 19 ls []) := by
      intro nf
      induction nf with
      | zero => intro _ _ _ r hF; exact (itr_0 hF).elim
      | succ nf ih =>
        intro x2 x3 x4 r hF w H locs hP hD hS hs h2 h1 ls hl hE
        obtain ⟨wo, hF, hw⟩ := itr_s hF
        replace hF : FX6_append_S19 p2 x2 x3 x4 = some wo := hF
        unfold FX6_append_S19 at hF
        refine lv_iload hx hb dX6_append_19 (lv_at hl 0 rfl) ?_
        refine lv_if_lt (tgt := 63) hx hb dX6_append_21 (by decide) (fun c5 => ?_) (fun c5 => ?_)
        · replace hF := (if_pos c5).symm.trans hF
          obtain rfl := Option.some.inj hF
          obtain rfl := hw
          exact hE _ rfl _ _ _ hP hD hS hs h2 h1 ls (lv_sub hl [1] rfl)
        · replace hF := (if_neg c5).symm.trans hF
          refine lv_aload_n hx hb dX6_append_24 rfl (lv_at hl 1 rfl) ?_
          refine gf_X6_9 hx hb hts hown hK hP h1 dX6_append_25 ?_
          refine lv_aload_n hx hb dX6_append_28 rfl (lv_at hl 1 rfl) ?_
          refine gf_X6_15 hx hb hts hown hK hP h1 dX6_append_29 ?_
          refine lv_lload_n hx hb dX6_append_32 rfl (lv_at hl 2 rfl) ?_
          refine lv_bipush (v := (8 : Int32)) hx hb dX6_append_33 (by decide) ?_
          refine lv_iload hx hb dX6_append_35 (lv_at hl 0 rfl) ?_
          refine lv_imul hx hb dX6_append_37 ?_
          refine lv_lushr hx hb dX6_append_38 rfl ?_
          refine lv_l2i hx hb dX6_append_39 rfl ?_
          refine lv_sipush (v := (255 : Int32)) hx hb dX6_append_40 (by decide) ?_
          refine lv_iand hx hb dX6_append_43 ?_
          obtain ⟨u6, e_u6⟩ : ∃ q, q = gput x3 72 x4 ((((p2.toUInt64 >>> (((8 : Int32) * x2).toInt64.toUInt64 &&& Int64.toUInt64 63)).toInt64).toInt32) &&& (255 : Int32)) := ⟨_, rfl⟩
          replace hF := nm_at hF e_u6
          refine wr_v (runSN (As := [.ref (a 2), .int x4, .int ((((p2.toUInt64 >>> (((8 : Int32) * x2).toInt64.toUInt64 &&& Int64.toUInt64 63)).toInt64).toInt32) &&& (255 : Int32))]) (rest := []) X cq_X8_put lk_X6_19 (t_X8_put l D cI cJ cZ a w A 2 x3 72 x4 ((((p2.toUInt64 >>> (((8 : Int32) * x2).toInt64.toUInt64 &&& Int64.toUInt64 63)).toInt64).toInt32) &&& (255 : Int32)) u6 e_u6.symm h2 hD (by decide)) rfl rfl ⟨Nat.le_of_ble_eq_true rfl, Nat.le_of_ble_eq_true rfl⟩ hP rfl hl.1 rfl (Nat.le_of_ble_eq_true rfl) dX6_append_44 ⟨Nat.le_of_ble_eq_true rfl, Nat.le_of_ble_eq_true rfl⟩) hS (fun w7 H locs hP hD hk hB hS => ?_)
          have h2 : w7[2]? = some (a 2, .inl (cI, 72, .inl u6)) := hB
          have h1 := (hk 1 (by simp only [List.mem_cons, List.not_mem_nil, or_false, not_or]; omega)).trans h1
          replace hs := st_tr hk (fun j hj => by simp only [List.mem_cons, List.not_mem_nil, or_false] at hj ⊢; omega) hs
          refine lv_aload_n hx hb dX6_append_47 rfl (lv_at hl 1 rfl) ?_
          refine lv_dup hx hb dX6_append_48 rfl ?_
          refine gf_X6_15 hx hb hts hown hK hP h1 dX6_append_49 ?_
          refine lv_iconst (v := (1 : Int32)) hx hb dX6_append_52 (by decide) ?_
          refine lv_iadd hx hb dX6_append_53 ?_
          refine pf_X6_15 hx hb hts hown hK hP hD hS h1 rfl rfl dX6_append_54 (fun w8 H locs hP hD hk hc hS => ?_)
          have h1 : w8[1]? = some (a 1, .inr (6, [.ref (a 2), .int (x4 + (1 : Int32))])) := hc
          have h2 := (hk 2 (by omega)).trans h2
          replace hs := sm_k hk (by simp) hs
          refine lv_iinc (v := x2 + (-1 : Int32)) (lv' := [(4, .int (x2 + (-1 : Int32))), (0, .ref (a 1)), (2, .long p2)]) hx hb dX6_append_57 hl (k := 0) rfl rfl (by decide) rfl (fun ls hl => ?_)
          refine lv_goto (tgt := 19) hx hb dX6_append_60 (by decide) ?_
          obtain rfl := Option.some.inj hF
          exact ih _ _ _ _ hw _ _ _ hP hD hS hs h2 h1 ls (lv_sub hl [0, 1, 2] rfl) hE
    obtain ⟨o9, ho9, hF⟩ := bd_some hF
    refine hL19 fu (p1 - (1 : Int32)) tx_bytes tx_length o9 ho9 _ _ _ hP hD hS hs h2 h1 ls (lv_sub hl [0, 1, 3] rfl) ?_
    intro _ q_o9 w H locs hP hD hS hs h2 h1 ls hl
    subst q_o9
    refine lv_aload_n hx hb dX6_append_63 rfl (lv_at hl 0 rfl) ?_
    refine gf_X6_15 hx hb hts hown hK hP h1 dX6_append_64 ?_
    obtain rfl := Option.some.inj hF
    rw [hQ]
    exact rw_i X hS hP hD hs ⟨h2, h1⟩ dX6_append_67
  · replace hF := (if_neg c1).symm.trans hF
    refine lv_bipush (v := (-4 : Int32)) hx hb dX6_append_11 (by decide) ?_
    obtain rfl := Option.some.inj hF
    rw [hQ]
    exact rw_i X hS hP hD hs ⟨h2, h1⟩ dX6_append_13
def FX8_write (tx_length : Int32) (tx_bytes : Nat → Int32) (p1 : Int32) (p2 : Int64) : Option (Int32 × (Nat → Int32) × Int32) :=
  if (FX8_outside p1 (1 : Int32) (8 : Int32)) = true then (some ((-2 : Int32), tx_bytes, tx_length)) else ((FX6_append tx_length tx_bytes p1 p2).bind fun u2 => some (u2.1, u2.2.1, u2.2.2))
def rm_X8_write : Room := { frames := 2, cells := 0, slots := 0, locals := 46 }
set_option maxHeartbeats 4000000 in
set_option maxRecDepth 100000 in
theorem c_X8_write (l : Launch) (D : va_G) (cI cJ cZ : ClassId) (a : Nat → Nat) (ws0 : va_W) (A : Nat → Prop)  (tx_length : Int32) (tx_bytes : Nat → Int32) (p1 : Int32) (p2 : Int64) (u : Int32 × (Nat → Int32) × Int32) (hF : FX8_write tx_length tx_bytes p1 p2 = some u) (z0 : ws0[0]? = some (a 0, .inr (8, [.ref (a 1), .ref (a 3), .ref (a 13), .ref (a 16), .ref (a 22), .ref (a 25), .ref (a 28), .ref (a 33)]))) (z1 : ws0[1]? = some (a 1, .inr (6, [.ref (a 2), .int tx_length]))) (z2 : ws0[2]? = some (a 2, .inl (cI, 72, .inl tx_bytes))) (hD : va_D A ws0) : Met l yX8_write (wq yX8_write cX8_write 4 (some .int)) rm_X8_write (Pq [.ref (a 0), .int p1, .long p2] D cI cJ cZ ws0) (Qw D A ws0 [2, 1] (some (.int u.1)) (fun w => w[2]? = some (a 2, .inl (cI, 72, .inl u.2.1)) ∧ w[1]? = some (a 1, .inr (6, [.ref (a 2), .int u.2.2])))) 0 0 A := by
  refine mq_of (by decide) (Nat.le_of_ble_eq_true rfl) (fun p e s m args below meth c ls Q hQ X _ hP hl => ?_)
  obtain ⟨hx, hb, hr, hml, hown, hts, hlk, hK, hN⟩ := id X
  have hown : s.vm.findClass RX8 = some m.cls := hown
  have hl : lv_has ls 4 [(0, .ref (a 0)), (1, .int p1), (2, .long p2)] := hl
  have hS : va_S A s.heap s.heap [] := va_S.rf
  have hs : ∀ j : Nat, j ∉ [2, 1] → ws0[j]? = ws0[j]? := fun _ _ => rfl
  have h0 := z0
  have h1 := z1
  have h2 := z2
  unfold FX8_write at hF
  refine lv_iload_n hx hb dX8_write_0 rfl (lv_at hl 1 rfl) ?_
  refine lv_iconst (v := (1 : Int32)) hx hb dX8_write_1 (by decide) ?_
  refine lv_bipush (v := (8 : Int32)) hx hb dX8_write_2 (by decide) ?_
  refine rd_i (runS (As := [.int p1, .int (1 : Int32), .int (8 : Int32)]) (rest := []) X cq_X8_outside lk_X8_61 (c_X8_outside l D cI cJ cZ a ws0 p1 (1 : Int32) (8 : Int32) _ rfl ) rfl rfl ⟨Nat.le_of_ble_eq_true rfl, Nat.le_of_ble_eq_true rfl⟩ hP rfl hl.1 rfl (Nat.le_of_ble_eq_true rfl) dX8_write_4 ⟨Nat.le_of_ble_eq_true rfl, Nat.le_of_ble_eq_true rfl⟩) ?_
  refine zf_eq (tgt := 15) hx hb dX8_write_7 (by decide) (fun c1 => ?_) (fun c1 => ?_)
  · replace hF := (if_neg c1).symm.trans hF
    refine lv_aload_n hx hb dX8_write_15 rfl (lv_at hl 0 rfl) ?_
    refine gf_X8_10 hx hb hts hown hK hP h0 dX8_write_16 ?_
    refine lv_iload_n hx hb dX8_write_19 rfl (lv_at hl 1 rfl) ?_
    refine lv_lload_n hx hb dX8_write_20 rfl (lv_at hl 2 rfl) ?_
    obtain ⟨u2, hu2, hF⟩ := bd_some hF
    refine wr_i (runVN (As := [.int p1, .long p2]) (rest := []) X cq_X6_append lk_X8_65 (c_X6_append l D cI cJ cZ a ws0 A tx_length tx_bytes p1 p2 u2 hu2 h1 h2 hD) rfl rfl ⟨Nat.le_of_ble_eq_true rfl, Nat.le_of_ble_eq_true rfl⟩ hP h1 rfl rfl hl.1 rfl (Nat.le_of_ble_eq_true rfl) dX8_write_21 ⟨Nat.le_of_ble_eq_true rfl, Nat.le_of_ble_eq_true rfl⟩) hS (fun w3 H locs hP hD hk hB hS => ?_)
    obtain ⟨hB0, hB1⟩ := hB
    have h2 : w3[2]? = some (a 2, .inl (cI, 72, .inl u2.2.1)) := hB0
    have h1 : w3[1]? = some (a 1, .inr (6, [.ref (a 2), .int u2.2.2])) := hB1
    have h0 := (hk 0 (by simp only [List.mem_cons, List.not_mem_nil, or_false, not_or]; omega)).trans h0
    replace hs := st_tr hk (fun j hj => by simp only [List.mem_cons, List.not_mem_nil, or_false] at hj ⊢; omega) hs
    obtain rfl := Option.some.inj hF
    rw [hQ]
    exact rw_i X hS hP hD hs ⟨h2, h1⟩ dX8_write_24
  · replace hF := (if_pos c1).symm.trans hF
    refine lv_bipush (v := (-2 : Int32)) hx hb dX8_write_10 (by decide) ?_
    refine lv_goto (tgt := 24) hx hb dX8_write_12 (by decide) ?_
    obtain rfl := Option.some.inj hF
    rw [hQ]
    exact rw_i X hS hP hD hs ⟨h2, h1⟩ dX8_write_24
def FX6_empty (tx_length : Int32) : Int32 × Int32 :=
  (tx_length, (0 : Int32))
def rm_X6_empty : Room := { frames := 0, cells := 0, slots := 0, locals := 0 }
set_option maxHeartbeats 4000000 in
set_option maxRecDepth 100000 in
theorem c_X6_empty (l : Launch) (D : va_G) (cI cJ cZ : ClassId) (a : Nat → Nat) (ws0 : va_W) (A : Nat → Prop)  (tx_length : Int32)  (u : Int32 × Int32) (hF : FX6_empty tx_length = u) (z1 : ws0[1]? = some (a 1, .inr (6, [.ref (a 2), .int tx_length]))) (hD : va_D A ws0) : Met l yX6_empty (wq yX6_empty cX6_empty 2 (some .int)) rm_X6_empty (Pq [.ref (a 1)] D cI cJ cZ ws0) (Qw D A ws0 [1] (some (.int u.1)) (fun w => w[1]? = some (a 1, .inr (6, [.ref (a 2), .int u.2])))) 0 0 A := by
  refine mq_of (by decide) (Nat.le_of_ble_eq_true rfl) (fun p e s m args below meth c ls Q hQ X _ hP hl => ?_)
  obtain ⟨hx, hb, hr, hml, hown, hts, hlk, hK, hN⟩ := id X
  have hown : s.vm.findClass RX6 = some m.cls := hown
  have hl : lv_has ls 2 [(0, .ref (a 1))] := hl
  have hS : va_S A s.heap s.heap [] := va_S.rf
  have hs : ∀ j : Nat, j ∉ [1] → ws0[j]? = ws0[j]? := fun _ _ => rfl
  have h1 := z1
  unfold FX6_empty at hF
  refine lv_aload_n hx hb dX6_empty_0 rfl (lv_at hl 0 rfl) ?_
  refine gf_X6_15 hx hb hts hown hK hP h1 dX6_empty_1 ?_
  refine lv_istore_n (lv' := [(1, .int tx_length), (0, .ref (a 1))]) hx hb dX6_empty_4 rfl hl (by decide) rfl (fun ls hl => ?_)
  refine lv_aload_n hx hb dX6_empty_5 rfl (lv_at hl 1 rfl) ?_
  refine lv_iconst (v := (0 : Int32)) hx hb dX6_empty_6 (by decide) ?_
  refine pf_X6_15 hx hb hts hown hK hP hD hS h1 rfl rfl dX6_empty_7 (fun w1 H locs hP hD hk hc hS => ?_)
  have h1 : w1[1]? = some (a 1, .inr (6, [.ref (a 2), .int (0 : Int32)])) := hc
  replace hs := sm_k hk (by simp) hs
  refine lv_iload_n hx hb dX6_empty_10 rfl (lv_at hl 0 rfl) ?_
  subst hF
  rw [hQ]
  exact rw_i X hS hP hD hs h1 dX6_empty_11
def FX8_wipe (tx_length : Int32) : Int32 × Int32 :=
  nmb (FX6_empty tx_length) fun u1 => (u1.1, u1.2)
def rm_X8_wipe : Room := { frames := 1, cells := 0, slots := 0, locals := 21 }
set_option maxHeartbeats 4000000 in
set_option maxRecDepth 100000 in
theorem c_X8_wipe (l : Launch) (D : va_G) (cI cJ cZ : ClassId) (a : Nat → Nat) (ws0 : va_W) (A : Nat → Prop)  (tx_length : Int32)  (u : Int32 × Int32) (hF : FX8_wipe tx_length = u) (z0 : ws0[0]? = some (a 0, .inr (8, [.ref (a 1), .ref (a 3), .ref (a 13), .ref (a 16), .ref (a 22), .ref (a 25), .ref (a 28), .ref (a 33)]))) (z1 : ws0[1]? = some (a 1, .inr (6, [.ref (a 2), .int tx_length]))) (hD : va_D A ws0) : Met l yX8_wipe (wq yX8_wipe cX8_wipe 1 (some .int)) rm_X8_wipe (Pq [.ref (a 0)] D cI cJ cZ ws0) (Qw D A ws0 [1] (some (.int u.1)) (fun w => w[1]? = some (a 1, .inr (6, [.ref (a 2), .int u.2])))) 0 0 A := by
  refine mq_of (by decide) (Nat.le_of_ble_eq_true rfl) (fun p e s m args below meth c ls Q hQ X _ hP hl => ?_)
  obtain ⟨hx, hb, hr, hml, hown, hts, hlk, hK, hN⟩ := id X
  have hown : s.vm.findClass RX8 = some m.cls := hown
  have hl : lv_has ls 1 [(0, .ref (a 0))] := hl
  have hS : va_S A s.heap s.heap [] := va_S.rf
  have hs : ∀ j : Nat, j ∉ [1] → ws0[j]? = ws0[j]? := fun _ _ => rfl
  have h0 := z0
  have h1 := z1
  unfold FX8_wipe at hF
  refine lv_aload_n hx hb dX8_wipe_0 rfl (lv_at hl 0 rfl) ?_
  refine gf_X8_10 hx hb hts hown hK hP h0 dX8_wipe_1 ?_
  obtain ⟨u1, e_u1⟩ : ∃ q, q = FX6_empty tx_length := ⟨_, rfl⟩
  replace hF := nm_at hF e_u1
  refine wr_i (runVN (As := []) (rest := []) X cq_X6_empty lk_X8_69 (c_X6_empty l D cI cJ cZ a ws0 A tx_length u1 e_u1.symm h1 hD) rfl rfl ⟨Nat.le_of_ble_eq_true rfl, Nat.le_of_ble_eq_true rfl⟩ hP h1 rfl rfl hl.1 rfl (Nat.le_of_ble_eq_true rfl) dX8_wipe_4 ⟨Nat.le_of_ble_eq_true rfl, Nat.le_of_ble_eq_true rfl⟩) hS (fun w2 H locs hP hD hk hB hS => ?_)
  have h1 : w2[1]? = some (a 1, .inr (6, [.ref (a 2), .int u1.2])) := hB
  have h0 := (hk 0 (by simp only [List.mem_cons, List.not_mem_nil, or_false, not_or]; omega)).trans h0
  replace hs := st_tr hk (fun j hj => by simp only [List.mem_cons, List.not_mem_nil, or_false] at hj ⊢; omega) hs
  subst hF
  rw [hQ]
  exact rw_i X hS hP hD hs h1 dX8_wipe_7
def FX8_at (p_f : Nat → Int32) (n : Nat) (p2 : Int32) : Option (Int32) :=
  if p2 < 0 then (some (0 : Int32)) else (if (nI n) ≤ p2 then (some (0 : Int32)) else (if p2 < 0 ∨ n ≤ p2.toNatClampNeg then none else some (p_f p2.toNatClampNeg)))
def gat (f : Nat → Int32) (n : Nat) (i : Int32) : Int32 := if i < 0 then 0 else if nI n ≤ i then 0 else f i.toNatClampNeg
theorem FX8_at_eq (f : Nat → Int32) (n : Nat) (i : Int32) (hn : n < 2147483648) : FX8_at f n i = some (gat f n i) := by
  unfold FX8_at gat
  rcases pk_ix i hn with h | h | ⟨j, hj, rfl⟩
  · rw [if_pos h, if_pos h]
  · by_cases h0 : i < 0
    · rw [if_pos h0, if_pos h0]
    · rw [if_neg h0, if_neg h0, if_pos h, if_pos h]
  · have h2 : j < 2147483648 := Nat.lt_trans hj hn
    rw [if_neg (nI_pos h2), if_neg (nI_pos h2), if_neg (nI_ge hj hn), if_neg (nI_ge hj hn), if_neg (vp_in_nI hj hn)]
def rm_X8_at : Room := { frames := 0, cells := 0, slots := 0, locals := 0 }
set_option maxHeartbeats 4000000 in
set_option maxRecDepth 100000 in
theorem c_X8_at (l : Launch) (D : va_G) (cI cJ cZ : ClassId) (a : Nat → Nat) (ws0 : va_W) (k : Nat) (p_f : Nat → Int32) (n : Nat) (p2 : Int32) (u : Int32) (hF : FX8_at p_f n p2 = some u) (h_k0 : ws0[k]? = some (a k, .inl (cI, n, .inl p_f))) : Met l yX8_at (wq yX8_at cX8_at 2 (some .int)) rm_X8_at (Pq [.ref (a k), .int p2] D cI cJ cZ ws0) (Qq (some (.int u))) 0 0 (fun _ => False) := by
  refine mq_of (by decide) (Nat.le_of_ble_eq_true rfl) (fun p e s m args below meth c ls Q hQ X _ hP hl => ?_)
  obtain ⟨hx, hb, hr, hml, hown, hts, hlk, hK, hN⟩ := id X
  have hown : s.vm.findClass RX8 = some m.cls := hown
  have hl : lv_has ls 2 [(0, .ref (a k)), (1, .int p2)] := hl
  unfold FX8_at at hF
  refine lv_iload_n hx hb dX8_at_0 rfl (lv_at hl 1 rfl) ?_
  refine lv_if_lt (tgt := 16) hx hb dX8_at_1 (by decide) (fun c1 => ?_) (fun c1 => ?_)
  · replace hF := (if_pos c1).symm.trans hF
    refine lv_iconst (v := (0 : Int32)) hx hb dX8_at_16 (by decide) ?_
    obtain rfl := Option.some.inj hF
    rw [hQ]
    exact rt_i X dX8_at_17
  · replace hF := (if_neg c1).symm.trans hF
    refine lv_iload_n hx hb dX8_at_4 rfl (lv_at hl 1 rfl) ?_
    refine lv_aload_n hx hb dX8_at_5 rfl (lv_at hl 0 rfl) ?_
    refine va_alen (v := nI n) hx hb hK hP k 0 h_k0 rfl rfl dX8_at_6 ?_
    refine lv_icmp_ge (tgt := 16) hx hb dX8_at_7 (by decide) (fun c2 => ?_) (fun c2 => ?_)
    · replace hF := (if_pos c2).symm.trans hF
      refine lv_iconst (v := (0 : Int32)) hx hb dX8_at_16 (by decide) ?_
      obtain rfl := Option.some.inj hF
      rw [hQ]
      exact rt_i X dX8_at_17
    · replace hF := (if_neg c2).symm.trans hF
      refine lv_aload_n hx hb dX8_at_10 rfl (lv_at hl 0 rfl) ?_
      refine lv_iload_n hx hb dX8_at_11 rfl (lv_at hl 1 rfl) ?_
      obtain ⟨hg3, hF⟩ := gd_some hF
      refine va_iald hx hb hK hP k 0 h_k0 rfl hg3 dX8_at_12 ?_
      refine lv_goto (tgt := 17) hx hb dX8_at_13 (by decide) ?_
      obtain rfl := Option.some.inj hF
      rw [hQ]
      exact rt_i X dX8_at_17
theorem t_X8_at (l : Launch) (D : va_G) (cI cJ cZ : ClassId) (a : Nat → Nat) (ws0 : va_W) (k : Nat) (p_f : Nat → Int32) (n : Nat) (p2 : Int32) (u : Int32) (hF : gat p_f n p2 = u) (h_k0 : ws0[k]? = some (a k, .inl (cI, n, .inl p_f))) (hq0 : n < 2147483648) : Met l yX8_at (wq yX8_at cX8_at 2 (some .int)) rm_X8_at (Pq [.ref (a k), .int p2] D cI cJ cZ ws0) (Qq (some (.int u))) 0 0 (fun _ => False) :=
  c_X8_at l D cI cJ cZ a ws0 k p_f n p2 u ((FX8_at_eq p_f n p2 hq0).trans (congrArg some hF)) h_k0
def FX6_sign (tx_bytes : Nat → Int32) (p1 : Int32) : Int32 :=
  gat tx_bytes 72 p1
def rm_X6_sign : Room := { frames := 1, cells := 0, slots := 0, locals := 21 }
set_option maxHeartbeats 4000000 in
set_option maxRecDepth 100000 in
theorem c_X6_sign (l : Launch) (D : va_G) (cI cJ cZ : ClassId) (a : Nat → Nat) (ws0 : va_W)  (tx_length : Int32) (tx_bytes : Nat → Int32) (p1 : Int32) (u : Int32) (hF : FX6_sign tx_bytes p1 = u) (h1 : ws0[1]? = some (a 1, .inr (6, [.ref (a 2), .int tx_length]))) (h2 : ws0[2]? = some (a 2, .inl (cI, 72, .inl tx_bytes))) : Met l yX6_sign (wq yX6_sign cX6_sign 2 (some .int)) rm_X6_sign (Pq [.ref (a 1), .int p1] D cI cJ cZ ws0) (Qq (some (.int u))) 0 0 (fun _ => False) := by
  refine mq_of (by decide) (Nat.le_of_ble_eq_true rfl) (fun p e s m args below meth c ls Q hQ X _ hP hl => ?_)
  obtain ⟨hx, hb, hr, hml, hown, hts, hlk, hK, hN⟩ := id X
  have hown : s.vm.findClass RX6 = some m.cls := hown
  have hl : lv_has ls 2 [(0, .ref (a 1)), (1, .int p1)] := hl
  unfold FX6_sign at hF
  refine lv_aload_n hx hb dX6_sign_0 rfl (lv_at hl 0 rfl) ?_
  refine gf_X6_9 hx hb hts hown hK hP h1 dX6_sign_1 ?_
  refine lv_iload_n hx hb dX6_sign_4 rfl (lv_at hl 1 rfl) ?_
  refine rd_i (runSN (As := [.ref (a 2), .int p1]) (rest := []) X cq_X8_at lk_X6_23 (t_X8_at l D cI cJ cZ a ws0 2 tx_bytes 72 p1 _ rfl h2 (by decide)) rfl rfl ⟨Nat.le_of_ble_eq_true rfl, Nat.le_of_ble_eq_true rfl⟩ hP rfl hl.1 rfl (Nat.le_of_ble_eq_true rfl) dX6_sign_5 ⟨Nat.le_of_ble_eq_true rfl, Nat.le_of_ble_eq_true rfl⟩) ?_
  subst hF
  rw [hQ]
  exact rt_i X dX6_sign_8
def FX6_figure (tx_bytes : Nat → Int32) (p1 : Int32) : Int32 :=
  (gat tx_bytes 72 p1) - (48 : Int32)
def rm_X6_figure : Room := { frames := 1, cells := 0, slots := 0, locals := 21 }
set_option maxHeartbeats 4000000 in
set_option maxRecDepth 100000 in
theorem c_X6_figure (l : Launch) (D : va_G) (cI cJ cZ : ClassId) (a : Nat → Nat) (ws0 : va_W)  (tx_length : Int32) (tx_bytes : Nat → Int32) (p1 : Int32) (u : Int32) (hF : FX6_figure tx_bytes p1 = u) (h1 : ws0[1]? = some (a 1, .inr (6, [.ref (a 2), .int tx_length]))) (h2 : ws0[2]? = some (a 2, .inl (cI, 72, .inl tx_bytes))) : Met l yX6_figure (wq yX6_figure cX6_figure 2 (some .int)) rm_X6_figure (Pq [.ref (a 1), .int p1] D cI cJ cZ ws0) (Qq (some (.int u))) 0 0 (fun _ => False) := by
  refine mq_of (by decide) (Nat.le_of_ble_eq_true rfl) (fun p e s m args below meth c ls Q hQ X _ hP hl => ?_)
  obtain ⟨hx, hb, hr, hml, hown, hts, hlk, hK, hN⟩ := id X
  have hown : s.vm.findClass RX6 = some m.cls := hown
  have hl : lv_has ls 2 [(0, .ref (a 1)), (1, .int p1)] := hl
  unfold FX6_figure at hF
  refine lv_aload_n hx hb dX6_figure_0 rfl (lv_at hl 0 rfl) ?_
  refine gf_X6_9 hx hb hts hown hK hP h1 dX6_figure_1 ?_
  refine lv_iload_n hx hb dX6_figure_4 rfl (lv_at hl 1 rfl) ?_
  refine rd_i (runSN (As := [.ref (a 2), .int p1]) (rest := []) X cq_X8_at lk_X6_23 (t_X8_at l D cI cJ cZ a ws0 2 tx_bytes 72 p1 _ rfl h2 (by decide)) rfl rfl ⟨Nat.le_of_ble_eq_true rfl, Nat.le_of_ble_eq_true rfl⟩ hP rfl hl.1 rfl (Nat.le_of_ble_eq_true rfl) dX6_figure_5 ⟨Nat.le_of_ble_eq_true rfl, Nat.le_of_ble_eq_true rfl⟩) ?_
  refine lv_bipush (v := (48 : Int32)) hx hb dX6_figure_8 (by decide) ?_
  refine lv_isub hx hb dX6_figure_10 ?_
  subst hF
  rw [hQ]
  exact rt_i X dX6_figure_11
def FX6_seat (tx_bytes : Nat → Int32) (p1 : Int32) : Int32 :=
  (1 : Int32) <<< ((((6 : Int32) * (FX6_figure tx_bytes (p1 - (1 : Int32)))) + (FX6_figure tx_bytes p1)) &&& 31)
def rm_X6_seat : Room := { frames := 2, cells := 0, slots := 0, locals := 42 }
set_option maxHeartbeats 4000000 in
set_option maxRecDepth 100000 in
theorem c_X6_seat (l : Launch) (D : va_G) (cI cJ cZ : ClassId) (a : Nat → Nat) (ws0 : va_W)  (tx_length : Int32) (tx_bytes : Nat → Int32) (p1 : Int32) (u : Int32) (hF : FX6_seat tx_bytes p1 = u) (h1 : ws0[1]? = some (a 1, .inr (6, [.ref (a 2), .int tx_length]))) (h2 : ws0[2]? = some (a 2, .inl (cI, 72, .inl tx_bytes))) : Met l yX6_seat (wq yX6_seat cX6_seat 2 (some .int)) rm_X6_seat (Pq [.ref (a 1), .int p1] D cI cJ cZ ws0) (Qq (some (.int u))) 0 0 (fun _ => False) := by
  refine mq_of (by decide) (Nat.le_of_ble_eq_true rfl) (fun p e s m args below meth c ls Q hQ X _ hP hl => ?_)
  obtain ⟨hx, hb, hr, hml, hown, hts, hlk, hK, hN⟩ := id X
  have hown : s.vm.findClass RX6 = some m.cls := hown
  have hl : lv_has ls 2 [(0, .ref (a 1)), (1, .int p1)] := hl
  unfold FX6_seat at hF
  refine lv_iconst (v := (1 : Int32)) hx hb dX6_seat_0 (by decide) ?_
  refine lv_bipush (v := (6 : Int32)) hx hb dX6_seat_1 (by decide) ?_
  refine lv_aload_n hx hb dX6_seat_3 rfl (lv_at hl 0 rfl) ?_
  refine lv_iload_n hx hb dX6_seat_4 rfl (lv_at hl 1 rfl) ?_
  refine lv_iconst (v := (1 : Int32)) hx hb dX6_seat_5 (by decide) ?_
  refine lv_isub hx hb dX6_seat_6 ?_
  refine rd_i (runV (As := [.int (p1 - (1 : Int32))]) (rest := [.int (6 : Int32), .int (1 : Int32)]) X cq_X6_figure lk_X6_38 (c_X6_figure l D cI cJ cZ a ws0 tx_length tx_bytes (p1 - (1 : Int32)) _ rfl h1 h2) rfl rfl ⟨Nat.le_of_ble_eq_true rfl, Nat.le_of_ble_eq_true rfl⟩ hP h1 rfl rfl hl.1 rfl (Nat.le_of_ble_eq_true rfl) dX6_seat_7 ⟨Nat.le_of_ble_eq_true rfl, Nat.le_of_ble_eq_true rfl⟩) ?_
  refine lv_imul hx hb dX6_seat_10 ?_
  refine lv_aload_n hx hb dX6_seat_11 rfl (lv_at hl 0 rfl) ?_
  refine lv_iload_n hx hb dX6_seat_12 rfl (lv_at hl 1 rfl) ?_
  refine rd_i (runV (As := [.int p1]) (rest := [.int ((6 : Int32) * (FX6_figure tx_bytes (p1 - (1 : Int32)))), .int (1 : Int32)]) X cq_X6_figure lk_X6_38 (c_X6_figure l D cI cJ cZ a ws0 tx_length tx_bytes p1 _ rfl h1 h2) rfl rfl ⟨Nat.le_of_ble_eq_true rfl, Nat.le_of_ble_eq_true rfl⟩ hP h1 rfl rfl hl.1 rfl (Nat.le_of_ble_eq_true rfl) dX6_seat_13 ⟨Nat.le_of_ble_eq_true rfl, Nat.le_of_ble_eq_true rfl⟩) ?_
  refine lv_iadd hx hb dX6_seat_16 ?_
  refine lv_ishl hx hb dX6_seat_17 ?_
  subst hF
  rw [hQ]
  exact rt_i X dX6_seat_18
def FX6_fits (tx_bytes : Nat → Int32) (p1 : Int32) (p2 : Int32) : Bool :=
  if (p1 - p1 / (6 : Int32) * (6 : Int32)) = (0 : Int32) then (if (FX6_sign tx_bytes p1) = (80 : Int32) then true else (if (FX6_sign tx_bytes p1) = (70 : Int32) then true else false)) else if (p1 - p1 / (6 : Int32) * (6 : Int32)) = (1 : Int32) then (if (FX8_outside (FX6_figure tx_bytes p1) (0 : Int32) (3 : Int32)) = true then false else (if ((p2 >>> (((6 : Int32) * (FX6_figure tx_bytes p1)) &&& 31)) &&& (63 : Int32)) = (63 : Int32) then false else true)) else if (p1 - p1 / (6 : Int32) * (6 : Int32)) = (2 : Int32) then (if (FX8_outside (FX6_figure tx_bytes p1) (0 : Int32) (5 : Int32)) = true then false else (if (p2 &&& (FX6_seat tx_bytes p1)) = 0 then true else false)) else if (FX8_outside (FX6_figure tx_bytes p1) (0 : Int32) (9 : Int32)) = true then false else true
def rm_X6_fits : Room := { frames := 3, cells := 0, slots := 0, locals := 63 }
set_option maxHeartbeats 4000000 in
set_option maxRecDepth 100000 in
theorem c_X6_fits (l : Launch) (D : va_G) (cI cJ cZ : ClassId) (a : Nat → Nat) (ws0 : va_W)  (tx_length : Int32) (tx_bytes : Nat → Int32) (p1 : Int32) (p2 : Int32) (u : Bool) (hF : FX6_fits tx_bytes p1 p2 = u) (h1 : ws0[1]? = some (a 1, .inr (6, [.ref (a 2), .int tx_length]))) (h2 : ws0[2]? = some (a 2, .inl (cI, 72, .inl tx_bytes))) : Met l yX6_fits (wq yX6_fits cX6_fits 3 (some .boolean)) rm_X6_fits (Pq [.ref (a 1), .int p1, .int p2] D cI cJ cZ ws0) (Qq (some (.int (bi u)))) 0 0 (fun _ => False) := by
  refine mq_of (by decide) (Nat.le_of_ble_eq_true rfl) (fun p e s m args below meth c ls Q hQ X _ hP hl => ?_)
  obtain ⟨hx, hb, hr, hml, hown, hts, hlk, hK, hN⟩ := id X
  have hown : s.vm.findClass RX6 = some m.cls := hown
  have hl : lv_has ls 3 [(0, .ref (a 1)), (1, .int p1), (2, .int p2)] := hl
  unfold FX6_fits at hF
  refine lv_iload_n hx hb dX6_fits_0 rfl (lv_at hl 1 rfl) ?_
  refine lv_bipush (v := (6 : Int32)) hx hb dX6_fits_1 (by decide) ?_
  refine lv_irem hx hb dX6_fits_3 (by decide) ?_
  by_cases c1 : p1 - p1 / (6 : Int32) * (6 : Int32) = (0 : Int32)
  · replace hF := (if_pos c1).symm.trans hF
    refine lv_tableIn (tgt := 32) (off := 28) hx hb dX6_fits_4 (by rw [c1]; decide) (by rw [c1]; decide) (by rw [c1]; rfl) (by decide) ?_
    refine lv_aload_n hx hb dX6_fits_32 rfl (lv_at hl 0 rfl) ?_
    refine lv_iload_n hx hb dX6_fits_33 rfl (lv_at hl 1 rfl) ?_
    refine rd_i (runV (As := [.int p1]) (rest := []) X cq_X6_sign lk_X6_35 (c_X6_sign l D cI cJ cZ a ws0 tx_length tx_bytes p1 _ rfl h1 h2) rfl rfl ⟨Nat.le_of_ble_eq_true rfl, Nat.le_of_ble_eq_true rfl⟩ hP h1 rfl rfl hl.1 rfl (Nat.le_of_ble_eq_true rfl) dX6_fits_34 ⟨Nat.le_of_ble_eq_true rfl, Nat.le_of_ble_eq_true rfl⟩) ?_
    refine lv_bipush (v := (80 : Int32)) hx hb dX6_fits_37 (by decide) ?_
    refine lv_icmp_eq (tgt := 52) hx hb dX6_fits_39 (by decide) (fun c2 => ?_) (fun c2 => ?_)
    · replace hF := (if_pos c2).symm.trans hF
      refine lv_iconst (v := (1 : Int32)) hx hb dX6_fits_52 (by decide) ?_
      refine lv_goto (tgt := 57) hx hb dX6_fits_53 (by decide) ?_
      subst hF
      rw [hQ]
      exact rt_z (b := true) X dX6_fits_57
    · replace hF := (if_neg c2).symm.trans hF
      refine lv_aload_n hx hb dX6_fits_42 rfl (lv_at hl 0 rfl) ?_
      refine lv_iload_n hx hb dX6_fits_43 rfl (lv_at hl 1 rfl) ?_
      refine rd_i (runV (As := [.int p1]) (rest := []) X cq_X6_sign lk_X6_35 (c_X6_sign l D cI cJ cZ a ws0 tx_length tx_bytes p1 _ rfl h1 h2) rfl rfl ⟨Nat.le_of_ble_eq_true rfl, Nat.le_of_ble_eq_true rfl⟩ hP h1 rfl rfl hl.1 rfl (Nat.le_of_ble_eq_true rfl) dX6_fits_44 ⟨Nat.le_of_ble_eq_true rfl, Nat.le_of_ble_eq_true rfl⟩) ?_
      refine lv_bipush (v := (70 : Int32)) hx hb dX6_fits_47 (by decide) ?_
      refine lv_icmp_ne (tgt := 56) hx hb dX6_fits_49 (by decide) (fun c3 => ?_) (fun c3 => ?_)
      · replace hF := (if_neg c3).symm.trans hF
        refine lv_iconst (v := (0 : Int32)) hx hb dX6_fits_56 (by decide) ?_
        subst hF
        rw [hQ]
        exact rt_z (b := false) X dX6_fits_57
      · replace hF := (if_pos c3).symm.trans hF
        refine lv_iconst (v := (1 : Int32)) hx hb dX6_fits_52 (by decide) ?_
        refine lv_goto (tgt := 57) hx hb dX6_fits_53 (by decide) ?_
        subst hF
        rw [hQ]
        exact rt_z (b := true) X dX6_fits_57
  replace hF := (if_neg c1).symm.trans hF
  by_cases c4 : p1 - p1 / (6 : Int32) * (6 : Int32) = (1 : Int32)
  · replace hF := (if_pos c4).symm.trans hF
    refine lv_tableIn (tgt := 58) (off := 54) hx hb dX6_fits_4 (by rw [c4]; decide) (by rw [c4]; decide) (by rw [c4]; rfl) (by decide) ?_
    refine lv_aload_n hx hb dX6_fits_58 rfl (lv_at hl 0 rfl) ?_
    refine lv_iload_n hx hb dX6_fits_59 rfl (lv_at hl 1 rfl) ?_
    refine rd_i (runV (As := [.int p1]) (rest := []) X cq_X6_figure lk_X6_38 (c_X6_figure l D cI cJ cZ a ws0 tx_length tx_bytes p1 _ rfl h1 h2) rfl rfl ⟨Nat.le_of_ble_eq_true rfl, Nat.le_of_ble_eq_true rfl⟩ hP h1 rfl rfl hl.1 rfl (Nat.le_of_ble_eq_true rfl) dX6_fits_60 ⟨Nat.le_of_ble_eq_true rfl, Nat.le_of_ble_eq_true rfl⟩) ?_
    refine lv_iconst (v := (0 : Int32)) hx hb dX6_fits_63 (by decide) ?_
    refine lv_iconst (v := (3 : Int32)) hx hb dX6_fits_64 (by decide) ?_
    refine rd_i (runSN (As := [.int (FX6_figure tx_bytes p1), .int (0 : Int32), .int (3 : Int32)]) (rest := []) X cq_X8_outside lk_X6_41 (c_X8_outside l D cI cJ cZ a ws0 (FX6_figure tx_bytes p1) (0 : Int32) (3 : Int32) _ rfl ) rfl rfl ⟨Nat.le_of_ble_eq_true rfl, Nat.le_of_ble_eq_true rfl⟩ hP rfl hl.1 rfl (Nat.le_of_ble_eq_true rfl) dX6_fits_65 ⟨Nat.le_of_ble_eq_true rfl, Nat.le_of_ble_eq_true rfl⟩) ?_
    refine zf_ne (tgt := 93) hx hb dX6_fits_68 (by decide) (fun c5 => ?_) (fun c5 => ?_)
    · replace hF := (if_pos c5).symm.trans hF
      refine lv_iconst (v := (0 : Int32)) hx hb dX6_fits_93 (by decide) ?_
      subst hF
      rw [hQ]
      exact rt_z (b := false) X dX6_fits_94
    · replace hF := (if_neg c5).symm.trans hF
      refine lv_iload_n hx hb dX6_fits_71 rfl (lv_at hl 2 rfl) ?_
      refine lv_bipush (v := (6 : Int32)) hx hb dX6_fits_72 (by decide) ?_
      refine lv_aload_n hx hb dX6_fits_74 rfl (lv_at hl 0 rfl) ?_
      refine lv_iload_n hx hb dX6_fits_75 rfl (lv_at hl 1 rfl) ?_
      refine rd_i (runV (As := [.int p1]) (rest := [.int (6 : Int32), .int p2]) X cq_X6_figure lk_X6_38 (c_X6_figure l D cI cJ cZ a ws0 tx_length tx_bytes p1 _ rfl h1 h2) rfl rfl ⟨Nat.le_of_ble_eq_true rfl, Nat.le_of_ble_eq_true rfl⟩ hP h1 rfl rfl hl.1 rfl (Nat.le_of_ble_eq_true rfl) dX6_fits_76 ⟨Nat.le_of_ble_eq_true rfl, Nat.le_of_ble_eq_true rfl⟩) ?_
      refine lv_imul hx hb dX6_fits_79 ?_
      refine lv_ishr hx hb dX6_fits_80 ?_
      refine lv_bipush (v := (63 : Int32)) hx hb dX6_fits_81 (by decide) ?_
      refine lv_iand hx hb dX6_fits_83 ?_
      refine lv_bipush (v := (63 : Int32)) hx hb dX6_fits_84 (by decide) ?_
      refine lv_icmp_eq (tgt := 93) hx hb dX6_fits_86 (by decide) (fun c6 => ?_) (fun c6 => ?_)
      · replace hF := (if_pos c6).symm.trans hF
        refine lv_iconst (v := (0 : Int32)) hx hb dX6_fits_93 (by decide) ?_
        subst hF
        rw [hQ]
        exact rt_z (b := false) X dX6_fits_94
      · replace hF := (if_neg c6).symm.trans hF
        refine lv_iconst (v := (1 : Int32)) hx hb dX6_fits_89 (by decide) ?_
        refine lv_goto (tgt := 94) hx hb dX6_fits_90 (by decide) ?_
        subst hF
        rw [hQ]
        exact rt_z (b := true) X dX6_fits_94
  replace hF := (if_neg c4).symm.trans hF
  by_cases c7 : p1 - p1 / (6 : Int32) * (6 : Int32) = (2 : Int32)
  · replace hF := (if_pos c7).symm.trans hF
    refine lv_tableIn (tgt := 95) (off := 91) hx hb dX6_fits_4 (by rw [c7]; decide) (by rw [c7]; decide) (by rw [c7]; rfl) (by decide) ?_
    refine lv_aload_n hx hb dX6_fits_95 rfl (lv_at hl 0 rfl) ?_
    refine lv_iload_n hx hb dX6_fits_96 rfl (lv_at hl 1 rfl) ?_
    refine rd_i (runV (As := [.int p1]) (rest := []) X cq_X6_figure lk_X6_38 (c_X6_figure l D cI cJ cZ a ws0 tx_length tx_bytes p1 _ rfl h1 h2) rfl rfl ⟨Nat.le_of_ble_eq_true rfl, Nat.le_of_ble_eq_true rfl⟩ hP h1 rfl rfl hl.1 rfl (Nat.le_of_ble_eq_true rfl) dX6_fits_97 ⟨Nat.le_of_ble_eq_true rfl, Nat.le_of_ble_eq_true rfl⟩) ?_
    refine lv_iconst (v := (0 : Int32)) hx hb dX6_fits_100 (by decide) ?_
    refine lv_iconst (v := (5 : Int32)) hx hb dX6_fits_101 (by decide) ?_
    refine rd_i (runSN (As := [.int (FX6_figure tx_bytes p1), .int (0 : Int32), .int (5 : Int32)]) (rest := []) X cq_X8_outside lk_X6_41 (c_X8_outside l D cI cJ cZ a ws0 (FX6_figure tx_bytes p1) (0 : Int32) (5 : Int32) _ rfl ) rfl rfl ⟨Nat.le_of_ble_eq_true rfl, Nat.le_of_ble_eq_true rfl⟩ hP rfl hl.1 rfl (Nat.le_of_ble_eq_true rfl) dX6_fits_102 ⟨Nat.le_of_ble_eq_true rfl, Nat.le_of_ble_eq_true rfl⟩) ?_
    refine zf_ne (tgt := 122) hx hb dX6_fits_105 (by decide) (fun c8 => ?_) (fun c8 => ?_)
    · replace hF := (if_pos c8).symm.trans hF
      refine lv_iconst (v := (0 : Int32)) hx hb dX6_fits_122 (by decide) ?_
      subst hF
      rw [hQ]
      exact rt_z (b := false) X dX6_fits_123
    · replace hF := (if_neg c8).symm.trans hF
      refine lv_iload_n hx hb dX6_fits_108 rfl (lv_at hl 2 rfl) ?_
      refine lv_aload_n hx hb dX6_fits_109 rfl (lv_at hl 0 rfl) ?_
      refine lv_iload_n hx hb dX6_fits_110 rfl (lv_at hl 1 rfl) ?_
      refine rd_i (runV (As := [.int p1]) (rest := [.int p2]) X cq_X6_seat lk_X6_31 (c_X6_seat l D cI cJ cZ a ws0 tx_length tx_bytes p1 _ rfl h1 h2) rfl rfl ⟨Nat.le_of_ble_eq_true rfl, Nat.le_of_ble_eq_true rfl⟩ hP h1 rfl rfl hl.1 rfl (Nat.le_of_ble_eq_true rfl) dX6_fits_111 ⟨Nat.le_of_ble_eq_true rfl, Nat.le_of_ble_eq_true rfl⟩) ?_
      refine lv_iand hx hb dX6_fits_114 ?_
      refine lv_if_ne (tgt := 122) hx hb dX6_fits_115 (by decide) (fun c9 => ?_) (fun c9 => ?_)
      · replace hF := (if_neg c9).symm.trans hF
        refine lv_iconst (v := (0 : Int32)) hx hb dX6_fits_122 (by decide) ?_
        subst hF
        rw [hQ]
        exact rt_z (b := false) X dX6_fits_123
      · replace hF := (if_pos c9).symm.trans hF
        refine lv_iconst (v := (1 : Int32)) hx hb dX6_fits_118 (by decide) ?_
        refine lv_goto (tgt := 123) hx hb dX6_fits_119 (by decide) ?_
        subst hF
        rw [hQ]
        exact rt_z (b := true) X dX6_fits_123
  replace hF := (if_neg c7).symm.trans hF
  have zc1 : ¬ (p1 - p1 / (6 : Int32) * (6 : Int32)).toInt = 0 := fun q => c1 (Int32.toInt_inj.mp (q.trans (by decide)))
  have zc4 : ¬ (p1 - p1 / (6 : Int32) * (6 : Int32)).toInt = 1 := fun q => c4 (Int32.toInt_inj.mp (q.trans (by decide)))
  have zc7 : ¬ (p1 - p1 / (6 : Int32) * (6 : Int32)).toInt = 2 := fun q => c7 (Int32.toInt_inj.mp (q.trans (by decide)))
  refine lv_tableOut (tgt := 124) hx hb dX6_fits_4 (by omega) (by decide) ?_
  refine lv_aload_n hx hb dX6_fits_124 rfl (lv_at hl 0 rfl) ?_
  refine lv_iload_n hx hb dX6_fits_125 rfl (lv_at hl 1 rfl) ?_
  refine rd_i (runV (As := [.int p1]) (rest := []) X cq_X6_figure lk_X6_38 (c_X6_figure l D cI cJ cZ a ws0 tx_length tx_bytes p1 _ rfl h1 h2) rfl rfl ⟨Nat.le_of_ble_eq_true rfl, Nat.le_of_ble_eq_true rfl⟩ hP h1 rfl rfl hl.1 rfl (Nat.le_of_ble_eq_true rfl) dX6_fits_126 ⟨Nat.le_of_ble_eq_true rfl, Nat.le_of_ble_eq_true rfl⟩) ?_
  refine lv_iconst (v := (0 : Int32)) hx hb dX6_fits_129 (by decide) ?_
  refine lv_bipush (v := (9 : Int32)) hx hb dX6_fits_130 (by decide) ?_
  refine rd_i (runSN (As := [.int (FX6_figure tx_bytes p1), .int (0 : Int32), .int (9 : Int32)]) (rest := []) X cq_X8_outside lk_X6_41 (c_X8_outside l D cI cJ cZ a ws0 (FX6_figure tx_bytes p1) (0 : Int32) (9 : Int32) _ rfl ) rfl rfl ⟨Nat.le_of_ble_eq_true rfl, Nat.le_of_ble_eq_true rfl⟩ hP rfl hl.1 rfl (Nat.le_of_ble_eq_true rfl) dX6_fits_132 ⟨Nat.le_of_ble_eq_true rfl, Nat.le_of_ble_eq_true rfl⟩) ?_
  refine zf_ne (tgt := 142) hx hb dX6_fits_135 (by decide) (fun c10 => ?_) (fun c10 => ?_)
  · replace hF := (if_pos c10).symm.trans hF
    refine lv_iconst (v := (0 : Int32)) hx hb dX6_fits_142 (by decide) ?_
    subst hF
    rw [hQ]
    exact rt_z (b := false) X dX6_fits_143
  · replace hF := (if_neg c10).symm.trans hF
    refine lv_iconst (v := (1 : Int32)) hx hb dX6_fits_138 (by decide) ?_
    refine lv_goto (tgt := 143) hx hb dX6_fits_139 (by decide) ?_
    subst hF
    rw [hQ]
    exact rt_z (b := true) X dX6_fits_143
def FX6_firstFault_S4 (tx_length : Int32) (tx_bytes : Nat → Int32) (x1 : Int32) (x2 : Int32) : Option ((Int32 × Int32) ⊕ ((Unit) ⊕ Int32)) :=
  if tx_length ≤ x2 then (some (.inr (.inl ()))) else (if (FX6_fits tx_bytes x2 x1) = true then (if (x2 - x2 / (6 : Int32) * (6 : Int32)) = (2 : Int32) then (some (.inl (x1 ||| (FX6_seat tx_bytes x2), x2 + (1 : Int32)))) else (some (.inl (x1, x2 + (1 : Int32))))) else (some (.inr (.inr x2))))
def FX6_firstFault (tx_length : Int32) (tx_bytes : Nat → Int32) : Option (Int32) :=
  (itr (fun v => FX6_firstFault_S4 tx_length tx_bytes v.1 v.2) fu ((0 : Int32), (0 : Int32))).bind fun o6 => Sum.elim (fun o7 => (if (tx_length - tx_length / (6 : Int32) * (6 : Int32)) = 0 then (some (-9 : Int32)) else (some tx_length))) (fun q => some q) o6
def rm_X6_firstFault : Room := { frames := 4, cells := 0, slots := 0, locals := 85 }
set_option maxHeartbeats 4000000 in
set_option maxRecDepth 100000 in
theorem c_X6_firstFault (l : Launch) (D : va_G) (cI cJ cZ : ClassId) (a : Nat → Nat) (ws0 : va_W)  (tx_length : Int32) (tx_bytes : Nat → Int32)  (u : Int32) (hF : FX6_firstFault tx_length tx_bytes = some u) (h1 : ws0[1]? = some (a 1, .inr (6, [.ref (a 2), .int tx_length]))) (h2 : ws0[2]? = some (a 2, .inl (cI, 72, .inl tx_bytes))) : Met l yX6_firstFault (wq yX6_firstFault cX6_firstFault 3 (some .int)) rm_X6_firstFault (Pq [.ref (a 1)] D cI cJ cZ ws0) (Qq (some (.int u))) 0 0 (fun _ => False) := by
  refine mq_of (by decide) (Nat.le_of_ble_eq_true rfl) (fun p e s m args below meth c ls Q hQ X _ hP hl => ?_)
  obtain ⟨hx, hb, hr, hml, hown, hts, hlk, hK, hN⟩ := id X
  have hown : s.vm.findClass RX6 = some m.cls := hown
  have hl : lv_has ls 3 [(0, .ref (a 1))] := hl
  unfold FX6_firstFault at hF
  refine lv_iconst (v := (0 : Int32)) hx hb dX6_firstFault_0 (by decide) ?_
  refine lv_istore_n (lv' := [(1, .int (0 : Int32)), (0, .ref (a 1))]) hx hb dX6_firstFault_1 rfl hl (by decide) rfl (fun ls hl => ?_)
  refine lv_iconst (v := (0 : Int32)) hx hb dX6_firstFault_2 (by decide) ?_
  refine lv_istore_n (lv' := [(2, .int (0 : Int32)), (1, .int (0 : Int32)), (0, .ref (a 1))]) hx hb dX6_firstFault_3 rfl hl (by decide) rfl (fun ls hl => ?_)
  have hL4 : ∀ (nf : Nat) (x1 : Int32) (x2 : Int32) (r : (Unit) ⊕ Int32), itr (fun v => FX6_firstFault_S4 tx_length tx_bytes v.1 v.2) nf (x1, x2) = some r → ∀ ls, lv_has ls 3 [(2, .int x2), (1, .int x1), (0, .ref (a 1))] → (∀ o : Unit, r = .inl o → ∀ ls, lv_has ls 3 [(0, .ref (a 1))] → W p l e rm_X6_firstFault s m args below meth c s.heap [] 0 0 Q (F0 m 45 ls [])) → (∀ o : Int32, r = .inr o → ∀ ls, ls.size = 3 → W p l e rm_X6_firstFault s m args below meth c s.heap [] 0 0 Q (F0 m 22 ls [.int o])) → W p l e rm_X6_firstFault s m args below meth c s.heap [] 0 0 Q (F0 m 4 ls []) := by
    intro nf
    induction nf with
    | zero => intro _ _ r hF; exact (itr_0 hF).elim
    | succ nf ih =>
      intro x1 x2 r hF ls hl hE hE2
      obtain ⟨wo, hF, hw⟩ := itr_s hF
      replace hF : FX6_firstFault_S4 tx_length tx_bytes x1 x2 = some wo := hF
      unfold FX6_firstFault_S4 at hF
      refine lv_iload_n hx hb dX6_firstFault_4 rfl (lv_at hl 0 rfl) ?_
      refine lv_aload_n hx hb dX6_firstFault_5 rfl (lv_at hl 2 rfl) ?_
      refine gf_X6_15 hx hb hts hown hK hP h1 dX6_firstFault_6 ?_
      refine lv_icmp_ge (tgt := 45) hx hb dX6_firstFault_9 (by decide) (fun c3 => ?_) (fun c3 => ?_)
      · replace hF := (if_pos c3).symm.trans hF
        obtain rfl := Option.some.inj hF
        obtain rfl := hw
        exact hE _ rfl ls (lv_sub hl [2] rfl)
      · replace hF := (if_neg c3).symm.trans hF
        refine lv_aload_n hx hb dX6_firstFault_12 rfl (lv_at hl 2 rfl) ?_
        refine lv_iload_n hx hb dX6_firstFault_13 rfl (lv_at hl 0 rfl) ?_
        refine lv_iload_n hx hb dX6_firstFault_14 rfl (lv_at hl 1 rfl) ?_
        refine rd_i (runV (As := [.int x2, .int x1]) (rest := []) X cq_X6_fits lk_X6_27 (c_X6_fits l D cI cJ cZ a ws0 tx_length tx_bytes x2 x1 _ rfl h1 h2) rfl rfl ⟨Nat.le_of_ble_eq_true rfl, Nat.le_of_ble_eq_true rfl⟩ hP h1 rfl rfl hl.1 rfl (Nat.le_of_ble_eq_true rfl) dX6_firstFault_15 ⟨Nat.le_of_ble_eq_true rfl, Nat.le_of_ble_eq_true rfl⟩) ?_
        refine zf_ne (tgt := 23) hx hb dX6_firstFault_18 (by decide) (fun c4 => ?_) (fun c4 => ?_)
        · replace hF := (if_pos c4).symm.trans hF
          refine lv_iload_n hx hb dX6_firstFault_23 rfl (lv_at hl 0 rfl) ?_
          refine lv_bipush (v := (6 : Int32)) hx hb dX6_firstFault_24 (by decide) ?_
          refine lv_irem hx hb dX6_firstFault_26 (by decide) ?_
          refine lv_iconst (v := (2 : Int32)) hx hb dX6_firstFault_27 (by decide) ?_
          refine lv_icmp_ne (tgt := 39) hx hb dX6_firstFault_28 (by decide) (fun c5 => ?_) (fun c5 => ?_)
          · replace hF := (if_neg c5).symm.trans hF
            refine lv_iinc (v := x2 + (1 : Int32)) (lv' := [(2, .int (x2 + (1 : Int32))), (1, .int x1), (0, .ref (a 1))]) hx hb dX6_firstFault_39 hl (k := 0) rfl rfl (by decide) rfl (fun ls hl => ?_)
            refine lv_goto (tgt := 4) hx hb dX6_firstFault_42 (by decide) ?_
            obtain rfl := Option.some.inj hF
            exact ih _ _ _ hw ls (lv_sub hl [0, 1, 2] rfl) hE hE2
          · replace hF := (if_pos c5).symm.trans hF
            refine lv_iload_n hx hb dX6_firstFault_31 rfl (lv_at hl 1 rfl) ?_
            refine lv_aload_n hx hb dX6_firstFault_32 rfl (lv_at hl 2 rfl) ?_
            refine lv_iload_n hx hb dX6_firstFault_33 rfl (lv_at hl 0 rfl) ?_
            refine rd_i (runV (As := [.int x2]) (rest := [.int x1]) X cq_X6_seat lk_X6_31 (c_X6_seat l D cI cJ cZ a ws0 tx_length tx_bytes x2 _ rfl h1 h2) rfl rfl ⟨Nat.le_of_ble_eq_true rfl, Nat.le_of_ble_eq_true rfl⟩ hP h1 rfl rfl hl.1 rfl (Nat.le_of_ble_eq_true rfl) dX6_firstFault_34 ⟨Nat.le_of_ble_eq_true rfl, Nat.le_of_ble_eq_true rfl⟩) ?_
            refine lv_ior hx hb dX6_firstFault_37 ?_
            refine lv_istore_n (lv' := [(1, .int (x1 ||| (FX6_seat tx_bytes x2))), (2, .int x2), (0, .ref (a 1))]) hx hb dX6_firstFault_38 rfl hl (by decide) rfl (fun ls hl => ?_)
            refine lv_iinc (v := x2 + (1 : Int32)) (lv' := [(2, .int (x2 + (1 : Int32))), (1, .int (x1 ||| (FX6_seat tx_bytes x2))), (0, .ref (a 1))]) hx hb dX6_firstFault_39 hl (k := 1) rfl rfl (by decide) rfl (fun ls hl => ?_)
            refine lv_goto (tgt := 4) hx hb dX6_firstFault_42 (by decide) ?_
            obtain rfl := Option.some.inj hF
            exact ih _ _ _ hw ls (lv_sub hl [0, 1, 2] rfl) hE hE2
        · replace hF := (if_neg c4).symm.trans hF
          refine lv_iload_n hx hb dX6_firstFault_21 rfl (lv_at hl 0 rfl) ?_
          obtain rfl := Option.some.inj hF
          obtain rfl := hw
          exact hE2 _ rfl ls hl.1
  obtain ⟨o6, ho6, hF⟩ := bd_some hF
  refine hL4 fu (0 : Int32) (0 : Int32) o6 ho6 ls (lv_sub hl [0, 1, 2] rfl) ?_ ?_
  · intro o7 q_o6 ls hl
    subst q_o6
    refine lv_aload_n hx hb dX6_firstFault_45 rfl (lv_at hl 0 rfl) ?_
    refine gf_X6_15 hx hb hts hown hK hP h1 dX6_firstFault_46 ?_
    refine lv_bipush (v := (6 : Int32)) hx hb dX6_firstFault_49 (by decide) ?_
    refine lv_irem hx hb dX6_firstFault_51 (by decide) ?_
    refine lv_if_ne (tgt := 60) hx hb dX6_firstFault_52 (by decide) (fun c8 => ?_) (fun c8 => ?_)
    · replace hF := (if_neg c8).symm.trans hF
      refine lv_aload_n hx hb dX6_firstFault_60 rfl (lv_at hl 0 rfl) ?_
      refine gf_X6_15 hx hb hts hown hK hP h1 dX6_firstFault_61 ?_
      obtain rfl := Option.some.inj hF
      rw [hQ]
      exact rt_i X dX6_firstFault_64
    · replace hF := (if_pos c8).symm.trans hF
      refine lv_bipush (v := (-9 : Int32)) hx hb dX6_firstFault_55 (by decide) ?_
      refine lv_goto (tgt := 64) hx hb dX6_firstFault_57 (by decide) ?_
      obtain rfl := Option.some.inj hF
      rw [hQ]
      exact rt_i X dX6_firstFault_64
  · intro o q_o6 ls hls
    subst q_o6
    obtain rfl := Option.some.inj hF
    rw [hQ]
    exact rt_i X dX6_firstFault_22
def FX8_fault (tx_length : Int32) (tx_bytes : Nat → Int32) : Option (Int32) :=
  (FX6_firstFault tx_length tx_bytes).bind fun x1 => some x1
def rm_X8_fault : Room := { frames := 5, cells := 0, slots := 0, locals := 107 }
set_option maxHeartbeats 4000000 in
set_option maxRecDepth 100000 in
theorem c_X8_fault (l : Launch) (D : va_G) (cI cJ cZ : ClassId) (a : Nat → Nat) (ws0 : va_W)  (tx_length : Int32) (tx_bytes : Nat → Int32)  (u : Int32) (hF : FX8_fault tx_length tx_bytes = some u) (h0 : ws0[0]? = some (a 0, .inr (8, [.ref (a 1), .ref (a 3), .ref (a 13), .ref (a 16), .ref (a 22), .ref (a 25), .ref (a 28), .ref (a 33)]))) (h1 : ws0[1]? = some (a 1, .inr (6, [.ref (a 2), .int tx_length]))) (h2 : ws0[2]? = some (a 2, .inl (cI, 72, .inl tx_bytes))) : Met l yX8_fault (wq yX8_fault cX8_fault 1 (some .int)) rm_X8_fault (Pq [.ref (a 0)] D cI cJ cZ ws0) (Qq (some (.int u))) 0 0 (fun _ => False) := by
  refine mq_of (by decide) (Nat.le_of_ble_eq_true rfl) (fun p e s m args below meth c ls Q hQ X _ hP hl => ?_)
  obtain ⟨hx, hb, hr, hml, hown, hts, hlk, hK, hN⟩ := id X
  have hown : s.vm.findClass RX8 = some m.cls := hown
  have hl : lv_has ls 1 [(0, .ref (a 0))] := hl
  unfold FX8_fault at hF
  refine lv_aload_n hx hb dX8_fault_0 rfl (lv_at hl 0 rfl) ?_
  refine gf_X8_10 hx hb hts hown hK hP h0 dX8_fault_1 ?_
  obtain ⟨x1, hx1, hF⟩ := bd_some hF
  refine rd_i (runVN (As := []) (rest := []) X cq_X6_firstFault lk_X8_73 (c_X6_firstFault l D cI cJ cZ a ws0 tx_length tx_bytes x1 hx1 h1 h2) rfl rfl ⟨Nat.le_of_ble_eq_true rfl, Nat.le_of_ble_eq_true rfl⟩ hP h1 rfl rfl hl.1 rfl (Nat.le_of_ble_eq_true rfl) dX8_fault_4 ⟨Nat.le_of_ble_eq_true rfl, Nat.le_of_ble_eq_true rfl⟩) ?_
  obtain rfl := Option.some.inj hF
  rw [hQ]
  exact rt_i X dX8_fault_7
def FJ7_fill_53178_S5 (n : Nat) (p2 : Int32) (x1 : Int32) (x2 : Nat → Int32) : Option ((Int32 × (Nat → Int32)) ⊕ ((Nat → Int32))) :=
  if (nI n) ≤ x1 then (some (.inr x2)) else (if x1 < 0 ∨ n ≤ x1.toNatClampNeg then none else some (.inl (x1 + (1 : Int32), upd x2 x1.toNatClampNeg p2)))
def FJ7_fill_53178 (p_f : Nat → Int32) (n : Nat) (p2 : Int32) : Option ((Nat → Int32)) :=
  (itr (fun v => FJ7_fill_53178_S5 n p2 v.1 v.2) fu ((0 : Int32), p_f)).bind fun o6 => some o6
def gfill (f : Nat → Int32) (n : Nat) (v : Int32) : Nat → Int32 := fun j => if j < n then v else f j
theorem FJ7_fill_53178_eq (f : Nat → Int32) (n : Nat) (v : Int32) (hn : n < 3000) : FJ7_fill_53178 f n v = some (gfill f n v) := by
  have h1 : ∀ k, k < n → FJ7_fill_53178_S5 n v (nI k) (gfill f k v) = some (.inl (nI (k + 1), gfill f (k + 1) v)) := fun k hk => by
    unfold FJ7_fill_53178_S5
    rw [if_neg (nI_ge hk (by omega)), if_neg (vp_in_nI hk (by omega)), nI_clamp (by omega), show (1 : Int32) = nI 1 from rfl, nI_add]
    have e : upd (gfill f k v) k v = gfill f (k + 1) v := by
      funext j
      simp only [upd, gfill]
      by_cases h1 : j = k
      · rw [if_pos h1, if_pos (by omega)]
      · rw [if_neg h1]
        by_cases h2 : j < k
        · rw [if_pos h2, if_pos (by omega)]
        · rw [if_neg h2, if_neg (by omega)]
    rw [e]
  have h2 : FJ7_fill_53178_S5 n v (nI n) (gfill f n v) = some (.inr (gfill f n v)) := by
    unfold FJ7_fill_53178_S5
    rw [if_pos (nI_le (Nat.le_refl n) (by omega))]
  have h0 : ((0 : Int32), f) = (nI 0, gfill f 0 v) := by
    have e : gfill f 0 v = f := by funext j; simp [gfill]
    rw [e, nI_0]
  have h : itr (fun w => FJ7_fill_53178_S5 n v w.1 w.2) fu ((0 : Int32), f) = some (gfill f n v) := itr_cnt (g := fun k => (nI k, gfill f k v)) (e := n) (fu_le hn) h0 h1 h2
  unfold FJ7_fill_53178
  rw [h]
  rfl
def rm_J7_fill_53178 : Room := { frames := 0, cells := 0, slots := 0, locals := 0 }
set_option maxHeartbeats 4000000 in
set_option maxRecDepth 100000 in
theorem c_J7_fill_53178 (l : Launch) (D : va_G) (cI cJ cZ : ClassId) (a : Nat → Nat) (ws0 : va_W) (A : Nat → Prop) (k : Nat) (p_f : Nat → Int32) (n : Nat) (p2 : Int32) (u : (Nat → Int32)) (hF : FJ7_fill_53178 p_f n p2 = some u) (z_k0 : ws0[k]? = some (a k, .inl (cI, n, .inl p_f))) (hD : va_D A ws0) : Met l yJ7_fill_53178 (wq yJ7_fill_53178 cJ7_fill_53178 4 none) rm_J7_fill_53178 (Pq [.ref (a k), .int p2] D cI cJ cZ ws0) (Qw D A ws0 [k] none (fun w => w[k]? = some (a k, .inl (cI, n, .inl u)))) 0 0 A := by
  refine mq_of (by decide) (Nat.le_of_ble_eq_true rfl) (fun p e s m args below meth c ls Q hQ X _ hP hl => ?_)
  obtain ⟨hx, hb, hr, hml, hown, hts, hlk, hK, hN⟩ := id X
  have hown : s.vm.findClass RJ7 = some m.cls := hown
  have hl : lv_has ls 4 [(0, .ref (a k)), (1, .int p2)] := hl
  have hS : va_S A s.heap s.heap [] := va_S.rf
  have hs : ∀ j : Nat, j ∉ [k] → ws0[j]? = ws0[j]? := fun _ _ => rfl
  have h_k0 := z_k0
  unfold FJ7_fill_53178 at hF
  refine lv_iconst (v := (0 : Int32)) hx hb dJ7_fill_53178_0 (by decide) ?_
  refine lv_istore_n (lv' := [(2, .int (0 : Int32)), (0, .ref (a k)), (1, .int p2)]) hx hb dJ7_fill_53178_1 rfl hl (by decide) rfl (fun ls hl => ?_)
  refine lv_aload_n hx hb dJ7_fill_53178_2 rfl (lv_at hl 1 rfl) ?_
  refine va_alen (v := nI n) hx hb hK hP k 0 h_k0 rfl rfl dJ7_fill_53178_3 ?_
  refine lv_istore_n (lv' := [(3, .int (nI n)), (2, .int (0 : Int32)), (0, .ref (a k)), (1, .int p2)]) hx hb dJ7_fill_53178_4 rfl hl (by decide) rfl (fun ls hl => ?_)
  have hL5 : ∀ (nf : Nat) (x1 : Int32) (x2 : Nat → Int32) (r : (Nat → Int32)), itr (fun v => FJ7_fill_53178_S5 n p2 v.1 v.2) nf (x1, x2) = some r → ∀ (wJ : va_W) (HJ : Heap) (lJ : List Loc), va_P D vwCl wJ HJ → va_D A wJ → va_S A s.heap HJ lJ → (∀ j : Nat, j ∉ [k] → wJ[j]? = ws0[j]?) → wJ[k]? = some (a k, .inl (cI, n, .inl x2)) → ∀ ls, lv_has ls 4 [(3, .int (nI n)), (2, .int x1), (0, .ref (a k)), (1, .int p2)] → (∀ o : (Nat → Int32), r = o → ∀ (wK : va_W) (HK : Heap) (lK : List Loc), va_P D vwCl wK HK → va_D A wK → va_S A s.heap HK lK → (∀ j : Nat, j ∉ [k] → wK[j]? = ws0[j]?) → wK[k]? = some (a k, .inl (cI, n, .inl o)) → ∀ ls, lv_has ls 4 [] → W p l e rm_J7_fill_53178 s m args below meth c HK lK 0 0 Q (F0 m 20 ls [])) → W p l e rm_J7_fill_53178 s m args below meth c HJ lJ 0 0 Q (F0 m 5 ls []) := by
    intro nf
    induction nf with
    | zero => intro _ _ r hF; exact (itr_0 hF).elim
    | succ nf ih =>
      intro x1 x2 r hF w H locs hP hD hS hs h_k0 ls hl hE
      obtain ⟨wo, hF, hw⟩ := itr_s hF
      replace hF : FJ7_fill_53178_S5 n p2 x1 x2 = some wo := hF
      unfold FJ7_fill_53178_S5 at hF
      refine lv_iload_n hx hb dJ7_fill_53178_5 rfl (lv_at hl 1 rfl) ?_
      refine lv_iload_n hx hb dJ7_fill_53178_6 rfl (lv_at hl 0 rfl) ?_
      refine lv_icmp_ge (tgt := 20) hx hb dJ7_fill_53178_7 (by decide) (fun c3 => ?_) (fun c3 => ?_)
      · replace hF := (if_pos c3).symm.trans hF
        obtain rfl := Option.some.inj hF
        obtain rfl := hw
        exact hE _ rfl _ _ _ hP hD hS hs h_k0 ls (lv_sub hl [] rfl)
      · replace hF := (if_neg c3).symm.trans hF
        refine lv_aload_n hx hb dJ7_fill_53178_10 rfl (lv_at hl 2 rfl) ?_
        refine lv_iload_n hx hb dJ7_fill_53178_11 rfl (lv_at hl 1 rfl) ?_
        refine lv_iload_n hx hb dJ7_fill_53178_12 rfl (lv_at hl 3 rfl) ?_
        obtain ⟨hg4, hF⟩ := gd_some hF
        refine ast_i hx hb hK hP hD hS h_k0 hg4 dJ7_fill_53178_13 (fun w5 H locs hP hD hk hc hS => ?_)
        have h_k0 : w5[k]? = some (a k, .inl (cI, n, .inl (upd x2 x1.toNatClampNeg p2))) := hc
        replace hs := sm_k hk (by simp) hs
        refine lv_iinc (v := x1 + (1 : Int32)) (lv' := [(2, .int (x1 + (1 : Int32))), (3, .int (nI n)), (0, .ref (a k)), (1, .int p2)]) hx hb dJ7_fill_53178_14 hl (k := 1) rfl rfl (by decide) rfl (fun ls hl => ?_)
        refine lv_goto (tgt := 5) hx hb dJ7_fill_53178_17 (by decide) ?_
        obtain rfl := Option.some.inj hF
        exact ih _ _ _ hw _ _ _ hP hD hS hs h_k0 ls (lv_sub hl [1, 0, 2, 3] rfl) hE
  obtain ⟨o6, ho6, hF⟩ := bd_some hF
  refine hL5 fu (0 : Int32) p_f o6 ho6 _ _ _ hP hD hS hs h_k0 ls (lv_sub hl [0, 1, 2, 3] rfl) ?_
  intro _ q_o6 w H locs hP hD hS hs h_k0 ls hl
  subst q_o6
  obtain rfl := Option.some.inj hF
  rw [hQ]
  exact rw_v X hS hP hD hs h_k0 dJ7_fill_53178_20
theorem t_J7_fill_53178 (l : Launch) (D : va_G) (cI cJ cZ : ClassId) (a : Nat → Nat) (ws0 : va_W) (A : Nat → Prop) (k : Nat) (p_f : Nat → Int32) (n : Nat) (p2 : Int32) (u : (Nat → Int32)) (hF : gfill p_f n p2 = u) (z_k0 : ws0[k]? = some (a k, .inl (cI, n, .inl p_f))) (hD : va_D A ws0) (hq0 : n < 3000) : Met l yJ7_fill_53178 (wq yJ7_fill_53178 cJ7_fill_53178 4 none) rm_J7_fill_53178 (Pq [.ref (a k), .int p2] D cI cJ cZ ws0) (Qw D A ws0 [k] none (fun w => w[k]? = some (a k, .inl (cI, n, .inl u)))) 0 0 A :=
  c_J7_fill_53178 l D cI cJ cZ a ws0 A k p_f n p2 u ((FJ7_fill_53178_eq p_f n p2 hq0).trans (congrArg some hF)) z_k0 hD
def FX2_begin (p_times : Nat → Int32) : (Nat → Int32) × Int64 × Int32 × Int32 × Int32 :=
  nmb (gfill p_times 12 (0 : Int32)) fun u1 => (u1, (0 : Int64), (0 : Int32), (0 : Int32), (0 : Int32))
def rm_X2_begin : Room := { frames := 1, cells := 0, slots := 0, locals := 23 }
set_option maxHeartbeats 4000000 in
set_option maxRecDepth 100000 in
theorem c_X2_begin (l : Launch) (D : va_G) (cI cJ cZ : ClassId) (a : Nat → Nat) (ws0 : va_W) (A : Nat → Prop) (k : Nat) (p_seed : Int64) (p_questions : Int32) (p_rightOnes : Int32) (p_wrongOnes : Int32) (p_isKept : Int32) (p_times : Nat → Int32)  (u : (Nat → Int32) × Int64 × Int32 × Int32 × Int32) (hF : FX2_begin p_times = u) (z_k0 : ws0[k]? = some (a k, .inr (2, [.ref (a (k + 1)), .ref (a (k + 2)), .long p_seed, .int p_questions, .int p_rightOnes, .int p_wrongOnes, .int p_isKept]))) (z_k2 : ws0[(k + 2)]? = some (a (k + 2), .inl (cI, 12, .inl p_times))) (hD : va_D A ws0) : Met l yX2_begin (wq yX2_begin cX2_begin 1 none) rm_X2_begin (Pq [.ref (a k)] D cI cJ cZ ws0) (Qw D A ws0 [(k + 2), k] none (fun w => w[(k + 2)]? = some (a (k + 2), .inl (cI, 12, .inl u.1)) ∧ w[k]? = some (a k, .inr (2, [.ref (a (k + 1)), .ref (a (k + 2)), .long u.2.1, .int u.2.2.1, .int u.2.2.2.1, .int u.2.2.2.2, .int p_isKept])))) 0 0 A := by
  refine mq_of (by decide) (Nat.le_of_ble_eq_true rfl) (fun p e s m args below meth c ls Q hQ X _ hP hl => ?_)
  obtain ⟨hx, hb, hr, hml, hown, hts, hlk, hK, hN⟩ := id X
  have hown : s.vm.findClass RX2 = some m.cls := hown
  have hl : lv_has ls 1 [(0, .ref (a k))] := hl
  have hS : va_S A s.heap s.heap [] := va_S.rf
  have hs : ∀ j : Nat, j ∉ [(k + 2), k] → ws0[j]? = ws0[j]? := fun _ _ => rfl
  have h_k0 := z_k0
  have h_k2 := z_k2
  unfold FX2_begin at hF
  refine lv_aload_n hx hb dX2_begin_0 rfl (lv_at hl 0 rfl) ?_
  refine gf_X2_15 hx hb hts hown hK hP h_k0 dX2_begin_1 ?_
  refine lv_iconst (v := (0 : Int32)) hx hb dX2_begin_4 (by decide) ?_
  obtain ⟨u1, e_u1⟩ : ∃ q, q = gfill p_times 12 (0 : Int32) := ⟨_, rfl⟩
  replace hF := nm_at hF e_u1
  refine wr_v (runS (As := [.ref (a (k + 2)), .int (0 : Int32)]) (rest := []) X cq_J7_fill_53178 lk_X2_18 (t_J7_fill_53178 l D cI cJ cZ a ws0 A (k + 2) p_times 12 (0 : Int32) u1 e_u1.symm h_k2 hD (by decide)) rfl rfl ⟨Nat.le_of_ble_eq_true rfl, Nat.le_of_ble_eq_true rfl⟩ hP rfl hl.1 rfl (Nat.le_of_ble_eq_true rfl) dX2_begin_5 ⟨Nat.le_of_ble_eq_true rfl, Nat.le_of_ble_eq_true rfl⟩) hS (fun w2 H locs hP hD hk hB hS => ?_)
  have h_k2 : w2[(k + 2)]? = some (a (k + 2), .inl (cI, 12, .inl u1)) := hB
  have h_k0 := (hk k (by simp only [List.mem_cons, List.not_mem_nil, or_false, not_or]; omega)).trans h_k0
  replace hs := st_tr hk (fun j hj => by simp only [List.mem_cons, List.not_mem_nil, or_false] at hj ⊢; omega) hs
  refine lv_aload_n hx hb dX2_begin_8 rfl (lv_at hl 0 rfl) ?_
  refine lv_lconst (v := (0 : Int64)) hx hb dX2_begin_9 (by decide) ?_
  refine pf_X2_24 hx hb hts hown hK hP hD hS h_k0 rfl rfl dX2_begin_10 (fun w3 H locs hP hD hk hc hS => ?_)
  have h_k0 : w3[k]? = some (a k, .inr (2, [.ref (a (k + 1)), .ref (a (k + 2)), .long (0 : Int64), .int p_questions, .int p_rightOnes, .int p_wrongOnes, .int p_isKept])) := hc
  have h_k2 := (hk (k + 2) (by omega)).trans h_k2
  replace hs := sm_k hk (by simp) hs
  refine lv_aload_n hx hb dX2_begin_13 rfl (lv_at hl 0 rfl) ?_
  refine lv_iconst (v := (0 : Int32)) hx hb dX2_begin_14 (by decide) ?_
  refine pf_X2_28 hx hb hts hown hK hP hD hS h_k0 rfl rfl dX2_begin_15 (fun w4 H locs hP hD hk hc hS => ?_)
  have h_k0 : w4[k]? = some (a k, .inr (2, [.ref (a (k + 1)), .ref (a (k + 2)), .long (0 : Int64), .int (0 : Int32), .int p_rightOnes, .int p_wrongOnes, .int p_isKept])) := hc
  have h_k2 := (hk (k + 2) (by omega)).trans h_k2
  replace hs := sm_k hk (by simp) hs
  refine lv_aload_n hx hb dX2_begin_18 rfl (lv_at hl 0 rfl) ?_
  refine lv_iconst (v := (0 : Int32)) hx hb dX2_begin_19 (by decide) ?_
  refine pf_X2_32 hx hb hts hown hK hP hD hS h_k0 rfl rfl dX2_begin_20 (fun w5 H locs hP hD hk hc hS => ?_)
  have h_k0 : w5[k]? = some (a k, .inr (2, [.ref (a (k + 1)), .ref (a (k + 2)), .long (0 : Int64), .int (0 : Int32), .int (0 : Int32), .int p_wrongOnes, .int p_isKept])) := hc
  have h_k2 := (hk (k + 2) (by omega)).trans h_k2
  replace hs := sm_k hk (by simp) hs
  refine lv_aload_n hx hb dX2_begin_23 rfl (lv_at hl 0 rfl) ?_
  refine lv_iconst (v := (0 : Int32)) hx hb dX2_begin_24 (by decide) ?_
  refine pf_X2_35 hx hb hts hown hK hP hD hS h_k0 rfl rfl dX2_begin_25 (fun w6 H locs hP hD hk hc hS => ?_)
  have h_k0 : w6[k]? = some (a k, .inr (2, [.ref (a (k + 1)), .ref (a (k + 2)), .long (0 : Int64), .int (0 : Int32), .int (0 : Int32), .int (0 : Int32), .int p_isKept])) := hc
  have h_k2 := (hk (k + 2) (by omega)).trans h_k2
  replace hs := sm_k hk (by simp) hs
  subst hF
  rw [hQ]
  exact rw_v X hS hP hD hs ⟨h_k2, h_k0⟩ dX2_begin_28
def FX3_seatAll_S20 (tx_length : Int32) (tx_bytes : Nat → Int32) (x4 : Int32) (x5 : Nat → Int32) (x6 : Nat → Int32) (x7 : Nat → Int32) (x8 : Nat → Int32) (x9 : Nat → Int32) (x10 : Nat → Int32) (x11 : Nat → Int32) : Option ((Int32 × (Nat → Int32) × (Nat → Int32) × (Nat → Int32) × (Nat → Int32) × (Nat → Int32) × (Nat → Int32) × (Nat → Int32)) ⊕ ((Nat → Int32) × (Nat → Int32) × (Nat → Int32) × (Nat → Int32) × (Nat → Int32) × (Nat → Int32) × (Nat → Int32))) :=
  if (tx_length / (6 : Int32)) ≤ x4 then (some (.inr (x5, x6, x7, x8, x9, x10, x11))) else (nmb (gput x5 12 x4 (FX6_sign tx_bytes ((x4 * (6 : Int32)) + (0 : Int32)))) fun u13 => nmb (gput x6 12 x4 (FX6_figure tx_bytes ((x4 * (6 : Int32)) + (1 : Int32)))) fun u15 => nmb (gput x7 12 x4 (FX6_figure tx_bytes ((x4 * (6 : Int32)) + (2 : Int32)))) fun u17 => nmb (gput x8 12 x4 (FX6_figure tx_bytes ((x4 * (6 : Int32)) + (3 : Int32)))) fun u19 => nmb (gput x9 12 x4 (FX6_figure tx_bytes ((x4 * (6 : Int32)) + (4 : Int32)))) fun u21 => nmb (gput x10 12 x4 (FX6_figure tx_bytes ((x4 * (6 : Int32)) + (5 : Int32)))) fun u23 => nmb (gput x11 12 x4 (FX6_figure tx_bytes ((x4 * (6 : Int32)) + (5 : Int32)))) fun u25 => some (.inl (x4 + (1 : Int32), u13, u15, u17, u19, u21, u23, u25)))
def FX3_seatAll (tx_length : Int32) (le_times : Nat → Int32) (tx_bytes : Nat → Int32) (ro_letters : Nat → Int32) (ro_rows : Nat → Int32) (ro_columns : Nat → Int32) (ro_tenths : Nat → Int32) (ro_needs : Nat → Int32) (ro_toldDares : Nat → Int32) (le_dares : Nat → Int32) : Option (Int32 × (Nat → Int32) × Int64 × Int32 × Int32 × Int32 × (Nat → Int32) × (Nat → Int32) × (Nat → Int32) × (Nat → Int32) × (Nat → Int32) × (Nat → Int32) × (Nat → Int32)) :=
  nmb (FX2_begin le_times) fun u2 => (itr (fun v => FX3_seatAll_S20 tx_length tx_bytes v.1 v.2.1 v.2.2.1 v.2.2.2.1 v.2.2.2.2.1 v.2.2.2.2.2.1 v.2.2.2.2.2.2.1 v.2.2.2.2.2.2.2) fu ((0 : Int32), ro_letters, ro_rows, ro_columns, ro_tenths, ro_needs, ro_toldDares, le_dares)).bind fun o27 => some (tx_length / (6 : Int32), u2.1, u2.2.1, u2.2.2.1, u2.2.2.2.1, u2.2.2.2.2, o27.1, o27.2.1, o27.2.2.1, o27.2.2.2.1, o27.2.2.2.2.1, o27.2.2.2.2.2.1, o27.2.2.2.2.2.2)
def rm_X3_seatAll : Room := { frames := 2, cells := 0, slots := 0, locals := 43 }
set_option maxHeartbeats 4000000 in
set_option maxRecDepth 100000 in
theorem c_X3_seatAll (l : Launch) (D : va_G) (cI cJ cZ : ClassId) (a : Nat → Nat) (ws0 : va_W) (A : Nat → Prop)  (tx_length : Int32) (ro_pupils : Int32) (ro_mood : Int32) (le_seed : Int64) (le_questions : Int32) (le_rightOnes : Int32) (le_wrongOnes : Int32) (le_isKept : Int32) (le_times : Nat → Int32) (tx_bytes : Nat → Int32) (ro_letters : Nat → Int32) (ro_rows : Nat → Int32) (ro_columns : Nat → Int32) (ro_tenths : Nat → Int32) (ro_needs : Nat → Int32) (ro_toldDares : Nat → Int32) (le_dares : Nat → Int32)  (u : Int32 × (Nat → Int32) × Int64 × Int32 × Int32 × Int32 × (Nat → Int32) × (Nat → Int32) × (Nat → Int32) × (Nat → Int32) × (Nat → Int32) × (Nat → Int32) × (Nat → Int32)) (hF : FX3_seatAll tx_length le_times tx_bytes ro_letters ro_rows ro_columns ro_tenths ro_needs ro_toldDares le_dares = some u) (z1 : ws0[1]? = some (a 1, .inr (6, [.ref (a 2), .int tx_length]))) (z2 : ws0[2]? = some (a 2, .inl (cI, 72, .inl tx_bytes))) (z3 : ws0[3]? = some (a 3, .inr (3, [.ref (a 4), .ref (a 5), .ref (a 6), .ref (a 7), .ref (a 8), .ref (a 9), .ref (a 10), .int ro_pupils, .int ro_mood]))) (z4 : ws0[4]? = some (a 4, .inl (cI, 12, .inl ro_letters))) (z5 : ws0[5]? = some (a 5, .inl (cI, 12, .inl ro_rows))) (z6 : ws0[6]? = some (a 6, .inl (cI, 12, .inl ro_columns))) (z7 : ws0[7]? = some (a 7, .inl (cI, 12, .inl ro_tenths))) (z8 : ws0[8]? = some (a 8, .inl (cI, 12, .inl ro_needs))) (z9 : ws0[9]? = some (a 9, .inl (cI, 12, .inl ro_toldDares))) (z10 : ws0[10]? = some (a 10, .inr (2, [.ref (a 11), .ref (a 12), .long le_seed, .int le_questions, .int le_rightOnes, .int le_wrongOnes, .int le_isKept]))) (z11 : ws0[11]? = some (a 11, .inl (cI, 12, .inl le_dares))) (z12 : ws0[12]? = some (a 12, .inl (cI, 12, .inl le_times))) (hD : va_D A ws0) : Met l yX3_seatAll (wq yX3_seatAll cX3_seatAll 4 none) rm_X3_seatAll (Pq [.ref (a 3), .ref (a 1)] D cI cJ cZ ws0) (Qw D A ws0 [3, 12, 10, 4, 5, 6, 7, 8, 9, 11] none (fun w => w[3]? = some (a 3, .inr (3, [.ref (a 4), .ref (a 5), .ref (a 6), .ref (a 7), .ref (a 8), .ref (a 9), .ref (a 10), .int u.1, .int ro_mood])) ∧ w[12]? = some (a 12, .inl (cI, 12, .inl u.2.1)) ∧ w[10]? = some (a 10, .inr (2, [.ref (a 11), .ref (a 12), .long u.2.2.1, .int u.2.2.2.1, .int u.2.2.2.2.1, .int u.2.2.2.2.2.1, .int le_isKept])) ∧ w[4]? = some (a 4, .inl (cI, 12, .inl u.2.2.2.2.2.2.1)) ∧ w[5]? = some (a 5, .inl (cI, 12, .inl u.2.2.2.2.2.2.2.1)) ∧ w[6]? = some (a 6, .inl (cI, 12, .inl u.2.2.2.2.2.2.2.2.1)) ∧ w[7]? = some (a 7, .inl (cI, 12, .inl u.2.2.2.2.2.2.2.2.2.1)) ∧ w[8]? = some (a 8, .inl (cI, 12, .inl u.2.2.2.2.2.2.2.2.2.2.1)) ∧ w[9]? = some (a 9, .inl (cI, 12, .inl u.2.2.2.2.2.2.2.2.2.2.2.1)) ∧ w[11]? = some (a 11, .inl (cI, 12, .inl u.2.2.2.2.2.2.2.2.2.2.2.2)))) 0 0 A := by
  refine mq_of (by decide) (Nat.le_of_ble_eq_true rfl) (fun p e s m args below meth c ls Q hQ X _ hP hl => ?_)
  obtain ⟨hx, hb, hr, hml, hown, hts, hlk, hK, hN⟩ := id X
  have hown : s.vm.findClass RX3 = some m.cls := hown
  have hl : lv_has ls 4 [(0, .ref (a 3)), (1, .ref (a 1))] := hl
  have hS : va_S A s.heap s.heap [] := va_S.rf
  have hs : ∀ j : Nat, j ∉ [3, 12, 10, 4, 5, 6, 7, 8, 9, 11] → ws0[j]? = ws0[j]? := fun _ _ => rfl
  have h1 := z1
  have h2 := z2
  have h3 := z3
  have h4 := z4
  have h5 := z5
  have h6 := z6
  have h7 := z7
  have h8 := z8
  have h9 := z9
  have h10 := z10
  have h11 := z11
  have h12 := z12
  unfold FX3_seatAll at hF
  refine lv_aload_n hx hb dX3_seatAll_0 rfl (lv_at hl 0 rfl) ?_
  refine lv_aload_n hx hb dX3_seatAll_1 rfl (lv_at hl 1 rfl) ?_
  refine gf_X3_41 hx hb hts hown hK hN hP h1 dX3_seatAll_2 ?_
  refine lv_bipush (v := (6 : Int32)) hx hb dX3_seatAll_5 (by decide) ?_
  refine lv_idiv hx hb dX3_seatAll_7 (by decide) ?_
  refine pf_X3_46 hx hb hts hown hK hP hD hS h3 rfl rfl dX3_seatAll_8 (fun w1 H locs hP hD hk hc hS => ?_)
  have h3 : w1[3]? = some (a 3, .inr (3, [.ref (a 4), .ref (a 5), .ref (a 6), .ref (a 7), .ref (a 8), .ref (a 9), .ref (a 10), .int (tx_length / (6 : Int32)), .int ro_mood])) := hc
  have h1 := (hk 1 (by omega)).trans h1
  have h10 := (hk 10 (by omega)).trans h10
  have h12 := (hk 12 (by omega)).trans h12
  have h2 := (hk 2 (by omega)).trans h2
  have h4 := (hk 4 (by omega)).trans h4
  have h5 := (hk 5 (by omega)).trans h5
  have h6 := (hk 6 (by omega)).trans h6
  have h7 := (hk 7 (by omega)).trans h7
  have h8 := (hk 8 (by omega)).trans h8
  have h9 := (hk 9 (by omega)).trans h9
  have h11 := (hk 11 (by omega)).trans h11
  replace hs := sm_k hk (by simp) hs
  refine lv_aload_n hx hb dX3_seatAll_11 rfl (lv_at hl 0 rfl) ?_
  refine gf_X3_33 hx hb hts hown hK hP h3 dX3_seatAll_12 ?_
  obtain ⟨u2, e_u2⟩ : ∃ q, q = FX2_begin le_times := ⟨_, rfl⟩
  replace hF := nm_at hF e_u2
  refine wr_v (runVN (As := []) (rest := []) X cq_X2_begin lk_X3_49 (c_X2_begin l D cI cJ cZ a w1 A 10 le_seed le_questions le_rightOnes le_wrongOnes le_isKept le_times u2 e_u2.symm h10 h12 hD) rfl rfl ⟨Nat.le_of_ble_eq_true rfl, Nat.le_of_ble_eq_true rfl⟩ hP h10 rfl rfl hl.1 rfl (Nat.le_of_ble_eq_true rfl) dX3_seatAll_15 ⟨Nat.le_of_ble_eq_true rfl, Nat.le_of_ble_eq_true rfl⟩) hS (fun w3 H locs hP hD hk hB hS => ?_)
  obtain ⟨hB0, hB1⟩ := hB
  have h12 : w3[12]? = some (a 12, .inl (cI, 12, .inl u2.1)) := hB0
  have h10 : w3[10]? = some (a 10, .inr (2, [.ref (a 11), .ref (a 12), .long u2.2.1, .int u2.2.2.1, .int u2.2.2.2.1, .int u2.2.2.2.2, .int le_isKept])) := hB1
  have h1 := (hk 1 (by simp only [List.mem_cons, List.not_mem_nil, or_false, not_or]; omega)).trans h1
  have h3 := (hk 3 (by simp only [List.mem_cons, List.not_mem_nil, or_false, not_or]; omega)).trans h3
  have h2 := (hk 2 (by simp only [List.mem_cons, List.not_mem_nil, or_false, not_or]; omega)).trans h2
  have h4 := (hk 4 (by simp only [List.mem_cons, List.not_mem_nil, or_false, not_or]; omega)).trans h4
  have h5 := (hk 5 (by simp only [List.mem_cons, List.not_mem_nil, or_false, not_or]; omega)).trans h5
  have h6 := (hk 6 (by simp only [List.mem_cons, List.not_mem_nil, or_false, not_or]; omega)).trans h6
  have h7 := (hk 7 (by simp only [List.mem_cons, List.not_mem_nil, or_false, not_or]; omega)).trans h7
  have h8 := (hk 8 (by simp only [List.mem_cons, List.not_mem_nil, or_false, not_or]; omega)).trans h8
  have h9 := (hk 9 (by simp only [List.mem_cons, List.not_mem_nil, or_false, not_or]; omega)).trans h9
  have h11 := (hk 11 (by simp only [List.mem_cons, List.not_mem_nil, or_false, not_or]; omega)).trans h11
  replace hs := st_tr hk (fun j hj => by simp only [List.mem_cons, List.not_mem_nil, or_false] at hj ⊢; omega) hs
  refine lv_iconst (v := (0 : Int32)) hx hb dX3_seatAll_18 (by decide) ?_
  refine lv_istore_n (lv' := [(2, .int (0 : Int32)), (0, .ref (a 3)), (1, .ref (a 1))]) hx hb dX3_seatAll_19 rfl hl (by decide) rfl (fun ls hl => ?_)
  have hL20 : ∀ (nf : Nat) (x4 : Int32) (x5 : Nat → Int32) (x6 : Nat → Int32) (x7 : Nat → Int32) (x8 : Nat → Int32) (x9 : Nat → Int32) (x10 : Nat → Int32) (x11 : Nat → Int32) (r : (Nat → Int32) × (Nat → Int32) × (Nat → Int32) × (Nat → Int32) × (Nat → Int32) × (Nat → Int32) × (Nat → Int32)), itr (fun v => FX3_seatAll_S20 tx_length tx_bytes v.1 v.2.1 v.2.2.1 v.2.2.2.1 v.2.2.2.2.1 v.2.2.2.2.2.1 v.2.2.2.2.2.2.1 v.2.2.2.2.2.2.2) nf (x4, x5, x6, x7, x8, x9, x10, x11) = some r → ∀ (wJ : va_W) (HJ : Heap) (lJ : List Loc), va_P D vwCl wJ HJ → va_D A wJ → va_S A s.heap HJ lJ → (∀ j : Nat, j ∉ [3, 12, 10, 4, 5, 6, 7, 8, 9, 11] → wJ[j]? = ws0[j]?) → wJ[3]? = some (a 3, .inr (3, [.ref (a 4), .ref (a 5), .ref (a 6), .ref (a 7), .ref (a 8), .ref (a 9), .ref (a 10), .int (tx_length / (6 : Int32)), .int ro_mood])) → wJ[12]? = some (a 12, .inl (cI, 12, .inl u2.1)) → wJ[10]? = some (a 10, .inr (2, [.ref (a 11), .ref (a 12), .long u2.2.1, .int u2.2.2.1, .int u2.2.2.2.1, .int u2.2.2.2.2, .int le_isKept])) → wJ[4]? = some (a 4, .inl (cI, 12, .inl x5)) → wJ[5]? = some (a 5, .inl (cI, 12, .inl x6)) → wJ[6]? = some (a 6, .inl (cI, 12, .inl x7)) → wJ[7]? = some (a 7, .inl (cI, 12, .inl x8)) → wJ[8]? = some (a 8, .inl (cI, 12, .inl x9)) → wJ[9]? = some (a 9, .inl (cI, 12, .inl x10)) → wJ[11]? = some (a 11, .inl (cI, 12, .inl x11)) → ∀ ls, lv_has ls 4 [(2, .int x4), (0, .ref (a 3)), (1, .ref (a 1))] → (∀ o : (Nat → Int32) × (Nat → Int32) × (Nat → Int32) × (Nat → Int32) × (Nat → Int32) × (Nat → Int32) × (Nat → Int32), r = o → ∀ (wK : va_W) (HK : Heap) (lK : List Loc), va_P D vwCl wK HK → va_D A wK → va_S A s.heap HK lK → (∀ j : Nat, j ∉ [3, 12, 10, 4, 5, 6, 7, 8, 9, 11] → wK[j]? = ws0[j]?) → wK[3]? = some (a 3, .inr (3, [.ref (a 4), .ref (a 5), .ref (a 6), .ref (a 7), .ref (a 8), .ref (a 9), .ref (a 10), .int (tx_length / (6 : Int32)), .int ro_mood])) → wK[12]? = some (a 12, .inl (cI, 12, .inl u2.1)) → wK[10]? = some (a 10, .inr (2, [.ref (a 11), .ref (a 12), .long u2.2.1, .int u2.2.2.1, .int u2.2.2.2.1, .int u2.2.2.2.2, .int le_isKept])) → wK[4]? = some (a 4, .inl (cI, 12, .inl o.1)) → wK[5]? = some (a 5, .inl (cI, 12, .inl o.2.1)) → wK[6]? = some (a 6, .inl (cI, 12, .inl o.2.2.1)) → wK[7]? = some (a 7, .inl (cI, 12, .inl o.2.2.2.1)) → wK[8]? = some (a 8, .inl (cI, 12, .inl o.2.2.2.2.1)) → wK[9]? = some (a 9, .inl (cI, 12, .inl o.2.2.2.2.2.1)) → wK[11]? = some (a 11, .inl (cI, 12, .inl o.2.2.2.2.2.2)) → ∀ ls, lv_has ls 4 [] → W p l e rm_X3_seatAll s m args below meth c HK lK 0 0 Q (F0 m 147 ls [])) → W p l e rm_X3_seatAll s m args below meth c HJ lJ 0 0 Q (F0 m 20 ls []) := by
    intro nf
    induction nf with
    | zero => intro _ _ _ _ _ _ _ _ r hF; exact (itr_0 hF).elim
    | succ nf ih =>
      intro x4 x5 x6 x7 x8 x9 x10 x11 r hF w H locs hP hD hS hs h3 h12 h10 h4 h5 h6 h7 h8 h9 h11 ls hl hE
      obtain ⟨wo, hF, hw⟩ := itr_s hF
      replace hF : FX3_seatAll_S20 tx_length tx_bytes x4 x5 x6 x7 x8 x9 x10 x11 = some wo := hF
      have h1 := (hs 1 (by simp only [List.mem_cons, List.not_mem_nil, or_false, not_or]; omega)).trans z1
      have h2 := (hs 2 (by simp only [List.mem_cons, List.not_mem_nil, or_false, not_or]; omega)).trans z2
      unfold FX3_seatAll_S20 at hF
      refine lv_iload_n hx hb dX3_seatAll_20 rfl (lv_at hl 0 rfl) ?_
      refine lv_aload_n hx hb dX3_seatAll_21 rfl (lv_at hl 1 rfl) ?_
      refine gf_X3_46 hx hb hts hown hK hP h3 dX3_seatAll_22 ?_
      refine lv_icmp_ge (tgt := 147) hx hb dX3_seatAll_25 (by decide) (fun c12 => ?_) (fun c12 => ?_)
      · replace hF := (if_pos c12).symm.trans hF
        obtain rfl := Option.some.inj hF
        obtain rfl := hw
        exact hE _ rfl _ _ _ hP hD hS hs h3 h12 h10 h4 h5 h6 h7 h8 h9 h11 ls (lv_sub hl [] rfl)
      · replace hF := (if_neg c12).symm.trans hF
        refine lv_iload_n hx hb dX3_seatAll_28 rfl (lv_at hl 0 rfl) ?_
        refine lv_bipush (v := (6 : Int32)) hx hb dX3_seatAll_29 (by decide) ?_
        refine lv_imul hx hb dX3_seatAll_31 ?_
        refine lv_istore_n (lv' := [(3, .int (x4 * (6 : Int32))), (2, .int x4), (0, .ref (a 3)), (1, .ref (a 1))]) hx hb dX3_seatAll_32 rfl hl (by decide) rfl (fun ls hl => ?_)
        refine lv_aload_n hx hb dX3_seatAll_33 rfl (lv_at hl 2 rfl) ?_
        refine gf_X3_9 hx hb hts hown hK hP h3 dX3_seatAll_34 ?_
        refine lv_iload_n hx hb dX3_seatAll_37 rfl (lv_at hl 1 rfl) ?_
        refine lv_aload_n hx hb dX3_seatAll_38 rfl (lv_at hl 3 rfl) ?_
        refine lv_iload_n hx hb dX3_seatAll_39 rfl (lv_at hl 0 rfl) ?_
        refine lv_iconst (v := (0 : Int32)) hx hb dX3_seatAll_40 (by decide) ?_
        refine lv_iadd hx hb dX3_seatAll_41 ?_
        refine rd_i (runVN (As := [.int ((x4 * (6 : Int32)) + (0 : Int32))]) (rest := [.int x4, .ref (a 4)]) X cq_X6_sign lk_X3_52 (c_X6_sign l D cI cJ cZ a w tx_length tx_bytes ((x4 * (6 : Int32)) + (0 : Int32)) _ rfl h1 h2) rfl rfl ⟨Nat.le_of_ble_eq_true rfl, Nat.le_of_ble_eq_true rfl⟩ hP h1 rfl rfl hl.1 rfl (Nat.le_of_ble_eq_true rfl) dX3_seatAll_42 ⟨Nat.le_of_ble_eq_true rfl, Nat.le_of_ble_eq_true rfl⟩) ?_
        obtain ⟨u13, e_u13⟩ : ∃ q, q = gput x5 12 x4 (FX6_sign tx_bytes ((x4 * (6 : Int32)) + (0 : Int32))) := ⟨_, rfl⟩
        replace hF := nm_at hF e_u13
        refine wr_v (runSN (As := [.ref (a 4), .int x4, .int (FX6_sign tx_bytes ((x4 * (6 : Int32)) + (0 : Int32)))]) (rest := []) X cq_X8_put lk_X3_56 (t_X8_put l D cI cJ cZ a w A 4 x5 12 x4 (FX6_sign tx_bytes ((x4 * (6 : Int32)) + (0 : Int32))) u13 e_u13.symm h4 hD (by decide)) rfl rfl ⟨Nat.le_of_ble_eq_true rfl, Nat.le_of_ble_eq_true rfl⟩ hP rfl hl.1 rfl (Nat.le_of_ble_eq_true rfl) dX3_seatAll_45 ⟨Nat.le_of_ble_eq_true rfl, Nat.le_of_ble_eq_true rfl⟩) hS (fun w14 H locs hP hD hk hB hS => ?_)
        have h4 : w14[4]? = some (a 4, .inl (cI, 12, .inl u13)) := hB
        have h1 := (hk 1 (by simp only [List.mem_cons, List.not_mem_nil, or_false, not_or]; omega)).trans h1
        have h3 := (hk 3 (by simp only [List.mem_cons, List.not_mem_nil, or_false, not_or]; omega)).trans h3
        have h10 := (hk 10 (by simp only [List.mem_cons, List.not_mem_nil, or_false, not_or]; omega)).trans h10
        have h12 := (hk 12 (by simp only [List.mem_cons, List.not_mem_nil, or_false, not_or]; omega)).trans h12
        have h2 := (hk 2 (by simp only [List.mem_cons, List.not_mem_nil, or_false, not_or]; omega)).trans h2
        have h5 := (hk 5 (by simp only [List.mem_cons, List.not_mem_nil, or_false, not_or]; omega)).trans h5
        have h6 := (hk 6 (by simp only [List.mem_cons, List.not_mem_nil, or_false, not_or]; omega)).trans h6
        have h7 := (hk 7 (by simp only [List.mem_cons, List.not_mem_nil, or_false, not_or]; omega)).trans h7
        have h8 := (hk 8 (by simp only [List.mem_cons, List.not_mem_nil, or_false, not_or]; omega)).trans h8
        have h9 := (hk 9 (by simp only [List.mem_cons, List.not_mem_nil, or_false, not_or]; omega)).trans h9
        have h11 := (hk 11 (by simp only [List.mem_cons, List.not_mem_nil, or_false, not_or]; omega)).trans h11
        replace hs := st_tr hk (fun j hj => by simp only [List.mem_cons, List.not_mem_nil, or_false] at hj ⊢; omega) hs
        refine lv_aload_n hx hb dX3_seatAll_48 rfl (lv_at hl 2 rfl) ?_
        refine gf_X3_15 hx hb hts hown hK hP h3 dX3_seatAll_49 ?_
        refine lv_iload_n hx hb dX3_seatAll_52 rfl (lv_at hl 1 rfl) ?_
        refine lv_aload_n hx hb dX3_seatAll_53 rfl (lv_at hl 3 rfl) ?_
        refine lv_iload_n hx hb dX3_seatAll_54 rfl (lv_at hl 0 rfl) ?_
        refine lv_iconst (v := (1 : Int32)) hx hb dX3_seatAll_55 (by decide) ?_
        refine lv_iadd hx hb dX3_seatAll_56 ?_
        refine rd_i (runVN (As := [.int ((x4 * (6 : Int32)) + (1 : Int32))]) (rest := [.int x4, .ref (a 5)]) X cq_X6_figure lk_X3_60 (c_X6_figure l D cI cJ cZ a w14 tx_length tx_bytes ((x4 * (6 : Int32)) + (1 : Int32)) _ rfl h1 h2) rfl rfl ⟨Nat.le_of_ble_eq_true rfl, Nat.le_of_ble_eq_true rfl⟩ hP h1 rfl rfl hl.1 rfl (Nat.le_of_ble_eq_true rfl) dX3_seatAll_57 ⟨Nat.le_of_ble_eq_true rfl, Nat.le_of_ble_eq_true rfl⟩) ?_
        obtain ⟨u15, e_u15⟩ : ∃ q, q = gput x6 12 x4 (FX6_figure tx_bytes ((x4 * (6 : Int32)) + (1 : Int32))) := ⟨_, rfl⟩
        replace hF := nm_at hF e_u15
        refine wr_v (runSN (As := [.ref (a 5), .int x4, .int (FX6_figure tx_bytes ((x4 * (6 : Int32)) + (1 : Int32)))]) (rest := []) X cq_X8_put lk_X3_56 (t_X8_put l D cI cJ cZ a w14 A 5 x6 12 x4 (FX6_figure tx_bytes ((x4 * (6 : Int32)) + (1 : Int32))) u15 e_u15.symm h5 hD (by decide)) rfl rfl ⟨Nat.le_of_ble_eq_true rfl, Nat.le_of_ble_eq_true rfl⟩ hP rfl hl.1 rfl (Nat.le_of_ble_eq_true rfl) dX3_seatAll_60 ⟨Nat.le_of_ble_eq_true rfl, Nat.le_of_ble_eq_true rfl⟩) hS (fun w16 H locs hP hD hk hB hS => ?_)
        have h5 : w16[5]? = some (a 5, .inl (cI, 12, .inl u15)) := hB
        have h1 := (hk 1 (by simp only [List.mem_cons, List.not_mem_nil, or_false, not_or]; omega)).trans h1
        have h3 := (hk 3 (by simp only [List.mem_cons, List.not_mem_nil, or_false, not_or]; omega)).trans h3
        have h10 := (hk 10 (by simp only [List.mem_cons, List.not_mem_nil, or_false, not_or]; omega)).trans h10
        have h12 := (hk 12 (by simp only [List.mem_cons, List.not_mem_nil, or_false, not_or]; omega)).trans h12
        have h2 := (hk 2 (by simp only [List.mem_cons, List.not_mem_nil, or_false, not_or]; omega)).trans h2
        have h4 := (hk 4 (by simp only [List.mem_cons, List.not_mem_nil, or_false, not_or]; omega)).trans h4
        have h6 := (hk 6 (by simp only [List.mem_cons, List.not_mem_nil, or_false, not_or]; omega)).trans h6
        have h7 := (hk 7 (by simp only [List.mem_cons, List.not_mem_nil, or_false, not_or]; omega)).trans h7
        have h8 := (hk 8 (by simp only [List.mem_cons, List.not_mem_nil, or_false, not_or]; omega)).trans h8
        have h9 := (hk 9 (by simp only [List.mem_cons, List.not_mem_nil, or_false, not_or]; omega)).trans h9
        have h11 := (hk 11 (by simp only [List.mem_cons, List.not_mem_nil, or_false, not_or]; omega)).trans h11
        replace hs := st_tr hk (fun j hj => by simp only [List.mem_cons, List.not_mem_nil, or_false] at hj ⊢; omega) hs
        refine lv_aload_n hx hb dX3_seatAll_63 rfl (lv_at hl 2 rfl) ?_
        refine gf_X3_18 hx hb hts hown hK hP h3 dX3_seatAll_64 ?_
        refine lv_iload_n hx hb dX3_seatAll_67 rfl (lv_at hl 1 rfl) ?_
        refine lv_aload_n hx hb dX3_seatAll_68 rfl (lv_at hl 3 rfl) ?_
        refine lv_iload_n hx hb dX3_seatAll_69 rfl (lv_at hl 0 rfl) ?_
        refine lv_iconst (v := (2 : Int32)) hx hb dX3_seatAll_70 (by decide) ?_
        refine lv_iadd hx hb dX3_seatAll_71 ?_
        refine rd_i (runVN (As := [.int ((x4 * (6 : Int32)) + (2 : Int32))]) (rest := [.int x4, .ref (a 6)]) X cq_X6_figure lk_X3_60 (c_X6_figure l D cI cJ cZ a w16 tx_length tx_bytes ((x4 * (6 : Int32)) + (2 : Int32)) _ rfl h1 h2) rfl rfl ⟨Nat.le_of_ble_eq_true rfl, Nat.le_of_ble_eq_true rfl⟩ hP h1 rfl rfl hl.1 rfl (Nat.le_of_ble_eq_true rfl) dX3_seatAll_72 ⟨Nat.le_of_ble_eq_true rfl, Nat.le_of_ble_eq_true rfl⟩) ?_
        obtain ⟨u17, e_u17⟩ : ∃ q, q = gput x7 12 x4 (FX6_figure tx_bytes ((x4 * (6 : Int32)) + (2 : Int32))) := ⟨_, rfl⟩
        replace hF := nm_at hF e_u17
        refine wr_v (runSN (As := [.ref (a 6), .int x4, .int (FX6_figure tx_bytes ((x4 * (6 : Int32)) + (2 : Int32)))]) (rest := []) X cq_X8_put lk_X3_56 (t_X8_put l D cI cJ cZ a w16 A 6 x7 12 x4 (FX6_figure tx_bytes ((x4 * (6 : Int32)) + (2 : Int32))) u17 e_u17.symm h6 hD (by decide)) rfl rfl ⟨Nat.le_of_ble_eq_true rfl, Nat.le_of_ble_eq_true rfl⟩ hP rfl hl.1 rfl (Nat.le_of_ble_eq_true rfl) dX3_seatAll_75 ⟨Nat.le_of_ble_eq_true rfl, Nat.le_of_ble_eq_true rfl⟩) hS (fun w18 H locs hP hD hk hB hS => ?_)
        have h6 : w18[6]? = some (a 6, .inl (cI, 12, .inl u17)) := hB
        have h1 := (hk 1 (by simp only [List.mem_cons, List.not_mem_nil, or_false, not_or]; omega)).trans h1
        have h3 := (hk 3 (by simp only [List.mem_cons, List.not_mem_nil, or_false, not_or]; omega)).trans h3
        have h10 := (hk 10 (by simp only [List.mem_cons, List.not_mem_nil, or_false, not_or]; omega)).trans h10
        have h12 := (hk 12 (by simp only [List.mem_cons, List.not_mem_nil, or_false, not_or]; omega)).trans h12
        have h2 := (hk 2 (by simp only [List.mem_cons, List.not_mem_nil, or_false, not_or]; omega)).trans h2
        have h4 := (hk 4 (by simp only [List.mem_cons, List.not_mem_nil, or_false, not_or]; omega)).trans h4
        have h5 := (hk 5 (by simp only [List.mem_cons, List.not_mem_nil, or_false, not_or]; omega)).trans h5
        have h7 := (hk 7 (by simp only [List.mem_cons, List.not_mem_nil, or_false, not_or]; omega)).trans h7
        have h8 := (hk 8 (by simp only [List.mem_cons, List.not_mem_nil, or_false, not_or]; omega)).trans h8
        have h9 := (hk 9 (by simp only [List.mem_cons, List.not_mem_nil, or_false, not_or]; omega)).trans h9
        have h11 := (hk 11 (by simp only [List.mem_cons, List.not_mem_nil, or_false, not_or]; omega)).trans h11
        replace hs := st_tr hk (fun j hj => by simp only [List.mem_cons, List.not_mem_nil, or_false] at hj ⊢; omega) hs
        refine lv_aload_n hx hb dX3_seatAll_78 rfl (lv_at hl 2 rfl) ?_
        refine gf_X3_21 hx hb hts hown hK hP h3 dX3_seatAll_79 ?_
        refine lv_iload_n hx hb dX3_seatAll_82 rfl (lv_at hl 1 rfl) ?_
        refine lv_aload_n hx hb dX3_seatAll_83 rfl (lv_at hl 3 rfl) ?_
        refine lv_iload_n hx hb dX3_seatAll_84 rfl (lv_at hl 0 rfl) ?_
        refine lv_iconst (v := (3 : Int32)) hx hb dX3_seatAll_85 (by decide) ?_
        refine lv_iadd hx hb dX3_seatAll_86 ?_
        refine rd_i (runVN (As := [.int ((x4 * (6 : Int32)) + (3 : Int32))]) (rest := [.int x4, .ref (a 7)]) X cq_X6_figure lk_X3_60 (c_X6_figure l D cI cJ cZ a w18 tx_length tx_bytes ((x4 * (6 : Int32)) + (3 : Int32)) _ rfl h1 h2) rfl rfl ⟨Nat.le_of_ble_eq_true rfl, Nat.le_of_ble_eq_true rfl⟩ hP h1 rfl rfl hl.1 rfl (Nat.le_of_ble_eq_true rfl) dX3_seatAll_87 ⟨Nat.le_of_ble_eq_true rfl, Nat.le_of_ble_eq_true rfl⟩) ?_
        obtain ⟨u19, e_u19⟩ : ∃ q, q = gput x8 12 x4 (FX6_figure tx_bytes ((x4 * (6 : Int32)) + (3 : Int32))) := ⟨_, rfl⟩
        replace hF := nm_at hF e_u19
        refine wr_v (runSN (As := [.ref (a 7), .int x4, .int (FX6_figure tx_bytes ((x4 * (6 : Int32)) + (3 : Int32)))]) (rest := []) X cq_X8_put lk_X3_56 (t_X8_put l D cI cJ cZ a w18 A 7 x8 12 x4 (FX6_figure tx_bytes ((x4 * (6 : Int32)) + (3 : Int32))) u19 e_u19.symm h7 hD (by decide)) rfl rfl ⟨Nat.le_of_ble_eq_true rfl, Nat.le_of_ble_eq_true rfl⟩ hP rfl hl.1 rfl (Nat.le_of_ble_eq_true rfl) dX3_seatAll_90 ⟨Nat.le_of_ble_eq_true rfl, Nat.le_of_ble_eq_true rfl⟩) hS (fun w20 H locs hP hD hk hB hS => ?_)
        have h7 : w20[7]? = some (a 7, .inl (cI, 12, .inl u19)) := hB
        have h1 := (hk 1 (by simp only [List.mem_cons, List.not_mem_nil, or_false, not_or]; omega)).trans h1
        have h3 := (hk 3 (by simp only [List.mem_cons, List.not_mem_nil, or_false, not_or]; omega)).trans h3
        have h10 := (hk 10 (by simp only [List.mem_cons, List.not_mem_nil, or_false, not_or]; omega)).trans h10
        have h12 := (hk 12 (by simp only [List.mem_cons, List.not_mem_nil, or_false, not_or]; omega)).trans h12
        have h2 := (hk 2 (by simp only [List.mem_cons, List.not_mem_nil, or_false, not_or]; omega)).trans h2
        have h4 := (hk 4 (by simp only [List.mem_cons, List.not_mem_nil, or_false, not_or]; omega)).trans h4
        have h5 := (hk 5 (by simp only [List.mem_cons, List.not_mem_nil, or_false, not_or]; omega)).trans h5
        have h6 := (hk 6 (by simp only [List.mem_cons, List.not_mem_nil, or_false, not_or]; omega)).trans h6
        have h8 := (hk 8 (by simp only [List.mem_cons, List.not_mem_nil, or_false, not_or]; omega)).trans h8
        have h9 := (hk 9 (by simp only [List.mem_cons, List.not_mem_nil, or_false, not_or]; omega)).trans h9
        have h11 := (hk 11 (by simp only [List.mem_cons, List.not_mem_nil, or_false, not_or]; omega)).trans h11
        replace hs := st_tr hk (fun j hj => by simp only [List.mem_cons, List.not_mem_nil, or_false] at hj ⊢; omega) hs
        refine lv_aload_n hx hb dX3_seatAll_93 rfl (lv_at hl 2 rfl) ?_
        refine gf_X3_24 hx hb hts hown hK hP h3 dX3_seatAll_94 ?_
        refine lv_iload_n hx hb dX3_seatAll_97 rfl (lv_at hl 1 rfl) ?_
        refine lv_aload_n hx hb dX3_seatAll_98 rfl (lv_at hl 3 rfl) ?_
        refine lv_iload_n hx hb dX3_seatAll_99 rfl (lv_at hl 0 rfl) ?_
        refine lv_iconst (v := (4 : Int32)) hx hb dX3_seatAll_100 (by decide) ?_
        refine lv_iadd hx hb dX3_seatAll_101 ?_
        refine rd_i (runVN (As := [.int ((x4 * (6 : Int32)) + (4 : Int32))]) (rest := [.int x4, .ref (a 8)]) X cq_X6_figure lk_X3_60 (c_X6_figure l D cI cJ cZ a w20 tx_length tx_bytes ((x4 * (6 : Int32)) + (4 : Int32)) _ rfl h1 h2) rfl rfl ⟨Nat.le_of_ble_eq_true rfl, Nat.le_of_ble_eq_true rfl⟩ hP h1 rfl rfl hl.1 rfl (Nat.le_of_ble_eq_true rfl) dX3_seatAll_102 ⟨Nat.le_of_ble_eq_true rfl, Nat.le_of_ble_eq_true rfl⟩) ?_
        obtain ⟨u21, e_u21⟩ : ∃ q, q = gput x9 12 x4 (FX6_figure tx_bytes ((x4 * (6 : Int32)) + (4 : Int32))) := ⟨_, rfl⟩
        replace hF := nm_at hF e_u21
        refine wr_v (runSN (As := [.ref (a 8), .int x4, .int (FX6_figure tx_bytes ((x4 * (6 : Int32)) + (4 : Int32)))]) (rest := []) X cq_X8_put lk_X3_56 (t_X8_put l D cI cJ cZ a w20 A 8 x9 12 x4 (FX6_figure tx_bytes ((x4 * (6 : Int32)) + (4 : Int32))) u21 e_u21.symm h8 hD (by decide)) rfl rfl ⟨Nat.le_of_ble_eq_true rfl, Nat.le_of_ble_eq_true rfl⟩ hP rfl hl.1 rfl (Nat.le_of_ble_eq_true rfl) dX3_seatAll_105 ⟨Nat.le_of_ble_eq_true rfl, Nat.le_of_ble_eq_true rfl⟩) hS (fun w22 H locs hP hD hk hB hS => ?_)
        have h8 : w22[8]? = some (a 8, .inl (cI, 12, .inl u21)) := hB
        have h1 := (hk 1 (by simp only [List.mem_cons, List.not_mem_nil, or_false, not_or]; omega)).trans h1
        have h3 := (hk 3 (by simp only [List.mem_cons, List.not_mem_nil, or_false, not_or]; omega)).trans h3
        have h10 := (hk 10 (by simp only [List.mem_cons, List.not_mem_nil, or_false, not_or]; omega)).trans h10
        have h12 := (hk 12 (by simp only [List.mem_cons, List.not_mem_nil, or_false, not_or]; omega)).trans h12
        have h2 := (hk 2 (by simp only [List.mem_cons, List.not_mem_nil, or_false, not_or]; omega)).trans h2
        have h4 := (hk 4 (by simp only [List.mem_cons, List.not_mem_nil, or_false, not_or]; omega)).trans h4
        have h5 := (hk 5 (by simp only [List.mem_cons, List.not_mem_nil, or_false, not_or]; omega)).trans h5
        have h6 := (hk 6 (by simp only [List.mem_cons, List.not_mem_nil, or_false, not_or]; omega)).trans h6
        have h7 := (hk 7 (by simp only [List.mem_cons, List.not_mem_nil, or_false, not_or]; omega)).trans h7
        have h9 := (hk 9 (by simp only [List.mem_cons, List.not_mem_nil, or_false, not_or]; omega)).trans h9
        have h11 := (hk 11 (by simp only [List.mem_cons, List.not_mem_nil, or_false, not_or]; omega)).trans h11
        replace hs := st_tr hk (fun j hj => by simp only [List.mem_cons, List.not_mem_nil, or_false] at hj ⊢; omega) hs
        refine lv_aload_n hx hb dX3_seatAll_108 rfl (lv_at hl 2 rfl) ?_
        refine gf_X3_27 hx hb hts hown hK hP h3 dX3_seatAll_109 ?_
        refine lv_iload_n hx hb dX3_seatAll_112 rfl (lv_at hl 1 rfl) ?_
        refine lv_aload_n hx hb dX3_seatAll_113 rfl (lv_at hl 3 rfl) ?_
        refine lv_iload_n hx hb dX3_seatAll_114 rfl (lv_at hl 0 rfl) ?_
        refine lv_iconst (v := (5 : Int32)) hx hb dX3_seatAll_115 (by decide) ?_
        refine lv_iadd hx hb dX3_seatAll_116 ?_
        refine rd_i (runVN (As := [.int ((x4 * (6 : Int32)) + (5 : Int32))]) (rest := [.int x4, .ref (a 9)]) X cq_X6_figure lk_X3_60 (c_X6_figure l D cI cJ cZ a w22 tx_length tx_bytes ((x4 * (6 : Int32)) + (5 : Int32)) _ rfl h1 h2) rfl rfl ⟨Nat.le_of_ble_eq_true rfl, Nat.le_of_ble_eq_true rfl⟩ hP h1 rfl rfl hl.1 rfl (Nat.le_of_ble_eq_true rfl) dX3_seatAll_117 ⟨Nat.le_of_ble_eq_true rfl, Nat.le_of_ble_eq_true rfl⟩) ?_
        obtain ⟨u23, e_u23⟩ : ∃ q, q = gput x10 12 x4 (FX6_figure tx_bytes ((x4 * (6 : Int32)) + (5 : Int32))) := ⟨_, rfl⟩
        replace hF := nm_at hF e_u23
        refine wr_v (runSN (As := [.ref (a 9), .int x4, .int (FX6_figure tx_bytes ((x4 * (6 : Int32)) + (5 : Int32)))]) (rest := []) X cq_X8_put lk_X3_56 (t_X8_put l D cI cJ cZ a w22 A 9 x10 12 x4 (FX6_figure tx_bytes ((x4 * (6 : Int32)) + (5 : Int32))) u23 e_u23.symm h9 hD (by decide)) rfl rfl ⟨Nat.le_of_ble_eq_true rfl, Nat.le_of_ble_eq_true rfl⟩ hP rfl hl.1 rfl (Nat.le_of_ble_eq_true rfl) dX3_seatAll_120 ⟨Nat.le_of_ble_eq_true rfl, Nat.le_of_ble_eq_true rfl⟩) hS (fun w24 H locs hP hD hk hB hS => ?_)
        have h9 : w24[9]? = some (a 9, .inl (cI, 12, .inl u23)) := hB
        have h1 := (hk 1 (by simp only [List.mem_cons, List.not_mem_nil, or_false, not_or]; omega)).trans h1
        have h3 := (hk 3 (by simp only [List.mem_cons, List.not_mem_nil, or_false, not_or]; omega)).trans h3
        have h10 := (hk 10 (by simp only [List.mem_cons, List.not_mem_nil, or_false, not_or]; omega)).trans h10
        have h12 := (hk 12 (by simp only [List.mem_cons, List.not_mem_nil, or_false, not_or]; omega)).trans h12
        have h2 := (hk 2 (by simp only [List.mem_cons, List.not_mem_nil, or_false, not_or]; omega)).trans h2
        have h4 := (hk 4 (by simp only [List.mem_cons, List.not_mem_nil, or_false, not_or]; omega)).trans h4
        have h5 := (hk 5 (by simp only [List.mem_cons, List.not_mem_nil, or_false, not_or]; omega)).trans h5
        have h6 := (hk 6 (by simp only [List.mem_cons, List.not_mem_nil, or_false, not_or]; omega)).trans h6
        have h7 := (hk 7 (by simp only [List.mem_cons, List.not_mem_nil, or_false, not_or]; omega)).trans h7
        have h8 := (hk 8 (by simp only [List.mem_cons, List.not_mem_nil, or_false, not_or]; omega)).trans h8
        have h11 := (hk 11 (by simp only [List.mem_cons, List.not_mem_nil, or_false, not_or]; omega)).trans h11
        replace hs := st_tr hk (fun j hj => by simp only [List.mem_cons, List.not_mem_nil, or_false] at hj ⊢; omega) hs
        refine lv_aload_n hx hb dX3_seatAll_123 rfl (lv_at hl 2 rfl) ?_
        refine gf_X3_33 hx hb hts hown hK hP h3 dX3_seatAll_124 ?_
        refine gf_X3_63 hx hb hts hown hK hN hP h10 dX3_seatAll_127 ?_
        refine lv_iload_n hx hb dX3_seatAll_130 rfl (lv_at hl 1 rfl) ?_
        refine lv_aload_n hx hb dX3_seatAll_131 rfl (lv_at hl 3 rfl) ?_
        refine lv_iload_n hx hb dX3_seatAll_132 rfl (lv_at hl 0 rfl) ?_
        refine lv_iconst (v := (5 : Int32)) hx hb dX3_seatAll_133 (by decide) ?_
        refine lv_iadd hx hb dX3_seatAll_134 ?_
        refine rd_i (runVN (As := [.int ((x4 * (6 : Int32)) + (5 : Int32))]) (rest := [.int x4, .ref (a 11)]) X cq_X6_figure lk_X3_60 (c_X6_figure l D cI cJ cZ a w24 tx_length tx_bytes ((x4 * (6 : Int32)) + (5 : Int32)) _ rfl h1 h2) rfl rfl ⟨Nat.le_of_ble_eq_true rfl, Nat.le_of_ble_eq_true rfl⟩ hP h1 rfl rfl hl.1 rfl (Nat.le_of_ble_eq_true rfl) dX3_seatAll_135 ⟨Nat.le_of_ble_eq_true rfl, Nat.le_of_ble_eq_true rfl⟩) ?_
        obtain ⟨u25, e_u25⟩ : ∃ q, q = gput x11 12 x4 (FX6_figure tx_bytes ((x4 * (6 : Int32)) + (5 : Int32))) := ⟨_, rfl⟩
        replace hF := nm_at hF e_u25
        refine wr_v (runSN (As := [.ref (a 11), .int x4, .int (FX6_figure tx_bytes ((x4 * (6 : Int32)) + (5 : Int32)))]) (rest := []) X cq_X8_put lk_X3_56 (t_X8_put l D cI cJ cZ a w24 A 11 x11 12 x4 (FX6_figure tx_bytes ((x4 * (6 : Int32)) + (5 : Int32))) u25 e_u25.symm h11 hD (by decide)) rfl rfl ⟨Nat.le_of_ble_eq_true rfl, Nat.le_of_ble_eq_true rfl⟩ hP rfl hl.1 rfl (Nat.le_of_ble_eq_true rfl) dX3_seatAll_138 ⟨Nat.le_of_ble_eq_true rfl, Nat.le_of_ble_eq_true rfl⟩) hS (fun w26 H locs hP hD hk hB hS => ?_)
        have h11 : w26[11]? = some (a 11, .inl (cI, 12, .inl u25)) := hB
        have h1 := (hk 1 (by simp only [List.mem_cons, List.not_mem_nil, or_false, not_or]; omega)).trans h1
        have h3 := (hk 3 (by simp only [List.mem_cons, List.not_mem_nil, or_false, not_or]; omega)).trans h3
        have h10 := (hk 10 (by simp only [List.mem_cons, List.not_mem_nil, or_false, not_or]; omega)).trans h10
        have h12 := (hk 12 (by simp only [List.mem_cons, List.not_mem_nil, or_false, not_or]; omega)).trans h12
        have h2 := (hk 2 (by simp only [List.mem_cons, List.not_mem_nil, or_false, not_or]; omega)).trans h2
        have h4 := (hk 4 (by simp only [List.mem_cons, List.not_mem_nil, or_false, not_or]; omega)).trans h4
        have h5 := (hk 5 (by simp only [List.mem_cons, List.not_mem_nil, or_false, not_or]; omega)).trans h5
        have h6 := (hk 6 (by simp only [List.mem_cons, List.not_mem_nil, or_false, not_or]; omega)).trans h6
        have h7 := (hk 7 (by simp only [List.mem_cons, List.not_mem_nil, or_false, not_or]; omega)).trans h7
        have h8 := (hk 8 (by simp only [List.mem_cons, List.not_mem_nil, or_false, not_or]; omega)).trans h8
        have h9 := (hk 9 (by simp only [List.mem_cons, List.not_mem_nil, or_false, not_or]; omega)).trans h9
        replace hs := st_tr hk (fun j hj => by simp only [List.mem_cons, List.not_mem_nil, or_false] at hj ⊢; omega) hs
        refine lv_iinc (v := x4 + (1 : Int32)) (lv' := [(2, .int (x4 + (1 : Int32))), (3, .int (x4 * (6 : Int32))), (0, .ref (a 3)), (1, .ref (a 1))]) hx hb dX3_seatAll_141 hl (k := 1) rfl rfl (by decide) rfl (fun ls hl => ?_)
        refine lv_goto (tgt := 20) hx hb dX3_seatAll_144 (by decide) ?_
        obtain rfl := Option.some.inj hF
        exact ih _ _ _ _ _ _ _ _ _ hw _ _ _ hP hD hS hs h3 h12 h10 h4 h5 h6 h7 h8 h9 h11 ls (lv_sub hl [0, 2, 3] rfl) hE
  obtain ⟨o27, ho27, hF⟩ := bd_some hF
  refine hL20 fu (0 : Int32) ro_letters ro_rows ro_columns ro_tenths ro_needs ro_toldDares le_dares o27 ho27 _ _ _ hP hD hS hs h3 h12 h10 h4 h5 h6 h7 h8 h9 h11 ls (lv_sub hl [0, 1, 2] rfl) ?_
  intro _ q_o27 w H locs hP hD hS hs h3 h12 h10 h4 h5 h6 h7 h8 h9 h11 ls hl
  subst q_o27
  have h1 := (hs 1 (by simp only [List.mem_cons, List.not_mem_nil, or_false, not_or]; omega)).trans z1
  have h2 := (hs 2 (by simp only [List.mem_cons, List.not_mem_nil, or_false, not_or]; omega)).trans z2
  obtain rfl := Option.some.inj hF
  rw [hQ]
  exact rw_v X hS hP hD hs ⟨h3, h12, h10, h4, h5, h6, h7, h8, h9, h11⟩ dX3_seatAll_147
def FX8_room (tx_length : Int32) (tx_bytes : Nat → Int32) (ro_pupils : Int32) (ro_letters : Nat → Int32) (ro_rows : Nat → Int32) (ro_columns : Nat → Int32) (ro_tenths : Nat → Int32) (ro_needs : Nat → Int32) (ro_toldDares : Nat → Int32) (le_seed : Int64) (le_questions : Int32) (le_rightOnes : Int32) (le_wrongOnes : Int32) (le_dares : Nat → Int32) (le_times : Nat → Int32) (s1_isKept : Int32) (s2_isKept : Int32) : Option (Int32 × Int32 × (Nat → Int32) × Int64 × Int32 × Int32 × Int32 × (Nat → Int32) × (Nat → Int32) × (Nat → Int32) × (Nat → Int32) × (Nat → Int32) × (Nat → Int32) × (Nat → Int32) × Int32 × Int32) :=
  (FX6_firstFault tx_length tx_bytes).bind fun x1 => if x1 = (-9 : Int32) then ((FX3_seatAll tx_length le_times tx_bytes ro_letters ro_rows ro_columns ro_tenths ro_needs ro_toldDares le_dares).bind fun u3 => some (u3.1, u3.1, u3.2.1, u3.2.2.1, u3.2.2.2.1, u3.2.2.2.2.1, u3.2.2.2.2.2.1, u3.2.2.2.2.2.2.1, u3.2.2.2.2.2.2.2.1, u3.2.2.2.2.2.2.2.2.1, u3.2.2.2.2.2.2.2.2.2.1, u3.2.2.2.2.2.2.2.2.2.2.1, u3.2.2.2.2.2.2.2.2.2.2.2.1, u3.2.2.2.2.2.2.2.2.2.2.2.2, (0 : Int32), (0 : Int32))) else (some ((-3 : Int32), ro_pupils, le_times, le_seed, le_questions, le_rightOnes, le_wrongOnes, ro_letters, ro_rows, ro_columns, ro_tenths, ro_needs, ro_toldDares, le_dares, s1_isKept, s2_isKept))
def rm_X8_room : Room := { frames := 5, cells := 0, slots := 0, locals := 107 }
set_option maxHeartbeats 4000000 in
set_option maxRecDepth 100000 in
theorem c_X8_room (l : Launch) (D : va_G) (cI cJ cZ : ClassId) (a : Nat → Nat) (ws0 : va_W) (A : Nat → Prop)  (tx_length : Int32) (tx_bytes : Nat → Int32) (ro_pupils : Int32) (ro_mood : Int32) (ro_letters : Nat → Int32) (ro_rows : Nat → Int32) (ro_columns : Nat → Int32) (ro_tenths : Nat → Int32) (ro_needs : Nat → Int32) (ro_toldDares : Nat → Int32) (le_seed : Int64) (le_questions : Int32) (le_rightOnes : Int32) (le_wrongOnes : Int32) (le_isKept : Int32) (le_dares : Nat → Int32) (le_times : Nat → Int32) (s1_seed : Int64) (s1_questions : Int32) (s1_rightOnes : Int32) (s1_wrongOnes : Int32) (s1_isKept : Int32) (s2_seed : Int64) (s2_questions : Int32) (s2_rightOnes : Int32) (s2_wrongOnes : Int32) (s2_isKept : Int32)  (u : Int32 × Int32 × (Nat → Int32) × Int64 × Int32 × Int32 × Int32 × (Nat → Int32) × (Nat → Int32) × (Nat → Int32) × (Nat → Int32) × (Nat → Int32) × (Nat → Int32) × (Nat → Int32) × Int32 × Int32) (hF : FX8_room tx_length tx_bytes ro_pupils ro_letters ro_rows ro_columns ro_tenths ro_needs ro_toldDares le_seed le_questions le_rightOnes le_wrongOnes le_dares le_times s1_isKept s2_isKept = some u) (z0 : ws0[0]? = some (a 0, .inr (8, [.ref (a 1), .ref (a 3), .ref (a 13), .ref (a 16), .ref (a 22), .ref (a 25), .ref (a 28), .ref (a 33)]))) (z1 : ws0[1]? = some (a 1, .inr (6, [.ref (a 2), .int tx_length]))) (z2 : ws0[2]? = some (a 2, .inl (cI, 72, .inl tx_bytes))) (z3 : ws0[3]? = some (a 3, .inr (3, [.ref (a 4), .ref (a 5), .ref (a 6), .ref (a 7), .ref (a 8), .ref (a 9), .ref (a 10), .int ro_pupils, .int ro_mood]))) (z4 : ws0[4]? = some (a 4, .inl (cI, 12, .inl ro_letters))) (z5 : ws0[5]? = some (a 5, .inl (cI, 12, .inl ro_rows))) (z6 : ws0[6]? = some (a 6, .inl (cI, 12, .inl ro_columns))) (z7 : ws0[7]? = some (a 7, .inl (cI, 12, .inl ro_tenths))) (z8 : ws0[8]? = some (a 8, .inl (cI, 12, .inl ro_needs))) (z9 : ws0[9]? = some (a 9, .inl (cI, 12, .inl ro_toldDares))) (z10 : ws0[10]? = some (a 10, .inr (2, [.ref (a 11), .ref (a 12), .long le_seed, .int le_questions, .int le_rightOnes, .int le_wrongOnes, .int le_isKept]))) (z11 : ws0[11]? = some (a 11, .inl (cI, 12, .inl le_dares))) (z12 : ws0[12]? = some (a 12, .inl (cI, 12, .inl le_times))) (z22 : ws0[22]? = some (a 22, .inr (2, [.ref (a 23), .ref (a 24), .long s1_seed, .int s1_questions, .int s1_rightOnes, .int s1_wrongOnes, .int s1_isKept]))) (z25 : ws0[25]? = some (a 25, .inr (2, [.ref (a 26), .ref (a 27), .long s2_seed, .int s2_questions, .int s2_rightOnes, .int s2_wrongOnes, .int s2_isKept]))) (hD : va_D A ws0) : Met l yX8_room (wq yX8_room cX8_room 1 (some .int)) rm_X8_room (Pq [.ref (a 0)] D cI cJ cZ ws0) (Qw D A ws0 [3, 12, 10, 4, 5, 6, 7, 8, 9, 11, 22, 25] (some (.int u.1)) (fun w => w[3]? = some (a 3, .inr (3, [.ref (a 4), .ref (a 5), .ref (a 6), .ref (a 7), .ref (a 8), .ref (a 9), .ref (a 10), .int u.2.1, .int ro_mood])) ∧ w[12]? = some (a 12, .inl (cI, 12, .inl u.2.2.1)) ∧ w[10]? = some (a 10, .inr (2, [.ref (a 11), .ref (a 12), .long u.2.2.2.1, .int u.2.2.2.2.1, .int u.2.2.2.2.2.1, .int u.2.2.2.2.2.2.1, .int le_isKept])) ∧ w[4]? = some (a 4, .inl (cI, 12, .inl u.2.2.2.2.2.2.2.1)) ∧ w[5]? = some (a 5, .inl (cI, 12, .inl u.2.2.2.2.2.2.2.2.1)) ∧ w[6]? = some (a 6, .inl (cI, 12, .inl u.2.2.2.2.2.2.2.2.2.1)) ∧ w[7]? = some (a 7, .inl (cI, 12, .inl u.2.2.2.2.2.2.2.2.2.2.1)) ∧ w[8]? = some (a 8, .inl (cI, 12, .inl u.2.2.2.2.2.2.2.2.2.2.2.1)) ∧ w[9]? = some (a 9, .inl (cI, 12, .inl u.2.2.2.2.2.2.2.2.2.2.2.2.1)) ∧ w[11]? = some (a 11, .inl (cI, 12, .inl u.2.2.2.2.2.2.2.2.2.2.2.2.2.1)) ∧ w[22]? = some (a 22, .inr (2, [.ref (a 23), .ref (a 24), .long s1_seed, .int s1_questions, .int s1_rightOnes, .int s1_wrongOnes, .int u.2.2.2.2.2.2.2.2.2.2.2.2.2.2.1])) ∧ w[25]? = some (a 25, .inr (2, [.ref (a 26), .ref (a 27), .long s2_seed, .int s2_questions, .int s2_rightOnes, .int s2_wrongOnes, .int u.2.2.2.2.2.2.2.2.2.2.2.2.2.2.2])))) 0 0 A := by
  refine mq_of (by decide) (Nat.le_of_ble_eq_true rfl) (fun p e s m args below meth c ls Q hQ X _ hP hl => ?_)
  obtain ⟨hx, hb, hr, hml, hown, hts, hlk, hK, hN⟩ := id X
  have hown : s.vm.findClass RX8 = some m.cls := hown
  have hl : lv_has ls 1 [(0, .ref (a 0))] := hl
  have hS : va_S A s.heap s.heap [] := va_S.rf
  have hs : ∀ j : Nat, j ∉ [3, 12, 10, 4, 5, 6, 7, 8, 9, 11, 22, 25] → ws0[j]? = ws0[j]? := fun _ _ => rfl
  have h0 := z0
  have h1 := z1
  have h2 := z2
  have h3 := z3
  have h4 := z4
  have h5 := z5
  have h6 := z6
  have h7 := z7
  have h8 := z8
  have h9 := z9
  have h10 := z10
  have h11 := z11
  have h12 := z12
  have h22 := z22
  have h25 := z25
  unfold FX8_room at hF
  refine lv_aload_n hx hb dX8_room_0 rfl (lv_at hl 0 rfl) ?_
  refine gf_X8_10 hx hb hts hown hK hP h0 dX8_room_1 ?_
  obtain ⟨x1, hx1, hF⟩ := bd_some hF
  refine rd_i (runVN (As := []) (rest := []) X cq_X6_firstFault lk_X8_73 (c_X6_firstFault l D cI cJ cZ a ws0 tx_length tx_bytes x1 hx1 h1 h2) rfl rfl ⟨Nat.le_of_ble_eq_true rfl, Nat.le_of_ble_eq_true rfl⟩ hP h1 rfl rfl hl.1 rfl (Nat.le_of_ble_eq_true rfl) dX8_room_4 ⟨Nat.le_of_ble_eq_true rfl, Nat.le_of_ble_eq_true rfl⟩) ?_
  refine lv_bipush (v := (-9 : Int32)) hx hb dX8_room_7 (by decide) ?_
  refine lv_icmp_eq (tgt := 15) hx hb dX8_room_9 (by decide) (fun c2 => ?_) (fun c2 => ?_)
  · replace hF := (if_pos c2).symm.trans hF
    refine lv_aload_n hx hb dX8_room_15 rfl (lv_at hl 0 rfl) ?_
    refine gf_X8_19 hx hb hts hown hK hP h0 dX8_room_16 ?_
    refine lv_aload_n hx hb dX8_room_19 rfl (lv_at hl 0 rfl) ?_
    refine gf_X8_10 hx hb hts hown hK hP h0 dX8_room_20 ?_
    obtain ⟨u3, hu3, hF⟩ := bd_some hF
    refine wr_v (runVN (As := [.ref (a 1)]) (rest := []) X cq_X3_seatAll lk_X8_76 (c_X3_seatAll l D cI cJ cZ a ws0 A tx_length ro_pupils ro_mood le_seed le_questions le_rightOnes le_wrongOnes le_isKept le_times tx_bytes ro_letters ro_rows ro_columns ro_tenths ro_needs ro_toldDares le_dares u3 hu3 h1 h2 h3 h4 h5 h6 h7 h8 h9 h10 h11 h12 hD) rfl rfl ⟨Nat.le_of_ble_eq_true rfl, Nat.le_of_ble_eq_true rfl⟩ hP h3 rfl rfl hl.1 rfl (Nat.le_of_ble_eq_true rfl) dX8_room_23 ⟨Nat.le_of_ble_eq_true rfl, Nat.le_of_ble_eq_true rfl⟩) hS (fun w4 H locs hP hD hk hB hS => ?_)
    obtain ⟨hB0, hB1, hB2, hB3, hB4, hB5, hB6, hB7, hB8, hB9⟩ := hB
    have h3 : w4[3]? = some (a 3, .inr (3, [.ref (a 4), .ref (a 5), .ref (a 6), .ref (a 7), .ref (a 8), .ref (a 9), .ref (a 10), .int u3.1, .int ro_mood])) := hB0
    have h12 : w4[12]? = some (a 12, .inl (cI, 12, .inl u3.2.1)) := hB1
    have h10 : w4[10]? = some (a 10, .inr (2, [.ref (a 11), .ref (a 12), .long u3.2.2.1, .int u3.2.2.2.1, .int u3.2.2.2.2.1, .int u3.2.2.2.2.2.1, .int le_isKept])) := hB2
    have h4 : w4[4]? = some (a 4, .inl (cI, 12, .inl u3.2.2.2.2.2.2.1)) := hB3
    have h5 : w4[5]? = some (a 5, .inl (cI, 12, .inl u3.2.2.2.2.2.2.2.1)) := hB4
    have h6 : w4[6]? = some (a 6, .inl (cI, 12, .inl u3.2.2.2.2.2.2.2.2.1)) := hB5
    have h7 : w4[7]? = some (a 7, .inl (cI, 12, .inl u3.2.2.2.2.2.2.2.2.2.1)) := hB6
    have h8 : w4[8]? = some (a 8, .inl (cI, 12, .inl u3.2.2.2.2.2.2.2.2.2.2.1)) := hB7
    have h9 : w4[9]? = some (a 9, .inl (cI, 12, .inl u3.2.2.2.2.2.2.2.2.2.2.2.1)) := hB8
    have h11 : w4[11]? = some (a 11, .inl (cI, 12, .inl u3.2.2.2.2.2.2.2.2.2.2.2.2)) := hB9
    have h0 := (hk 0 (by simp only [List.mem_cons, List.not_mem_nil, or_false, not_or]; omega)).trans h0
    have h1 := (hk 1 (by simp only [List.mem_cons, List.not_mem_nil, or_false, not_or]; omega)).trans h1
    have h2 := (hk 2 (by simp only [List.mem_cons, List.not_mem_nil, or_false, not_or]; omega)).trans h2
    have h22 := (hk 22 (by simp only [List.mem_cons, List.not_mem_nil, or_false, not_or]; omega)).trans h22
    have h25 := (hk 25 (by simp only [List.mem_cons, List.not_mem_nil, or_false, not_or]; omega)).trans h25
    replace hs := st_tr hk (fun j hj => by simp only [List.mem_cons, List.not_mem_nil, or_false] at hj ⊢; omega) hs
    refine lv_aload_n hx hb dX8_room_26 rfl (lv_at hl 0 rfl) ?_
    refine gf_X8_40 hx hb hts hown hK hP h0 dX8_room_27 ?_
    refine lv_iconst (v := (0 : Int32)) hx hb dX8_room_30 (by decide) ?_
    refine pf_X8_80 hx hb hts hown hK hN hP hD hS h22 (by decide) (by decide) dX8_room_31 (fun w5 H locs hP hD hk hc hS => ?_)
    have h22 : w5[22]? = some (a 22, .inr (2, [.ref (a 23), .ref (a 24), .long s1_seed, .int s1_questions, .int s1_rightOnes, .int s1_wrongOnes, .int (0 : Int32)])) := hc
    have h0 := (hk 0 (by omega)).trans h0
    have h1 := (hk 1 (by omega)).trans h1
    have h2 := (hk 2 (by omega)).trans h2
    have h3 := (hk 3 (by omega)).trans h3
    have h4 := (hk 4 (by omega)).trans h4
    have h5 := (hk 5 (by omega)).trans h5
    have h6 := (hk 6 (by omega)).trans h6
    have h7 := (hk 7 (by omega)).trans h7
    have h8 := (hk 8 (by omega)).trans h8
    have h9 := (hk 9 (by omega)).trans h9
    have h10 := (hk 10 (by omega)).trans h10
    have h11 := (hk 11 (by omega)).trans h11
    have h12 := (hk 12 (by omega)).trans h12
    have h25 := (hk 25 (by omega)).trans h25
    replace hs := sm_k hk (by simp) hs
    refine lv_aload_n hx hb dX8_room_34 rfl (lv_at hl 0 rfl) ?_
    refine gf_X8_44 hx hb hts hown hK hP h0 dX8_room_35 ?_
    refine lv_iconst (v := (0 : Int32)) hx hb dX8_room_38 (by decide) ?_
    refine pf_X8_80 hx hb hts hown hK hN hP hD hS h25 (by decide) (by decide) dX8_room_39 (fun w6 H locs hP hD hk hc hS => ?_)
    have h25 : w6[25]? = some (a 25, .inr (2, [.ref (a 26), .ref (a 27), .long s2_seed, .int s2_questions, .int s2_rightOnes, .int s2_wrongOnes, .int (0 : Int32)])) := hc
    have h0 := (hk 0 (by omega)).trans h0
    have h1 := (hk 1 (by omega)).trans h1
    have h2 := (hk 2 (by omega)).trans h2
    have h3 := (hk 3 (by omega)).trans h3
    have h4 := (hk 4 (by omega)).trans h4
    have h5 := (hk 5 (by omega)).trans h5
    have h6 := (hk 6 (by omega)).trans h6
    have h7 := (hk 7 (by omega)).trans h7
    have h8 := (hk 8 (by omega)).trans h8
    have h9 := (hk 9 (by omega)).trans h9
    have h10 := (hk 10 (by omega)).trans h10
    have h11 := (hk 11 (by omega)).trans h11
    have h12 := (hk 12 (by omega)).trans h12
    have h22 := (hk 22 (by omega)).trans h22
    replace hs := sm_k hk (by simp) hs
    refine lv_aload_n hx hb dX8_room_42 rfl (lv_at hl 0 rfl) ?_
    refine gf_X8_19 hx hb hts hown hK hP h0 dX8_room_43 ?_
    refine gf_X8_84 hx hb hts hown hK hN hP h3 dX8_room_46 ?_
    obtain rfl := Option.some.inj hF
    rw [hQ]
    exact rw_i X hS hP hD hs ⟨h3, h12, h10, h4, h5, h6, h7, h8, h9, h11, h22, h25⟩ dX8_room_49
  · replace hF := (if_neg c2).symm.trans hF
    refine lv_bipush (v := (-3 : Int32)) hx hb dX8_room_12 (by decide) ?_
    obtain rfl := Option.some.inj hF
    rw [hQ]
    exact rw_i X hS hP hD hs ⟨h3, h12, h10, h4, h5, h6, h7, h8, h9, h11, h22, h25⟩ dX8_room_14
def FX3_lacks (ro_pupils : Int32) (p1 : Int32) : Bool :=
  FX8_outside p1 (0 : Int32) (ro_pupils - (1 : Int32))
def rm_X3_lacks : Room := { frames := 1, cells := 0, slots := 0, locals := 22 }
set_option maxHeartbeats 4000000 in
set_option maxRecDepth 100000 in
theorem c_X3_lacks (l : Launch) (D : va_G) (cI cJ cZ : ClassId) (a : Nat → Nat) (ws0 : va_W)  (ro_pupils : Int32) (ro_mood : Int32) (p1 : Int32) (u : Bool) (hF : FX3_lacks ro_pupils p1 = u) (h3 : ws0[3]? = some (a 3, .inr (3, [.ref (a 4), .ref (a 5), .ref (a 6), .ref (a 7), .ref (a 8), .ref (a 9), .ref (a 10), .int ro_pupils, .int ro_mood]))) : Met l yX3_lacks (wq yX3_lacks cX3_lacks 2 (some .boolean)) rm_X3_lacks (Pq [.ref (a 3), .int p1] D cI cJ cZ ws0) (Qq (some (.int (bi u)))) 0 0 (fun _ => False) := by
  refine mq_of (by decide) (Nat.le_of_ble_eq_true rfl) (fun p e s m args below meth c ls Q hQ X _ hP hl => ?_)
  obtain ⟨hx, hb, hr, hml, hown, hts, hlk, hK, hN⟩ := id X
  have hown : s.vm.findClass RX3 = some m.cls := hown
  have hl : lv_has ls 2 [(0, .ref (a 3)), (1, .int p1)] := hl
  unfold FX3_lacks at hF
  refine lv_iload_n hx hb dX3_lacks_0 rfl (lv_at hl 1 rfl) ?_
  refine lv_iconst (v := (0 : Int32)) hx hb dX3_lacks_1 (by decide) ?_
  refine lv_aload_n hx hb dX3_lacks_2 rfl (lv_at hl 0 rfl) ?_
  refine gf_X3_46 hx hb hts hown hK hP h3 dX3_lacks_3 ?_
  refine lv_iconst (v := (1 : Int32)) hx hb dX3_lacks_6 (by decide) ?_
  refine lv_isub hx hb dX3_lacks_7 ?_
  refine rd_i (runSN (As := [.int p1, .int (0 : Int32), .int (ro_pupils - (1 : Int32))]) (rest := []) X cq_X8_outside lk_X3_66 (c_X8_outside l D cI cJ cZ a ws0 p1 (0 : Int32) (ro_pupils - (1 : Int32)) _ rfl ) rfl rfl ⟨Nat.le_of_ble_eq_true rfl, Nat.le_of_ble_eq_true rfl⟩ hP rfl hl.1 rfl (Nat.le_of_ble_eq_true rfl) dX3_lacks_8 ⟨Nat.le_of_ble_eq_true rfl, Nat.le_of_ble_eq_true rfl⟩) ?_
  subst hF
  rw [hQ]
  exact rt_z (b := FX8_outside p1 (0 : Int32) (ro_pupils - (1 : Int32))) X dX3_lacks_11
def FX3_isF (ro_letters : Nat → Int32) (p1 : Int32) : Bool :=
  if (gat ro_letters 12 p1) = (70 : Int32) then true else false
def rm_X3_isF : Room := { frames := 1, cells := 0, slots := 0, locals := 21 }
set_option maxHeartbeats 4000000 in
set_option maxRecDepth 100000 in
theorem c_X3_isF (l : Launch) (D : va_G) (cI cJ cZ : ClassId) (a : Nat → Nat) (ws0 : va_W)  (ro_pupils : Int32) (ro_mood : Int32) (ro_letters : Nat → Int32) (p1 : Int32) (u : Bool) (hF : FX3_isF ro_letters p1 = u) (h3 : ws0[3]? = some (a 3, .inr (3, [.ref (a 4), .ref (a 5), .ref (a 6), .ref (a 7), .ref (a 8), .ref (a 9), .ref (a 10), .int ro_pupils, .int ro_mood]))) (h4 : ws0[4]? = some (a 4, .inl (cI, 12, .inl ro_letters))) : Met l yX3_isF (wq yX3_isF cX3_isF 2 (some .boolean)) rm_X3_isF (Pq [.ref (a 3), .int p1] D cI cJ cZ ws0) (Qq (some (.int (bi u)))) 0 0 (fun _ => False) := by
  refine mq_of (by decide) (Nat.le_of_ble_eq_true rfl) (fun p e s m args below meth c ls Q hQ X _ hP hl => ?_)
  obtain ⟨hx, hb, hr, hml, hown, hts, hlk, hK, hN⟩ := id X
  have hown : s.vm.findClass RX3 = some m.cls := hown
  have hl : lv_has ls 2 [(0, .ref (a 3)), (1, .int p1)] := hl
  unfold FX3_isF at hF
  refine lv_aload_n hx hb dX3_isF_0 rfl (lv_at hl 0 rfl) ?_
  refine gf_X3_9 hx hb hts hown hK hP h3 dX3_isF_1 ?_
  refine lv_iload_n hx hb dX3_isF_4 rfl (lv_at hl 1 rfl) ?_
  refine rd_i (runSN (As := [.ref (a 4), .int p1]) (rest := []) X cq_X8_at lk_X3_74 (t_X8_at l D cI cJ cZ a ws0 4 ro_letters 12 p1 _ rfl h4 (by decide)) rfl rfl ⟨Nat.le_of_ble_eq_true rfl, Nat.le_of_ble_eq_true rfl⟩ hP rfl hl.1 rfl (Nat.le_of_ble_eq_true rfl) dX3_isF_5 ⟨Nat.le_of_ble_eq_true rfl, Nat.le_of_ble_eq_true rfl⟩) ?_
  refine lv_bipush (v := (70 : Int32)) hx hb dX3_isF_8 (by decide) ?_
  refine lv_icmp_ne (tgt := 17) hx hb dX3_isF_10 (by decide) (fun c1 => ?_) (fun c1 => ?_)
  · replace hF := (if_neg c1).symm.trans hF
    refine lv_iconst (v := (0 : Int32)) hx hb dX3_isF_17 (by decide) ?_
    subst hF
    rw [hQ]
    exact rt_z (b := false) X dX3_isF_18
  · replace hF := (if_pos c1).symm.trans hF
    refine lv_iconst (v := (1 : Int32)) hx hb dX3_isF_13 (by decide) ?_
    refine lv_goto (tgt := 18) hx hb dX3_isF_14 (by decide) ?_
    subst hF
    rw [hQ]
    exact rt_z (b := true) X dX3_isF_18
def FX3_tell (ro_rows : Nat → Int32) (ro_columns : Nat → Int32) (ro_tenths : Nat → Int32) (ro_needs : Nat → Int32) (ro_toldDares : Nat → Int32) (ro_letters : Nat → Int32) (le_dares : Nat → Int32) (le_times : Nat → Int32) (p1 : Int32) (p2 : Int32) : Int32 :=
  if p2 = (0 : Int32) then (gat ro_rows 12 p1) else if p2 = (1 : Int32) then (gat ro_columns 12 p1) else if p2 = (2 : Int32) then (gat ro_tenths 12 p1) else if p2 = (3 : Int32) then (gat ro_needs 12 p1) else if p2 = (4 : Int32) then (gat ro_toldDares 12 p1) else if p2 = (5 : Int32) then (if (FX3_isF ro_letters p1) = true then ((1 : Int32)) else ((0 : Int32))) else if p2 = (6 : Int32) then (gat le_dares 12 p1) else gat le_times 12 p1
def rm_X3_tell : Room := { frames := 2, cells := 0, slots := 0, locals := 42 }
set_option maxHeartbeats 4000000 in
set_option maxRecDepth 100000 in
theorem c_X3_tell (l : Launch) (D : va_G) (cI cJ cZ : ClassId) (a : Nat → Nat) (ws0 : va_W)  (ro_pupils : Int32) (ro_mood : Int32) (ro_rows : Nat → Int32) (ro_columns : Nat → Int32) (ro_tenths : Nat → Int32) (ro_needs : Nat → Int32) (ro_toldDares : Nat → Int32) (ro_letters : Nat → Int32) (le_seed : Int64) (le_questions : Int32) (le_rightOnes : Int32) (le_wrongOnes : Int32) (le_isKept : Int32) (le_dares : Nat → Int32) (le_times : Nat → Int32) (p1 : Int32) (p2 : Int32) (u : Int32) (hF : FX3_tell ro_rows ro_columns ro_tenths ro_needs ro_toldDares ro_letters le_dares le_times p1 p2 = u) (h3 : ws0[3]? = some (a 3, .inr (3, [.ref (a 4), .ref (a 5), .ref (a 6), .ref (a 7), .ref (a 8), .ref (a 9), .ref (a 10), .int ro_pupils, .int ro_mood]))) (h4 : ws0[4]? = some (a 4, .inl (cI, 12, .inl ro_letters))) (h5 : ws0[5]? = some (a 5, .inl (cI, 12, .inl ro_rows))) (h6 : ws0[6]? = some (a 6, .inl (cI, 12, .inl ro_columns))) (h7 : ws0[7]? = some (a 7, .inl (cI, 12, .inl ro_tenths))) (h8 : ws0[8]? = some (a 8, .inl (cI, 12, .inl ro_needs))) (h9 : ws0[9]? = some (a 9, .inl (cI, 12, .inl ro_toldDares))) (h10 : ws0[10]? = some (a 10, .inr (2, [.ref (a 11), .ref (a 12), .long le_seed, .int le_questions, .int le_rightOnes, .int le_wrongOnes, .int le_isKept]))) (h11 : ws0[11]? = some (a 11, .inl (cI, 12, .inl le_dares))) (h12 : ws0[12]? = some (a 12, .inl (cI, 12, .inl le_times))) : Met l yX3_tell (wq yX3_tell cX3_tell 3 (some .int)) rm_X3_tell (Pq [.ref (a 3), .int p1, .int p2] D cI cJ cZ ws0) (Qq (some (.int u))) 0 0 (fun _ => False) := by
  refine mq_of (by decide) (Nat.le_of_ble_eq_true rfl) (fun p e s m args below meth c ls Q hQ X _ hP hl => ?_)
  obtain ⟨hx, hb, hr, hml, hown, hts, hlk, hK, hN⟩ := id X
  have hown : s.vm.findClass RX3 = some m.cls := hown
  have hl : lv_has ls 3 [(0, .ref (a 3)), (1, .int p1), (2, .int p2)] := hl
  unfold FX3_tell at hF
  refine lv_iload_n hx hb dX3_tell_0 rfl (lv_at hl 2 rfl) ?_
  by_cases c1 : p2 = (0 : Int32)
  · replace hF := (if_pos c1).symm.trans hF
    refine lv_tableIn (tgt := 44) (off := 43) hx hb dX3_tell_1 (by rw [c1]; decide) (by rw [c1]; decide) (by rw [c1]; rfl) (by decide) ?_
    refine lv_aload_n hx hb dX3_tell_44 rfl (lv_at hl 0 rfl) ?_
    refine gf_X3_15 hx hb hts hown hK hP h3 dX3_tell_45 ?_
    refine lv_iload_n hx hb dX3_tell_48 rfl (lv_at hl 1 rfl) ?_
    refine rd_i (runSN (As := [.ref (a 5), .int p1]) (rest := []) X cq_X8_at lk_X3_74 (t_X8_at l D cI cJ cZ a ws0 5 ro_rows 12 p1 _ rfl h5 (by decide)) rfl rfl ⟨Nat.le_of_ble_eq_true rfl, Nat.le_of_ble_eq_true rfl⟩ hP rfl hl.1 rfl (Nat.le_of_ble_eq_true rfl) dX3_tell_49 ⟨Nat.le_of_ble_eq_true rfl, Nat.le_of_ble_eq_true rfl⟩) ?_
    subst hF
    rw [hQ]
    exact rt_i X dX3_tell_52
  replace hF := (if_neg c1).symm.trans hF
  by_cases c2 : p2 = (1 : Int32)
  · replace hF := (if_pos c2).symm.trans hF
    refine lv_tableIn (tgt := 53) (off := 52) hx hb dX3_tell_1 (by rw [c2]; decide) (by rw [c2]; decide) (by rw [c2]; rfl) (by decide) ?_
    refine lv_aload_n hx hb dX3_tell_53 rfl (lv_at hl 0 rfl) ?_
    refine gf_X3_18 hx hb hts hown hK hP h3 dX3_tell_54 ?_
    refine lv_iload_n hx hb dX3_tell_57 rfl (lv_at hl 1 rfl) ?_
    refine rd_i (runSN (As := [.ref (a 6), .int p1]) (rest := []) X cq_X8_at lk_X3_74 (t_X8_at l D cI cJ cZ a ws0 6 ro_columns 12 p1 _ rfl h6 (by decide)) rfl rfl ⟨Nat.le_of_ble_eq_true rfl, Nat.le_of_ble_eq_true rfl⟩ hP rfl hl.1 rfl (Nat.le_of_ble_eq_true rfl) dX3_tell_58 ⟨Nat.le_of_ble_eq_true rfl, Nat.le_of_ble_eq_true rfl⟩) ?_
    subst hF
    rw [hQ]
    exact rt_i X dX3_tell_61
  replace hF := (if_neg c2).symm.trans hF
  by_cases c3 : p2 = (2 : Int32)
  · replace hF := (if_pos c3).symm.trans hF
    refine lv_tableIn (tgt := 62) (off := 61) hx hb dX3_tell_1 (by rw [c3]; decide) (by rw [c3]; decide) (by rw [c3]; rfl) (by decide) ?_
    refine lv_aload_n hx hb dX3_tell_62 rfl (lv_at hl 0 rfl) ?_
    refine gf_X3_21 hx hb hts hown hK hP h3 dX3_tell_63 ?_
    refine lv_iload_n hx hb dX3_tell_66 rfl (lv_at hl 1 rfl) ?_
    refine rd_i (runSN (As := [.ref (a 7), .int p1]) (rest := []) X cq_X8_at lk_X3_74 (t_X8_at l D cI cJ cZ a ws0 7 ro_tenths 12 p1 _ rfl h7 (by decide)) rfl rfl ⟨Nat.le_of_ble_eq_true rfl, Nat.le_of_ble_eq_true rfl⟩ hP rfl hl.1 rfl (Nat.le_of_ble_eq_true rfl) dX3_tell_67 ⟨Nat.le_of_ble_eq_true rfl, Nat.le_of_ble_eq_true rfl⟩) ?_
    subst hF
    rw [hQ]
    exact rt_i X dX3_tell_70
  replace hF := (if_neg c3).symm.trans hF
  by_cases c4 : p2 = (3 : Int32)
  · replace hF := (if_pos c4).symm.trans hF
    refine lv_tableIn (tgt := 71) (off := 70) hx hb dX3_tell_1 (by rw [c4]; decide) (by rw [c4]; decide) (by rw [c4]; rfl) (by decide) ?_
    refine lv_aload_n hx hb dX3_tell_71 rfl (lv_at hl 0 rfl) ?_
    refine gf_X3_24 hx hb hts hown hK hP h3 dX3_tell_72 ?_
    refine lv_iload_n hx hb dX3_tell_75 rfl (lv_at hl 1 rfl) ?_
    refine rd_i (runSN (As := [.ref (a 8), .int p1]) (rest := []) X cq_X8_at lk_X3_74 (t_X8_at l D cI cJ cZ a ws0 8 ro_needs 12 p1 _ rfl h8 (by decide)) rfl rfl ⟨Nat.le_of_ble_eq_true rfl, Nat.le_of_ble_eq_true rfl⟩ hP rfl hl.1 rfl (Nat.le_of_ble_eq_true rfl) dX3_tell_76 ⟨Nat.le_of_ble_eq_true rfl, Nat.le_of_ble_eq_true rfl⟩) ?_
    subst hF
    rw [hQ]
    exact rt_i X dX3_tell_79
  replace hF := (if_neg c4).symm.trans hF
  by_cases c5 : p2 = (4 : Int32)
  · replace hF := (if_pos c5).symm.trans hF
    refine lv_tableIn (tgt := 80) (off := 79) hx hb dX3_tell_1 (by rw [c5]; decide) (by rw [c5]; decide) (by rw [c5]; rfl) (by decide) ?_
    refine lv_aload_n hx hb dX3_tell_80 rfl (lv_at hl 0 rfl) ?_
    refine gf_X3_27 hx hb hts hown hK hP h3 dX3_tell_81 ?_
    refine lv_iload_n hx hb dX3_tell_84 rfl (lv_at hl 1 rfl) ?_
    refine rd_i (runSN (As := [.ref (a 9), .int p1]) (rest := []) X cq_X8_at lk_X3_74 (t_X8_at l D cI cJ cZ a ws0 9 ro_toldDares 12 p1 _ rfl h9 (by decide)) rfl rfl ⟨Nat.le_of_ble_eq_true rfl, Nat.le_of_ble_eq_true rfl⟩ hP rfl hl.1 rfl (Nat.le_of_ble_eq_true rfl) dX3_tell_85 ⟨Nat.le_of_ble_eq_true rfl, Nat.le_of_ble_eq_true rfl⟩) ?_
    subst hF
    rw [hQ]
    exact rt_i X dX3_tell_88
  replace hF := (if_neg c5).symm.trans hF
  by_cases c6 : p2 = (5 : Int32)
  · replace hF := (if_pos c6).symm.trans hF
    refine lv_tableIn (tgt := 89) (off := 88) hx hb dX3_tell_1 (by rw [c6]; decide) (by rw [c6]; decide) (by rw [c6]; rfl) (by decide) ?_
    refine lv_aload_n hx hb dX3_tell_89 rfl (lv_at hl 0 rfl) ?_
    refine lv_iload_n hx hb dX3_tell_90 rfl (lv_at hl 1 rfl) ?_
    refine rd_i (runV (As := [.int p1]) (rest := []) X cq_X3_isF lk_X3_78 (c_X3_isF l D cI cJ cZ a ws0 ro_pupils ro_mood ro_letters p1 _ rfl h3 h4) rfl rfl ⟨Nat.le_of_ble_eq_true rfl, Nat.le_of_ble_eq_true rfl⟩ hP h3 rfl rfl hl.1 rfl (Nat.le_of_ble_eq_true rfl) dX3_tell_91 ⟨Nat.le_of_ble_eq_true rfl, Nat.le_of_ble_eq_true rfl⟩) ?_
    refine zf_eq (tgt := 101) hx hb dX3_tell_94 (by decide) (fun c7 => ?_) (fun c7 => ?_)
    · replace hF := (if_neg c7).symm.trans hF
      refine lv_iconst (v := (0 : Int32)) hx hb dX3_tell_101 (by decide) ?_
      subst hF
      rw [hQ]
      exact rt_i X dX3_tell_102
    · replace hF := (if_pos c7).symm.trans hF
      refine lv_iconst (v := (1 : Int32)) hx hb dX3_tell_97 (by decide) ?_
      refine lv_goto (tgt := 102) hx hb dX3_tell_98 (by decide) ?_
      subst hF
      rw [hQ]
      exact rt_i X dX3_tell_102
  replace hF := (if_neg c6).symm.trans hF
  by_cases c8 : p2 = (6 : Int32)
  · replace hF := (if_pos c8).symm.trans hF
    refine lv_tableIn (tgt := 103) (off := 102) hx hb dX3_tell_1 (by rw [c8]; decide) (by rw [c8]; decide) (by rw [c8]; rfl) (by decide) ?_
    refine lv_aload_n hx hb dX3_tell_103 rfl (lv_at hl 0 rfl) ?_
    refine gf_X3_33 hx hb hts hown hK hP h3 dX3_tell_104 ?_
    refine gf_X3_63 hx hb hts hown hK hN hP h10 dX3_tell_107 ?_
    refine lv_iload_n hx hb dX3_tell_110 rfl (lv_at hl 1 rfl) ?_
    refine rd_i (runSN (As := [.ref (a 11), .int p1]) (rest := []) X cq_X8_at lk_X3_74 (t_X8_at l D cI cJ cZ a ws0 11 le_dares 12 p1 _ rfl h11 (by decide)) rfl rfl ⟨Nat.le_of_ble_eq_true rfl, Nat.le_of_ble_eq_true rfl⟩ hP rfl hl.1 rfl (Nat.le_of_ble_eq_true rfl) dX3_tell_111 ⟨Nat.le_of_ble_eq_true rfl, Nat.le_of_ble_eq_true rfl⟩) ?_
    subst hF
    rw [hQ]
    exact rt_i X dX3_tell_114
  replace hF := (if_neg c8).symm.trans hF
  have zc1 : ¬ p2.toInt = 0 := fun q => c1 (Int32.toInt_inj.mp (q.trans (by decide)))
  have zc2 : ¬ p2.toInt = 1 := fun q => c2 (Int32.toInt_inj.mp (q.trans (by decide)))
  have zc3 : ¬ p2.toInt = 2 := fun q => c3 (Int32.toInt_inj.mp (q.trans (by decide)))
  have zc4 : ¬ p2.toInt = 3 := fun q => c4 (Int32.toInt_inj.mp (q.trans (by decide)))
  have zc5 : ¬ p2.toInt = 4 := fun q => c5 (Int32.toInt_inj.mp (q.trans (by decide)))
  have zc6 : ¬ p2.toInt = 5 := fun q => c6 (Int32.toInt_inj.mp (q.trans (by decide)))
  have zc8 : ¬ p2.toInt = 6 := fun q => c8 (Int32.toInt_inj.mp (q.trans (by decide)))
  refine lv_tableOut (tgt := 115) hx hb dX3_tell_1 (by omega) (by decide) ?_
  refine lv_aload_n hx hb dX3_tell_115 rfl (lv_at hl 0 rfl) ?_
  refine gf_X3_33 hx hb hts hown hK hP h3 dX3_tell_116 ?_
  refine gf_X3_82 hx hb hts hown hK hN hP h10 dX3_tell_119 ?_
  refine lv_iload_n hx hb dX3_tell_122 rfl (lv_at hl 1 rfl) ?_
  refine rd_i (runSN (As := [.ref (a 12), .int p1]) (rest := []) X cq_X8_at lk_X3_74 (t_X8_at l D cI cJ cZ a ws0 12 le_times 12 p1 _ rfl h12 (by decide)) rfl rfl ⟨Nat.le_of_ble_eq_true rfl, Nat.le_of_ble_eq_true rfl⟩ hP rfl hl.1 rfl (Nat.le_of_ble_eq_true rfl) dX3_tell_123 ⟨Nat.le_of_ble_eq_true rfl, Nat.le_of_ble_eq_true rfl⟩) ?_
  subst hF
  rw [hQ]
  exact rt_i X dX3_tell_126
def FX8_about (ro_pupils : Int32) (ro_letters : Nat → Int32) (ro_rows : Nat → Int32) (ro_columns : Nat → Int32) (ro_tenths : Nat → Int32) (ro_needs : Nat → Int32) (ro_toldDares : Nat → Int32) (le_dares : Nat → Int32) (le_times : Nat → Int32) (p1 : Int32) (p2 : Int32) : Int32 :=
  if (FX3_lacks ro_pupils p1) = true then ((-1 : Int32)) else (if (FX8_outside p2 (0 : Int32) (7 : Int32)) = true then ((-2 : Int32)) else (FX3_tell ro_rows ro_columns ro_tenths ro_needs ro_toldDares ro_letters le_dares le_times p1 p2))
def rm_X8_about : Room := { frames := 3, cells := 0, slots := 0, locals := 64 }
set_option maxHeartbeats 4000000 in
set_option maxRecDepth 100000 in
theorem c_X8_about (l : Launch) (D : va_G) (cI cJ cZ : ClassId) (a : Nat → Nat) (ws0 : va_W)  (ro_pupils : Int32) (ro_mood : Int32) (ro_letters : Nat → Int32) (ro_rows : Nat → Int32) (ro_columns : Nat → Int32) (ro_tenths : Nat → Int32) (ro_needs : Nat → Int32) (ro_toldDares : Nat → Int32) (le_seed : Int64) (le_questions : Int32) (le_rightOnes : Int32) (le_wrongOnes : Int32) (le_isKept : Int32) (le_dares : Nat → Int32) (le_times : Nat → Int32) (p1 : Int32) (p2 : Int32) (u : Int32) (hF : FX8_about ro_pupils ro_letters ro_rows ro_columns ro_tenths ro_needs ro_toldDares le_dares le_times p1 p2 = u) (h0 : ws0[0]? = some (a 0, .inr (8, [.ref (a 1), .ref (a 3), .ref (a 13), .ref (a 16), .ref (a 22), .ref (a 25), .ref (a 28), .ref (a 33)]))) (h3 : ws0[3]? = some (a 3, .inr (3, [.ref (a 4), .ref (a 5), .ref (a 6), .ref (a 7), .ref (a 8), .ref (a 9), .ref (a 10), .int ro_pupils, .int ro_mood]))) (h4 : ws0[4]? = some (a 4, .inl (cI, 12, .inl ro_letters))) (h5 : ws0[5]? = some (a 5, .inl (cI, 12, .inl ro_rows))) (h6 : ws0[6]? = some (a 6, .inl (cI, 12, .inl ro_columns))) (h7 : ws0[7]? = some (a 7, .inl (cI, 12, .inl ro_tenths))) (h8 : ws0[8]? = some (a 8, .inl (cI, 12, .inl ro_needs))) (h9 : ws0[9]? = some (a 9, .inl (cI, 12, .inl ro_toldDares))) (h10 : ws0[10]? = some (a 10, .inr (2, [.ref (a 11), .ref (a 12), .long le_seed, .int le_questions, .int le_rightOnes, .int le_wrongOnes, .int le_isKept]))) (h11 : ws0[11]? = some (a 11, .inl (cI, 12, .inl le_dares))) (h12 : ws0[12]? = some (a 12, .inl (cI, 12, .inl le_times))) : Met l yX8_about (wq yX8_about cX8_about 3 (some .int)) rm_X8_about (Pq [.ref (a 0), .int p1, .int p2] D cI cJ cZ ws0) (Qq (some (.int u))) 0 0 (fun _ => False) := by
  refine mq_of (by decide) (Nat.le_of_ble_eq_true rfl) (fun p e s m args below meth c ls Q hQ X _ hP hl => ?_)
  obtain ⟨hx, hb, hr, hml, hown, hts, hlk, hK, hN⟩ := id X
  have hown : s.vm.findClass RX8 = some m.cls := hown
  have hl : lv_has ls 3 [(0, .ref (a 0)), (1, .int p1), (2, .int p2)] := hl
  unfold FX8_about at hF
  refine lv_aload_n hx hb dX8_about_0 rfl (lv_at hl 0 rfl) ?_
  refine gf_X8_19 hx hb hts hown hK hP h0 dX8_about_1 ?_
  refine lv_iload_n hx hb dX8_about_4 rfl (lv_at hl 1 rfl) ?_
  refine rd_i (runVN (As := [.int p1]) (rest := []) X cq_X3_lacks lk_X8_88 (c_X3_lacks l D cI cJ cZ a ws0 ro_pupils ro_mood p1 _ rfl h3) rfl rfl ⟨Nat.le_of_ble_eq_true rfl, Nat.le_of_ble_eq_true rfl⟩ hP h3 rfl rfl hl.1 rfl (Nat.le_of_ble_eq_true rfl) dX8_about_5 ⟨Nat.le_of_ble_eq_true rfl, Nat.le_of_ble_eq_true rfl⟩) ?_
  refine zf_eq (tgt := 13) hx hb dX8_about_8 (by decide) (fun c1 => ?_) (fun c1 => ?_)
  · replace hF := (if_neg c1).symm.trans hF
    refine lv_iload_n hx hb dX8_about_13 rfl (lv_at hl 2 rfl) ?_
    refine lv_iconst (v := (0 : Int32)) hx hb dX8_about_14 (by decide) ?_
    refine lv_bipush (v := (7 : Int32)) hx hb dX8_about_15 (by decide) ?_
    refine rd_i (runS (As := [.int p2, .int (0 : Int32), .int (7 : Int32)]) (rest := []) X cq_X8_outside lk_X8_61 (c_X8_outside l D cI cJ cZ a ws0 p2 (0 : Int32) (7 : Int32) _ rfl ) rfl rfl ⟨Nat.le_of_ble_eq_true rfl, Nat.le_of_ble_eq_true rfl⟩ hP rfl hl.1 rfl (Nat.le_of_ble_eq_true rfl) dX8_about_17 ⟨Nat.le_of_ble_eq_true rfl, Nat.le_of_ble_eq_true rfl⟩) ?_
    refine zf_eq (tgt := 28) hx hb dX8_about_20 (by decide) (fun c2 => ?_) (fun c2 => ?_)
    · replace hF := (if_neg c2).symm.trans hF
      refine lv_aload_n hx hb dX8_about_28 rfl (lv_at hl 0 rfl) ?_
      refine gf_X8_19 hx hb hts hown hK hP h0 dX8_about_29 ?_
      refine lv_iload_n hx hb dX8_about_32 rfl (lv_at hl 1 rfl) ?_
      refine lv_iload_n hx hb dX8_about_33 rfl (lv_at hl 2 rfl) ?_
      refine rd_i (runVN (As := [.int p1, .int p2]) (rest := []) X cq_X3_tell lk_X8_92 (c_X3_tell l D cI cJ cZ a ws0 ro_pupils ro_mood ro_rows ro_columns ro_tenths ro_needs ro_toldDares ro_letters le_seed le_questions le_rightOnes le_wrongOnes le_isKept le_dares le_times p1 p2 _ rfl h3 h4 h5 h6 h7 h8 h9 h10 h11 h12) rfl rfl ⟨Nat.le_of_ble_eq_true rfl, Nat.le_of_ble_eq_true rfl⟩ hP h3 rfl rfl hl.1 rfl (Nat.le_of_ble_eq_true rfl) dX8_about_34 ⟨Nat.le_of_ble_eq_true rfl, Nat.le_of_ble_eq_true rfl⟩) ?_
      subst hF
      rw [hQ]
      exact rt_i X dX8_about_37
    · replace hF := (if_pos c2).symm.trans hF
      refine lv_bipush (v := (-2 : Int32)) hx hb dX8_about_23 (by decide) ?_
      refine lv_goto (tgt := 37) hx hb dX8_about_25 (by decide) ?_
      subst hF
      rw [hQ]
      exact rt_i X dX8_about_37
  · replace hF := (if_pos c1).symm.trans hF
    refine lv_iconst (v := (-1 : Int32)) hx hb dX8_about_11 (by decide) ?_
    subst hF
    rw [hQ]
    exact rt_i X dX8_about_12
def FX8_mood (ro_mood : Int32) (p1 : Int32) : Int32 × Int32 :=
  if (FX8_outside p1 (0 : Int32) (9 : Int32)) = true then (((-2 : Int32), ro_mood)) else ((ro_mood, p1))
def rm_X8_mood : Room := { frames := 1, cells := 0, slots := 0, locals := 22 }
set_option maxHeartbeats 4000000 in
set_option maxRecDepth 100000 in
theorem c_X8_mood (l : Launch) (D : va_G) (cI cJ cZ : ClassId) (a : Nat → Nat) (ws0 : va_W) (A : Nat → Prop)  (ro_pupils : Int32) (ro_mood : Int32) (p1 : Int32) (u : Int32 × Int32) (hF : FX8_mood ro_mood p1 = u) (z0 : ws0[0]? = some (a 0, .inr (8, [.ref (a 1), .ref (a 3), .ref (a 13), .ref (a 16), .ref (a 22), .ref (a 25), .ref (a 28), .ref (a 33)]))) (z3 : ws0[3]? = some (a 3, .inr (3, [.ref (a 4), .ref (a 5), .ref (a 6), .ref (a 7), .ref (a 8), .ref (a 9), .ref (a 10), .int ro_pupils, .int ro_mood]))) (hD : va_D A ws0) : Met l yX8_mood (wq yX8_mood cX8_mood 3 (some .int)) rm_X8_mood (Pq [.ref (a 0), .int p1] D cI cJ cZ ws0) (Qw D A ws0 [3] (some (.int u.1)) (fun w => w[3]? = some (a 3, .inr (3, [.ref (a 4), .ref (a 5), .ref (a 6), .ref (a 7), .ref (a 8), .ref (a 9), .ref (a 10), .int ro_pupils, .int u.2])))) 0 0 A := by
  refine mq_of (by decide) (Nat.le_of_ble_eq_true rfl) (fun p e s m args below meth c ls Q hQ X _ hP hl => ?_)
  obtain ⟨hx, hb, hr, hml, hown, hts, hlk, hK, hN⟩ := id X
  have hown : s.vm.findClass RX8 = some m.cls := hown
  have hl : lv_has ls 3 [(0, .ref (a 0)), (1, .int p1)] := hl
  have hS : va_S A s.heap s.heap [] := va_S.rf
  have hs : ∀ j : Nat, j ∉ [3] → ws0[j]? = ws0[j]? := fun _ _ => rfl
  have h0 := z0
  have h3 := z3
  unfold FX8_mood at hF
  refine lv_iload_n hx hb dX8_mood_0 rfl (lv_at hl 1 rfl) ?_
  refine lv_iconst (v := (0 : Int32)) hx hb dX8_mood_1 (by decide) ?_
  refine lv_bipush (v := (9 : Int32)) hx hb dX8_mood_2 (by decide) ?_
  refine rd_i (runS (As := [.int p1, .int (0 : Int32), .int (9 : Int32)]) (rest := []) X cq_X8_outside lk_X8_61 (c_X8_outside l D cI cJ cZ a ws0 p1 (0 : Int32) (9 : Int32) _ rfl ) rfl rfl ⟨Nat.le_of_ble_eq_true rfl, Nat.le_of_ble_eq_true rfl⟩ hP rfl hl.1 rfl (Nat.le_of_ble_eq_true rfl) dX8_mood_4 ⟨Nat.le_of_ble_eq_true rfl, Nat.le_of_ble_eq_true rfl⟩) ?_
  refine zf_eq (tgt := 13) hx hb dX8_mood_7 (by decide) (fun c1 => ?_) (fun c1 => ?_)
  · replace hF := (if_neg c1).symm.trans hF
    refine lv_aload_n hx hb dX8_mood_13 rfl (lv_at hl 0 rfl) ?_
    refine gf_X8_19 hx hb hts hown hK hP h0 dX8_mood_14 ?_
    refine gf_X8_96 hx hb hts hown hK hN hP h3 dX8_mood_17 ?_
    refine lv_istore_n (lv' := [(2, .int ro_mood), (0, .ref (a 0)), (1, .int p1)]) hx hb dX8_mood_20 rfl hl (by decide) rfl (fun ls hl => ?_)
    refine lv_aload_n hx hb dX8_mood_21 rfl (lv_at hl 1 rfl) ?_
    refine gf_X8_19 hx hb hts hown hK hP h0 dX8_mood_22 ?_
    refine lv_iload_n hx hb dX8_mood_25 rfl (lv_at hl 2 rfl) ?_
    refine pf_X8_96 hx hb hts hown hK hN hP hD hS h3 rfl rfl dX8_mood_26 (fun w2 H locs hP hD hk hc hS => ?_)
    have h3 : w2[3]? = some (a 3, .inr (3, [.ref (a 4), .ref (a 5), .ref (a 6), .ref (a 7), .ref (a 8), .ref (a 9), .ref (a 10), .int ro_pupils, .int p1])) := hc
    have h0 := (hk 0 (by omega)).trans h0
    replace hs := sm_k hk (by simp) hs
    refine lv_iload_n hx hb dX8_mood_29 rfl (lv_at hl 0 rfl) ?_
    subst hF
    rw [hQ]
    exact rw_i X hS hP hD hs h3 dX8_mood_30
  · replace hF := (if_pos c1).symm.trans hF
    refine lv_bipush (v := (-2 : Int32)) hx hb dX8_mood_10 (by decide) ?_
    subst hF
    rw [hQ]
    exact rw_i X hS hP hD hs h3 dX8_mood_12
end
