section
-- ===== PART A: goes FIRST, ahead of the names: the tables' words, and 'selects' of the private methods out of them =====
/-- a private method of a class that the tables say can be made, by its rows of tables_1 -/
def lw_okq (q : MethodName × Nat) : Prop := (q.1.cls ≠ "java/lang/invoke/MethodHandle" ∧ q.1.cls ≠ "java/lang/invoke/VarHandle") ∧ Cond.instantiable q.1.cls q.2 ∈ tables_1 ∧ Cond.privateMethod q.1 ∈ tables_1 ∧ Cond.instanceMethod q.1 ∈ tables_1
theorem lw_p0 : lw_okq (⟨"GalleryRows", "refuse", "(I)I"⟩, 12) := ⟨⟨by decide +kernel, by decide +kernel⟩, List.mem_of_getElem? (i := 15) (by decide +kernel), List.mem_of_getElem? (i := 273) (by decide +kernel), List.mem_of_getElem? (i := 274) (by decide +kernel)⟩
theorem lw_p1 : lw_okq (⟨"GalleryRows$Book", "statement", "()V"⟩, 5) := ⟨⟨by decide +kernel, by decide +kernel⟩, List.mem_of_getElem? (i := 70) (by decide +kernel), List.mem_of_getElem? (i := 294) (by decide +kernel), List.mem_of_getElem? (i := 295) (by decide +kernel)⟩
theorem lw_p2 : lw_okq (⟨"GalleryRows$Book", "next", "()I"⟩, 5) := ⟨⟨by decide +kernel, by decide +kernel⟩, List.mem_of_getElem? (i := 70) (by decide +kernel), List.mem_of_getElem? (i := 298) (by decide +kernel), List.mem_of_getElem? (i := 299) (by decide +kernel)⟩
theorem lw_p3 : lw_okq (⟨"GalleryRows$Book", "memberStatement", "()V"⟩, 5) := ⟨⟨by decide +kernel, by decide +kernel⟩, List.mem_of_getElem? (i := 70) (by decide +kernel), List.mem_of_getElem? (i := 302) (by decide +kernel), List.mem_of_getElem? (i := 303) (by decide +kernel)⟩
theorem lw_p4 : lw_okq (⟨"GalleryRows$Book", "letter", "(Z)V"⟩, 5) := ⟨⟨by decide +kernel, by decide +kernel⟩, List.mem_of_getElem? (i := 70) (by decide +kernel), List.mem_of_getElem? (i := 310) (by decide +kernel), List.mem_of_getElem? (i := 311) (by decide +kernel)⟩
theorem lw_p5 : lw_okq (⟨"GalleryRows$Book", "fail", "(I)V"⟩, 5) := ⟨⟨by decide +kernel, by decide +kernel⟩, List.mem_of_getElem? (i := 70) (by decide +kernel), List.mem_of_getElem? (i := 314) (by decide +kernel), List.mem_of_getElem? (i := 315) (by decide +kernel)⟩
theorem lw_p6 : lw_okq (⟨"GalleryRows$Book", "number", "()I"⟩, 5) := ⟨⟨by decide +kernel, by decide +kernel⟩, List.mem_of_getElem? (i := 70) (by decide +kernel), List.mem_of_getElem? (i := 318) (by decide +kernel), List.mem_of_getElem? (i := 319) (by decide +kernel)⟩
theorem lw_p7 : lw_okq (⟨"GalleryRows$Book", "digit", "(I)I"⟩, 5) := ⟨⟨by decide +kernel, by decide +kernel⟩, List.mem_of_getElem? (i := 70) (by decide +kernel), List.mem_of_getElem? (i := 322) (by decide +kernel), List.mem_of_getElem? (i := 323) (by decide +kernel)⟩
theorem lw_p8 : lw_okq (⟨"GalleryRows$Book", "expect", "(C)V"⟩, 5) := ⟨⟨by decide +kernel, by decide +kernel⟩, List.mem_of_getElem? (i := 70) (by decide +kernel), List.mem_of_getElem? (i := 326) (by decide +kernel), List.mem_of_getElem? (i := 327) (by decide +kernel)⟩
theorem lw_p9 : lw_okq (⟨"GalleryRows$Book", "voteStatement", "()V"⟩, 5) := ⟨⟨by decide +kernel, by decide +kernel⟩, List.mem_of_getElem? (i := 70) (by decide +kernel), List.mem_of_getElem? (i := 335) (by decide +kernel), List.mem_of_getElem? (i := 336) (by decide +kernel)⟩
theorem lw_p10 : lw_okq (⟨"GalleryRows$Book", "word", "(Z)I"⟩, 5) := ⟨⟨by decide +kernel, by decide +kernel⟩, List.mem_of_getElem? (i := 70) (by decide +kernel), List.mem_of_getElem? (i := 354) (by decide +kernel), List.mem_of_getElem? (i := 355) (by decide +kernel)⟩
theorem lw_p11 : lw_okq (⟨"GalleryRows$Book", "heldStatement", "(Z)V"⟩, 5) := ⟨⟨by decide +kernel, by decide +kernel⟩, List.mem_of_getElem? (i := 70) (by decide +kernel), List.mem_of_getElem? (i := 363) (by decide +kernel), List.mem_of_getElem? (i := 364) (by decide +kernel)⟩
theorem lw_p12 : lw_okq (⟨"GalleryRows$Book", "partyStatement", "()V"⟩, 5) := ⟨⟨by decide +kernel, by decide +kernel⟩, List.mem_of_getElem? (i := 70) (by decide +kernel), List.mem_of_getElem? (i := 386) (by decide +kernel), List.mem_of_getElem? (i := 387) (by decide +kernel)⟩
theorem lw_p13 : lw_okq (⟨"GalleryRows", "votesChanged", "()V"⟩, 12) := ⟨⟨by decide +kernel, by decide +kernel⟩, List.mem_of_getElem? (i := 15) (by decide +kernel), List.mem_of_getElem? (i := 398) (by decide +kernel), List.mem_of_getElem? (i := 399) (by decide +kernel)⟩
theorem lw_p14 : lw_okq (⟨"GalleryRows", "handIsWhole", "()Z"⟩, 12) := ⟨⟨by decide +kernel, by decide +kernel⟩, List.mem_of_getElem? (i := 15) (by decide +kernel), List.mem_of_getElem? (i := 507) (by decide +kernel), List.mem_of_getElem? (i := 508) (by decide +kernel)⟩
theorem lw_p15 : lw_okq (⟨"GalleryRows$Sides", "fillSet", "(I)V"⟩, 8) := ⟨⟨by decide +kernel, by decide +kernel⟩, List.mem_of_getElem? (i := 92) (by decide +kernel), List.mem_of_getElem? (i := 517) (by decide +kernel), List.mem_of_getElem? (i := 518) (by decide +kernel)⟩
def lw_privs_1 : List (MethodName × Nat) := [(⟨"GalleryRows", "refuse", "(I)I"⟩, 12), (⟨"GalleryRows$Book", "statement", "()V"⟩, 5), (⟨"GalleryRows$Book", "next", "()I"⟩, 5), (⟨"GalleryRows$Book", "memberStatement", "()V"⟩, 5), (⟨"GalleryRows$Book", "letter", "(Z)V"⟩, 5), (⟨"GalleryRows$Book", "fail", "(I)V"⟩, 5), (⟨"GalleryRows$Book", "number", "()I"⟩, 5), (⟨"GalleryRows$Book", "digit", "(I)I"⟩, 5), (⟨"GalleryRows$Book", "expect", "(C)V"⟩, 5), (⟨"GalleryRows$Book", "voteStatement", "()V"⟩, 5), (⟨"GalleryRows$Book", "word", "(Z)I"⟩, 5), (⟨"GalleryRows$Book", "heldStatement", "(Z)V"⟩, 5), (⟨"GalleryRows$Book", "partyStatement", "()V"⟩, 5), (⟨"GalleryRows", "votesChanged", "()V"⟩, 12), (⟨"GalleryRows", "handIsWhole", "()Z"⟩, 12), (⟨"GalleryRows$Sides", "fillSet", "(I)V"⟩, 8)]
theorem lw_r1 : ∀ q ∈ lw_privs_1, lw_okq q := List.forall_mem_cons.mpr ⟨lw_p0, List.forall_mem_cons.mpr ⟨lw_p1, List.forall_mem_cons.mpr ⟨lw_p2, List.forall_mem_cons.mpr ⟨lw_p3, List.forall_mem_cons.mpr ⟨lw_p4, List.forall_mem_cons.mpr ⟨lw_p5, List.forall_mem_cons.mpr ⟨lw_p6, List.forall_mem_cons.mpr ⟨lw_p7, List.forall_mem_cons.mpr ⟨lw_p8, List.forall_mem_cons.mpr ⟨lw_p9, List.forall_mem_cons.mpr ⟨lw_p10, List.forall_mem_cons.mpr ⟨lw_p11, List.forall_mem_cons.mpr ⟨lw_p12, List.forall_mem_cons.mpr ⟨lw_p13, List.forall_mem_cons.mpr ⟨lw_p14, List.forall_mem_cons.mpr ⟨lw_p15, fun _ h => absurd h List.not_mem_nil⟩⟩⟩⟩⟩⟩⟩⟩⟩⟩⟩⟩⟩⟩⟩⟩
theorem lw_p16 : lw_okq (⟨"GalleryRows", "emptyHand", "()V"⟩, 12) := ⟨⟨by decide +kernel, by decide +kernel⟩, List.mem_of_getElem? (i := 15) (by decide +kernel), List.mem_of_getElem? (i := 545) (by decide +kernel), List.mem_of_getElem? (i := 546) (by decide +kernel)⟩
theorem lw_p17 : lw_okq (⟨"GalleryRows", "cutIn", "(II)I"⟩, 12) := ⟨⟨by decide +kernel, by decide +kernel⟩, List.mem_of_getElem? (i := 15) (by decide +kernel), List.mem_of_getElem? (i := 557) (by decide +kernel), List.mem_of_getElem? (i := 558) (by decide +kernel)⟩
theorem lw_p18 : lw_okq (⟨"GalleryRows", "lacksBest", "()Z"⟩, 12) := ⟨⟨by decide +kernel, by decide +kernel⟩, List.mem_of_getElem? (i := 15) (by decide +kernel), List.mem_of_getElem? (i := 581) (by decide +kernel), List.mem_of_getElem? (i := 582) (by decide +kernel)⟩
theorem lw_p19 : lw_okq (⟨"GalleryRows", "judgeRows", "()V"⟩, 12) := ⟨⟨by decide +kernel, by decide +kernel⟩, List.mem_of_getElem? (i := 15) (by decide +kernel), List.mem_of_getElem? (i := 585) (by decide +kernel), List.mem_of_getElem? (i := 586) (by decide +kernel)⟩
theorem lw_p20 : lw_okq (⟨"GalleryRows$Rows", "keep", "(I)V"⟩, 17) := ⟨⟨by decide +kernel, by decide +kernel⟩, List.mem_of_getElem? (i := 123) (by decide +kernel), List.mem_of_getElem? (i := 597) (by decide +kernel), List.mem_of_getElem? (i := 598) (by decide +kernel)⟩
theorem lw_p21 : lw_okq (⟨"GalleryRows$Rows", "noteHeld", "()V"⟩, 17) := ⟨⟨by decide +kernel, by decide +kernel⟩, List.mem_of_getElem? (i := 123) (by decide +kernel), List.mem_of_getElem? (i := 617) (by decide +kernel), List.mem_of_getElem? (i := 618) (by decide +kernel)⟩
theorem lw_p22 : lw_okq (⟨"GalleryRows$Rows", "isAsHeld", "(I)Z"⟩, 17) := ⟨⟨by decide +kernel, by decide +kernel⟩, List.mem_of_getElem? (i := 123) (by decide +kernel), List.mem_of_getElem? (i := 631) (by decide +kernel), List.mem_of_getElem? (i := 632) (by decide +kernel)⟩
theorem lw_p23 : lw_okq (⟨"GalleryRows$Rows", "findKnot", "()I"⟩, 17) := ⟨⟨by decide +kernel, by decide +kernel⟩, List.mem_of_getElem? (i := 123) (by decide +kernel), List.mem_of_getElem? (i := 668) (by decide +kernel), List.mem_of_getElem? (i := 669) (by decide +kernel)⟩
theorem lw_p24 : lw_okq (⟨"GalleryRows$Rows", "lowestThatCannotJoin", "(II)I"⟩, 17) := ⟨⟨by decide +kernel, by decide +kernel⟩, List.mem_of_getElem? (i := 123) (by decide +kernel), List.mem_of_getElem? (i := 673) (by decide +kernel), List.mem_of_getElem? (i := 674) (by decide +kernel)⟩
theorem lw_p25 : lw_okq (⟨"GalleryRows$Lots", "wrongOfNextBook", "(I)I"⟩, 2) := ⟨⟨by decide +kernel, by decide +kernel⟩, List.mem_of_getElem? (i := 219) (by decide +kernel), List.mem_of_getElem? (i := 685) (by decide +kernel), List.mem_of_getElem? (i := 686) (by decide +kernel)⟩
theorem lw_p26 : lw_okq (⟨"GalleryRows$Lots", "deal", "(II)I"⟩, 2) := ⟨⟨by decide +kernel, by decide +kernel⟩, List.mem_of_getElem? (i := 219) (by decide +kernel), List.mem_of_getElem? (i := 693) (by decide +kernel), List.mem_of_getElem? (i := 694) (by decide +kernel)⟩
theorem lw_p27 : lw_okq (⟨"GalleryRows$Sheet", "noteStanding", "(I)V"⟩, 3) := ⟨⟨by decide +kernel, by decide +kernel⟩, List.mem_of_getElem? (i := 181) (by decide +kernel), List.mem_of_getElem? (i := 727) (by decide +kernel), List.mem_of_getElem? (i := 728) (by decide +kernel)⟩
theorem lw_p28 : lw_okq (⟨"GalleryRows$Sheet", "moveOne", "(I)V"⟩, 3) := ⟨⟨by decide +kernel, by decide +kernel⟩, List.mem_of_getElem? (i := 181) (by decide +kernel), List.mem_of_getElem? (i := 757) (by decide +kernel), List.mem_of_getElem? (i := 758) (by decide +kernel)⟩
theorem lw_p29 : lw_okq (⟨"GalleryRows", "oddOnes", "(I)I"⟩, 12) := ⟨⟨by decide +kernel, by decide +kernel⟩, List.mem_of_getElem? (i := 15) (by decide +kernel), List.mem_of_getElem? (i := 767) (by decide +kernel), List.mem_of_getElem? (i := 768) (by decide +kernel)⟩
theorem lw_p30 : lw_okq (⟨"GalleryRows$Moves", "tryMove", "(III)V"⟩, 5) := ⟨⟨by decide +kernel, by decide +kernel⟩, List.mem_of_getElem? (i := 197) (by decide +kernel), List.mem_of_getElem? (i := 802) (by decide +kernel), List.mem_of_getElem? (i := 803) (by decide +kernel)⟩
theorem lw_p31 : lw_okq (⟨"GalleryRows$Moves", "noteFalls", "(I)V"⟩, 5) := ⟨⟨by decide +kernel, by decide +kernel⟩, List.mem_of_getElem? (i := 197) (by decide +kernel), List.mem_of_getElem? (i := 806) (by decide +kernel), List.mem_of_getElem? (i := 807) (by decide +kernel)⟩
def lw_privs_2 : List (MethodName × Nat) := [(⟨"GalleryRows", "emptyHand", "()V"⟩, 12), (⟨"GalleryRows", "cutIn", "(II)I"⟩, 12), (⟨"GalleryRows", "lacksBest", "()Z"⟩, 12), (⟨"GalleryRows", "judgeRows", "()V"⟩, 12), (⟨"GalleryRows$Rows", "keep", "(I)V"⟩, 17), (⟨"GalleryRows$Rows", "noteHeld", "()V"⟩, 17), (⟨"GalleryRows$Rows", "isAsHeld", "(I)Z"⟩, 17), (⟨"GalleryRows$Rows", "findKnot", "()I"⟩, 17), (⟨"GalleryRows$Rows", "lowestThatCannotJoin", "(II)I"⟩, 17), (⟨"GalleryRows$Lots", "wrongOfNextBook", "(I)I"⟩, 2), (⟨"GalleryRows$Lots", "deal", "(II)I"⟩, 2), (⟨"GalleryRows$Sheet", "noteStanding", "(I)V"⟩, 3), (⟨"GalleryRows$Sheet", "moveOne", "(I)V"⟩, 3), (⟨"GalleryRows", "oddOnes", "(I)I"⟩, 12), (⟨"GalleryRows$Moves", "tryMove", "(III)V"⟩, 5), (⟨"GalleryRows$Moves", "noteFalls", "(I)V"⟩, 5)]
theorem lw_r2 : ∀ q ∈ lw_privs_2, lw_okq q := List.forall_mem_cons.mpr ⟨lw_p16, List.forall_mem_cons.mpr ⟨lw_p17, List.forall_mem_cons.mpr ⟨lw_p18, List.forall_mem_cons.mpr ⟨lw_p19, List.forall_mem_cons.mpr ⟨lw_p20, List.forall_mem_cons.mpr ⟨lw_p21, List.forall_mem_cons.mpr ⟨lw_p22, List.forall_mem_cons.mpr ⟨lw_p23, List.forall_mem_cons.mpr ⟨lw_p24, List.forall_mem_cons.mpr ⟨lw_p25, List.forall_mem_cons.mpr ⟨lw_p26, List.forall_mem_cons.mpr ⟨lw_p27, List.forall_mem_cons.mpr ⟨lw_p28, List.forall_mem_cons.mpr ⟨lw_p29, List.forall_mem_cons.mpr ⟨lw_p30, List.forall_mem_cons.mpr ⟨lw_p31, fun _ h => absurd h List.not_mem_nil⟩⟩⟩⟩⟩⟩⟩⟩⟩⟩⟩⟩⟩⟩⟩⟩
theorem lw_p32 : lw_okq (⟨"GalleryRows$Moves", "code", "()I"⟩, 5) := ⟨⟨by decide +kernel, by decide +kernel⟩, List.mem_of_getElem? (i := 197) (by decide +kernel), List.mem_of_getElem? (i := 821) (by decide +kernel), List.mem_of_getElem? (i := 822) (by decide +kernel)⟩
theorem lw_p33 : lw_okq (⟨"GalleryRows", "stretchesOf", "(II)I"⟩, 12) := ⟨⟨by decide +kernel, by decide +kernel⟩, List.mem_of_getElem? (i := 15) (by decide +kernel), List.mem_of_getElem? (i := 837) (by decide +kernel), List.mem_of_getElem? (i := 838) (by decide +kernel)⟩
theorem lw_p34 : lw_okq (⟨"GalleryRows", "partyInTwo", "(I)I"⟩, 12) := ⟨⟨by decide +kernel, by decide +kernel⟩, List.mem_of_getElem? (i := 15) (by decide +kernel), List.mem_of_getElem? (i := 849) (by decide +kernel), List.mem_of_getElem? (i := 850) (by decide +kernel)⟩
theorem lw_p35 : lw_okq (⟨"GalleryRows", "thoseInAnothers", "(I)I"⟩, 12) := ⟨⟨by decide +kernel, by decide +kernel⟩, List.mem_of_getElem? (i := 15) (by decide +kernel), List.mem_of_getElem? (i := 853) (by decide +kernel), List.mem_of_getElem? (i := 854) (by decide +kernel)⟩
theorem lw_p36 : lw_okq (⟨"GalleryRows", "refusalOfSay", "(II)I"⟩, 12) := ⟨⟨by decide +kernel, by decide +kernel⟩, List.mem_of_getElem? (i := 15) (by decide +kernel), List.mem_of_getElem? (i := 861) (by decide +kernel), List.mem_of_getElem? (i := 862) (by decide +kernel)⟩
theorem lw_p37 : lw_okq (⟨"GalleryRows", "saysYes", "(III)Z"⟩, 12) := ⟨⟨by decide +kernel, by decide +kernel⟩, List.mem_of_getElem? (i := 15) (by decide +kernel), List.mem_of_getElem? (i := 865) (by decide +kernel), List.mem_of_getElem? (i := 866) (by decide +kernel)⟩
theorem lw_p38 : lw_okq (⟨"GalleryRowsModel", "no", "(I)I"⟩, 46) := ⟨⟨by decide +kernel, by decide +kernel⟩, List.mem_of_getElem? (i := 905) (by decide +kernel), List.mem_of_getElem? (i := 1055) (by decide +kernel), List.mem_of_getElem? (i := 1056) (by decide +kernel)⟩
theorem lw_p39 : lw_okq (⟨"GalleryRowsModel", "joins", "(II)I"⟩, 46) := ⟨⟨by decide +kernel, by decide +kernel⟩, List.mem_of_getElem? (i := 905) (by decide +kernel), List.mem_of_getElem? (i := 1059) (by decide +kernel), List.mem_of_getElem? (i := 1060) (by decide +kernel)⟩
theorem lw_p40 : lw_okq (⟨"GalleryRowsModel", "isMember", "(I)Z"⟩, 46) := ⟨⟨by decide +kernel, by decide +kernel⟩, List.mem_of_getElem? (i := 905) (by decide +kernel), List.mem_of_getElem? (i := 1067) (by decide +kernel), List.mem_of_getElem? (i := 1068) (by decide +kernel)⟩
theorem lw_p41 : lw_okq (⟨"GalleryRowsModel", "isOf", "(II)Z"⟩, 46) := ⟨⟨by decide +kernel, by decide +kernel⟩, List.mem_of_getElem? (i := 905) (by decide +kernel), List.mem_of_getElem? (i := 1078) (by decide +kernel), List.mem_of_getElem? (i := 1079) (by decide +kernel)⟩
theorem lw_p42 : lw_okq (⟨"GalleryRowsModel", "votesSo", "(III)I"⟩, 46) := ⟨⟨by decide +kernel, by decide +kernel⟩, List.mem_of_getElem? (i := 905) (by decide +kernel), List.mem_of_getElem? (i := 1082) (by decide +kernel), List.mem_of_getElem? (i := 1083) (by decide +kernel)⟩
theorem lw_p43 : lw_okq (⟨"GalleryRowsModel", "isVote", "(I)Z"⟩, 46) := ⟨⟨by decide +kernel, by decide +kernel⟩, List.mem_of_getElem? (i := 905) (by decide +kernel), List.mem_of_getElem? (i := 1090) (by decide +kernel), List.mem_of_getElem? (i := 1091) (by decide +kernel)⟩
theorem lw_p44 : lw_okq (⟨"GalleryRowsModel", "isHeld", "(II)Z"⟩, 46) := ⟨⟨by decide +kernel, by decide +kernel⟩, List.mem_of_getElem? (i := 905) (by decide +kernel), List.mem_of_getElem? (i := 1105) (by decide +kernel), List.mem_of_getElem? (i := 1106) (by decide +kernel)⟩
theorem lw_p45 : lw_okq (⟨"GalleryRowsModel", "holds", "(II)V"⟩, 46) := ⟨⟨by decide +kernel, by decide +kernel⟩, List.mem_of_getElem? (i := 905) (by decide +kernel), List.mem_of_getElem? (i := 1109) (by decide +kernel), List.mem_of_getElem? (i := 1110) (by decide +kernel)⟩
theorem lw_p46 : lw_okq (⟨"GalleryRowsModel", "statement", "()Z"⟩, 46) := ⟨⟨by decide +kernel, by decide +kernel⟩, List.mem_of_getElem? (i := 905) (by decide +kernel), List.mem_of_getElem? (i := 1130) (by decide +kernel), List.mem_of_getElem? (i := 1131) (by decide +kernel)⟩
theorem lw_p47 : lw_okq (⟨"GalleryRowsModel", "sign", "()I"⟩, 46) := ⟨⟨by decide +kernel, by decide +kernel⟩, List.mem_of_getElem? (i := 905) (by decide +kernel), List.mem_of_getElem? (i := 1134) (by decide +kernel), List.mem_of_getElem? (i := 1135) (by decide +kernel)⟩
def lw_privs_3 : List (MethodName × Nat) := [(⟨"GalleryRows$Moves", "code", "()I"⟩, 5), (⟨"GalleryRows", "stretchesOf", "(II)I"⟩, 12), (⟨"GalleryRows", "partyInTwo", "(I)I"⟩, 12), (⟨"GalleryRows", "thoseInAnothers", "(I)I"⟩, 12), (⟨"GalleryRows", "refusalOfSay", "(II)I"⟩, 12), (⟨"GalleryRows", "saysYes", "(III)Z"⟩, 12), (⟨"GalleryRowsModel", "no", "(I)I"⟩, 46), (⟨"GalleryRowsModel", "joins", "(II)I"⟩, 46), (⟨"GalleryRowsModel", "isMember", "(I)Z"⟩, 46), (⟨"GalleryRowsModel", "isOf", "(II)Z"⟩, 46), (⟨"GalleryRowsModel", "votesSo", "(III)I"⟩, 46), (⟨"GalleryRowsModel", "isVote", "(I)Z"⟩, 46), (⟨"GalleryRowsModel", "isHeld", "(II)Z"⟩, 46), (⟨"GalleryRowsModel", "holds", "(II)V"⟩, 46), (⟨"GalleryRowsModel", "statement", "()Z"⟩, 46), (⟨"GalleryRowsModel", "sign", "()I"⟩, 46)]
theorem lw_r3 : ∀ q ∈ lw_privs_3, lw_okq q := List.forall_mem_cons.mpr ⟨lw_p32, List.forall_mem_cons.mpr ⟨lw_p33, List.forall_mem_cons.mpr ⟨lw_p34, List.forall_mem_cons.mpr ⟨lw_p35, List.forall_mem_cons.mpr ⟨lw_p36, List.forall_mem_cons.mpr ⟨lw_p37, List.forall_mem_cons.mpr ⟨lw_p38, List.forall_mem_cons.mpr ⟨lw_p39, List.forall_mem_cons.mpr ⟨lw_p40, List.forall_mem_cons.mpr ⟨lw_p41, List.forall_mem_cons.mpr ⟨lw_p42, List.forall_mem_cons.mpr ⟨lw_p43, List.forall_mem_cons.mpr ⟨lw_p44, List.forall_mem_cons.mpr ⟨lw_p45, List.forall_mem_cons.mpr ⟨lw_p46, List.forall_mem_cons.mpr ⟨lw_p47, fun _ h => absurd h List.not_mem_nil⟩⟩⟩⟩⟩⟩⟩⟩⟩⟩⟩⟩⟩⟩⟩⟩
theorem lw_p48 : lw_okq (⟨"GalleryRowsModel", "readsMember", "()Z"⟩, 46) := ⟨⟨by decide +kernel, by decide +kernel⟩, List.mem_of_getElem? (i := 905) (by decide +kernel), List.mem_of_getElem? (i := 1138) (by decide +kernel), List.mem_of_getElem? (i := 1139) (by decide +kernel)⟩
theorem lw_p49 : lw_okq (⟨"GalleryRowsModel", "number", "()I"⟩, 46) := ⟨⟨by decide +kernel, by decide +kernel⟩, List.mem_of_getElem? (i := 905) (by decide +kernel), List.mem_of_getElem? (i := 1142) (by decide +kernel), List.mem_of_getElem? (i := 1143) (by decide +kernel)⟩
theorem lw_p50 : lw_okq (⟨"GalleryRowsModel", "takes", "(I)Z"⟩, 46) := ⟨⟨by decide +kernel, by decide +kernel⟩, List.mem_of_getElem? (i := 905) (by decide +kernel), List.mem_of_getElem? (i := 1146) (by decide +kernel), List.mem_of_getElem? (i := 1147) (by decide +kernel)⟩
theorem lw_p51 : lw_okq (⟨"GalleryRowsModel", "readsVote", "()Z"⟩, 46) := ⟨⟨by decide +kernel, by decide +kernel⟩, List.mem_of_getElem? (i := 905) (by decide +kernel), List.mem_of_getElem? (i := 1150) (by decide +kernel), List.mem_of_getElem? (i := 1151) (by decide +kernel)⟩
theorem lw_p52 : lw_okq (⟨"GalleryRowsModel", "readsParty", "()Z"⟩, 46) := ⟨⟨by decide +kernel, by decide +kernel⟩, List.mem_of_getElem? (i := 905) (by decide +kernel), List.mem_of_getElem? (i := 1154) (by decide +kernel), List.mem_of_getElem? (i := 1155) (by decide +kernel)⟩
theorem lw_p53 : lw_okq (⟨"GalleryRowsModel", "digit", "(I)I"⟩, 46) := ⟨⟨by decide +kernel, by decide +kernel⟩, List.mem_of_getElem? (i := 905) (by decide +kernel), List.mem_of_getElem? (i := 1158) (by decide +kernel), List.mem_of_getElem? (i := 1159) (by decide +kernel)⟩
theorem lw_p54 : lw_okq (⟨"GalleryRowsModel", "readsHeld", "(Z)Z"⟩, 46) := ⟨⟨by decide +kernel, by decide +kernel⟩, List.mem_of_getElem? (i := 905) (by decide +kernel), List.mem_of_getElem? (i := 1162) (by decide +kernel), List.mem_of_getElem? (i := 1163) (by decide +kernel)⟩
theorem lw_p55 : lw_okq (⟨"GalleryRowsModel", "standsTold", "()V"⟩, 46) := ⟨⟨by decide +kernel, by decide +kernel⟩, List.mem_of_getElem? (i := 905) (by decide +kernel), List.mem_of_getElem? (i := 1174) (by decide +kernel), List.mem_of_getElem? (i := 1175) (by decide +kernel)⟩
theorem lw_p56 : lw_okq (⟨"GalleryRowsModel", "wrongAll", "()I"⟩, 46) := ⟨⟨by decide +kernel, by decide +kernel⟩, List.mem_of_getElem? (i := 905) (by decide +kernel), List.mem_of_getElem? (i := 1178) (by decide +kernel), List.mem_of_getElem? (i := 1179) (by decide +kernel)⟩
theorem lw_p57 : lw_okq (⟨"GalleryRowsModel", "wrongOf", "(II)I"⟩, 46) := ⟨⟨by decide +kernel, by decide +kernel⟩, List.mem_of_getElem? (i := 905) (by decide +kernel), List.mem_of_getElem? (i := 1182) (by decide +kernel), List.mem_of_getElem? (i := 1183) (by decide +kernel)⟩
theorem lw_p58 : lw_okq (⟨"GalleryRowsModel", "findCut", "(II)V"⟩, 46) := ⟨⟨by decide +kernel, by decide +kernel⟩, List.mem_of_getElem? (i := 905) (by decide +kernel), List.mem_of_getElem? (i := 1186) (by decide +kernel), List.mem_of_getElem? (i := 1187) (by decide +kernel)⟩
theorem lw_p59 : lw_okq (⟨"GalleryRowsModel", "isYes", "(I)Z"⟩, 46) := ⟨⟨by decide +kernel, by decide +kernel⟩, List.mem_of_getElem? (i := 905) (by decide +kernel), List.mem_of_getElem? (i := 1201) (by decide +kernel), List.mem_of_getElem? (i := 1202) (by decide +kernel)⟩
theorem lw_p60 : lw_okq (⟨"GalleryRowsModel", "finds", "()V"⟩, 46) := ⟨⟨by decide +kernel, by decide +kernel⟩, List.mem_of_getElem? (i := 905) (by decide +kernel), List.mem_of_getElem? (i := 1209) (by decide +kernel), List.mem_of_getElem? (i := 1210) (by decide +kernel)⟩
theorem lw_p61 : lw_okq (⟨"GalleryRowsModel", "firstRow", "()V"⟩, 46) := ⟨⟨by decide +kernel, by decide +kernel⟩, List.mem_of_getElem? (i := 905) (by decide +kernel), List.mem_of_getElem? (i := 1213) (by decide +kernel), List.mem_of_getElem? (i := 1214) (by decide +kernel)⟩
theorem lw_p62 : lw_okq (⟨"GalleryRowsModel", "looksAt", "()V"⟩, 46) := ⟨⟨by decide +kernel, by decide +kernel⟩, List.mem_of_getElem? (i := 905) (by decide +kernel), List.mem_of_getElem? (i := 1217) (by decide +kernel), List.mem_of_getElem? (i := 1218) (by decide +kernel)⟩
theorem lw_p63 : lw_okq (⟨"GalleryRowsModel", "isAsHeld", "()Z"⟩, 46) := ⟨⟨by decide +kernel, by decide +kernel⟩, List.mem_of_getElem? (i := 905) (by decide +kernel), List.mem_of_getElem? (i := 1221) (by decide +kernel), List.mem_of_getElem? (i := 1222) (by decide +kernel)⟩
def lw_privs_4 : List (MethodName × Nat) := [(⟨"GalleryRowsModel", "readsMember", "()Z"⟩, 46), (⟨"GalleryRowsModel", "number", "()I"⟩, 46), (⟨"GalleryRowsModel", "takes", "(I)Z"⟩, 46), (⟨"GalleryRowsModel", "readsVote", "()Z"⟩, 46), (⟨"GalleryRowsModel", "readsParty", "()Z"⟩, 46), (⟨"GalleryRowsModel", "digit", "(I)I"⟩, 46), (⟨"GalleryRowsModel", "readsHeld", "(Z)Z"⟩, 46), (⟨"GalleryRowsModel", "standsTold", "()V"⟩, 46), (⟨"GalleryRowsModel", "wrongAll", "()I"⟩, 46), (⟨"GalleryRowsModel", "wrongOf", "(II)I"⟩, 46), (⟨"GalleryRowsModel", "findCut", "(II)V"⟩, 46), (⟨"GalleryRowsModel", "isYes", "(I)Z"⟩, 46), (⟨"GalleryRowsModel", "finds", "()V"⟩, 46), (⟨"GalleryRowsModel", "firstRow", "()V"⟩, 46), (⟨"GalleryRowsModel", "looksAt", "()V"⟩, 46), (⟨"GalleryRowsModel", "isAsHeld", "()Z"⟩, 46)]
theorem lw_r4 : ∀ q ∈ lw_privs_4, lw_okq q := List.forall_mem_cons.mpr ⟨lw_p48, List.forall_mem_cons.mpr ⟨lw_p49, List.forall_mem_cons.mpr ⟨lw_p50, List.forall_mem_cons.mpr ⟨lw_p51, List.forall_mem_cons.mpr ⟨lw_p52, List.forall_mem_cons.mpr ⟨lw_p53, List.forall_mem_cons.mpr ⟨lw_p54, List.forall_mem_cons.mpr ⟨lw_p55, List.forall_mem_cons.mpr ⟨lw_p56, List.forall_mem_cons.mpr ⟨lw_p57, List.forall_mem_cons.mpr ⟨lw_p58, List.forall_mem_cons.mpr ⟨lw_p59, List.forall_mem_cons.mpr ⟨lw_p60, List.forall_mem_cons.mpr ⟨lw_p61, List.forall_mem_cons.mpr ⟨lw_p62, List.forall_mem_cons.mpr ⟨lw_p63, fun _ h => absurd h List.not_mem_nil⟩⟩⟩⟩⟩⟩⟩⟩⟩⟩⟩⟩⟩⟩⟩⟩
theorem lw_p64 : lw_okq (⟨"GalleryRowsModel", "placeOf", "(I)I"⟩, 46) := ⟨⟨by decide +kernel, by decide +kernel⟩, List.mem_of_getElem? (i := 905) (by decide +kernel), List.mem_of_getElem? (i := 1225) (by decide +kernel), List.mem_of_getElem? (i := 1226) (by decide +kernel)⟩
theorem lw_p65 : lw_okq (⟨"GalleryRowsModel", "nextRow", "()Z"⟩, 46) := ⟨⟨by decide +kernel, by decide +kernel⟩, List.mem_of_getElem? (i := 905) (by decide +kernel), List.mem_of_getElem? (i := 1229) (by decide +kernel), List.mem_of_getElem? (i := 1230) (by decide +kernel)⟩
theorem lw_p66 : lw_okq (⟨"GalleryRowsModel", "isKnot", "(I)Z"⟩, 46) := ⟨⟨by decide +kernel, by decide +kernel⟩, List.mem_of_getElem? (i := 905) (by decide +kernel), List.mem_of_getElem? (i := 1245) (by decide +kernel), List.mem_of_getElem? (i := 1246) (by decide +kernel)⟩
theorem lw_p67 : lw_okq (⟨"GalleryRowsModel", "first", "()Z"⟩, 46) := ⟨⟨by decide +kernel, by decide +kernel⟩, List.mem_of_getElem? (i := 905) (by decide +kernel), List.mem_of_getElem? (i := 1253) (by decide +kernel), List.mem_of_getElem? (i := 1254) (by decide +kernel)⟩
theorem lw_p68 : lw_okq (⟨"GalleryRowsModel", "stands", "(I)V"⟩, 46) := ⟨⟨by decide +kernel, by decide +kernel⟩, List.mem_of_getElem? (i := 905) (by decide +kernel), List.mem_of_getElem? (i := 1257) (by decide +kernel), List.mem_of_getElem? (i := 1258) (by decide +kernel)⟩
theorem lw_p69 : lw_okq (⟨"GalleryRowsModel", "dealt", "(I)I"⟩, 46) := ⟨⟨by decide +kernel, by decide +kernel⟩, List.mem_of_getElem? (i := 905) (by decide +kernel), List.mem_of_getElem? (i := 1261) (by decide +kernel), List.mem_of_getElem? (i := 1262) (by decide +kernel)⟩
theorem lw_p70 : lw_okq (⟨"GalleryRowsModel", "findLine", "(I)V"⟩, 46) := ⟨⟨by decide +kernel, by decide +kernel⟩, List.mem_of_getElem? (i := 905) (by decide +kernel), List.mem_of_getElem? (i := 1274) (by decide +kernel), List.mem_of_getElem? (i := 1275) (by decide +kernel)⟩
theorem lw_p71 : lw_okq (⟨"GalleryRowsModel", "measure", "(II)I"⟩, 46) := ⟨⟨by decide +kernel, by decide +kernel⟩, List.mem_of_getElem? (i := 905) (by decide +kernel), List.mem_of_getElem? (i := 1278) (by decide +kernel), List.mem_of_getElem? (i := 1279) (by decide +kernel)⟩
theorem lw_p72 : lw_okq (⟨"GalleryRowsModel", "takesLine", "(IIII)V"⟩, 46) := ⟨⟨by decide +kernel, by decide +kernel⟩, List.mem_of_getElem? (i := 905) (by decide +kernel), List.mem_of_getElem? (i := 1282) (by decide +kernel), List.mem_of_getElem? (i := 1283) (by decide +kernel)⟩
theorem lw_p73 : lw_okq (⟨"GalleryRowsModel", "oddOf", "(I)I"⟩, 46) := ⟨⟨by decide +kernel, by decide +kernel⟩, List.mem_of_getElem? (i := 905) (by decide +kernel), List.mem_of_getElem? (i := 1299) (by decide +kernel), List.mem_of_getElem? (i := 1300) (by decide +kernel)⟩
theorem lw_p74 : lw_okq (⟨"GalleryRowsModel", "findMove", "()Z"⟩, 46) := ⟨⟨by decide +kernel, by decide +kernel⟩, List.mem_of_getElem? (i := 905) (by decide +kernel), List.mem_of_getElem? (i := 1311) (by decide +kernel), List.mem_of_getElem? (i := 1312) (by decide +kernel)⟩
theorem lw_p75 : lw_okq (⟨"GalleryRowsModel", "movesTo", "(II)V"⟩, 46) := ⟨⟨by decide +kernel, by decide +kernel⟩, List.mem_of_getElem? (i := 905) (by decide +kernel), List.mem_of_getElem? (i := 1315) (by decide +kernel), List.mem_of_getElem? (i := 1316) (by decide +kernel)⟩
theorem lw_p76 : lw_okq (⟨"GalleryRowsModel", "triesYears", "(II)V"⟩, 46) := ⟨⟨by decide +kernel, by decide +kernel⟩, List.mem_of_getElem? (i := 905) (by decide +kernel), List.mem_of_getElem? (i := 1319) (by decide +kernel), List.mem_of_getElem? (i := 1320) (by decide +kernel)⟩
theorem lw_p77 : lw_okq (⟨"GalleryRowsModel", "stretchesOf", "(I)I"⟩, 46) := ⟨⟨by decide +kernel, by decide +kernel⟩, List.mem_of_getElem? (i := 905) (by decide +kernel), List.mem_of_getElem? (i := 1327) (by decide +kernel), List.mem_of_getElem? (i := 1328) (by decide +kernel)⟩
theorem lw_p78 : lw_okq (⟨"GalleryRowsModel", "notAway", "(II)I"⟩, 46) := ⟨⟨by decide +kernel, by decide +kernel⟩, List.mem_of_getElem? (i := 905) (by decide +kernel), List.mem_of_getElem? (i := 1339) (by decide +kernel), List.mem_of_getElem? (i := 1340) (by decide +kernel)⟩
theorem lw_p79 : lw_okq (⟨"GalleryRowsModel", "sayOf", "(II)I"⟩, 46) := ⟨⟨by decide +kernel, by decide +kernel⟩, List.mem_of_getElem? (i := 905) (by decide +kernel), List.mem_of_getElem? (i := 1343) (by decide +kernel), List.mem_of_getElem? (i := 1344) (by decide +kernel)⟩
def lw_privs_5 : List (MethodName × Nat) := [(⟨"GalleryRowsModel", "placeOf", "(I)I"⟩, 46), (⟨"GalleryRowsModel", "nextRow", "()Z"⟩, 46), (⟨"GalleryRowsModel", "isKnot", "(I)Z"⟩, 46), (⟨"GalleryRowsModel", "first", "()Z"⟩, 46), (⟨"GalleryRowsModel", "stands", "(I)V"⟩, 46), (⟨"GalleryRowsModel", "dealt", "(I)I"⟩, 46), (⟨"GalleryRowsModel", "findLine", "(I)V"⟩, 46), (⟨"GalleryRowsModel", "measure", "(II)I"⟩, 46), (⟨"GalleryRowsModel", "takesLine", "(IIII)V"⟩, 46), (⟨"GalleryRowsModel", "oddOf", "(I)I"⟩, 46), (⟨"GalleryRowsModel", "findMove", "()Z"⟩, 46), (⟨"GalleryRowsModel", "movesTo", "(II)V"⟩, 46), (⟨"GalleryRowsModel", "triesYears", "(II)V"⟩, 46), (⟨"GalleryRowsModel", "stretchesOf", "(I)I"⟩, 46), (⟨"GalleryRowsModel", "notAway", "(II)I"⟩, 46), (⟨"GalleryRowsModel", "sayOf", "(II)I"⟩, 46)]
theorem lw_r5 : ∀ q ∈ lw_privs_5, lw_okq q := List.forall_mem_cons.mpr ⟨lw_p64, List.forall_mem_cons.mpr ⟨lw_p65, List.forall_mem_cons.mpr ⟨lw_p66, List.forall_mem_cons.mpr ⟨lw_p67, List.forall_mem_cons.mpr ⟨lw_p68, List.forall_mem_cons.mpr ⟨lw_p69, List.forall_mem_cons.mpr ⟨lw_p70, List.forall_mem_cons.mpr ⟨lw_p71, List.forall_mem_cons.mpr ⟨lw_p72, List.forall_mem_cons.mpr ⟨lw_p73, List.forall_mem_cons.mpr ⟨lw_p74, List.forall_mem_cons.mpr ⟨lw_p75, List.forall_mem_cons.mpr ⟨lw_p76, List.forall_mem_cons.mpr ⟨lw_p77, List.forall_mem_cons.mpr ⟨lw_p78, List.forall_mem_cons.mpr ⟨lw_p79, fun _ h => absurd h List.not_mem_nil⟩⟩⟩⟩⟩⟩⟩⟩⟩⟩⟩⟩⟩⟩⟩⟩
theorem lw_p80 : lw_okq (⟨"GalleryRowsModel", "passesAll", "()V"⟩, 46) := ⟨⟨by decide +kernel, by decide +kernel⟩, List.mem_of_getElem? (i := 905) (by decide +kernel), List.mem_of_getElem? (i := 1355) (by decide +kernel), List.mem_of_getElem? (i := 1356) (by decide +kernel)⟩
theorem lw_p81 : lw_okq (⟨"GalleryRowsModel", "passes", "([I)V"⟩, 46) := ⟨⟨by decide +kernel, by decide +kernel⟩, List.mem_of_getElem? (i := 905) (by decide +kernel), List.mem_of_getElem? (i := 1359) (by decide +kernel), List.mem_of_getElem? (i := 1360) (by decide +kernel)⟩
theorem lw_p82 : lw_okq (⟨"GalleryRowsModel", "passOne", "(I)I"⟩, 46) := ⟨⟨by decide +kernel, by decide +kernel⟩, List.mem_of_getElem? (i := 905) (by decide +kernel), List.mem_of_getElem? (i := 1363) (by decide +kernel), List.mem_of_getElem? (i := 1364) (by decide +kernel)⟩
def lw_privs_6 : List (MethodName × Nat) := [(⟨"GalleryRowsModel", "passesAll", "()V"⟩, 46), (⟨"GalleryRowsModel", "passes", "([I)V"⟩, 46), (⟨"GalleryRowsModel", "passOne", "(I)I"⟩, 46)]
theorem lw_r6 : ∀ q ∈ lw_privs_6, lw_okq q := List.forall_mem_cons.mpr ⟨lw_p80, List.forall_mem_cons.mpr ⟨lw_p81, List.forall_mem_cons.mpr ⟨lw_p82, fun _ h => absurd h List.not_mem_nil⟩⟩⟩
def lw_privs : List (MethodName × Nat) := lw_privs_1 ++ (lw_privs_2 ++ (lw_privs_3 ++ (lw_privs_4 ++ (lw_privs_5 ++ (lw_privs_6)))))
def lw_tbl : List Cond := k2_sels lw_privs ++ tables_1
theorem lw_privs_ok : ∀ q ∈ lw_privs, lw_okq q := by
  show ∀ q ∈ lw_privs_1 ++ (lw_privs_2 ++ (lw_privs_3 ++ (lw_privs_4 ++ (lw_privs_5 ++ (lw_privs_6))))), lw_okq q
  exact List.forall_mem_append.mpr ⟨lw_r1, List.forall_mem_append.mpr ⟨lw_r2, List.forall_mem_append.mpr ⟨lw_r3, List.forall_mem_append.mpr ⟨lw_r4, List.forall_mem_append.mpr ⟨lw_r5, lw_r6⟩⟩⟩⟩⟩
end
section
def RX0 : String := "GalleryRows$Book"
def TX0 : u_T := fun k => match k with
  | 0 => ("GalleryRows$Book", "house", "LGalleryRows$House;", true)
  | 1 => ("GalleryRows$Book", "text", "[I", true)
  | 2 => ("GalleryRows$Book", "length", "I", false)
  | 3 => ("GalleryRows$Book", "at", "I", false)
  | _ => ("GalleryRows$Book", "fault", "I", false)
def tyX0 : Nat → FieldType := fun k => match k with
  | 0 => .object "GalleryRows$House"
  | 1 => .array .int
  | 2 => .int
  | 3 => .int
  | _ => .int
abbrev wsX00 : List Cond := u_ws RX0 TX0 5
theorem nmX0 : ∀ a, a < 5 → ∀ b, b < 5 → a ≠ b → (TX0 a).2.1 ≠ (TX0 b).2.1 := by decide +kernel
theorem tyX0_ok : ∀ k, k < 5 → parseFieldDescriptor (TX0 k).2.2.1 = some (tyX0 k) := by decide +kernel
abbrev cX0_init : ByteArray := prog_2_method_1_code
def yX0_init : MethodName := ⟨RX0, "<init>", "(LGalleryRows$House;)V"⟩
abbrev cX0_size : ByteArray := prog_2_method_2_code
def yX0_size : MethodName := ⟨RX0, "size", "()I"⟩
abbrev cX0_hasRoom : ByteArray := prog_2_method_3_code
def yX0_hasRoom : MethodName := ⟨RX0, "hasRoom", "(I)Z"⟩
abbrev cX0_append : ByteArray := prog_2_method_4_code
def yX0_append : MethodName := ⟨RX0, "append", "(IJ)I"⟩
abbrev cX0_readAll : ByteArray := prog_2_method_5_code
def yX0_readAll : MethodName := ⟨RX0, "readAll", "()I"⟩
abbrev cX0_statement : ByteArray := prog_2_method_6_code
def yX0_statement : MethodName := ⟨RX0, "statement", "()V"⟩
abbrev cX0_memberStatement : ByteArray := prog_2_method_7_code
def yX0_memberStatement : MethodName := ⟨RX0, "memberStatement", "()V"⟩
abbrev cX0_voteStatement : ByteArray := prog_2_method_8_code
def yX0_voteStatement : MethodName := ⟨RX0, "voteStatement", "()V"⟩
abbrev cX0_heldStatement : ByteArray := prog_2_method_9_code
def yX0_heldStatement : MethodName := ⟨RX0, "heldStatement", "(Z)V"⟩
abbrev cX0_partyStatement : ByteArray := prog_2_method_10_code
def yX0_partyStatement : MethodName := ⟨RX0, "partyStatement", "()V"⟩
abbrev cX0_fail : ByteArray := prog_2_method_11_code
def yX0_fail : MethodName := ⟨RX0, "fail", "(I)V"⟩
abbrev cX0_next : ByteArray := prog_2_method_12_code
def yX0_next : MethodName := ⟨RX0, "next", "()I"⟩
abbrev cX0_letter : ByteArray := prog_2_method_13_code
def yX0_letter : MethodName := ⟨RX0, "letter", "(Z)V"⟩
abbrev cX0_expect : ByteArray := prog_2_method_14_code
def yX0_expect : MethodName := ⟨RX0, "expect", "(C)V"⟩
abbrev cX0_word : ByteArray := prog_2_method_15_code
def yX0_word : MethodName := ⟨RX0, "word", "(Z)I"⟩
abbrev cX0_digit : ByteArray := prog_2_method_16_code
def yX0_digit : MethodName := ⟨RX0, "digit", "(I)I"⟩
abbrev cX0_number : ByteArray := prog_2_method_17_code
def yX0_number : MethodName := ⟨RX0, "number", "()I"⟩
def RX1 : String := "GalleryRows$House"
def TX1 : u_T := fun k => match k with
  | 0 => ("GalleryRows$House", "memberCount", "I", false)
  | 1 => ("GalleryRows$House", "voteCount", "I", false)
  | 2 => ("GalleryRows$House", "heldCount", "I", false)
  | 3 => ("GalleryRows$House", "froms", "[I", true)
  | 4 => ("GalleryRows$House", "tos", "[I", true)
  | 5 => ("GalleryRows$House", "memberParties", "[I", true)
  | 6 => ("GalleryRows$House", "xs", "[I", true)
  | 7 => ("GalleryRows$House", "ys", "[I", true)
  | 8 => ("GalleryRows$House", "years", "[I", true)
  | 9 => ("GalleryRows$House", "yeses", "[I", true)
  | 10 => ("GalleryRows$House", "noes", "[I", true)
  | 11 => ("GalleryRows$House", "heldLess", "[I", true)
  | _ => ("GalleryRows$House", "heldMore", "[I", true)
def tyX1 : Nat → FieldType := fun k => match k with
  | 0 => .int
  | 1 => .int
  | 2 => .int
  | 3 => .array .int
  | 4 => .array .int
  | 5 => .array .int
  | 6 => .array .int
  | 7 => .array .int
  | 8 => .array .int
  | 9 => .array .int
  | 10 => .array .int
  | 11 => .array .int
  | _ => .array .int
abbrev wsX10 : List Cond := u_ws RX1 TX1 13
theorem nmX1 : ∀ a, a < 13 → ∀ b, b < 13 → a ≠ b → (TX1 a).2.1 ≠ (TX1 b).2.1 := by decide +kernel
theorem tyX1_ok : ∀ k, k < 13 → parseFieldDescriptor (TX1 k).2.2.1 = some (tyX1 k) := by decide +kernel
abbrev cX1_init : ByteArray := prog_3_method_1_code
def yX1_init : MethodName := ⟨RX1, "<init>", "()V"⟩
abbrev cX1_copyFrom : ByteArray := prog_3_method_2_code
def yX1_copyFrom : MethodName := ⟨RX1, "copyFrom", "(LGalleryRows$House;)V"⟩
abbrev cX1_members : ByteArray := prog_3_method_3_code
def yX1_members : MethodName := ⟨RX1, "members", "()I"⟩
abbrev cX1_votes : ByteArray := prog_3_method_4_code
def yX1_votes : MethodName := ⟨RX1, "votes", "()I"⟩
abbrev cX1_held : ByteArray := prog_3_method_5_code
def yX1_held : MethodName := ⟨RX1, "held", "()I"⟩
abbrev cX1_isMember : ByteArray := prog_3_method_6_code
def yX1_isMember : MethodName := ⟨RX1, "isMember", "(I)Z"⟩
abbrev cX1_isVote : ByteArray := prog_3_method_7_code
def yX1_isVote : MethodName := ⟨RX1, "isVote", "(I)Z"⟩
abbrev cX1_hasRoomForMember : ByteArray := prog_3_method_8_code
def yX1_hasRoomForMember : MethodName := ⟨RX1, "hasRoomForMember", "()Z"⟩
abbrev cX1_hasRoomForVote : ByteArray := prog_3_method_9_code
def yX1_hasRoomForVote : MethodName := ⟨RX1, "hasRoomForVote", "()Z"⟩
abbrev cX1_hasRoomForHeld : ByteArray := prog_3_method_10_code
def yX1_hasRoomForHeld : MethodName := ⟨RX1, "hasRoomForHeld", "()Z"⟩
abbrev cX1_everyone : ByteArray := prog_3_method_11_code
def yX1_everyone : MethodName := ⟨RX1, "everyone", "()I"⟩
abbrev cX1_thoseOfYear : ByteArray := prog_3_method_12_code
def yX1_thoseOfYear : MethodName := ⟨RX1, "thoseOfYear", "(I)I"⟩
abbrev cX1_addMember : ByteArray := prog_3_method_13_code
def yX1_addMember : MethodName := ⟨RX1, "addMember", "(II)I"⟩
abbrev cX1_changeParty : ByteArray := prog_3_method_14_code
def yX1_changeParty : MethodName := ⟨RX1, "changeParty", "(II)I"⟩
abbrev cX1_addVote : ByteArray := prog_3_method_15_code
def yX1_addVote : MethodName := ⟨RX1, "addVote", "(III)I"⟩
abbrev cX1_dropVote : ByteArray := prog_3_method_16_code
def yX1_dropVote : MethodName := ⟨RX1, "dropVote", "()I"⟩
abbrev cX1_isHeld : ByteArray := prog_3_method_17_code
def yX1_isHeld : MethodName := ⟨RX1, "isHeld", "(II)Z"⟩
abbrev cX1_addHeld : ByteArray := prog_3_method_18_code
def yX1_addHeld : MethodName := ⟨RX1, "addHeld", "(II)I"⟩
abbrev cX1_dropHeld : ByteArray := prog_3_method_19_code
def yX1_dropHeld : MethodName := ⟨RX1, "dropHeld", "()I"⟩
abbrev cX1_heldEnds : ByteArray := prog_3_method_20_code
def yX1_heldEnds : MethodName := ⟨RX1, "heldEnds", "()I"⟩
abbrev cX1_heldBeside : ByteArray := prog_3_method_21_code
def yX1_heldBeside : MethodName := ⟨RX1, "heldBeside", "(I)I"⟩
abbrev cX1_partyOf : ByteArray := prog_3_method_22_code
def yX1_partyOf : MethodName := ⟨RX1, "partyOf", "(I)I"⟩
abbrev cX1_yearOf : ByteArray := prog_3_method_23_code
def yX1_yearOf : MethodName := ⟨RX1, "yearOf", "(I)I"⟩
abbrev cX1_yesOf : ByteArray := prog_3_method_24_code
def yX1_yesOf : MethodName := ⟨RX1, "yesOf", "(I)I"⟩
abbrev cX1_noOf : ByteArray := prog_3_method_25_code
def yX1_noOf : MethodName := ⟨RX1, "noOf", "(I)I"⟩
abbrev cX1_words : ByteArray := prog_3_method_26_code
def yX1_words : MethodName := ⟨RX1, "words", "()I"⟩
abbrev cX1_xOf : ByteArray := prog_3_method_27_code
def yX1_xOf : MethodName := ⟨RX1, "xOf", "(I)I"⟩
abbrev cX1_yOf : ByteArray := prog_3_method_28_code
def yX1_yOf : MethodName := ⟨RX1, "yOf", "(I)I"⟩
abbrev cX1_bring : ByteArray := prog_3_method_29_code
def yX1_bring : MethodName := ⟨RX1, "bring", "(III)V"⟩
def RX2 : String := "GalleryRows$Line"
def TX2 : u_T := fun k => match k with
  | _ => ("", "", "", false)
def tyX2 : Nat → FieldType := fun k => match k with
  | _ => .int
abbrev wsX20 : List Cond := u_ws RX2 TX2 0
theorem nmX2 : ∀ a, a < 0 → ∀ b, b < 0 → a ≠ b → (TX2 a).2.1 ≠ (TX2 b).2.1 := by decide +kernel
theorem tyX2_ok : ∀ k, k < 0 → parseFieldDescriptor (TX2 k).2.2.1 = some (tyX2 k) := by decide +kernel
abbrev cX2_at : ByteArray := prog_4_method_2_code
def yX2_at : MethodName := ⟨RX2, "at", "(II)I"⟩
abbrev cX2_with : ByteArray := prog_4_method_3_code
def yX2_with : MethodName := ⟨RX2, "with", "(III)I"⟩
abbrev cX2_without : ByteArray := prog_4_method_4_code
def yX2_without : MethodName := ⟨RX2, "without", "(II)I"⟩
abbrev cX2_firstOnes : ByteArray := prog_4_method_5_code
def yX2_firstOnes : MethodName := ⟨RX2, "firstOnes", "(II)I"⟩
abbrev cX2_bestCut : ByteArray := prog_4_method_6_code
def yX2_bestCut : MethodName := ⟨RX2, "bestCut", "(IIII)I"⟩
abbrev cX2_placeOfCut : ByteArray := prog_4_method_7_code
def yX2_placeOfCut : MethodName := ⟨RX2, "placeOfCut", "(I)I"⟩
abbrev cX2_yesIsLeft : ByteArray := prog_4_method_8_code
def yX2_yesIsLeft : MethodName := ⟨RX2, "yesIsLeft", "(I)Z"⟩
def RX3 : String := "GalleryRows$Lots"
def TX3 : u_T := fun k => match k with
  | 0 => ("GalleryRows$Lots", "house", "LGalleryRows$House;", true)
  | _ => ("GalleryRows$Lots", "z", "I", false)
def tyX3 : Nat → FieldType := fun k => match k with
  | 0 => .object "GalleryRows$House"
  | _ => .int
abbrev wsX30 : List Cond := u_ws RX3 TX3 2
theorem nmX3 : ∀ a, a < 2 → ∀ b, b < 2 → a ≠ b → (TX3 a).2.1 ≠ (TX3 b).2.1 := by decide +kernel
theorem tyX3_ok : ∀ k, k < 2 → parseFieldDescriptor (TX3 k).2.2.1 = some (tyX3 k) := by decide +kernel
abbrev cX3_init : ByteArray := prog_5_method_1_code
def yX3_init : MethodName := ⟨RX3, "<init>", "(LGalleryRows$House;)V"⟩
abbrev cX3_booksWithin : ByteArray := prog_5_method_2_code
def yX3_booksWithin : MethodName := ⟨RX3, "booksWithin", "(IIII)I"⟩
abbrev cX3_wrongOfNextBook : ByteArray := prog_5_method_3_code
def yX3_wrongOfNextBook : MethodName := ⟨RX3, "wrongOfNextBook", "(I)I"⟩
abbrev cX3_deal : ByteArray := prog_5_method_4_code
def yX3_deal : MethodName := ⟨RX3, "deal", "(II)I"⟩
def RX4 : String := "GalleryRows$Moves"
def TX4 : u_T := fun k => match k with
  | 0 => ("GalleryRows$Moves", "house", "LGalleryRows$House;", true)
  | 1 => ("GalleryRows$Moves", "sides", "LGalleryRows$Sides;", true)
  | 2 => ("GalleryRows$Moves", "before", "[I", true)
  | 3 => ("GalleryRows$Moves", "falls", "[I", true)
  | _ => ("GalleryRows$Moves", "bestKey", "I", false)
def tyX4 : Nat → FieldType := fun k => match k with
  | 0 => .object "GalleryRows$House"
  | 1 => .object "GalleryRows$Sides"
  | 2 => .array .int
  | 3 => .array .int
  | _ => .int
abbrev wsX40 : List Cond := u_ws RX4 TX4 5
theorem nmX4 : ∀ a, a < 5 → ∀ b, b < 5 → a ≠ b → (TX4 a).2.1 ≠ (TX4 b).2.1 := by decide +kernel
theorem tyX4_ok : ∀ k, k < 5 → parseFieldDescriptor (TX4 k).2.2.1 = some (tyX4 k) := by decide +kernel
abbrev cX4_init : ByteArray := prog_6_method_1_code
def yX4_init : MethodName := ⟨RX4, "<init>", "(LGalleryRows$House;LGalleryRows$Sides;)V"⟩
abbrev cX4_find : ByteArray := prog_6_method_2_code
def yX4_find : MethodName := ⟨RX4, "find", "(I)Z"⟩
abbrev cX4_fall : ByteArray := prog_6_method_3_code
def yX4_fall : MethodName := ⟨RX4, "fall", "()I"⟩
abbrev cX4_whose : ByteArray := prog_6_method_4_code
def yX4_whose : MethodName := ⟨RX4, "whose", "()I"⟩
abbrev cX4_since : ByteArray := prog_6_method_5_code
def yX4_since : MethodName := ⟨RX4, "since", "()I"⟩
abbrev cX4_whither : ByteArray := prog_6_method_6_code
def yX4_whither : MethodName := ⟨RX4, "whither", "()I"⟩
abbrev cX4_code : ByteArray := prog_6_method_7_code
def yX4_code : MethodName := ⟨RX4, "code", "()I"⟩
abbrev cX4_tryMove : ByteArray := prog_6_method_8_code
def yX4_tryMove : MethodName := ⟨RX4, "tryMove", "(III)V"⟩
abbrev cX4_noteFalls : ByteArray := prog_6_method_9_code
def yX4_noteFalls : MethodName := ⟨RX4, "noteFalls", "(I)V"⟩
def RX5 : String := "GalleryRows$Rows"
def TX5 : u_T := fun k => match k with
  | 0 => ("GalleryRows$Rows", "house", "LGalleryRows$House;", true)
  | 1 => ("GalleryRows$Rows", "sides", "LGalleryRows$Sides;", true)
  | 2 => ("GalleryRows$Rows", "all", "[I", true)
  | 3 => ("GalleryRows$Rows", "ones", "[I", true)
  | 4 => ("GalleryRows$Rows", "twos", "[I", true)
  | 5 => ("GalleryRows$Rows", "threes", "[I", true)
  | 6 => ("GalleryRows$Rows", "bests", "[I", true)
  | 7 => ("GalleryRows$Rows", "beside", "[I", true)
  | 8 => ("GalleryRows$Rows", "ends", "I", false)
  | 9 => ("GalleryRows$Rows", "listed", "I", false)
  | 10 => ("GalleryRows$Rows", "listedMembers", "I", false)
  | 11 => ("GalleryRows$Rows", "judged", "Z", false)
  | 12 => ("GalleryRows$Rows", "sifted", "Z", false)
  | 13 => ("GalleryRows$Rows", "knotKnown", "Z", false)
  | 14 => ("GalleryRows$Rows", "bestCount", "I", false)
  | 15 => ("GalleryRows$Rows", "least", "I", false)
  | _ => ("GalleryRows$Rows", "knotFound", "I", false)
def tyX5 : Nat → FieldType := fun k => match k with
  | 0 => .object "GalleryRows$House"
  | 1 => .object "GalleryRows$Sides"
  | 2 => .array .int
  | 3 => .array .int
  | 4 => .array .int
  | 5 => .array .int
  | 6 => .array .int
  | 7 => .array .int
  | 8 => .int
  | 9 => .int
  | 10 => .int
  | 11 => .boolean
  | 12 => .boolean
  | 13 => .boolean
  | 14 => .int
  | 15 => .int
  | _ => .int
abbrev wsX50 : List Cond := u_ws RX5 TX5 17
theorem nmX5 : ∀ a, a < 17 → ∀ b, b < 17 → a ≠ b → (TX5 a).2.1 ≠ (TX5 b).2.1 := by decide +kernel
theorem tyX5_ok : ∀ k, k < 17 → parseFieldDescriptor (TX5 k).2.2.1 = some (tyX5 k) := by decide +kernel
abbrev cX5_init : ByteArray := prog_7_method_1_code
def yX5_init : MethodName := ⟨RX5, "<init>", "(LGalleryRows$House;LGalleryRows$Sides;)V"⟩
abbrev cX5_forgetWrongs : ByteArray := prog_7_method_2_code
def yX5_forgetWrongs : MethodName := ⟨RX5, "forgetWrongs", "()V"⟩
abbrev cX5_forgetBest : ByteArray := prog_7_method_3_code
def yX5_forgetBest : MethodName := ⟨RX5, "forgetBest", "()V"⟩
abbrev cX5_bestOnes : ByteArray := prog_7_method_4_code
def yX5_bestOnes : MethodName := ⟨RX5, "bestOnes", "()I"⟩
abbrev cX5_leastWrong : ByteArray := prog_7_method_5_code
def yX5_leastWrong : MethodName := ⟨RX5, "leastWrong", "()I"⟩
abbrev cX5_bestAt : ByteArray := prog_7_method_6_code
def yX5_bestAt : MethodName := ⟨RX5, "bestAt", "(I)I"⟩
abbrev cX5_openOnes : ByteArray := prog_7_method_7_code
def yX5_openOnes : MethodName := ⟨RX5, "openOnes", "()I"⟩
abbrev cX5_leastWrongOf : ByteArray := prog_7_method_8_code
def yX5_leastWrongOf : MethodName := ⟨RX5, "leastWrongOf", "(I)I"⟩
abbrev cX5_knotted : ByteArray := prog_7_method_9_code
def yX5_knotted : MethodName := ⟨RX5, "knotted", "()I"⟩
abbrev cX5_findKnot : ByteArray := prog_7_method_10_code
def yX5_findKnot : MethodName := ⟨RX5, "findKnot", "()I"⟩
abbrev cX5_lowestThatCannotJoin : ByteArray := prog_7_method_11_code
def yX5_lowestThatCannotJoin : MethodName := ⟨RX5, "lowestThatCannotJoin", "(II)I"⟩
abbrev cX5_sift : ByteArray := prog_7_method_12_code
def yX5_sift : MethodName := ⟨RX5, "sift", "()V"⟩
abbrev cX5_noteHeld : ByteArray := prog_7_method_13_code
def yX5_noteHeld : MethodName := ⟨RX5, "noteHeld", "()V"⟩
abbrev cX5_isAsHeld : ByteArray := prog_7_method_14_code
def yX5_isAsHeld : MethodName := ⟨RX5, "isAsHeld", "(I)Z"⟩
abbrev cX5_judgeAll : ByteArray := prog_7_method_15_code
def yX5_judgeAll : MethodName := ⟨RX5, "judgeAll", "()V"⟩
abbrev cX5_listAll : ByteArray := prog_7_method_16_code
def yX5_listAll : MethodName := ⟨RX5, "listAll", "()V"⟩
abbrev cX5_extend : ByteArray := prog_7_method_17_code
def yX5_extend : MethodName := ⟨RX5, "extend", "(LGalleryRows$Rows;III)V"⟩
abbrev cX5_keep : ByteArray := prog_7_method_18_code
def yX5_keep : MethodName := ⟨RX5, "keep", "(I)V"⟩
def RX6 : String := "GalleryRows$Sheet"
def TX6 : u_T := fun k => match k with
  | 0 => ("GalleryRows$Sheet", "house", "LGalleryRows$House;", true)
  | 1 => ("GalleryRows$Sheet", "sides", "LGalleryRows$Sides;", true)
  | _ => ("GalleryRows$Sheet", "standing", "[I", true)
def tyX6 : Nat → FieldType := fun k => match k with
  | 0 => .object "GalleryRows$House"
  | 1 => .object "GalleryRows$Sides"
  | _ => .array .int
abbrev wsX60 : List Cond := u_ws RX6 TX6 3
theorem nmX6 : ∀ a, a < 3 → ∀ b, b < 3 → a ≠ b → (TX6 a).2.1 ≠ (TX6 b).2.1 := by decide +kernel
theorem tyX6_ok : ∀ k, k < 3 → parseFieldDescriptor (TX6 k).2.2.1 = some (tyX6 k) := by decide +kernel
abbrev cX6_init : ByteArray := prog_8_method_1_code
def yX6_init : MethodName := ⟨RX6, "<init>", "(LGalleryRows$House;LGalleryRows$Sides;)V"⟩
abbrev cX6_total : ByteArray := prog_8_method_2_code
def yX6_total : MethodName := ⟨RX6, "total", "()I"⟩
abbrev cX6_bestLine : ByteArray := prog_8_method_3_code
def yX6_bestLine : MethodName := ⟨RX6, "bestLine", "(II)I"⟩
abbrev cX6_moveAll : ByteArray := prog_8_method_4_code
def yX6_moveAll : MethodName := ⟨RX6, "moveAll", "()V"⟩
abbrev cX6_moveOne : ByteArray := prog_8_method_5_code
def yX6_moveOne : MethodName := ⟨RX6, "moveOne", "(I)V"⟩
abbrev cX6_noteStanding : ByteArray := prog_8_method_6_code
def yX6_noteStanding : MethodName := ⟨RX6, "noteStanding", "(I)V"⟩
abbrev cX6_measure : ByteArray := prog_8_method_7_code
def yX6_measure : MethodName := ⟨RX6, "measure", "(III)I"⟩
def RX7 : String := "GalleryRows$Sides"
def TX7 : u_T := fun k => match k with
  | 0 => ("GalleryRows$Sides", "house", "LGalleryRows$House;", true)
  | 1 => ("GalleryRows$Sides", "ones", "[I", true)
  | 2 => ("GalleryRows$Sides", "twos", "[I", true)
  | 3 => ("GalleryRows$Sides", "threes", "[I", true)
  | 4 => ("GalleryRows$Sides", "filled", "Z", false)
  | 5 => ("GalleryRows$Sides", "one", "I", false)
  | 6 => ("GalleryRows$Sides", "two", "I", false)
  | _ => ("GalleryRows$Sides", "three", "I", false)
def tyX7 : Nat → FieldType := fun k => match k with
  | 0 => .object "GalleryRows$House"
  | 1 => .array .int
  | 2 => .array .int
  | 3 => .array .int
  | 4 => .boolean
  | 5 => .int
  | 6 => .int
  | _ => .int
abbrev wsX70 : List Cond := u_ws RX7 TX7 8
theorem nmX7 : ∀ a, a < 8 → ∀ b, b < 8 → a ≠ b → (TX7 a).2.1 ≠ (TX7 b).2.1 := by decide +kernel
theorem tyX7_ok : ∀ k, k < 8 → parseFieldDescriptor (TX7 k).2.2.1 = some (tyX7 k) := by decide +kernel
abbrev cX7_init : ByteArray := prog_9_method_1_code
def yX7_init : MethodName := ⟨RX7, "<init>", "(LGalleryRows$House;)V"⟩
abbrev cX7_forget : ByteArray := prog_9_method_2_code
def yX7_forget : MethodName := ⟨RX7, "forget", "()V"⟩
abbrev cX7_refresh : ByteArray := prog_9_method_3_code
def yX7_refresh : MethodName := ⟨RX7, "refresh", "()V"⟩
abbrev cX7_start : ByteArray := prog_9_method_4_code
def yX7_start : MethodName := ⟨RX7, "start", "()V"⟩
abbrev cX7_meet : ByteArray := prog_9_method_5_code
def yX7_meet : MethodName := ⟨RX7, "meet", "(I)V"⟩
abbrev cX7_walk : ByteArray := prog_9_method_6_code
def yX7_walk : MethodName := ⟨RX7, "walk", "(I)V"⟩
abbrev cX7_total : ByteArray := prog_9_method_7_code
def yX7_total : MethodName := ⟨RX7, "total", "()I"⟩
abbrev cX7_votesWrongBy : ByteArray := prog_9_method_8_code
def yX7_votesWrongBy : MethodName := ⟨RX7, "votesWrongBy", "(I)I"⟩
abbrev cX7_wrongsOf : ByteArray := prog_9_method_9_code
def yX7_wrongsOf : MethodName := ⟨RX7, "wrongsOf", "(I)I"⟩
abbrev cX7_fillSet : ByteArray := prog_9_method_10_code
def yX7_fillSet : MethodName := ⟨RX7, "fillSet", "(I)V"⟩
def RX8 : String := "GalleryRows"
def TX8 : u_T := fun k => match k with
  | 0 => ("GalleryRows", "house", "LGalleryRows$House;", true)
  | 1 => ("GalleryRows", "imaged", "LGalleryRows$House;", true)
  | 2 => ("GalleryRows", "imageTaken", "Z", false)
  | 3 => ("GalleryRows", "book", "LGalleryRows$Book;", true)
  | 4 => ("GalleryRows", "sides", "LGalleryRows$Sides;", true)
  | 5 => ("GalleryRows", "rows", "LGalleryRows$Rows;", true)
  | 6 => ("GalleryRows", "points", "LGalleryRows$Sheet;", true)
  | 7 => ("GalleryRows", "moves", "LGalleryRows$Moves;", true)
  | 8 => ("GalleryRows", "lots", "LGalleryRows$Lots;", true)
  | 9 => ("GalleryRows", "handRow", "I", false)
  | 10 => ("GalleryRows", "handCount", "I", false)
  | _ => ("GalleryRows", "refusals", "[I", true)
def tyX8 : Nat → FieldType := fun k => match k with
  | 0 => .object "GalleryRows$House"
  | 1 => .object "GalleryRows$House"
  | 2 => .boolean
  | 3 => .object "GalleryRows$Book"
  | 4 => .object "GalleryRows$Sides"
  | 5 => .object "GalleryRows$Rows"
  | 6 => .object "GalleryRows$Sheet"
  | 7 => .object "GalleryRows$Moves"
  | 8 => .object "GalleryRows$Lots"
  | 9 => .int
  | 10 => .int
  | _ => .array .int
abbrev wsX80 : List Cond := u_ws RX8 TX8 12
theorem nmX8 : ∀ a, a < 12 → ∀ b, b < 12 → a ≠ b → (TX8 a).2.1 ≠ (TX8 b).2.1 := by decide +kernel
theorem tyX8_ok : ∀ k, k < 12 → parseFieldDescriptor (TX8 k).2.2.1 = some (tyX8 k) := by decide +kernel
abbrev cX8_init : ByteArray := prog_1_method_1_code
def yX8_init : MethodName := ⟨RX8, "<init>", "()V"⟩
abbrev cX8_feed : ByteArray := prog_1_method_2_code
def yX8_feed : MethodName := ⟨RX8, "feed", "(IJ)I"⟩
abbrev cX8_read : ByteArray := prog_1_method_3_code
def yX8_read : MethodName := ⟨RX8, "read", "()I"⟩
abbrev cX8_member : ByteArray := prog_1_method_4_code
def yX8_member : MethodName := ⟨RX8, "member", "(II)I"⟩
abbrev cX8_party : ByteArray := prog_1_method_5_code
def yX8_party : MethodName := ⟨RX8, "party", "(II)I"⟩
abbrev cX8_vote : ByteArray := prog_1_method_6_code
def yX8_vote : MethodName := ⟨RX8, "vote", "(III)I"⟩
abbrev cX8_of : ByteArray := prog_1_method_7_code
def yX8_of : MethodName := ⟨RX8, "of", "(II)I"⟩
abbrev cX8_takeOut : ByteArray := prog_1_method_8_code
def yX8_takeOut : MethodName := ⟨RX8, "takeOut", "()I"⟩
abbrev cX8_hold : ByteArray := prog_1_method_9_code
def yX8_hold : MethodName := ⟨RX8, "hold", "(II)I"⟩
abbrev cX8_free : ByteArray := prog_1_method_10_code
def yX8_free : MethodName := ⟨RX8, "free", "()I"⟩
abbrev cX8_apart : ByteArray := prog_1_method_11_code
def yX8_apart : MethodName := ⟨RX8, "apart", "(II)I"⟩
abbrev cX8_put : ByteArray := prog_1_method_12_code
def yX8_put : MethodName := ⟨RX8, "put", "(I)I"⟩
abbrev cX8_judge : ByteArray := prog_1_method_13_code
def yX8_judge : MethodName := ⟨RX8, "judge", "()I"⟩
abbrev cX8_cut : ByteArray := prog_1_method_14_code
def yX8_cut : MethodName := ⟨RX8, "cut", "(I)I"⟩
abbrev cX8_wrong : ByteArray := prog_1_method_15_code
def yX8_wrong : MethodName := ⟨RX8, "wrong", "(I)I"⟩
abbrev cX8_best : ByteArray := prog_1_method_16_code
def yX8_best : MethodName := ⟨RX8, "best", "(I)I"⟩
abbrev cX8_row : ByteArray := prog_1_method_17_code
def yX8_row : MethodName := ⟨RX8, "row", "(II)I"⟩
abbrev cX8_open : ByteArray := prog_1_method_18_code
def yX8_open : MethodName := ⟨RX8, "open", "()I"⟩
abbrev cX8_knot : ByteArray := prog_1_method_19_code
def yX8_knot : MethodName := ⟨RX8, "knot", "()I"⟩
abbrev cX8_chance : ByteArray := prog_1_method_20_code
def yX8_chance : MethodName := ⟨RX8, "chance", "(II)I"⟩
abbrev cX8_place : ByteArray := prog_1_method_21_code
def yX8_place : MethodName := ⟨RX8, "place", "(III)I"⟩
abbrev cX8_line : ByteArray := prog_1_method_22_code
def yX8_line : MethodName := ⟨RX8, "line", "(I)I"⟩
abbrev cX8_sheet : ByteArray := prog_1_method_23_code
def yX8_sheet : MethodName := ⟨RX8, "sheet", "()I"⟩
abbrev cX8_turn : ByteArray := prog_1_method_24_code
def yX8_turn : MethodName := ⟨RX8, "turn", "()I"⟩
abbrev cX8_odd : ByteArray := prog_1_method_25_code
def yX8_odd : MethodName := ⟨RX8, "odd", "(I)I"⟩
abbrev cX8_second : ByteArray := prog_1_method_26_code
def yX8_second : MethodName := ⟨RX8, "second", "(I)I"⟩
abbrev cX8_move : ByteArray := prog_1_method_27_code
def yX8_move : MethodName := ⟨RX8, "move", "(I)I"⟩
abbrev cX8_stretches : ByteArray := prog_1_method_28_code
def yX8_stretches : MethodName := ⟨RX8, "stretches", "(I)I"⟩
abbrev cX8_parties : ByteArray := prog_1_method_29_code
def yX8_parties : MethodName := ⟨RX8, "parties", "(I)I"⟩
abbrev cX8_say : ByteArray := prog_1_method_30_code
def yX8_say : MethodName := ⟨RX8, "say", "(II)I"⟩
abbrev cX8_sure : ByteArray := prog_1_method_31_code
def yX8_sure : MethodName := ⟨RX8, "sure", "(II)I"⟩
abbrev cX8_image : ByteArray := prog_1_method_32_code
def yX8_image : MethodName := ⟨RX8, "image", "()I"⟩
abbrev cX8_restore : ByteArray := prog_1_method_33_code
def yX8_restore : MethodName := ⟨RX8, "restore", "()I"⟩
abbrev cX8_count : ByteArray := prog_1_method_34_code
def yX8_count : MethodName := ⟨RX8, "count", "(I)I"⟩
abbrev cX8_refuse : ByteArray := prog_1_method_35_code
def yX8_refuse : MethodName := ⟨RX8, "refuse", "(I)I"⟩
abbrev cX8_votesChanged : ByteArray := prog_1_method_36_code
def yX8_votesChanged : MethodName := ⟨RX8, "votesChanged", "()V"⟩
abbrev cX8_judgeRows : ByteArray := prog_1_method_37_code
def yX8_judgeRows : MethodName := ⟨RX8, "judgeRows", "()V"⟩
abbrev cX8_lacksBest : ByteArray := prog_1_method_38_code
def yX8_lacksBest : MethodName := ⟨RX8, "lacksBest", "()Z"⟩
abbrev cX8_handIsWhole : ByteArray := prog_1_method_39_code
def yX8_handIsWhole : MethodName := ⟨RX8, "handIsWhole", "()Z"⟩
abbrev cX8_emptyHand : ByteArray := prog_1_method_40_code
def yX8_emptyHand : MethodName := ⟨RX8, "emptyHand", "()V"⟩
abbrev cX8_cutIn : ByteArray := prog_1_method_41_code
def yX8_cutIn : MethodName := ⟨RX8, "cutIn", "(II)I"⟩
abbrev cX8_oddOnes : ByteArray := prog_1_method_42_code
def yX8_oddOnes : MethodName := ⟨RX8, "oddOnes", "(I)I"⟩
abbrev cX8_stretchesOf : ByteArray := prog_1_method_43_code
def yX8_stretchesOf : MethodName := ⟨RX8, "stretchesOf", "(II)I"⟩
abbrev cX8_partyInTwo : ByteArray := prog_1_method_44_code
def yX8_partyInTwo : MethodName := ⟨RX8, "partyInTwo", "(I)I"⟩
abbrev cX8_thoseInAnothers : ByteArray := prog_1_method_45_code
def yX8_thoseInAnothers : MethodName := ⟨RX8, "thoseInAnothers", "(I)I"⟩
abbrev cX8_refusalOfSay : ByteArray := prog_1_method_46_code
def yX8_refusalOfSay : MethodName := ⟨RX8, "refusalOfSay", "(II)I"⟩
abbrev cX8_saysYes : ByteArray := prog_1_method_47_code
def yX8_saysYes : MethodName := ⟨RX8, "saysYes", "(III)Z"⟩
abbrev cX8_has : ByteArray := prog_1_method_48_code
def yX8_has : MethodName := ⟨RX8, "has", "(II)Z"⟩
def RX9 : String := "GalleryRowsModel"
def TX9 : u_T := fun k => match k with
  | 0 => ("GalleryRowsModel", "refused", "[I", true)
  | 1 => ("GalleryRowsModel", "from", "[I", true)
  | 2 => ("GalleryRowsModel", "to", "[I", true)
  | 3 => ("GalleryRowsModel", "party", "[I", true)
  | 4 => ("GalleryRowsModel", "year", "[I", true)
  | 5 => ("GalleryRowsModel", "yes", "[I", true)
  | 6 => ("GalleryRowsModel", "not", "[I", true)
  | 7 => ("GalleryRowsModel", "heldA", "[I", true)
  | 8 => ("GalleryRowsModel", "heldB", "[I", true)
  | 9 => ("GalleryRowsModel", "east", "[I", true)
  | 10 => ("GalleryRowsModel", "south", "[I", true)
  | 11 => ("GalleryRowsModel", "members", "I", false)
  | 12 => ("GalleryRowsModel", "votes", "I", false)
  | 13 => ("GalleryRowsModel", "held", "I", false)
  | 14 => ("GalleryRowsModel", "isNew", "Z", false)
  | 15 => ("GalleryRowsModel", "tape", "[I", true)
  | 16 => ("GalleryRowsModel", "taped", "I", false)
  | 17 => ("GalleryRowsModel", "at", "I", false)
  | 18 => ("GalleryRowsModel", "row", "[I", true)
  | 19 => ("GalleryRowsModel", "cutWrong", "I", false)
  | 20 => ("GalleryRowsModel", "cutPlace", "I", false)
  | 21 => ("GalleryRowsModel", "cutSide", "I", false)
  | 22 => ("GalleryRowsModel", "best", "[I", true)
  | 23 => ("GalleryRowsModel", "whole", "[I", true)
  | 24 => ("GalleryRowsModel", "bestMany", "I", false)
  | 25 => ("GalleryRowsModel", "bestWrong", "I", false)
  | 26 => ("GalleryRowsModel", "rows", "I", false)
  | 27 => ("GalleryRowsModel", "told", "[I", true)
  | 28 => ("GalleryRowsModel", "toldMany", "I", false)
  | 29 => ("GalleryRowsModel", "lots", "I", false)
  | 30 => ("GalleryRowsModel", "lineWrong", "I", false)
  | 31 => ("GalleryRowsModel", "lineSort", "I", false)
  | 32 => ("GalleryRowsModel", "lineC", "I", false)
  | 33 => ("GalleryRowsModel", "lineAbove", "I", false)
  | 34 => ("GalleryRowsModel", "yesAt", "[I", true)
  | 35 => ("GalleryRowsModel", "noAt", "[I", true)
  | 36 => ("GalleryRowsModel", "before", "[I", true)
  | 37 => ("GalleryRowsModel", "falls", "[I", true)
  | 38 => ("GalleryRowsModel", "moveFall", "I", false)
  | 39 => ("GalleryRowsModel", "moveMember", "I", false)
  | 40 => ("GalleryRowsModel", "moveYear", "I", false)
  | 41 => ("GalleryRowsModel", "movePlace", "I", false)
  | 42 => ("GalleryRowsModel", "kept", "[I", true)
  | 43 => ("GalleryRowsModel", "hasImage", "Z", false)
  | 44 => ("GalleryRowsModel", "isKeeping", "Z", false)
  | _ => ("GalleryRowsModel", "cursor", "I", false)
def tyX9 : Nat → FieldType := fun k => match k with
  | 0 => .array .int
  | 1 => .array .int
  | 2 => .array .int
  | 3 => .array .int
  | 4 => .array .int
  | 5 => .array .int
  | 6 => .array .int
  | 7 => .array .int
  | 8 => .array .int
  | 9 => .array .int
  | 10 => .array .int
  | 11 => .int
  | 12 => .int
  | 13 => .int
  | 14 => .boolean
  | 15 => .array .int
  | 16 => .int
  | 17 => .int
  | 18 => .array .int
  | 19 => .int
  | 20 => .int
  | 21 => .int
  | 22 => .array .int
  | 23 => .array .int
  | 24 => .int
  | 25 => .int
  | 26 => .int
  | 27 => .array .int
  | 28 => .int
  | 29 => .int
  | 30 => .int
  | 31 => .int
  | 32 => .int
  | 33 => .int
  | 34 => .array .int
  | 35 => .array .int
  | 36 => .array .int
  | 37 => .array .int
  | 38 => .int
  | 39 => .int
  | 40 => .int
  | 41 => .int
  | 42 => .array .int
  | 43 => .boolean
  | 44 => .boolean
  | _ => .int
abbrev wsX90 : List Cond := u_ws RX9 TX9 46
theorem nmX9 : ∀ a, a < 46 → ∀ b, b < 46 → a ≠ b → (TX9 a).2.1 ≠ (TX9 b).2.1 := by decide +kernel
theorem tyX9_ok : ∀ k, k < 46 → parseFieldDescriptor (TX9 k).2.2.1 = some (tyX9 k) := by decide +kernel
abbrev cX9_init : ByteArray := prog_11_method_1_code
def yX9_init : MethodName := ⟨RX9, "<init>", "()V"⟩
abbrev cX9_no : ByteArray := prog_11_method_2_code
def yX9_no : MethodName := ⟨RX9, "no", "(I)I"⟩
abbrev cX9_isIn : ByteArray := prog_11_method_3_code
def yX9_isIn : MethodName := ⟨RX9, "isIn", "(III)Z"⟩
abbrev cX9_out : ByteArray := prog_11_method_4_code
def yX9_out : MethodName := ⟨RX9, "out", "(III)I"⟩
abbrev cX9_bits : ByteArray := prog_11_method_5_code
def yX9_bits : MethodName := ⟨RX9, "bits", "(I)I"⟩
abbrev cX9_isMember : ByteArray := prog_11_method_6_code
def yX9_isMember : MethodName := ⟨RX9, "isMember", "(I)Z"⟩
abbrev cX9_isVote : ByteArray := prog_11_method_7_code
def yX9_isVote : MethodName := ⟨RX9, "isVote", "(I)Z"⟩
abbrev cX9_joins : ByteArray := prog_11_method_8_code
def yX9_joins : MethodName := ⟨RX9, "joins", "(II)I"⟩
abbrev cX9_member : ByteArray := prog_11_method_9_code
def yX9_member : MethodName := ⟨RX9, "member", "(II)I"⟩
abbrev cX9_party : ByteArray := prog_11_method_10_code
def yX9_party : MethodName := ⟨RX9, "party", "(II)I"⟩
abbrev cX9_votesSo : ByteArray := prog_11_method_11_code
def yX9_votesSo : MethodName := ⟨RX9, "votesSo", "(III)I"⟩
abbrev cX9_isOf : ByteArray := prog_11_method_12_code
def yX9_isOf : MethodName := ⟨RX9, "isOf", "(II)Z"⟩
abbrev cX9_vote : ByteArray := prog_11_method_13_code
def yX9_vote : MethodName := ⟨RX9, "vote", "(III)I"⟩
abbrev cX9_of : ByteArray := prog_11_method_14_code
def yX9_of : MethodName := ⟨RX9, "of", "(II)I"⟩
abbrev cX9_takeOut : ByteArray := prog_11_method_15_code
def yX9_takeOut : MethodName := ⟨RX9, "takeOut", "()I"⟩
abbrev cX9_isHeld : ByteArray := prog_11_method_16_code
def yX9_isHeld : MethodName := ⟨RX9, "isHeld", "(II)Z"⟩
abbrev cX9_holds : ByteArray := prog_11_method_17_code
def yX9_holds : MethodName := ⟨RX9, "holds", "(II)V"⟩
abbrev cX9_hold : ByteArray := prog_11_method_18_code
def yX9_hold : MethodName := ⟨RX9, "hold", "(II)I"⟩
abbrev cX9_free : ByteArray := prog_11_method_19_code
def yX9_free : MethodName := ⟨RX9, "free", "()I"⟩
abbrev cX9_apart : ByteArray := prog_11_method_20_code
def yX9_apart : MethodName := ⟨RX9, "apart", "(II)I"⟩
abbrev cX9_feed : ByteArray := prog_11_method_21_code
def yX9_feed : MethodName := ⟨RX9, "feed", "(IJ)I"⟩
abbrev cX9_sign : ByteArray := prog_11_method_22_code
def yX9_sign : MethodName := ⟨RX9, "sign", "()I"⟩
abbrev cX9_takes : ByteArray := prog_11_method_23_code
def yX9_takes : MethodName := ⟨RX9, "takes", "(I)Z"⟩
abbrev cX9_number : ByteArray := prog_11_method_24_code
def yX9_number : MethodName := ⟨RX9, "number", "()I"⟩
abbrev cX9_digit : ByteArray := prog_11_method_25_code
def yX9_digit : MethodName := ⟨RX9, "digit", "(I)I"⟩
abbrev cX9_readsMember : ByteArray := prog_11_method_26_code
def yX9_readsMember : MethodName := ⟨RX9, "readsMember", "()Z"⟩
abbrev cX9_readsVote : ByteArray := prog_11_method_27_code
def yX9_readsVote : MethodName := ⟨RX9, "readsVote", "()Z"⟩
abbrev cX9_readsHeld : ByteArray := prog_11_method_28_code
def yX9_readsHeld : MethodName := ⟨RX9, "readsHeld", "(Z)Z"⟩
abbrev cX9_readsParty : ByteArray := prog_11_method_29_code
def yX9_readsParty : MethodName := ⟨RX9, "readsParty", "()Z"⟩
abbrev cX9_statement : ByteArray := prog_11_method_30_code
def yX9_statement : MethodName := ⟨RX9, "statement", "()Z"⟩
abbrev cX9_read : ByteArray := prog_11_method_31_code
def yX9_read : MethodName := ⟨RX9, "read", "()I"⟩
abbrev cX9_findCut : ByteArray := prog_11_method_32_code
def yX9_findCut : MethodName := ⟨RX9, "findCut", "(II)V"⟩
abbrev cX9_wrongOf : ByteArray := prog_11_method_33_code
def yX9_wrongOf : MethodName := ⟨RX9, "wrongOf", "(II)I"⟩
abbrev cX9_wrongAll : ByteArray := prog_11_method_34_code
def yX9_wrongAll : MethodName := ⟨RX9, "wrongAll", "()I"⟩
abbrev cX9_isYes : ByteArray := prog_11_method_35_code
def yX9_isYes : MethodName := ⟨RX9, "isYes", "(I)Z"⟩
abbrev cX9_firstRow : ByteArray := prog_11_method_36_code
def yX9_firstRow : MethodName := ⟨RX9, "firstRow", "()V"⟩
abbrev cX9_nextRow : ByteArray := prog_11_method_37_code
def yX9_nextRow : MethodName := ⟨RX9, "nextRow", "()Z"⟩
abbrev cX9_placeOf : ByteArray := prog_11_method_38_code
def yX9_placeOf : MethodName := ⟨RX9, "placeOf", "(I)I"⟩
abbrev cX9_isAsHeld : ByteArray := prog_11_method_39_code
def yX9_isAsHeld : MethodName := ⟨RX9, "isAsHeld", "()Z"⟩
abbrev cX9_finds : ByteArray := prog_11_method_40_code
def yX9_finds : MethodName := ⟨RX9, "finds", "()V"⟩
abbrev cX9_looksAt : ByteArray := prog_11_method_41_code
def yX9_looksAt : MethodName := ⟨RX9, "looksAt", "()V"⟩
abbrev cX9_stands : ByteArray := prog_11_method_42_code
def yX9_stands : MethodName := ⟨RX9, "stands", "(I)V"⟩
abbrev cX9_first : ByteArray := prog_11_method_43_code
def yX9_first : MethodName := ⟨RX9, "first", "()Z"⟩
abbrev cX9_put : ByteArray := prog_11_method_44_code
def yX9_put : MethodName := ⟨RX9, "put", "(I)I"⟩
abbrev cX9_standsTold : ByteArray := prog_11_method_45_code
def yX9_standsTold : MethodName := ⟨RX9, "standsTold", "()V"⟩
abbrev cX9_judge : ByteArray := prog_11_method_46_code
def yX9_judge : MethodName := ⟨RX9, "judge", "()I"⟩
abbrev cX9_cut : ByteArray := prog_11_method_47_code
def yX9_cut : MethodName := ⟨RX9, "cut", "(I)I"⟩
abbrev cX9_wrong : ByteArray := prog_11_method_48_code
def yX9_wrong : MethodName := ⟨RX9, "wrong", "(I)I"⟩
abbrev cX9_best : ByteArray := prog_11_method_49_code
def yX9_best : MethodName := ⟨RX9, "best", "(I)I"⟩
abbrev cX9_row : ByteArray := prog_11_method_50_code
def yX9_row : MethodName := ⟨RX9, "row", "(II)I"⟩
abbrev cX9_open : ByteArray := prog_11_method_51_code
def yX9_open : MethodName := ⟨RX9, "open", "()I"⟩
abbrev cX9_isKnot : ByteArray := prog_11_method_52_code
def yX9_isKnot : MethodName := ⟨RX9, "isKnot", "(I)Z"⟩
abbrev cX9_knot : ByteArray := prog_11_method_53_code
def yX9_knot : MethodName := ⟨RX9, "knot", "()I"⟩
abbrev cX9_dealt : ByteArray := prog_11_method_54_code
def yX9_dealt : MethodName := ⟨RX9, "dealt", "(I)I"⟩
abbrev cX9_chance : ByteArray := prog_11_method_55_code
def yX9_chance : MethodName := ⟨RX9, "chance", "(II)I"⟩
abbrev cX9_place : ByteArray := prog_11_method_56_code
def yX9_place : MethodName := ⟨RX9, "place", "(III)I"⟩
abbrev cX9_measure : ByteArray := prog_11_method_57_code
def yX9_measure : MethodName := ⟨RX9, "measure", "(II)I"⟩
abbrev cX9_findLine : ByteArray := prog_11_method_58_code
def yX9_findLine : MethodName := ⟨RX9, "findLine", "(I)V"⟩
abbrev cX9_takesLine : ByteArray := prog_11_method_59_code
def yX9_takesLine : MethodName := ⟨RX9, "takesLine", "(IIII)V"⟩
abbrev cX9_line : ByteArray := prog_11_method_60_code
def yX9_line : MethodName := ⟨RX9, "line", "(I)I"⟩
abbrev cX9_sheet : ByteArray := prog_11_method_61_code
def yX9_sheet : MethodName := ⟨RX9, "sheet", "()I"⟩
abbrev cX9_turn : ByteArray := prog_11_method_62_code
def yX9_turn : MethodName := ⟨RX9, "turn", "()I"⟩
abbrev cX9_oddOf : ByteArray := prog_11_method_63_code
def yX9_oddOf : MethodName := ⟨RX9, "oddOf", "(I)I"⟩
abbrev cX9_odd : ByteArray := prog_11_method_64_code
def yX9_odd : MethodName := ⟨RX9, "odd", "(I)I"⟩
abbrev cX9_second : ByteArray := prog_11_method_65_code
def yX9_second : MethodName := ⟨RX9, "second", "(I)I"⟩
abbrev cX9_movesTo : ByteArray := prog_11_method_66_code
def yX9_movesTo : MethodName := ⟨RX9, "movesTo", "(II)V"⟩
abbrev cX9_findMove : ByteArray := prog_11_method_67_code
def yX9_findMove : MethodName := ⟨RX9, "findMove", "()Z"⟩
abbrev cX9_triesYears : ByteArray := prog_11_method_68_code
def yX9_triesYears : MethodName := ⟨RX9, "triesYears", "(II)V"⟩
abbrev cX9_move : ByteArray := prog_11_method_69_code
def yX9_move : MethodName := ⟨RX9, "move", "(I)I"⟩
abbrev cX9_stretchesOf : ByteArray := prog_11_method_70_code
def yX9_stretchesOf : MethodName := ⟨RX9, "stretchesOf", "(I)I"⟩
abbrev cX9_stretches : ByteArray := prog_11_method_71_code
def yX9_stretches : MethodName := ⟨RX9, "stretches", "(I)I"⟩
abbrev cX9_parties : ByteArray := prog_11_method_72_code
def yX9_parties : MethodName := ⟨RX9, "parties", "(I)I"⟩
abbrev cX9_sayOf : ByteArray := prog_11_method_73_code
def yX9_sayOf : MethodName := ⟨RX9, "sayOf", "(II)I"⟩
abbrev cX9_notAway : ByteArray := prog_11_method_74_code
def yX9_notAway : MethodName := ⟨RX9, "notAway", "(II)I"⟩
abbrev cX9_say : ByteArray := prog_11_method_75_code
def yX9_say : MethodName := ⟨RX9, "say", "(II)I"⟩
abbrev cX9_sure : ByteArray := prog_11_method_76_code
def yX9_sure : MethodName := ⟨RX9, "sure", "(II)I"⟩
abbrev cX9_passes : ByteArray := prog_11_method_77_code
def yX9_passes : MethodName := ⟨RX9, "passes", "([I)V"⟩
abbrev cX9_passOne : ByteArray := prog_11_method_78_code
def yX9_passOne : MethodName := ⟨RX9, "passOne", "(I)I"⟩
abbrev cX9_passesAll : ByteArray := prog_11_method_79_code
def yX9_passesAll : MethodName := ⟨RX9, "passesAll", "()V"⟩
abbrev cX9_image : ByteArray := prog_11_method_80_code
def yX9_image : MethodName := ⟨RX9, "image", "()I"⟩
abbrev cX9_restore : ByteArray := prog_11_method_81_code
def yX9_restore : MethodName := ⟨RX9, "restore", "()I"⟩
abbrev cX9_count : ByteArray := prog_11_method_82_code
def yX9_count : MethodName := ⟨RX9, "count", "(I)I"⟩
def RJ6 : String := "java/lang/Integer"
def TJ6 : u_T := fun k => match k with
  | _ => ("", "", "", false)
def tyJ6 : Nat → FieldType := fun k => match k with
  | _ => .int
abbrev wsJ60 : List Cond := u_ws RJ6 TJ6 0
theorem nmJ6 : ∀ a, a < 0 → ∀ b, b < 0 → a ≠ b → (TJ6 a).2.1 ≠ (TJ6 b).2.1 := by decide +kernel
theorem tyJ6_ok : ∀ k, k < 0 → parseFieldDescriptor (TJ6 k).2.2.1 = some (tyJ6 k) := by decide +kernel
abbrev cJ6_bitCount_0f7a4 : ByteArray := prog_12_method_49_code
def yJ6_bitCount_0f7a4 : MethodName := ⟨RJ6, "bitCount", "(I)I"⟩
def RJ9 : String := "java/lang/Math"
def TJ9 : u_T := fun k => match k with
  | _ => ("", "", "", false)
def tyJ9 : Nat → FieldType := fun k => match k with
  | _ => .int
abbrev wsJ90 : List Cond := u_ws RJ9 TJ9 0
theorem nmJ9 : ∀ a, a < 0 → ∀ b, b < 0 → a ≠ b → (TJ9 a).2.1 ≠ (TJ9 b).2.1 := by decide +kernel
theorem tyJ9_ok : ∀ k, k < 0 → parseFieldDescriptor (TJ9 k).2.2.1 = some (tyJ9 k) := by decide +kernel
abbrev cJ9_max_7cf53 : ByteArray := prog_13_method_65_code
def yJ9_max_7cf53 : MethodName := ⟨RJ9, "max", "(II)I"⟩
abbrev cJ9_min_7cf53 : ByteArray := prog_13_method_69_code
def yJ9_min_7cf53 : MethodName := ⟨RJ9, "min", "(II)I"⟩
def RJ10 : String := "java/lang/System"
def TJ10 : u_T := fun k => match k with
  | _ => ("", "", "", false)
def tyJ10 : Nat → FieldType := fun k => match k with
  | _ => .int
abbrev wsJ100 : List Cond := u_ws RJ10 TJ10 0
theorem nmJ10 : ∀ a, a < 0 → ∀ b, b < 0 → a ≠ b → (TJ10 a).2.1 ≠ (TJ10 b).2.1 := by decide +kernel
theorem tyJ10_ok : ∀ k, k < 0 → parseFieldDescriptor (TJ10 k).2.2.1 = some (tyJ10 k) := by decide +kernel
def RL : String := "GalleryRowsLaw"
abbrev cL_law : ByteArray := code
def yL_law : MethodName := ⟨RL, "law", "([I)Z"⟩
abbrev vwCl : List vw_C := [(RX0, TX0, 5), (RX1, TX1, 13), (RX3, TX3, 2), (RX4, TX4, 5), (RX5, TX5, 17), (RX6, TX6, 3), (RX7, TX7, 8), (RX8, TX8, 12), (RX9, TX9, 46)]
end
section
/-! A small machine over the claim's own instructions: its world is a fixed list of cells; what a cell holds at a place is an int; references are numbers of cells. -/
abbrev sS : Type := Nat → Nat → Int32
abbrev sL : Type := List (Option Value)
abbrev sK : Type := List Value
abbrev sR : Type := Option (Option Value × sS)
abbrev sX : Type := Nat × (Nat → Int32)
abbrev sT : Type := Nat × Option (List Bool)
abbrev sE : Type := Instr × sT × List sT × Nat × Nat × Nat × Int32 × Int64 × List Int32
abbrev sQ : Type := Nat ⊕ (Nat × List (Option Nat))
def nth {α : Type} : List α → Nat → Option α
  | [], _ => none
  | a :: _, 0 => some a
  | _ :: l, n + 1 => nth l n
def up2 (S : sS) (k j : Nat) (v : Int32) : sS := fun i => bif Nat.beq i k then upd (S k) j v else S i
def upA (S : sS) (k : Nat) (f : Nat → Int32) : sS := fun i => bif Nat.beq i k then f else S i
/-- the script's number as a reference -/
def scrR : Nat := 999
def ix (i : Int32) (n : Nat) (k : Nat → sR) : sR := if i < 0 ∨ n ≤ i.toNatClampNeg then none else k i.toNatClampNeg
def dv (y : Int32) (k : sR) : sR := if y = 0 then none else k
def bz (v : Int32) (k : sR) : sR := if v &&& 1 = v then k else none
def cI (o : sR) (k : Int32 → sS → sR) : sR := match o with
  | some (some (.int r), S) => k r S
  | _ => none
def cV (o : sR) (k : sS → sR) : sR := match o with
  | some (none, S) => k S
  | _ => none
def msk : List Bool → sL → sL
  | b :: bs, v :: vs => (bif b then v else none) :: msk bs vs
  | _, _ => []
def setL : sL → Nat → Value → sL
  | [], _, _ => []
  | _ :: l, 0, v => some v :: l
  | a :: l, n + 1, v => a :: setL l n v
def pops : Nat → sK → List Value → Option (List Value × sK)
  | 0, st, acc => some (acc, st)
  | n + 1, v :: st, acc => pops n st (v :: acc)
  | _ + 1, [], _ => none
def entL : List Value → sL
  | [] => []
  | .long x :: l => some (.long x) :: none :: entL l
  | .double x :: l => some (.double x) :: none :: entL l
  | v :: l => some v :: entL l
def padL : Nat → sL → sL
  | 0, _ => []
  | n + 1, [] => none :: padL n []
  | n + 1, v :: l => v :: padL n l
def swc (go : sT → sR) (x : Int32) : List Int32 → List sT → sT → sR
  | k :: ks, t :: ts, d => if x = k then go t else swc go x ks ts d
  | _, _, d => go d
def isL : Option (Option Value) → Bool
  | some (some (.long _)) => true
  | some (some (.double _)) => true
  | _ => false
def catS : sK → Nat
  | [] => 0
  | v :: l => v.category + catS l
/-- a store into a local variable: not behind a long's first half -/
def stoL (ls : sL) (k : Nat) (v : Value) (f : sL → sR) : sR :=
  bif Nat.ble ls.length k then none else match k with
  | 0 => f (setL ls 0 v)
  | n + 1 => bif isL (nth ls n) then none else f (setL ls (n + 1) v)
def ldI (ls : sL) (k : Nat) (f : Value → sR) : sR := match nth ls k with
  | some (some (.int x)) => f (.int x)
  | _ => none
def ldA (ls : sL) (k : Nat) (f : Value → sR) : sR := match nth ls k with
  | some (some (.ref x)) => f (.ref x)
  | _ => none
def ldL (ls : sL) (k : Nat) (f : Value → sR) : sR := match nth ls k with
  | some (some (.long x)) => f (.long x)
  | _ => none
def bi2 (st : sK) (op : Int32 → Int32 → Int32) (f : sK → sR) : sR := match st with
  | .int y :: .int x :: st => f (.int (op x y) :: st)
  | _ => none
def bl2 (st : sK) (op : Int64 → Int64 → Int64) (f : sK → sR) : sR := match st with
  | .long y :: .long x :: st => f (.long (op x y) :: st)
  | _ => none
def bs2 (st : sK) (op : Int64 → Int32 → Int64) (f : sK → sR) : sR := match st with
  | .int y :: .long x :: st => f (.long (op x y) :: st)
  | _ => none
def oShl (x y : Int32) : Int32 := x <<< (y &&& 31)
def oShr (x y : Int32) : Int32 := x >>> (y &&& 31)
def oUshr (x y : Int32) : Int32 := (x.toUInt32 >>> (y.toUInt32 &&& Int32.toUInt32 31)).toInt32
def oLshl (x : Int64) (y : Int32) : Int64 := x <<< (y.toInt64 &&& 63)
def oLshr (x : Int64) (y : Int32) : Int64 := x >>> (y.toInt64 &&& 63)
def oLushr (x : Int64) (y : Int32) : Int64 := (x.toUInt64 >>> (y.toInt64.toUInt64 &&& Int64.toUInt64 63)).toInt64
def minI (x y : Int32) : Int32 := if y < x then y else x
def maxI (x y : Int32) : Int32 := if x < y then y else x
def mmx (st : sK) (op : Int32 → Int32 → Int32) (f : sK → sR) : sR := match st with
  | .int y :: .int x :: st => bif Nat.ble (catS st) 8 then f (.int (op x y) :: st) else none
  | _ => none
def oRem (x y : Int32) : Int32 := x - x / y * y
def getF (lay : List sQ) (S : sS) (k ci j : Nat) (f : Value → sR) : sR := match nth lay k with
  | some (.inr (c, fs)) => bif Nat.beq c ci then (match nth fs j with
    | some none => f (.int (S k j))
    | some (some r) => f (.ref r)
    | none => none) else none
  | _ => none
def putF (lay : List sQ) (S : sS) (k ci j : Nat) (v : Int32) (f : sS → sR) : sR := match nth lay k with
  | some (.inr (c, fs)) => bif Nat.beq c ci then (match nth fs j with
    | some none => f (up2 S k j v)
    | _ => none) else none
  | _ => none
def getA (lay : List sQ) (X : sX) (S : sS) (k : Nat) (i : Int32) (f : Value → sR) : sR := match nth lay k with
  | some (.inl n) => ix i n (fun j => f (.int (S k j)))
  | _ => bif Nat.beq k scrR then ix i X.1 (fun j => f (.int (X.2 j))) else none
def putA (lay : List sQ) (S : sS) (k : Nat) (i v : Int32) (f : sS → sR) : sR := match nth lay k with
  | some (.inl n) => ix i n (fun j => f (up2 S k j v))
  | _ => none
def lenA (lay : List sQ) (X : sX) (k : Nat) (f : Value → sR) : sR := match nth lay k with
  | some (.inl n) => f (.int (Int32.ofNat n))
  | _ => bif Nat.beq k scrR then f (.int (Int32.ofNat X.1)) else none
/-- a copy of a whole row onto another, both of n places -/
def cpyA (lay : List sQ) (S : sS) (a b : Nat) (n : Int32) (f : sS → sR) : sR := match nth lay a, nth lay b with
  | some (.inl n1), some (.inl n2) => if n1 = n2 ∧ n = Int32.ofNat n1 ∧ n1 < 1000 then f (upA S b (fun j => if j < n1 then S a j else S b j)) else none
  | _, _ => none
/-- the receiver is a cell of the class that the callee is of -/
def rcv (lay : List sQ) (ci : Nat) (as : List Value) (f : sR) : sR := match as with
  | .ref k :: _ => (match nth lay k with
    | some (.inr (c, _)) => bif Nat.beq c ci then f else none
    | _ => none)
  | _ => none
/-- a call: which method (a1), how many operands (a2); of methods: its number of locals, its kind of answer (0 none, 1 int), its class -/
def call (C : Nat → List Value → sS → sR) (a1 a2 kd : Nat) (st : sK) (S : sS) (chk : List Value → sR → sR) (f : sK → sS → sR) : sR := match pops a2 st [] with
  | some (as, st') => bif Nat.ble (catS st') 8 then chk as (bif Nat.beq kd 0 then cV (C a1 as S) (fun S' => f st' S') else cI (C a1 as S) (fun r S' => f (.int r :: st') S')) else none
  | none => none
/-- one instruction: where it goes on -/
def stepI (lay : List sQ) (inf : Nat → Nat × Nat) (X : sX) (go : sT → sL → sK → sS → sR) (C : Nat → List Value → sS → sR) (e : sE) (ls : sL) (st : sK) (S : sS) : sR := match e with
  | (ins, nx, tg, a1, a2, _, cst, lc, ks) => match ins with
    | .iconst _ => go nx ls (.int cst :: st) S
    | .bipush _ => go nx ls (.int cst :: st) S
    | .sipush _ => go nx ls (.int cst :: st) S
    | .ldc _ => go nx ls (.int cst :: st) S
    | .ldc_w _ => go nx ls (.int cst :: st) S
    | .ldc2_w _ => go nx ls (.long lc :: st) S
    | .iload k => ldI ls k (fun v => go nx ls (v :: st) S)
    | .iload_n k => ldI ls k.val (fun v => go nx ls (v :: st) S)
    | .aload_n k => ldA ls k.val (fun v => go nx ls (v :: st) S)
    | .lload_n k => ldL ls k.val (fun v => go nx ls (v :: st) S)
    | .istore k => (match st with | .int x :: st' => stoL ls k (.int x) (fun ls' => go nx ls' st' S) | _ => none)
    | .istore_n k => (match st with | .int x :: st' => stoL ls k.val (.int x) (fun ls' => go nx ls' st' S) | _ => none)
    | .iinc k _ => (match nth ls k with | some (some (.int x)) => stoL ls k (.int (x + cst)) (fun ls' => go nx ls' st S) | _ => none)
    | .iadd => bi2 st (fun x y => x + y) (fun st' => go nx ls st' S)
    | .isub => bi2 st (fun x y => x - y) (fun st' => go nx ls st' S)
    | .imul => bi2 st (fun x y => x * y) (fun st' => go nx ls st' S)
    | .iand => bi2 st (fun x y => x &&& y) (fun st' => go nx ls st' S)
    | .ior => bi2 st (fun x y => x ||| y) (fun st' => go nx ls st' S)
    | .ixor => bi2 st (fun x y => x ^^^ y) (fun st' => go nx ls st' S)
    | .ishl => bi2 st oShl (fun st' => go nx ls st' S)
    | .ishr => bi2 st oShr (fun st' => go nx ls st' S)
    | .iushr => bi2 st oUshr (fun st' => go nx ls st' S)
    | .idiv => (match st with | .int y :: .int x :: st' => dv y (go nx ls (.int (x / y) :: st') S) | _ => none)
    | .irem => (match st with | .int y :: .int x :: st' => dv y (go nx ls (.int (oRem x y) :: st') S) | _ => none)
    | .ineg => (match st with | .int x :: st' => go nx ls (.int (-x) :: st') S | _ => none)
    | .i2l => (match st with | .int x :: st' => go nx ls (.long x.toInt64 :: st') S | _ => none)
    | .l2i => (match st with | .long x :: st' => go nx ls (.int x.toInt32 :: st') S | _ => none)
    | .land => bl2 st (fun x y => x &&& y) (fun st' => go nx ls st' S)
    | .lor => bl2 st (fun x y => x ||| y) (fun st' => go nx ls st' S)
    | .lshl => bs2 st oLshl (fun st' => go nx ls st' S)
    | .lshr => bs2 st oLshr (fun st' => go nx ls st' S)
    | .lushr => bs2 st oLushr (fun st' => go nx ls st' S)
    | .dup => (match st with | .int x :: st' => go nx ls (.int x :: .int x :: st') S | .ref x :: st' => go nx ls (.ref x :: .ref x :: st') S | _ => none)
    | .dup2 => (match st with | .int y :: .ref x :: st' => go nx ls (.int y :: .ref x :: .int y :: .ref x :: st') S | _ => none)
    | .pop => (match st with | .int _ :: st' => go nx ls st' S | _ => none)
    | .goto _ => (match tg with | [t] => go t ls st S | _ => none)
    | .if_icmp c _ => (match tg, st with
      | [t], .int y :: .int x :: st' => (match c with
        | .eq => if x = y then go t ls st' S else go nx ls st' S
        | .ne => if x = y then go nx ls st' S else go t ls st' S
        | .lt => if x < y then go t ls st' S else go nx ls st' S
        | .ge => if y ≤ x then go t ls st' S else go nx ls st' S
        | .gt => if y < x then go t ls st' S else go nx ls st' S
        | .le => if x ≤ y then go t ls st' S else go nx ls st' S)
      | _, _ => none)
    | .ifCond c _ => (match tg, st with
      | [t], .int x :: st' => (match c with
        | .eq => if x = 0 then go t ls st' S else go nx ls st' S
        | .ne => if x = 0 then go nx ls st' S else go t ls st' S
        | .lt => if x < 0 then go t ls st' S else go nx ls st' S
        | .ge => if 0 ≤ x then go t ls st' S else go nx ls st' S
        | .gt => if 0 < x then go t ls st' S else go nx ls st' S
        | .le => if x ≤ 0 then go t ls st' S else go nx ls st' S)
      | _, _ => none)
    | .tableswitch _ _ _ _ => (match tg, st with | d :: ts, .int x :: st' => swc (fun t => go t ls st' S) x ks ts d | _, _ => none)
    | .lookupswitch _ _ => (match tg, st with | d :: ts, .int x :: st' => swc (fun t => go t ls st' S) x ks ts d | _, _ => none)
    | .getfield _ => (match st with | .ref k :: st' => getF lay S k a1 a2 (fun v => go nx ls (v :: st') S) | _ => none)
    | .putfield _ => (match st with | .int v :: .ref k :: st' => (match tg with
        | [] => putF lay S k a1 a2 v (fun S' => go nx ls st' S')
        | _ => bz v (putF lay S k a1 a2 v (fun S' => go nx ls st' S'))) | _ => none)
    | .iaload => (match st with | .int i :: .ref k :: st' => getA lay X S k i (fun v => go nx ls (v :: st') S) | _ => none)
    | .iastore => (match st with | .int v :: .int i :: .ref k :: st' => putA lay S k i v (fun S' => go nx ls st' S') | _ => none)
    | .arraylength => (match st with | .ref k :: st' => lenA lay X k (fun v => go nx ls (v :: st') S) | _ => none)
    | .invokevirtual _ => call C a1 a2 (inf a1).1 st S (fun as r => rcv lay (inf a1).2 as r) (fun st' S' => go nx ls st' S')
    | .invokestatic _ => (match tg with
      | [] => call C a1 a2 (inf a1).1 st S (fun _ r => r) (fun st' S' => go nx ls st' S')
      | t :: _ => (match t.1 with
        | 0 => (match st with | [.int n, .int p, .ref b, .int q, .ref a] => if p = 0 ∧ q = 0 then cpyA lay S a b n (fun S' => go nx ls [] S') else none | _ => none)
        | 1 => mmx st minI (fun st' => go nx ls st' S)
        | _ => mmx st maxI (fun st' => go nx ls st' S)))
    | .ireturn => (match st with | [.int v] => (bif Nat.beq a1 0 then some (some (.int v), S) else bz v (some (some (.int v), S))) | _ => none)
    | .return_ => (match st with | [] => some (none, S) | _ => none)
    | _ => none
/-- straight on to the next cut, call or end -/
def seg (lay : List sQ) (inf : Nat → Nat × Nat) (X : sX) (K : Nat → sL → sK → sS → sR) (C : Nat → List Value → sS → sR) (cod : Nat → Option sE) : Nat → Nat → sL → sK → sS → sR
  | 0, _, _, _, _ => none
  | f + 1, pc, ls, st, S => match cod pc with
    | none => none
    | some e => stepI lay inf X (fun t ls st S => match t.2 with
      | none => seg lay inf X K C cod f t.1 ls st S
      | some kp => K t.1 (msk kp ls) st S) C e ls st S
/-- runs, by fuel: a cut or a call costs one -/
def runN (lay : List sQ) (inf : Nat → Nat × Nat) (mL : Nat → Nat) (cod : Nat → Nat → Option sE) (X : sX) : Nat → Nat → Nat → sL → sK → sS → sR
  | 0, _, _, _, _, _ => none
  | n + 1, mi, pc, ls, st, S => seg lay inf X (runN lay inf mL cod X n mi) (fun mi' as S' => bif Nat.ble (catS as) (mL mi') then runN lay inf mL cod X n mi' 0 (padL (mL mi') (entL as)) [] S' else none) (cod mi) 4000 pc ls st S
end
section
/-! what a helper's answer tells -/
theorem ix_inv {i : Int32} {n : Nat} {k : Nat → sR} {r : Option Value × sS} (h : ix i n k = some r) : vp_in i n ∧ k i.toNatClampNeg = some r := by
  unfold ix at h
  split at h
  · cases h
  · next q => exact ⟨q, h⟩
theorem ix_eq {i : Int32} {n : Nat} {k : Nat → sR} (h : vp_in i n) : ix i n k = k i.toNatClampNeg := by
  unfold ix
  exact if_neg h
theorem dv_inv {y : Int32} {k : sR} {r : Option Value × sS} (h : dv y k = some r) : ¬ y = 0 ∧ k = some r := by
  unfold dv at h
  split at h
  · cases h
  · next q => exact ⟨q, h⟩
theorem bz_inv {y : Int32} {k : sR} {r : Option Value × sS} (h : bz y k = some r) : y &&& 1 = y ∧ k = some r := by
  unfold bz at h
  split at h
  · next q => exact ⟨q, h⟩
  · cases h
theorem cI_inv {o : sR} {k : Int32 → sS → sR} {r : Option Value × sS} (h : cI o k = some r) : ∃ x S, o = some (some (.int x), S) ∧ k x S = some r := by
  unfold cI at h
  split at h
  · exact ⟨_, _, rfl, h⟩
  · cases h
theorem cV_inv {o : sR} {k : sS → sR} {r : Option Value × sS} (h : cV o k = some r) : ∃ S, o = some (none, S) ∧ k S = some r := by
  unfold cV at h
  split at h
  · exact ⟨_, rfl, h⟩
  · cases h
theorem ldI_inv {ls : sL} {k : Nat} {f : Value → sR} {r : Option Value × sS} (h : ldI ls k f = some r) : ∃ x, nth ls k = some (some (.int x)) ∧ f (.int x) = some r := by
  unfold ldI at h
  split at h
  · next q => exact ⟨_, q, h⟩
  · cases h
theorem ldA_inv {ls : sL} {k : Nat} {f : Value → sR} {r : Option Value × sS} (h : ldA ls k f = some r) : ∃ x, nth ls k = some (some (.ref x)) ∧ f (.ref x) = some r := by
  unfold ldA at h
  split at h
  · next q => exact ⟨_, q, h⟩
  · cases h
theorem ldL_inv {ls : sL} {k : Nat} {f : Value → sR} {r : Option Value × sS} (h : ldL ls k f = some r) : ∃ x, nth ls k = some (some (.long x)) ∧ f (.long x) = some r := by
  unfold ldL at h
  split at h
  · next q => exact ⟨_, q, h⟩
  · cases h
theorem stoL_inv {ls : sL} {k : Nat} {v : Value} {f : sL → sR} {r : Option Value × sS} (h : stoL ls k v f = some r) : k < ls.length ∧ (∀ n, k = n + 1 → isL (nth ls n) = false) ∧ f (setL ls k v) = some r := by
  unfold stoL at h
  cases hb : Nat.ble ls.length k with
  | true => rw [hb] at h; cases h
  | false =>
    rw [hb] at h
    have hk : k < ls.length := by
      rcases Nat.lt_or_ge k ls.length with q | q
      · exact q
      · rw [Nat.ble_eq_true_of_le q] at hb; cases hb
    cases k with
    | zero => exact ⟨hk, (fun n e => by cases e), h⟩
    | succ n =>
      refine ⟨hk, ?_⟩
      cases hl : isL (nth ls n) with
      | true =>
        have h' : (bif isL (nth ls n) then none else f (setL ls (n + 1) v)) = some r := h
        rw [hl] at h'
        cases h'
      | false =>
        have h' : (bif isL (nth ls n) then none else f (setL ls (n + 1) v)) = some r := h
        rw [hl] at h'
        exact ⟨fun m e => by cases e; exact hl, h'⟩
theorem stoL_eq {ls : sL} {k : Nat} {v : Value} {f : sL → sR} (hk : k < ls.length) (hl : ∀ n, k = n + 1 → isL (nth ls n) = false) : stoL ls k v f = f (setL ls k v) := by
  unfold stoL
  have hb : Nat.ble ls.length k = false := by
    cases hb : Nat.ble ls.length k with
    | true => exact absurd (Nat.le_of_ble_eq_true hb) (by omega)
    | false => rfl
  rw [hb]
  cases k with
  | zero => rfl
  | succ n =>
    show (bif isL (nth ls n) then none else f (setL ls (n + 1) v)) = _
    rw [hl n rfl]
    rfl
theorem bi2_inv {st : sK} {op : Int32 → Int32 → Int32} {f : sK → sR} {r : Option Value × sS} (h : bi2 st op f = some r) : ∃ x y st', st = .int y :: .int x :: st' ∧ f (.int (op x y) :: st') = some r := by
  unfold bi2 at h
  split at h
  · exact ⟨_, _, _, rfl, h⟩
  · cases h
theorem bl2_inv {st : sK} {op : Int64 → Int64 → Int64} {f : sK → sR} {r : Option Value × sS} (h : bl2 st op f = some r) : ∃ x y st', st = .long y :: .long x :: st' ∧ f (.long (op x y) :: st') = some r := by
  unfold bl2 at h
  split at h
  · exact ⟨_, _, _, rfl, h⟩
  · cases h
theorem bs2_inv {st : sK} {op : Int64 → Int32 → Int64} {f : sK → sR} {r : Option Value × sS} (h : bs2 st op f = some r) : ∃ x y st', st = .int y :: .long x :: st' ∧ f (.long (op x y) :: st') = some r := by
  unfold bs2 at h
  split at h
  · exact ⟨_, _, _, rfl, h⟩
  · cases h
theorem mmx_inv {st : sK} {op : Int32 → Int32 → Int32} {f : sK → sR} {r : Option Value × sS} (h : mmx st op f = some r) : ∃ x y st', st = .int y :: .int x :: st' ∧ catS st' ≤ 8 ∧ f (.int (op x y) :: st') = some r := by
  unfold mmx at h
  split at h
  · next y x st' =>
    cases hb : Nat.ble (catS st') 8 with
    | true => rw [hb] at h; exact ⟨_, _, _, rfl, Nat.le_of_ble_eq_true hb, h⟩
    | false => rw [hb] at h; cases h
  · cases h
theorem mmx_eq {x y : Int32} {st' : sK} {op : Int32 → Int32 → Int32} {f : sK → sR} (h : catS st' ≤ 8) : mmx (.int y :: .int x :: st') op f = f (.int (op x y) :: st') := by
  unfold mmx
  simp only [Nat.ble_eq_true_of_le h, cond]
theorem getF_inv {lay : List sQ} {S : sS} {k ci j : Nat} {f : Value → sR} {r : Option Value × sS} (h : getF lay S k ci j f = some r) : ∃ fs, nth lay k = some (.inr (ci, fs)) ∧ ((nth fs j = some none ∧ f (.int (S k j)) = some r) ∨ ∃ q, nth fs j = some (some q) ∧ f (.ref q) = some r) := by
  unfold getF at h
  split at h
  · next c fs hq =>
    cases hb : Nat.beq c ci with
    | false => rw [hb] at h; cases h
    | true =>
      rw [hb] at h
      have hc : c = ci := Nat.eq_of_beq_eq_true hb
      subst hc
      refine ⟨fs, hq, ?_⟩
      dsimp only [cond] at h
      split at h
      · next q => exact Or.inl ⟨q, h⟩
      · next q => exact Or.inr ⟨_, q, h⟩
      · cases h
  · cases h
theorem getF_eq0 {lay : List sQ} {S : sS} {k ci j : Nat} {f : Value → sR} {fs : List (Option Nat)} (h : nth lay k = some (.inr (ci, fs))) (h2 : nth fs j = some none) : getF lay S k ci j f = f (.int (S k j)) := by
  unfold getF
  simp only [h, Nat.beq_refl, cond, h2]
theorem getF_eq1 {lay : List sQ} {S : sS} {k ci j q : Nat} {f : Value → sR} {fs : List (Option Nat)} (h : nth lay k = some (.inr (ci, fs))) (h2 : nth fs j = some (some q)) : getF lay S k ci j f = f (.ref q) := by
  unfold getF
  simp only [h, Nat.beq_refl, cond, h2]
theorem putF_inv {lay : List sQ} {S : sS} {k ci j : Nat} {v : Int32} {f : sS → sR} {r : Option Value × sS} (h : putF lay S k ci j v f = some r) : ∃ fs, nth lay k = some (.inr (ci, fs)) ∧ nth fs j = some none ∧ f (up2 S k j v) = some r := by
  unfold putF at h
  split at h
  · next c fs hq =>
    cases hb : Nat.beq c ci with
    | false => rw [hb] at h; cases h
    | true =>
      rw [hb] at h
      have hc : c = ci := Nat.eq_of_beq_eq_true hb
      subst hc
      refine ⟨fs, hq, ?_⟩
      dsimp only [cond] at h
      split at h
      · next q => exact ⟨q, h⟩
      · cases h
  · cases h
theorem putF_eq {lay : List sQ} {S : sS} {k ci j : Nat} {v : Int32} {f : sS → sR} {fs : List (Option Nat)} (h : nth lay k = some (.inr (ci, fs))) (h2 : nth fs j = some none) : putF lay S k ci j v f = f (up2 S k j v) := by
  unfold putF
  simp only [h, Nat.beq_refl, cond, h2]
theorem getA_inv {lay : List sQ} {X : sX} {S : sS} {k : Nat} {i : Int32} {f : Value → sR} {r : Option Value × sS} (h : getA lay X S k i f = some r) : (∃ n, nth lay k = some (.inl n) ∧ vp_in i n ∧ f (.int (S k i.toNatClampNeg)) = some r) ∨ ((∀ n, nth lay k ≠ some (.inl n)) ∧ k = scrR ∧ vp_in i X.1 ∧ f (.int (X.2 i.toNatClampNeg)) = some r) := by
  unfold getA at h
  split at h
  · next n hq =>
    obtain ⟨h1, h2⟩ := ix_inv h
    exact Or.inl ⟨n, hq, h1, h2⟩
  · next hq =>
    cases hb : Nat.beq k scrR with
    | false => rw [hb] at h; cases h
    | true =>
      rw [hb] at h
      dsimp only [cond] at h
      obtain ⟨h1, h2⟩ := ix_inv h
      exact Or.inr ⟨fun n e => hq n e, Nat.eq_of_beq_eq_true hb, h1, h2⟩
theorem getA_eq {lay : List sQ} {X : sX} {S : sS} {k n : Nat} {i : Int32} {f : Value → sR} (h : nth lay k = some (.inl n)) (h2 : vp_in i n) : getA lay X S k i f = f (.int (S k i.toNatClampNeg)) := by
  unfold getA
  simp only [h]
  exact ix_eq h2
theorem getA_eqX {lay : List sQ} {X : sX} {S : sS} {k : Nat} {i : Int32} {f : Value → sR} (h : ∀ n, nth lay k ≠ some (.inl n)) (hk : k = scrR) (h2 : vp_in i X.1) : getA lay X S k i f = f (.int (X.2 i.toNatClampNeg)) := by
  unfold getA
  split
  · next n hq => exact absurd hq (h n)
  · subst hk
    rw [Nat.beq_refl]
    dsimp only [cond]
    exact ix_eq h2
theorem putA_inv {lay : List sQ} {S : sS} {k : Nat} {i v : Int32} {f : sS → sR} {r : Option Value × sS} (h : putA lay S k i v f = some r) : ∃ n, nth lay k = some (.inl n) ∧ vp_in i n ∧ f (up2 S k i.toNatClampNeg v) = some r := by
  unfold putA at h
  split at h
  · next n hq =>
    obtain ⟨h1, h2⟩ := ix_inv h
    exact ⟨n, hq, h1, h2⟩
  · cases h
theorem putA_eq {lay : List sQ} {S : sS} {k n : Nat} {i v : Int32} {f : sS → sR} (h : nth lay k = some (.inl n)) (h2 : vp_in i n) : putA lay S k i v f = f (up2 S k i.toNatClampNeg v) := by
  unfold putA
  simp only [h]
  exact ix_eq h2
theorem lenA_inv {lay : List sQ} {X : sX} {k : Nat} {f : Value → sR} {r : Option Value × sS} (h : lenA lay X k f = some r) : (∃ n, nth lay k = some (.inl n) ∧ f (.int (Int32.ofNat n)) = some r) ∨ ((∀ n, nth lay k ≠ some (.inl n)) ∧ k = scrR ∧ f (.int (Int32.ofNat X.1)) = some r) := by
  unfold lenA at h
  split at h
  · next n hq => exact Or.inl ⟨n, hq, h⟩
  · next hq =>
    cases hb : Nat.beq k scrR with
    | false => rw [hb] at h; cases h
    | true =>
      rw [hb] at h
      exact Or.inr ⟨fun n e => hq n e, Nat.eq_of_beq_eq_true hb, h⟩
theorem lenA_eq {lay : List sQ} {X : sX} {k n : Nat} {f : Value → sR} (h : nth lay k = some (.inl n)) : lenA lay X k f = f (.int (Int32.ofNat n)) := by
  unfold lenA
  simp only [h]
theorem lenA_eqX {lay : List sQ} {X : sX} {k : Nat} {f : Value → sR} (h : ∀ n, nth lay k ≠ some (.inl n)) (hk : k = scrR) : lenA lay X k f = f (.int (Int32.ofNat X.1)) := by
  unfold lenA
  split
  · next n hq => exact absurd hq (h n)
  · subst hk
    rw [Nat.beq_refl]
    rfl
theorem cpyA_inv {lay : List sQ} {S : sS} {a b : Nat} {n : Int32} {f : sS → sR} {r : Option Value × sS} (h : cpyA lay S a b n f = some r) : ∃ n1, nth lay a = some (.inl n1) ∧ nth lay b = some (.inl n1) ∧ n = Int32.ofNat n1 ∧ n1 < 1000 ∧ f (upA S b (fun j => if j < n1 then S a j else S b j)) = some r := by
  unfold cpyA at h
  split at h
  · next n1 n2 h1 h2 =>
    split at h
    · next q =>
      obtain ⟨q1, q2, q3⟩ := q
      subst q1
      exact ⟨n1, h1, h2, q2, q3, h⟩
    · cases h
  · cases h
theorem cpyA_eq {lay : List sQ} {S : sS} {a b n1 : Nat} {n : Int32} {f : sS → sR} (h1 : nth lay a = some (.inl n1)) (h2 : nth lay b = some (.inl n1)) (h3 : n = Int32.ofNat n1) (h4 : n1 < 1000) : cpyA lay S a b n f = f (upA S b (fun j => if j < n1 then S a j else S b j)) := by
  unfold cpyA
  simp only [h1, h2]
  exact if_pos ⟨trivial, h3, h4⟩
theorem rcv_inv {lay : List sQ} {ci : Nat} {as : List Value} {f : sR} {r : Option Value × sS} (h : rcv lay ci as f = some r) : (∃ k fs as', as = .ref k :: as' ∧ nth lay k = some (.inr (ci, fs))) ∧ f = some r := by
  unfold rcv at h
  split at h
  · split at h
    · next c fs hq =>
      cases hb : Nat.beq c ci with
      | false => rw [hb] at h; cases h
      | true =>
        rw [hb] at h
        have hc : c = ci := Nat.eq_of_beq_eq_true hb
        subst hc
        exact ⟨⟨_, _, _, rfl, hq⟩, h⟩
    · cases h
  · cases h
theorem rcv_eq {lay : List sQ} {ci k : Nat} {as' : List Value} {fs : List (Option Nat)} {f : sR} (h : nth lay k = some (.inr (ci, fs))) : rcv lay ci (.ref k :: as') f = f := by
  unfold rcv
  simp only [h, Nat.beq_refl, cond]
theorem call_inv {C : Nat → List Value → sS → sR} {a1 a2 kd : Nat} {st : sK} {S : sS} {chk : List Value → sR → sR} {f : sK → sS → sR} {r : Option Value × sS} (h : call C a1 a2 kd st S chk f = some r) : ∃ as st', pops a2 st [] = some (as, st') ∧ catS st' ≤ 8 ∧ chk as (bif Nat.beq kd 0 then cV (C a1 as S) (fun S' => f st' S') else cI (C a1 as S) (fun r S' => f (.int r :: st') S')) = some r := by
  unfold call at h
  split at h
  · next as st' q =>
    cases hb : Nat.ble (catS st') 8 with
    | true => rw [hb] at h; exact ⟨_, _, q, Nat.le_of_ble_eq_true hb, h⟩
    | false => rw [hb] at h; cases h
  · cases h
theorem call_eq {C : Nat → List Value → sS → sR} {a1 a2 kd : Nat} {st st' : sK} {S : sS} {chk : List Value → sR → sR} {f : sK → sS → sR} {as : List Value} (h1 : pops a2 st [] = some (as, st')) (h2 : catS st' ≤ 8) : call C a1 a2 kd st S chk f = chk as (bif Nat.beq kd 0 then cV (C a1 as S) (fun S' => f st' S') else cI (C a1 as S) (fun r S' => f (.int r :: st') S')) := by
  unfold call
  simp only [h1, Nat.ble_eq_true_of_le h2, cond]
theorem swc_inv {go : sT → sR} {x : Int32} {r : Option Value × sS} : ∀ (ks : List Int32) (ts : List sT) (d : sT), swc go x ks ts d = some r → ∃ t, go t = some r ∧ ∀ g : sT → sR, swc g x ks ts d = g t := by
  intro ks
  induction ks with
  | nil => intro ts d h; exact ⟨d, h, fun g => rfl⟩
  | cons k ks ih =>
    intro ts d h
    cases ts with
    | nil => exact ⟨d, h, fun g => rfl⟩
    | cons t ts =>
      by_cases hx : x = k
      · refine ⟨t, ?_, fun g => ?_⟩
        · have h' : (if x = k then go t else swc go x ks ts d) = some r := h
          rwa [if_pos hx] at h'
        · show (if x = k then g t else swc g x ks ts d) = _
          rw [if_pos hx]
      · have h' : (if x = k then go t else swc go x ks ts d) = some r := h
        rw [if_neg hx] at h'
        obtain ⟨t', h1, h2⟩ := ih ts d h'
        refine ⟨t', h1, fun g => ?_⟩
        show (if x = k then g t else swc g x ks ts d) = _
        rw [if_neg hx]
        exact h2 g
/-! from some fuel on -/
def Ev (P : Nat → Prop) : Prop := ∃ k, ∀ n, k ≤ n → P n
theorem Ev.imp {P Q : Nat → Prop} (h : Ev P) (f : ∀ n, P n → Q n) : Ev Q := ⟨h.choose, fun n hn => f n (h.choose_spec n hn)⟩
theorem Ev.and {P Q : Nat → Prop} (h : Ev P) (h2 : Ev Q) : Ev (fun n => P n ∧ Q n) := by
  obtain ⟨a, ha⟩ := h
  obtain ⟨b, hb⟩ := h2
  exact ⟨max a b, fun n hn => ⟨ha n (by omega), hb n (by omega)⟩⟩
theorem Ev.all {P : Nat → Prop} (h : ∀ n, P n) : Ev P := ⟨0, fun n _ => h n⟩
theorem Ev.shift {P : Nat → Prop} (h : Ev P) : Ev (fun n => match n with | 0 => False | m + 1 => P m) := by
  obtain ⟨a, ha⟩ := h
  refine ⟨a + 1, fun n hn => ?_⟩
  cases n with
  | zero => omega
  | succ m => exact ha m (by omega)
theorem call_ev {C : Nat → List Value → sS → sR} {Cn : Nat → Nat → List Value → sS → sR} (hC : ∀ mi as S r, C mi as S = some r → Ev (fun n => Cn n mi as S = some r)) {a1 kd : Nat} {S : sS} {as : List Value} {st' : sK} {f : sK → sS → sR} {fn : Nat → sK → sS → sR} {r : Option Value × sS} (hf : ∀ st S, f st S = some r → Ev (fun n => fn n st S = some r))
    (h : (bif Nat.beq kd 0 then cV (C a1 as S) (fun S' => f st' S') else cI (C a1 as S) (fun r S' => f (.int r :: st') S')) = some r) : Ev (fun n => (bif Nat.beq kd 0 then cV (Cn n a1 as S) (fun S' => fn n st' S') else cI (Cn n a1 as S) (fun r S' => fn n (.int r :: st') S')) = some r) := by
  cases hb : Nat.beq kd 0 with
  | true =>
    rw [hb] at h
    obtain ⟨S', h1, h2⟩ := cV_inv h
    refine ((hC _ _ _ _ h1).and (hf _ _ h2)).imp fun n q => ?_
    show cV (Cn n a1 as S) (fun S' => fn n st' S') = some r
    rw [q.1]
    exact q.2
  | false =>
    rw [hb] at h
    obtain ⟨x, S', h1, h2⟩ := cI_inv h
    refine ((hC _ _ _ _ h1).and (hf _ _ h2)).imp fun n q => ?_
    show cI (Cn n a1 as S) (fun r S' => fn n (.int r :: st') S') = some r
    rw [q.1]
    exact q.2
set_option maxHeartbeats 4000000 in
theorem stepI_ev {lay : List sQ} {inf : Nat → Nat × Nat} {X : sX} {go : sT → sL → sK → sS → sR} {gn : Nat → sT → sL → sK → sS → sR} {C : Nat → List Value → sS → sR} {Cn : Nat → Nat → List Value → sS → sR}
    (hgo : ∀ t ls st S r, go t ls st S = some r → Ev (fun n => gn n t ls st S = some r)) (hC : ∀ mi as S r, C mi as S = some r → Ev (fun n => Cn n mi as S = some r))
    (e : sE) (ls : sL) (st : sK) (S : sS) (r : Option Value × sS) (h : stepI lay inf X go C e ls st S = some r) : Ev (fun n => stepI lay inf X (gn n) (Cn n) e ls st S = some r) := by
  obtain ⟨ins, nx, tg, a1, a2, a3, cst, lc, ks⟩ := e
  cases ins with
  | iconst _ => exact hgo _ _ _ _ _ h
  | bipush _ => exact hgo _ _ _ _ _ h
  | sipush _ => exact hgo _ _ _ _ _ h
  | ldc _ => exact hgo _ _ _ _ _ h
  | ldc_w _ => exact hgo _ _ _ _ _ h
  | ldc2_w _ => exact hgo _ _ _ _ _ h
  | iload k =>
    dsimp only [stepI] at h ⊢
    obtain ⟨x, h1, h2⟩ := ldI_inv h
    refine (hgo _ _ _ _ _ h2).imp fun n q => ?_
    simp only [ldI, h1]
    exact q
  | iload_n k =>
    dsimp only [stepI] at h ⊢
    obtain ⟨x, h1, h2⟩ := ldI_inv h
    refine (hgo _ _ _ _ _ h2).imp fun n q => ?_
    simp only [ldI, h1]
    exact q
  | aload_n k =>
    dsimp only [stepI] at h ⊢
    obtain ⟨x, h1, h2⟩ := ldA_inv h
    refine (hgo _ _ _ _ _ h2).imp fun n q => ?_
    simp only [ldA, h1]
    exact q
  | lload_n k =>
    dsimp only [stepI] at h ⊢
    obtain ⟨x, h1, h2⟩ := ldL_inv h
    refine (hgo _ _ _ _ _ h2).imp fun n q => ?_
    simp only [ldL, h1]
    exact q
  | istore k =>
    dsimp only [stepI] at h ⊢
    split at h
    · next x st' =>
      obtain ⟨h1, h2, h3⟩ := stoL_inv h
      refine (hgo _ _ _ _ _ h3).imp fun n q => ?_
      exact (stoL_eq h1 h2).trans q
    · cases h
  | istore_n k =>
    dsimp only [stepI] at h ⊢
    split at h
    · next x st' =>
      obtain ⟨h1, h2, h3⟩ := stoL_inv h
      refine (hgo _ _ _ _ _ h3).imp fun n q => ?_
      exact (stoL_eq h1 h2).trans q
    · cases h
  | iinc k c =>
    dsimp only [stepI] at h ⊢
    cases hq : nth ls k with
    | none => rw [hq] at h; cases h
    | some o =>
      cases o with
      | none => rw [hq] at h; cases h
      | some v =>
        cases v with
        | int x =>
          rw [hq] at h
          obtain ⟨h1, h2, h3⟩ := stoL_inv h
          refine (hgo _ _ _ _ _ h3).imp fun n q => ?_
          exact (stoL_eq h1 h2).trans q
        | _ => rw [hq] at h; cases h
  | iadd => dsimp only [stepI] at h ⊢; obtain ⟨x, y, st', rfl, h2⟩ := bi2_inv h; exact hgo _ _ _ _ _ h2
  | isub => dsimp only [stepI] at h ⊢; obtain ⟨x, y, st', rfl, h2⟩ := bi2_inv h; exact hgo _ _ _ _ _ h2
  | imul => dsimp only [stepI] at h ⊢; obtain ⟨x, y, st', rfl, h2⟩ := bi2_inv h; exact hgo _ _ _ _ _ h2
  | iand => dsimp only [stepI] at h ⊢; obtain ⟨x, y, st', rfl, h2⟩ := bi2_inv h; exact hgo _ _ _ _ _ h2
  | ior => dsimp only [stepI] at h ⊢; obtain ⟨x, y, st', rfl, h2⟩ := bi2_inv h; exact hgo _ _ _ _ _ h2
  | ixor => dsimp only [stepI] at h ⊢; obtain ⟨x, y, st', rfl, h2⟩ := bi2_inv h; exact hgo _ _ _ _ _ h2
  | ishl => dsimp only [stepI] at h ⊢; obtain ⟨x, y, st', rfl, h2⟩ := bi2_inv h; exact hgo _ _ _ _ _ h2
  | ishr => dsimp only [stepI] at h ⊢; obtain ⟨x, y, st', rfl, h2⟩ := bi2_inv h; exact hgo _ _ _ _ _ h2
  | iushr => dsimp only [stepI] at h ⊢; obtain ⟨x, y, st', rfl, h2⟩ := bi2_inv h; exact hgo _ _ _ _ _ h2
  | land => dsimp only [stepI] at h ⊢; obtain ⟨x, y, st', rfl, h2⟩ := bl2_inv h; exact hgo _ _ _ _ _ h2
  | lor => dsimp only [stepI] at h ⊢; obtain ⟨x, y, st', rfl, h2⟩ := bl2_inv h; exact hgo _ _ _ _ _ h2
  | lshl => dsimp only [stepI] at h ⊢; obtain ⟨x, y, st', rfl, h2⟩ := bs2_inv h; exact hgo _ _ _ _ _ h2
  | lshr => dsimp only [stepI] at h ⊢; obtain ⟨x, y, st', rfl, h2⟩ := bs2_inv h; exact hgo _ _ _ _ _ h2
  | lushr => dsimp only [stepI] at h ⊢; obtain ⟨x, y, st', rfl, h2⟩ := bs2_inv h; exact hgo _ _ _ _ _ h2
  | idiv =>
    dsimp only [stepI] at h ⊢
    split at h
    · obtain ⟨h1, h2⟩ := dv_inv h
      refine (hgo _ _ _ _ _ h2).imp fun n q => ?_
      exact (if_neg h1).trans q
    · cases h
  | irem =>
    dsimp only [stepI] at h ⊢
    split at h
    · obtain ⟨h1, h2⟩ := dv_inv h
      refine (hgo _ _ _ _ _ h2).imp fun n q => ?_
      exact (if_neg h1).trans q
    · cases h
  | ineg =>
    dsimp only [stepI] at h ⊢
    split at h
    · exact hgo _ _ _ _ _ h
    · cases h
  | i2l =>
    dsimp only [stepI] at h ⊢
    split at h
    · exact hgo _ _ _ _ _ h
    · cases h
  | l2i =>
    dsimp only [stepI] at h ⊢
    split at h
    · exact hgo _ _ _ _ _ h
    · cases h
  | dup =>
    dsimp only [stepI] at h ⊢
    split at h
    · exact hgo _ _ _ _ _ h
    · exact hgo _ _ _ _ _ h
    · cases h
  | dup2 =>
    dsimp only [stepI] at h ⊢
    split at h
    · exact hgo _ _ _ _ _ h
    · cases h
  | pop =>
    dsimp only [stepI] at h ⊢
    split at h
    · exact hgo _ _ _ _ _ h
    · cases h
  | goto _ =>
    dsimp only [stepI] at h ⊢
    split at h
    · exact hgo _ _ _ _ _ h
    · cases h
  | if_icmp c _ =>
    dsimp only [stepI] at h ⊢
    split at h
    · cases c <;> dsimp only at h ⊢ <;> split at h <;> (next q => refine (hgo _ _ _ _ _ h).imp fun n z => ?_; first | exact (if_pos q).trans z | exact (if_neg q).trans z)
    · cases h
  | ifCond c _ =>
    dsimp only [stepI] at h ⊢
    split at h
    · cases c <;> dsimp only at h ⊢ <;> split at h <;> (next q => refine (hgo _ _ _ _ _ h).imp fun n z => ?_; first | exact (if_pos q).trans z | exact (if_neg q).trans z)
    · cases h
  | tableswitch _ _ _ _ =>
    dsimp only [stepI] at h ⊢
    split at h
    · obtain ⟨t, h1, h2⟩ := swc_inv _ _ _ h
      refine (hgo _ _ _ _ _ h1).imp fun n q => ?_
      exact (h2 _).trans q
    · cases h
  | lookupswitch _ _ =>
    dsimp only [stepI] at h ⊢
    split at h
    · obtain ⟨t, h1, h2⟩ := swc_inv _ _ _ h
      refine (hgo _ _ _ _ _ h1).imp fun n q => ?_
      exact (h2 _).trans q
    · cases h
  | getfield _ =>
    dsimp only [stepI] at h ⊢
    split at h
    · obtain ⟨fs, h1, h2 | ⟨q, h2⟩⟩ := getF_inv h
      · exact (hgo _ _ _ _ _ h2.2).imp fun n z => (getF_eq0 h1 h2.1).trans z
      · exact (hgo _ _ _ _ _ h2.2).imp fun n z => (getF_eq1 h1 h2.1).trans z
    · cases h
  | putfield _ =>
    dsimp only [stepI] at h ⊢
    split at h
    · split at h
      · obtain ⟨fs, h1, h2, h3⟩ := putF_inv h
        exact (hgo _ _ _ _ _ h3).imp fun n z => (putF_eq h1 h2).trans z
      · obtain ⟨hz, h⟩ := bz_inv h
        obtain ⟨fs, h1, h2, h3⟩ := putF_inv h
        exact (hgo _ _ _ _ _ h3).imp fun n z => (if_pos hz).trans ((putF_eq h1 h2).trans z)
    · cases h
  | iaload =>
    dsimp only [stepI] at h ⊢
    split at h
    · rcases getA_inv h with ⟨n, h1, h2, h3⟩ | ⟨h1, h2, h3, h4⟩
      · exact (hgo _ _ _ _ _ h3).imp fun n z => (getA_eq h1 h2).trans z
      · exact (hgo _ _ _ _ _ h4).imp fun n z => (getA_eqX h1 h2 h3).trans z
    · cases h
  | iastore =>
    dsimp only [stepI] at h ⊢
    split at h
    · obtain ⟨n, h1, h2, h3⟩ := putA_inv h
      exact (hgo _ _ _ _ _ h3).imp fun n z => (putA_eq h1 h2).trans z
    · cases h
  | arraylength =>
    dsimp only [stepI] at h ⊢
    split at h
    · rcases lenA_inv h with ⟨n, h1, h2⟩ | ⟨h1, h2, h3⟩
      · exact (hgo _ _ _ _ _ h2).imp fun n z => (lenA_eq h1).trans z
      · exact (hgo _ _ _ _ _ h3).imp fun n z => (lenA_eqX h1 h2).trans z
    · cases h
  | invokevirtual _ =>
    dsimp only [stepI] at h ⊢
    obtain ⟨as, st', h1, hz, h2⟩ := call_inv h
    obtain ⟨⟨k, fs, as', rfl, h3⟩, h4⟩ := rcv_inv h2
    refine (call_ev (f := fun st' S' => go nx ls st' S') (fn := fun n st' S' => gn n nx ls st' S') hC (fun st S hh => hgo _ _ _ _ _ hh) h4).imp fun n z => ?_
    exact (call_eq h1 hz).trans ((rcv_eq h3).trans z)
  | invokestatic _ =>
    dsimp only [stepI] at h ⊢
    split at h
    · obtain ⟨as, st', h1, hz, h2⟩ := call_inv h
      refine (call_ev (f := fun st' S' => go nx ls st' S') (fn := fun n st' S' => gn n nx ls st' S') hC (fun st S hh => hgo _ _ _ _ _ hh) h2).imp fun n z => ?_
      exact (call_eq h1 hz).trans z
    · split at h
      · split at h
        · split at h
          · next q =>
            obtain ⟨n1, h1, h2, h3, h4, h5⟩ := cpyA_inv h
            exact (hgo _ _ _ _ _ h5).imp fun n z => (if_pos q).trans ((cpyA_eq h1 h2 h3 h4).trans z)
          · cases h
        · cases h
      · obtain ⟨x, y, st', rfl, h1, h2⟩ := mmx_inv h
        exact (hgo _ _ _ _ _ h2).imp fun n z => (mmx_eq h1).trans z
      · obtain ⟨x, y, st', rfl, h1, h2⟩ := mmx_inv h
        exact (hgo _ _ _ _ _ h2).imp fun n z => (mmx_eq h1).trans z
  | ireturn => exact Ev.all fun n => h
  | return_ => exact Ev.all fun n => h
  | _ => cases h
theorem seg_ev {lay : List sQ} {inf : Nat → Nat × Nat} {X : sX} {K : Nat → sL → sK → sS → sR} {Kn : Nat → Nat → sL → sK → sS → sR} {C : Nat → List Value → sS → sR} {Cn : Nat → Nat → List Value → sS → sR} {cod : Nat → Option sE}
    (hK : ∀ t ls st S r, K t ls st S = some r → Ev (fun n => Kn n t ls st S = some r)) (hC : ∀ mi as S r, C mi as S = some r → Ev (fun n => Cn n mi as S = some r)) :
    ∀ (f pc : Nat) (ls : sL) (st : sK) (S : sS) (r : Option Value × sS), seg lay inf X K C cod f pc ls st S = some r → Ev (fun n => seg lay inf X (Kn n) (Cn n) cod f pc ls st S = some r) := by
  intro f
  induction f with
  | zero => intro pc ls st S r h; cases h
  | succ f ih =>
    intro pc ls st S r h
    cases hc : cod pc with
    | none => simp only [seg, hc] at h; cases h
    | some e =>
      simp only [seg, hc] at h ⊢
      refine stepI_ev (fun t ls st S r h => ?_) hC e ls st S r h
      obtain ⟨t1, t2⟩ := t
      cases t2 with
      | none => exact ih _ _ _ _ _ h
      | some kp => exact hK _ _ _ _ _ h
theorem bif_ev {b : Bool} {o : sR} {on : Nat → sR} {r : Option Value × sS} (h : (bif b then o else none) = some r) (f : o = some r → Ev (fun n => on n = some r)) : Ev (fun n => (bif b then on n else none) = some r) := by
  cases b with
  | true => exact f h
  | false => cases h
section RUN
variable (lay : List sQ) (inf : Nat → Nat × Nat) (mL : Nat → Nat) (cod : Nat → Nat → Option sE) (X : sX)
theorem runN_up : ∀ (n mi pc : Nat) (ls : sL) (st : sK) (S : sS) (r : Option Value × sS), runN lay inf mL cod X n mi pc ls st S = some r → Ev (fun k => runN lay inf mL cod X k mi pc ls st S = some r) := by
  intro n
  induction n with
  | zero => intro mi pc ls st S r h; cases h
  | succ n ih =>
    intro mi pc ls st S r h
    have h2 := seg_ev (Kn := fun k => runN lay inf mL cod X k mi) (Cn := fun k mi' as S' => bif Nat.ble (catS as) (mL mi') then runN lay inf mL cod X k mi' 0 (padL (mL mi') (entL as)) [] S' else none) (fun t ls st S r h => ih _ _ _ _ _ _ h) (fun mi' as S r h => bif_ev h (fun h => ih _ _ _ _ _ _ h)) 4000 pc ls st S r h
    exact h2.shift.imp fun k hk => by
      cases k with
      | zero => exact hk.elim
      | succ k => exact hk
theorem runN_one {n m mi pc : Nat} {ls : sL} {st : sK} {S : sS} {r r' : Option Value × sS} (h : runN lay inf mL cod X n mi pc ls st S = some r) (h' : runN lay inf mL cod X m mi pc ls st S = some r') : r = r' := by
  obtain ⟨a, ha⟩ := runN_up lay inf mL cod X _ _ _ _ _ _ _ h
  obtain ⟨b, hb⟩ := runN_up lay inf mL cod X _ _ _ _ _ _ _ h'
  have h1 := ha (max a b) (by omega)
  have h2 := hb (max a b) (by omega)
  exact Option.some.inj (h1.symm.trans h2)
noncomputable def RunG (mi pc : Nat) (ls : sL) (st : sK) (S : sS) : sR :=
  haveI := Classical.propDecidable (∃ n r, runN lay inf mL cod X n mi pc ls st S = some r)
  if h : ∃ n r, runN lay inf mL cod X n mi pc ls st S = some r then some h.choose_spec.choose else none
theorem RunG_iff (mi pc : Nat) (ls : sL) (st : sK) (S : sS) (r : Option Value × sS) : RunG lay inf mL cod X mi pc ls st S = some r ↔ ∃ n, runN lay inf mL cod X n mi pc ls st S = some r := by
  unfold RunG
  split
  · next h =>
    have h1 := h.choose_spec.choose_spec
    constructor
    · intro e
      cases e
      exact ⟨_, h1⟩
    · rintro ⟨n, hn⟩
      rw [runN_one lay inf mL cod X h1 hn]
  · next h =>
    constructor
    · intro e; cases e
    · rintro ⟨n, hn⟩
      exact absurd ⟨n, r, hn⟩ h
noncomputable def CalG (mi : Nat) (as : List Value) (S : sS) : sR := bif Nat.ble (catS as) (mL mi) then RunG lay inf mL cod X mi 0 (padL (mL mi) (entL as)) [] S else none
theorem RunG_ev {mi pc : Nat} {ls : sL} {st : sK} {S : sS} {r : Option Value × sS} (h : RunG lay inf mL cod X mi pc ls st S = some r) : Ev (fun n => runN lay inf mL cod X n mi pc ls st S = some r) := by
  obtain ⟨n, hn⟩ := (RunG_iff lay inf mL cod X mi pc ls st S r).mp h
  exact runN_up lay inf mL cod X _ _ _ _ _ _ _ hn
theorem RunG_eq (mi pc : Nat) (ls : sL) (st : sK) (S : sS) : RunG lay inf mL cod X mi pc ls st S = seg lay inf X (RunG lay inf mL cod X mi) (CalG lay inf mL cod X) (cod mi) 4000 pc ls st S := by
  have a : ∀ r, RunG lay inf mL cod X mi pc ls st S = some r → seg lay inf X (RunG lay inf mL cod X mi) (CalG lay inf mL cod X) (cod mi) 4000 pc ls st S = some r := by
    intro r h
    obtain ⟨n, hn⟩ := (RunG_iff lay inf mL cod X mi pc ls st S r).mp h
    cases n with
    | zero => cases hn
    | succ n =>
      have h2 := seg_ev (Kn := fun _ => RunG lay inf mL cod X mi) (Cn := fun _ => CalG lay inf mL cod X) (fun t ls st S r h => Ev.all fun _ => (RunG_iff lay inf mL cod X mi t ls st S r).mpr ⟨n, h⟩) (fun mi' as S r h => bif_ev h (fun h => Ev.all fun _ => (RunG_iff lay inf mL cod X mi' 0 _ [] S r).mpr ⟨n, h⟩)) 4000 pc ls st S r hn
      exact h2.choose_spec _ (Nat.le_refl _)
  have b : ∀ r, seg lay inf X (RunG lay inf mL cod X mi) (CalG lay inf mL cod X) (cod mi) 4000 pc ls st S = some r → RunG lay inf mL cod X mi pc ls st S = some r := by
    intro r h
    have h2 := seg_ev (Kn := fun k => runN lay inf mL cod X k mi) (Cn := fun k mi' as S' => bif Nat.ble (catS as) (mL mi') then runN lay inf mL cod X k mi' 0 (padL (mL mi') (entL as)) [] S' else none) (fun t ls st S r h => RunG_ev lay inf mL cod X h) (fun mi' as S r h => bif_ev h (fun h => RunG_ev lay inf mL cod X h)) 4000 pc ls st S r h
    obtain ⟨k, hk⟩ := h2
    exact (RunG_iff lay inf mL cod X mi pc ls st S r).mpr ⟨k + 1, hk k (Nat.le_refl _)⟩
  cases h1 : RunG lay inf mL cod X mi pc ls st S with
  | some r => exact (a r h1).symm
  | none =>
    cases h2 : seg lay inf X (RunG lay inf mL cod X mi) (CalG lay inf mL cod X) (cod mi) 4000 pc ls st S with
    | none => rfl
    | some r =>
      have := b r h2
      rw [h1] at this
      cases this
end RUN
end
section
/-! the machine's steps are the JVM's -/
def cv (adr : Nat → Nat) : Value → Value
  | .ref k => .ref (adr k)
  | v => v
def cvL (adr : Nat → Nat) : Nat → sL → List (Nat × Value)
  | _, [] => []
  | i, none :: l => cvL adr (i + 1) l
  | i, some v :: l => (i, cv adr v) :: cvL adr (i + 1) l
theorem cv_cat (adr : Nat → Nat) (v : Value) : (cv adr v).category = v.category := by cases v <;> rfl
theorem catS_map (adr : Nat → Nat) : ∀ st : sK, ((st.map (cv adr)).map fun v => v.category).sum = catS st
  | [] => rfl
  | v :: l => by
    show ((cv adr v).category + ((l.map (cv adr)).map fun v => v.category).sum) = v.category + catS l
    rw [catS_map adr l, cv_cat]
theorem cvL_mem (adr : Nat → Nat) : ∀ (l : sL) (i j : Nat) (w : Value), (j, w) ∈ cvL adr i l ↔ ∃ n v, j = i + n ∧ nth l n = some (some v) ∧ w = cv adr v := by
  intro l
  induction l with
  | nil => intro i j w; constructor
           · intro h; cases h
           · rintro ⟨n, v, -, h, -⟩; cases n <;> cases h
  | cons a l ih =>
    intro i j w
    cases a with
    | none =>
      show (j, w) ∈ cvL adr (i + 1) l ↔ _
      rw [ih]
      constructor
      · rintro ⟨n, v, h1, h2, h3⟩
        exact ⟨n + 1, v, by omega, h2, h3⟩
      · rintro ⟨n, v, h1, h2, h3⟩
        cases n with
        | zero => cases h2
        | succ n => exact ⟨n, v, by omega, h2, h3⟩
    | some u =>
      show (j, w) ∈ (i, cv adr u) :: cvL adr (i + 1) l ↔ _
      rw [List.mem_cons, ih]
      constructor
      · rintro (h | ⟨n, v, h1, h2, h3⟩)
        · cases h
          exact ⟨0, u, rfl, rfl, rfl⟩
        · exact ⟨n + 1, v, by omega, h2, h3⟩
      · rintro ⟨n, v, h1, h2, h3⟩
        cases n with
        | zero =>
          cases h2
          subst h3
          exact Or.inl (by rw [h1]; rfl)
        | succ n => exact Or.inr ⟨n, v, by omega, h2, h3⟩
theorem cvL_at {adr : Nat → Nat} {ls : Array Slot} {nL : Nat} {l : sL} (h : lv_has ls nL (cvL adr 0 l)) {k : Nat} {v : Value} (hk : nth l k = some (some v)) : ls[k]? = some (.val (cv adr v)) :=
  h.2.2 (k, cv adr v) ((cvL_mem adr l 0 k _).mpr ⟨k, v, by omega, hk, rfl⟩)
theorem lv_mono {ls : Array Slot} {nL : Nat} {l l' : List (Nat × Value)} (h : lv_has ls nL l) (hl : ∀ q ∈ l', q ∈ l) : lv_has ls nL l' := ⟨h.1, h.2.1, fun q hq => h.2.2 q (hl q hq)⟩
theorem nth_setL : ∀ (l : sL) (k n : Nat) (v : Value), nth (setL l k v) n = if n = k ∧ k < l.length then some (some v) else nth l n := by
  intro l
  induction l with
  | nil => intro k n v; cases n <;> simp [setL, nth]
  | cons a l ih =>
    intro k n v
    cases k with
    | zero =>
      cases n with
      | zero => simp [setL, nth]
      | succ n => simp [setL, nth]
    | succ k =>
      cases n with
      | zero => simp [setL, nth]
      | succ n => simp [setL, nth, ih]
theorem isL_cat {o : Option (Option Value)} (h : isL o = false) (adr : Nat → Nat) (v : Value) (ho : o = some (some v)) : ((cv adr v).category == 2) = false := by
  subst ho
  cases v <;> first | rfl | cases h
theorem cvL_set {adr : Nat → Nat} {ls : Array Slot} {nL : Nat} {l : sL} {k : Nat} {v : Value} (hk : k < l.length) (hl : ∀ n, k = n + 1 → isL (nth l n) = false) (h : lv_has ls nL ((k, cv adr v) :: (cvL adr 0 l).filter (fun q => !(q.1 == k) && !(q.1 + 1 == k && q.2.category == 2)))) : lv_has ls nL (cvL adr 0 (setL l k v)) := by
  refine lv_mono h ?_
  rintro ⟨j, w⟩ hq
  obtain ⟨n, u, h1, h2, h3⟩ := (cvL_mem adr _ 0 j w).mp hq
  have hj : j = n := by omega
  subst hj
  rw [nth_setL] at h2
  by_cases hjk : j = k
  · rw [if_pos ⟨hjk, hk⟩] at h2
    cases h2
    subst hjk; subst h3
    exact List.mem_cons_self
  · rw [if_neg (fun q => hjk q.1)] at h2
    refine List.mem_cons_of_mem _ (List.mem_filter.mpr ⟨(cvL_mem adr l 0 j w).mpr ⟨j, u, by omega, h2, h3⟩, ?_⟩)
    have e1 : (j == k) = false := by simpa using hjk
    by_cases hj1 : j + 1 = k
    · have h4 := isL_cat (hl j hj1.symm) adr u h2
      subst h3
      simp only [e1, h4]
      simp
    · have e2 : (j + 1 == k) = false := by simpa using hj1
      simp only [e1, e2]
      simp
theorem nth_msk : ∀ (bs : List Bool) (l : sL) (n : Nat) (v : Value), nth (msk bs l) n = some (some v) → nth l n = some (some v) := by
  intro bs
  induction bs with
  | nil => intro l n v h; cases n <;> cases h
  | cons b bs ih =>
    intro l n v h
    cases l with
    | nil => cases n <;> cases h
    | cons a l =>
      cases n with
      | zero =>
        cases b with
        | true => exact h
        | false => cases h
      | succ n => exact ih l n v h
theorem cvL_msk {adr : Nat → Nat} {ls : Array Slot} {nL : Nat} {l : sL} (bs : List Bool) (h : lv_has ls nL (cvL adr 0 l)) : lv_has ls nL (cvL adr 0 (msk bs l)) := by
  refine lv_mono h ?_
  rintro ⟨j, w⟩ hq
  obtain ⟨n, u, h1, h2, h3⟩ := (cvL_mem adr _ 0 j w).mp hq
  exact (cvL_mem adr l 0 j w).mpr ⟨n, u, h1, nth_msk _ _ _ _ h2, h3⟩
theorem pops_spec : ∀ (n : Nat) (st : sK) (acc as : List Value) (st' : sK), pops n st acc = some (as, st') → ∃ xs, st = xs ++ st' ∧ xs.length = n ∧ as = xs.reverse ++ acc := by
  intro n
  induction n with
  | zero => intro st acc as st' h; cases h; exact ⟨[], rfl, rfl, rfl⟩
  | succ n ih =>
    intro st acc as st' h
    cases st with
    | nil => cases h
    | cons v st =>
      obtain ⟨xs, h1, h2, h3⟩ := ih _ _ _ _ h
      exact ⟨v :: xs, by rw [h1]; rfl, by simp [h2], by rw [h3]; simp⟩
/-! the cells -/
def fldW (adr : Nat → Nat) (f : Nat → Int32) : Nat → List (Option Nat) → List Value
  | _, [] => []
  | j, none :: l => .int (f j) :: fldW adr f (j + 1) l
  | j, some r :: l => .ref (adr r) :: fldW adr f (j + 1) l
def entW (adr : Nat → Nat) (cA : ClassId) (S : sS) (k : Nat) : sQ → va_E
  | .inl n => .inl (cA, n, .inl (S k))
  | .inr (ci, fs) => .inr (ci, fldW adr (S k) 0 fs)
def wldA (adr : Nat → Nat) (cA : ClassId) (S : sS) : Nat → List sQ → va_W
  | _, [] => []
  | k, q :: l => (adr k, entW adr cA S k q) :: wldA adr cA S (k + 1) l
def wld (lay : List sQ) (adr : Nat → Nat) (cA : ClassId) (S : sS) : va_W := wldA adr cA S 0 lay
theorem nth_get {α : Type} : ∀ (l : List α) (n : Nat), nth l n = l[n]?
  | [], n => by cases n <;> rfl
  | a :: l, 0 => rfl
  | a :: l, n + 1 => by rw [List.getElem?_cons_succ]; exact nth_get l n
theorem fldW_get (adr : Nat → Nat) (f : Nat → Int32) : ∀ (l : List (Option Nat)) (j n : Nat), (fldW adr f j l)[n]? = (nth l n).map (fun o => match o with | none => .int (f (j + n)) | some r => .ref (adr r)) := by
  intro l
  induction l with
  | nil => intro j n; cases n <;> rfl
  | cons a l ih =>
    intro j n
    cases a with
    | none =>
      cases n with
      | zero => rfl
      | succ n =>
        show (Value.int (f j) :: fldW adr f (j + 1) l)[n + 1]? = _
        rw [List.getElem?_cons_succ, ih]
        show _ = (nth l n).map _
        rw [show j + 1 + n = j + (n + 1) by omega]
    | some r =>
      cases n with
      | zero => rfl
      | succ n =>
        show (Value.ref (adr r) :: fldW adr f (j + 1) l)[n + 1]? = _
        rw [List.getElem?_cons_succ, ih]
        show _ = (nth l n).map _
        rw [show j + 1 + n = j + (n + 1) by omega]
theorem fldW_len (adr : Nat → Nat) (f : Nat → Int32) : ∀ (l : List (Option Nat)) (j : Nat), (fldW adr f j l).length = l.length := by
  intro l
  induction l with
  | nil => intro j; rfl
  | cons a l ih => intro j; cases a <;> simp [fldW, ih]
theorem wldA_get (adr : Nat → Nat) (cA : ClassId) (S : sS) : ∀ (l : List sQ) (k n : Nat), (wldA adr cA S k l)[n]? = (nth l n).map (fun q => (adr (k + n), entW adr cA S (k + n) q)) := by
  intro l
  induction l with
  | nil => intro k n; cases n <;> rfl
  | cons a l ih =>
    intro k n
    cases n with
    | zero => rfl
    | succ n =>
      show ((adr k, entW adr cA S k a) :: wldA adr cA S (k + 1) l)[n + 1]? = _
      rw [List.getElem?_cons_succ, ih]
      show _ = (nth l n).map _
      rw [show k + 1 + n = k + (n + 1) by omega]
theorem wld_get (lay : List sQ) (adr : Nat → Nat) (cA : ClassId) (S : sS) (n : Nat) : (wld lay adr cA S)[n]? = (nth lay n).map (fun q => (adr n, entW adr cA S n q)) := by
  unfold wld
  rw [wldA_get]
  simp
theorem wld_arr {lay : List sQ} {adr : Nat → Nat} {cA : ClassId} {S : sS} {k n : Nat} (h : nth lay k = some (.inl n)) : (wld lay adr cA S)[k]? = some (adr k, .inl (cA, n, .inl (S k))) := by
  rw [wld_get, h]; rfl
theorem wld_obj {lay : List sQ} {adr : Nat → Nat} {cA : ClassId} {S : sS} {k ci : Nat} {fs : List (Option Nat)} (h : nth lay k = some (.inr (ci, fs))) : (wld lay adr cA S)[k]? = some (adr k, .inr (ci, fldW adr (S k) 0 fs)) := by
  rw [wld_get, h]; rfl
theorem up2_at (S : sS) (k j : Nat) (v : Int32) : up2 S k j v k = upd (S k) j v := by
  unfold up2
  rw [Nat.beq_refl]
  rfl
theorem up2_ne (S : sS) {k i : Nat} (j : Nat) (v : Int32) (h : i ≠ k) : up2 S k j v i = S i := by
  unfold up2
  cases hb : Nat.beq i k with
  | true => exact absurd (Nat.eq_of_beq_eq_true hb) h
  | false => rfl
theorem upA_at (S : sS) (k : Nat) (f : Nat → Int32) : upA S k f k = f := by
  unfold upA
  rw [Nat.beq_refl]
  rfl
theorem upA_ne (S : sS) {k i : Nat} (f : Nat → Int32) (h : i ≠ k) : upA S k f i = S i := by
  unfold upA
  cases hb : Nat.beq i k with
  | true => exact absurd (Nat.eq_of_beq_eq_true hb) h
  | false => rfl
theorem entW_eq (adr : Nat → Nat) (cA : ClassId) {S S' : sS} {k : Nat} (h : S' k = S k) (q : sQ) : entW adr cA S' k q = entW adr cA S k q := by
  cases q with
  | inl n => simp only [entW, h]
  | inr o => simp only [entW, h]
theorem wld_set {lay : List sQ} {adr : Nat → Nat} {cA : ClassId} {S S' : sS} {k : Nat} {q : sQ} (hq : nth lay k = some q) (e : va_E) (he : entW adr cA S' k q = e) (ho : ∀ i, i ≠ k → S' i = S i) : (wld lay adr cA S).set k (adr k, e) = wld lay adr cA S' := by
  refine List.ext_getElem? fun i => ?_
  by_cases hik : i = k
  · subst hik
    have h1 := wld_get lay adr cA S i
    rw [hq] at h1
    have hl := (List.getElem?_eq_some_iff.mp h1).1
    rw [List.getElem?_set_self hl, wld_get, hq, ← he]
    rfl
  · rw [List.getElem?_set_ne (Ne.symm hik), wld_get, wld_get]
    cases hn : nth lay i with
    | none => rfl
    | some x => simp only [Option.map_some, entW_eq adr cA (ho i hik)]
theorem wld_putA {lay : List sQ} {adr : Nat → Nat} {cA : ClassId} {S : sS} {k n j : Nat} {v : Int32} (h : nth lay k = some (.inl n)) : (wld lay adr cA S).set k (adr k, .inl (cA, n, .inl (upd (S k) j v))) = wld lay adr cA (up2 S k j v) :=
  wld_set h _ (by simp only [entW, up2_at]) (fun i hi => up2_ne S j v hi)
theorem fldW_set (adr : Nat → Nat) (f : Nat → Int32) {fs : List (Option Nat)} {j : Nat} {v : Int32} (h : nth fs j = some none) : fldW adr (upd f j v) 0 fs = (fldW adr f 0 fs).set j (.int v) := by
  refine List.ext_getElem? fun i => ?_
  have hl : j < (fldW adr f 0 fs).length := by
    rw [fldW_len]
    rw [nth_get] at h
    exact (List.getElem?_eq_some_iff.mp h).1
  by_cases hij : i = j
  · subst hij
    rw [List.getElem?_set_self hl, fldW_get, h]
    simp [upd]
  · rw [List.getElem?_set_ne (Ne.symm hij), fldW_get, fldW_get]
    cases hn : nth fs i with
    | none => rfl
    | some o =>
      cases o with
      | none => simp [upd, hij]
      | some r => rfl
theorem wld_putF {lay : List sQ} {adr : Nat → Nat} {cA : ClassId} {S : sS} {k ci j : Nat} {fs : List (Option Nat)} {v : Int32} (h : nth lay k = some (.inr (ci, fs))) (h2 : nth fs j = some none) : (wld lay adr cA S).set k (adr k, .inr (ci, (fldW adr (S k) 0 fs).set j (.int v))) = wld lay adr cA (up2 S k j v) :=
  wld_set h _ (by simp only [entW, up2_at, fldW_set adr (S k) h2]) (fun i hi => up2_ne S j v hi)
theorem wld_cpy {lay : List sQ} {adr : Nat → Nat} {cA : ClassId} {S : sS} {a b n : Nat} (h : nth lay b = some (.inl n)) : (wld lay adr cA S).set b (adr b, .inl (cA, n, .inl (va_cpy (S a) (S b) 0 0 n))) = wld lay adr cA (upA S b (fun j => if j < n then S a j else S b j)) := by
  refine wld_set h _ ?_ (fun i hi => upA_ne S _ hi)
  simp only [entW, upA_at]
  refine congrArg (fun z => Sum.inl (cA, n, Sum.inl z)) (funext fun j => ?_)
  simp [va_cpy]
theorem wld_D (lay : List sQ) (adr : Nat → Nat) (cA : ClassId) (S : sS) {A : Nat → Prop} (hinj : ∀ i j, i < lay.length → j < lay.length → adr i = adr j → i = j) (hA : ∀ i, i < lay.length → A (adr i)) : va_D A (wld lay adr cA S) := by
  have key : ∀ (i : Nat) (p : Nat × va_E), (wld lay adr cA S)[i]? = some p → i < lay.length ∧ p.1 = adr i := by
    intro i p h
    rw [wld_get, nth_get] at h
    cases hn : lay[i]? with
    | none => rw [hn] at h; cases h
    | some x => rw [hn] at h; cases h; exact ⟨(List.getElem?_eq_some_iff.mp hn).1, rfl⟩
  refine ⟨fun i j p q hi hj hpq => ?_, fun i p hi => ?_⟩
  · obtain ⟨a1, a2⟩ := key i p hi
    obtain ⟨b1, b2⟩ := key j q hj
    exact hinj i j a1 b1 (by rw [← a2, ← b2]; exact hpq)
  · obtain ⟨a1, a2⟩ := key i p hi
    rw [a2]
    exact hA i a1
/-! switches -/
def tswOK (pc : Nat) : List Int32 → List sT → Int → List Int → Bool
  | [], [], _, [] => true
  | k :: ks, t :: ts, lo, o :: os => decide (k.toInt = lo) && decide ((pc : Int) + o = (t.1 : Int)) && tswOK pc ks ts (lo + 1) os
  | _, _, _, _ => false
theorem tsw_go {pc : Nat} {x : Int32} {r : Option Value × sS} {go : sT → sR} : ∀ (ks : List Int32) (ts : List sT) (lo : Int) (os : List Int) (d : sT), tswOK pc ks ts lo os = true → swc go x ks ts d = some r →
    (∃ (j : Nat) (o : Int) (t : sT), go t = some r ∧ os[j]? = some o ∧ x.toInt = lo + j ∧ (pc : Int) + o = (t.1 : Int)) ∨ ((x.toInt < lo ∨ lo + os.length ≤ x.toInt) ∧ go d = some r) := by
  intro ks
  induction ks with
  | nil =>
    intro ts lo os d h hs
    cases ts with
    | nil =>
      cases os with
      | nil => exact Or.inr ⟨by simp; omega, hs⟩
      | cons o os => cases h
    | cons t ts => cases h
  | cons k ks ih =>
    intro ts lo os d h hs
    cases ts with
    | nil => cases h
    | cons t ts =>
      cases os with
      | nil => cases h
      | cons o os =>
        simp only [tswOK, Bool.and_eq_true, decide_eq_true_eq] at h
        obtain ⟨⟨h1, h2⟩, h3⟩ := h
        have hs' : (if x = k then go t else swc go x ks ts d) = some r := hs
        by_cases hx : x = k
        · rw [if_pos hx] at hs'
          exact Or.inl ⟨0, o, t, hs', rfl, by rw [hx, h1]; simp, h2⟩
        · rw [if_neg hx] at hs'
          have hne : ¬ x.toInt = lo := lv_neT hx h1
          rcases ih ts (lo + 1) os d h3 hs' with ⟨j, o', t', g1, g2, g3, g4⟩ | ⟨g1, g2⟩
          · exact Or.inl ⟨j + 1, o', t', g1, g2, by rw [g3]; omega, g4⟩
          · refine Or.inr ⟨?_, g2⟩
            rw [List.length_cons]
            omega
def lswOK (pc : Nat) : List Int32 → List sT → List (Int × Int) → Bool
  | [], [], [] => true
  | k :: ks, t :: ts, p :: ps => decide (k.toInt = p.1) && decide ((pc : Int) + p.2 = (t.1 : Int)) && lswOK pc ks ts ps
  | _, _, _ => false
theorem lsw_go {pc : Nat} {x : Int32} {r : Option Value × sS} {go : sT → sR} {dflt : Int} {d : sT} (hd : (pc : Int) + dflt = (d.1 : Int)) : ∀ (ks : List Int32) (ts : List sT) (ps : List (Int × Int)), lswOK pc ks ts ps = true → swc go x ks ts d = some r →
    ∃ t : sT, go t = some r ∧ (pc : Int) + Op.lookupswitch.offset ps dflt x.toInt = (t.1 : Int) := by
  intro ks
  induction ks with
  | nil =>
    intro ts ps h hs
    cases ts with
    | nil =>
      cases ps with
      | nil => exact ⟨d, hs, by rw [Op.lookupswitch.offset_nil]; exact hd⟩
      | cons o os => cases h
    | cons t ts => cases h
  | cons k ks ih =>
    intro ts ps h hs
    cases ts with
    | nil => cases h
    | cons t ts =>
      cases ps with
      | nil => cases h
      | cons q ps =>
        obtain ⟨a, o⟩ := q
        simp only [lswOK, Bool.and_eq_true, decide_eq_true_eq] at h
        obtain ⟨⟨h1, h2⟩, h3⟩ := h
        have hs' : (if x = k then go t else swc go x ks ts d) = some r := hs
        by_cases hx : x = k
        · rw [if_pos hx] at hs'
          refine ⟨t, hs', ?_⟩
          rw [Op.lookupswitch.offset_cons, if_pos (by rw [hx]; first | exact h1 | exact h1.symm)]
          exact h2
        · rw [if_neg hx] at hs'
          obtain ⟨t', g1, g2⟩ := ih ts ps h3 hs'
          exact ⟨t', g1, by rw [lv_osw hx h1]; exact g2⟩
/-! what is asked of a row of code -/
section CHK
variable (WT : List Cond) (inf : Nat → Nat × Nat) (mL : Nat → Nat) (mN : Nat → MethodName) (mB : Nat → ByteArray) (mR : Nat → Option FieldType) (mH : Nat → Nat) (mV : Nat → Bool)
def dec1 (bs : ByteArray) (pc : Nat) (ins : Instr) (n nx : Nat) : Bool := decide (decode bs pc = .ok (ins, n)) && decide (nx = pc + n)
def wdAt (k : Nat) (w : Cond) : Bool := decide (nth WT k = some w)
def jmp1 (pc : Nat) (off : Int) : List sT → Bool
  | [t] => decide ((pc : Int) + off = (t.1 : Int))
  | _ => false
def fldOK (own : String) (i a1 a2 a3 : Nat) : Bool := match nth vwCl a1 with
  | some (C, T, N) => decide (a2 < N) && decide ((T a2).1 = C) && wdAt WT a3 (.fieldLink own i C (T a2).2.1 (T a2).2.2.1)
  | none => false
def putOK (a1 a2 : Nat) (tg : List sT) : Bool := match nth vwCl a1 with
  | some (_, T, _) => decide ((T a2).2.2.2 = false) && (match tg with | [] => decide ((T a2).2.2.1 = "I") | _ => decide ((T a2).2.2.1 = "Z"))
  | none => false
def calOK (mi a1 : Nat) : Bool := decide (mH a1 + 1 ≤ mH mi) && decide (mL a1 + 19 ≤ 40)
def chkE (mi pc : Nat) (e : sE) : Bool := match e with
  | (ins, nx, tg, a1, a2, a3, cst, lc, ks) => match ins with
    | .iconst n => dec1 (mB mi) pc (.iconst n) 1 nx.1 && decide (Int32.ofInt n = cst)
    | .bipush n => dec1 (mB mi) pc (.bipush n) 2 nx.1 && decide ((Int8.ofInt n).toInt32 = cst)
    | .sipush n => dec1 (mB mi) pc (.sipush n) 3 nx.1 && decide ((Int16.ofInt n).toInt32 = cst)
    | .ldc i => dec1 (mB mi) pc (.ldc i) 2 nx.1 && wdAt WT a3 (.constant (mN mi).cls i cst)
    | .ldc_w i => dec1 (mB mi) pc (.ldc_w i) 3 nx.1 && wdAt WT a3 (.constant (mN mi).cls i cst)
    | .ldc2_w i => dec1 (mB mi) pc (.ldc2_w i) 3 nx.1 && wdAt WT a3 (.constantLong (mN mi).cls i lc)
    | .iload k => dec1 (mB mi) pc (.iload k) 2 nx.1
    | .iload_n k => dec1 (mB mi) pc (.iload_n k) 1 nx.1
    | .aload_n k => dec1 (mB mi) pc (.aload_n k) 1 nx.1
    | .lload_n k => dec1 (mB mi) pc (.lload_n k) 1 nx.1
    | .istore k => dec1 (mB mi) pc (.istore k) 2 nx.1 && decide (k < mL mi)
    | .istore_n k => dec1 (mB mi) pc (.istore_n k) 1 nx.1 && decide (k.val < mL mi)
    | .iinc k n => dec1 (mB mi) pc (.iinc k n) 3 nx.1 && decide (Int32.ofInt n = cst) && decide (k < mL mi)
    | .iadd => dec1 (mB mi) pc .iadd 1 nx.1
    | .isub => dec1 (mB mi) pc .isub 1 nx.1
    | .imul => dec1 (mB mi) pc .imul 1 nx.1
    | .iand => dec1 (mB mi) pc .iand 1 nx.1
    | .ior => dec1 (mB mi) pc .ior 1 nx.1
    | .ixor => dec1 (mB mi) pc .ixor 1 nx.1
    | .ishl => dec1 (mB mi) pc .ishl 1 nx.1
    | .ishr => dec1 (mB mi) pc .ishr 1 nx.1
    | .iushr => dec1 (mB mi) pc .iushr 1 nx.1
    | .idiv => dec1 (mB mi) pc .idiv 1 nx.1
    | .irem => dec1 (mB mi) pc .irem 1 nx.1
    | .ineg => dec1 (mB mi) pc .ineg 1 nx.1
    | .i2l => dec1 (mB mi) pc .i2l 1 nx.1
    | .l2i => dec1 (mB mi) pc .l2i 1 nx.1
    | .land => dec1 (mB mi) pc .land 1 nx.1
    | .lor => dec1 (mB mi) pc .lor 1 nx.1
    | .lshl => dec1 (mB mi) pc .lshl 1 nx.1
    | .lshr => dec1 (mB mi) pc .lshr 1 nx.1
    | .lushr => dec1 (mB mi) pc .lushr 1 nx.1
    | .dup => dec1 (mB mi) pc .dup 1 nx.1
    | .dup2 => dec1 (mB mi) pc .dup2 1 nx.1
    | .pop => dec1 (mB mi) pc .pop 1 nx.1
    | .goto off => dec1 (mB mi) pc (.goto off) 3 nx.1 && jmp1 pc off tg
    | .if_icmp c off => dec1 (mB mi) pc (.if_icmp c off) 3 nx.1 && jmp1 pc off tg
    | .ifCond c off => dec1 (mB mi) pc (.ifCond c off) 3 nx.1 && jmp1 pc off tg
    | .tableswitch df lo hi offs => decide (decode (mB mi) pc = .ok (.tableswitch df lo hi offs, nx.1 - pc)) && (match tg with
      | d :: ts => decide ((pc : Int) + df = (d.1 : Int)) && decide (hi + 1 = lo + offs.toList.length) && tswOK pc ks ts lo offs.toList
      | [] => false)
    | .lookupswitch df ps => decide (decode (mB mi) pc = .ok (.lookupswitch df ps, nx.1 - pc)) && (match tg with
      | d :: ts => decide ((pc : Int) + df = (d.1 : Int)) && (ps.toList.zip (ps.toList.drop 1)).all (fun (a, next) => a.1 < next.1) && lswOK pc ks ts ps.toList
      | [] => false)
    | .getfield i => dec1 (mB mi) pc (.getfield i) 3 nx.1 && fldOK WT (mN mi).cls i a1 a2 a3
    | .putfield i => dec1 (mB mi) pc (.putfield i) 3 nx.1 && fldOK WT (mN mi).cls i a1 a2 a3 && putOK a1 a2 tg
    | .iaload => dec1 (mB mi) pc .iaload 1 nx.1
    | .iastore => dec1 (mB mi) pc .iastore 1 nx.1
    | .arraylength => dec1 (mB mi) pc .arraylength 1 nx.1
    | .invokevirtual i => dec1 (mB mi) pc (.invokevirtual i) 3 nx.1 && wdAt WT a3 (.methodLink (mN mi).cls i (mN a1)) && calOK mL mH mi a1 && mV a1 && decide ((parseMethodDescriptor (mN a1).desc).map (fun d => d.parameters.length + 1) = some a2)
    | .invokestatic i => dec1 (mB mi) pc (.invokestatic i) 3 nx.1 && (match tg with
      | [] => (wdAt WT a3 (.methodLink (mN mi).cls i (mN a1)) || wdAt WT a3 (.methodLinkNest (mN mi).cls i (mN a1) "GalleryRows")) && calOK mL mH mi a1 && !mV a1 && decide ((parseMethodDescriptor (mN a1).desc).map (fun d => d.parameters.length) = some a2)
      | t :: _ => (match t.1 with
        | 0 => wdAt WT a3 (.methodLink (mN mi).cls i arraycopyName) && decide (1 ≤ mH mi)
        | 1 => wdAt WT a3 (.methodLink (mN mi).cls i Lib.Math.min.name) && decide (1 ≤ mH mi)
        | _ => wdAt WT a3 (.methodLink (mN mi).cls i Lib.Math.max.name) && decide (1 ≤ mH mi)))
    | .ireturn => dec1 (mB mi) pc .ireturn 1 nx.1 && (bif Nat.beq a1 0 then decide (mR mi = some .int) else decide (mR mi = some .boolean))
    | .return_ => dec1 (mB mi) pc .return_ 1 nx.1 && decide (mR mi = none)
    | _ => false
end CHK
end
section
/-! one frame: straight on by seg -/
def rmH (mH : Nat → Nat) (k : Nat) : Room := { frames := mH k, cells := 0, slots := 0, locals := 40 * mH k }
def wsG (WS : List Cond) (mN : Nat → MethodName) (mB : Nat → ByteArray) (mL : Nat → Nat) (mR : Nat → Option FieldType) (k : Nat) : List Cond := .code (mN k) (mB k) (mL k) (mR k) :: WS
/-- the world as a method finds it: the cells, the classes, the script, the nest mates' links -/
def wC (lay : List sQ) (nw : List Cond) (D : va_G) (adr : Nat → Nat) (cA : ClassId) (b : Nat) (X : sX) (S : sS) (U : State) : Prop :=
  va_P D vwCl (wld lay adr cA S) U.heap ∧ va_K D vwCl [(cA, .int)] U ∧ va_X b X.1 X.2 U U.heap ∧ b < U.heap.size ∧ ∀ w ∈ nw, va_Nw w U
def A1 (lay : List sQ) (adr : Nat → Nat) : Nat → Prop := fun q => ∃ k, k < lay.length ∧ q = adr k
def Qr (lay : List sQ) (nw : List Cond) (D : va_G) (adr : Nat → Nat) (cA : ClassId) (b : Nat) (X : sX) (r : Option Value × sS) : Array Value → State → Outcome → State → Prop := fun _ st oc t =>
  (oc = .returned r.1 ∧ wC lay nw D adr cA b X r.2 t) ∧ va_F (A1 lay adr) st t
def MetS (lay : List sQ) (nw WS : List Cond) (mL : Nat → Nat) (mN : Nat → MethodName) (mB : Nat → ByteArray) (mR : Nat → Option FieldType) (mH : Nat → Nat) (D : va_G) (adr : Nat → Nat) (cA : ClassId) (b : Nat) (X : sX) (l : Launch) (mi : Nat) (as : List Value) (S : sS) (r : Option Value × sS) : Prop :=
  Met l (mN mi) (wsG WS mN mB mL mR mi) (rmH mH mi) (va_Pc (as.map (cv adr)) (wC lay nw D adr cA b X S)) (Qr lay nw D adr cA b X r) 0 0 (A1 lay adr)
section FRM
variable {p : Program} {l : Launch} {e : Env} {R : Room} {s : State} {m : MethodId} {args : Array Value} {below : List Frame} {meth : Method} {c : Code} {H : Heap} {locs : List Loc} {cells slots : Nat} {Q : State → Prop}
theorem call_go {pc : Nat} {ls : Array Slot} {st0 rest : List Value} {A0 A1 : Nat → Prop} {H0 : Heap} {free : Addr → Prop} {v : Option Value} {B : State → Prop}
    (hr : va_Run p l e R s m args below meth c H locs cells slots 0 0 (F0 m pc ls st0) rest (fun st oc t => (oc = .returned v ∧ B t) ∧ va_F A1 st t) free) (hS : va_S A0 H0 H locs) (hA : ∀ q, A1 q → A0 q) (hf : ∀ q, free q → A0 q)
    (kk : ∀ (t : State) (H1 : Heap) (locs1 : List Loc), t.heap = H1 → B t → va_S A0 H0 H1 locs1 → W p l e R s m args below meth c H1 locs1 cells slots Q (F0 m (pc + 3) ls (v.toList ++ rest))) : W p l e R s m args below meth c H locs cells slots Q (F0 m pc ls st0) := by
  intro T hT X
  obtain ⟨v', st₀, t, T', L, h0, X', hL, e1, e2, ⟨⟨hv, hb⟩, hz, hk⟩, st⟩ := hr T hT X
  cases hv
  rw [h0] at hz hk
  obtain ⟨t2, a1, b1⟩ := kk t T'.heap (locs ++ L) e1.symm hb
    ⟨Nat.le_trans hS.1 (by rw [e1]; exact hz), fun q h1 h2 => by rw [e1, hk q (Nat.lt_of_lt_of_le h1 hS.1) (fun z => h2 (hA q z))]; exact hS.2.1 q h1 h2, fun q hq => by
      rcases List.mem_append.mp hq with h | h
      · exact hS.2.2 q h
      · exact hf _ (hL q h)⟩ T' rfl X'
  exact ⟨t2, st t2 a1, b1⟩
variable {lay : List sQ} {inf : Nat → Nat × Nat} {mL : Nat → Nat} {mN : Nat → MethodName} {mB : Nat → ByteArray} {mR : Nat → Option FieldType} {mH : Nat → Nat} {mV : Nat → Bool} {WT WS nw : List Cond} {D : va_G} {adr : Nat → Nat} {cA : ClassId} {b : Nat} {X : sX}
/-- what the tables of methods and classes hold -/
def TabOK (mR : Nat → Option FieldType) (WT WS nw : List Cond) : Prop :=
  (∀ w ∈ WT, (∃ a i y h, w = .methodLinkNest a i y h) → w ∈ nw) ∧
  (∀ w ∈ nw, ∃ a i y h, w = .methodLinkNest a i y h) ∧
  (∀ w ∈ WS, goodWord w = true) ∧
  (∀ w ∈ WT, goodWord w = true → w ∈ WS) ∧
  (∀ (ci : Nat) (C : String) (T : u_T) (N : Nat), vwCl[ci]? = some (C, T, N) → (∀ w ∈ u_ws C T N, w ∈ WS) ∧ (∀ a, a < N → ∀ b, b < N → a ≠ b → (T a).2.1 ≠ (T b).2.1) ∧ ∃ ty : Nat → FieldType, ∀ k, k < N → parseFieldDescriptor (T k).2.2.1 = some (ty k)) ∧
  (∀ k, mR k = none ∨ mR k = some .int ∨ mR k = some .boolean) ∧
  (.native arraycopyName ∈ WS ∧ .static arraycopyName ∈ WS ∧ .initialized "java/lang/System" ∈ WS) ∧
  (.static Lib.Math.min.name ∈ WS ∧ .static Lib.Math.max.name ∈ WS ∧ .initialized "java/lang/Math" ∈ WS ∧ .code Lib.Math.min.name Lib.Math.min.code 2 (some .int) ∈ WS ∧ .code Lib.Math.max.name Lib.Math.max.code 2 (some .int) ∈ WS)
/-- what a called method's words are -/
def MOK (inf : Nat → Nat × Nat) (mL : Nat → Nat) (mN : Nat → MethodName) (mB : Nat → ByteArray) (mR : Nat → Option FieldType) (mV : Nat → Bool) (WS : List Cond) (k : Nat) : Prop :=
  .code (mN k) (mB k) (mL k) (mR k) ∈ WS ∧ .initialized (mN k).cls ∈ WS ∧ ((mN k).cls ≠ "java/lang/invoke/MethodHandle" ∧ (mN k).cls ≠ "java/lang/invoke/VarHandle") ∧ plainName (mN k).cls = true ∧ ((inf k).1 = 0 ↔ mR k = none) ∧
  (mV k = true → .instanceMethod (mN k) ∈ WS ∧ .selects (mN k).cls (mN k) (mN k) ∈ WS ∧ ∃ (T : u_T) (N : Nat), vwCl[(inf k).2]? = some ((mN k).cls, T, N)) ∧ (mV k = false → .static (mN k) ∈ WS)
theorem wC_moved {S : sS} {u U : State} (hvm : u.vm.Alike U.vm) (hh : u.heap = U.heap) (hn : ∀ w ∈ nw, va_Nw w u → va_Nw w U) (h : wC lay nw D adr cA b X S u) : wC lay nw D adr cA b X S U := by
  obtain ⟨h1, h2, h3, h4, h5⟩ := h
  refine ⟨by rw [← hh]; exact h1, va_K.moved hvm h2, ?_, by rw [← hh]; exact h4, fun w hw => hn w hw (h5 w hw)⟩
  rw [← hh]
  exact va_X.moved hvm h3
theorem wC_blind (hT : TabOK mR WT WS nw) {S : sS} {av : List Value} : FrameBlind (va_Pc av (wC lay nw D adr cA b X S)) := by
  intro a U g mk q
  refine ⟨q.1, wC_moved (u := U) (U := U.calling g mk a) (Vm.Alike.refl U.vm) rfl (fun w hw hz => ?_) q.2⟩
  obtain ⟨a', i, y, h, rfl⟩ := hT.2.1 w hw
  exact va_Nw.same rfl rfl hz
/-- what stands fast while a frame runs -/
def FrmOK (mL : Nat → Nat) (mN : Nat → MethodName) (mB : Nat → ByteArray) (mH : Nat → Nat) (nw WS : List Cond) (lay : List sQ) (D : va_G) (adr : Nat → Nat) (cA : ClassId) (b : Nat) (X : sX) (p : Program) (R : Room) (s : State) (m : MethodId) (args : Array Value) (c : Code) (cells slots : Nat) (A0 : Nat → Prop) (H0 : Heap) (mi : Nat) : Prop :=
  (p.tables.exec = Jvm.exec ∧ c.code = mB mi ∧ c.maxLocals = mL mi ∧ s.vm.findClass (mN mi).cls = some m.cls ∧ ∀ w ∈ WS, w.before args s = true) ∧
  va_K D vwCl [(cA, .int)] s ∧ va_X b X.1 X.2 s H0 ∧ b < H0.size ∧ ¬ A0 b ∧ adr scrR = b ∧ (∀ w ∈ nw, va_Nw w s) ∧
  (mH mi ≤ R.frames ∧ 40 * mH mi ≤ R.locals) ∧ (cells ≤ R.cells ∧ slots ≤ R.slots) ∧ (∀ k, k < lay.length → A0 (adr k)) ∧ (∀ i j, i < lay.length → j < lay.length → adr i = adr j → i = j)
theorem dec1_spec {bs : ByteArray} {pc : Nat} {ins : Instr} {n nx : Nat} (h : dec1 bs pc ins n nx = true) : decode bs pc = .ok (ins, n) ∧ nx = pc + n := by
  simp only [dec1, Bool.and_eq_true, decide_eq_true_eq] at h
  exact h
theorem wdAt_spec {k : Nat} {w : Cond} (h : wdAt WT k w = true) : w ∈ WT := by
  simp only [wdAt, decide_eq_true_eq, nth_get] at h
  exact List.mem_of_getElem? h
theorem jmp1_spec {pc : Nat} {off : Int} {tg : List sT} (h : jmp1 pc off tg = true) : ∃ t, tg = [t] ∧ (pc : Int) + off = (t.1 : Int) := by
  unfold jmp1 at h
  split at h
  · exact ⟨_, rfl, by simpa using h⟩
  · cases h
theorem fldOK_spec {own : String} {i a1 a2 a3 : Nat} (h : fldOK WT own i a1 a2 a3 = true) : ∃ (C : String) (T : u_T) (N : Nat), vwCl[a1]? = some (C, T, N) ∧ a2 < N ∧ (T a2).1 = C ∧ Cond.fieldLink own i C (T a2).2.1 (T a2).2.2.1 ∈ WT := by
  unfold fldOK at h
  split at h
  · next C T N hq =>
    simp only [Bool.and_eq_true, decide_eq_true_eq] at h
    rw [nth_get] at hq
    exact ⟨C, T, N, hq, h.1.1, h.1.2, wdAt_spec h.2⟩
  · cases h
theorem bz_fits {v : Int32} (h : v &&& 1 = v) : narrow .boolean (.int v) = .int v ∧ fits .boolean (.int v) = true := by
  have h1 : narrow .boolean (.int v) = .int v := by show Value.int (v &&& 1) = _; rw [h]
  refine ⟨h1, ?_⟩
  have h2 := fits_narrow_boolean v
  rwa [h1] at h2
set_option maxHeartbeats 8000000 in
theorem seg_sound {A0 : Nat → Prop} {H0 : Heap} {mi : Nat} (hT : TabOK mR WT WS nw) (hM : ∀ k, mL k + 19 ≤ 40 → mH k + 1 ≤ mH mi → MOK inf mL mN mB mR mV WS k) (F : FrmOK mL mN mB mH nw WS lay D adr cA b X p R s m args c cells slots A0 H0 mi)
    {cod : Nat → Option sE} (hcod : ∀ pc en, cod pc = some en → chkE WT mL mN mB mR mH mV mi pc en = true) {K : Nat → sL → sK → sS → sR} {C : Nat → List Value → sS → sR} (r : Option Value × sS)
    (hret : ∀ (pc : Nat) (ls : Array Slot) (v : Int32) (H : Heap) (locs : List Loc), decode (mB mi) pc = .ok (.ireturn, 1) → (∃ ty, mR mi = some ty ∧ narrow ty (.int v) = .int v) → r.1 = some (.int v) → va_P D vwCl (wld lay adr cA r.2) H → va_S A0 H0 H locs → W p l e R s m args below meth c H locs cells slots Q (F0 m pc ls [.int v]))
    (hretv : ∀ (pc : Nat) (ls : Array Slot) (H : Heap) (locs : List Loc), decode (mB mi) pc = .ok (.return_, 1) → mR mi = none → r.1 = none → va_P D vwCl (wld lay adr cA r.2) H → va_S A0 H0 H locs → W p l e R s m args below meth c H locs cells slots Q (F0 m pc ls []))
    (hC : ∀ mi' as S r', mH mi' + 1 ≤ mH mi → mL mi' + 19 ≤ 40 → C mi' as S = some r' → MetS lay nw WS mL mN mB mR mH D adr cA b X l mi' as S r')
    (hK : ∀ pc ls st S, K pc ls st S = some r → ∀ (H : Heap) (locs : List Loc) (sl : Array Slot), va_P D vwCl (wld lay adr cA S) H → va_S A0 H0 H locs → lv_has sl (mL mi) (cvL adr 0 ls) → W p l e R s m args below meth c H locs cells slots Q (F0 m pc sl (st.map (cv adr)))) :
    ∀ (f pc : Nat) (ls : sL) (st : sK) (S : sS), seg lay inf X K C cod f pc ls st S = some r → ∀ (H : Heap) (locs : List Loc) (sl : Array Slot), va_P D vwCl (wld lay adr cA S) H → va_S A0 H0 H locs → lv_has sl (mL mi) (cvL adr 0 ls) → W p l e R s m args below meth c H locs cells slots Q (F0 m pc sl (st.map (cv adr))) := by
  obtain ⟨⟨hx, hb, hml, hown, hts⟩, hKK, hX, hbl, hbA, hab, hnw, ⟨hrf, hrl⟩, ⟨hcl, hsl⟩, hAk, hinj⟩ := F
  intro f
  induction f with
  | zero => intro pc ls st S h; cases h
  | succ f ih =>
    intro pc ls st S h H locs sl hP hS hl
    cases hc : cod pc with
    | none => simp only [seg, hc] at h; cases h
    | some en =>
      simp only [seg, hc] at h
      have hck := hcod pc en hc
      generalize hgo : (fun (t : sT) (ls : sL) (st : sK) (S : sS) => (match t.2 with
        | none => seg lay inf X K C cod f t.1 ls st S
        | some kp => K t.1 (msk kp ls) st S)) = go at h
      have gs : ∀ (t : sT) (ls : sL) (st : sK) (S : sS), go t ls st S = some r → ∀ (H : Heap) (locs : List Loc) (sl : Array Slot), va_P D vwCl (wld lay adr cA S) H → va_S A0 H0 H locs → lv_has sl (mL mi) (cvL adr 0 ls) → W p l e R s m args below meth c H locs cells slots Q (F0 m t.1 sl (st.map (cv adr))) := by
        intro t ls st S h H locs sl hP hS hl
        rw [← hgo] at h
        obtain ⟨t1, t2⟩ := t
        cases t2 with
        | none => exact ih _ _ _ _ h H locs sl hP hS hl
        | some kp => exact hK _ _ _ _ h H locs sl hP hS (cvL_msk kp hl)
      clear hgo hc
      have hwd : ∀ w ∈ WT, goodWord w = true → w.before args s = true := fun w h1 h2 => hts w (hT.2.2.2.1 w h1 h2)
      have hDD : ∀ S : sS, va_D A0 (wld lay adr cA S) := fun S => wld_D lay adr cA S hinj hAk
      have FLT : ∀ {fs : List (Option Nat)} {f : Nat → Int32} {j : Nat}, nth fs j = some none → j < (fldW adr f 0 fs).length := fun h2 => by rw [fldW_len]; rw [nth_get] at h2; exact (List.getElem?_eq_some_iff.mp h2).1
      have A1A0 : ∀ q, A1 lay adr q → A0 q := by
        rintro q ⟨k, hk, rfl⟩
        exact hAk k hk
      have WCU : ∀ {U : State}, U.heap = H → s.WarmedH U.vm → wC lay nw D adr cA b X S U := by
        intro U hU hW
        refine ⟨by rw [hU]; exact hP, va_K.moved hW.alike hKK, ?_, by rw [hU]; exact Nat.lt_of_lt_of_le hbl hS.1, fun w hw => ?_⟩
        · rw [hU]
          exact va_X.moved hW.alike (hX.kept (hS.2.1 b hbl hbA))
        · obtain ⟨a, i, y, hh, rfl⟩ := hT.2.1 w hw
          exact va_Nw.warmM hW (hnw _ hw)
      obtain ⟨ins, nx, tg, a1, a2, a3, cst, lc, ks⟩ := en
      cases ins with
      | iconst n =>
        simp only [chkE, Bool.and_eq_true, decide_eq_true_eq] at hck
        dsimp only [stepI] at h
        obtain ⟨hd, hnx⟩ := dec1_spec hck.1
        have g := gs _ _ _ _ h H locs sl hP hS hl
        rw [hnx] at g
        exact lv_iconst hx hb hd hck.2 g
      | bipush n =>
        simp only [chkE, Bool.and_eq_true, decide_eq_true_eq] at hck
        dsimp only [stepI] at h
        obtain ⟨hd, hnx⟩ := dec1_spec hck.1
        have g := gs _ _ _ _ h H locs sl hP hS hl
        rw [hnx] at g
        exact lv_bipush hx hb hd hck.2 g
      | sipush n =>
        simp only [chkE, Bool.and_eq_true, decide_eq_true_eq] at hck
        dsimp only [stepI] at h
        obtain ⟨hd, hnx⟩ := dec1_spec hck.1
        have g := gs _ _ _ _ h H locs sl hP hS hl
        rw [hnx] at g
        exact lv_sipush hx hb hd hck.2 g
      | ldc n =>
        simp only [chkE, Bool.and_eq_true, decide_eq_true_eq] at hck
        dsimp only [stepI] at h
        obtain ⟨hd, hnx⟩ := dec1_spec hck.1
        have g := gs _ _ _ _ h H locs sl hP hS hl
        rw [hnx] at g
        exact lv_ldc hx hb hown (hwd _ (wdAt_spec hck.2) rfl) hd g
      | ldc_w n =>
        simp only [chkE, Bool.and_eq_true, decide_eq_true_eq] at hck
        dsimp only [stepI] at h
        obtain ⟨hd, hnx⟩ := dec1_spec hck.1
        have g := gs _ _ _ _ h H locs sl hP hS hl
        rw [hnx] at g
        exact lv_ldcw hx hb hown (hwd _ (wdAt_spec hck.2) rfl) hd g
      | ldc2_w n =>
        simp only [chkE, Bool.and_eq_true, decide_eq_true_eq] at hck
        dsimp only [stepI] at h
        obtain ⟨hd, hnx⟩ := dec1_spec hck.1
        have g := gs _ _ _ _ h H locs sl hP hS hl
        rw [hnx] at g
        exact lv_ldc2 hx hb hown (hwd _ (wdAt_spec hck.2) rfl) hd g
      | iload k =>
        simp only [chkE, Bool.and_eq_true, decide_eq_true_eq] at hck
        dsimp only [stepI] at h
        obtain ⟨hd, hnx⟩ := dec1_spec hck
        obtain ⟨x, h1, h2⟩ := ldI_inv h
        have g := gs _ _ _ _ h2 H locs sl hP hS hl
        rw [hnx] at g
        exact lv_iload hx hb hd (cvL_at hl h1) g
      | iload_n k =>
        simp only [chkE, Bool.and_eq_true, decide_eq_true_eq] at hck
        dsimp only [stepI] at h
        obtain ⟨hd, hnx⟩ := dec1_spec hck
        obtain ⟨x, h1, h2⟩ := ldI_inv h
        have g := gs _ _ _ _ h2 H locs sl hP hS hl
        rw [hnx] at g
        exact lv_iload_n hx hb hd rfl (cvL_at hl h1) g
      | aload_n k =>
        simp only [chkE, Bool.and_eq_true, decide_eq_true_eq] at hck
        dsimp only [stepI] at h
        obtain ⟨hd, hnx⟩ := dec1_spec hck
        obtain ⟨x, h1, h2⟩ := ldA_inv h
        have g := gs _ _ _ _ h2 H locs sl hP hS hl
        rw [hnx] at g
        exact lv_aload_n hx hb hd rfl (cvL_at hl h1) g
      | lload_n k =>
        simp only [chkE, Bool.and_eq_true, decide_eq_true_eq] at hck
        dsimp only [stepI] at h
        obtain ⟨hd, hnx⟩ := dec1_spec hck
        obtain ⟨x, h1, h2⟩ := ldL_inv h
        have g := gs _ _ _ _ h2 H locs sl hP hS hl
        rw [hnx] at g
        exact lv_lload_n hx hb hd rfl (cvL_at hl h1) g
      | istore k =>
        simp only [chkE, Bool.and_eq_true, decide_eq_true_eq] at hck
        dsimp only [stepI] at h
        obtain ⟨hd, hnx⟩ := dec1_spec hck.1
        split at h
        · next x st' =>
          obtain ⟨h1, h2, h3⟩ := stoL_inv h
          have hkl := hck.2
          refine lv_istore hx hb hd hl hkl rfl (fun sl' hl' => ?_)
          have g := gs _ _ _ _ h3 H locs sl' hP hS (cvL_set (v := .int x) h1 h2 hl')
          rw [hnx] at g
          exact g
        · cases h
      | istore_n k =>
        simp only [chkE, Bool.and_eq_true, decide_eq_true_eq] at hck
        dsimp only [stepI] at h
        obtain ⟨hd, hnx⟩ := dec1_spec hck.1
        split at h
        · next x st' =>
          obtain ⟨h1, h2, h3⟩ := stoL_inv h
          have hkl := hck.2
          refine lv_istore_n hx hb hd rfl hl hkl rfl (fun sl' hl' => ?_)
          have g := gs _ _ _ _ h3 H locs sl' hP hS (cvL_set (v := .int x) h1 h2 hl')
          rw [hnx] at g
          exact g
        · cases h
      | iinc k n =>
        simp only [chkE, Bool.and_eq_true, decide_eq_true_eq] at hck
        dsimp only [stepI] at h
        obtain ⟨⟨hd0, hci⟩, hkl⟩ := hck
        obtain ⟨hd, hnx⟩ := dec1_spec hd0
        split at h
        · next x hq =>
          obtain ⟨h1, h2, h3⟩ := stoL_inv h
          obtain ⟨k0, hk0⟩ := List.getElem?_of_mem ((cvL_mem adr ls 0 k (.int x)).mpr ⟨k, .int x, by omega, hq, rfl⟩)
          refine lv_iinc hx hb hd hl hk0 (v := x + cst) (by rw [hci]) hkl rfl (fun sl' hl' => ?_)
          have g := gs _ _ _ _ h3 H locs sl' hP hS (cvL_set (v := .int (x + cst)) h1 h2 hl')
          rw [hnx] at g
          exact g
        · cases h
      | iadd =>
        simp only [chkE, Bool.and_eq_true, decide_eq_true_eq] at hck
        dsimp only [stepI] at h
        obtain ⟨hd, hnx⟩ := dec1_spec hck
        obtain ⟨x, y, st', rfl, h2⟩ := bi2_inv h
        have g := gs _ _ _ _ h2 H locs sl hP hS hl
        rw [hnx] at g
        exact lv_iadd hx hb hd g
      | isub =>
        simp only [chkE, Bool.and_eq_true, decide_eq_true_eq] at hck
        dsimp only [stepI] at h
        obtain ⟨hd, hnx⟩ := dec1_spec hck
        obtain ⟨x, y, st', rfl, h2⟩ := bi2_inv h
        have g := gs _ _ _ _ h2 H locs sl hP hS hl
        rw [hnx] at g
        exact lv_isub hx hb hd g
      | imul =>
        simp only [chkE, Bool.and_eq_true, decide_eq_true_eq] at hck
        dsimp only [stepI] at h
        obtain ⟨hd, hnx⟩ := dec1_spec hck
        obtain ⟨x, y, st', rfl, h2⟩ := bi2_inv h
        have g := gs _ _ _ _ h2 H locs sl hP hS hl
        rw [hnx] at g
        exact lv_imul hx hb hd g
      | iand =>
        simp only [chkE, Bool.and_eq_true, decide_eq_true_eq] at hck
        dsimp only [stepI] at h
        obtain ⟨hd, hnx⟩ := dec1_spec hck
        obtain ⟨x, y, st', rfl, h2⟩ := bi2_inv h
        have g := gs _ _ _ _ h2 H locs sl hP hS hl
        rw [hnx] at g
        exact lv_iand hx hb hd g
      | ior =>
        simp only [chkE, Bool.and_eq_true, decide_eq_true_eq] at hck
        dsimp only [stepI] at h
        obtain ⟨hd, hnx⟩ := dec1_spec hck
        obtain ⟨x, y, st', rfl, h2⟩ := bi2_inv h
        have g := gs _ _ _ _ h2 H locs sl hP hS hl
        rw [hnx] at g
        exact lv_ior hx hb hd g
      | ixor =>
        simp only [chkE, Bool.and_eq_true, decide_eq_true_eq] at hck
        dsimp only [stepI] at h
        obtain ⟨hd, hnx⟩ := dec1_spec hck
        obtain ⟨x, y, st', rfl, h2⟩ := bi2_inv h
        have g := gs _ _ _ _ h2 H locs sl hP hS hl
        rw [hnx] at g
        exact lv_ixor hx hb hd g
      | ishl =>
        simp only [chkE, Bool.and_eq_true, decide_eq_true_eq] at hck
        dsimp only [stepI] at h
        obtain ⟨hd, hnx⟩ := dec1_spec hck
        obtain ⟨x, y, st', rfl, h2⟩ := bi2_inv h
        have g := gs _ _ _ _ h2 H locs sl hP hS hl
        rw [hnx] at g
        exact lv_ishl hx hb hd g
      | ishr =>
        simp only [chkE, Bool.and_eq_true, decide_eq_true_eq] at hck
        dsimp only [stepI] at h
        obtain ⟨hd, hnx⟩ := dec1_spec hck
        obtain ⟨x, y, st', rfl, h2⟩ := bi2_inv h
        have g := gs _ _ _ _ h2 H locs sl hP hS hl
        rw [hnx] at g
        exact lv_ishr hx hb hd g
      | iushr =>
        simp only [chkE, Bool.and_eq_true, decide_eq_true_eq] at hck
        dsimp only [stepI] at h
        obtain ⟨hd, hnx⟩ := dec1_spec hck
        obtain ⟨x, y, st', rfl, h2⟩ := bi2_inv h
        have g := gs _ _ _ _ h2 H locs sl hP hS hl
        rw [hnx] at g
        exact lv_iushr hx hb hd rfl g
      | land =>
        simp only [chkE, Bool.and_eq_true, decide_eq_true_eq] at hck
        dsimp only [stepI] at h
        obtain ⟨hd, hnx⟩ := dec1_spec hck
        obtain ⟨x, y, st', rfl, h2⟩ := bl2_inv h
        have g := gs _ _ _ _ h2 H locs sl hP hS hl
        rw [hnx] at g
        exact lv_land hx hb hd g
      | lor =>
        simp only [chkE, Bool.and_eq_true, decide_eq_true_eq] at hck
        dsimp only [stepI] at h
        obtain ⟨hd, hnx⟩ := dec1_spec hck
        obtain ⟨x, y, st', rfl, h2⟩ := bl2_inv h
        have g := gs _ _ _ _ h2 H locs sl hP hS hl
        rw [hnx] at g
        exact lv_lor hx hb hd g
      | lshl =>
        simp only [chkE, Bool.and_eq_true, decide_eq_true_eq] at hck
        dsimp only [stepI] at h
        obtain ⟨hd, hnx⟩ := dec1_spec hck
        obtain ⟨x, y, st', rfl, h2⟩ := bs2_inv h
        have g := gs _ _ _ _ h2 H locs sl hP hS hl
        rw [hnx] at g
        exact lv_lshl hx hb hd rfl g
      | lshr =>
        simp only [chkE, Bool.and_eq_true, decide_eq_true_eq] at hck
        dsimp only [stepI] at h
        obtain ⟨hd, hnx⟩ := dec1_spec hck
        obtain ⟨x, y, st', rfl, h2⟩ := bs2_inv h
        have g := gs _ _ _ _ h2 H locs sl hP hS hl
        rw [hnx] at g
        exact lv_lshr hx hb hd rfl g
      | lushr =>
        simp only [chkE, Bool.and_eq_true, decide_eq_true_eq] at hck
        dsimp only [stepI] at h
        obtain ⟨hd, hnx⟩ := dec1_spec hck
        obtain ⟨x, y, st', rfl, h2⟩ := bs2_inv h
        have g := gs _ _ _ _ h2 H locs sl hP hS hl
        rw [hnx] at g
        exact lv_lushr hx hb hd rfl g
      | idiv =>
        simp only [chkE, Bool.and_eq_true, decide_eq_true_eq] at hck
        dsimp only [stepI] at h
        obtain ⟨hd, hnx⟩ := dec1_spec hck
        split at h
        · obtain ⟨h1, h2⟩ := dv_inv h
          have g := gs _ _ _ _ h2 H locs sl hP hS hl
          rw [hnx] at g
          exact lv_idiv hx hb hd h1 g
        · cases h
      | irem =>
        simp only [chkE, Bool.and_eq_true, decide_eq_true_eq] at hck
        dsimp only [stepI] at h
        obtain ⟨hd, hnx⟩ := dec1_spec hck
        split at h
        · obtain ⟨h1, h2⟩ := dv_inv h
          have g := gs _ _ _ _ h2 H locs sl hP hS hl
          rw [hnx] at g
          exact lv_irem hx hb hd h1 g
        · cases h
      | ineg =>
        simp only [chkE, Bool.and_eq_true, decide_eq_true_eq] at hck
        dsimp only [stepI] at h
        obtain ⟨hd, hnx⟩ := dec1_spec hck
        split at h
        ·
          have g := gs _ _ _ _ h H locs sl hP hS hl
          rw [hnx] at g
          exact lv_ineg hx hb hd g
        · cases h
      | i2l =>
        simp only [chkE, Bool.and_eq_true, decide_eq_true_eq] at hck
        dsimp only [stepI] at h
        obtain ⟨hd, hnx⟩ := dec1_spec hck
        split at h
        ·
          have g := gs _ _ _ _ h H locs sl hP hS hl
          rw [hnx] at g
          exact lv_i2l hx hb hd rfl g
        · cases h
      | l2i =>
        simp only [chkE, Bool.and_eq_true, decide_eq_true_eq] at hck
        dsimp only [stepI] at h
        obtain ⟨hd, hnx⟩ := dec1_spec hck
        split at h
        ·
          have g := gs _ _ _ _ h H locs sl hP hS hl
          rw [hnx] at g
          exact lv_l2i hx hb hd rfl g
        · cases h
      | pop =>
        simp only [chkE, Bool.and_eq_true, decide_eq_true_eq] at hck
        dsimp only [stepI] at h
        obtain ⟨hd, hnx⟩ := dec1_spec hck
        split at h
        ·
          have g := gs _ _ _ _ h H locs sl hP hS hl
          rw [hnx] at g
          exact lv_pop hx hb hd rfl g
        · cases h
      | dup =>
        simp only [chkE, Bool.and_eq_true, decide_eq_true_eq] at hck
        dsimp only [stepI] at h
        obtain ⟨hd, hnx⟩ := dec1_spec hck
        split at h
        ·
          have g := gs _ _ _ _ h H locs sl hP hS hl
          rw [hnx] at g
          exact lv_dup hx hb hd rfl g
        ·
          have g := gs _ _ _ _ h H locs sl hP hS hl
          rw [hnx] at g
          exact lv_dup hx hb hd rfl g
        · cases h
      | dup2 =>
        simp only [chkE, Bool.and_eq_true, decide_eq_true_eq] at hck
        dsimp only [stepI] at h
        obtain ⟨hd, hnx⟩ := dec1_spec hck
        split at h
        ·
          have g := gs _ _ _ _ h H locs sl hP hS hl
          rw [hnx] at g
          exact lv_dup2_11 hx hb hd rfl rfl g
        · cases h
      | goto off =>
        simp only [chkE, Bool.and_eq_true, decide_eq_true_eq] at hck
        dsimp only [stepI] at h
        obtain ⟨hd, hnx⟩ := dec1_spec hck.1
        obtain ⟨t, rfl, ht⟩ := jmp1_spec hck.2
        exact lv_goto hx hb hd ht (gs _ _ _ _ h H locs sl hP hS hl)
      | if_icmp c off =>
        simp only [chkE, Bool.and_eq_true, decide_eq_true_eq] at hck
        dsimp only [stepI] at h
        obtain ⟨hd, hnx⟩ := dec1_spec hck.1
        obtain ⟨t, rfl, ht⟩ := jmp1_spec hck.2
        split at h
        · next e1 =>
          cases e1
          cases c
          case eq =>
            dsimp only at h
            refine lv_icmp_eq hx hb hd ht (fun q => ?_) (fun q => ?_)
            · rw [if_pos q] at h
              exact gs _ _ _ _ h H locs sl hP hS hl
            · rw [if_neg q] at h
              have g := gs _ _ _ _ h H locs sl hP hS hl
              rw [hnx] at g
              exact g
          case ne =>
            dsimp only at h
            refine lv_icmp_ne hx hb hd ht (fun q => ?_) (fun q => ?_)
            · rw [if_neg q] at h
              exact gs _ _ _ _ h H locs sl hP hS hl
            · rw [if_pos q] at h
              have g := gs _ _ _ _ h H locs sl hP hS hl
              rw [hnx] at g
              exact g
          case lt =>
            dsimp only at h
            refine lv_icmp_lt hx hb hd ht (fun q => ?_) (fun q => ?_)
            · rw [if_pos q] at h
              exact gs _ _ _ _ h H locs sl hP hS hl
            · rw [if_neg q] at h
              have g := gs _ _ _ _ h H locs sl hP hS hl
              rw [hnx] at g
              exact g
          case ge =>
            dsimp only at h
            refine lv_icmp_ge hx hb hd ht (fun q => ?_) (fun q => ?_)
            · rw [if_pos q] at h
              exact gs _ _ _ _ h H locs sl hP hS hl
            · rw [if_neg q] at h
              have g := gs _ _ _ _ h H locs sl hP hS hl
              rw [hnx] at g
              exact g
          case gt =>
            dsimp only at h
            refine lv_icmp_gt hx hb hd ht (fun q => ?_) (fun q => ?_)
            · rw [if_pos q] at h
              exact gs _ _ _ _ h H locs sl hP hS hl
            · rw [if_neg q] at h
              have g := gs _ _ _ _ h H locs sl hP hS hl
              rw [hnx] at g
              exact g
          case le =>
            dsimp only at h
            refine lv_icmp_le hx hb hd ht (fun q => ?_) (fun q => ?_)
            · rw [if_pos q] at h
              exact gs _ _ _ _ h H locs sl hP hS hl
            · rw [if_neg q] at h
              have g := gs _ _ _ _ h H locs sl hP hS hl
              rw [hnx] at g
              exact g
        · cases h
      | ifCond c off =>
        simp only [chkE, Bool.and_eq_true, decide_eq_true_eq] at hck
        dsimp only [stepI] at h
        obtain ⟨hd, hnx⟩ := dec1_spec hck.1
        obtain ⟨t, rfl, ht⟩ := jmp1_spec hck.2
        split at h
        · next e1 =>
          cases e1
          cases c
          case eq =>
            dsimp only at h
            refine lv_if_eq hx hb hd ht (fun q => ?_) (fun q => ?_)
            · rw [if_pos q] at h
              exact gs _ _ _ _ h H locs sl hP hS hl
            · rw [if_neg q] at h
              have g := gs _ _ _ _ h H locs sl hP hS hl
              rw [hnx] at g
              exact g
          case ne =>
            dsimp only at h
            refine lv_if_ne hx hb hd ht (fun q => ?_) (fun q => ?_)
            · rw [if_neg q] at h
              exact gs _ _ _ _ h H locs sl hP hS hl
            · rw [if_pos q] at h
              have g := gs _ _ _ _ h H locs sl hP hS hl
              rw [hnx] at g
              exact g
          case lt =>
            dsimp only at h
            refine lv_if_lt hx hb hd ht (fun q => ?_) (fun q => ?_)
            · rw [if_pos q] at h
              exact gs _ _ _ _ h H locs sl hP hS hl
            · rw [if_neg q] at h
              have g := gs _ _ _ _ h H locs sl hP hS hl
              rw [hnx] at g
              exact g
          case ge =>
            dsimp only at h
            refine lv_if_ge hx hb hd ht (fun q => ?_) (fun q => ?_)
            · rw [if_pos q] at h
              exact gs _ _ _ _ h H locs sl hP hS hl
            · rw [if_neg q] at h
              have g := gs _ _ _ _ h H locs sl hP hS hl
              rw [hnx] at g
              exact g
          case gt =>
            dsimp only at h
            refine lv_if_gt hx hb hd ht (fun q => ?_) (fun q => ?_)
            · rw [if_pos q] at h
              exact gs _ _ _ _ h H locs sl hP hS hl
            · rw [if_neg q] at h
              have g := gs _ _ _ _ h H locs sl hP hS hl
              rw [hnx] at g
              exact g
          case le =>
            dsimp only at h
            refine lv_if_le hx hb hd ht (fun q => ?_) (fun q => ?_)
            · rw [if_pos q] at h
              exact gs _ _ _ _ h H locs sl hP hS hl
            · rw [if_neg q] at h
              have g := gs _ _ _ _ h H locs sl hP hS hl
              rw [hnx] at g
              exact g
        · cases h
      | tableswitch df lo hi offs =>
        simp only [chkE, Bool.and_eq_true, decide_eq_true_eq] at hck
        dsimp only [stepI] at h
        obtain ⟨hd, hk⟩ := hck
        split at h
        · next d ts x st' =>
          simp only [Bool.and_eq_true, decide_eq_true_eq] at hk
          obtain ⟨⟨k1, k2⟩, k3⟩ := hk
          rcases tsw_go _ _ _ _ _ k3 h with ⟨j, o, t, g1, g2, g3, g4⟩ | ⟨g1, g2⟩
          · have hj : j < offs.toList.length := (List.getElem?_eq_some_iff.mp g2).1
            refine lv_tableIn hx hb hd (off := o) (tgt := t.1) (by omega) (by omega) ?_ g4 (gs _ _ _ _ g1 H locs sl hP hS hl)
            rw [← Array.getElem?_toList, show (x.toInt - lo).toNat = j by omega]
            exact g2
          · exact lv_tableOut hx hb hd (tgt := d.1) (by omega) k1 (gs _ _ _ _ g2 H locs sl hP hS hl)
        · cases h
      | lookupswitch df ps =>
        simp only [chkE, Bool.and_eq_true, decide_eq_true_eq] at hck
        dsimp only [stepI] at h
        obtain ⟨hd, hk⟩ := hck
        split at h
        · next d ts x st' =>
          simp only [Bool.and_eq_true, decide_eq_true_eq] at hk
          obtain ⟨⟨k1, k2⟩, k3⟩ := hk
          obtain ⟨t, g1, g2⟩ := lsw_go k1 _ _ _ k3 h
          exact lv_lookup hx hb hd k2 rfl g2 (gs _ _ _ _ g1 H locs sl hP hS hl)
        · cases h
      | getfield i =>
        simp only [chkE, Bool.and_eq_true, decide_eq_true_eq] at hck
        dsimp only [stepI] at h
        obtain ⟨hd, hnx⟩ := dec1_spec hck.1
        obtain ⟨CC, T, N, k1, k2, k3, k4⟩ := fldOK_spec hck.2
        split at h
        · next k st' =>
          obtain ⟨fs, h1, h2 | ⟨q, h2⟩⟩ := getF_inv h
          · have g := gs _ _ _ _ h2.2 H locs sl hP hS hl
            rw [hnx] at g
            exact va_get hx hb hts (hT.2.2.2.2.1 a1 CC T N k1).1 hown hKK hP k (wld_obj h1) k1 a2 k2 (hwd _ k4 rfl) (by rw [k3]; exact fun _ h9 => h9) (by rw [fldW_get, h2.1]; show some (Value.int (S k (0 + a2))) = _; rw [Nat.zero_add]; rfl) hd g
          · have g := gs _ _ _ _ h2.2 H locs sl hP hS hl
            rw [hnx] at g
            exact va_get hx hb hts (hT.2.2.2.2.1 a1 CC T N k1).1 hown hKK hP k (wld_obj h1) k1 a2 k2 (hwd _ k4 rfl) (by rw [k3]; exact fun _ h9 => h9) (by rw [fldW_get, h2.1]; rfl) hd g
        · cases h
      | putfield i =>
        simp only [chkE, Bool.and_eq_true, decide_eq_true_eq] at hck
        dsimp only [stepI] at h
        obtain ⟨hd, hnx⟩ := dec1_spec hck.1.1
        obtain ⟨CC, T, N, k1, k2, k3, k4⟩ := fldOK_spec hck.1.2
        obtain ⟨m1, m2, ty, m3⟩ := hT.2.2.2.2.1 a1 CC T N k1
        have hpo := hck.2
        unfold putOK at hpo
        rw [nth_get, k1] at hpo
        split at h
        · next v k st' =>
          cases tg with
          | nil =>
            simp only [Bool.and_eq_true, decide_eq_true_eq] at hpo
            obtain ⟨fs, h1, h2, h3⟩ := putF_inv h
            have hty : parseFieldDescriptor (T a2).2.2.1 = some .int := by rw [hpo.2]; decide +kernel
            refine va_put hx hb hts m1 ty m3 m2 hown hKK hP (hDD S) hS k (wld_obj h1) k1 a2 k2 (hwd _ k4 rfl) (by rw [k3]; exact fun _ h9 => h9) hpo.1 hty rfl rfl (FLT h2) hd (fun H1 locs1 hP1 _ hS1 => ?_)
            have hP2 : va_P D vwCl ((wld lay adr cA S).set k (adr k, .inr (a1, (fldW adr (S k) 0 fs).set a2 (.int v)))) H1 := hP1
            rw [wld_putF h1 h2] at hP2
            have g := gs _ _ _ _ h3 H1 locs1 sl hP2 hS1 hl
            rw [hnx] at g
            exact g
          | cons t ts =>
            simp only [Bool.and_eq_true, decide_eq_true_eq] at hpo
            obtain ⟨hzz, h⟩ := bz_inv h
            obtain ⟨fs, h1, h2, h3⟩ := putF_inv h
            have hty : parseFieldDescriptor (T a2).2.2.1 = some .boolean := by rw [hpo.2]; decide +kernel
            refine va_put hx hb hts m1 ty m3 m2 hown hKK hP (hDD S) hS k (wld_obj h1) k1 a2 k2 (hwd _ k4 rfl) (by rw [k3]; exact fun _ h9 => h9) hpo.1 hty (bz_fits hzz).1 (bz_fits hzz).2 (FLT h2) hd (fun H1 locs1 hP1 _ hS1 => ?_)
            have hP2 : va_P D vwCl ((wld lay adr cA S).set k (adr k, .inr (a1, (fldW adr (S k) 0 fs).set a2 (.int v)))) H1 := hP1
            rw [wld_putF h1 h2] at hP2
            have g := gs _ _ _ _ h3 H1 locs1 sl hP2 hS1 hl
            rw [hnx] at g
            exact g
        · cases h
      | iaload =>
        simp only [chkE, Bool.and_eq_true, decide_eq_true_eq] at hck
        dsimp only [stepI] at h
        obtain ⟨hd, hnx⟩ := dec1_spec hck
        split at h
        · next i k st' =>
          rcases getA_inv h with ⟨n, h1, h2, h3⟩ | ⟨h1, h2, h3, h4⟩
          · have g := gs _ _ _ _ h3 H locs sl hP hS hl
            rw [hnx] at g
            exact va_iald hx hb hKK hP k 0 (wld_arr h1) rfl h2 hd g
          · have g := gs _ _ _ _ h4 H locs sl hP hS hl
            rw [hnx] at g
            subst h2
            rw [List.map_cons, List.map_cons, show cv adr (.ref scrR) = .ref b from congrArg Value.ref hab]
            exact va_sld hx hb hX hbl hbA hS h3 hd g
        · cases h
      | arraylength =>
        simp only [chkE, Bool.and_eq_true, decide_eq_true_eq] at hck
        dsimp only [stepI] at h
        obtain ⟨hd, hnx⟩ := dec1_spec hck
        split at h
        · next k st' =>
          rcases lenA_inv h with ⟨n, h1, h3⟩ | ⟨h1, h2, h4⟩
          · have g := gs _ _ _ _ h3 H locs sl hP hS hl
            rw [hnx] at g
            exact va_alen hx hb hKK hP k 0 (wld_arr h1) rfl rfl hd g
          · have g := gs _ _ _ _ h4 H locs sl hP hS hl
            rw [hnx] at g
            subst h2
            rw [List.map_cons, show cv adr (.ref scrR) = .ref b from congrArg Value.ref hab]
            exact va_slen hx hb hX hbl hbA hS hd g
        · cases h
      | iastore =>
        simp only [chkE, Bool.and_eq_true, decide_eq_true_eq] at hck
        dsimp only [stepI] at h
        obtain ⟨hd, hnx⟩ := dec1_spec hck
        split at h
        · next v i k st' =>
          obtain ⟨n, h1, h2, h3⟩ := putA_inv h
          refine va_iast hx hb hKK hP (hDD S) hS k 0 (wld_arr h1) rfl h2 hd (fun H1 locs1 hP1 _ hS1 => ?_)
          rw [wld_putA h1] at hP1
          have g := gs _ _ _ _ h3 H1 locs1 sl hP1 hS1 hl
          rw [hnx] at g
          exact g
        · cases h
      | invokevirtual i =>
        simp only [chkE, Bool.and_eq_true, decide_eq_true_eq] at hck
        dsimp only [stepI] at h
        obtain ⟨⟨⟨⟨k1, k2⟩, k3⟩, k4⟩, k5⟩ := hck
        obtain ⟨hd, hnx⟩ := dec1_spec k1
        simp only [calOK, Bool.and_eq_true, decide_eq_true_eq] at k3
        obtain ⟨as, st', h1, hz, h2⟩ := call_inv h
        obtain ⟨⟨k, fs, as', rfl, h3⟩, h4⟩ := rcv_inv h2
        obtain ⟨xs, e1, e2, e3⟩ := pops_spec _ _ _ _ _ h1
        have exs : xs = as'.reverse ++ [.ref k] := by have := congrArg List.reverse e3; simpa using this.symm
        obtain ⟨w1, w2, w3, w4, w5, w6, w7⟩ := hM a1 k3.2 k3.1
        obtain ⟨w61, w62, T, N, w63⟩ := w6 k4
        have hlink := hwd _ (wdAt_spec k2) rfl
        have hGG : GoodIn WS (wsV (mN mi).cls i (mN a1).cls (mN a1) (wsG WS mN mB mL mR a1)) := by
          intro w hw
          have hw' : w ∈ WS := by
            simp only [wsV, wsG, List.cons_append, List.nil_append, List.mem_cons] at hw
            rcases hw with rfl | rfl | rfl | rfl | rfl | hw
            · exact hT.2.2.2.1 _ (wdAt_spec k2) rfl
            · exact w61
            · exact w62
            · exact w2
            · exact w1
            · exact hw
          exact ⟨hw', good_of_word (hT.2.2.1 w hw')⟩
        have hroom : (rmH mH a1).frames + 1 ≤ R.frames ∧ 8 + (mL a1 + 11) + (rmH mH a1).locals ≤ R.locals := by show mH a1 + 1 ≤ _ ∧ 8 + (mL a1 + 11) + 40 * mH a1 ≤ _; omega
        cases hp9 : parseMethodDescriptor (mN a1).desc with
        | none => rw [hp9] at k5; cases k5
        | some d9 =>
          rw [hp9] at k5
          have k5' : d9.parameters.length + 1 = a2 := Option.some.inj k5
          have hcw : CallW R s args (mN mi).cls (mN a1).cls i (mN a1) (mB a1) (mL a1) (mR a1) (wsG WS mN mB mL mR a1) (rmH mH a1) 0 0 as'.length := cwV as'.length hts hGG rfl rfl rfl ⟨rfl, w3.1, w3.2, by rw [hp9]; show some d9.parameters.length = _; rw [exs] at e2; simp at e2; congr 1; omega⟩ hroom
          have hrec := va_recv hKK hP w63 (wld_obj h3)
          have hpre : PreV s H (mN a1).cls (adr k) (va_Pc ((Value.ref k :: as').map (cv adr)) (wC lay nw D adr cA b X S)) (as'.map (cv adr)) := ⟨wC_blind hT, hrec, fun U hU hW => ⟨rfl, WCU hU hW⟩⟩
          have est : st.map (cv adr) = (as'.map (cv adr)).reverse ++ .ref (adr k) :: st'.map (cv adr) := by rw [e1, exs]; simp [cv]
          have hrun : ∀ r', C a1 (.ref k :: as') S = some r' → va_Run p l e R s m args below meth c H locs cells slots 0 0 (F0 m pc sl (st.map (cv adr))) (st'.map (cv adr)) (Qr lay nw D adr cA b X r' (Value.ref (adr k) :: as'.map (cv adr)).toArray) (A1 lay adr) := fun r' hr' => va_runV (Ts := WS) ⟨hx, hb, hml, hown, hts⟩ (hC a1 _ S r' k3.1 k3.2 hr') hcw hpre rfl (by simp) hl.1 est (lv_room (by rw [catS_map]; exact hz)) hd ⟨hcl, hsl⟩
          skip
          cases hkd : Nat.beq (inf a1).1 0 with
          | true =>
            rw [hkd] at h4
            obtain ⟨S', h5, h6⟩ := cV_inv h4
            refine call_go (v := none) (hrun _ h5) hS A1A0 A1A0 (fun t H1 locs1 e9 hB hS1 => ?_)
            have hP1 := hB.1
            rw [e9] at hP1
            have g := gs _ _ _ _ h6 H1 locs1 sl hP1 hS1 hl
            rw [hnx] at g
            exact g
          | false =>
            rw [hkd] at h4
            obtain ⟨x, S', h5, h6⟩ := cI_inv h4
            refine call_go (v := some (.int x)) (hrun _ h5) hS A1A0 A1A0 (fun t H1 locs1 e9 hB hS1 => ?_)
            have hP1 := hB.1
            rw [e9] at hP1
            have g := gs _ _ _ _ h6 H1 locs1 sl hP1 hS1 hl
            rw [hnx] at g
            exact g
      | invokestatic i =>
        simp only [chkE, Bool.and_eq_true, decide_eq_true_eq] at hck
        dsimp only [stepI] at h
        obtain ⟨k1, k2⟩ := hck
        obtain ⟨hd, hnx⟩ := dec1_spec k1
        split at h
        · simp only [Bool.and_eq_true, Bool.or_eq_true, Bool.not_eq_true', decide_eq_true_eq] at k2
          obtain ⟨⟨⟨k2, k3⟩, k4⟩, k5⟩ := k2
          simp only [calOK, Bool.and_eq_true, decide_eq_true_eq] at k3
          obtain ⟨as, st', h1, hz, h2⟩ := call_inv h
          obtain ⟨xs, e1, e2, e3⟩ := pops_spec _ _ _ _ _ h1
          have exs : xs = as.reverse := by rw [e3]; simp
          obtain ⟨w1, w2, w3, w4, w5, w6, w7⟩ := hM a1 k3.2 k3.1
          have w71 := w7 k4
          have hG0 : GoodIn WS (wsG WS mN mB mL mR a1) := by
            intro w hw
            have hw' : w ∈ WS := by
              simp only [wsG, List.mem_cons] at hw
              rcases hw with rfl | hw
              · exact w1
              · exact hw
            exact ⟨hw', good_of_word (hT.2.2.1 w hw')⟩
          have hroom : (rmH mH a1).frames + 1 ≤ R.frames ∧ 8 + (mL a1 + 11) + (rmH mH a1).locals ≤ R.locals := by show mH a1 + 1 ≤ _ ∧ 8 + (mL a1 + 11) + 40 * mH a1 ≤ _; omega
          have hlen9 : as.length = a2 := by rw [exs] at e2; simpa using e2
          have hpre : PreS s H (va_Pc (as.map (cv adr)) (wC lay nw D adr cA b X S)) (as.map (cv adr)) := ⟨wC_blind hT, fun U hU hW => ⟨rfl, WCU hU hW⟩⟩
          have est : st.map (cv adr) = (as.map (cv adr)).reverse ++ st'.map (cv adr) := by rw [e1, exs]; simp
          have hrun : ∀ r', C a1 as S = some r' → va_Run p l e R s m args below meth c H locs cells slots 0 0 (F0 m pc sl (st.map (cv adr))) (st'.map (cv adr)) (Qr lay nw D adr cA b X r' (as.map (cv adr)).toArray) (A1 lay adr) := by
            intro r' hr'
            rcases k2 with k2 | k2
            · have hGG : GoodIn WS (va_wsS (mN mi).cls i (mN a1) (wsG WS mN mB mL mR a1)) := by
                intro w hw
                have hw' : w ∈ WS := by
                  simp only [va_wsS, wsG, List.cons_append, List.nil_append, List.mem_cons] at hw
                  rcases hw with rfl | rfl | rfl | rfl | hw
                  · exact hT.2.2.2.1 _ (wdAt_spec k2) rfl
                  · exact w71
                  · exact w2
                  · exact w1
                  · exact hw
                exact ⟨hw', good_of_word (hT.2.2.1 w hw')⟩
              exact va_runS (Ts := WS) ⟨hx, hb, hml, hown, hts⟩ (hC a1 _ S r' k3.1 k3.2 hr') (va_cwS a2 hts hGG rfl rfl rfl ⟨w3.1, w3.2, k5⟩ hroom) hpre rfl (by rw [List.length_map]; exact hlen9) hl.1 est (lv_room (by rw [catS_map]; exact hz)) hd ⟨hcl, hsl⟩
            · have hnn := hnw _ (hT.1 _ (wdAt_spec k2) ⟨_, _, _, _, rfl⟩)
              exact va_runSN (Ts := WS) ⟨hx, hb, hml, hown, hts⟩ (hC a1 _ S r' k3.1 k3.2 hr') ⟨va_cnB a2 hts hG0 rfl rfl rfl hnn (hts _ w2) ⟨w3.1, w3.2, k5⟩ hroom, hts _ w71, trivial⟩ hpre rfl (by rw [List.length_map]; exact hlen9) hl.1 est (lv_room (by rw [catS_map]; exact hz)) hd ⟨hcl, hsl⟩
          cases hkd : Nat.beq (inf a1).1 0 with
          | true =>
            rw [hkd] at h2
            obtain ⟨S', h5, h6⟩ := cV_inv h2
            refine call_go (v := none) (hrun _ h5) hS A1A0 A1A0 (fun t H1 locs1 e9 hB hS1 => ?_)
            have hP1 := hB.1
            rw [e9] at hP1
            have g := gs _ _ _ _ h6 H1 locs1 sl hP1 hS1 hl
            rw [hnx] at g
            exact g
          | false =>
            rw [hkd] at h2
            obtain ⟨x, S', h5, h6⟩ := cI_inv h2
            refine call_go (v := some (.int x)) (hrun _ h5) hS A1A0 A1A0 (fun t H1 locs1 e9 hB hS1 => ?_)
            have hP1 := hB.1
            rw [e9] at hP1
            have g := gs _ _ _ _ h6 H1 locs1 sl hP1 hS1 hl
            rw [hnx] at g
            exact g
        · split at h
          · next e9 =>
            simp only [e9] at k2
            split at h
            · split at h
              · next hpq =>
                obtain ⟨rfl, rfl⟩ := hpq
                obtain ⟨n1, h1, h2, h3, h4, h5⟩ := cpyA_inv h
                simp only [Bool.and_eq_true, decide_eq_true_eq] at k2
                subst h3
                have hnn : (Int32.ofNat n1).toNatClampNeg = n1 := nI_clamp (by omega)
                refine va_copyi hx hb (hml.trans hl.1.symm) hown (hwd _ (wdAt_spec k2.1) rfl) (hts _ hT.2.2.2.2.2.2.1.1) (hts _ hT.2.2.2.2.2.2.1.2.1) (hts _ hT.2.2.2.2.2.2.1.2.2) hKK hP (hDD S) hS _ _ 0 0 (wld_arr h1) (wld_arr h2) rfl rfl rfl (by decide) (by decide) (nI_pos (by omega)) (by rw [hnn]; show 0 + n1 ≤ n1; omega) (by rw [hnn]; show 0 + n1 ≤ n1; omega) (fun i _ => rfl) (by omega) (by show 0 + (nativeFrameWords "java/lang/System" "arraycopy" 5 + 11) ≤ _; rw [show nativeFrameWords "java/lang/System" "arraycopy" 5 = 7 by decide]; omega) hd (fun H1 locs1 hP1 _ hS1 => ?_)
                rw [hnn] at hP1
                have hP2 : va_P D vwCl ((wld lay adr cA S).set _ (_, .inl (cA, n1, .inl (va_cpy (S _) (S _) 0 0 n1)))) H1 := hP1
                rw [wld_cpy h2] at hP2
                have g := gs _ _ _ _ h5 H1 locs1 sl hP2 hS1 hl
                rw [hnx] at g
                exact g
              · cases h
            · cases h
          · obtain ⟨x, y, st', rfl, h1, h2⟩ := mmx_inv h
            rename_i e9
            simp only [e9] at k2
            simp only [Bool.and_eq_true, decide_eq_true_eq] at k2
            obtain ⟨m1, m2, m3, m4, m5⟩ := hT.2.2.2.2.2.2.2
            have g := gs _ _ _ _ h2 H locs sl hP hS hl
            rw [hnx] at g
            exact va_mmin hx hb (hml.trans hl.1.symm) hown (hwd _ (wdAt_spec k2.1) rfl) (hts _ m1) (hts _ m3) (hts _ m4) (by omega) (by rw [catS_map]; omega) hcl hsl hd g
          · obtain ⟨x, y, st', rfl, h1, h2⟩ := mmx_inv h
            simp only [Bool.and_eq_true, decide_eq_true_eq] at k2
            obtain ⟨m1, m2, m3, m4, m5⟩ := hT.2.2.2.2.2.2.2
            have g := gs _ _ _ _ h2 H locs sl hP hS hl
            rw [hnx] at g
            exact va_mmax hx hb (hml.trans hl.1.symm) hown (hwd _ (wdAt_spec k2.1) rfl) (hts _ m2) (hts _ m3) (hts _ m5) (by omega) (by rw [catS_map]; omega) hcl hsl hd g
      | ireturn =>
        simp only [chkE, Bool.and_eq_true, decide_eq_true_eq] at hck
        dsimp only [stepI] at h
        obtain ⟨k1, k2⟩ := hck
        obtain ⟨hd, hnx⟩ := dec1_spec k1
        split at h
        · next v =>
          cases hb1 : Nat.beq a1 0 with
          | true =>
            rw [hb1] at h k2
            simp only [cond, decide_eq_true_eq] at h k2
            cases h
            exact hret pc sl v H locs hd ⟨.int, k2, rfl⟩ rfl hP hS
          | false =>
            rw [hb1] at h k2
            simp only [cond, decide_eq_true_eq] at h k2
            obtain ⟨hzz, h⟩ := bz_inv h
            cases h
            exact hret pc sl v H locs hd ⟨.boolean, k2, (bz_fits hzz).1⟩ rfl hP hS
        · cases h
      | return_ =>
        simp only [chkE, Bool.and_eq_true, decide_eq_true_eq] at hck
        dsimp only [stepI] at h
        obtain ⟨k1, k2⟩ := hck
        obtain ⟨hd, hnx⟩ := dec1_spec k1
        split at h
        · cases h
          exact hretv pc sl H locs hd k2 rfl hP hS
        · cases h
      | _ => cases h
end FRM
end
section
/-! every run of the small machine is a contract -/
theorem lg_cat (adr : Nat → Nat) : ∀ as : List Value, (lg_sl (as.map (cv adr))).length = catS as := by
  intro as
  induction as with
  | nil => rfl
  | cons v l ih =>
    have h : lg_sl ((v :: l).map (cv adr)) = (if (cv adr v).category = 2 then [Slot.val (cv adr v), .second] else [.val (cv adr v)]) ++ lg_sl (l.map (cv adr)) := by simp [lg_sl]
    rw [h, List.length_append, ih]
    cases v <;> rfl
theorem cvL_pad0 (adr : Nat → Nat) : ∀ (n i : Nat), cvL adr i (padL n []) = [] := by
  intro n
  induction n with
  | zero => intro i; rfl
  | succ n ih => intro i; exact ih (i + 1)
theorem cvL_ent (adr : Nat → Nat) : ∀ (as : List Value) (n i : Nat) (q : Nat × Value), q ∈ cvL adr i (padL n (entL as)) → q ∈ lv_args i (as.map (cv adr)) := by
  intro as
  induction as with
  | nil =>
    intro n i q h
    have h' : q ∈ cvL adr i (padL n []) := h
    rw [cvL_pad0] at h'
    cases h'
  | cons v l ih =>
    have two : ∀ (u : Value) (n i : Nat) (q : Nat × Value), (cv adr u).category = 2 → q ∈ cvL adr i (padL n (some u :: none :: entL l)) → q ∈ lv_args i ((u :: l).map (cv adr)) := by
      intro u n i q hc h
      show q ∈ (i, cv adr u) :: lv_args (if (cv adr u).category = 2 then i + 2 else i + 1) (l.map (cv adr))
      rw [if_pos hc]
      cases n with
      | zero => cases h
      | succ n =>
        rcases List.mem_cons.mp h with h | h
        · rw [h]; exact List.mem_cons_self
        · cases n with
          | zero => cases h
          | succ n => exact List.mem_cons_of_mem _ (ih n (i + 2) q h)
    have one : ∀ (u : Value) (n i : Nat) (q : Nat × Value), ¬ (cv adr u).category = 2 → q ∈ cvL adr i (padL n (some u :: entL l)) → q ∈ lv_args i ((u :: l).map (cv adr)) := by
      intro u n i q hc h
      show q ∈ (i, cv adr u) :: lv_args (if (cv adr u).category = 2 then i + 2 else i + 1) (l.map (cv adr))
      rw [if_neg hc]
      cases n with
      | zero => cases h
      | succ n =>
        rcases List.mem_cons.mp h with h | h
        · rw [h]; exact List.mem_cons_self
        · exact List.mem_cons_of_mem _ (ih n (i + 1) q h)
    intro n i q h
    cases v with
    | long x => exact two (.long x) n i q rfl h
    | double x => exact two (.double x) n i q rfl h
    | int x => exact one (.int x) n i q (fun z => by cases z) h
    | float x => exact one (.float x) n i q (fun z => by cases z) h
    | null => exact one .null n i q (fun z => by cases z) h
    | ref x => exact one (.ref x) n i q (fun z => by cases z) h
    | retAddr x => exact one (.retAddr x) n i q (fun z => by cases z) h
section MET
variable {lay : List sQ} {inf : Nat → Nat × Nat} {mL : Nat → Nat} {mN : Nat → MethodName} {mB : Nat → ByteArray} {mR : Nat → Option FieldType} {mH : Nat → Nat} {mV : Nat → Bool} {WT WS nw : List Cond} {D : va_G} {adr : Nat → Nat} {cA : ClassId} {b : Nat} {X : sX} {cod : Nat → Nat → Option sE} {top : Nat}
/-- a frame, given its callees' contracts -/
theorem run_sound {p : Program} {l : Launch} {e : Env} {R : Room} {s : State} {m : MethodId} {args : Array Value} {below : List Frame} {meth : Method} {c : Code} {cells slots : Nat} {Q : State → Prop} {A0 : Nat → Prop} {H0 : Heap} {mi : Nat}
    (hT : TabOK mR WT WS nw) (hM : ∀ k, mH k + 1 ≤ top → MOK inf mL mN mB mR mV WS k) (hcm : ∀ pc en, cod mi pc = some en → chkE WT mL mN mB mR mH mV mi pc en = true) (hmi : mH mi ≤ top)
    (F : FrmOK mL mN mB mH nw WS lay D adr cA b X p R s m args c cells slots A0 H0 mi) (r : Option Value × sS)
    (hret : ∀ (pc : Nat) (ls : Array Slot) (v : Int32) (H : Heap) (locs : List Loc), decode (mB mi) pc = .ok (.ireturn, 1) → (∃ ty, mR mi = some ty ∧ narrow ty (.int v) = .int v) → r.1 = some (.int v) → va_P D vwCl (wld lay adr cA r.2) H → va_S A0 H0 H locs → W p l e R s m args below meth c H locs cells slots Q (F0 m pc ls [.int v]))
    (hretv : ∀ (pc : Nat) (ls : Array Slot) (H : Heap) (locs : List Loc), decode (mB mi) pc = .ok (.return_, 1) → mR mi = none → r.1 = none → va_P D vwCl (wld lay adr cA r.2) H → va_S A0 H0 H locs → W p l e R s m args below meth c H locs cells slots Q (F0 m pc ls []))
    (N : Nat) (hmet : ∀ k, k < N → ∀ mi' as S r', mH mi' + 1 ≤ top → catS as ≤ mL mi' → runN lay inf mL cod X k mi' 0 (padL (mL mi') (entL as)) [] S = some r' → MetS lay nw WS mL mN mB mR mH D adr cA b X l mi' as S r') :
    ∀ (n : Nat), n ≤ N → ∀ (pc : Nat) (ls : sL) (st : sK) (S : sS), runN lay inf mL cod X n mi pc ls st S = some r → ∀ (H : Heap) (locs : List Loc) (sl : Array Slot), va_P D vwCl (wld lay adr cA S) H → va_S A0 H0 H locs → lv_has sl (mL mi) (cvL adr 0 ls) → W p l e R s m args below meth c H locs cells slots Q (F0 m pc sl (st.map (cv adr))) := by
  intro n
  induction n with
  | zero => intro _ pc ls st S h; cases h
  | succ n ih =>
    intro hn pc ls st S h
    refine seg_sound hT (fun k _ hk => hM k (by omega)) F hcm r hret hretv (fun mi' as S r' h1 h2 h3 => ?_) (fun pc ls st S h => ih (by omega) pc ls st S h) 4000 pc ls st S h
    cases hb : Nat.ble (catS as) (mL mi') with
    | true =>
      rw [hb] at h3
      exact hmet n (by omega) mi' as S r' (by omega) (Nat.le_of_ble_eq_true hb) h3
    | false => rw [hb] at h3; cases h3
theorem met_all (hT : TabOK mR WT WS nw) (hM : ∀ k, mH k + 1 ≤ top → MOK inf mL mN mB mR mV WS k) (hcod : ∀ k, mH k + 1 ≤ top → ∀ pc en, cod k pc = some en → chkE WT mL mN mB mR mH mV k pc en = true)
    (hsc : adr scrR = b) (hbA : ¬ A1 lay adr b) (hinj : ∀ i j, i < lay.length → j < lay.length → adr i = adr j → i = j) (l : Launch) :
    ∀ (N : Nat) (mi : Nat) (as : List Value) (S : sS) (r : Option Value × sS), mH mi + 1 ≤ top → catS as ≤ mL mi → runN lay inf mL cod X N mi 0 (padL (mL mi) (entL as)) [] S = some r → MetS lay nw WS mL mN mB mR mH D adr cA b X l mi as S r := by
  intro N
  induction N using Nat.strongRecOn with
  | ind N ih =>
    intro mi as S r hmi hcat h
    obtain ⟨w1, w2, w3, w4, w5, w6, w7⟩ := hM mi hmi
    refine Met.ofW (cc := mB mi) (maxL := mL mi) (ret := mR mi) w4 rfl ?_
    intro p e s m args below meth c s₁ B hml hv
    obtain ⟨rfl, hP, hK, hX, hbl, hnw⟩ := hv
    have hx := B.exec
    have hb := B.bytes
    have hr := B.returns
    have hts := atoms_spec (ws := wsG WS mN mB mL mR mi) B.pre
    have hown : s.vm.findClass (mN mi).cls = some m.cls := findClass_of_methodNamed B.named
    have hlocks := B.notSynchronized
    have F : FrmOK mL mN mB mH nw WS lay D adr cA b X p (headSpec (wsG WS mN mB mL mR mi) (rmH mH mi)).room s m (as.map (cv adr)).toArray c 0 0 (A1 lay adr) s.heap mi :=
      ⟨⟨hx, hb, hml, hown, fun w hw => hts w (List.mem_cons_of_mem _ hw)⟩, hK, hX, hbl, hbA, hsc, hnw, ⟨Nat.le_refl _, Nat.le_refl _⟩, ⟨Nat.le_refl _, Nat.le_refl _⟩, fun k hk => ⟨k, hk, rfl⟩, hinj⟩
    have hlv := lv_entry (as.map (cv adr)) (n := mL mi) (by rw [lg_cat]; exact hcat)
    rw [lg_entry_eq]
    generalize (lg_sl (as.map (cv adr)) ++ List.replicate (mL mi - (lg_sl (as.map (cv adr))).length) Slot.unset).toArray = ls at hlv ⊢
    have fin : ∀ (oc : Outcome) (H : Heap) (t : State), oc = .returned r.1 → t.heap = H → s.WarmedH t.vm → va_P D vwCl (wld lay adr cA r.2) H → va_F (A1 lay adr) s t → Qr lay nw D adr cA b X r (as.map (cv adr)).toArray s oc t := by
      intro oc H t ho ht hW hPt hF
      refine ⟨⟨ho, by rw [ht]; exact hPt, va_K.moved hW.alike hK, va_X.moved hW.alike (hX.kept (hF.2 b hbl hbA)), Nat.lt_of_lt_of_le hbl hF.1, fun w hw => ?_⟩, hF⟩
      obtain ⟨a, i, y, hh, rfl⟩ := hT.2.1 w hw
      exact va_Nw.warmM hW (hnw _ hw)
    refine run_sound hT hM (hcod mi hmi) (by omega) F r ?_ ?_ N (fun k hk mi' as S r' h1 h2 h3 => ih k hk mi' as S r' h1 h2 h3) N (Nat.le_refl _) 0 _ [] S h s.heap [] ls hP va_S.rf (lv_mono hlv (fun q hq => cvL_ent adr as _ 0 q hq))
    · intro pc ls v H locs hd ⟨ty, h1, h2⟩ h3 hPH hSH
      exact W.zret hx hb (hr.trans h1) h2 (fun t ht hW => fin _ H t (by rw [h3]) ht hW hPH (hSH.F ht)) hSH.2.2 hd
    · intro pc ls H locs hd h1 h3 hPH hSH
      exact W.vret hx hb (hr.trans h1) (fun t ht hW => fin _ H t (by rw [h3]) ht hW hPH (hSH.F ht)) hSH.2.2 hd
end MET
end
