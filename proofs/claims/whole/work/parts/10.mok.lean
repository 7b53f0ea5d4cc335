-- the methods' words
def mOKb (k cp ip a b : Nat) : Bool := wdAt lw_tbl ip (.initialized (mNF k).cls) && decide ((mNF k).cls ≠ "java/lang/invoke/MethodHandle") && decide ((mNF k).cls ≠ "java/lang/invoke/VarHandle") && plainName (mNF k).cls && (decide ((infF k).1 = 0) == decide (mRF k = none)) &&
  (bif mVF k then wdAt lw_tbl a (.instanceMethod (mNF k)) && wdAt lw_tbl b (.selects (mNF k).cls (mNF k) (mNF k)) && (match vwCl[(infF k).2]? with | some (C, _, _) => decide (C = (mNF k).cls) | none => false) else wdAt lw_tbl a (.static (mNF k)))
theorem gw_code {y : MethodName} {b : ByteArray} {n : Nat} {r : Option FieldType} : goodWord (.code y b n r) = true := rfl
theorem inWS {w : Cond} (h : w ∈ lw_tbl) (h2 : goodWord w = true) : w ∈ WSt := List.mem_filter.mpr ⟨h, h2⟩
theorem MOK_of {k cp ip a b : Nat} (hc : lw_tbl[cp]? = some (.code (mNF k) (mBF k) (mLF k) (mRF k))) (h : mOKb k cp ip a b = true) : MOK infF mLF mNF mBF mRF mVF WSt k := by
  simp only [mOKb, Bool.and_eq_true, decide_eq_true_eq, beq_iff_eq] at h
  obtain ⟨⟨⟨⟨⟨h1, h2⟩, h3⟩, h4⟩, h5⟩, h6⟩ := h
  refine ⟨inWS (List.mem_of_getElem? hc) rfl, inWS (wdAt_spec h1) rfl, ⟨h2, h3⟩, h4, ?_, fun hv => ?_, fun hv => ?_⟩
  · have := h5
    constructor
    · intro q
      rw [decide_eq_true q] at this
      exact of_decide_eq_true this.symm
    · intro q
      rw [decide_eq_true q] at this
      exact of_decide_eq_true this
  · rw [hv] at h6
    simp only [cond, Bool.and_eq_true] at h6
    obtain ⟨⟨g1, g2⟩, g3⟩ := h6
    refine ⟨inWS (wdAt_spec g1) rfl, inWS (wdAt_spec g2) rfl, ?_⟩
    split at g3
    · next C T N hq =>
      have := of_decide_eq_true g3
      subst this
      exact ⟨T, N, hq⟩
    · cases g3
  · rw [hv] at h6
    exact inWS (wdAt_spec h6) rfl
theorem mk_0 : MOK infF mLF mNF mBF mRF mVF WSt 0 := MOK_of (cp := 981) (ip := 86) (a := 979) (b := 980) (by decide +kernel) (by decide +kernel)
theorem mk_1 : MOK infF mLF mNF mBF mRF mVF WSt 1 := MOK_of (cp := 362) (ip := 86) (a := 360) (b := 361) (by decide +kernel) (by decide +kernel)
theorem mk_2 : MOK infF mLF mNF mBF mRF mVF WSt 2 := MOK_of (cp := 366) (ip := 86) (a := 364) (b := 365) (by decide +kernel) (by decide +kernel)
theorem mk_3 : MOK infF mLF mNF mBF mRF mVF WSt 3 := MOK_of (cp := 375) (ip := 86) (a := 373) (b := 374) (by decide +kernel) (by decide +kernel)
theorem mk_4 : MOK infF mLF mNF mBF mRF mVF WSt 4 := MOK_of (cp := 379) (ip := 86) (a := 378) (b := 1) (by decide +kernel) (by decide +kernel)
theorem mk_5 : MOK infF mLF mNF mBF mRF mVF WSt 5 := MOK_of (cp := 387) (ip := 86) (a := 386) (b := 3) (by decide +kernel) (by decide +kernel)
theorem mk_6 : MOK infF mLF mNF mBF mRF mVF WSt 6 := MOK_of (cp := 420) (ip := 86) (a := 419) (b := 9) (by decide +kernel) (by decide +kernel)
theorem mk_7 : MOK infF mLF mNF mBF mRF mVF WSt 7 := MOK_of (cp := 448) (ip := 86) (a := 447) (b := 11) (by decide +kernel) (by decide +kernel)
theorem mk_8 : MOK infF mLF mNF mBF mRF mVF WSt 8 := MOK_of (cp := 471) (ip := 86) (a := 470) (b := 12) (by decide +kernel) (by decide +kernel)
theorem mk_9 : MOK infF mLF mNF mBF mRF mVF WSt 9 := MOK_of (cp := 399) (ip := 86) (a := 398) (b := 5) (by decide +kernel) (by decide +kernel)
theorem mk_10 : MOK infF mLF mNF mBF mRF mVF WSt 10 := MOK_of (cp := 383) (ip := 86) (a := 382) (b := 2) (by decide +kernel) (by decide +kernel)
theorem mk_11 : MOK infF mLF mNF mBF mRF mVF WSt 11 := MOK_of (cp := 395) (ip := 86) (a := 394) (b := 4) (by decide +kernel) (by decide +kernel)
theorem mk_12 : MOK infF mLF mNF mBF mRF mVF WSt 12 := MOK_of (cp := 411) (ip := 86) (a := 410) (b := 8) (by decide +kernel) (by decide +kernel)
theorem mk_13 : MOK infF mLF mNF mBF mRF mVF WSt 13 := MOK_of (cp := 439) (ip := 86) (a := 438) (b := 10) (by decide +kernel) (by decide +kernel)
theorem mk_14 : MOK infF mLF mNF mBF mRF mVF WSt 14 := MOK_of (cp := 407) (ip := 86) (a := 406) (b := 7) (by decide +kernel) (by decide +kernel)
theorem mk_15 : MOK infF mLF mNF mBF mRF mVF WSt 15 := MOK_of (cp := 403) (ip := 86) (a := 402) (b := 6) (by decide +kernel) (by decide +kernel)
theorem mk_16 : MOK infF mLF mNF mBF mRF mVF WSt 16 := MOK_of (cp := 962) (ip := 85) (a := 960) (b := 961) (by decide +kernel) (by decide +kernel)
theorem mk_17 : MOK infF mLF mNF mBF mRF mVF WSt 17 := MOK_of (cp := 432) (ip := 85) (a := 430) (b := 431) (by decide +kernel) (by decide +kernel)
theorem mk_18 : MOK infF mLF mNF mBF mRF mVF WSt 18 := MOK_of (cp := 543) (ip := 85) (a := 541) (b := 542) (by decide +kernel) (by decide +kernel)
theorem mk_19 : MOK infF mLF mNF mBF mRF mVF WSt 19 := MOK_of (cp := 977) (ip := 85) (a := 975) (b := 976) (by decide +kernel) (by decide +kernel)
theorem mk_20 : MOK infF mLF mNF mBF mRF mVF WSt 20 := MOK_of (cp := 479) (ip := 85) (a := 477) (b := 478) (by decide +kernel) (by decide +kernel)
theorem mk_21 : MOK infF mLF mNF mBF mRF mVF WSt 21 := MOK_of (cp := 522) (ip := 85) (a := 520) (b := 521) (by decide +kernel) (by decide +kernel)
theorem mk_22 : MOK infF mLF mNF mBF mRF mVF WSt 22 := MOK_of (cp := 391) (ip := 85) (a := 389) (b := 390) (by decide +kernel) (by decide +kernel)
theorem mk_23 : MOK infF mLF mNF mBF mRF mVF WSt 23 := MOK_of (cp := 424) (ip := 85) (a := 422) (b := 423) (by decide +kernel) (by decide +kernel)
theorem mk_24 : MOK infF mLF mNF mBF mRF mVF WSt 24 := MOK_of (cp := 452) (ip := 85) (a := 450) (b := 451) (by decide +kernel) (by decide +kernel)
theorem mk_25 : MOK infF mLF mNF mBF mRF mVF WSt 25 := MOK_of (cp := 512) (ip := 85) (a := 510) (b := 511) (by decide +kernel) (by decide +kernel)
theorem mk_26 : MOK infF mLF mNF mBF mRF mVF WSt 26 := MOK_of (cp := 428) (ip := 85) (a := 426) (b := 427) (by decide +kernel) (by decide +kernel)
theorem mk_27 : MOK infF mLF mNF mBF mRF mVF WSt 27 := MOK_of (cp := 415) (ip := 85) (a := 413) (b := 414) (by decide +kernel) (by decide +kernel)
theorem mk_28 : MOK infF mLF mNF mBF mRF mVF WSt 28 := MOK_of (cp := 475) (ip := 85) (a := 473) (b := 474) (by decide +kernel) (by decide +kernel)
theorem mk_29 : MOK infF mLF mNF mBF mRF mVF WSt 29 := MOK_of (cp := 443) (ip := 85) (a := 441) (b := 442) (by decide +kernel) (by decide +kernel)
theorem mk_30 : MOK infF mLF mNF mBF mRF mVF WSt 30 := MOK_of (cp := 547) (ip := 85) (a := 545) (b := 546) (by decide +kernel) (by decide +kernel)
theorem mk_31 : MOK infF mLF mNF mBF mRF mVF WSt 31 := MOK_of (cp := 456) (ip := 85) (a := 454) (b := 455) (by decide +kernel) (by decide +kernel)
theorem mk_32 : MOK infF mLF mNF mBF mRF mVF WSt 32 := MOK_of (cp := 466) (ip := 85) (a := 464) (b := 465) (by decide +kernel) (by decide +kernel)
theorem mk_33 : MOK infF mLF mNF mBF mRF mVF WSt 33 := MOK_of (cp := 566) (ip := 85) (a := 564) (b := 565) (by decide +kernel) (by decide +kernel)
theorem mk_34 : MOK infF mLF mNF mBF mRF mVF WSt 34 := MOK_of (cp := 706) (ip := 85) (a := 704) (b := 705) (by decide +kernel) (by decide +kernel)
theorem mk_35 : MOK infF mLF mNF mBF mRF mVF WSt 35 := MOK_of (cp := 710) (ip := 85) (a := 708) (b := 709) (by decide +kernel) (by decide +kernel)
theorem mk_36 : MOK infF mLF mNF mBF mRF mVF WSt 36 := MOK_of (cp := 926) (ip := 85) (a := 924) (b := 925) (by decide +kernel) (by decide +kernel)
theorem mk_37 : MOK infF mLF mNF mBF mRF mVF WSt 37 := MOK_of (cp := 526) (ip := 85) (a := 524) (b := 525) (by decide +kernel) (by decide +kernel)
theorem mk_38 : MOK infF mLF mNF mBF mRF mVF WSt 38 := MOK_of (cp := 531) (ip := 85) (a := 529) (b := 530) (by decide +kernel) (by decide +kernel)
theorem mk_39 : MOK infF mLF mNF mBF mRF mVF WSt 39 := MOK_of (cp := 535) (ip := 85) (a := 533) (b := 534) (by decide +kernel) (by decide +kernel)
theorem mk_40 : MOK infF mLF mNF mBF mRF mVF WSt 40 := MOK_of (cp := 985) (ip := 85) (a := 983) (b := 984) (by decide +kernel) (by decide +kernel)
theorem mk_41 : MOK infF mLF mNF mBF mRF mVF WSt 41 := MOK_of (cp := 790) (ip := 85) (a := 788) (b := 789) (by decide +kernel) (by decide +kernel)
theorem mk_42 : MOK infF mLF mNF mBF mRF mVF WSt 42 := MOK_of (cp := 794) (ip := 85) (a := 792) (b := 793) (by decide +kernel) (by decide +kernel)
theorem mk_43 : MOK infF mLF mNF mBF mRF mVF WSt 43 := MOK_of (cp := 798) (ip := 85) (a := 796) (b := 797) (by decide +kernel) (by decide +kernel)
theorem mk_44 : MOK infF mLF mNF mBF mRF mVF WSt 44 := MOK_of (cp := 581) (ip := 94) (a := 580) (b := 0) (by decide +kernel) (by decide +kernel)
theorem mk_45 : MOK infF mLF mNF mBF mRF mVF WSt 45 := MOK_of (cp := 584) (ip := 94) (a := 583) (b := 0) (by decide +kernel) (by decide +kernel)
theorem mk_46 : MOK infF mLF mNF mBF mRF mVF WSt 46 := MOK_of (cp := 882) (ip := 94) (a := 881) (b := 0) (by decide +kernel) (by decide +kernel)
theorem mk_47 : MOK infF mLF mNF mBF mRF mVF WSt 47 := MOK_of (cp := 578) (ip := 94) (a := 577) (b := 0) (by decide +kernel) (by decide +kernel)
theorem mk_48 : MOK infF mLF mNF mBF mRF mVF WSt 48 := MOK_of (cp := 645) (ip := 94) (a := 644) (b := 0) (by decide +kernel) (by decide +kernel)
theorem mk_49 : MOK infF mLF mNF mBF mRF mVF WSt 49 := MOK_of (cp := 655) (ip := 94) (a := 654) (b := 0) (by decide +kernel) (by decide +kernel)
theorem mk_50 : MOK infF mLF mNF mBF mRF mVF WSt 50 := MOK_of (cp := 658) (ip := 94) (a := 657) (b := 0) (by decide +kernel) (by decide +kernel)
theorem mk_51 : MOK infF mLF mNF mBF mRF mVF WSt 51 := MOK_of (cp := 766) (ip := 91) (a := 764) (b := 765) (by decide +kernel) (by decide +kernel)
theorem mk_52 : MOK infF mLF mNF mBF mRF mVF WSt 52 := MOK_of (cp := 770) (ip := 91) (a := 769) (b := 25) (by decide +kernel) (by decide +kernel)
theorem mk_53 : MOK infF mLF mNF mBF mRF mVF WSt 53 := MOK_of (cp := 778) (ip := 91) (a := 777) (b := 26) (by decide +kernel) (by decide +kernel)
theorem mk_54 : MOK infF mLF mNF mBF mRF mVF WSt 54 := MOK_of (cp := 870) (ip := 90) (a := 868) (b := 869) (by decide +kernel) (by decide +kernel)
theorem mk_55 : MOK infF mLF mNF mBF mRF mVF WSt 55 := MOK_of (cp := 898) (ip := 90) (a := 896) (b := 897) (by decide +kernel) (by decide +kernel)
theorem mk_56 : MOK infF mLF mNF mBF mRF mVF WSt 56 := MOK_of (cp := 902) (ip := 90) (a := 900) (b := 901) (by decide +kernel) (by decide +kernel)
theorem mk_57 : MOK infF mLF mNF mBF mRF mVF WSt 57 := MOK_of (cp := 910) (ip := 90) (a := 908) (b := 909) (by decide +kernel) (by decide +kernel)
theorem mk_58 : MOK infF mLF mNF mBF mRF mVF WSt 58 := MOK_of (cp := 914) (ip := 90) (a := 912) (b := 913) (by decide +kernel) (by decide +kernel)
theorem mk_59 : MOK infF mLF mNF mBF mRF mVF WSt 59 := MOK_of (cp := 906) (ip := 90) (a := 905) (b := 32) (by decide +kernel) (by decide +kernel)
theorem mk_60 : MOK infF mLF mNF mBF mRF mVF WSt 60 := MOK_of (cp := 887) (ip := 90) (a := 886) (b := 30) (by decide +kernel) (by decide +kernel)
theorem mk_61 : MOK infF mLF mNF mBF mRF mVF WSt 61 := MOK_of (cp := 891) (ip := 90) (a := 890) (b := 31) (by decide +kernel) (by decide +kernel)
theorem mk_62 : MOK infF mLF mNF mBF mRF mVF WSt 62 := MOK_of (cp := 491) (ip := 88) (a := 489) (b := 490) (by decide +kernel) (by decide +kernel)
theorem mk_63 : MOK infF mLF mNF mBF mRF mVF WSt 63 := MOK_of (cp := 558) (ip := 88) (a := 556) (b := 557) (by decide +kernel) (by decide +kernel)
theorem mk_64 : MOK infF mLF mNF mBF mRF mVF WSt 64 := MOK_of (cp := 720) (ip := 88) (a := 718) (b := 719) (by decide +kernel) (by decide +kernel)
theorem mk_65 : MOK infF mLF mNF mBF mRF mVF WSt 65 := MOK_of (cp := 724) (ip := 88) (a := 722) (b := 723) (by decide +kernel) (by decide +kernel)
theorem mk_66 : MOK infF mLF mNF mBF mRF mVF WSt 66 := MOK_of (cp := 732) (ip := 88) (a := 730) (b := 731) (by decide +kernel) (by decide +kernel)
theorem mk_67 : MOK infF mLF mNF mBF mRF mVF WSt 67 := MOK_of (cp := 741) (ip := 88) (a := 739) (b := 740) (by decide +kernel) (by decide +kernel)
theorem mk_68 : MOK infF mLF mNF mBF mRF mVF WSt 68 := MOK_of (cp := 861) (ip := 88) (a := 859) (b := 860) (by decide +kernel) (by decide +kernel)
theorem mk_69 : MOK infF mLF mNF mBF mRF mVF WSt 69 := MOK_of (cp := 749) (ip := 88) (a := 747) (b := 748) (by decide +kernel) (by decide +kernel)
theorem mk_70 : MOK infF mLF mNF mBF mRF mVF WSt 70 := MOK_of (cp := 753) (ip := 88) (a := 752) (b := 23) (by decide +kernel) (by decide +kernel)
theorem mk_71 : MOK infF mLF mNF mBF mRF mVF WSt 71 := MOK_of (cp := 758) (ip := 88) (a := 757) (b := 24) (by decide +kernel) (by decide +kernel)
theorem mk_72 : MOK infF mLF mNF mBF mRF mVF WSt 72 := MOK_of (cp := 698) (ip := 88) (a := 696) (b := 697) (by decide +kernel) (by decide +kernel)
theorem mk_73 : MOK infF mLF mNF mBF mRF mVF WSt 73 := MOK_of (cp := 702) (ip := 88) (a := 701) (b := 21) (by decide +kernel) (by decide +kernel)
theorem mk_74 : MOK infF mLF mNF mBF mRF mVF WSt 74 := MOK_of (cp := 716) (ip := 88) (a := 715) (b := 22) (by decide +kernel) (by decide +kernel)
theorem mk_75 : MOK infF mLF mNF mBF mRF mVF WSt 75 := MOK_of (cp := 689) (ip := 88) (a := 687) (b := 688) (by decide +kernel) (by decide +kernel)
theorem mk_76 : MOK infF mLF mNF mBF mRF mVF WSt 76 := MOK_of (cp := 674) (ip := 88) (a := 672) (b := 673) (by decide +kernel) (by decide +kernel)
theorem mk_77 : MOK infF mLF mNF mBF mRF mVF WSt 77 := MOK_of (cp := 678) (ip := 88) (a := 677) (b := 0) (by decide +kernel) (by decide +kernel)
theorem mk_78 : MOK infF mLF mNF mBF mRF mVF WSt 78 := MOK_of (cp := 678) (ip := 88) (a := 677) (b := 0) (by decide +kernel) (by decide +kernel)
theorem mk_79 : MOK infF mLF mNF mBF mRF mVF WSt 79 := MOK_of (cp := 678) (ip := 88) (a := 677) (b := 0) (by decide +kernel) (by decide +kernel)
theorem mk_80 : MOK infF mLF mNF mBF mRF mVF WSt 80 := MOK_of (cp := 678) (ip := 88) (a := 677) (b := 0) (by decide +kernel) (by decide +kernel)
theorem mk_81 : MOK infF mLF mNF mBF mRF mVF WSt 81 := MOK_of (cp := 678) (ip := 88) (a := 677) (b := 0) (by decide +kernel) (by decide +kernel)
theorem mk_82 : MOK infF mLF mNF mBF mRF mVF WSt 82 := MOK_of (cp := 678) (ip := 88) (a := 677) (b := 0) (by decide +kernel) (by decide +kernel)
theorem mk_83 : MOK infF mLF mNF mBF mRF mVF WSt 83 := MOK_of (cp := 678) (ip := 88) (a := 677) (b := 0) (by decide +kernel) (by decide +kernel)
theorem mk_84 : MOK infF mLF mNF mBF mRF mVF WSt 84 := MOK_of (cp := 678) (ip := 88) (a := 677) (b := 0) (by decide +kernel) (by decide +kernel)
theorem mk_85 : MOK infF mLF mNF mBF mRF mVF WSt 85 := MOK_of (cp := 678) (ip := 88) (a := 677) (b := 0) (by decide +kernel) (by decide +kernel)
theorem mk_86 : MOK infF mLF mNF mBF mRF mVF WSt 86 := MOK_of (cp := 682) (ip := 88) (a := 681) (b := 20) (by decide +kernel) (by decide +kernel)
theorem mk_87 : MOK infF mLF mNF mBF mRF mVF WSt 87 := MOK_of (cp := 827) (ip := 89) (a := 825) (b := 826) (by decide +kernel) (by decide +kernel)
theorem mk_88 : MOK infF mLF mNF mBF mRF mVF WSt 88 := MOK_of (cp := 806) (ip := 89) (a := 804) (b := 805) (by decide +kernel) (by decide +kernel)
theorem mk_89 : MOK infF mLF mNF mBF mRF mVF WSt 89 := MOK_of (cp := 838) (ip := 89) (a := 836) (b := 837) (by decide +kernel) (by decide +kernel)
theorem mk_90 : MOK infF mLF mNF mBF mRF mVF WSt 90 := MOK_of (cp := 842) (ip := 89) (a := 841) (b := 28) (by decide +kernel) (by decide +kernel)
theorem mk_91 : MOK infF mLF mNF mBF mRF mVF WSt 91 := MOK_of (cp := 812) (ip := 89) (a := 811) (b := 27) (by decide +kernel) (by decide +kernel)
theorem mk_92 : MOK infF mLF mNF mBF mRF mVF WSt 92 := MOK_of (cp := 818) (ip := 89) (a := 817) (b := 0) (by decide +kernel) (by decide +kernel)
theorem mk_93 : MOK infF mLF mNF mBF mRF mVF WSt 93 := MOK_of (cp := 487) (ip := 87) (a := 485) (b := 486) (by decide +kernel) (by decide +kernel)
theorem mk_94 : MOK infF mLF mNF mBF mRF mVF WSt 94 := MOK_of (cp := 597) (ip := 87) (a := 595) (b := 596) (by decide +kernel) (by decide +kernel)
theorem mk_95 : MOK infF mLF mNF mBF mRF mVF WSt 95 := MOK_of (cp := 620) (ip := 87) (a := 618) (b := 619) (by decide +kernel) (by decide +kernel)
theorem mk_96 : MOK infF mLF mNF mBF mRF mVF WSt 96 := MOK_of (cp := 624) (ip := 87) (a := 622) (b := 623) (by decide +kernel) (by decide +kernel)
theorem mk_97 : MOK infF mLF mNF mBF mRF mVF WSt 97 := MOK_of (cp := 616) (ip := 87) (a := 614) (b := 615) (by decide +kernel) (by decide +kernel)
theorem mk_98 : MOK infF mLF mNF mBF mRF mVF WSt 98 := MOK_of (cp := 634) (ip := 87) (a := 632) (b := 633) (by decide +kernel) (by decide +kernel)
theorem mk_99 : MOK infF mLF mNF mBF mRF mVF WSt 99 := MOK_of (cp := 694) (ip := 87) (a := 692) (b := 693) (by decide +kernel) (by decide +kernel)
theorem mk_100 : MOK infF mLF mNF mBF mRF mVF WSt 100 := MOK_of (cp := 876) (ip := 87) (a := 874) (b := 875) (by decide +kernel) (by decide +kernel)
theorem mk_101 : MOK infF mLF mNF mBF mRF mVF WSt 101 := MOK_of (cp := 602) (ip := 87) (a := 601) (b := 15) (by decide +kernel) (by decide +kernel)
theorem mk_102 : MOK infF mLF mNF mBF mRF mVF WSt 102 := MOK_of (cp := 354) (ip := 84) (a := 352) (b := 353) (by decide +kernel) (by decide +kernel)
theorem mk_103 : MOK infF mLF mNF mBF mRF mVF WSt 103 := MOK_of (cp := 371) (ip := 84) (a := 369) (b := 370) (by decide +kernel) (by decide +kernel)
theorem mk_104 : MOK infF mLF mNF mBF mRF mVF WSt 104 := MOK_of (cp := 495) (ip := 84) (a := 493) (b := 494) (by decide +kernel) (by decide +kernel)
theorem mk_105 : MOK infF mLF mNF mBF mRF mVF WSt 105 := MOK_of (cp := 501) (ip := 84) (a := 499) (b := 500) (by decide +kernel) (by decide +kernel)
theorem mk_106 : MOK infF mLF mNF mBF mRF mVF WSt 106 := MOK_of (cp := 507) (ip := 84) (a := 505) (b := 506) (by decide +kernel) (by decide +kernel)
theorem mk_107 : MOK infF mLF mNF mBF mRF mVF WSt 107 := MOK_of (cp := 518) (ip := 84) (a := 516) (b := 517) (by decide +kernel) (by decide +kernel)
theorem mk_108 : MOK infF mLF mNF mBF mRF mVF WSt 108 := MOK_of (cp := 539) (ip := 84) (a := 537) (b := 538) (by decide +kernel) (by decide +kernel)
theorem mk_109 : MOK infF mLF mNF mBF mRF mVF WSt 109 := MOK_of (cp := 551) (ip := 84) (a := 549) (b := 550) (by decide +kernel) (by decide +kernel)
theorem mk_110 : MOK infF mLF mNF mBF mRF mVF WSt 110 := MOK_of (cp := 562) (ip := 84) (a := 560) (b := 561) (by decide +kernel) (by decide +kernel)
theorem mk_111 : MOK infF mLF mNF mBF mRF mVF WSt 111 := MOK_of (cp := 570) (ip := 84) (a := 568) (b := 569) (by decide +kernel) (by decide +kernel)
theorem mk_112 : MOK infF mLF mNF mBF mRF mVF WSt 112 := MOK_of (cp := 575) (ip := 84) (a := 573) (b := 574) (by decide +kernel) (by decide +kernel)
theorem mk_113 : MOK infF mLF mNF mBF mRF mVF WSt 113 := MOK_of (cp := 588) (ip := 84) (a := 586) (b := 587) (by decide +kernel) (by decide +kernel)
theorem mk_114 : MOK infF mLF mNF mBF mRF mVF WSt 114 := MOK_of (cp := 638) (ip := 84) (a := 636) (b := 637) (by decide +kernel) (by decide +kernel)
theorem mk_115 : MOK infF mLF mNF mBF mRF mVF WSt 115 := MOK_of (cp := 652) (ip := 84) (a := 650) (b := 651) (by decide +kernel) (by decide +kernel)
theorem mk_116 : MOK infF mLF mNF mBF mRF mVF WSt 116 := MOK_of (cp := 662) (ip := 84) (a := 660) (b := 661) (by decide +kernel) (by decide +kernel)
theorem mk_117 : MOK infF mLF mNF mBF mRF mVF WSt 117 := MOK_of (cp := 728) (ip := 84) (a := 726) (b := 727) (by decide +kernel) (by decide +kernel)
theorem mk_118 : MOK infF mLF mNF mBF mRF mVF WSt 118 := MOK_of (cp := 737) (ip := 84) (a := 735) (b := 736) (by decide +kernel) (by decide +kernel)
theorem mk_119 : MOK infF mLF mNF mBF mRF mVF WSt 119 := MOK_of (cp := 745) (ip := 84) (a := 743) (b := 744) (by decide +kernel) (by decide +kernel)
theorem mk_120 : MOK infF mLF mNF mBF mRF mVF WSt 120 := MOK_of (cp := 762) (ip := 84) (a := 760) (b := 761) (by decide +kernel) (by decide +kernel)
theorem mk_121 : MOK infF mLF mNF mBF mRF mVF WSt 121 := MOK_of (cp := 786) (ip := 84) (a := 784) (b := 785) (by decide +kernel) (by decide +kernel)
theorem mk_122 : MOK infF mLF mNF mBF mRF mVF WSt 122 := MOK_of (cp := 802) (ip := 84) (a := 800) (b := 801) (by decide +kernel) (by decide +kernel)
theorem mk_123 : MOK infF mLF mNF mBF mRF mVF WSt 123 := MOK_of (cp := 823) (ip := 84) (a := 821) (b := 822) (by decide +kernel) (by decide +kernel)
theorem mk_124 : MOK infF mLF mNF mBF mRF mVF WSt 124 := MOK_of (cp := 834) (ip := 84) (a := 832) (b := 833) (by decide +kernel) (by decide +kernel)
theorem mk_125 : MOK infF mLF mNF mBF mRF mVF WSt 125 := MOK_of (cp := 848) (ip := 84) (a := 846) (b := 847) (by decide +kernel) (by decide +kernel)
theorem mk_126 : MOK infF mLF mNF mBF mRF mVF WSt 126 := MOK_of (cp := 857) (ip := 84) (a := 855) (b := 856) (by decide +kernel) (by decide +kernel)
theorem mk_127 : MOK infF mLF mNF mBF mRF mVF WSt 127 := MOK_of (cp := 866) (ip := 84) (a := 864) (b := 865) (by decide +kernel) (by decide +kernel)
theorem mk_128 : MOK infF mLF mNF mBF mRF mVF WSt 128 := MOK_of (cp := 918) (ip := 84) (a := 916) (b := 917) (by decide +kernel) (by decide +kernel)
theorem mk_129 : MOK infF mLF mNF mBF mRF mVF WSt 129 := MOK_of (cp := 930) (ip := 84) (a := 928) (b := 929) (by decide +kernel) (by decide +kernel)
theorem mk_130 : MOK infF mLF mNF mBF mRF mVF WSt 130 := MOK_of (cp := 942) (ip := 84) (a := 940) (b := 941) (by decide +kernel) (by decide +kernel)
theorem mk_131 : MOK infF mLF mNF mBF mRF mVF WSt 131 := MOK_of (cp := 954) (ip := 84) (a := 952) (b := 953) (by decide +kernel) (by decide +kernel)
theorem mk_132 : MOK infF mLF mNF mBF mRF mVF WSt 132 := MOK_of (cp := 958) (ip := 84) (a := 956) (b := 957) (by decide +kernel) (by decide +kernel)
theorem mk_133 : MOK infF mLF mNF mBF mRF mVF WSt 133 := MOK_of (cp := 969) (ip := 84) (a := 967) (b := 968) (by decide +kernel) (by decide +kernel)
theorem mk_134 : MOK infF mLF mNF mBF mRF mVF WSt 134 := MOK_of (cp := 973) (ip := 84) (a := 971) (b := 972) (by decide +kernel) (by decide +kernel)
theorem mk_135 : MOK infF mLF mNF mBF mRF mVF WSt 135 := MOK_of (cp := 358) (ip := 84) (a := 357) (b := 0) (by decide +kernel) (by decide +kernel)
theorem mk_136 : MOK infF mLF mNF mBF mRF mVF WSt 136 := MOK_of (cp := 483) (ip := 84) (a := 482) (b := 13) (by decide +kernel) (by decide +kernel)
theorem mk_137 : MOK infF mLF mNF mBF mRF mVF WSt 137 := MOK_of (cp := 670) (ip := 84) (a := 669) (b := 19) (by decide +kernel) (by decide +kernel)
theorem mk_138 : MOK infF mLF mNF mBF mRF mVF WSt 138 := MOK_of (cp := 666) (ip := 84) (a := 665) (b := 18) (by decide +kernel) (by decide +kernel)
theorem mk_139 : MOK infF mLF mNF mBF mRF mVF WSt 139 := MOK_of (cp := 592) (ip := 84) (a := 591) (b := 14) (by decide +kernel) (by decide +kernel)
theorem mk_140 : MOK infF mLF mNF mBF mRF mVF WSt 140 := MOK_of (cp := 630) (ip := 84) (a := 629) (b := 16) (by decide +kernel) (by decide +kernel)
theorem mk_141 : MOK infF mLF mNF mBF mRF mVF WSt 141 := MOK_of (cp := 642) (ip := 84) (a := 641) (b := 17) (by decide +kernel) (by decide +kernel)
theorem mk_142 : MOK infF mLF mNF mBF mRF mVF WSt 142 := MOK_of (cp := 852) (ip := 84) (a := 851) (b := 29) (by decide +kernel) (by decide +kernel)
theorem mk_143 : MOK infF mLF mNF mBF mRF mVF WSt 143 := MOK_of (cp := 922) (ip := 84) (a := 921) (b := 33) (by decide +kernel) (by decide +kernel)
theorem mk_144 : MOK infF mLF mNF mBF mRF mVF WSt 144 := MOK_of (cp := 934) (ip := 84) (a := 933) (b := 34) (by decide +kernel) (by decide +kernel)
theorem mk_145 : MOK infF mLF mNF mBF mRF mVF WSt 145 := MOK_of (cp := 938) (ip := 84) (a := 937) (b := 35) (by decide +kernel) (by decide +kernel)
theorem mk_146 : MOK infF mLF mNF mBF mRF mVF WSt 146 := MOK_of (cp := 946) (ip := 84) (a := 945) (b := 36) (by decide +kernel) (by decide +kernel)
theorem mk_147 : MOK infF mLF mNF mBF mRF mVF WSt 147 := MOK_of (cp := 950) (ip := 84) (a := 949) (b := 37) (by decide +kernel) (by decide +kernel)
theorem mk_148 : MOK infF mLF mNF mBF mRF mVF WSt 148 := MOK_of (cp := 435) (ip := 84) (a := 434) (b := 0) (by decide +kernel) (by decide +kernel)
theorem mk_149 : MOK infF mLF mNF mBF mRF mVF WSt 149 := MOK_of (cp := 1140) (ip := 92) (a := 1139) (b := 38) (by decide +kernel) (by decide +kernel)
theorem mk_150 : MOK infF mLF mNF mBF mRF mVF WSt 150 := MOK_of (cp := 1178) (ip := 92) (a := 1177) (b := 0) (by decide +kernel) (by decide +kernel)
theorem mk_151 : MOK infF mLF mNF mBF mRF mVF WSt 151 := MOK_of (cp := 1155) (ip := 92) (a := 1154) (b := 0) (by decide +kernel) (by decide +kernel)
theorem mk_152 : MOK infF mLF mNF mBF mRF mVF WSt 152 := MOK_of (cp := 1274) (ip := 92) (a := 1273) (b := 0) (by decide +kernel) (by decide +kernel)
theorem mk_153 : MOK infF mLF mNF mBF mRF mVF WSt 153 := MOK_of (cp := 1152) (ip := 92) (a := 1151) (b := 40) (by decide +kernel) (by decide +kernel)
theorem mk_154 : MOK infF mLF mNF mBF mRF mVF WSt 154 := MOK_of (cp := 1175) (ip := 92) (a := 1174) (b := 43) (by decide +kernel) (by decide +kernel)
theorem mk_155 : MOK infF mLF mNF mBF mRF mVF WSt 155 := MOK_of (cp := 1144) (ip := 92) (a := 1143) (b := 39) (by decide +kernel) (by decide +kernel)
theorem mk_156 : MOK infF mLF mNF mBF mRF mVF WSt 156 := MOK_of (cp := 1136) (ip := 92) (a := 1134) (b := 1135) (by decide +kernel) (by decide +kernel)
theorem mk_157 : MOK infF mLF mNF mBF mRF mVF WSt 157 := MOK_of (cp := 1148) (ip := 92) (a := 1146) (b := 1147) (by decide +kernel) (by decide +kernel)
theorem mk_158 : MOK infF mLF mNF mBF mRF mVF WSt 158 := MOK_of (cp := 1167) (ip := 92) (a := 1166) (b := 42) (by decide +kernel) (by decide +kernel)
theorem mk_159 : MOK infF mLF mNF mBF mRF mVF WSt 159 := MOK_of (cp := 1163) (ip := 92) (a := 1162) (b := 41) (by decide +kernel) (by decide +kernel)
theorem mk_160 : MOK infF mLF mNF mBF mRF mVF WSt 160 := MOK_of (cp := 1159) (ip := 92) (a := 1157) (b := 1158) (by decide +kernel) (by decide +kernel)
theorem mk_161 : MOK infF mLF mNF mBF mRF mVF WSt 161 := MOK_of (cp := 1171) (ip := 92) (a := 1169) (b := 1170) (by decide +kernel) (by decide +kernel)
theorem mk_162 : MOK infF mLF mNF mBF mRF mVF WSt 162 := MOK_of (cp := 1182) (ip := 92) (a := 1180) (b := 1181) (by decide +kernel) (by decide +kernel)
theorem mk_163 : MOK infF mLF mNF mBF mRF mVF WSt 163 := MOK_of (cp := 1190) (ip := 92) (a := 1189) (b := 44) (by decide +kernel) (by decide +kernel)
theorem mk_164 : MOK infF mLF mNF mBF mRF mVF WSt 164 := MOK_of (cp := 1194) (ip := 92) (a := 1193) (b := 45) (by decide +kernel) (by decide +kernel)
theorem mk_165 : MOK infF mLF mNF mBF mRF mVF WSt 165 := MOK_of (cp := 1186) (ip := 92) (a := 1184) (b := 1185) (by decide +kernel) (by decide +kernel)
theorem mk_166 : MOK infF mLF mNF mBF mRF mVF WSt 166 := MOK_of (cp := 1198) (ip := 92) (a := 1196) (b := 1197) (by decide +kernel) (by decide +kernel)
theorem mk_167 : MOK infF mLF mNF mBF mRF mVF WSt 167 := MOK_of (cp := 1202) (ip := 92) (a := 1200) (b := 1201) (by decide +kernel) (by decide +kernel)
theorem mk_168 : MOK infF mLF mNF mBF mRF mVF WSt 168 := MOK_of (cp := 1206) (ip := 92) (a := 1204) (b := 1205) (by decide +kernel) (by decide +kernel)
theorem mk_169 : MOK infF mLF mNF mBF mRF mVF WSt 169 := MOK_of (cp := 1219) (ip := 92) (a := 1218) (b := 47) (by decide +kernel) (by decide +kernel)
theorem mk_170 : MOK infF mLF mNF mBF mRF mVF WSt 170 := MOK_of (cp := 1231) (ip := 92) (a := 1230) (b := 50) (by decide +kernel) (by decide +kernel)
theorem mk_171 : MOK infF mLF mNF mBF mRF mVF WSt 171 := MOK_of (cp := 1227) (ip := 92) (a := 1226) (b := 49) (by decide +kernel) (by decide +kernel)
theorem mk_172 : MOK infF mLF mNF mBF mRF mVF WSt 172 := MOK_of (cp := 1243) (ip := 92) (a := 1242) (b := 53) (by decide +kernel) (by decide +kernel)
theorem mk_173 : MOK infF mLF mNF mBF mRF mVF WSt 173 := MOK_of (cp := 1223) (ip := 92) (a := 1222) (b := 48) (by decide +kernel) (by decide +kernel)
theorem mk_174 : MOK infF mLF mNF mBF mRF mVF WSt 174 := MOK_of (cp := 1235) (ip := 92) (a := 1234) (b := 51) (by decide +kernel) (by decide +kernel)
theorem mk_175 : MOK infF mLF mNF mBF mRF mVF WSt 175 := MOK_of (cp := 1247) (ip := 92) (a := 1246) (b := 54) (by decide +kernel) (by decide +kernel)
theorem mk_176 : MOK infF mLF mNF mBF mRF mVF WSt 176 := MOK_of (cp := 1239) (ip := 92) (a := 1238) (b := 52) (by decide +kernel) (by decide +kernel)
theorem mk_177 : MOK infF mLF mNF mBF mRF mVF WSt 177 := MOK_of (cp := 1215) (ip := 92) (a := 1214) (b := 46) (by decide +kernel) (by decide +kernel)
theorem mk_178 : MOK infF mLF mNF mBF mRF mVF WSt 178 := MOK_of (cp := 1211) (ip := 92) (a := 1209) (b := 1210) (by decide +kernel) (by decide +kernel)
theorem mk_179 : MOK infF mLF mNF mBF mRF mVF WSt 179 := MOK_of (cp := 1271) (ip := 92) (a := 1270) (b := 58) (by decide +kernel) (by decide +kernel)
theorem mk_180 : MOK infF mLF mNF mBF mRF mVF WSt 180 := MOK_of (cp := 1267) (ip := 92) (a := 1266) (b := 57) (by decide +kernel) (by decide +kernel)
theorem mk_181 : MOK infF mLF mNF mBF mRF mVF WSt 181 := MOK_of (cp := 1263) (ip := 92) (a := 1262) (b := 56) (by decide +kernel) (by decide +kernel)
theorem mk_182 : MOK infF mLF mNF mBF mRF mVF WSt 182 := MOK_of (cp := 1286) (ip := 92) (a := 1285) (b := 59) (by decide +kernel) (by decide +kernel)
theorem mk_183 : MOK infF mLF mNF mBF mRF mVF WSt 183 := MOK_of (cp := 1298) (ip := 92) (a := 1297) (b := 61) (by decide +kernel) (by decide +kernel)
theorem mk_184 : MOK infF mLF mNF mBF mRF mVF WSt 184 := MOK_of (cp := 1314) (ip := 92) (a := 1313) (b := 65) (by decide +kernel) (by decide +kernel)
theorem mk_185 : MOK infF mLF mNF mBF mRF mVF WSt 185 := MOK_of (cp := 1310) (ip := 92) (a := 1309) (b := 64) (by decide +kernel) (by decide +kernel)
theorem mk_186 : MOK infF mLF mNF mBF mRF mVF WSt 186 := MOK_of (cp := 1306) (ip := 92) (a := 1305) (b := 63) (by decide +kernel) (by decide +kernel)
theorem mk_187 : MOK infF mLF mNF mBF mRF mVF WSt 187 := MOK_of (cp := 1294) (ip := 92) (a := 1293) (b := 60) (by decide +kernel) (by decide +kernel)
theorem mk_188 : MOK infF mLF mNF mBF mRF mVF WSt 188 := MOK_of (cp := 1302) (ip := 92) (a := 1301) (b := 62) (by decide +kernel) (by decide +kernel)
theorem mk_189 : MOK infF mLF mNF mBF mRF mVF WSt 189 := MOK_of (cp := 1342) (ip := 92) (a := 1341) (b := 68) (by decide +kernel) (by decide +kernel)
theorem mk_190 : MOK infF mLF mNF mBF mRF mVF WSt 190 := MOK_of (cp := 1338) (ip := 92) (a := 1337) (b := 67) (by decide +kernel) (by decide +kernel)
theorem mk_191 : MOK infF mLF mNF mBF mRF mVF WSt 191 := MOK_of (cp := 1251) (ip := 92) (a := 1249) (b := 1250) (by decide +kernel) (by decide +kernel)
theorem mk_192 : MOK infF mLF mNF mBF mRF mVF WSt 192 := MOK_of (cp := 1259) (ip := 92) (a := 1258) (b := 55) (by decide +kernel) (by decide +kernel)
theorem mk_193 : MOK infF mLF mNF mBF mRF mVF WSt 193 := MOK_of (cp := 1255) (ip := 92) (a := 1253) (b := 1254) (by decide +kernel) (by decide +kernel)
theorem mk_194 : MOK infF mLF mNF mBF mRF mVF WSt 194 := MOK_of (cp := 1278) (ip := 92) (a := 1276) (b := 1277) (by decide +kernel) (by decide +kernel)
theorem mk_195 : MOK infF mLF mNF mBF mRF mVF WSt 195 := MOK_of (cp := 1282) (ip := 92) (a := 1280) (b := 1281) (by decide +kernel) (by decide +kernel)
theorem mk_196 : MOK infF mLF mNF mBF mRF mVF WSt 196 := MOK_of (cp := 1290) (ip := 92) (a := 1288) (b := 1289) (by decide +kernel) (by decide +kernel)
theorem mk_197 : MOK infF mLF mNF mBF mRF mVF WSt 197 := MOK_of (cp := 1318) (ip := 92) (a := 1316) (b := 1317) (by decide +kernel) (by decide +kernel)
theorem mk_198 : MOK infF mLF mNF mBF mRF mVF WSt 198 := MOK_of (cp := 1322) (ip := 92) (a := 1320) (b := 1321) (by decide +kernel) (by decide +kernel)
theorem mk_199 : MOK infF mLF mNF mBF mRF mVF WSt 199 := MOK_of (cp := 1330) (ip := 92) (a := 1329) (b := 66) (by decide +kernel) (by decide +kernel)
theorem mk_200 : MOK infF mLF mNF mBF mRF mVF WSt 200 := MOK_of (cp := 1326) (ip := 92) (a := 1324) (b := 1325) (by decide +kernel) (by decide +kernel)
theorem mk_201 : MOK infF mLF mNF mBF mRF mVF WSt 201 := MOK_of (cp := 1346) (ip := 92) (a := 1345) (b := 69) (by decide +kernel) (by decide +kernel)
theorem mk_202 : MOK infF mLF mNF mBF mRF mVF WSt 202 := MOK_of (cp := 1334) (ip := 92) (a := 1332) (b := 1333) (by decide +kernel) (by decide +kernel)
theorem mk_203 : MOK infF mLF mNF mBF mRF mVF WSt 203 := MOK_of (cp := 1351) (ip := 92) (a := 1349) (b := 1350) (by decide +kernel) (by decide +kernel)
theorem mk_204 : MOK infF mLF mNF mBF mRF mVF WSt 204 := MOK_of (cp := 1363) (ip := 92) (a := 1362) (b := 71) (by decide +kernel) (by decide +kernel)
theorem mk_205 : MOK infF mLF mNF mBF mRF mVF WSt 205 := MOK_of (cp := 1359) (ip := 92) (a := 1358) (b := 70) (by decide +kernel) (by decide +kernel)
theorem mk_206 : MOK infF mLF mNF mBF mRF mVF WSt 206 := MOK_of (cp := 1367) (ip := 92) (a := 1366) (b := 72) (by decide +kernel) (by decide +kernel)
theorem mk_207 : MOK infF mLF mNF mBF mRF mVF WSt 207 := MOK_of (cp := 1355) (ip := 92) (a := 1353) (b := 1354) (by decide +kernel) (by decide +kernel)
theorem mk_208 : MOK infF mLF mNF mBF mRF mVF WSt 208 := MOK_of (cp := 1371) (ip := 92) (a := 1369) (b := 1370) (by decide +kernel) (by decide +kernel)
theorem mk_209 : MOK infF mLF mNF mBF mRF mVF WSt 209 := MOK_of (cp := 1375) (ip := 92) (a := 1373) (b := 1374) (by decide +kernel) (by decide +kernel)
theorem mk_210 : MOK infF mLF mNF mBF mRF mVF WSt 210 := MOK_of (cp := 1384) (ip := 92) (a := 1383) (b := 73) (by decide +kernel) (by decide +kernel)
theorem mk_211 : MOK infF mLF mNF mBF mRF mVF WSt 211 := MOK_of (cp := 1380) (ip := 92) (a := 1378) (b := 1379) (by decide +kernel) (by decide +kernel)
theorem mk_212 : MOK infF mLF mNF mBF mRF mVF WSt 212 := MOK_of (cp := 1388) (ip := 92) (a := 1386) (b := 1387) (by decide +kernel) (by decide +kernel)
theorem mk_213 : MOK infF mLF mNF mBF mRF mVF WSt 213 := MOK_of (cp := 1400) (ip := 92) (a := 1399) (b := 75) (by decide +kernel) (by decide +kernel)
theorem mk_214 : MOK infF mLF mNF mBF mRF mVF WSt 214 := MOK_of (cp := 1396) (ip := 92) (a := 1395) (b := 74) (by decide +kernel) (by decide +kernel)
theorem mk_215 : MOK infF mLF mNF mBF mRF mVF WSt 215 := MOK_of (cp := 1404) (ip := 92) (a := 1403) (b := 76) (by decide +kernel) (by decide +kernel)
theorem mk_216 : MOK infF mLF mNF mBF mRF mVF WSt 216 := MOK_of (cp := 1392) (ip := 92) (a := 1390) (b := 1391) (by decide +kernel) (by decide +kernel)
theorem mk_217 : MOK infF mLF mNF mBF mRF mVF WSt 217 := MOK_of (cp := 1412) (ip := 92) (a := 1411) (b := 77) (by decide +kernel) (by decide +kernel)
theorem mk_218 : MOK infF mLF mNF mBF mRF mVF WSt 218 := MOK_of (cp := 1408) (ip := 92) (a := 1406) (b := 1407) (by decide +kernel) (by decide +kernel)
theorem mk_219 : MOK infF mLF mNF mBF mRF mVF WSt 219 := MOK_of (cp := 1416) (ip := 92) (a := 1414) (b := 1415) (by decide +kernel) (by decide +kernel)
theorem mk_220 : MOK infF mLF mNF mBF mRF mVF WSt 220 := MOK_of (cp := 1428) (ip := 92) (a := 1427) (b := 79) (by decide +kernel) (by decide +kernel)
theorem mk_221 : MOK infF mLF mNF mBF mRF mVF WSt 221 := MOK_of (cp := 1424) (ip := 92) (a := 1423) (b := 78) (by decide +kernel) (by decide +kernel)
theorem mk_222 : MOK infF mLF mNF mBF mRF mVF WSt 222 := MOK_of (cp := 1420) (ip := 92) (a := 1418) (b := 1419) (by decide +kernel) (by decide +kernel)
theorem mk_223 : MOK infF mLF mNF mBF mRF mVF WSt 223 := MOK_of (cp := 1432) (ip := 92) (a := 1430) (b := 1431) (by decide +kernel) (by decide +kernel)
theorem mk_224 : MOK infF mLF mNF mBF mRF mVF WSt 224 := MOK_of (cp := 1444) (ip := 92) (a := 1443) (b := 81) (by decide +kernel) (by decide +kernel)
theorem mk_225 : MOK infF mLF mNF mBF mRF mVF WSt 225 := MOK_of (cp := 1448) (ip := 92) (a := 1447) (b := 82) (by decide +kernel) (by decide +kernel)
theorem mk_226 : MOK infF mLF mNF mBF mRF mVF WSt 226 := MOK_of (cp := 1440) (ip := 92) (a := 1439) (b := 80) (by decide +kernel) (by decide +kernel)
theorem mk_227 : MOK infF mLF mNF mBF mRF mVF WSt 227 := MOK_of (cp := 1436) (ip := 92) (a := 1434) (b := 1435) (by decide +kernel) (by decide +kernel)
theorem mk_228 : MOK infF mLF mNF mBF mRF mVF WSt 228 := MOK_of (cp := 1452) (ip := 92) (a := 1450) (b := 1451) (by decide +kernel) (by decide +kernel)
theorem mk_229 : MOK infF mLF mNF mBF mRF mVF WSt 229 := MOK_of (cp := 1456) (ip := 92) (a := 1454) (b := 1455) (by decide +kernel) (by decide +kernel)
theorem mk_230 : MOK infF mLF mNF mBF mRF mVF WSt 230 := MOK_of (cp := 608) (ip := 95) (a := 607) (b := 0) (by decide +kernel) (by decide +kernel)
set_option maxRecDepth 100000 in
theorem mk_all : AllK (fun k (_ : MethodName) => k + 1 ≤ 231 → MOK infF mLF mNF mBF mRF mVF WSt k) 0 mNL := ⟨fun _ => mk_0, fun _ => mk_1, fun _ => mk_2, fun _ => mk_3, fun _ => mk_4, fun _ => mk_5, fun _ => mk_6, fun _ => mk_7, fun _ => mk_8, fun _ => mk_9, fun _ => mk_10, fun _ => mk_11, fun _ => mk_12, fun _ => mk_13, fun _ => mk_14, fun _ => mk_15, fun _ => mk_16, fun _ => mk_17, fun _ => mk_18, fun _ => mk_19, fun _ => mk_20, fun _ => mk_21, fun _ => mk_22, fun _ => mk_23, fun _ => mk_24, fun _ => mk_25, fun _ => mk_26, fun _ => mk_27, fun _ => mk_28, fun _ => mk_29, fun _ => mk_30, fun _ => mk_31, fun _ => mk_32, fun _ => mk_33, fun _ => mk_34, fun _ => mk_35, fun _ => mk_36, fun _ => mk_37, fun _ => mk_38, fun _ => mk_39, fun _ => mk_40, fun _ => mk_41, fun _ => mk_42, fun _ => mk_43, fun _ => mk_44, fun _ => mk_45, fun _ => mk_46, fun _ => mk_47, fun _ => mk_48, fun _ => mk_49, fun _ => mk_50, fun _ => mk_51, fun _ => mk_52, fun _ => mk_53, fun _ => mk_54, fun _ => mk_55, fun _ => mk_56, fun _ => mk_57, fun _ => mk_58, fun _ => mk_59, fun _ => mk_60, fun _ => mk_61, fun _ => mk_62, fun _ => mk_63, fun _ => mk_64, fun _ => mk_65, fun _ => mk_66, fun _ => mk_67, fun _ => mk_68, fun _ => mk_69, fun _ => mk_70, fun _ => mk_71, fun _ => mk_72, fun _ => mk_73, fun _ => mk_74, fun _ => mk_75, fun _ => mk_76, fun _ => mk_77, fun _ => mk_78, fun _ => mk_79, fun _ => mk_80, fun _ => mk_81, fun _ => mk_82, fun _ => mk_83, fun _ => mk_84, fun _ => mk_85, fun _ => mk_86, fun _ => mk_87, fun _ => mk_88, fun _ => mk_89, fun _ => mk_90, fun _ => mk_91, fun _ => mk_92, fun _ => mk_93, fun _ => mk_94, fun _ => mk_95, fun _ => mk_96, fun _ => mk_97, fun _ => mk_98, fun _ => mk_99, fun _ => mk_100, fun _ => mk_101, fun _ => mk_102, fun _ => mk_103, fun _ => mk_104, fun _ => mk_105, fun _ => mk_106, fun _ => mk_107, fun _ => mk_108, fun _ => mk_109, fun _ => mk_110, fun _ => mk_111, fun _ => mk_112, fun _ => mk_113, fun _ => mk_114, fun _ => mk_115, fun _ => mk_116, fun _ => mk_117, fun _ => mk_118, fun _ => mk_119, fun _ => mk_120, fun _ => mk_121, fun _ => mk_122, fun _ => mk_123, fun _ => mk_124, fun _ => mk_125, fun _ => mk_126, fun _ => mk_127, fun _ => mk_128, fun _ => mk_129, fun _ => mk_130, fun _ => mk_131, fun _ => mk_132, fun _ => mk_133, fun _ => mk_134, fun _ => mk_135, fun _ => mk_136, fun _ => mk_137, fun _ => mk_138, fun _ => mk_139, fun _ => mk_140, fun _ => mk_141, fun _ => mk_142, fun _ => mk_143, fun _ => mk_144, fun _ => mk_145, fun _ => mk_146, fun _ => mk_147, fun _ => mk_148, fun _ => mk_149, fun _ => mk_150, fun _ => mk_151, fun _ => mk_152, fun _ => mk_153, fun _ => mk_154, fun _ => mk_155, fun _ => mk_156, fun _ => mk_157, fun _ => mk_158, fun _ => mk_159, fun _ => mk_160, fun _ => mk_161, fun _ => mk_162, fun _ => mk_163, fun _ => mk_164, fun _ => mk_165, fun _ => mk_166, fun _ => mk_167, fun _ => mk_168, fun _ => mk_169, fun _ => mk_170, fun _ => mk_171, fun _ => mk_172, fun _ => mk_173, fun _ => mk_174, fun _ => mk_175, fun _ => mk_176, fun _ => mk_177, fun _ => mk_178, fun _ => mk_179, fun _ => mk_180, fun _ => mk_181, fun _ => mk_182, fun _ => mk_183, fun _ => mk_184, fun _ => mk_185, fun _ => mk_186, fun _ => mk_187, fun _ => mk_188, fun _ => mk_189, fun _ => mk_190, fun _ => mk_191, fun _ => mk_192, fun _ => mk_193, fun _ => mk_194, fun _ => mk_195, fun _ => mk_196, fun _ => mk_197, fun _ => mk_198, fun _ => mk_199, fun _ => mk_200, fun _ => mk_201, fun _ => mk_202, fun _ => mk_203, fun _ => mk_204, fun _ => mk_205, fun _ => mk_206, fun _ => mk_207, fun _ => mk_208, fun _ => mk_209, fun _ => mk_210, fun _ => mk_211, fun _ => mk_212, fun _ => mk_213, fun _ => mk_214, fun _ => mk_215, fun _ => mk_216, fun _ => mk_217, fun _ => mk_218, fun _ => mk_219, fun _ => mk_220, fun _ => mk_221, fun _ => mk_222, fun _ => mk_223, fun _ => mk_224, fun _ => mk_225, fun _ => mk_226, fun _ => mk_227, fun _ => mk_228, fun _ => mk_229, fun _ => mk_230, fun h => absurd h (by decide), trivial⟩
theorem law_top : mHF 231 = 15 := by decide +kernel
theorem mH_lt {k : Nat} (h : mHF k + 1 ≤ 15) : ∃ y t, nth mNL k = some y ∧ nth tabL k = some t ∧ k + 1 ≤ 231 := by
  have hl : mNL.length = 232 := by decide +kernel
  have ht : tabL.length = 232 := by decide +kernel
  have hh : mHL.length = 232 := by decide +kernel
  have hk : k < 232 := by
    rcases Nat.lt_or_ge k 232 with q | q
    · exact q
    · exfalso
      have : nth mHL k = none := by rw [nth_get]; exact List.getElem?_eq_none (by omega)
      unfold mHF at h
      rw [this] at h
      exact absurd h (by decide)
  have hne : k ≠ 231 := by
    intro e
    subst e
    rw [law_top] at h
    omega
  refine ⟨mNL[k], tabL[k], ?_, ?_, by omega⟩
  · rw [nth_get]; exact List.getElem?_eq_getElem (by omega)
  · rw [nth_get]; exact List.getElem?_eq_getElem (by omega)
theorem hM_all : ∀ k, mHF k + 1 ≤ 15 → MOK infF mLF mNF mBF mRF mVF WSt k := by
  intro k hk
  obtain ⟨y, t, h1, h2, h3⟩ := mH_lt hk
  have := AllK_get mNL 0 k y mk_all h1
  rw [Nat.zero_add] at this
  exact this h3
theorem hcod_all : ∀ k, mHF k + 1 ≤ 15 → ∀ pc en, codF k pc = some en → chkF k pc en = true := by
  intro k hk pc en he
  obtain ⟨y, t, h1, h2, h3⟩ := mH_lt hk
  have := AllK_get tabL 0 k t ck_all h2
  rw [Nat.zero_add] at this
  unfold codF at he
  rw [h2] at he
  exact look_chk (chkF k) this he
theorem hcod_law : ∀ pc en, codF 231 pc = some en → chkF 231 pc en = true := fun pc en he => look_chk (chkF 231) ck_231 he
theorem uw_X0 : ∀ w ∈ u_ws RX0 TX0 5, w ∈ lw_tbl ∧ goodWord w = true := by decide +kernel
theorem uw_X1 : ∀ w ∈ u_ws RX1 TX1 13, w ∈ lw_tbl ∧ goodWord w = true := by decide +kernel
theorem uw_X3 : ∀ w ∈ u_ws RX3 TX3 2, w ∈ lw_tbl ∧ goodWord w = true := by decide +kernel
theorem uw_X4 : ∀ w ∈ u_ws RX4 TX4 5, w ∈ lw_tbl ∧ goodWord w = true := by decide +kernel
theorem uw_X5 : ∀ w ∈ u_ws RX5 TX5 17, w ∈ lw_tbl ∧ goodWord w = true := by decide +kernel
theorem uw_X6 : ∀ w ∈ u_ws RX6 TX6 3, w ∈ lw_tbl ∧ goodWord w = true := by decide +kernel
theorem uw_X7 : ∀ w ∈ u_ws RX7 TX7 8, w ∈ lw_tbl ∧ goodWord w = true := by decide +kernel
theorem uw_X8 : ∀ w ∈ u_ws RX8 TX8 12, w ∈ lw_tbl ∧ goodWord w = true := by decide +kernel
theorem uw_X9 : ∀ w ∈ u_ws RX9 TX9 46, w ∈ lw_tbl ∧ goodWord w = true := by decide +kernel
theorem uw_all : AllK (fun (_ : Nat) (q : vw_C) => (∀ w ∈ u_ws q.1 q.2.1 q.2.2, w ∈ lw_tbl ∧ goodWord w = true) ∧ (∀ a, a < q.2.2 → ∀ b, b < q.2.2 → a ≠ b → (q.2.1 a).2.1 ≠ (q.2.1 b).2.1) ∧ ∃ ty : Nat → FieldType, ∀ k, k < q.2.2 → parseFieldDescriptor (q.2.1 k).2.2.1 = some (ty k)) 0 vwCl := ⟨⟨uw_X0, nmX0, tyX0, tyX0_ok⟩, ⟨uw_X1, nmX1, tyX1, tyX1_ok⟩, ⟨uw_X3, nmX3, tyX3, tyX3_ok⟩, ⟨uw_X4, nmX4, tyX4, tyX4_ok⟩, ⟨uw_X5, nmX5, tyX5, tyX5_ok⟩, ⟨uw_X6, nmX6, tyX6, tyX6_ok⟩, ⟨uw_X7, nmX7, tyX7, tyX7_ok⟩, ⟨uw_X8, nmX8, tyX8, tyX8_ok⟩, ⟨uw_X9, nmX9, tyX9, tyX9_ok⟩, trivial⟩
theorem tab_ok : TabOK mRF lw_tbl WSt nwt := by
  refine ⟨fun w hw hn => ?_, fun w hw => ?_, fun w hw => (List.mem_filter.mp hw).2, fun w h1 h2 => inWS h1 h2, fun ci C T N hc => ?_, fun k => ?_, ?_, ?_⟩
  · obtain ⟨a, i, y, h, rfl⟩ := hn
    exact List.mem_filter.mpr ⟨hw, rfl⟩
  · have h := (List.mem_filter.mp hw).2
    cases w <;> first | exact ⟨_, _, _, _, rfl⟩ | cases h
  · obtain ⟨h1, h2, h3⟩ := AllK_get vwCl 0 ci (C, T, N) uw_all (by rw [nth_get]; exact hc)
    exact ⟨fun w hw => inWS (h1 w hw).1 (h1 w hw).2, h2, h3⟩
  · have hall : ∀ r ∈ mRL, r = none ∨ r = some .int ∨ r = some .boolean := by decide +kernel
    unfold mRF
    cases hq : nth mRL k with
    | none => exact Or.inl rfl
    | some r =>
      rw [nth_get] at hq
      exact hall r (List.mem_of_getElem? hq)
  · exact ⟨inWS (List.mem_of_getElem? (i := 965) (by decide +kernel)) rfl, inWS (List.mem_of_getElem? (i := 964) (by decide +kernel)) rfl, inWS (List.mem_of_getElem? (i := 96) (by decide +kernel)) rfl⟩
  · exact ⟨inWS (List.mem_of_getElem? (i := 458) (by decide +kernel)) rfl, inWS (List.mem_of_getElem? (i := 461) (by decide +kernel)) rfl, inWS (List.mem_of_getElem? (i := 93) (by decide +kernel)) rfl, inWS (List.mem_of_getElem? (i := 459) (by decide +kernel)) rfl, inWS (List.mem_of_getElem? (i := 462) (by decide +kernel)) rfl⟩
