section
-- ===== PART A: goes FIRST, ahead of the names: the tables' words, and 'selects' of the private methods out of them =====
/-- a private method of a class that the tables say can be made, by its rows of tables_1 -/
def lw_okq (q : MethodName × Nat) : Prop := (q.1.cls ≠ "java/lang/invoke/MethodHandle" ∧ q.1.cls ≠ "java/lang/invoke/VarHandle") ∧ Cond.instantiable q.1.cls q.2 ∈ tables_1 ∧ Cond.privateMethod q.1 ∈ tables_1 ∧ Cond.instanceMethod q.1 ∈ tables_1
theorem lw_p0 : lw_okq (⟨"SplicedWeb$Text", "stepOn", "()V"⟩, 7) := ⟨⟨by decide +kernel, by decide +kernel⟩, List.mem_of_getElem? (i := 22) (by decide +kernel), List.mem_of_getElem? (i := 333) (by decide +kernel), List.mem_of_getElem? (i := 334) (by decide +kernel)⟩
theorem lw_p1 : lw_okq (⟨"SplicedWeb$Text", "stepOverNumber", "()V"⟩, 7) := ⟨⟨by decide +kernel, by decide +kernel⟩, List.mem_of_getElem? (i := 22) (by decide +kernel), List.mem_of_getElem? (i := 340) (by decide +kernel), List.mem_of_getElem? (i := 341) (by decide +kernel)⟩
theorem lw_p2 : lw_okq (⟨"SplicedWeb$Text", "readItem", "(LSplicedWeb$Plan;)Z"⟩, 7) := ⟨⟨by decide +kernel, by decide +kernel⟩, List.mem_of_getElem? (i := 22) (by decide +kernel), List.mem_of_getElem? (i := 347) (by decide +kernel), List.mem_of_getElem? (i := 348) (by decide +kernel)⟩
theorem lw_p3 : lw_okq (⟨"SplicedWeb$Text", "mayBegin", "(LSplicedWeb$Plan;I)Z"⟩, 7) := ⟨⟨by decide +kernel, by decide +kernel⟩, List.mem_of_getElem? (i := 22) (by decide +kernel), List.mem_of_getElem? (i := 351) (by decide +kernel), List.mem_of_getElem? (i := 352) (by decide +kernel)⟩
theorem lw_p4 : lw_okq (⟨"SplicedWeb$Text", "readReel", "(LSplicedWeb$Plan;)Z"⟩, 7) := ⟨⟨by decide +kernel, by decide +kernel⟩, List.mem_of_getElem? (i := 22) (by decide +kernel), List.mem_of_getElem? (i := 358) (by decide +kernel), List.mem_of_getElem? (i := 359) (by decide +kernel)⟩
theorem lw_p5 : lw_okq (⟨"SplicedWeb$Text", "takeNumber", "(II)I"⟩, 7) := ⟨⟨by decide +kernel, by decide +kernel⟩, List.mem_of_getElem? (i := 22) (by decide +kernel), List.mem_of_getElem? (i := 362) (by decide +kernel), List.mem_of_getElem? (i := 363) (by decide +kernel)⟩
theorem lw_p6 : lw_okq (⟨"SplicedWeb$Text", "readSetting", "(LSplicedWeb$Plan;I)Z"⟩, 7) := ⟨⟨by decide +kernel, by decide +kernel⟩, List.mem_of_getElem? (i := 22) (by decide +kernel), List.mem_of_getElem? (i := 372) (by decide +kernel), List.mem_of_getElem? (i := 373) (by decide +kernel)⟩
theorem lw_p7 : lw_okq (⟨"SplicedWeb$Press", "canPaste", "(LSplicedWeb$Plan;)Z"⟩, 14) := ⟨⟨by decide +kernel, by decide +kernel⟩, List.mem_of_getElem? (i := 118) (by decide +kernel), List.mem_of_getElem? (i := 408) (by decide +kernel), List.mem_of_getElem? (i := 409) (by decide +kernel)⟩
theorem lw_p8 : lw_okq (⟨"SplicedWeb$Press", "breakOff", "()V"⟩, 14) := ⟨⟨by decide +kernel, by decide +kernel⟩, List.mem_of_getElem? (i := 118) (by decide +kernel), List.mem_of_getElem? (i := 420) (by decide +kernel), List.mem_of_getElem? (i := 421) (by decide +kernel)⟩
theorem lw_p9 : lw_okq (⟨"SplicedWeb$Press", "mountNext", "(LSplicedWeb$Plan;)V"⟩, 14) := ⟨⟨by decide +kernel, by decide +kernel⟩, List.mem_of_getElem? (i := 118) (by decide +kernel), List.mem_of_getElem? (i := 424) (by decide +kernel), List.mem_of_getElem? (i := 425) (by decide +kernel)⟩
theorem lw_p10 : lw_okq (⟨"SplicedWeb$Band", "placeOf", "(I)I"⟩, 11) := ⟨⟨by decide +kernel, by decide +kernel⟩, List.mem_of_getElem? (i := 124) (by decide +kernel), List.mem_of_getElem? (i := 432) (by decide +kernel), List.mem_of_getElem? (i := 433) (by decide +kernel)⟩
theorem lw_p11 : lw_okq (⟨"SplicedWeb$Press", "print", "(LSplicedWeb$Plan;)V"⟩, 14) := ⟨⟨by decide +kernel, by decide +kernel⟩, List.mem_of_getElem? (i := 118) (by decide +kernel), List.mem_of_getElem? (i := 436) (by decide +kernel), List.mem_of_getElem? (i := 437) (by decide +kernel)⟩
theorem lw_p12 : lw_okq (⟨"SplicedWeb$Press", "judge", "(LSplicedWeb$Plan;)V"⟩, 14) := ⟨⟨by decide +kernel, by decide +kernel⟩, List.mem_of_getElem? (i := 118) (by decide +kernel), List.mem_of_getElem? (i := 452) (by decide +kernel), List.mem_of_getElem? (i := 453) (by decide +kernel)⟩
theorem lw_p13 : lw_okq (⟨"SplicedWeb$Press", "adjust", "(LSplicedWeb$Plan;)V"⟩, 14) := ⟨⟨by decide +kernel, by decide +kernel⟩, List.mem_of_getElem? (i := 118) (by decide +kernel), List.mem_of_getElem? (i := 467) (by decide +kernel), List.mem_of_getElem? (i := 468) (by decide +kernel)⟩
theorem lw_p14 : lw_okq (⟨"SplicedWeb$Clues", "fitsAny", "(I)Z"⟩, 3) := ⟨⟨by decide +kernel, by decide +kernel⟩, List.mem_of_getElem? (i := 251) (by decide +kernel), List.mem_of_getElem? (i := 593) (by decide +kernel), List.mem_of_getElem? (i := 594) (by decide +kernel)⟩
theorem lw_p15 : lw_okq (⟨"SplicedWeb$Clues", "fits", "(II)Z"⟩, 3) := ⟨⟨by decide +kernel, by decide +kernel⟩, List.mem_of_getElem? (i := 251) (by decide +kernel), List.mem_of_getElem? (i := 597) (by decide +kernel), List.mem_of_getElem? (i := 598) (by decide +kernel)⟩
def lw_privs_1 : List (MethodName × Nat) := [(⟨"SplicedWeb$Text", "stepOn", "()V"⟩, 7), (⟨"SplicedWeb$Text", "stepOverNumber", "()V"⟩, 7), (⟨"SplicedWeb$Text", "readItem", "(LSplicedWeb$Plan;)Z"⟩, 7), (⟨"SplicedWeb$Text", "mayBegin", "(LSplicedWeb$Plan;I)Z"⟩, 7), (⟨"SplicedWeb$Text", "readReel", "(LSplicedWeb$Plan;)Z"⟩, 7), (⟨"SplicedWeb$Text", "takeNumber", "(II)I"⟩, 7), (⟨"SplicedWeb$Text", "readSetting", "(LSplicedWeb$Plan;I)Z"⟩, 7), (⟨"SplicedWeb$Press", "canPaste", "(LSplicedWeb$Plan;)Z"⟩, 14), (⟨"SplicedWeb$Press", "breakOff", "()V"⟩, 14), (⟨"SplicedWeb$Press", "mountNext", "(LSplicedWeb$Plan;)V"⟩, 14), (⟨"SplicedWeb$Band", "placeOf", "(I)I"⟩, 11), (⟨"SplicedWeb$Press", "print", "(LSplicedWeb$Plan;)V"⟩, 14), (⟨"SplicedWeb$Press", "judge", "(LSplicedWeb$Plan;)V"⟩, 14), (⟨"SplicedWeb$Press", "adjust", "(LSplicedWeb$Plan;)V"⟩, 14), (⟨"SplicedWeb$Clues", "fitsAny", "(I)Z"⟩, 3), (⟨"SplicedWeb$Clues", "fits", "(II)Z"⟩, 3)]
theorem lw_r1 : ∀ q ∈ lw_privs_1, lw_okq q := List.forall_mem_cons.mpr ⟨lw_p0, List.forall_mem_cons.mpr ⟨lw_p1, List.forall_mem_cons.mpr ⟨lw_p2, List.forall_mem_cons.mpr ⟨lw_p3, List.forall_mem_cons.mpr ⟨lw_p4, List.forall_mem_cons.mpr ⟨lw_p5, List.forall_mem_cons.mpr ⟨lw_p6, List.forall_mem_cons.mpr ⟨lw_p7, List.forall_mem_cons.mpr ⟨lw_p8, List.forall_mem_cons.mpr ⟨lw_p9, List.forall_mem_cons.mpr ⟨lw_p10, List.forall_mem_cons.mpr ⟨lw_p11, List.forall_mem_cons.mpr ⟨lw_p12, List.forall_mem_cons.mpr ⟨lw_p13, List.forall_mem_cons.mpr ⟨lw_p14, List.forall_mem_cons.mpr ⟨lw_p15, fun _ h => absurd h List.not_mem_nil⟩⟩⟩⟩⟩⟩⟩⟩⟩⟩⟩⟩⟩⟩⟩⟩
theorem lw_p16 : lw_okq (⟨"SplicedWebModel", "begins", "()V"⟩, 27) := ⟨⟨by decide +kernel, by decide +kernel⟩, List.mem_of_getElem? (i := 637) (by decide +kernel), List.mem_of_getElem? (i := 643) (by decide +kernel), List.mem_of_getElem? (i := 644) (by decide +kernel)⟩
theorem lw_p17 : lw_okq (⟨"SplicedWebModel", "takes", "()V"⟩, 27) := ⟨⟨by decide +kernel, by decide +kernel⟩, List.mem_of_getElem? (i := 637) (by decide +kernel), List.mem_of_getElem? (i := 647) (by decide +kernel), List.mem_of_getElem? (i := 648) (by decide +kernel)⟩
theorem lw_p18 : lw_okq (⟨"SplicedWebModel", "reads", "()I"⟩, 27) := ⟨⟨by decide +kernel, by decide +kernel⟩, List.mem_of_getElem? (i := 637) (by decide +kernel), List.mem_of_getElem? (i := 748) (by decide +kernel), List.mem_of_getElem? (i := 749) (by decide +kernel)⟩
theorem lw_p19 : lw_okq (⟨"SplicedWebModel", "blanks", "()V"⟩, 27) := ⟨⟨by decide +kernel, by decide +kernel⟩, List.mem_of_getElem? (i := 637) (by decide +kernel), List.mem_of_getElem? (i := 752) (by decide +kernel), List.mem_of_getElem? (i := 753) (by decide +kernel)⟩
theorem lw_p20 : lw_okq (⟨"SplicedWebModel", "takesItem", "()Z"⟩, 27) := ⟨⟨by decide +kernel, by decide +kernel⟩, List.mem_of_getElem? (i := 637) (by decide +kernel), List.mem_of_getElem? (i := 756) (by decide +kernel), List.mem_of_getElem? (i := 757) (by decide +kernel)⟩
theorem lw_p21 : lw_okq (⟨"SplicedWebModel", "takesUnit", "()Z"⟩, 27) := ⟨⟨by decide +kernel, by decide +kernel⟩, List.mem_of_getElem? (i := 637) (by decide +kernel), List.mem_of_getElem? (i := 760) (by decide +kernel), List.mem_of_getElem? (i := 761) (by decide +kernel)⟩
theorem lw_p22 : lw_okq (⟨"SplicedWebModel", "takesNumber", "(II)Z"⟩, 27) := ⟨⟨by decide +kernel, by decide +kernel⟩, List.mem_of_getElem? (i := 637) (by decide +kernel), List.mem_of_getElem? (i := 764) (by decide +kernel), List.mem_of_getElem? (i := 765) (by decide +kernel)⟩
theorem lw_p23 : lw_okq (⟨"SplicedWebModel", "isAt", "(II)Z"⟩, 27) := ⟨⟨by decide +kernel, by decide +kernel⟩, List.mem_of_getElem? (i := 637) (by decide +kernel), List.mem_of_getElem? (i := 768) (by decide +kernel), List.mem_of_getElem? (i := 769) (by decide +kernel)⟩
theorem lw_p24 : lw_okq (⟨"SplicedWebModel", "takesSign", "(I)Z"⟩, 27) := ⟨⟨by decide +kernel, by decide +kernel⟩, List.mem_of_getElem? (i := 637) (by decide +kernel), List.mem_of_getElem? (i := 772) (by decide +kernel), List.mem_of_getElem? (i := 773) (by decide +kernel)⟩
theorem lw_p25 : lw_okq (⟨"SplicedWebModel", "takesReel", "()Z"⟩, 27) := ⟨⟨by decide +kernel, by decide +kernel⟩, List.mem_of_getElem? (i := 637) (by decide +kernel), List.mem_of_getElem? (i := 776) (by decide +kernel), List.mem_of_getElem? (i := 777) (by decide +kernel)⟩
theorem lw_p26 : lw_okq (⟨"SplicedWebModel", "takesSetting", "(I)Z"⟩, 27) := ⟨⟨by decide +kernel, by decide +kernel⟩, List.mem_of_getElem? (i := 637) (by decide +kernel), List.mem_of_getElem? (i := 780) (by decide +kernel), List.mem_of_getElem? (i := 781) (by decide +kernel)⟩
theorem lw_p27 : lw_okq (⟨"SplicedWebModel", "remembers", "()V"⟩, 27) := ⟨⟨by decide +kernel, by decide +kernel⟩, List.mem_of_getElem? (i := 637) (by decide +kernel), List.mem_of_getElem? (i := 792) (by decide +kernel), List.mem_of_getElem? (i := 793) (by decide +kernel)⟩
theorem lw_p28 : lw_okq (⟨"SplicedWebModel", "goes", "(I)Z"⟩, 27) := ⟨⟨by decide +kernel, by decide +kernel⟩, List.mem_of_getElem? (i := 637) (by decide +kernel), List.mem_of_getElem? (i := 796) (by decide +kernel), List.mem_of_getElem? (i := 797) (by decide +kernel)⟩
theorem lw_p29 : lw_okq (⟨"SplicedWebModel", "nextReel", "()I"⟩, 27) := ⟨⟨by decide +kernel, by decide +kernel⟩, List.mem_of_getElem? (i := 637) (by decide +kernel), List.mem_of_getElem? (i := 800) (by decide +kernel), List.mem_of_getElem? (i := 801) (by decide +kernel)⟩
theorem lw_p30 : lw_okq (⟨"SplicedWebModel", "breaks", "()V"⟩, 27) := ⟨⟨by decide +kernel, by decide +kernel⟩, List.mem_of_getElem? (i := 637) (by decide +kernel), List.mem_of_getElem? (i := 804) (by decide +kernel), List.mem_of_getElem? (i := 805) (by decide +kernel)⟩
theorem lw_p31 : lw_okq (⟨"SplicedWebModel", "goesOnReel", "()V"⟩, 27) := ⟨⟨by decide +kernel, by decide +kernel⟩, List.mem_of_getElem? (i := 637) (by decide +kernel), List.mem_of_getElem? (i := 811) (by decide +kernel), List.mem_of_getElem? (i := 812) (by decide +kernel)⟩
def lw_privs_2 : List (MethodName × Nat) := [(⟨"SplicedWebModel", "begins", "()V"⟩, 27), (⟨"SplicedWebModel", "takes", "()V"⟩, 27), (⟨"SplicedWebModel", "reads", "()I"⟩, 27), (⟨"SplicedWebModel", "blanks", "()V"⟩, 27), (⟨"SplicedWebModel", "takesItem", "()Z"⟩, 27), (⟨"SplicedWebModel", "takesUnit", "()Z"⟩, 27), (⟨"SplicedWebModel", "takesNumber", "(II)Z"⟩, 27), (⟨"SplicedWebModel", "isAt", "(II)Z"⟩, 27), (⟨"SplicedWebModel", "takesSign", "(I)Z"⟩, 27), (⟨"SplicedWebModel", "takesReel", "()Z"⟩, 27), (⟨"SplicedWebModel", "takesSetting", "(I)Z"⟩, 27), (⟨"SplicedWebModel", "remembers", "()V"⟩, 27), (⟨"SplicedWebModel", "goes", "(I)Z"⟩, 27), (⟨"SplicedWebModel", "nextReel", "()I"⟩, 27), (⟨"SplicedWebModel", "breaks", "()V"⟩, 27), (⟨"SplicedWebModel", "goesOnReel", "()V"⟩, 27)]
theorem lw_r2 : ∀ q ∈ lw_privs_2, lw_okq q := List.forall_mem_cons.mpr ⟨lw_p16, List.forall_mem_cons.mpr ⟨lw_p17, List.forall_mem_cons.mpr ⟨lw_p18, List.forall_mem_cons.mpr ⟨lw_p19, List.forall_mem_cons.mpr ⟨lw_p20, List.forall_mem_cons.mpr ⟨lw_p21, List.forall_mem_cons.mpr ⟨lw_p22, List.forall_mem_cons.mpr ⟨lw_p23, List.forall_mem_cons.mpr ⟨lw_p24, List.forall_mem_cons.mpr ⟨lw_p25, List.forall_mem_cons.mpr ⟨lw_p26, List.forall_mem_cons.mpr ⟨lw_p27, List.forall_mem_cons.mpr ⟨lw_p28, List.forall_mem_cons.mpr ⟨lw_p29, List.forall_mem_cons.mpr ⟨lw_p30, List.forall_mem_cons.mpr ⟨lw_p31, fun _ h => absurd h List.not_mem_nil⟩⟩⟩⟩⟩⟩⟩⟩⟩⟩⟩⟩⟩⟩⟩⟩
theorem lw_p32 : lw_okq (⟨"SplicedWebModel", "copyBegins", "(Z)V"⟩, 27) := ⟨⟨by decide +kernel, by decide +kernel⟩, List.mem_of_getElem? (i := 637) (by decide +kernel), List.mem_of_getElem? (i := 815) (by decide +kernel), List.mem_of_getElem? (i := 816) (by decide +kernel)⟩
theorem lw_p33 : lw_okq (⟨"SplicedWebModel", "prints", "(I)V"⟩, 27) := ⟨⟨by decide +kernel, by decide +kernel⟩, List.mem_of_getElem? (i := 637) (by decide +kernel), List.mem_of_getElem? (i := 819) (by decide +kernel), List.mem_of_getElem? (i := 820) (by decide +kernel)⟩
theorem lw_p34 : lw_okq (⟨"SplicedWebModel", "isThere", "(I)Z"⟩, 27) := ⟨⟨by decide +kernel, by decide +kernel⟩, List.mem_of_getElem? (i := 637) (by decide +kernel), List.mem_of_getElem? (i := 826) (by decide +kernel), List.mem_of_getElem? (i := 827) (by decide +kernel)⟩
theorem lw_p35 : lw_okq (⟨"SplicedWebModel", "isSeen", "()Z"⟩, 27) := ⟨⟨by decide +kernel, by decide +kernel⟩, List.mem_of_getElem? (i := 637) (by decide +kernel), List.mem_of_getElem? (i := 830) (by decide +kernel), List.mem_of_getElem? (i := 831) (by decide +kernel)⟩
theorem lw_p36 : lw_okq (⟨"SplicedWebModel", "worst", "()I"⟩, 27) := ⟨⟨by decide +kernel, by decide +kernel⟩, List.mem_of_getElem? (i := 637) (by decide +kernel), List.mem_of_getElem? (i := 834) (by decide +kernel), List.mem_of_getElem? (i := 835) (by decide +kernel)⟩
theorem lw_p37 : lw_okq (⟨"SplicedWebModel", "corrections", "()V"⟩, 27) := ⟨⟨by decide +kernel, by decide +kernel⟩, List.mem_of_getElem? (i := 637) (by decide +kernel), List.mem_of_getElem? (i := 841) (by decide +kernel), List.mem_of_getElem? (i := 842) (by decide +kernel)⟩
theorem lw_p38 : lw_okq (⟨"SplicedWebModel", "correctedBy", "(II)V"⟩, 27) := ⟨⟨by decide +kernel, by decide +kernel⟩, List.mem_of_getElem? (i := 637) (by decide +kernel), List.mem_of_getElem? (i := 845) (by decide +kernel), List.mem_of_getElem? (i := 846) (by decide +kernel)⟩
theorem lw_p39 : lw_okq (⟨"SplicedWebModel", "waitOf", "(I)I"⟩, 27) := ⟨⟨by decide +kernel, by decide +kernel⟩, List.mem_of_getElem? (i := 637) (by decide +kernel), List.mem_of_getElem? (i := 849) (by decide +kernel), List.mem_of_getElem? (i := 850) (by decide +kernel)⟩
theorem lw_p40 : lw_okq (⟨"SplicedWebModel", "isLater", "(I)Z"⟩, 27) := ⟨⟨by decide +kernel, by decide +kernel⟩, List.mem_of_getElem? (i := 637) (by decide +kernel), List.mem_of_getElem? (i := 857) (by decide +kernel), List.mem_of_getElem? (i := 858) (by decide +kernel)⟩
theorem lw_p41 : lw_okq (⟨"SplicedWebModel", "passedTo", "(I)I"⟩, 27) := ⟨⟨by decide +kernel, by decide +kernel⟩, List.mem_of_getElem? (i := 637) (by decide +kernel), List.mem_of_getElem? (i := 882) (by decide +kernel), List.mem_of_getElem? (i := 883) (by decide +kernel)⟩
theorem lw_p42 : lw_okq (⟨"SplicedWebModel", "laysAside", "()V"⟩, 27) := ⟨⟨by decide +kernel, by decide +kernel⟩, List.mem_of_getElem? (i := 637) (by decide +kernel), List.mem_of_getElem? (i := 903) (by decide +kernel), List.mem_of_getElem? (i := 904) (by decide +kernel)⟩
theorem lw_p43 : lw_okq (⟨"SplicedWebModel", "comesBack", "()V"⟩, 27) := ⟨⟨by decide +kernel, by decide +kernel⟩, List.mem_of_getElem? (i := 637) (by decide +kernel), List.mem_of_getElem? (i := 907) (by decide +kernel), List.mem_of_getElem? (i := 908) (by decide +kernel)⟩
theorem lw_p44 : lw_okq (⟨"SplicedWebModel", "wasteBy", "(I)I"⟩, 27) := ⟨⟨by decide +kernel, by decide +kernel⟩, List.mem_of_getElem? (i := 637) (by decide +kernel), List.mem_of_getElem? (i := 915) (by decide +kernel), List.mem_of_getElem? (i := 916) (by decide +kernel)⟩
theorem lw_p45 : lw_okq (⟨"SplicedWebModel", "causes", "()I"⟩, 27) := ⟨⟨by decide +kernel, by decide +kernel⟩, List.mem_of_getElem? (i := 637) (by decide +kernel), List.mem_of_getElem? (i := 931) (by decide +kernel), List.mem_of_getElem? (i := 932) (by decide +kernel)⟩
theorem lw_p46 : lw_okq (⟨"SplicedWebModel", "isCause", "(I)Z"⟩, 27) := ⟨⟨by decide +kernel, by decide +kernel⟩, List.mem_of_getElem? (i := 637) (by decide +kernel), List.mem_of_getElem? (i := 935) (by decide +kernel), List.mem_of_getElem? (i := 936) (by decide +kernel)⟩
theorem lw_p47 : lw_okq (⟨"SplicedWebModel", "isSo", "(I)Z"⟩, 27) := ⟨⟨by decide +kernel, by decide +kernel⟩, List.mem_of_getElem? (i := 637) (by decide +kernel), List.mem_of_getElem? (i := 939) (by decide +kernel), List.mem_of_getElem? (i := 940) (by decide +kernel)⟩
def lw_privs_3 : List (MethodName × Nat) := [(⟨"SplicedWebModel", "copyBegins", "(Z)V"⟩, 27), (⟨"SplicedWebModel", "prints", "(I)V"⟩, 27), (⟨"SplicedWebModel", "isThere", "(I)Z"⟩, 27), (⟨"SplicedWebModel", "isSeen", "()Z"⟩, 27), (⟨"SplicedWebModel", "worst", "()I"⟩, 27), (⟨"SplicedWebModel", "corrections", "()V"⟩, 27), (⟨"SplicedWebModel", "correctedBy", "(II)V"⟩, 27), (⟨"SplicedWebModel", "waitOf", "(I)I"⟩, 27), (⟨"SplicedWebModel", "isLater", "(I)Z"⟩, 27), (⟨"SplicedWebModel", "passedTo", "(I)I"⟩, 27), (⟨"SplicedWebModel", "laysAside", "()V"⟩, 27), (⟨"SplicedWebModel", "comesBack", "()V"⟩, 27), (⟨"SplicedWebModel", "wasteBy", "(I)I"⟩, 27), (⟨"SplicedWebModel", "causes", "()I"⟩, 27), (⟨"SplicedWebModel", "isCause", "(I)Z"⟩, 27), (⟨"SplicedWebModel", "isSo", "(I)Z"⟩, 27)]
theorem lw_r3 : ∀ q ∈ lw_privs_3, lw_okq q := List.forall_mem_cons.mpr ⟨lw_p32, List.forall_mem_cons.mpr ⟨lw_p33, List.forall_mem_cons.mpr ⟨lw_p34, List.forall_mem_cons.mpr ⟨lw_p35, List.forall_mem_cons.mpr ⟨lw_p36, List.forall_mem_cons.mpr ⟨lw_p37, List.forall_mem_cons.mpr ⟨lw_p38, List.forall_mem_cons.mpr ⟨lw_p39, List.forall_mem_cons.mpr ⟨lw_p40, List.forall_mem_cons.mpr ⟨lw_p41, List.forall_mem_cons.mpr ⟨lw_p42, List.forall_mem_cons.mpr ⟨lw_p43, List.forall_mem_cons.mpr ⟨lw_p44, List.forall_mem_cons.mpr ⟨lw_p45, List.forall_mem_cons.mpr ⟨lw_p46, List.forall_mem_cons.mpr ⟨lw_p47, fun _ h => absurd h List.not_mem_nil⟩⟩⟩⟩⟩⟩⟩⟩⟩⟩⟩⟩⟩⟩⟩⟩
theorem lw_p48 : lw_okq (⟨"SplicedWebModel", "underWay", "()I"⟩, 27) := ⟨⟨by decide +kernel, by decide +kernel⟩, List.mem_of_getElem? (i := 637) (by decide +kernel), List.mem_of_getElem? (i := 962) (by decide +kernel), List.mem_of_getElem? (i := 963) (by decide +kernel)⟩
def lw_privs_4 : List (MethodName × Nat) := [(⟨"SplicedWebModel", "underWay", "()I"⟩, 27)]
theorem lw_r4 : ∀ q ∈ lw_privs_4, lw_okq q := List.forall_mem_cons.mpr ⟨lw_p48, fun _ h => absurd h List.not_mem_nil⟩
def lw_privs : List (MethodName × Nat) := lw_privs_1 ++ (lw_privs_2 ++ (lw_privs_3 ++ (lw_privs_4)))
def lw_tbl : List Cond := k2_sels lw_privs ++ tables_1
theorem lw_privs_ok : ∀ q ∈ lw_privs, lw_okq q := by
  show ∀ q ∈ lw_privs_1 ++ (lw_privs_2 ++ (lw_privs_3 ++ (lw_privs_4))), lw_okq q
  exact List.forall_mem_append.mpr ⟨lw_r1, List.forall_mem_append.mpr ⟨lw_r2, List.forall_mem_append.mpr ⟨lw_r3, lw_r4⟩⟩⟩
end
section
def RX0 : String := "SplicedWeb$Band"
def TX0 : u_T := fun k => match k with
  | 0 => ("SplicedWeb$Band", "stretch", "[I", true)
  | 1 => ("SplicedWeb$Band", "isSplice", "[I", true)
  | 2 => ("SplicedWeb$Band", "shifted", "[I", true)
  | 3 => ("SplicedWeb$Band", "errors", "[I", true)
  | 4 => ("SplicedWeb$Band", "begun", "I", false)
  | 5 => ("SplicedWeb$Band", "underWay", "I", false)
  | 6 => ("SplicedWeb$Band", "hasCome", "Z", false)
  | 7 => ("SplicedWeb$Band", "cameNumber", "I", false)
  | 8 => ("SplicedWeb$Band", "cameSplice", "Z", false)
  | 9 => ("SplicedWeb$Band", "cameGood", "Z", false)
  | _ => ("SplicedWeb$Band", "cameErrors", "[I", true)
def tyX0 : Nat → FieldType := fun k => match k with
  | 0 => .array .int
  | 1 => .array .int
  | 2 => .array .int
  | 3 => .array .int
  | 4 => .int
  | 5 => .int
  | 6 => .boolean
  | 7 => .int
  | 8 => .boolean
  | 9 => .boolean
  | _ => .array .int
abbrev wsX00 : List Cond := u_ws RX0 TX0 11
theorem nmX0 : ∀ a, a < 11 → ∀ b, b < 11 → a ≠ b → (TX0 a).2.1 ≠ (TX0 b).2.1 := by decide +kernel
theorem tyX0_ok : ∀ k, k < 11 → parseFieldDescriptor (TX0 k).2.2.1 = some (tyX0 k) := by decide +kernel
abbrev cX0_init : ByteArray := prog_2_method_1_code
def yX0_init : MethodName := ⟨RX0, "<init>", "()V"⟩
abbrev cX0_setAsAtFirst : ByteArray := prog_2_method_2_code
def yX0_setAsAtFirst : MethodName := ⟨RX0, "setAsAtFirst", "()V"⟩
abbrev cX0_takeFrom : ByteArray := prog_2_method_3_code
def yX0_takeFrom : MethodName := ⟨RX0, "takeFrom", "(LSplicedWeb$Band;)V"⟩
abbrev cX0_placeOf : ByteArray := prog_2_method_4_code
def yX0_placeOf : MethodName := ⟨RX0, "placeOf", "(I)I"⟩
abbrev cX0_begin : ByteArray := prog_2_method_5_code
def yX0_begin : MethodName := ⟨RX0, "begin", "(IZ)V"⟩
abbrev cX0_print : ByteArray := prog_2_method_6_code
def yX0_print : MethodName := ⟨RX0, "print", "(IIII)V"⟩
abbrev cX0_errorAt : ByteArray := prog_2_method_7_code
def yX0_errorAt : MethodName := ⟨RX0, "errorAt", "(II)I"⟩
abbrev cX0_come : ByteArray := prog_2_method_8_code
def yX0_come : MethodName := ⟨RX0, "come", "(I)V"⟩
abbrev cX0_cameFurtherOutThan : ByteArray := prog_2_method_9_code
def yX0_cameFurtherOutThan : MethodName := ⟨RX0, "cameFurtherOutThan", "(I)Z"⟩
def RX1 : String := "SplicedWeb$Clues"
def TX1 : u_T := fun k => match k with
  | 0 => ("SplicedWeb$Clues", "places", "[I", true)
  | 1 => ("SplicedWeb$Clues", "amounts", "[I", true)
  | _ => ("SplicedWeb$Clues", "known", "I", false)
def tyX1 : Nat → FieldType := fun k => match k with
  | 0 => .array .int
  | 1 => .array .int
  | _ => .int
abbrev wsX10 : List Cond := u_ws RX1 TX1 3
theorem nmX1 : ∀ a, a < 3 → ∀ b, b < 3 → a ≠ b → (TX1 a).2.1 ≠ (TX1 b).2.1 := by decide +kernel
theorem tyX1_ok : ∀ k, k < 3 → parseFieldDescriptor (TX1 k).2.2.1 = some (tyX1 k) := by decide +kernel
abbrev cX1_init : ByteArray := prog_3_method_1_code
def yX1_init : MethodName := ⟨RX1, "<init>", "()V"⟩
abbrev cX1_add : ByteArray := prog_3_method_2_code
def yX1_add : MethodName := ⟨RX1, "add", "(II)Z"⟩
abbrev cX1_causes : ByteArray := prog_3_method_3_code
def yX1_causes : MethodName := ⟨RX1, "causes", "(I)I"⟩
abbrev cX1_bestUnit : ByteArray := prog_3_method_4_code
def yX1_bestUnit : MethodName := ⟨RX1, "bestUnit", "(I)I"⟩
abbrev cX1_unitOf : ByteArray := prog_3_method_5_code
def yX1_unitOf : MethodName := ⟨RX1, "unitOf", "(I)I"⟩
abbrev cX1_fitsAny : ByteArray := prog_3_method_6_code
def yX1_fitsAny : MethodName := ⟨RX1, "fitsAny", "(I)Z"⟩
abbrev cX1_fits : ByteArray := prog_3_method_7_code
def yX1_fits : MethodName := ⟨RX1, "fits", "(II)Z"⟩
abbrev cX1_silentAt : ByteArray := prog_3_method_8_code
def yX1_silentAt : MethodName := ⟨RX1, "silentAt", "(II)I"⟩
abbrev cX1_effect : ByteArray := prog_3_method_9_code
def yX1_effect : MethodName := ⟨RX1, "effect", "(III)I"⟩
def RX2 : String := "SplicedWeb$History"
def TX2 : u_T := fun k => match k with
  | 0 => ("SplicedWeb$History", "rows", "[LSplicedWeb$Press;", true)
  | 1 => ("SplicedWeb$History", "newest", "I", false)
  | _ => ("SplicedWeb$History", "known", "I", false)
def tyX2 : Nat → FieldType := fun k => match k with
  | 0 => .array (.object "SplicedWeb$Press")
  | 1 => .int
  | _ => .int
abbrev wsX20 : List Cond := u_ws RX2 TX2 3
theorem nmX2 : ∀ a, a < 3 → ∀ b, b < 3 → a ≠ b → (TX2 a).2.1 ≠ (TX2 b).2.1 := by decide +kernel
theorem tyX2_ok : ∀ k, k < 3 → parseFieldDescriptor (TX2 k).2.2.1 = some (tyX2 k) := by decide +kernel
abbrev cX2_init : ByteArray := prog_4_method_1_code
def yX2_init : MethodName := ⟨RX2, "<init>", "()V"⟩
abbrev cX2_remember : ByteArray := prog_4_method_2_code
def yX2_remember : MethodName := ⟨RX2, "remember", "(LSplicedWeb$Press;)V"⟩
abbrev cX2_restore : ByteArray := prog_4_method_3_code
def yX2_restore : MethodName := ⟨RX2, "restore", "(LSplicedWeb$Press;)V"⟩
def RX3 : String := "SplicedWeb$Plan"
def TX3 : u_T := fun k => match k with
  | 0 => ("SplicedWeb$Plan", "gap", "[I", true)
  | 1 => ("SplicedWeb$Plan", "way", "[I", true)
  | 2 => ("SplicedWeb$Plan", "copies", "[I", true)
  | 3 => ("SplicedWeb$Plan", "stretch", "[I", true)
  | 4 => ("SplicedWeb$Plan", "units", "I", false)
  | 5 => ("SplicedWeb$Plan", "reels", "I", false)
  | 6 => ("SplicedWeb$Plan", "eye", "I", false)
  | 7 => ("SplicedWeb$Plan", "limit", "I", false)
  | 8 => ("SplicedWeb$Plan", "idle", "I", false)
  | _ => ("SplicedWeb$Plan", "spin", "I", false)
def tyX3 : Nat → FieldType := fun k => match k with
  | 0 => .array .int
  | 1 => .array .int
  | 2 => .array .int
  | 3 => .array .int
  | 4 => .int
  | 5 => .int
  | 6 => .int
  | 7 => .int
  | 8 => .int
  | _ => .int
abbrev wsX30 : List Cond := u_ws RX3 TX3 10
theorem nmX3 : ∀ a, a < 10 → ∀ b, b < 10 → a ≠ b → (TX3 a).2.1 ≠ (TX3 b).2.1 := by decide +kernel
theorem tyX3_ok : ∀ k, k < 10 → parseFieldDescriptor (TX3 k).2.2.1 = some (tyX3 k) := by decide +kernel
abbrev cX3_init : ByteArray := prog_5_method_1_code
def yX3_init : MethodName := ⟨RX3, "<init>", "()V"⟩
abbrev cX3_setAsAtFirst : ByteArray := prog_5_method_2_code
def yX3_setAsAtFirst : MethodName := ⟨RX3, "setAsAtFirst", "()V"⟩
abbrev cX3_addUnit : ByteArray := prog_5_method_3_code
def yX3_addUnit : MethodName := ⟨RX3, "addUnit", "(I)V"⟩
abbrev cX3_addReel : ByteArray := prog_5_method_4_code
def yX3_addReel : MethodName := ⟨RX3, "addReel", "(II)V"⟩
abbrev cX3_hasUnit : ByteArray := prog_5_method_5_code
def yX3_hasUnit : MethodName := ⟨RX3, "hasUnit", "(I)Z"⟩
abbrev cX3_isMovable : ByteArray := prog_5_method_6_code
def yX3_isMovable : MethodName := ⟨RX3, "isMovable", "(I)Z"⟩
abbrev cX3_hasReel : ByteArray := prog_5_method_7_code
def yX3_hasReel : MethodName := ⟨RX3, "hasReel", "(I)Z"⟩
abbrev cX3_ticksToCameraFrom : ByteArray := prog_5_method_8_code
def yX3_ticksToCameraFrom : MethodName := ⟨RX3, "ticksToCameraFrom", "(I)I"⟩
def RX4 : String := "SplicedWeb$Press"
def TX4 : u_T := fun k => match k with
  | 0 => ("SplicedWeb$Press", "off", "[I", true)
  | 1 => ("SplicedWeb$Press", "shift", "[I", true)
  | 2 => ("SplicedWeb$Press", "waits", "[I", true)
  | 3 => ("SplicedWeb$Press", "passes", "[I", true)
  | 4 => ("SplicedWeb$Press", "band", "LSplicedWeb$Band;", true)
  | 5 => ("SplicedWeb$Press", "on", "I", false)
  | 6 => ("SplicedWeb$Press", "left", "I", false)
  | 7 => ("SplicedWeb$Press", "spun", "I", false)
  | 8 => ("SplicedWeb$Press", "runs", "Z", false)
  | 9 => ("SplicedWeb$Press", "ahead", "Z", false)
  | 10 => ("SplicedWeb$Press", "ticksEver", "I", false)
  | 11 => ("SplicedWeb$Press", "good", "I", false)
  | 12 => ("SplicedWeb$Press", "waste", "I", false)
  | _ => ("SplicedWeb$Press", "splices", "I", false)
def tyX4 : Nat → FieldType := fun k => match k with
  | 0 => .array .int
  | 1 => .array .int
  | 2 => .array .int
  | 3 => .array .int
  | 4 => .object "SplicedWeb$Band"
  | 5 => .int
  | 6 => .int
  | 7 => .int
  | 8 => .boolean
  | 9 => .boolean
  | 10 => .int
  | 11 => .int
  | 12 => .int
  | _ => .int
abbrev wsX40 : List Cond := u_ws RX4 TX4 14
theorem nmX4 : ∀ a, a < 14 → ∀ b, b < 14 → a ≠ b → (TX4 a).2.1 ≠ (TX4 b).2.1 := by decide +kernel
theorem tyX4_ok : ∀ k, k < 14 → parseFieldDescriptor (TX4 k).2.2.1 = some (tyX4 k) := by decide +kernel
abbrev cX4_init : ByteArray := prog_6_method_1_code
def yX4_init : MethodName := ⟨RX4, "<init>", "()V"⟩
abbrev cX4_setAsAtFirst : ByteArray := prog_6_method_2_code
def yX4_setAsAtFirst : MethodName := ⟨RX4, "setAsAtFirst", "(LSplicedWeb$Plan;)V"⟩
abbrev cX4_takeFrom : ByteArray := prog_6_method_3_code
def yX4_takeFrom : MethodName := ⟨RX4, "takeFrom", "(LSplicedWeb$Press;)V"⟩
abbrev cX4_nextReel : ByteArray := prog_6_method_4_code
def yX4_nextReel : MethodName := ⟨RX4, "nextReel", "(LSplicedWeb$Plan;)I"⟩
abbrev cX4_leftOn : ByteArray := prog_6_method_5_code
def yX4_leftOn : MethodName := ⟨RX4, "leftOn", "(LSplicedWeb$Plan;I)I"⟩
abbrev cX4_toBePassed : ByteArray := prog_6_method_6_code
def yX4_toBePassed : MethodName := ⟨RX4, "toBePassed", "(I)I"⟩
abbrev cX4_passPlace : ByteArray := prog_6_method_7_code
def yX4_passPlace : MethodName := ⟨RX4, "passPlace", "(II)I"⟩
abbrev cX4_correct : ByteArray := prog_6_method_8_code
def yX4_correct : MethodName := ⟨RX4, "correct", "(LSplicedWeb$Plan;II)V"⟩
abbrev cX4_tickTimes : ByteArray := prog_6_method_9_code
def yX4_tickTimes : MethodName := ⟨RX4, "tickTimes", "(LSplicedWeb$Plan;I)V"⟩
abbrev cX4_tick : ByteArray := prog_6_method_10_code
def yX4_tick : MethodName := ⟨RX4, "tick", "(LSplicedWeb$Plan;)Z"⟩
abbrev cX4_canPaste : ByteArray := prog_6_method_11_code
def yX4_canPaste : MethodName := ⟨RX4, "canPaste", "(LSplicedWeb$Plan;)Z"⟩
abbrev cX4_makeReadyToPaste : ByteArray := prog_6_method_12_code
def yX4_makeReadyToPaste : MethodName := ⟨RX4, "makeReadyToPaste", "(LSplicedWeb$Plan;)V"⟩
abbrev cX4_mountNext : ByteArray := prog_6_method_13_code
def yX4_mountNext : MethodName := ⟨RX4, "mountNext", "(LSplicedWeb$Plan;)V"⟩
abbrev cX4_breakOff : ByteArray := prog_6_method_14_code
def yX4_breakOff : MethodName := ⟨RX4, "breakOff", "()V"⟩
abbrev cX4_restart : ByteArray := prog_6_method_15_code
def yX4_restart : MethodName := ⟨RX4, "restart", "(LSplicedWeb$Plan;)V"⟩
abbrev cX4_print : ByteArray := prog_6_method_16_code
def yX4_print : MethodName := ⟨RX4, "print", "(LSplicedWeb$Plan;)V"⟩
abbrev cX4_judge : ByteArray := prog_6_method_17_code
def yX4_judge : MethodName := ⟨RX4, "judge", "(LSplicedWeb$Plan;)V"⟩
abbrev cX4_adjust : ByteArray := prog_6_method_18_code
def yX4_adjust : MethodName := ⟨RX4, "adjust", "(LSplicedWeb$Plan;)V"⟩
def RX5 : String := "SplicedWeb$Text"
def TX5 : u_T := fun k => match k with
  | 0 => ("SplicedWeb$Text", "letters", "[I", true)
  | 1 => ("SplicedWeb$Text", "length", "I", false)
  | 2 => ("SplicedWeb$Text", "at", "I", false)
  | 3 => ("SplicedWeb$Text", "tokenStart", "I", false)
  | 4 => ("SplicedWeb$Text", "kind", "I", false)
  | 5 => ("SplicedWeb$Text", "value", "I", false)
  | _ => ("SplicedWeb$Text", "toldBits", "I", false)
def tyX5 : Nat → FieldType := fun k => match k with
  | 0 => .array .int
  | 1 => .int
  | 2 => .int
  | 3 => .int
  | 4 => .int
  | 5 => .int
  | _ => .int
abbrev wsX50 : List Cond := u_ws RX5 TX5 7
theorem nmX5 : ∀ a, a < 7 → ∀ b, b < 7 → a ≠ b → (TX5 a).2.1 ≠ (TX5 b).2.1 := by decide +kernel
theorem tyX5_ok : ∀ k, k < 7 → parseFieldDescriptor (TX5 k).2.2.1 = some (tyX5 k) := by decide +kernel
abbrev cX5_init : ByteArray := prog_7_method_1_code
def yX5_init : MethodName := ⟨RX5, "<init>", "()V"⟩
abbrev cX5_add : ByteArray := prog_7_method_2_code
def yX5_add : MethodName := ⟨RX5, "add", "(I)Z"⟩
abbrev cX5_readInto : ByteArray := prog_7_method_3_code
def yX5_readInto : MethodName := ⟨RX5, "readInto", "(LSplicedWeb$Plan;)I"⟩
abbrev cX5_readItem : ByteArray := prog_7_method_4_code
def yX5_readItem : MethodName := ⟨RX5, "readItem", "(LSplicedWeb$Plan;)Z"⟩
abbrev cX5_mayBegin : ByteArray := prog_7_method_5_code
def yX5_mayBegin : MethodName := ⟨RX5, "mayBegin", "(LSplicedWeb$Plan;I)Z"⟩
abbrev cX5_onceBit : ByteArray := prog_7_method_6_code
def yX5_onceBit : MethodName := ⟨RX5, "onceBit", "(I)I"⟩
abbrev cX5_readReel : ByteArray := prog_7_method_7_code
def yX5_readReel : MethodName := ⟨RX5, "readReel", "(LSplicedWeb$Plan;)Z"⟩
abbrev cX5_readSetting : ByteArray := prog_7_method_8_code
def yX5_readSetting : MethodName := ⟨RX5, "readSetting", "(LSplicedWeb$Plan;I)Z"⟩
abbrev cX5_highest : ByteArray := prog_7_method_9_code
def yX5_highest : MethodName := ⟨RX5, "highest", "(I)I"⟩
abbrev cX5_takeNumber : ByteArray := prog_7_method_10_code
def yX5_takeNumber : MethodName := ⟨RX5, "takeNumber", "(II)I"⟩
abbrev cX5_stepOn : ByteArray := prog_7_method_11_code
def yX5_stepOn : MethodName := ⟨RX5, "stepOn", "()V"⟩
abbrev cX5_stepOverNumber : ByteArray := prog_7_method_12_code
def yX5_stepOverNumber : MethodName := ⟨RX5, "stepOverNumber", "()V"⟩
abbrev cX5_isFigure : ByteArray := prog_7_method_13_code
def yX5_isFigure : MethodName := ⟨RX5, "isFigure", "(I)Z"⟩
def RX6 : String := "SplicedWeb"
def TX6 : u_T := fun k => match k with
  | 0 => ("SplicedWeb", "text", "LSplicedWeb$Text;", true)
  | 1 => ("SplicedWeb", "plan", "LSplicedWeb$Plan;", false)
  | 2 => ("SplicedWeb", "draft", "LSplicedWeb$Plan;", false)
  | 3 => ("SplicedWeb", "press", "LSplicedWeb$Press;", true)
  | 4 => ("SplicedWeb", "trial", "LSplicedWeb$Press;", true)
  | 5 => ("SplicedWeb", "history", "LSplicedWeb$History;", true)
  | 6 => ("SplicedWeb", "images", "[LSplicedWeb$Press;", true)
  | 7 => ("SplicedWeb", "isKept", "[Z", true)
  | _ => ("SplicedWeb", "clues", "LSplicedWeb$Clues;", true)
def tyX6 : Nat → FieldType := fun k => match k with
  | 0 => .object "SplicedWeb$Text"
  | 1 => .object "SplicedWeb$Plan"
  | 2 => .object "SplicedWeb$Plan"
  | 3 => .object "SplicedWeb$Press"
  | 4 => .object "SplicedWeb$Press"
  | 5 => .object "SplicedWeb$History"
  | 6 => .array (.object "SplicedWeb$Press")
  | 7 => .array .boolean
  | _ => .object "SplicedWeb$Clues"
abbrev wsX60 : List Cond := u_ws RX6 TX6 9
theorem nmX6 : ∀ a, a < 9 → ∀ b, b < 9 → a ≠ b → (TX6 a).2.1 ≠ (TX6 b).2.1 := by decide +kernel
theorem tyX6_ok : ∀ k, k < 9 → parseFieldDescriptor (TX6 k).2.2.1 = some (tyX6 k) := by decide +kernel
abbrev cX6_init : ByteArray := prog_1_method_1_code
def yX6_init : MethodName := ⟨RX6, "<init>", "()V"⟩
abbrev cX6_type : ByteArray := prog_1_method_2_code
def yX6_type : MethodName := ⟨RX6, "type", "(I)I"⟩
abbrev cX6_clear : ByteArray := prog_1_method_3_code
def yX6_clear : MethodName := ⟨RX6, "clear", "()I"⟩
abbrev cX6_tells : ByteArray := prog_1_method_4_code
def yX6_tells : MethodName := ⟨RX6, "tells", "()I"⟩
abbrev cX6_ticks : ByteArray := prog_1_method_5_code
def yX6_ticks : MethodName := ⟨RX6, "ticks", "(I)I"⟩
abbrev cX6_drifts : ByteArray := prog_1_method_6_code
def yX6_drifts : MethodName := ⟨RX6, "drifts", "(II)I"⟩
abbrev cX6_corrects : ByteArray := prog_1_method_7_code
def yX6_corrects : MethodName := ⟨RX6, "corrects", "(II)I"⟩
abbrev cX6_spins : ByteArray := prog_1_method_8_code
def yX6_spins : MethodName := ⟨RX6, "spins", "()I"⟩
abbrev cX6_starts : ByteArray := prog_1_method_9_code
def yX6_starts : MethodName := ⟨RX6, "starts", "()I"⟩
abbrev cX6_aheads : ByteArray := prog_1_method_10_code
def yX6_aheads : MethodName := ⟨RX6, "aheads", "(I)I"⟩
abbrev cX6_undo : ByteArray := prog_1_method_11_code
def yX6_undo : MethodName := ⟨RX6, "undo", "()I"⟩
abbrev cX6_unit : ByteArray := prog_1_method_12_code
def yX6_unit : MethodName := ⟨RX6, "unit", "(II)I"⟩
abbrev cX6_reel : ByteArray := prog_1_method_13_code
def yX6_reel : MethodName := ⟨RX6, "reel", "(II)I"⟩
abbrev cX6_last : ByteArray := prog_1_method_14_code
def yX6_last : MethodName := ⟨RX6, "last", "(I)I"⟩
abbrev cX6_error : ByteArray := prog_1_method_15_code
def yX6_error : MethodName := ⟨RX6, "error", "(II)I"⟩
abbrev cX6_steady : ByteArray := prog_1_method_16_code
def yX6_steady : MethodName := ⟨RX6, "steady", "()I"⟩
abbrev cX6_cost : ByteArray := prog_1_method_17_code
def yX6_cost : MethodName := ⟨RX6, "cost", "()I"⟩
abbrev cX6_sees : ByteArray := prog_1_method_18_code
def yX6_sees : MethodName := ⟨RX6, "sees", "(II)I"⟩
abbrev cX6_forget : ByteArray := prog_1_method_19_code
def yX6_forget : MethodName := ⟨RX6, "forget", "()I"⟩
abbrev cX6_which : ByteArray := prog_1_method_20_code
def yX6_which : MethodName := ⟨RX6, "which", "()I"⟩
abbrev cX6_look : ByteArray := prog_1_method_21_code
def yX6_look : MethodName := ⟨RX6, "look", "()I"⟩
abbrev cX6_keep : ByteArray := prog_1_method_22_code
def yX6_keep : MethodName := ⟨RX6, "keep", "(I)I"⟩
abbrev cX6_back : ByteArray := prog_1_method_23_code
def yX6_back : MethodName := ⟨RX6, "back", "(I)I"⟩
abbrev cX6_count : ByteArray := prog_1_method_24_code
def yX6_count : MethodName := ⟨RX6, "count", "(I)I"⟩
abbrev cX6_isWithin : ByteArray := prog_1_method_25_code
def yX6_isWithin : MethodName := ⟨RX6, "isWithin", "(III)Z"⟩
def RX7 : String := "SplicedWebModel"
def TX7 : u_T := fun k => match k with
  | 0 => ("SplicedWebModel", "now", "[I", true)
  | 1 => ("SplicedWebModel", "aside", "[I", true)
  | 2 => ("SplicedWebModel", "past", "[I", true)
  | 3 => ("SplicedWebModel", "undone", "I", false)
  | 4 => ("SplicedWebModel", "images", "[I", true)
  | 5 => ("SplicedWebModel", "isKept", "[Z", true)
  | 6 => ("SplicedWebModel", "text", "[I", true)
  | 7 => ("SplicedWebModel", "letters", "I", false)
  | 8 => ("SplicedWebModel", "facts", "[I", true)
  | 9 => ("SplicedWebModel", "seen", "I", false)
  | 10 => ("SplicedWebModel", "units", "I", false)
  | 11 => ("SplicedWebModel", "gap", "[I", true)
  | 12 => ("SplicedWebModel", "way", "[I", true)
  | 13 => ("SplicedWebModel", "reels", "I", false)
  | 14 => ("SplicedWebModel", "copies", "[I", true)
  | 15 => ("SplicedWebModel", "stretches", "[I", true)
  | 16 => ("SplicedWebModel", "setting", "[I", true)
  | 17 => ("SplicedWebModel", "readUnits", "I", false)
  | 18 => ("SplicedWebModel", "readReels", "I", false)
  | 19 => ("SplicedWebModel", "readGap", "[I", true)
  | 20 => ("SplicedWebModel", "readCopies", "[I", true)
  | 21 => ("SplicedWebModel", "readStretch", "[I", true)
  | 22 => ("SplicedWebModel", "readSetting", "[I", true)
  | 23 => ("SplicedWebModel", "isRead", "[Z", true)
  | 24 => ("SplicedWebModel", "spot", "I", false)
  | 25 => ("SplicedWebModel", "tokenAt", "I", false)
  | _ => ("SplicedWebModel", "value", "I", false)
def tyX7 : Nat → FieldType := fun k => match k with
  | 0 => .array .int
  | 1 => .array .int
  | 2 => .array .int
  | 3 => .int
  | 4 => .array .int
  | 5 => .array .boolean
  | 6 => .array .int
  | 7 => .int
  | 8 => .array .int
  | 9 => .int
  | 10 => .int
  | 11 => .array .int
  | 12 => .array .int
  | 13 => .int
  | 14 => .array .int
  | 15 => .array .int
  | 16 => .array .int
  | 17 => .int
  | 18 => .int
  | 19 => .array .int
  | 20 => .array .int
  | 21 => .array .int
  | 22 => .array .int
  | 23 => .array .boolean
  | 24 => .int
  | 25 => .int
  | _ => .int
abbrev wsX70 : List Cond := u_ws RX7 TX7 27
theorem nmX7 : ∀ a, a < 27 → ∀ b, b < 27 → a ≠ b → (TX7 a).2.1 ≠ (TX7 b).2.1 := by decide +kernel
theorem tyX7_ok : ∀ k, k < 27 → parseFieldDescriptor (TX7 k).2.2.1 = some (tyX7 k) := by decide +kernel
abbrev cX7_init : ByteArray := prog_9_method_1_code
def yX7_init : MethodName := ⟨RX7, "<init>", "()V"⟩
abbrev cX7_in : ByteArray := prog_9_method_3_code
def yX7_in : MethodName := ⟨RX7, "in", "(III)Z"⟩
abbrev cX7_size : ByteArray := prog_9_method_4_code
def yX7_size : MethodName := ⟨RX7, "size", "(I)I"⟩
abbrev cX7_begins : ByteArray := prog_9_method_5_code
def yX7_begins : MethodName := ⟨RX7, "begins", "()V"⟩
abbrev cX7_takes : ByteArray := prog_9_method_6_code
def yX7_takes : MethodName := ⟨RX7, "takes", "()V"⟩
abbrev cX7_blanks : ByteArray := prog_9_method_7_code
def yX7_blanks : MethodName := ⟨RX7, "blanks", "()V"⟩
abbrev cX7_isAt : ByteArray := prog_9_method_8_code
def yX7_isAt : MethodName := ⟨RX7, "isAt", "(II)Z"⟩
abbrev cX7_takesSign : ByteArray := prog_9_method_9_code
def yX7_takesSign : MethodName := ⟨RX7, "takesSign", "(I)Z"⟩
abbrev cX7_takesNumber : ByteArray := prog_9_method_10_code
def yX7_takesNumber : MethodName := ⟨RX7, "takesNumber", "(II)Z"⟩
abbrev cX7_takesUnit : ByteArray := prog_9_method_11_code
def yX7_takesUnit : MethodName := ⟨RX7, "takesUnit", "()Z"⟩
abbrev cX7_takesReel : ByteArray := prog_9_method_12_code
def yX7_takesReel : MethodName := ⟨RX7, "takesReel", "()Z"⟩
abbrev cX7_takesSetting : ByteArray := prog_9_method_13_code
def yX7_takesSetting : MethodName := ⟨RX7, "takesSetting", "(I)Z"⟩
abbrev cX7_takesItem : ByteArray := prog_9_method_14_code
def yX7_takesItem : MethodName := ⟨RX7, "takesItem", "()Z"⟩
abbrev cX7_reads : ByteArray := prog_9_method_15_code
def yX7_reads : MethodName := ⟨RX7, "reads", "()I"⟩
abbrev cX7_type : ByteArray := prog_9_method_16_code
def yX7_type : MethodName := ⟨RX7, "type", "(I)I"⟩
abbrev cX7_clear : ByteArray := prog_9_method_17_code
def yX7_clear : MethodName := ⟨RX7, "clear", "()I"⟩
abbrev cX7_tells : ByteArray := prog_9_method_18_code
def yX7_tells : MethodName := ⟨RX7, "tells", "()I"⟩
abbrev cX7_remembers : ByteArray := prog_9_method_19_code
def yX7_remembers : MethodName := ⟨RX7, "remembers", "()V"⟩
abbrev cX7_undo : ByteArray := prog_9_method_20_code
def yX7_undo : MethodName := ⟨RX7, "undo", "()I"⟩
abbrev cX7_laysAside : ByteArray := prog_9_method_21_code
def yX7_laysAside : MethodName := ⟨RX7, "laysAside", "()V"⟩
abbrev cX7_comesBack : ByteArray := prog_9_method_22_code
def yX7_comesBack : MethodName := ⟨RX7, "comesBack", "()V"⟩
abbrev cX7_nextReel : ByteArray := prog_9_method_23_code
def yX7_nextReel : MethodName := ⟨RX7, "nextReel", "()I"⟩
abbrev cX7_goesOnReel : ByteArray := prog_9_method_24_code
def yX7_goesOnReel : MethodName := ⟨RX7, "goesOnReel", "()V"⟩
abbrev cX7_copyPlace : ByteArray := prog_9_method_25_code
def yX7_copyPlace : MethodName := ⟨RX7, "copyPlace", "(I)I"⟩
abbrev cX7_isThere : ByteArray := prog_9_method_26_code
def yX7_isThere : MethodName := ⟨RX7, "isThere", "(I)Z"⟩
abbrev cX7_breaks : ByteArray := prog_9_method_27_code
def yX7_breaks : MethodName := ⟨RX7, "breaks", "()V"⟩
abbrev cX7_copyBegins : ByteArray := prog_9_method_28_code
def yX7_copyBegins : MethodName := ⟨RX7, "copyBegins", "(Z)V"⟩
abbrev cX7_passedPlace : ByteArray := prog_9_method_29_code
def yX7_passedPlace : MethodName := ⟨RX7, "passedPlace", "(II)I"⟩
abbrev cX7_prints : ByteArray := prog_9_method_30_code
def yX7_prints : MethodName := ⟨RX7, "prints", "(I)V"⟩
abbrev cX7_waitOf : ByteArray := prog_9_method_31_code
def yX7_waitOf : MethodName := ⟨RX7, "waitOf", "(I)I"⟩
abbrev cX7_correctedBy : ByteArray := prog_9_method_32_code
def yX7_correctedBy : MethodName := ⟨RX7, "correctedBy", "(II)V"⟩
abbrev cX7_worst : ByteArray := prog_9_method_33_code
def yX7_worst : MethodName := ⟨RX7, "worst", "()I"⟩
abbrev cX7_isSeen : ByteArray := prog_9_method_34_code
def yX7_isSeen : MethodName := ⟨RX7, "isSeen", "()Z"⟩
abbrev cX7_corrections : ByteArray := prog_9_method_35_code
def yX7_corrections : MethodName := ⟨RX7, "corrections", "()V"⟩
abbrev cX7_goes : ByteArray := prog_9_method_36_code
def yX7_goes : MethodName := ⟨RX7, "goes", "(I)Z"⟩
abbrev cX7_ticks : ByteArray := prog_9_method_37_code
def yX7_ticks : MethodName := ⟨RX7, "ticks", "(I)I"⟩
abbrev cX7_isLater : ByteArray := prog_9_method_38_code
def yX7_isLater : MethodName := ⟨RX7, "isLater", "(I)Z"⟩
abbrev cX7_drifts : ByteArray := prog_9_method_39_code
def yX7_drifts : MethodName := ⟨RX7, "drifts", "(II)I"⟩
abbrev cX7_corrects : ByteArray := prog_9_method_40_code
def yX7_corrects : MethodName := ⟨RX7, "corrects", "(II)I"⟩
abbrev cX7_spins : ByteArray := prog_9_method_41_code
def yX7_spins : MethodName := ⟨RX7, "spins", "()I"⟩
abbrev cX7_starts : ByteArray := prog_9_method_42_code
def yX7_starts : MethodName := ⟨RX7, "starts", "()I"⟩
abbrev cX7_aheads : ByteArray := prog_9_method_43_code
def yX7_aheads : MethodName := ⟨RX7, "aheads", "(I)I"⟩
abbrev cX7_passedTo : ByteArray := prog_9_method_44_code
def yX7_passedTo : MethodName := ⟨RX7, "passedTo", "(I)I"⟩
abbrev cX7_unit : ByteArray := prog_9_method_45_code
def yX7_unit : MethodName := ⟨RX7, "unit", "(II)I"⟩
abbrev cX7_reel : ByteArray := prog_9_method_46_code
def yX7_reel : MethodName := ⟨RX7, "reel", "(II)I"⟩
abbrev cX7_last : ByteArray := prog_9_method_47_code
def yX7_last : MethodName := ⟨RX7, "last", "(I)I"⟩
abbrev cX7_error : ByteArray := prog_9_method_48_code
def yX7_error : MethodName := ⟨RX7, "error", "(II)I"⟩
abbrev cX7_steady : ByteArray := prog_9_method_49_code
def yX7_steady : MethodName := ⟨RX7, "steady", "()I"⟩
abbrev cX7_wasteBy : ByteArray := prog_9_method_50_code
def yX7_wasteBy : MethodName := ⟨RX7, "wasteBy", "(I)I"⟩
abbrev cX7_cost : ByteArray := prog_9_method_51_code
def yX7_cost : MethodName := ⟨RX7, "cost", "()I"⟩
abbrev cX7_sees : ByteArray := prog_9_method_52_code
def yX7_sees : MethodName := ⟨RX7, "sees", "(II)I"⟩
abbrev cX7_forget : ByteArray := prog_9_method_53_code
def yX7_forget : MethodName := ⟨RX7, "forget", "()I"⟩
abbrev cX7_times : ByteArray := prog_9_method_54_code
def yX7_times : MethodName := ⟨RX7, "times", "(II)I"⟩
abbrev cX7_isCause : ByteArray := prog_9_method_55_code
def yX7_isCause : MethodName := ⟨RX7, "isCause", "(I)Z"⟩
abbrev cX7_isSo : ByteArray := prog_9_method_56_code
def yX7_isSo : MethodName := ⟨RX7, "isSo", "(I)Z"⟩
abbrev cX7_causes : ByteArray := prog_9_method_57_code
def yX7_causes : MethodName := ⟨RX7, "causes", "()I"⟩
abbrev cX7_which : ByteArray := prog_9_method_58_code
def yX7_which : MethodName := ⟨RX7, "which", "()I"⟩
abbrev cX7_look : ByteArray := prog_9_method_59_code
def yX7_look : MethodName := ⟨RX7, "look", "()I"⟩
abbrev cX7_keep : ByteArray := prog_9_method_60_code
def yX7_keep : MethodName := ⟨RX7, "keep", "(I)I"⟩
abbrev cX7_back : ByteArray := prog_9_method_61_code
def yX7_back : MethodName := ⟨RX7, "back", "(I)I"⟩
abbrev cX7_underWay : ByteArray := prog_9_method_62_code
def yX7_underWay : MethodName := ⟨RX7, "underWay", "()I"⟩
abbrev cX7_count : ByteArray := prog_9_method_63_code
def yX7_count : MethodName := ⟨RX7, "count", "(I)I"⟩
def RJ6 : String := "java/lang/Integer"
def TJ6 : u_T := fun k => match k with
  | _ => ("", "", "", false)
def tyJ6 : Nat → FieldType := fun k => match k with
  | _ => .int
abbrev wsJ60 : List Cond := u_ws RJ6 TJ6 0
theorem nmJ6 : ∀ a, a < 0 → ∀ b, b < 0 → a ≠ b → (TJ6 a).2.1 ≠ (TJ6 b).2.1 := by decide +kernel
theorem tyJ6_ok : ∀ k, k < 0 → parseFieldDescriptor (TJ6 k).2.2.1 = some (tyJ6 k) := by decide +kernel
abbrev cJ6_bitCount_0f7a4 : ByteArray := prog_10_method_49_code
def yJ6_bitCount_0f7a4 : MethodName := ⟨RJ6, "bitCount", "(I)I"⟩
def RJ9 : String := "java/lang/Math"
def TJ9 : u_T := fun k => match k with
  | _ => ("", "", "", false)
def tyJ9 : Nat → FieldType := fun k => match k with
  | _ => .int
abbrev wsJ90 : List Cond := u_ws RJ9 TJ9 0
theorem nmJ9 : ∀ a, a < 0 → ∀ b, b < 0 → a ≠ b → (TJ9 a).2.1 ≠ (TJ9 b).2.1 := by decide +kernel
theorem tyJ9_ok : ∀ k, k < 0 → parseFieldDescriptor (TJ9 k).2.2.1 = some (tyJ9 k) := by decide +kernel
abbrev cJ9_abs_0f7a4 : ByteArray := prog_11_method_59_code
def yJ9_abs_0f7a4 : MethodName := ⟨RJ9, "abs", "(I)I"⟩
abbrev cJ9_max_7cf53 : ByteArray := prog_11_method_65_code
def yJ9_max_7cf53 : MethodName := ⟨RJ9, "max", "(II)I"⟩
abbrev cJ9_min_7cf53 : ByteArray := prog_11_method_69_code
def yJ9_min_7cf53 : MethodName := ⟨RJ9, "min", "(II)I"⟩
def RJ10 : String := "java/lang/System"
def TJ10 : u_T := fun k => match k with
  | _ => ("", "", "", false)
def tyJ10 : Nat → FieldType := fun k => match k with
  | _ => .int
abbrev wsJ100 : List Cond := u_ws RJ10 TJ10 0
theorem nmJ10 : ∀ a, a < 0 → ∀ b, b < 0 → a ≠ b → (TJ10 a).2.1 ≠ (TJ10 b).2.1 := by decide +kernel
theorem tyJ10_ok : ∀ k, k < 0 → parseFieldDescriptor (TJ10 k).2.2.1 = some (tyJ10 k) := by decide +kernel
def RJ7 : String := "java/util/Arrays"
def TJ7 : u_T := fun k => match k with
  | _ => ("", "", "", false)
def tyJ7 : Nat → FieldType := fun k => match k with
  | _ => .int
abbrev wsJ70 : List Cond := u_ws RJ7 TJ7 0
theorem nmJ7 : ∀ a, a < 0 → ∀ b, b < 0 → a ≠ b → (TJ7 a).2.1 ≠ (TJ7 b).2.1 := by decide +kernel
theorem tyJ7_ok : ∀ k, k < 0 → parseFieldDescriptor (TJ7 k).2.2.1 = some (tyJ7 k) := by decide +kernel
abbrev cJ7_fill_53178 : ByteArray := prog_13_method_103_code
def yJ7_fill_53178 : MethodName := ⟨RJ7, "fill", "([II)V"⟩
def RL : String := "SplicedWebLaw"
abbrev cL_law : ByteArray := code
def yL_law : MethodName := ⟨RL, "law", "([I)Z"⟩
abbrev vwCl : List vw_C := [(RX0, TX0, 11), (RX1, TX1, 3), (RX2, TX2, 3), (RX3, TX3, 10), (RX4, TX4, 14), (RX5, TX5, 7), (RX6, TX6, 9), (RX7, TX7, 27)]
end
section
theorem dX0_init_0 : decode cX0_init 0 = .ok (.aload_n 0, 1) := by decide +kernel
theorem dX0_init_1 : decode cX0_init 1 = .ok (.invokespecial 3, 3) := by decide +kernel
theorem dX0_init_4 : decode cX0_init 4 = .ok (.aload_n 0, 1) := by decide +kernel
theorem dX0_init_5 : decode cX0_init 5 = .ok (.bipush 32, 2) := by decide +kernel
theorem dX0_init_7 : decode cX0_init 7 = .ok (.newarray .int, 2) := by decide +kernel
theorem dX0_init_9 : decode cX0_init 9 = .ok (.putfield 11, 3) := by decide +kernel
theorem dX0_init_12 : decode cX0_init 12 = .ok (.aload_n 0, 1) := by decide +kernel
theorem dX0_init_13 : decode cX0_init 13 = .ok (.bipush 32, 2) := by decide +kernel
theorem dX0_init_15 : decode cX0_init 15 = .ok (.newarray .int, 2) := by decide +kernel
theorem dX0_init_17 : decode cX0_init 17 = .ok (.putfield 15, 3) := by decide +kernel
theorem dX0_init_20 : decode cX0_init 20 = .ok (.aload_n 0, 1) := by decide +kernel
theorem dX0_init_21 : decode cX0_init 21 = .ok (.bipush 32, 2) := by decide +kernel
theorem dX0_init_23 : decode cX0_init 23 = .ok (.newarray .int, 2) := by decide +kernel
theorem dX0_init_25 : decode cX0_init 25 = .ok (.putfield 18, 3) := by decide +kernel
theorem dX0_init_28 : decode cX0_init 28 = .ok (.aload_n 0, 1) := by decide +kernel
theorem dX0_init_29 : decode cX0_init 29 = .ok (.sipush 128, 3) := by decide +kernel
theorem dX0_init_32 : decode cX0_init 32 = .ok (.newarray .int, 2) := by decide +kernel
theorem dX0_init_34 : decode cX0_init 34 = .ok (.putfield 21, 3) := by decide +kernel
theorem dX0_init_37 : decode cX0_init 37 = .ok (.aload_n 0, 1) := by decide +kernel
theorem dX0_init_38 : decode cX0_init 38 = .ok (.iconst 4, 1) := by decide +kernel
theorem dX0_init_39 : decode cX0_init 39 = .ok (.newarray .int, 2) := by decide +kernel
theorem dX0_init_41 : decode cX0_init 41 = .ok (.putfield 24, 3) := by decide +kernel
theorem dX0_init_44 : decode cX0_init 44 = .ok (.return_, 1) := by decide +kernel
theorem dX0_setAsAtFirst_0 : decode cX0_setAsAtFirst 0 = .ok (.aload_n 0, 1) := by decide +kernel
theorem dX0_setAsAtFirst_1 : decode cX0_setAsAtFirst 1 = .ok (.iconst 0, 1) := by decide +kernel
theorem dX0_setAsAtFirst_2 : decode cX0_setAsAtFirst 2 = .ok (.putfield 27, 3) := by decide +kernel
theorem dX0_setAsAtFirst_5 : decode cX0_setAsAtFirst 5 = .ok (.aload_n 0, 1) := by decide +kernel
theorem dX0_setAsAtFirst_6 : decode cX0_setAsAtFirst 6 = .ok (.iconst 0, 1) := by decide +kernel
theorem dX0_setAsAtFirst_7 : decode cX0_setAsAtFirst 7 = .ok (.putfield 31, 3) := by decide +kernel
theorem dX0_setAsAtFirst_10 : decode cX0_setAsAtFirst 10 = .ok (.aload_n 0, 1) := by decide +kernel
theorem dX0_setAsAtFirst_11 : decode cX0_setAsAtFirst 11 = .ok (.iconst 0, 1) := by decide +kernel
theorem dX0_setAsAtFirst_12 : decode cX0_setAsAtFirst 12 = .ok (.putfield 34, 3) := by decide +kernel
theorem dX0_setAsAtFirst_15 : decode cX0_setAsAtFirst 15 = .ok (.aload_n 0, 1) := by decide +kernel
theorem dX0_setAsAtFirst_16 : decode cX0_setAsAtFirst 16 = .ok (.getfield 21, 3) := by decide +kernel
theorem dX0_setAsAtFirst_19 : decode cX0_setAsAtFirst 19 = .ok (.iconst 0, 1) := by decide +kernel
theorem dX0_setAsAtFirst_20 : decode cX0_setAsAtFirst 20 = .ok (.invokestatic 38, 3) := by decide +kernel
theorem dX0_setAsAtFirst_23 : decode cX0_setAsAtFirst 23 = .ok (.return_, 1) := by decide +kernel
theorem dX0_takeFrom_0 : decode cX0_takeFrom 0 = .ok (.aload_n 1, 1) := by decide +kernel
theorem dX0_takeFrom_1 : decode cX0_takeFrom 1 = .ok (.getfield 11, 3) := by decide +kernel
theorem dX0_takeFrom_4 : decode cX0_takeFrom 4 = .ok (.iconst 0, 1) := by decide +kernel
theorem dX0_takeFrom_5 : decode cX0_takeFrom 5 = .ok (.aload_n 0, 1) := by decide +kernel
theorem dX0_takeFrom_6 : decode cX0_takeFrom 6 = .ok (.getfield 11, 3) := by decide +kernel
theorem dX0_takeFrom_9 : decode cX0_takeFrom 9 = .ok (.iconst 0, 1) := by decide +kernel
theorem dX0_takeFrom_10 : decode cX0_takeFrom 10 = .ok (.bipush 32, 2) := by decide +kernel
theorem dX0_takeFrom_12 : decode cX0_takeFrom 12 = .ok (.invokestatic 44, 3) := by decide +kernel
theorem dX0_takeFrom_15 : decode cX0_takeFrom 15 = .ok (.aload_n 1, 1) := by decide +kernel
theorem dX0_takeFrom_16 : decode cX0_takeFrom 16 = .ok (.getfield 15, 3) := by decide +kernel
theorem dX0_takeFrom_19 : decode cX0_takeFrom 19 = .ok (.iconst 0, 1) := by decide +kernel
theorem dX0_takeFrom_20 : decode cX0_takeFrom 20 = .ok (.aload_n 0, 1) := by decide +kernel
theorem dX0_takeFrom_21 : decode cX0_takeFrom 21 = .ok (.getfield 15, 3) := by decide +kernel
theorem dX0_takeFrom_24 : decode cX0_takeFrom 24 = .ok (.iconst 0, 1) := by decide +kernel
theorem dX0_takeFrom_25 : decode cX0_takeFrom 25 = .ok (.bipush 32, 2) := by decide +kernel
theorem dX0_takeFrom_27 : decode cX0_takeFrom 27 = .ok (.invokestatic 44, 3) := by decide +kernel
theorem dX0_takeFrom_30 : decode cX0_takeFrom 30 = .ok (.aload_n 1, 1) := by decide +kernel
theorem dX0_takeFrom_31 : decode cX0_takeFrom 31 = .ok (.getfield 18, 3) := by decide +kernel
theorem dX0_takeFrom_34 : decode cX0_takeFrom 34 = .ok (.iconst 0, 1) := by decide +kernel
theorem dX0_takeFrom_35 : decode cX0_takeFrom 35 = .ok (.aload_n 0, 1) := by decide +kernel
theorem dX0_takeFrom_36 : decode cX0_takeFrom 36 = .ok (.getfield 18, 3) := by decide +kernel
theorem dX0_takeFrom_39 : decode cX0_takeFrom 39 = .ok (.iconst 0, 1) := by decide +kernel
theorem dX0_takeFrom_40 : decode cX0_takeFrom 40 = .ok (.bipush 32, 2) := by decide +kernel
theorem dX0_takeFrom_42 : decode cX0_takeFrom 42 = .ok (.invokestatic 44, 3) := by decide +kernel
theorem dX0_takeFrom_45 : decode cX0_takeFrom 45 = .ok (.aload_n 1, 1) := by decide +kernel
theorem dX0_takeFrom_46 : decode cX0_takeFrom 46 = .ok (.getfield 21, 3) := by decide +kernel
theorem dX0_takeFrom_49 : decode cX0_takeFrom 49 = .ok (.iconst 0, 1) := by decide +kernel
theorem dX0_takeFrom_50 : decode cX0_takeFrom 50 = .ok (.aload_n 0, 1) := by decide +kernel
theorem dX0_takeFrom_51 : decode cX0_takeFrom 51 = .ok (.getfield 21, 3) := by decide +kernel
theorem dX0_takeFrom_54 : decode cX0_takeFrom 54 = .ok (.iconst 0, 1) := by decide +kernel
theorem dX0_takeFrom_55 : decode cX0_takeFrom 55 = .ok (.sipush 128, 3) := by decide +kernel
theorem dX0_takeFrom_58 : decode cX0_takeFrom 58 = .ok (.invokestatic 44, 3) := by decide +kernel
theorem dX0_takeFrom_61 : decode cX0_takeFrom 61 = .ok (.aload_n 0, 1) := by decide +kernel
theorem dX0_takeFrom_62 : decode cX0_takeFrom 62 = .ok (.aload_n 1, 1) := by decide +kernel
theorem dX0_takeFrom_63 : decode cX0_takeFrom 63 = .ok (.getfield 27, 3) := by decide +kernel
theorem dX0_takeFrom_66 : decode cX0_takeFrom 66 = .ok (.putfield 27, 3) := by decide +kernel
theorem dX0_takeFrom_69 : decode cX0_takeFrom 69 = .ok (.aload_n 0, 1) := by decide +kernel
theorem dX0_takeFrom_70 : decode cX0_takeFrom 70 = .ok (.aload_n 1, 1) := by decide +kernel
theorem dX0_takeFrom_71 : decode cX0_takeFrom 71 = .ok (.getfield 31, 3) := by decide +kernel
theorem dX0_takeFrom_74 : decode cX0_takeFrom 74 = .ok (.putfield 31, 3) := by decide +kernel
theorem dX0_takeFrom_77 : decode cX0_takeFrom 77 = .ok (.aload_n 0, 1) := by decide +kernel
theorem dX0_takeFrom_78 : decode cX0_takeFrom 78 = .ok (.aload_n 1, 1) := by decide +kernel
theorem dX0_takeFrom_79 : decode cX0_takeFrom 79 = .ok (.getfield 34, 3) := by decide +kernel
theorem dX0_takeFrom_82 : decode cX0_takeFrom 82 = .ok (.putfield 34, 3) := by decide +kernel
theorem dX0_takeFrom_85 : decode cX0_takeFrom 85 = .ok (.aload_n 0, 1) := by decide +kernel
theorem dX0_takeFrom_86 : decode cX0_takeFrom 86 = .ok (.aload_n 1, 1) := by decide +kernel
theorem dX0_takeFrom_87 : decode cX0_takeFrom 87 = .ok (.getfield 50, 3) := by decide +kernel
theorem dX0_takeFrom_90 : decode cX0_takeFrom 90 = .ok (.putfield 50, 3) := by decide +kernel
theorem dX0_takeFrom_93 : decode cX0_takeFrom 93 = .ok (.aload_n 0, 1) := by decide +kernel
theorem dX0_takeFrom_94 : decode cX0_takeFrom 94 = .ok (.aload_n 1, 1) := by decide +kernel
theorem dX0_takeFrom_95 : decode cX0_takeFrom 95 = .ok (.getfield 53, 3) := by decide +kernel
theorem dX0_takeFrom_98 : decode cX0_takeFrom 98 = .ok (.putfield 53, 3) := by decide +kernel
theorem dX0_takeFrom_101 : decode cX0_takeFrom 101 = .ok (.aload_n 0, 1) := by decide +kernel
theorem dX0_takeFrom_102 : decode cX0_takeFrom 102 = .ok (.aload_n 1, 1) := by decide +kernel
theorem dX0_takeFrom_103 : decode cX0_takeFrom 103 = .ok (.getfield 56, 3) := by decide +kernel
theorem dX0_takeFrom_106 : decode cX0_takeFrom 106 = .ok (.putfield 56, 3) := by decide +kernel
theorem dX0_takeFrom_109 : decode cX0_takeFrom 109 = .ok (.aload_n 1, 1) := by decide +kernel
theorem dX0_takeFrom_110 : decode cX0_takeFrom 110 = .ok (.getfield 24, 3) := by decide +kernel
theorem dX0_takeFrom_113 : decode cX0_takeFrom 113 = .ok (.iconst 0, 1) := by decide +kernel
theorem dX0_takeFrom_114 : decode cX0_takeFrom 114 = .ok (.aload_n 0, 1) := by decide +kernel
theorem dX0_takeFrom_115 : decode cX0_takeFrom 115 = .ok (.getfield 24, 3) := by decide +kernel
theorem dX0_takeFrom_118 : decode cX0_takeFrom 118 = .ok (.iconst 0, 1) := by decide +kernel
theorem dX0_takeFrom_119 : decode cX0_takeFrom 119 = .ok (.iconst 4, 1) := by decide +kernel
theorem dX0_takeFrom_120 : decode cX0_takeFrom 120 = .ok (.invokestatic 44, 3) := by decide +kernel
theorem dX0_takeFrom_123 : decode cX0_takeFrom 123 = .ok (.return_, 1) := by decide +kernel
theorem dX0_placeOf_0 : decode cX0_placeOf 0 = .ok (.aload_n 0, 1) := by decide +kernel
theorem dX0_placeOf_1 : decode cX0_placeOf 1 = .ok (.getfield 27, 3) := by decide +kernel
theorem dX0_placeOf_4 : decode cX0_placeOf 4 = .ok (.iconst 1, 1) := by decide +kernel
theorem dX0_placeOf_5 : decode cX0_placeOf 5 = .ok (.isub, 1) := by decide +kernel
theorem dX0_placeOf_6 : decode cX0_placeOf 6 = .ok (.iload_n 1, 1) := by decide +kernel
theorem dX0_placeOf_7 : decode cX0_placeOf 7 = .ok (.isub, 1) := by decide +kernel
theorem dX0_placeOf_8 : decode cX0_placeOf 8 = .ok (.bipush 31, 2) := by decide +kernel
theorem dX0_placeOf_10 : decode cX0_placeOf 10 = .ok (.iand, 1) := by decide +kernel
theorem dX0_placeOf_11 : decode cX0_placeOf 11 = .ok (.ireturn, 1) := by decide +kernel
theorem dX0_begin_0 : decode cX0_begin 0 = .ok (.aload_n 0, 1) := by decide +kernel
theorem dX0_begin_1 : decode cX0_begin 1 = .ok (.dup, 1) := by decide +kernel
theorem dX0_begin_2 : decode cX0_begin 2 = .ok (.getfield 27, 3) := by decide +kernel
theorem dX0_begin_5 : decode cX0_begin 5 = .ok (.iconst 1, 1) := by decide +kernel
theorem dX0_begin_6 : decode cX0_begin 6 = .ok (.iadd, 1) := by decide +kernel
theorem dX0_begin_7 : decode cX0_begin 7 = .ok (.putfield 27, 3) := by decide +kernel
theorem dX0_begin_10 : decode cX0_begin 10 = .ok (.aload_n 0, 1) := by decide +kernel
theorem dX0_begin_11 : decode cX0_begin 11 = .ok (.dup, 1) := by decide +kernel
theorem dX0_begin_12 : decode cX0_begin 12 = .ok (.getfield 31, 3) := by decide +kernel
theorem dX0_begin_15 : decode cX0_begin 15 = .ok (.iconst 1, 1) := by decide +kernel
theorem dX0_begin_16 : decode cX0_begin 16 = .ok (.iadd, 1) := by decide +kernel
theorem dX0_begin_17 : decode cX0_begin 17 = .ok (.putfield 31, 3) := by decide +kernel
theorem dX0_begin_20 : decode cX0_begin 20 = .ok (.aload_n 0, 1) := by decide +kernel
theorem dX0_begin_21 : decode cX0_begin 21 = .ok (.iconst 0, 1) := by decide +kernel
theorem dX0_begin_22 : decode cX0_begin 22 = .ok (.invokevirtual 59, 3) := by decide +kernel
theorem dX0_begin_25 : decode cX0_begin 25 = .ok (.istore_n 3, 1) := by decide +kernel
theorem dX0_begin_26 : decode cX0_begin 26 = .ok (.aload_n 0, 1) := by decide +kernel
theorem dX0_begin_27 : decode cX0_begin 27 = .ok (.getfield 11, 3) := by decide +kernel
theorem dX0_begin_30 : decode cX0_begin 30 = .ok (.iload_n 3, 1) := by decide +kernel
theorem dX0_begin_31 : decode cX0_begin 31 = .ok (.iload_n 1, 1) := by decide +kernel
theorem dX0_begin_32 : decode cX0_begin 32 = .ok (.iastore, 1) := by decide +kernel
theorem dX0_begin_33 : decode cX0_begin 33 = .ok (.aload_n 0, 1) := by decide +kernel
theorem dX0_begin_34 : decode cX0_begin 34 = .ok (.getfield 15, 3) := by decide +kernel
theorem dX0_begin_37 : decode cX0_begin 37 = .ok (.iload_n 3, 1) := by decide +kernel
theorem dX0_begin_38 : decode cX0_begin 38 = .ok (.iload_n 2, 1) := by decide +kernel
theorem dX0_begin_39 : decode cX0_begin 39 = .ok (.ifCond .eq 7, 3) := by decide +kernel
theorem dX0_begin_42 : decode cX0_begin 42 = .ok (.iconst 1, 1) := by decide +kernel
theorem dX0_begin_43 : decode cX0_begin 43 = .ok (.goto 4, 3) := by decide +kernel
theorem dX0_begin_46 : decode cX0_begin 46 = .ok (.iconst 0, 1) := by decide +kernel
theorem dX0_begin_47 : decode cX0_begin 47 = .ok (.iastore, 1) := by decide +kernel
theorem dX0_begin_48 : decode cX0_begin 48 = .ok (.aload_n 0, 1) := by decide +kernel
theorem dX0_begin_49 : decode cX0_begin 49 = .ok (.getfield 18, 3) := by decide +kernel
theorem dX0_begin_52 : decode cX0_begin 52 = .ok (.iload_n 3, 1) := by decide +kernel
theorem dX0_begin_53 : decode cX0_begin 53 = .ok (.iconst 0, 1) := by decide +kernel
theorem dX0_begin_54 : decode cX0_begin 54 = .ok (.iastore, 1) := by decide +kernel
theorem dX0_begin_55 : decode cX0_begin 55 = .ok (.return_, 1) := by decide +kernel
theorem dX0_print_0 : decode cX0_print 0 = .ok (.iload_n 1, 1) := by decide +kernel
theorem dX0_print_1 : decode cX0_print 1 = .ok (.aload_n 0, 1) := by decide +kernel
theorem dX0_print_2 : decode cX0_print 2 = .ok (.getfield 31, 3) := by decide +kernel
theorem dX0_print_5 : decode cX0_print 5 = .ok (.if_icmp .ge 61, 3) := by decide +kernel
theorem dX0_print_8 : decode cX0_print 8 = .ok (.iload_n 2, 1) := by decide +kernel
theorem dX0_print_9 : decode cX0_print 9 = .ok (.iconst 0, 1) := by decide +kernel
theorem dX0_print_10 : decode cX0_print 10 = .ok (.iconst 3, 1) := by decide +kernel
theorem dX0_print_11 : decode cX0_print 11 = .ok (.invokestatic 63, 3) := by decide +kernel
theorem dX0_print_14 : decode cX0_print 14 = .ok (.ifCond .eq 52, 3) := by decide +kernel
theorem dX0_print_17 : decode cX0_print 17 = .ok (.aload_n 0, 1) := by decide +kernel
theorem dX0_print_18 : decode cX0_print 18 = .ok (.iload_n 1, 1) := by decide +kernel
theorem dX0_print_19 : decode cX0_print 19 = .ok (.invokevirtual 59, 3) := by decide +kernel
theorem dX0_print_22 : decode cX0_print 22 = .ok (.istore 5, 2) := by decide +kernel
theorem dX0_print_24 : decode cX0_print 24 = .ok (.aload_n 0, 1) := by decide +kernel
theorem dX0_print_25 : decode cX0_print 25 = .ok (.getfield 18, 3) := by decide +kernel
theorem dX0_print_28 : decode cX0_print 28 = .ok (.iload 5, 2) := by decide +kernel
theorem dX0_print_30 : decode cX0_print 30 = .ok (.dup2, 1) := by decide +kernel
theorem dX0_print_31 : decode cX0_print 31 = .ok (.iaload, 1) := by decide +kernel
theorem dX0_print_32 : decode cX0_print 32 = .ok (.iload 4, 2) := by decide +kernel
theorem dX0_print_34 : decode cX0_print 34 = .ok (.iadd, 1) := by decide +kernel
theorem dX0_print_35 : decode cX0_print 35 = .ok (.iastore, 1) := by decide +kernel
theorem dX0_print_36 : decode cX0_print 36 = .ok (.aload_n 0, 1) := by decide +kernel
theorem dX0_print_37 : decode cX0_print 37 = .ok (.getfield 21, 3) := by decide +kernel
theorem dX0_print_40 : decode cX0_print 40 = .ok (.iload 5, 2) := by decide +kernel
theorem dX0_print_42 : decode cX0_print 42 = .ok (.iconst 4, 1) := by decide +kernel
theorem dX0_print_43 : decode cX0_print 43 = .ok (.imul, 1) := by decide +kernel
theorem dX0_print_44 : decode cX0_print 44 = .ok (.iload_n 2, 1) := by decide +kernel
theorem dX0_print_45 : decode cX0_print 45 = .ok (.iadd, 1) := by decide +kernel
theorem dX0_print_46 : decode cX0_print 46 = .ok (.iload_n 3, 1) := by decide +kernel
theorem dX0_print_47 : decode cX0_print 47 = .ok (.iload_n 2, 1) := by decide +kernel
theorem dX0_print_48 : decode cX0_print 48 = .ok (.aload_n 0, 1) := by decide +kernel
theorem dX0_print_49 : decode cX0_print 49 = .ok (.getfield 11, 3) := by decide +kernel
theorem dX0_print_52 : decode cX0_print 52 = .ok (.iload 5, 2) := by decide +kernel
theorem dX0_print_54 : decode cX0_print 54 = .ok (.iaload, 1) := by decide +kernel
theorem dX0_print_55 : decode cX0_print 55 = .ok (.imul, 1) := by decide +kernel
theorem dX0_print_56 : decode cX0_print 56 = .ok (.iadd, 1) := by decide +kernel
theorem dX0_print_57 : decode cX0_print 57 = .ok (.aload_n 0, 1) := by decide +kernel
theorem dX0_print_58 : decode cX0_print 58 = .ok (.getfield 18, 3) := by decide +kernel
theorem dX0_print_61 : decode cX0_print 61 = .ok (.iload 5, 2) := by decide +kernel
theorem dX0_print_63 : decode cX0_print 63 = .ok (.iaload, 1) := by decide +kernel
theorem dX0_print_64 : decode cX0_print 64 = .ok (.isub, 1) := by decide +kernel
theorem dX0_print_65 : decode cX0_print 65 = .ok (.iastore, 1) := by decide +kernel
theorem dX0_print_66 : decode cX0_print 66 = .ok (.return_, 1) := by decide +kernel
theorem dX0_errorAt_0 : decode cX0_errorAt 0 = .ok (.iload_n 2, 1) := by decide +kernel
theorem dX0_errorAt_1 : decode cX0_errorAt 1 = .ok (.iconst 0, 1) := by decide +kernel
theorem dX0_errorAt_2 : decode cX0_errorAt 2 = .ok (.iconst 3, 1) := by decide +kernel
theorem dX0_errorAt_3 : decode cX0_errorAt 3 = .ok (.invokestatic 63, 3) := by decide +kernel
theorem dX0_errorAt_6 : decode cX0_errorAt 6 = .ok (.ifCond .eq 20, 3) := by decide +kernel
theorem dX0_errorAt_9 : decode cX0_errorAt 9 = .ok (.aload_n 0, 1) := by decide +kernel
theorem dX0_errorAt_10 : decode cX0_errorAt 10 = .ok (.getfield 21, 3) := by decide +kernel
theorem dX0_errorAt_13 : decode cX0_errorAt 13 = .ok (.aload_n 0, 1) := by decide +kernel
theorem dX0_errorAt_14 : decode cX0_errorAt 14 = .ok (.iload_n 1, 1) := by decide +kernel
theorem dX0_errorAt_15 : decode cX0_errorAt 15 = .ok (.invokevirtual 59, 3) := by decide +kernel
theorem dX0_errorAt_18 : decode cX0_errorAt 18 = .ok (.iconst 4, 1) := by decide +kernel
theorem dX0_errorAt_19 : decode cX0_errorAt 19 = .ok (.imul, 1) := by decide +kernel
theorem dX0_errorAt_20 : decode cX0_errorAt 20 = .ok (.iload_n 2, 1) := by decide +kernel
theorem dX0_errorAt_21 : decode cX0_errorAt 21 = .ok (.iadd, 1) := by decide +kernel
theorem dX0_errorAt_22 : decode cX0_errorAt 22 = .ok (.iaload, 1) := by decide +kernel
theorem dX0_errorAt_23 : decode cX0_errorAt 23 = .ok (.goto 4, 3) := by decide +kernel
theorem dX0_errorAt_26 : decode cX0_errorAt 26 = .ok (.iconst 0, 1) := by decide +kernel
theorem dX0_errorAt_27 : decode cX0_errorAt 27 = .ok (.ireturn, 1) := by decide +kernel
theorem dX0_come_0 : decode cX0_come 0 = .ok (.aload_n 0, 1) := by decide +kernel
theorem dX0_come_1 : decode cX0_come 1 = .ok (.dup, 1) := by decide +kernel
theorem dX0_come_2 : decode cX0_come 2 = .ok (.getfield 31, 3) := by decide +kernel
theorem dX0_come_5 : decode cX0_come 5 = .ok (.iconst 1, 1) := by decide +kernel
theorem dX0_come_6 : decode cX0_come 6 = .ok (.isub, 1) := by decide +kernel
theorem dX0_come_7 : decode cX0_come 7 = .ok (.putfield 31, 3) := by decide +kernel
theorem dX0_come_10 : decode cX0_come 10 = .ok (.aload_n 0, 1) := by decide +kernel
theorem dX0_come_11 : decode cX0_come 11 = .ok (.aload_n 0, 1) := by decide +kernel
theorem dX0_come_12 : decode cX0_come 12 = .ok (.getfield 31, 3) := by decide +kernel
theorem dX0_come_15 : decode cX0_come 15 = .ok (.invokevirtual 59, 3) := by decide +kernel
theorem dX0_come_18 : decode cX0_come 18 = .ok (.istore_n 2, 1) := by decide +kernel
theorem dX0_come_19 : decode cX0_come 19 = .ok (.aload_n 0, 1) := by decide +kernel
theorem dX0_come_20 : decode cX0_come 20 = .ok (.iconst 1, 1) := by decide +kernel
theorem dX0_come_21 : decode cX0_come 21 = .ok (.putfield 34, 3) := by decide +kernel
theorem dX0_come_24 : decode cX0_come 24 = .ok (.aload_n 0, 1) := by decide +kernel
theorem dX0_come_25 : decode cX0_come 25 = .ok (.aload_n 0, 1) := by decide +kernel
theorem dX0_come_26 : decode cX0_come 26 = .ok (.getfield 27, 3) := by decide +kernel
theorem dX0_come_29 : decode cX0_come 29 = .ok (.iconst 1, 1) := by decide +kernel
theorem dX0_come_30 : decode cX0_come 30 = .ok (.isub, 1) := by decide +kernel
theorem dX0_come_31 : decode cX0_come 31 = .ok (.aload_n 0, 1) := by decide +kernel
theorem dX0_come_32 : decode cX0_come 32 = .ok (.getfield 31, 3) := by decide +kernel
theorem dX0_come_35 : decode cX0_come 35 = .ok (.isub, 1) := by decide +kernel
theorem dX0_come_36 : decode cX0_come 36 = .ok (.putfield 50, 3) := by decide +kernel
theorem dX0_come_39 : decode cX0_come 39 = .ok (.aload_n 0, 1) := by decide +kernel
theorem dX0_come_40 : decode cX0_come 40 = .ok (.aload_n 0, 1) := by decide +kernel
theorem dX0_come_41 : decode cX0_come 41 = .ok (.getfield 15, 3) := by decide +kernel
theorem dX0_come_44 : decode cX0_come 44 = .ok (.iload_n 2, 1) := by decide +kernel
theorem dX0_come_45 : decode cX0_come 45 = .ok (.iaload, 1) := by decide +kernel
theorem dX0_come_46 : decode cX0_come 46 = .ok (.iconst 1, 1) := by decide +kernel
theorem dX0_come_47 : decode cX0_come 47 = .ok (.if_icmp .ne 7, 3) := by decide +kernel
theorem dX0_come_50 : decode cX0_come 50 = .ok (.iconst 1, 1) := by decide +kernel
theorem dX0_come_51 : decode cX0_come 51 = .ok (.goto 4, 3) := by decide +kernel
theorem dX0_come_54 : decode cX0_come 54 = .ok (.iconst 0, 1) := by decide +kernel
theorem dX0_come_55 : decode cX0_come 55 = .ok (.putfield 53, 3) := by decide +kernel
theorem dX0_come_58 : decode cX0_come 58 = .ok (.aload_n 0, 1) := by decide +kernel
theorem dX0_come_59 : decode cX0_come 59 = .ok (.getfield 21, 3) := by decide +kernel
theorem dX0_come_62 : decode cX0_come 62 = .ok (.iload_n 2, 1) := by decide +kernel
theorem dX0_come_63 : decode cX0_come 63 = .ok (.iconst 4, 1) := by decide +kernel
theorem dX0_come_64 : decode cX0_come 64 = .ok (.imul, 1) := by decide +kernel
theorem dX0_come_65 : decode cX0_come 65 = .ok (.aload_n 0, 1) := by decide +kernel
theorem dX0_come_66 : decode cX0_come 66 = .ok (.getfield 24, 3) := by decide +kernel
theorem dX0_come_69 : decode cX0_come 69 = .ok (.iconst 0, 1) := by decide +kernel
theorem dX0_come_70 : decode cX0_come 70 = .ok (.iconst 4, 1) := by decide +kernel
theorem dX0_come_71 : decode cX0_come 71 = .ok (.invokestatic 44, 3) := by decide +kernel
theorem dX0_come_74 : decode cX0_come 74 = .ok (.aload_n 0, 1) := by decide +kernel
theorem dX0_come_75 : decode cX0_come 75 = .ok (.aload_n 0, 1) := by decide +kernel
theorem dX0_come_76 : decode cX0_come 76 = .ok (.getfield 53, 3) := by decide +kernel
theorem dX0_come_79 : decode cX0_come 79 = .ok (.ifCond .ne 15, 3) := by decide +kernel
theorem dX0_come_82 : decode cX0_come 82 = .ok (.aload_n 0, 1) := by decide +kernel
theorem dX0_come_83 : decode cX0_come 83 = .ok (.iload_n 1, 1) := by decide +kernel
theorem dX0_come_84 : decode cX0_come 84 = .ok (.invokevirtual 67, 3) := by decide +kernel
theorem dX0_come_87 : decode cX0_come 87 = .ok (.ifCond .ne 7, 3) := by decide +kernel
theorem dX0_come_90 : decode cX0_come 90 = .ok (.iconst 1, 1) := by decide +kernel
theorem dX0_come_91 : decode cX0_come 91 = .ok (.goto 4, 3) := by decide +kernel
theorem dX0_come_94 : decode cX0_come 94 = .ok (.iconst 0, 1) := by decide +kernel
theorem dX0_come_95 : decode cX0_come 95 = .ok (.putfield 56, 3) := by decide +kernel
theorem dX0_come_98 : decode cX0_come 98 = .ok (.return_, 1) := by decide +kernel
theorem dX0_cameFurtherOutThan_0 : decode cX0_cameFurtherOutThan 0 = .ok (.iconst 1, 1) := by decide +kernel
theorem dX0_cameFurtherOutThan_1 : decode cX0_cameFurtherOutThan 1 = .ok (.istore_n 2, 1) := by decide +kernel
theorem dX0_cameFurtherOutThan_2 : decode cX0_cameFurtherOutThan 2 = .ok (.iload_n 2, 1) := by decide +kernel
theorem dX0_cameFurtherOutThan_3 : decode cX0_cameFurtherOutThan 3 = .ok (.iconst 4, 1) := by decide +kernel
theorem dX0_cameFurtherOutThan_4 : decode cX0_cameFurtherOutThan 4 = .ok (.if_icmp .ge 24, 3) := by decide +kernel
theorem dX0_cameFurtherOutThan_7 : decode cX0_cameFurtherOutThan 7 = .ok (.aload_n 0, 1) := by decide +kernel
theorem dX0_cameFurtherOutThan_8 : decode cX0_cameFurtherOutThan 8 = .ok (.getfield 24, 3) := by decide +kernel
theorem dX0_cameFurtherOutThan_11 : decode cX0_cameFurtherOutThan 11 = .ok (.iload_n 2, 1) := by decide +kernel
theorem dX0_cameFurtherOutThan_12 : decode cX0_cameFurtherOutThan 12 = .ok (.iaload, 1) := by decide +kernel
theorem dX0_cameFurtherOutThan_13 : decode cX0_cameFurtherOutThan 13 = .ok (.invokestatic 71, 3) := by decide +kernel
theorem dX0_cameFurtherOutThan_16 : decode cX0_cameFurtherOutThan 16 = .ok (.iload_n 1, 1) := by decide +kernel
theorem dX0_cameFurtherOutThan_17 : decode cX0_cameFurtherOutThan 17 = .ok (.if_icmp .le 5, 3) := by decide +kernel
theorem dX0_cameFurtherOutThan_20 : decode cX0_cameFurtherOutThan 20 = .ok (.iconst 1, 1) := by decide +kernel
theorem dX0_cameFurtherOutThan_21 : decode cX0_cameFurtherOutThan 21 = .ok (.ireturn, 1) := by decide +kernel
theorem dX0_cameFurtherOutThan_22 : decode cX0_cameFurtherOutThan 22 = .ok (.iinc 2 1, 3) := by decide +kernel
theorem dX0_cameFurtherOutThan_25 : decode cX0_cameFurtherOutThan 25 = .ok (.goto (-23), 3) := by decide +kernel
theorem dX0_cameFurtherOutThan_28 : decode cX0_cameFurtherOutThan 28 = .ok (.iconst 0, 1) := by decide +kernel
theorem dX0_cameFurtherOutThan_29 : decode cX0_cameFurtherOutThan 29 = .ok (.ireturn, 1) := by decide +kernel
theorem dX1_init_0 : decode cX1_init 0 = .ok (.aload_n 0, 1) := by decide +kernel
theorem dX1_init_1 : decode cX1_init 1 = .ok (.invokespecial 3, 3) := by decide +kernel
theorem dX1_init_4 : decode cX1_init 4 = .ok (.aload_n 0, 1) := by decide +kernel
theorem dX1_init_5 : decode cX1_init 5 = .ok (.bipush 6, 2) := by decide +kernel
theorem dX1_init_7 : decode cX1_init 7 = .ok (.newarray .int, 2) := by decide +kernel
theorem dX1_init_9 : decode cX1_init 9 = .ok (.putfield 9, 3) := by decide +kernel
theorem dX1_init_12 : decode cX1_init 12 = .ok (.aload_n 0, 1) := by decide +kernel
theorem dX1_init_13 : decode cX1_init 13 = .ok (.bipush 6, 2) := by decide +kernel
theorem dX1_init_15 : decode cX1_init 15 = .ok (.newarray .int, 2) := by decide +kernel
theorem dX1_init_17 : decode cX1_init 17 = .ok (.putfield 15, 3) := by decide +kernel
theorem dX1_init_20 : decode cX1_init 20 = .ok (.return_, 1) := by decide +kernel
theorem dX1_add_0 : decode cX1_add 0 = .ok (.aload_n 0, 1) := by decide +kernel
theorem dX1_add_1 : decode cX1_add 1 = .ok (.getfield 18, 3) := by decide +kernel
theorem dX1_add_4 : decode cX1_add 4 = .ok (.bipush 6, 2) := by decide +kernel
theorem dX1_add_6 : decode cX1_add 6 = .ok (.if_icmp .lt 5, 3) := by decide +kernel
theorem dX1_add_9 : decode cX1_add 9 = .ok (.iconst 0, 1) := by decide +kernel
theorem dX1_add_10 : decode cX1_add 10 = .ok (.ireturn, 1) := by decide +kernel
theorem dX1_add_11 : decode cX1_add 11 = .ok (.aload_n 0, 1) := by decide +kernel
theorem dX1_add_12 : decode cX1_add 12 = .ok (.getfield 9, 3) := by decide +kernel
theorem dX1_add_15 : decode cX1_add 15 = .ok (.aload_n 0, 1) := by decide +kernel
theorem dX1_add_16 : decode cX1_add 16 = .ok (.getfield 18, 3) := by decide +kernel
theorem dX1_add_19 : decode cX1_add 19 = .ok (.iload_n 1, 1) := by decide +kernel
theorem dX1_add_20 : decode cX1_add 20 = .ok (.iastore, 1) := by decide +kernel
theorem dX1_add_21 : decode cX1_add 21 = .ok (.aload_n 0, 1) := by decide +kernel
theorem dX1_add_22 : decode cX1_add 22 = .ok (.getfield 15, 3) := by decide +kernel
theorem dX1_add_25 : decode cX1_add 25 = .ok (.aload_n 0, 1) := by decide +kernel
theorem dX1_add_26 : decode cX1_add 26 = .ok (.getfield 18, 3) := by decide +kernel
theorem dX1_add_29 : decode cX1_add 29 = .ok (.iload_n 2, 1) := by decide +kernel
theorem dX1_add_30 : decode cX1_add 30 = .ok (.iastore, 1) := by decide +kernel
theorem dX1_add_31 : decode cX1_add 31 = .ok (.aload_n 0, 1) := by decide +kernel
theorem dX1_add_32 : decode cX1_add 32 = .ok (.dup, 1) := by decide +kernel
theorem dX1_add_33 : decode cX1_add 33 = .ok (.getfield 18, 3) := by decide +kernel
theorem dX1_add_36 : decode cX1_add 36 = .ok (.iconst 1, 1) := by decide +kernel
theorem dX1_add_37 : decode cX1_add 37 = .ok (.iadd, 1) := by decide +kernel
theorem dX1_add_38 : decode cX1_add 38 = .ok (.putfield 18, 3) := by decide +kernel
theorem dX1_add_41 : decode cX1_add 41 = .ok (.iconst 1, 1) := by decide +kernel
theorem dX1_add_42 : decode cX1_add 42 = .ok (.ireturn, 1) := by decide +kernel
theorem dX1_causes_0 : decode cX1_causes 0 = .ok (.iconst 0, 1) := by decide +kernel
theorem dX1_causes_1 : decode cX1_causes 1 = .ok (.istore_n 2, 1) := by decide +kernel
theorem dX1_causes_2 : decode cX1_causes 2 = .ok (.iconst 0, 1) := by decide +kernel
theorem dX1_causes_3 : decode cX1_causes 3 = .ok (.istore_n 3, 1) := by decide +kernel
theorem dX1_causes_4 : decode cX1_causes 4 = .ok (.iload_n 3, 1) := by decide +kernel
theorem dX1_causes_5 : decode cX1_causes 5 = .ok (.bipush 7, 2) := by decide +kernel
theorem dX1_causes_7 : decode cX1_causes 7 = .ok (.if_icmp .ge 31, 3) := by decide +kernel
theorem dX1_causes_10 : decode cX1_causes 10 = .ok (.iload_n 3, 1) := by decide +kernel
theorem dX1_causes_11 : decode cX1_causes 11 = .ok (.invokestatic 22, 3) := by decide +kernel
theorem dX1_causes_14 : decode cX1_causes 14 = .ok (.iload_n 1, 1) := by decide +kernel
theorem dX1_causes_15 : decode cX1_causes 15 = .ok (.if_icmp .ge 17, 3) := by decide +kernel
theorem dX1_causes_18 : decode cX1_causes 18 = .ok (.aload_n 0, 1) := by decide +kernel
theorem dX1_causes_19 : decode cX1_causes 19 = .ok (.iload_n 3, 1) := by decide +kernel
theorem dX1_causes_20 : decode cX1_causes 20 = .ok (.invokevirtual 26, 3) := by decide +kernel
theorem dX1_causes_23 : decode cX1_causes 23 = .ok (.ifCond .eq 9, 3) := by decide +kernel
theorem dX1_causes_26 : decode cX1_causes 26 = .ok (.iload_n 2, 1) := by decide +kernel
theorem dX1_causes_27 : decode cX1_causes 27 = .ok (.iconst 1, 1) := by decide +kernel
theorem dX1_causes_28 : decode cX1_causes 28 = .ok (.iload_n 3, 1) := by decide +kernel
theorem dX1_causes_29 : decode cX1_causes 29 = .ok (.ishl, 1) := by decide +kernel
theorem dX1_causes_30 : decode cX1_causes 30 = .ok (.ior, 1) := by decide +kernel
theorem dX1_causes_31 : decode cX1_causes 31 = .ok (.istore_n 2, 1) := by decide +kernel
theorem dX1_causes_32 : decode cX1_causes 32 = .ok (.iinc 3 1, 3) := by decide +kernel
theorem dX1_causes_35 : decode cX1_causes 35 = .ok (.goto (-31), 3) := by decide +kernel
theorem dX1_causes_38 : decode cX1_causes 38 = .ok (.iload_n 2, 1) := by decide +kernel
theorem dX1_causes_39 : decode cX1_causes 39 = .ok (.ireturn, 1) := by decide +kernel
theorem dX1_bestUnit_0 : decode cX1_bestUnit 0 = .ok (.aload_n 0, 1) := by decide +kernel
theorem dX1_bestUnit_1 : decode cX1_bestUnit 1 = .ok (.iload_n 1, 1) := by decide +kernel
theorem dX1_bestUnit_2 : decode cX1_bestUnit 2 = .ok (.invokevirtual 30, 3) := by decide +kernel
theorem dX1_bestUnit_5 : decode cX1_bestUnit 5 = .ok (.istore_n 2, 1) := by decide +kernel
theorem dX1_bestUnit_6 : decode cX1_bestUnit 6 = .ok (.iload_n 2, 1) := by decide +kernel
theorem dX1_bestUnit_7 : decode cX1_bestUnit 7 = .ok (.invokestatic 33, 3) := by decide +kernel
theorem dX1_bestUnit_10 : decode cX1_bestUnit 10 = .ok (.istore_n 3, 1) := by decide +kernel
theorem dX1_bestUnit_11 : decode cX1_bestUnit 11 = .ok (.bipush (-9), 2) := by decide +kernel
theorem dX1_bestUnit_13 : decode cX1_bestUnit 13 = .ok (.istore 4, 2) := by decide +kernel
theorem dX1_bestUnit_15 : decode cX1_bestUnit 15 = .ok (.bipush 8, 2) := by decide +kernel
theorem dX1_bestUnit_17 : decode cX1_bestUnit 17 = .ok (.istore 5, 2) := by decide +kernel
theorem dX1_bestUnit_19 : decode cX1_bestUnit 19 = .ok (.iconst 1, 1) := by decide +kernel
theorem dX1_bestUnit_20 : decode cX1_bestUnit 20 = .ok (.istore 6, 2) := by decide +kernel
theorem dX1_bestUnit_22 : decode cX1_bestUnit 22 = .ok (.iload 6, 2) := by decide +kernel
theorem dX1_bestUnit_24 : decode cX1_bestUnit 24 = .ok (.iload_n 1, 1) := by decide +kernel
theorem dX1_bestUnit_25 : decode cX1_bestUnit 25 = .ok (.if_icmp .ge 48, 3) := by decide +kernel
theorem dX1_bestUnit_28 : decode cX1_bestUnit 28 = .ok (.iload_n 3, 1) := by decide +kernel
theorem dX1_bestUnit_29 : decode cX1_bestUnit 29 = .ok (.iconst 1, 1) := by decide +kernel
theorem dX1_bestUnit_30 : decode cX1_bestUnit 30 = .ok (.if_icmp .le 43, 3) := by decide +kernel
theorem dX1_bestUnit_33 : decode cX1_bestUnit 33 = .ok (.iload_n 2, 1) := by decide +kernel
theorem dX1_bestUnit_34 : decode cX1_bestUnit 34 = .ok (.iload 6, 2) := by decide +kernel
theorem dX1_bestUnit_36 : decode cX1_bestUnit 36 = .ok (.invokestatic 38, 3) := by decide +kernel
theorem dX1_bestUnit_39 : decode cX1_bestUnit 39 = .ok (.istore 7, 2) := by decide +kernel
theorem dX1_bestUnit_41 : decode cX1_bestUnit 41 = .ok (.iload 7, 2) := by decide +kernel
theorem dX1_bestUnit_43 : decode cX1_bestUnit 43 = .ok (.iload_n 3, 1) := by decide +kernel
theorem dX1_bestUnit_44 : decode cX1_bestUnit 44 = .ok (.iload 7, 2) := by decide +kernel
theorem dX1_bestUnit_46 : decode cX1_bestUnit 46 = .ok (.isub, 1) := by decide +kernel
theorem dX1_bestUnit_47 : decode cX1_bestUnit 47 = .ok (.invokestatic 42, 3) := by decide +kernel
theorem dX1_bestUnit_50 : decode cX1_bestUnit 50 = .ok (.istore 8, 2) := by decide +kernel
theorem dX1_bestUnit_52 : decode cX1_bestUnit 52 = .ok (.iload 8, 2) := by decide +kernel
theorem dX1_bestUnit_54 : decode cX1_bestUnit 54 = .ok (.iload 5, 2) := by decide +kernel
theorem dX1_bestUnit_56 : decode cX1_bestUnit 56 = .ok (.if_icmp .ge 11, 3) := by decide +kernel
theorem dX1_bestUnit_59 : decode cX1_bestUnit 59 = .ok (.iload 8, 2) := by decide +kernel
theorem dX1_bestUnit_61 : decode cX1_bestUnit 61 = .ok (.istore 5, 2) := by decide +kernel
theorem dX1_bestUnit_63 : decode cX1_bestUnit 63 = .ok (.iload 6, 2) := by decide +kernel
theorem dX1_bestUnit_65 : decode cX1_bestUnit 65 = .ok (.istore 4, 2) := by decide +kernel
theorem dX1_bestUnit_67 : decode cX1_bestUnit 67 = .ok (.iinc 6 1, 3) := by decide +kernel
theorem dX1_bestUnit_70 : decode cX1_bestUnit 70 = .ok (.goto (-48), 3) := by decide +kernel
theorem dX1_bestUnit_73 : decode cX1_bestUnit 73 = .ok (.iload 4, 2) := by decide +kernel
theorem dX1_bestUnit_75 : decode cX1_bestUnit 75 = .ok (.ireturn, 1) := by decide +kernel
theorem dX1_unitOf_0 : decode cX1_unitOf 0 = .ok (.iload_n 0, 1) := by decide +kernel
theorem dX1_unitOf_1 : decode cX1_unitOf 1 = .ok (.iconst 4, 1) := by decide +kernel
theorem dX1_unitOf_2 : decode cX1_unitOf 2 = .ok (.if_icmp .ge 7, 3) := by decide +kernel
theorem dX1_unitOf_5 : decode cX1_unitOf 5 = .ok (.iload_n 0, 1) := by decide +kernel
theorem dX1_unitOf_6 : decode cX1_unitOf 6 = .ok (.goto 8, 3) := by decide +kernel
theorem dX1_unitOf_9 : decode cX1_unitOf 9 = .ok (.iload_n 0, 1) := by decide +kernel
theorem dX1_unitOf_10 : decode cX1_unitOf 10 = .ok (.iconst 4, 1) := by decide +kernel
theorem dX1_unitOf_11 : decode cX1_unitOf 11 = .ok (.isub, 1) := by decide +kernel
theorem dX1_unitOf_12 : decode cX1_unitOf 12 = .ok (.iconst 1, 1) := by decide +kernel
theorem dX1_unitOf_13 : decode cX1_unitOf 13 = .ok (.iadd, 1) := by decide +kernel
theorem dX1_unitOf_14 : decode cX1_unitOf 14 = .ok (.ireturn, 1) := by decide +kernel
theorem dX1_fitsAny_0 : decode cX1_fitsAny 0 = .ok (.bipush (-20), 2) := by decide +kernel
theorem dX1_fitsAny_2 : decode cX1_fitsAny 2 = .ok (.istore_n 2, 1) := by decide +kernel
theorem dX1_fitsAny_3 : decode cX1_fitsAny 3 = .ok (.iload_n 2, 1) := by decide +kernel
theorem dX1_fitsAny_4 : decode cX1_fitsAny 4 = .ok (.bipush 20, 2) := by decide +kernel
theorem dX1_fitsAny_6 : decode cX1_fitsAny 6 = .ok (.if_icmp .gt 24, 3) := by decide +kernel
theorem dX1_fitsAny_9 : decode cX1_fitsAny 9 = .ok (.iload_n 2, 1) := by decide +kernel
theorem dX1_fitsAny_10 : decode cX1_fitsAny 10 = .ok (.ifCond .eq 14, 3) := by decide +kernel
theorem dX1_fitsAny_13 : decode cX1_fitsAny 13 = .ok (.aload_n 0, 1) := by decide +kernel
theorem dX1_fitsAny_14 : decode cX1_fitsAny 14 = .ok (.iload_n 1, 1) := by decide +kernel
theorem dX1_fitsAny_15 : decode cX1_fitsAny 15 = .ok (.iload_n 2, 1) := by decide +kernel
theorem dX1_fitsAny_16 : decode cX1_fitsAny 16 = .ok (.invokevirtual 47, 3) := by decide +kernel
theorem dX1_fitsAny_19 : decode cX1_fitsAny 19 = .ok (.ifCond .eq 5, 3) := by decide +kernel
theorem dX1_fitsAny_22 : decode cX1_fitsAny 22 = .ok (.iconst 1, 1) := by decide +kernel
theorem dX1_fitsAny_23 : decode cX1_fitsAny 23 = .ok (.ireturn, 1) := by decide +kernel
theorem dX1_fitsAny_24 : decode cX1_fitsAny 24 = .ok (.iinc 2 1, 3) := by decide +kernel
theorem dX1_fitsAny_27 : decode cX1_fitsAny 27 = .ok (.goto (-24), 3) := by decide +kernel
theorem dX1_fitsAny_30 : decode cX1_fitsAny 30 = .ok (.iconst 0, 1) := by decide +kernel
theorem dX1_fitsAny_31 : decode cX1_fitsAny 31 = .ok (.ireturn, 1) := by decide +kernel
theorem dX1_fits_0 : decode cX1_fits 0 = .ok (.iconst 0, 1) := by decide +kernel
theorem dX1_fits_1 : decode cX1_fits 1 = .ok (.istore_n 3, 1) := by decide +kernel
theorem dX1_fits_2 : decode cX1_fits 2 = .ok (.iload_n 3, 1) := by decide +kernel
theorem dX1_fits_3 : decode cX1_fits 3 = .ok (.aload_n 0, 1) := by decide +kernel
theorem dX1_fits_4 : decode cX1_fits 4 = .ok (.getfield 18, 3) := by decide +kernel
theorem dX1_fits_7 : decode cX1_fits 7 = .ok (.if_icmp .ge 31, 3) := by decide +kernel
theorem dX1_fits_10 : decode cX1_fits 10 = .ok (.iload_n 1, 1) := by decide +kernel
theorem dX1_fits_11 : decode cX1_fits 11 = .ok (.aload_n 0, 1) := by decide +kernel
theorem dX1_fits_12 : decode cX1_fits 12 = .ok (.getfield 9, 3) := by decide +kernel
theorem dX1_fits_15 : decode cX1_fits 15 = .ok (.iload_n 3, 1) := by decide +kernel
theorem dX1_fits_16 : decode cX1_fits 16 = .ok (.iaload, 1) := by decide +kernel
theorem dX1_fits_17 : decode cX1_fits 17 = .ok (.iload_n 2, 1) := by decide +kernel
theorem dX1_fits_18 : decode cX1_fits 18 = .ok (.invokestatic 51, 3) := by decide +kernel
theorem dX1_fits_21 : decode cX1_fits 21 = .ok (.aload_n 0, 1) := by decide +kernel
theorem dX1_fits_22 : decode cX1_fits 22 = .ok (.getfield 15, 3) := by decide +kernel
theorem dX1_fits_25 : decode cX1_fits 25 = .ok (.iload_n 3, 1) := by decide +kernel
theorem dX1_fits_26 : decode cX1_fits 26 = .ok (.iaload, 1) := by decide +kernel
theorem dX1_fits_27 : decode cX1_fits 27 = .ok (.if_icmp .eq 5, 3) := by decide +kernel
theorem dX1_fits_30 : decode cX1_fits 30 = .ok (.iconst 0, 1) := by decide +kernel
theorem dX1_fits_31 : decode cX1_fits 31 = .ok (.ireturn, 1) := by decide +kernel
theorem dX1_fits_32 : decode cX1_fits 32 = .ok (.iinc 3 1, 3) := by decide +kernel
theorem dX1_fits_35 : decode cX1_fits 35 = .ok (.goto (-33), 3) := by decide +kernel
theorem dX1_fits_38 : decode cX1_fits 38 = .ok (.iconst 1, 1) := by decide +kernel
theorem dX1_fits_39 : decode cX1_fits 39 = .ok (.ireturn, 1) := by decide +kernel
theorem dX1_silentAt_0 : decode cX1_silentAt 0 = .ok (.iconst 0, 1) := by decide +kernel
theorem dX1_silentAt_1 : decode cX1_silentAt 1 = .ok (.istore_n 2, 1) := by decide +kernel
theorem dX1_silentAt_2 : decode cX1_silentAt 2 = .ok (.iconst 0, 1) := by decide +kernel
theorem dX1_silentAt_3 : decode cX1_silentAt 3 = .ok (.istore_n 3, 1) := by decide +kernel
theorem dX1_silentAt_4 : decode cX1_silentAt 4 = .ok (.iload_n 3, 1) := by decide +kernel
theorem dX1_silentAt_5 : decode cX1_silentAt 5 = .ok (.bipush 7, 2) := by decide +kernel
theorem dX1_silentAt_7 : decode cX1_silentAt 7 = .ok (.if_icmp .ge 29, 3) := by decide +kernel
theorem dX1_silentAt_10 : decode cX1_silentAt 10 = .ok (.iload_n 0, 1) := by decide +kernel
theorem dX1_silentAt_11 : decode cX1_silentAt 11 = .ok (.iconst 1, 1) := by decide +kernel
theorem dX1_silentAt_12 : decode cX1_silentAt 12 = .ok (.iload_n 3, 1) := by decide +kernel
theorem dX1_silentAt_13 : decode cX1_silentAt 13 = .ok (.ishl, 1) := by decide +kernel
theorem dX1_silentAt_14 : decode cX1_silentAt 14 = .ok (.iand, 1) := by decide +kernel
theorem dX1_silentAt_15 : decode cX1_silentAt 15 = .ok (.ifCond .eq 15, 3) := by decide +kernel
theorem dX1_silentAt_18 : decode cX1_silentAt 18 = .ok (.iload_n 3, 1) := by decide +kernel
theorem dX1_silentAt_19 : decode cX1_silentAt 19 = .ok (.iload_n 1, 1) := by decide +kernel
theorem dX1_silentAt_20 : decode cX1_silentAt 20 = .ok (.iconst 1, 1) := by decide +kernel
theorem dX1_silentAt_21 : decode cX1_silentAt 21 = .ok (.invokestatic 51, 3) := by decide +kernel
theorem dX1_silentAt_24 : decode cX1_silentAt 24 = .ok (.ifCond .ne 6, 3) := by decide +kernel
theorem dX1_silentAt_27 : decode cX1_silentAt 27 = .ok (.iinc 2 1, 3) := by decide +kernel
theorem dX1_silentAt_30 : decode cX1_silentAt 30 = .ok (.iinc 3 1, 3) := by decide +kernel
theorem dX1_silentAt_33 : decode cX1_silentAt 33 = .ok (.goto (-29), 3) := by decide +kernel
theorem dX1_silentAt_36 : decode cX1_silentAt 36 = .ok (.iload_n 2, 1) := by decide +kernel
theorem dX1_silentAt_37 : decode cX1_silentAt 37 = .ok (.ireturn, 1) := by decide +kernel
theorem dX1_effect_0 : decode cX1_effect 0 = .ok (.iload_n 0, 1) := by decide +kernel
theorem dX1_effect_1 : decode cX1_effect 1 = .ok (.ifCond .ne 7, 3) := by decide +kernel
theorem dX1_effect_4 : decode cX1_effect 4 = .ok (.iload_n 1, 1) := by decide +kernel
theorem dX1_effect_5 : decode cX1_effect 5 = .ok (.iload_n 2, 1) := by decide +kernel
theorem dX1_effect_6 : decode cX1_effect 6 = .ok (.imul, 1) := by decide +kernel
theorem dX1_effect_7 : decode cX1_effect 7 = .ok (.ireturn, 1) := by decide +kernel
theorem dX1_effect_8 : decode cX1_effect 8 = .ok (.iload_n 0, 1) := by decide +kernel
theorem dX1_effect_9 : decode cX1_effect 9 = .ok (.iconst 4, 1) := by decide +kernel
theorem dX1_effect_10 : decode cX1_effect 10 = .ok (.if_icmp .ge 16, 3) := by decide +kernel
theorem dX1_effect_13 : decode cX1_effect 13 = .ok (.iload_n 1, 1) := by decide +kernel
theorem dX1_effect_14 : decode cX1_effect 14 = .ok (.iload_n 0, 1) := by decide +kernel
theorem dX1_effect_15 : decode cX1_effect 15 = .ok (.if_icmp .ne 7, 3) := by decide +kernel
theorem dX1_effect_18 : decode cX1_effect 18 = .ok (.iconst 1, 1) := by decide +kernel
theorem dX1_effect_19 : decode cX1_effect 19 = .ok (.goto 20, 3) := by decide +kernel
theorem dX1_effect_22 : decode cX1_effect 22 = .ok (.iconst 0, 1) := by decide +kernel
theorem dX1_effect_23 : decode cX1_effect 23 = .ok (.goto 16, 3) := by decide +kernel
theorem dX1_effect_26 : decode cX1_effect 26 = .ok (.iload_n 1, 1) := by decide +kernel
theorem dX1_effect_27 : decode cX1_effect 27 = .ok (.iload_n 0, 1) := by decide +kernel
theorem dX1_effect_28 : decode cX1_effect 28 = .ok (.invokestatic 22, 3) := by decide +kernel
theorem dX1_effect_31 : decode cX1_effect 31 = .ok (.if_icmp .lt 7, 3) := by decide +kernel
theorem dX1_effect_34 : decode cX1_effect 34 = .ok (.iconst 1, 1) := by decide +kernel
theorem dX1_effect_35 : decode cX1_effect 35 = .ok (.goto 4, 3) := by decide +kernel
theorem dX1_effect_38 : decode cX1_effect 38 = .ok (.iconst 0, 1) := by decide +kernel
theorem dX1_effect_39 : decode cX1_effect 39 = .ok (.istore_n 3, 1) := by decide +kernel
theorem dX1_effect_40 : decode cX1_effect 40 = .ok (.iload_n 3, 1) := by decide +kernel
theorem dX1_effect_41 : decode cX1_effect 41 = .ok (.ifCond .eq 7, 3) := by decide +kernel
theorem dX1_effect_44 : decode cX1_effect 44 = .ok (.iload_n 2, 1) := by decide +kernel
theorem dX1_effect_45 : decode cX1_effect 45 = .ok (.goto 4, 3) := by decide +kernel
theorem dX1_effect_48 : decode cX1_effect 48 = .ok (.iconst 0, 1) := by decide +kernel
theorem dX1_effect_49 : decode cX1_effect 49 = .ok (.ireturn, 1) := by decide +kernel
theorem dX2_init_0 : decode cX2_init 0 = .ok (.aload_n 0, 1) := by decide +kernel
theorem dX2_init_1 : decode cX2_init 1 = .ok (.invokespecial 3, 3) := by decide +kernel
theorem dX2_init_4 : decode cX2_init 4 = .ok (.aload_n 0, 1) := by decide +kernel
theorem dX2_init_5 : decode cX2_init 5 = .ok (.bipush 6, 2) := by decide +kernel
theorem dX2_init_7 : decode cX2_init 7 = .ok (.anewarray 9, 3) := by decide +kernel
theorem dX2_init_10 : decode cX2_init 10 = .ok (.putfield 11, 3) := by decide +kernel
theorem dX2_init_13 : decode cX2_init 13 = .ok (.iconst 0, 1) := by decide +kernel
theorem dX2_init_14 : decode cX2_init 14 = .ok (.istore_n 1, 1) := by decide +kernel
theorem dX2_init_15 : decode cX2_init 15 = .ok (.iload_n 1, 1) := by decide +kernel
theorem dX2_init_16 : decode cX2_init 16 = .ok (.bipush 6, 2) := by decide +kernel
theorem dX2_init_18 : decode cX2_init 18 = .ok (.if_icmp .ge 22, 3) := by decide +kernel
theorem dX2_init_21 : decode cX2_init 21 = .ok (.aload_n 0, 1) := by decide +kernel
theorem dX2_init_22 : decode cX2_init 22 = .ok (.getfield 11, 3) := by decide +kernel
theorem dX2_init_25 : decode cX2_init 25 = .ok (.iload_n 1, 1) := by decide +kernel
theorem dX2_init_26 : decode cX2_init 26 = .ok (.new 9, 3) := by decide +kernel
theorem dX2_init_29 : decode cX2_init 29 = .ok (.dup, 1) := by decide +kernel
theorem dX2_init_30 : decode cX2_init 30 = .ok (.invokespecial 17, 3) := by decide +kernel
theorem dX2_init_33 : decode cX2_init 33 = .ok (.aastore, 1) := by decide +kernel
theorem dX2_init_34 : decode cX2_init 34 = .ok (.iinc 1 1, 3) := by decide +kernel
theorem dX2_init_37 : decode cX2_init 37 = .ok (.goto (-22), 3) := by decide +kernel
theorem dX2_init_40 : decode cX2_init 40 = .ok (.return_, 1) := by decide +kernel
theorem dX2_remember_0 : decode cX2_remember 0 = .ok (.aload_n 0, 1) := by decide +kernel
theorem dX2_remember_1 : decode cX2_remember 1 = .ok (.aload_n 0, 1) := by decide +kernel
theorem dX2_remember_2 : decode cX2_remember 2 = .ok (.getfield 18, 3) := by decide +kernel
theorem dX2_remember_5 : decode cX2_remember 5 = .ok (.iconst 1, 1) := by decide +kernel
theorem dX2_remember_6 : decode cX2_remember 6 = .ok (.iadd, 1) := by decide +kernel
theorem dX2_remember_7 : decode cX2_remember 7 = .ok (.bipush 6, 2) := by decide +kernel
theorem dX2_remember_9 : decode cX2_remember 9 = .ok (.if_icmp .ge 12, 3) := by decide +kernel
theorem dX2_remember_12 : decode cX2_remember 12 = .ok (.aload_n 0, 1) := by decide +kernel
theorem dX2_remember_13 : decode cX2_remember 13 = .ok (.getfield 18, 3) := by decide +kernel
theorem dX2_remember_16 : decode cX2_remember 16 = .ok (.iconst 1, 1) := by decide +kernel
theorem dX2_remember_17 : decode cX2_remember 17 = .ok (.iadd, 1) := by decide +kernel
theorem dX2_remember_18 : decode cX2_remember 18 = .ok (.goto 4, 3) := by decide +kernel
theorem dX2_remember_21 : decode cX2_remember 21 = .ok (.iconst 0, 1) := by decide +kernel
theorem dX2_remember_22 : decode cX2_remember 22 = .ok (.putfield 18, 3) := by decide +kernel
theorem dX2_remember_25 : decode cX2_remember 25 = .ok (.aload_n 0, 1) := by decide +kernel
theorem dX2_remember_26 : decode cX2_remember 26 = .ok (.getfield 11, 3) := by decide +kernel
theorem dX2_remember_29 : decode cX2_remember 29 = .ok (.aload_n 0, 1) := by decide +kernel
theorem dX2_remember_30 : decode cX2_remember 30 = .ok (.getfield 18, 3) := by decide +kernel
theorem dX2_remember_33 : decode cX2_remember 33 = .ok (.aaload, 1) := by decide +kernel
theorem dX2_remember_34 : decode cX2_remember 34 = .ok (.aload_n 1, 1) := by decide +kernel
theorem dX2_remember_35 : decode cX2_remember 35 = .ok (.invokevirtual 22, 3) := by decide +kernel
theorem dX2_remember_38 : decode cX2_remember 38 = .ok (.aload_n 0, 1) := by decide +kernel
theorem dX2_remember_39 : decode cX2_remember 39 = .ok (.aload_n 0, 1) := by decide +kernel
theorem dX2_remember_40 : decode cX2_remember 40 = .ok (.getfield 26, 3) := by decide +kernel
theorem dX2_remember_43 : decode cX2_remember 43 = .ok (.iconst 1, 1) := by decide +kernel
theorem dX2_remember_44 : decode cX2_remember 44 = .ok (.iadd, 1) := by decide +kernel
theorem dX2_remember_45 : decode cX2_remember 45 = .ok (.bipush 6, 2) := by decide +kernel
theorem dX2_remember_47 : decode cX2_remember 47 = .ok (.invokestatic 29, 3) := by decide +kernel
theorem dX2_remember_50 : decode cX2_remember 50 = .ok (.putfield 26, 3) := by decide +kernel
theorem dX2_remember_53 : decode cX2_remember 53 = .ok (.return_, 1) := by decide +kernel
theorem dX2_restore_0 : decode cX2_restore 0 = .ok (.aload_n 0, 1) := by decide +kernel
theorem dX2_restore_1 : decode cX2_restore 1 = .ok (.getfield 26, 3) := by decide +kernel
theorem dX2_restore_4 : decode cX2_restore 4 = .ok (.ifCond .le 47, 3) := by decide +kernel
theorem dX2_restore_7 : decode cX2_restore 7 = .ok (.aload_n 1, 1) := by decide +kernel
theorem dX2_restore_8 : decode cX2_restore 8 = .ok (.aload_n 0, 1) := by decide +kernel
theorem dX2_restore_9 : decode cX2_restore 9 = .ok (.getfield 11, 3) := by decide +kernel
theorem dX2_restore_12 : decode cX2_restore 12 = .ok (.aload_n 0, 1) := by decide +kernel
theorem dX2_restore_13 : decode cX2_restore 13 = .ok (.getfield 18, 3) := by decide +kernel
theorem dX2_restore_16 : decode cX2_restore 16 = .ok (.aaload, 1) := by decide +kernel
theorem dX2_restore_17 : decode cX2_restore 17 = .ok (.invokevirtual 22, 3) := by decide +kernel
theorem dX2_restore_20 : decode cX2_restore 20 = .ok (.aload_n 0, 1) := by decide +kernel
theorem dX2_restore_21 : decode cX2_restore 21 = .ok (.aload_n 0, 1) := by decide +kernel
theorem dX2_restore_22 : decode cX2_restore 22 = .ok (.getfield 18, 3) := by decide +kernel
theorem dX2_restore_25 : decode cX2_restore 25 = .ok (.ifCond .le 12, 3) := by decide +kernel
theorem dX2_restore_28 : decode cX2_restore 28 = .ok (.aload_n 0, 1) := by decide +kernel
theorem dX2_restore_29 : decode cX2_restore 29 = .ok (.getfield 18, 3) := by decide +kernel
theorem dX2_restore_32 : decode cX2_restore 32 = .ok (.iconst 1, 1) := by decide +kernel
theorem dX2_restore_33 : decode cX2_restore 33 = .ok (.isub, 1) := by decide +kernel
theorem dX2_restore_34 : decode cX2_restore 34 = .ok (.goto 4, 3) := by decide +kernel
theorem dX2_restore_37 : decode cX2_restore 37 = .ok (.iconst 5, 1) := by decide +kernel
theorem dX2_restore_38 : decode cX2_restore 38 = .ok (.putfield 18, 3) := by decide +kernel
theorem dX2_restore_41 : decode cX2_restore 41 = .ok (.aload_n 0, 1) := by decide +kernel
theorem dX2_restore_42 : decode cX2_restore 42 = .ok (.dup, 1) := by decide +kernel
theorem dX2_restore_43 : decode cX2_restore 43 = .ok (.getfield 26, 3) := by decide +kernel
theorem dX2_restore_46 : decode cX2_restore 46 = .ok (.iconst 1, 1) := by decide +kernel
theorem dX2_restore_47 : decode cX2_restore 47 = .ok (.isub, 1) := by decide +kernel
theorem dX2_restore_48 : decode cX2_restore 48 = .ok (.putfield 26, 3) := by decide +kernel
theorem dX2_restore_51 : decode cX2_restore 51 = .ok (.return_, 1) := by decide +kernel
theorem dX3_init_0 : decode cX3_init 0 = .ok (.aload_n 0, 1) := by decide +kernel
theorem dX3_init_1 : decode cX3_init 1 = .ok (.invokespecial 3, 3) := by decide +kernel
theorem dX3_init_4 : decode cX3_init 4 = .ok (.aload_n 0, 1) := by decide +kernel
theorem dX3_init_5 : decode cX3_init 5 = .ok (.iconst 4, 1) := by decide +kernel
theorem dX3_init_6 : decode cX3_init 6 = .ok (.newarray .int, 2) := by decide +kernel
theorem dX3_init_8 : decode cX3_init 8 = .ok (.putfield 9, 3) := by decide +kernel
theorem dX3_init_11 : decode cX3_init 11 = .ok (.aload_n 0, 1) := by decide +kernel
theorem dX3_init_12 : decode cX3_init 12 = .ok (.iconst 4, 1) := by decide +kernel
theorem dX3_init_13 : decode cX3_init 13 = .ok (.newarray .int, 2) := by decide +kernel
theorem dX3_init_15 : decode cX3_init 15 = .ok (.putfield 15, 3) := by decide +kernel
theorem dX3_init_18 : decode cX3_init 18 = .ok (.aload_n 0, 1) := by decide +kernel
theorem dX3_init_19 : decode cX3_init 19 = .ok (.bipush 8, 2) := by decide +kernel
theorem dX3_init_21 : decode cX3_init 21 = .ok (.newarray .int, 2) := by decide +kernel
theorem dX3_init_23 : decode cX3_init 23 = .ok (.putfield 18, 3) := by decide +kernel
theorem dX3_init_26 : decode cX3_init 26 = .ok (.aload_n 0, 1) := by decide +kernel
theorem dX3_init_27 : decode cX3_init 27 = .ok (.bipush 8, 2) := by decide +kernel
theorem dX3_init_29 : decode cX3_init 29 = .ok (.newarray .int, 2) := by decide +kernel
theorem dX3_init_31 : decode cX3_init 31 = .ok (.putfield 21, 3) := by decide +kernel
theorem dX3_init_34 : decode cX3_init 34 = .ok (.aload_n 0, 1) := by decide +kernel
theorem dX3_init_35 : decode cX3_init 35 = .ok (.invokevirtual 24, 3) := by decide +kernel
theorem dX3_init_38 : decode cX3_init 38 = .ok (.return_, 1) := by decide +kernel
theorem dX3_setAsAtFirst_0 : decode cX3_setAsAtFirst 0 = .ok (.aload_n 0, 1) := by decide +kernel
theorem dX3_setAsAtFirst_1 : decode cX3_setAsAtFirst 1 = .ok (.iconst 1, 1) := by decide +kernel
theorem dX3_setAsAtFirst_2 : decode cX3_setAsAtFirst 2 = .ok (.putfield 27, 3) := by decide +kernel
theorem dX3_setAsAtFirst_5 : decode cX3_setAsAtFirst 5 = .ok (.aload_n 0, 1) := by decide +kernel
theorem dX3_setAsAtFirst_6 : decode cX3_setAsAtFirst 6 = .ok (.iconst 0, 1) := by decide +kernel
theorem dX3_setAsAtFirst_7 : decode cX3_setAsAtFirst 7 = .ok (.putfield 31, 3) := by decide +kernel
theorem dX3_setAsAtFirst_10 : decode cX3_setAsAtFirst 10 = .ok (.aload_n 0, 1) := by decide +kernel
theorem dX3_setAsAtFirst_11 : decode cX3_setAsAtFirst 11 = .ok (.iconst 3, 1) := by decide +kernel
theorem dX3_setAsAtFirst_12 : decode cX3_setAsAtFirst 12 = .ok (.putfield 34, 3) := by decide +kernel
theorem dX3_setAsAtFirst_15 : decode cX3_setAsAtFirst 15 = .ok (.aload_n 0, 1) := by decide +kernel
theorem dX3_setAsAtFirst_16 : decode cX3_setAsAtFirst 16 = .ok (.iconst 3, 1) := by decide +kernel
theorem dX3_setAsAtFirst_17 : decode cX3_setAsAtFirst 17 = .ok (.putfield 37, 3) := by decide +kernel
theorem dX3_setAsAtFirst_20 : decode cX3_setAsAtFirst 20 = .ok (.aload_n 0, 1) := by decide +kernel
theorem dX3_setAsAtFirst_21 : decode cX3_setAsAtFirst 21 = .ok (.iconst 1, 1) := by decide +kernel
theorem dX3_setAsAtFirst_22 : decode cX3_setAsAtFirst 22 = .ok (.putfield 40, 3) := by decide +kernel
theorem dX3_setAsAtFirst_25 : decode cX3_setAsAtFirst 25 = .ok (.aload_n 0, 1) := by decide +kernel
theorem dX3_setAsAtFirst_26 : decode cX3_setAsAtFirst 26 = .ok (.iconst 5, 1) := by decide +kernel
theorem dX3_setAsAtFirst_27 : decode cX3_setAsAtFirst 27 = .ok (.putfield 43, 3) := by decide +kernel
theorem dX3_setAsAtFirst_30 : decode cX3_setAsAtFirst 30 = .ok (.return_, 1) := by decide +kernel
theorem dX3_addUnit_0 : decode cX3_addUnit 0 = .ok (.aload_n 0, 1) := by decide +kernel
theorem dX3_addUnit_1 : decode cX3_addUnit 1 = .ok (.getfield 27, 3) := by decide +kernel
theorem dX3_addUnit_4 : decode cX3_addUnit 4 = .ok (.iconst 1, 1) := by decide +kernel
theorem dX3_addUnit_5 : decode cX3_addUnit 5 = .ok (.iconst 3, 1) := by decide +kernel
theorem dX3_addUnit_6 : decode cX3_addUnit 6 = .ok (.invokestatic 46, 3) := by decide +kernel
theorem dX3_addUnit_9 : decode cX3_addUnit 9 = .ok (.ifCond .eq 45, 3) := by decide +kernel
theorem dX3_addUnit_12 : decode cX3_addUnit 12 = .ok (.aload_n 0, 1) := by decide +kernel
theorem dX3_addUnit_13 : decode cX3_addUnit 13 = .ok (.getfield 9, 3) := by decide +kernel
theorem dX3_addUnit_16 : decode cX3_addUnit 16 = .ok (.aload_n 0, 1) := by decide +kernel
theorem dX3_addUnit_17 : decode cX3_addUnit 17 = .ok (.getfield 27, 3) := by decide +kernel
theorem dX3_addUnit_20 : decode cX3_addUnit 20 = .ok (.iload_n 1, 1) := by decide +kernel
theorem dX3_addUnit_21 : decode cX3_addUnit 21 = .ok (.iastore, 1) := by decide +kernel
theorem dX3_addUnit_22 : decode cX3_addUnit 22 = .ok (.aload_n 0, 1) := by decide +kernel
theorem dX3_addUnit_23 : decode cX3_addUnit 23 = .ok (.getfield 15, 3) := by decide +kernel
theorem dX3_addUnit_26 : decode cX3_addUnit 26 = .ok (.aload_n 0, 1) := by decide +kernel
theorem dX3_addUnit_27 : decode cX3_addUnit 27 = .ok (.getfield 27, 3) := by decide +kernel
theorem dX3_addUnit_30 : decode cX3_addUnit 30 = .ok (.aload_n 0, 1) := by decide +kernel
theorem dX3_addUnit_31 : decode cX3_addUnit 31 = .ok (.getfield 15, 3) := by decide +kernel
theorem dX3_addUnit_34 : decode cX3_addUnit 34 = .ok (.aload_n 0, 1) := by decide +kernel
theorem dX3_addUnit_35 : decode cX3_addUnit 35 = .ok (.getfield 27, 3) := by decide +kernel
theorem dX3_addUnit_38 : decode cX3_addUnit 38 = .ok (.iconst 1, 1) := by decide +kernel
theorem dX3_addUnit_39 : decode cX3_addUnit 39 = .ok (.isub, 1) := by decide +kernel
theorem dX3_addUnit_40 : decode cX3_addUnit 40 = .ok (.iaload, 1) := by decide +kernel
theorem dX3_addUnit_41 : decode cX3_addUnit 41 = .ok (.iload_n 1, 1) := by decide +kernel
theorem dX3_addUnit_42 : decode cX3_addUnit 42 = .ok (.iadd, 1) := by decide +kernel
theorem dX3_addUnit_43 : decode cX3_addUnit 43 = .ok (.iastore, 1) := by decide +kernel
theorem dX3_addUnit_44 : decode cX3_addUnit 44 = .ok (.aload_n 0, 1) := by decide +kernel
theorem dX3_addUnit_45 : decode cX3_addUnit 45 = .ok (.dup, 1) := by decide +kernel
theorem dX3_addUnit_46 : decode cX3_addUnit 46 = .ok (.getfield 27, 3) := by decide +kernel
theorem dX3_addUnit_49 : decode cX3_addUnit 49 = .ok (.iconst 1, 1) := by decide +kernel
theorem dX3_addUnit_50 : decode cX3_addUnit 50 = .ok (.iadd, 1) := by decide +kernel
theorem dX3_addUnit_51 : decode cX3_addUnit 51 = .ok (.putfield 27, 3) := by decide +kernel
theorem dX3_addUnit_54 : decode cX3_addUnit 54 = .ok (.return_, 1) := by decide +kernel
theorem dX3_addReel_0 : decode cX3_addReel 0 = .ok (.aload_n 0, 1) := by decide +kernel
theorem dX3_addReel_1 : decode cX3_addReel 1 = .ok (.getfield 31, 3) := by decide +kernel
theorem dX3_addReel_4 : decode cX3_addReel 4 = .ok (.iconst 0, 1) := by decide +kernel
theorem dX3_addReel_5 : decode cX3_addReel 5 = .ok (.bipush 7, 2) := by decide +kernel
theorem dX3_addReel_7 : decode cX3_addReel 7 = .ok (.invokestatic 46, 3) := by decide +kernel
theorem dX3_addReel_10 : decode cX3_addReel 10 = .ok (.ifCond .eq 33, 3) := by decide +kernel
theorem dX3_addReel_13 : decode cX3_addReel 13 = .ok (.aload_n 0, 1) := by decide +kernel
theorem dX3_addReel_14 : decode cX3_addReel 14 = .ok (.getfield 18, 3) := by decide +kernel
theorem dX3_addReel_17 : decode cX3_addReel 17 = .ok (.aload_n 0, 1) := by decide +kernel
theorem dX3_addReel_18 : decode cX3_addReel 18 = .ok (.getfield 31, 3) := by decide +kernel
theorem dX3_addReel_21 : decode cX3_addReel 21 = .ok (.iload_n 1, 1) := by decide +kernel
theorem dX3_addReel_22 : decode cX3_addReel 22 = .ok (.iastore, 1) := by decide +kernel
theorem dX3_addReel_23 : decode cX3_addReel 23 = .ok (.aload_n 0, 1) := by decide +kernel
theorem dX3_addReel_24 : decode cX3_addReel 24 = .ok (.getfield 21, 3) := by decide +kernel
theorem dX3_addReel_27 : decode cX3_addReel 27 = .ok (.aload_n 0, 1) := by decide +kernel
theorem dX3_addReel_28 : decode cX3_addReel 28 = .ok (.getfield 31, 3) := by decide +kernel
theorem dX3_addReel_31 : decode cX3_addReel 31 = .ok (.iload_n 2, 1) := by decide +kernel
theorem dX3_addReel_32 : decode cX3_addReel 32 = .ok (.iastore, 1) := by decide +kernel
theorem dX3_addReel_33 : decode cX3_addReel 33 = .ok (.aload_n 0, 1) := by decide +kernel
theorem dX3_addReel_34 : decode cX3_addReel 34 = .ok (.dup, 1) := by decide +kernel
theorem dX3_addReel_35 : decode cX3_addReel 35 = .ok (.getfield 31, 3) := by decide +kernel
theorem dX3_addReel_38 : decode cX3_addReel 38 = .ok (.iconst 1, 1) := by decide +kernel
theorem dX3_addReel_39 : decode cX3_addReel 39 = .ok (.iadd, 1) := by decide +kernel
theorem dX3_addReel_40 : decode cX3_addReel 40 = .ok (.putfield 31, 3) := by decide +kernel
theorem dX3_addReel_43 : decode cX3_addReel 43 = .ok (.return_, 1) := by decide +kernel
theorem dX3_hasUnit_0 : decode cX3_hasUnit 0 = .ok (.iload_n 1, 1) := by decide +kernel
theorem dX3_hasUnit_1 : decode cX3_hasUnit 1 = .ok (.ifCond .lt 15, 3) := by decide +kernel
theorem dX3_hasUnit_4 : decode cX3_hasUnit 4 = .ok (.iload_n 1, 1) := by decide +kernel
theorem dX3_hasUnit_5 : decode cX3_hasUnit 5 = .ok (.aload_n 0, 1) := by decide +kernel
theorem dX3_hasUnit_6 : decode cX3_hasUnit 6 = .ok (.getfield 27, 3) := by decide +kernel
theorem dX3_hasUnit_9 : decode cX3_hasUnit 9 = .ok (.if_icmp .ge 7, 3) := by decide +kernel
theorem dX3_hasUnit_12 : decode cX3_hasUnit 12 = .ok (.iconst 1, 1) := by decide +kernel
theorem dX3_hasUnit_13 : decode cX3_hasUnit 13 = .ok (.goto 4, 3) := by decide +kernel
theorem dX3_hasUnit_16 : decode cX3_hasUnit 16 = .ok (.iconst 0, 1) := by decide +kernel
theorem dX3_hasUnit_17 : decode cX3_hasUnit 17 = .ok (.ireturn, 1) := by decide +kernel
theorem dX3_isMovable_0 : decode cX3_isMovable 0 = .ok (.iload_n 1, 1) := by decide +kernel
theorem dX3_isMovable_1 : decode cX3_isMovable 1 = .ok (.iconst 1, 1) := by decide +kernel
theorem dX3_isMovable_2 : decode cX3_isMovable 2 = .ok (.if_icmp .lt 15, 3) := by decide +kernel
theorem dX3_isMovable_5 : decode cX3_isMovable 5 = .ok (.iload_n 1, 1) := by decide +kernel
theorem dX3_isMovable_6 : decode cX3_isMovable 6 = .ok (.aload_n 0, 1) := by decide +kernel
theorem dX3_isMovable_7 : decode cX3_isMovable 7 = .ok (.getfield 27, 3) := by decide +kernel
theorem dX3_isMovable_10 : decode cX3_isMovable 10 = .ok (.if_icmp .ge 7, 3) := by decide +kernel
theorem dX3_isMovable_13 : decode cX3_isMovable 13 = .ok (.iconst 1, 1) := by decide +kernel
theorem dX3_isMovable_14 : decode cX3_isMovable 14 = .ok (.goto 4, 3) := by decide +kernel
theorem dX3_isMovable_17 : decode cX3_isMovable 17 = .ok (.iconst 0, 1) := by decide +kernel
theorem dX3_isMovable_18 : decode cX3_isMovable 18 = .ok (.ireturn, 1) := by decide +kernel
theorem dX3_hasReel_0 : decode cX3_hasReel 0 = .ok (.iload_n 1, 1) := by decide +kernel
theorem dX3_hasReel_1 : decode cX3_hasReel 1 = .ok (.ifCond .lt 15, 3) := by decide +kernel
theorem dX3_hasReel_4 : decode cX3_hasReel 4 = .ok (.iload_n 1, 1) := by decide +kernel
theorem dX3_hasReel_5 : decode cX3_hasReel 5 = .ok (.aload_n 0, 1) := by decide +kernel
theorem dX3_hasReel_6 : decode cX3_hasReel 6 = .ok (.getfield 31, 3) := by decide +kernel
theorem dX3_hasReel_9 : decode cX3_hasReel 9 = .ok (.if_icmp .ge 7, 3) := by decide +kernel
theorem dX3_hasReel_12 : decode cX3_hasReel 12 = .ok (.iconst 1, 1) := by decide +kernel
theorem dX3_hasReel_13 : decode cX3_hasReel 13 = .ok (.goto 4, 3) := by decide +kernel
theorem dX3_hasReel_16 : decode cX3_hasReel 16 = .ok (.iconst 0, 1) := by decide +kernel
theorem dX3_hasReel_17 : decode cX3_hasReel 17 = .ok (.ireturn, 1) := by decide +kernel
theorem dX3_ticksToCameraFrom_0 : decode cX3_ticksToCameraFrom 0 = .ok (.aload_n 0, 1) := by decide +kernel
theorem dX3_ticksToCameraFrom_1 : decode cX3_ticksToCameraFrom 1 = .ok (.getfield 15, 3) := by decide +kernel
theorem dX3_ticksToCameraFrom_4 : decode cX3_ticksToCameraFrom 4 = .ok (.aload_n 0, 1) := by decide +kernel
theorem dX3_ticksToCameraFrom_5 : decode cX3_ticksToCameraFrom 5 = .ok (.getfield 27, 3) := by decide +kernel
theorem dX3_ticksToCameraFrom_8 : decode cX3_ticksToCameraFrom 8 = .ok (.iconst 1, 1) := by decide +kernel
theorem dX3_ticksToCameraFrom_9 : decode cX3_ticksToCameraFrom 9 = .ok (.isub, 1) := by decide +kernel
theorem dX3_ticksToCameraFrom_10 : decode cX3_ticksToCameraFrom 10 = .ok (.iaload, 1) := by decide +kernel
theorem dX3_ticksToCameraFrom_11 : decode cX3_ticksToCameraFrom 11 = .ok (.aload_n 0, 1) := by decide +kernel
theorem dX3_ticksToCameraFrom_12 : decode cX3_ticksToCameraFrom 12 = .ok (.getfield 15, 3) := by decide +kernel
theorem dX3_ticksToCameraFrom_15 : decode cX3_ticksToCameraFrom 15 = .ok (.iload_n 1, 1) := by decide +kernel
theorem dX3_ticksToCameraFrom_16 : decode cX3_ticksToCameraFrom 16 = .ok (.iaload, 1) := by decide +kernel
theorem dX3_ticksToCameraFrom_17 : decode cX3_ticksToCameraFrom 17 = .ok (.isub, 1) := by decide +kernel
theorem dX3_ticksToCameraFrom_18 : decode cX3_ticksToCameraFrom 18 = .ok (.aload_n 0, 1) := by decide +kernel
theorem dX3_ticksToCameraFrom_19 : decode cX3_ticksToCameraFrom 19 = .ok (.getfield 34, 3) := by decide +kernel
theorem dX3_ticksToCameraFrom_22 : decode cX3_ticksToCameraFrom 22 = .ok (.iadd, 1) := by decide +kernel
theorem dX3_ticksToCameraFrom_23 : decode cX3_ticksToCameraFrom 23 = .ok (.ireturn, 1) := by decide +kernel
end
section
theorem dX4_init_0 : decode cX4_init 0 = .ok (.aload_n 0, 1) := by decide +kernel
theorem dX4_init_1 : decode cX4_init 1 = .ok (.invokespecial 3, 3) := by decide +kernel
theorem dX4_init_4 : decode cX4_init 4 = .ok (.aload_n 0, 1) := by decide +kernel
theorem dX4_init_5 : decode cX4_init 5 = .ok (.iconst 4, 1) := by decide +kernel
theorem dX4_init_6 : decode cX4_init 6 = .ok (.newarray .int, 2) := by decide +kernel
theorem dX4_init_8 : decode cX4_init 8 = .ok (.putfield 9, 3) := by decide +kernel
theorem dX4_init_11 : decode cX4_init 11 = .ok (.aload_n 0, 1) := by decide +kernel
theorem dX4_init_12 : decode cX4_init 12 = .ok (.iconst 4, 1) := by decide +kernel
theorem dX4_init_13 : decode cX4_init 13 = .ok (.newarray .int, 2) := by decide +kernel
theorem dX4_init_15 : decode cX4_init 15 = .ok (.putfield 15, 3) := by decide +kernel
theorem dX4_init_18 : decode cX4_init 18 = .ok (.aload_n 0, 1) := by decide +kernel
theorem dX4_init_19 : decode cX4_init 19 = .ok (.iconst 4, 1) := by decide +kernel
theorem dX4_init_20 : decode cX4_init 20 = .ok (.newarray .int, 2) := by decide +kernel
theorem dX4_init_22 : decode cX4_init 22 = .ok (.putfield 18, 3) := by decide +kernel
theorem dX4_init_25 : decode cX4_init 25 = .ok (.aload_n 0, 1) := by decide +kernel
theorem dX4_init_26 : decode cX4_init 26 = .ok (.bipush 32, 2) := by decide +kernel
theorem dX4_init_28 : decode cX4_init 28 = .ok (.newarray .int, 2) := by decide +kernel
theorem dX4_init_30 : decode cX4_init 30 = .ok (.putfield 21, 3) := by decide +kernel
theorem dX4_init_33 : decode cX4_init 33 = .ok (.aload_n 0, 1) := by decide +kernel
theorem dX4_init_34 : decode cX4_init 34 = .ok (.new 24, 3) := by decide +kernel
theorem dX4_init_37 : decode cX4_init 37 = .ok (.dup, 1) := by decide +kernel
theorem dX4_init_38 : decode cX4_init 38 = .ok (.invokespecial 26, 3) := by decide +kernel
theorem dX4_init_41 : decode cX4_init 41 = .ok (.putfield 27, 3) := by decide +kernel
theorem dX4_init_44 : decode cX4_init 44 = .ok (.return_, 1) := by decide +kernel
theorem dX4_setAsAtFirst_0 : decode cX4_setAsAtFirst 0 = .ok (.aload_n 0, 1) := by decide +kernel
theorem dX4_setAsAtFirst_1 : decode cX4_setAsAtFirst 1 = .ok (.getfield 9, 3) := by decide +kernel
theorem dX4_setAsAtFirst_4 : decode cX4_setAsAtFirst 4 = .ok (.iconst 0, 1) := by decide +kernel
theorem dX4_setAsAtFirst_5 : decode cX4_setAsAtFirst 5 = .ok (.invokestatic 31, 3) := by decide +kernel
theorem dX4_setAsAtFirst_8 : decode cX4_setAsAtFirst 8 = .ok (.aload_n 0, 1) := by decide +kernel
theorem dX4_setAsAtFirst_9 : decode cX4_setAsAtFirst 9 = .ok (.getfield 15, 3) := by decide +kernel
theorem dX4_setAsAtFirst_12 : decode cX4_setAsAtFirst 12 = .ok (.iconst 0, 1) := by decide +kernel
theorem dX4_setAsAtFirst_13 : decode cX4_setAsAtFirst 13 = .ok (.invokestatic 31, 3) := by decide +kernel
theorem dX4_setAsAtFirst_16 : decode cX4_setAsAtFirst 16 = .ok (.aload_n 0, 1) := by decide +kernel
theorem dX4_setAsAtFirst_17 : decode cX4_setAsAtFirst 17 = .ok (.getfield 18, 3) := by decide +kernel
theorem dX4_setAsAtFirst_20 : decode cX4_setAsAtFirst 20 = .ok (.iconst 0, 1) := by decide +kernel
theorem dX4_setAsAtFirst_21 : decode cX4_setAsAtFirst 21 = .ok (.invokestatic 31, 3) := by decide +kernel
theorem dX4_setAsAtFirst_24 : decode cX4_setAsAtFirst 24 = .ok (.aload_n 0, 1) := by decide +kernel
theorem dX4_setAsAtFirst_25 : decode cX4_setAsAtFirst 25 = .ok (.getfield 21, 3) := by decide +kernel
theorem dX4_setAsAtFirst_28 : decode cX4_setAsAtFirst 28 = .ok (.iconst 0, 1) := by decide +kernel
theorem dX4_setAsAtFirst_29 : decode cX4_setAsAtFirst 29 = .ok (.invokestatic 31, 3) := by decide +kernel
theorem dX4_setAsAtFirst_32 : decode cX4_setAsAtFirst 32 = .ok (.aload_n 0, 1) := by decide +kernel
theorem dX4_setAsAtFirst_33 : decode cX4_setAsAtFirst 33 = .ok (.getfield 27, 3) := by decide +kernel
theorem dX4_setAsAtFirst_36 : decode cX4_setAsAtFirst 36 = .ok (.invokevirtual 37, 3) := by decide +kernel
theorem dX4_setAsAtFirst_39 : decode cX4_setAsAtFirst 39 = .ok (.aload_n 0, 1) := by decide +kernel
theorem dX4_setAsAtFirst_40 : decode cX4_setAsAtFirst 40 = .ok (.aload_n 1, 1) := by decide +kernel
theorem dX4_setAsAtFirst_41 : decode cX4_setAsAtFirst 41 = .ok (.getfield 40, 3) := by decide +kernel
theorem dX4_setAsAtFirst_44 : decode cX4_setAsAtFirst 44 = .ok (.ifCond .le 7, 3) := by decide +kernel
theorem dX4_setAsAtFirst_47 : decode cX4_setAsAtFirst 47 = .ok (.iconst 0, 1) := by decide +kernel
theorem dX4_setAsAtFirst_48 : decode cX4_setAsAtFirst 48 = .ok (.goto 5, 3) := by decide +kernel
theorem dX4_setAsAtFirst_51 : decode cX4_setAsAtFirst 51 = .ok (.bipush (-9), 2) := by decide +kernel
theorem dX4_setAsAtFirst_53 : decode cX4_setAsAtFirst 53 = .ok (.putfield 46, 3) := by decide +kernel
theorem dX4_setAsAtFirst_56 : decode cX4_setAsAtFirst 56 = .ok (.aload_n 0, 1) := by decide +kernel
theorem dX4_setAsAtFirst_57 : decode cX4_setAsAtFirst 57 = .ok (.aload_n 1, 1) := by decide +kernel
theorem dX4_setAsAtFirst_58 : decode cX4_setAsAtFirst 58 = .ok (.getfield 40, 3) := by decide +kernel
theorem dX4_setAsAtFirst_61 : decode cX4_setAsAtFirst 61 = .ok (.ifCond .le 12, 3) := by decide +kernel
theorem dX4_setAsAtFirst_64 : decode cX4_setAsAtFirst 64 = .ok (.aload_n 1, 1) := by decide +kernel
theorem dX4_setAsAtFirst_65 : decode cX4_setAsAtFirst 65 = .ok (.getfield 49, 3) := by decide +kernel
theorem dX4_setAsAtFirst_68 : decode cX4_setAsAtFirst 68 = .ok (.iconst 0, 1) := by decide +kernel
theorem dX4_setAsAtFirst_69 : decode cX4_setAsAtFirst 69 = .ok (.iaload, 1) := by decide +kernel
theorem dX4_setAsAtFirst_70 : decode cX4_setAsAtFirst 70 = .ok (.goto 4, 3) := by decide +kernel
theorem dX4_setAsAtFirst_73 : decode cX4_setAsAtFirst 73 = .ok (.iconst 0, 1) := by decide +kernel
theorem dX4_setAsAtFirst_74 : decode cX4_setAsAtFirst 74 = .ok (.putfield 52, 3) := by decide +kernel
theorem dX4_setAsAtFirst_77 : decode cX4_setAsAtFirst 77 = .ok (.aload_n 0, 1) := by decide +kernel
theorem dX4_setAsAtFirst_78 : decode cX4_setAsAtFirst 78 = .ok (.iconst 0, 1) := by decide +kernel
theorem dX4_setAsAtFirst_79 : decode cX4_setAsAtFirst 79 = .ok (.putfield 55, 3) := by decide +kernel
theorem dX4_setAsAtFirst_82 : decode cX4_setAsAtFirst 82 = .ok (.aload_n 0, 1) := by decide +kernel
theorem dX4_setAsAtFirst_83 : decode cX4_setAsAtFirst 83 = .ok (.iconst 1, 1) := by decide +kernel
theorem dX4_setAsAtFirst_84 : decode cX4_setAsAtFirst 84 = .ok (.putfield 58, 3) := by decide +kernel
theorem dX4_setAsAtFirst_87 : decode cX4_setAsAtFirst 87 = .ok (.aload_n 0, 1) := by decide +kernel
theorem dX4_setAsAtFirst_88 : decode cX4_setAsAtFirst 88 = .ok (.iconst 1, 1) := by decide +kernel
theorem dX4_setAsAtFirst_89 : decode cX4_setAsAtFirst 89 = .ok (.putfield 62, 3) := by decide +kernel
theorem dX4_setAsAtFirst_92 : decode cX4_setAsAtFirst 92 = .ok (.aload_n 0, 1) := by decide +kernel
theorem dX4_setAsAtFirst_93 : decode cX4_setAsAtFirst 93 = .ok (.iconst 0, 1) := by decide +kernel
theorem dX4_setAsAtFirst_94 : decode cX4_setAsAtFirst 94 = .ok (.putfield 65, 3) := by decide +kernel
theorem dX4_setAsAtFirst_97 : decode cX4_setAsAtFirst 97 = .ok (.aload_n 0, 1) := by decide +kernel
theorem dX4_setAsAtFirst_98 : decode cX4_setAsAtFirst 98 = .ok (.iconst 0, 1) := by decide +kernel
theorem dX4_setAsAtFirst_99 : decode cX4_setAsAtFirst 99 = .ok (.putfield 68, 3) := by decide +kernel
theorem dX4_setAsAtFirst_102 : decode cX4_setAsAtFirst 102 = .ok (.aload_n 0, 1) := by decide +kernel
theorem dX4_setAsAtFirst_103 : decode cX4_setAsAtFirst 103 = .ok (.iconst 0, 1) := by decide +kernel
theorem dX4_setAsAtFirst_104 : decode cX4_setAsAtFirst 104 = .ok (.putfield 71, 3) := by decide +kernel
theorem dX4_setAsAtFirst_107 : decode cX4_setAsAtFirst 107 = .ok (.aload_n 0, 1) := by decide +kernel
theorem dX4_setAsAtFirst_108 : decode cX4_setAsAtFirst 108 = .ok (.iconst 0, 1) := by decide +kernel
theorem dX4_setAsAtFirst_109 : decode cX4_setAsAtFirst 109 = .ok (.putfield 74, 3) := by decide +kernel
theorem dX4_setAsAtFirst_112 : decode cX4_setAsAtFirst 112 = .ok (.return_, 1) := by decide +kernel
theorem dX4_takeFrom_0 : decode cX4_takeFrom 0 = .ok (.aload_n 1, 1) := by decide +kernel
theorem dX4_takeFrom_1 : decode cX4_takeFrom 1 = .ok (.getfield 9, 3) := by decide +kernel
theorem dX4_takeFrom_4 : decode cX4_takeFrom 4 = .ok (.iconst 0, 1) := by decide +kernel
theorem dX4_takeFrom_5 : decode cX4_takeFrom 5 = .ok (.aload_n 0, 1) := by decide +kernel
theorem dX4_takeFrom_6 : decode cX4_takeFrom 6 = .ok (.getfield 9, 3) := by decide +kernel
theorem dX4_takeFrom_9 : decode cX4_takeFrom 9 = .ok (.iconst 0, 1) := by decide +kernel
theorem dX4_takeFrom_10 : decode cX4_takeFrom 10 = .ok (.iconst 4, 1) := by decide +kernel
theorem dX4_takeFrom_11 : decode cX4_takeFrom 11 = .ok (.invokestatic 77, 3) := by decide +kernel
theorem dX4_takeFrom_14 : decode cX4_takeFrom 14 = .ok (.aload_n 1, 1) := by decide +kernel
theorem dX4_takeFrom_15 : decode cX4_takeFrom 15 = .ok (.getfield 15, 3) := by decide +kernel
theorem dX4_takeFrom_18 : decode cX4_takeFrom 18 = .ok (.iconst 0, 1) := by decide +kernel
theorem dX4_takeFrom_19 : decode cX4_takeFrom 19 = .ok (.aload_n 0, 1) := by decide +kernel
theorem dX4_takeFrom_20 : decode cX4_takeFrom 20 = .ok (.getfield 15, 3) := by decide +kernel
theorem dX4_takeFrom_23 : decode cX4_takeFrom 23 = .ok (.iconst 0, 1) := by decide +kernel
theorem dX4_takeFrom_24 : decode cX4_takeFrom 24 = .ok (.iconst 4, 1) := by decide +kernel
theorem dX4_takeFrom_25 : decode cX4_takeFrom 25 = .ok (.invokestatic 77, 3) := by decide +kernel
theorem dX4_takeFrom_28 : decode cX4_takeFrom 28 = .ok (.aload_n 1, 1) := by decide +kernel
theorem dX4_takeFrom_29 : decode cX4_takeFrom 29 = .ok (.getfield 18, 3) := by decide +kernel
theorem dX4_takeFrom_32 : decode cX4_takeFrom 32 = .ok (.iconst 0, 1) := by decide +kernel
theorem dX4_takeFrom_33 : decode cX4_takeFrom 33 = .ok (.aload_n 0, 1) := by decide +kernel
theorem dX4_takeFrom_34 : decode cX4_takeFrom 34 = .ok (.getfield 18, 3) := by decide +kernel
theorem dX4_takeFrom_37 : decode cX4_takeFrom 37 = .ok (.iconst 0, 1) := by decide +kernel
theorem dX4_takeFrom_38 : decode cX4_takeFrom 38 = .ok (.iconst 4, 1) := by decide +kernel
theorem dX4_takeFrom_39 : decode cX4_takeFrom 39 = .ok (.invokestatic 77, 3) := by decide +kernel
theorem dX4_takeFrom_42 : decode cX4_takeFrom 42 = .ok (.aload_n 1, 1) := by decide +kernel
theorem dX4_takeFrom_43 : decode cX4_takeFrom 43 = .ok (.getfield 21, 3) := by decide +kernel
theorem dX4_takeFrom_46 : decode cX4_takeFrom 46 = .ok (.iconst 0, 1) := by decide +kernel
theorem dX4_takeFrom_47 : decode cX4_takeFrom 47 = .ok (.aload_n 0, 1) := by decide +kernel
theorem dX4_takeFrom_48 : decode cX4_takeFrom 48 = .ok (.getfield 21, 3) := by decide +kernel
theorem dX4_takeFrom_51 : decode cX4_takeFrom 51 = .ok (.iconst 0, 1) := by decide +kernel
theorem dX4_takeFrom_52 : decode cX4_takeFrom 52 = .ok (.bipush 32, 2) := by decide +kernel
theorem dX4_takeFrom_54 : decode cX4_takeFrom 54 = .ok (.invokestatic 77, 3) := by decide +kernel
theorem dX4_takeFrom_57 : decode cX4_takeFrom 57 = .ok (.aload_n 0, 1) := by decide +kernel
theorem dX4_takeFrom_58 : decode cX4_takeFrom 58 = .ok (.getfield 27, 3) := by decide +kernel
theorem dX4_takeFrom_61 : decode cX4_takeFrom 61 = .ok (.aload_n 1, 1) := by decide +kernel
theorem dX4_takeFrom_62 : decode cX4_takeFrom 62 = .ok (.getfield 27, 3) := by decide +kernel
theorem dX4_takeFrom_65 : decode cX4_takeFrom 65 = .ok (.invokevirtual 83, 3) := by decide +kernel
theorem dX4_takeFrom_68 : decode cX4_takeFrom 68 = .ok (.aload_n 0, 1) := by decide +kernel
theorem dX4_takeFrom_69 : decode cX4_takeFrom 69 = .ok (.aload_n 1, 1) := by decide +kernel
theorem dX4_takeFrom_70 : decode cX4_takeFrom 70 = .ok (.getfield 46, 3) := by decide +kernel
theorem dX4_takeFrom_73 : decode cX4_takeFrom 73 = .ok (.putfield 46, 3) := by decide +kernel
theorem dX4_takeFrom_76 : decode cX4_takeFrom 76 = .ok (.aload_n 0, 1) := by decide +kernel
theorem dX4_takeFrom_77 : decode cX4_takeFrom 77 = .ok (.aload_n 1, 1) := by decide +kernel
theorem dX4_takeFrom_78 : decode cX4_takeFrom 78 = .ok (.getfield 52, 3) := by decide +kernel
theorem dX4_takeFrom_81 : decode cX4_takeFrom 81 = .ok (.putfield 52, 3) := by decide +kernel
theorem dX4_takeFrom_84 : decode cX4_takeFrom 84 = .ok (.aload_n 0, 1) := by decide +kernel
theorem dX4_takeFrom_85 : decode cX4_takeFrom 85 = .ok (.aload_n 1, 1) := by decide +kernel
theorem dX4_takeFrom_86 : decode cX4_takeFrom 86 = .ok (.getfield 55, 3) := by decide +kernel
theorem dX4_takeFrom_89 : decode cX4_takeFrom 89 = .ok (.putfield 55, 3) := by decide +kernel
theorem dX4_takeFrom_92 : decode cX4_takeFrom 92 = .ok (.aload_n 0, 1) := by decide +kernel
theorem dX4_takeFrom_93 : decode cX4_takeFrom 93 = .ok (.aload_n 1, 1) := by decide +kernel
theorem dX4_takeFrom_94 : decode cX4_takeFrom 94 = .ok (.getfield 58, 3) := by decide +kernel
theorem dX4_takeFrom_97 : decode cX4_takeFrom 97 = .ok (.putfield 58, 3) := by decide +kernel
theorem dX4_takeFrom_100 : decode cX4_takeFrom 100 = .ok (.aload_n 0, 1) := by decide +kernel
theorem dX4_takeFrom_101 : decode cX4_takeFrom 101 = .ok (.aload_n 1, 1) := by decide +kernel
theorem dX4_takeFrom_102 : decode cX4_takeFrom 102 = .ok (.getfield 62, 3) := by decide +kernel
theorem dX4_takeFrom_105 : decode cX4_takeFrom 105 = .ok (.putfield 62, 3) := by decide +kernel
theorem dX4_takeFrom_108 : decode cX4_takeFrom 108 = .ok (.aload_n 0, 1) := by decide +kernel
theorem dX4_takeFrom_109 : decode cX4_takeFrom 109 = .ok (.aload_n 1, 1) := by decide +kernel
theorem dX4_takeFrom_110 : decode cX4_takeFrom 110 = .ok (.getfield 65, 3) := by decide +kernel
theorem dX4_takeFrom_113 : decode cX4_takeFrom 113 = .ok (.putfield 65, 3) := by decide +kernel
theorem dX4_takeFrom_116 : decode cX4_takeFrom 116 = .ok (.aload_n 0, 1) := by decide +kernel
theorem dX4_takeFrom_117 : decode cX4_takeFrom 117 = .ok (.aload_n 1, 1) := by decide +kernel
theorem dX4_takeFrom_118 : decode cX4_takeFrom 118 = .ok (.getfield 68, 3) := by decide +kernel
theorem dX4_takeFrom_121 : decode cX4_takeFrom 121 = .ok (.putfield 68, 3) := by decide +kernel
theorem dX4_takeFrom_124 : decode cX4_takeFrom 124 = .ok (.aload_n 0, 1) := by decide +kernel
theorem dX4_takeFrom_125 : decode cX4_takeFrom 125 = .ok (.aload_n 1, 1) := by decide +kernel
theorem dX4_takeFrom_126 : decode cX4_takeFrom 126 = .ok (.getfield 71, 3) := by decide +kernel
theorem dX4_takeFrom_129 : decode cX4_takeFrom 129 = .ok (.putfield 71, 3) := by decide +kernel
theorem dX4_takeFrom_132 : decode cX4_takeFrom 132 = .ok (.aload_n 0, 1) := by decide +kernel
theorem dX4_takeFrom_133 : decode cX4_takeFrom 133 = .ok (.aload_n 1, 1) := by decide +kernel
theorem dX4_takeFrom_134 : decode cX4_takeFrom 134 = .ok (.getfield 74, 3) := by decide +kernel
theorem dX4_takeFrom_137 : decode cX4_takeFrom 137 = .ok (.putfield 74, 3) := by decide +kernel
theorem dX4_takeFrom_140 : decode cX4_takeFrom 140 = .ok (.return_, 1) := by decide +kernel
theorem dX4_nextReel_0 : decode cX4_nextReel 0 = .ok (.aload_n 0, 1) := by decide +kernel
theorem dX4_nextReel_1 : decode cX4_nextReel 1 = .ok (.getfield 46, 3) := by decide +kernel
theorem dX4_nextReel_4 : decode cX4_nextReel 4 = .ok (.bipush (-9), 2) := by decide +kernel
theorem dX4_nextReel_6 : decode cX4_nextReel 6 = .ok (.if_icmp .eq 25, 3) := by decide +kernel
theorem dX4_nextReel_9 : decode cX4_nextReel 9 = .ok (.aload_n 1, 1) := by decide +kernel
theorem dX4_nextReel_10 : decode cX4_nextReel 10 = .ok (.aload_n 0, 1) := by decide +kernel
theorem dX4_nextReel_11 : decode cX4_nextReel 11 = .ok (.getfield 46, 3) := by decide +kernel
theorem dX4_nextReel_14 : decode cX4_nextReel 14 = .ok (.iconst 1, 1) := by decide +kernel
theorem dX4_nextReel_15 : decode cX4_nextReel 15 = .ok (.iadd, 1) := by decide +kernel
theorem dX4_nextReel_16 : decode cX4_nextReel 16 = .ok (.invokevirtual 87, 3) := by decide +kernel
theorem dX4_nextReel_19 : decode cX4_nextReel 19 = .ok (.ifCond .eq 12, 3) := by decide +kernel
theorem dX4_nextReel_22 : decode cX4_nextReel 22 = .ok (.aload_n 0, 1) := by decide +kernel
theorem dX4_nextReel_23 : decode cX4_nextReel 23 = .ok (.getfield 46, 3) := by decide +kernel
theorem dX4_nextReel_26 : decode cX4_nextReel 26 = .ok (.iconst 1, 1) := by decide +kernel
theorem dX4_nextReel_27 : decode cX4_nextReel 27 = .ok (.iadd, 1) := by decide +kernel
theorem dX4_nextReel_28 : decode cX4_nextReel 28 = .ok (.goto 5, 3) := by decide +kernel
theorem dX4_nextReel_31 : decode cX4_nextReel 31 = .ok (.bipush (-9), 2) := by decide +kernel
theorem dX4_nextReel_33 : decode cX4_nextReel 33 = .ok (.ireturn, 1) := by decide +kernel
theorem dX4_leftOn_0 : decode cX4_leftOn 0 = .ok (.iload_n 2, 1) := by decide +kernel
theorem dX4_leftOn_1 : decode cX4_leftOn 1 = .ok (.aload_n 0, 1) := by decide +kernel
theorem dX4_leftOn_2 : decode cX4_leftOn 2 = .ok (.getfield 46, 3) := by decide +kernel
theorem dX4_leftOn_5 : decode cX4_leftOn 5 = .ok (.if_icmp .ne 8, 3) := by decide +kernel
theorem dX4_leftOn_8 : decode cX4_leftOn 8 = .ok (.aload_n 0, 1) := by decide +kernel
theorem dX4_leftOn_9 : decode cX4_leftOn 9 = .ok (.getfield 52, 3) := by decide +kernel
theorem dX4_leftOn_12 : decode cX4_leftOn 12 = .ok (.ireturn, 1) := by decide +kernel
theorem dX4_leftOn_13 : decode cX4_leftOn 13 = .ok (.iload_n 2, 1) := by decide +kernel
theorem dX4_leftOn_14 : decode cX4_leftOn 14 = .ok (.aload_n 0, 1) := by decide +kernel
theorem dX4_leftOn_15 : decode cX4_leftOn 15 = .ok (.getfield 46, 3) := by decide +kernel
theorem dX4_leftOn_18 : decode cX4_leftOn 18 = .ok (.if_icmp .le 20, 3) := by decide +kernel
theorem dX4_leftOn_21 : decode cX4_leftOn 21 = .ok (.aload_n 1, 1) := by decide +kernel
theorem dX4_leftOn_22 : decode cX4_leftOn 22 = .ok (.iload_n 2, 1) := by decide +kernel
theorem dX4_leftOn_23 : decode cX4_leftOn 23 = .ok (.invokevirtual 87, 3) := by decide +kernel
theorem dX4_leftOn_26 : decode cX4_leftOn 26 = .ok (.ifCond .eq 12, 3) := by decide +kernel
theorem dX4_leftOn_29 : decode cX4_leftOn 29 = .ok (.aload_n 1, 1) := by decide +kernel
theorem dX4_leftOn_30 : decode cX4_leftOn 30 = .ok (.getfield 49, 3) := by decide +kernel
theorem dX4_leftOn_33 : decode cX4_leftOn 33 = .ok (.iload_n 2, 1) := by decide +kernel
theorem dX4_leftOn_34 : decode cX4_leftOn 34 = .ok (.iaload, 1) := by decide +kernel
theorem dX4_leftOn_35 : decode cX4_leftOn 35 = .ok (.goto 4, 3) := by decide +kernel
theorem dX4_leftOn_38 : decode cX4_leftOn 38 = .ok (.iconst 0, 1) := by decide +kernel
theorem dX4_leftOn_39 : decode cX4_leftOn 39 = .ok (.ireturn, 1) := by decide +kernel
theorem dX4_toBePassed_0 : decode cX4_toBePassed 0 = .ok (.iconst 0, 1) := by decide +kernel
theorem dX4_toBePassed_1 : decode cX4_toBePassed 1 = .ok (.istore_n 2, 1) := by decide +kernel
theorem dX4_toBePassed_2 : decode cX4_toBePassed 2 = .ok (.iconst 0, 1) := by decide +kernel
theorem dX4_toBePassed_3 : decode cX4_toBePassed 3 = .ok (.istore_n 3, 1) := by decide +kernel
theorem dX4_toBePassed_4 : decode cX4_toBePassed 4 = .ok (.iload_n 3, 1) := by decide +kernel
theorem dX4_toBePassed_5 : decode cX4_toBePassed 5 = .ok (.bipush 8, 2) := by decide +kernel
theorem dX4_toBePassed_7 : decode cX4_toBePassed 7 = .ok (.if_icmp .ge 22, 3) := by decide +kernel
theorem dX4_toBePassed_10 : decode cX4_toBePassed 10 = .ok (.iload_n 2, 1) := by decide +kernel
theorem dX4_toBePassed_11 : decode cX4_toBePassed 11 = .ok (.aload_n 0, 1) := by decide +kernel
theorem dX4_toBePassed_12 : decode cX4_toBePassed 12 = .ok (.getfield 21, 3) := by decide +kernel
theorem dX4_toBePassed_15 : decode cX4_toBePassed 15 = .ok (.iload_n 1, 1) := by decide +kernel
theorem dX4_toBePassed_16 : decode cX4_toBePassed 16 = .ok (.iload_n 3, 1) := by decide +kernel
theorem dX4_toBePassed_17 : decode cX4_toBePassed 17 = .ok (.invokestatic 91, 3) := by decide +kernel
theorem dX4_toBePassed_20 : decode cX4_toBePassed 20 = .ok (.iaload, 1) := by decide +kernel
theorem dX4_toBePassed_21 : decode cX4_toBePassed 21 = .ok (.iadd, 1) := by decide +kernel
theorem dX4_toBePassed_22 : decode cX4_toBePassed 22 = .ok (.istore_n 2, 1) := by decide +kernel
theorem dX4_toBePassed_23 : decode cX4_toBePassed 23 = .ok (.iinc 3 1, 3) := by decide +kernel
theorem dX4_toBePassed_26 : decode cX4_toBePassed 26 = .ok (.goto (-22), 3) := by decide +kernel
theorem dX4_toBePassed_29 : decode cX4_toBePassed 29 = .ok (.iload_n 2, 1) := by decide +kernel
theorem dX4_toBePassed_30 : decode cX4_toBePassed 30 = .ok (.ireturn, 1) := by decide +kernel
theorem dX4_passPlace_0 : decode cX4_passPlace 0 = .ok (.iload_n 0, 1) := by decide +kernel
theorem dX4_passPlace_1 : decode cX4_passPlace 1 = .ok (.iconst 3, 1) := by decide +kernel
theorem dX4_passPlace_2 : decode cX4_passPlace 2 = .ok (.iand, 1) := by decide +kernel
theorem dX4_passPlace_3 : decode cX4_passPlace 3 = .ok (.bipush 8, 2) := by decide +kernel
theorem dX4_passPlace_5 : decode cX4_passPlace 5 = .ok (.imul, 1) := by decide +kernel
theorem dX4_passPlace_6 : decode cX4_passPlace 6 = .ok (.iload_n 1, 1) := by decide +kernel
theorem dX4_passPlace_7 : decode cX4_passPlace 7 = .ok (.bipush 7, 2) := by decide +kernel
theorem dX4_passPlace_9 : decode cX4_passPlace 9 = .ok (.iand, 1) := by decide +kernel
theorem dX4_passPlace_10 : decode cX4_passPlace 10 = .ok (.iadd, 1) := by decide +kernel
theorem dX4_passPlace_11 : decode cX4_passPlace 11 = .ok (.ireturn, 1) := by decide +kernel
theorem dX4_correct_0 : decode cX4_correct 0 = .ok (.aload_n 1, 1) := by decide +kernel
theorem dX4_correct_1 : decode cX4_correct 1 = .ok (.iload_n 2, 1) := by decide +kernel
theorem dX4_correct_2 : decode cX4_correct 2 = .ok (.invokevirtual 95, 3) := by decide +kernel
theorem dX4_correct_5 : decode cX4_correct 5 = .ok (.ifCond .ne 4, 3) := by decide +kernel
theorem dX4_correct_8 : decode cX4_correct 8 = .ok (.return_, 1) := by decide +kernel
theorem dX4_correct_9 : decode cX4_correct 9 = .ok (.aload_n 0, 1) := by decide +kernel
theorem dX4_correct_10 : decode cX4_correct 10 = .ok (.getfield 15, 3) := by decide +kernel
theorem dX4_correct_13 : decode cX4_correct 13 = .ok (.iload_n 2, 1) := by decide +kernel
theorem dX4_correct_14 : decode cX4_correct 14 = .ok (.dup2, 1) := by decide +kernel
theorem dX4_correct_15 : decode cX4_correct 15 = .ok (.iaload, 1) := by decide +kernel
theorem dX4_correct_16 : decode cX4_correct 16 = .ok (.iload_n 3, 1) := by decide +kernel
theorem dX4_correct_17 : decode cX4_correct 17 = .ok (.iadd, 1) := by decide +kernel
theorem dX4_correct_18 : decode cX4_correct 18 = .ok (.iastore, 1) := by decide +kernel
theorem dX4_correct_19 : decode cX4_correct 19 = .ok (.aload_n 0, 1) := by decide +kernel
theorem dX4_correct_20 : decode cX4_correct 20 = .ok (.getfield 18, 3) := by decide +kernel
theorem dX4_correct_23 : decode cX4_correct 23 = .ok (.iload_n 2, 1) := by decide +kernel
theorem dX4_correct_24 : decode cX4_correct 24 = .ok (.aload_n 1, 1) := by decide +kernel
theorem dX4_correct_25 : decode cX4_correct 25 = .ok (.iload_n 2, 1) := by decide +kernel
theorem dX4_correct_26 : decode cX4_correct 26 = .ok (.invokevirtual 98, 3) := by decide +kernel
theorem dX4_correct_29 : decode cX4_correct 29 = .ok (.iastore, 1) := by decide +kernel
theorem dX4_correct_30 : decode cX4_correct 30 = .ok (.iload_n 2, 1) := by decide +kernel
theorem dX4_correct_31 : decode cX4_correct 31 = .ok (.iconst 1, 1) := by decide +kernel
theorem dX4_correct_32 : decode cX4_correct 32 = .ok (.iadd, 1) := by decide +kernel
theorem dX4_correct_33 : decode cX4_correct 33 = .ok (.istore 4, 2) := by decide +kernel
theorem dX4_correct_35 : decode cX4_correct 35 = .ok (.aload_n 0, 1) := by decide +kernel
theorem dX4_correct_36 : decode cX4_correct 36 = .ok (.getfield 62, 3) := by decide +kernel
theorem dX4_correct_39 : decode cX4_correct 39 = .ok (.ifCond .eq 40, 3) := by decide +kernel
theorem dX4_correct_42 : decode cX4_correct 42 = .ok (.aload_n 1, 1) := by decide +kernel
theorem dX4_correct_43 : decode cX4_correct 43 = .ok (.iload 4, 2) := by decide +kernel
theorem dX4_correct_45 : decode cX4_correct 45 = .ok (.invokevirtual 102, 3) := by decide +kernel
theorem dX4_correct_48 : decode cX4_correct 48 = .ok (.ifCond .eq 31, 3) := by decide +kernel
theorem dX4_correct_51 : decode cX4_correct 51 = .ok (.aload_n 0, 1) := by decide +kernel
theorem dX4_correct_52 : decode cX4_correct 52 = .ok (.getfield 21, 3) := by decide +kernel
theorem dX4_correct_55 : decode cX4_correct 55 = .ok (.iload 4, 2) := by decide +kernel
theorem dX4_correct_57 : decode cX4_correct 57 = .ok (.aload_n 0, 1) := by decide +kernel
theorem dX4_correct_58 : decode cX4_correct 58 = .ok (.getfield 65, 3) := by decide +kernel
theorem dX4_correct_61 : decode cX4_correct 61 = .ok (.iconst 1, 1) := by decide +kernel
theorem dX4_correct_62 : decode cX4_correct 62 = .ok (.iadd, 1) := by decide +kernel
theorem dX4_correct_63 : decode cX4_correct 63 = .ok (.aload_n 1, 1) := by decide +kernel
theorem dX4_correct_64 : decode cX4_correct 64 = .ok (.getfield 105, 3) := by decide +kernel
theorem dX4_correct_67 : decode cX4_correct 67 = .ok (.iload 4, 2) := by decide +kernel
theorem dX4_correct_69 : decode cX4_correct 69 = .ok (.iaload, 1) := by decide +kernel
theorem dX4_correct_70 : decode cX4_correct 70 = .ok (.iadd, 1) := by decide +kernel
theorem dX4_correct_71 : decode cX4_correct 71 = .ok (.invokestatic 91, 3) := by decide +kernel
theorem dX4_correct_74 : decode cX4_correct 74 = .ok (.dup2, 1) := by decide +kernel
theorem dX4_correct_75 : decode cX4_correct 75 = .ok (.iaload, 1) := by decide +kernel
theorem dX4_correct_76 : decode cX4_correct 76 = .ok (.iload_n 3, 1) := by decide +kernel
theorem dX4_correct_77 : decode cX4_correct 77 = .ok (.isub, 1) := by decide +kernel
theorem dX4_correct_78 : decode cX4_correct 78 = .ok (.iastore, 1) := by decide +kernel
theorem dX4_correct_79 : decode cX4_correct 79 = .ok (.return_, 1) := by decide +kernel
theorem dX4_tickTimes_0 : decode cX4_tickTimes 0 = .ok (.iconst 0, 1) := by decide +kernel
theorem dX4_tickTimes_1 : decode cX4_tickTimes 1 = .ok (.istore_n 3, 1) := by decide +kernel
theorem dX4_tickTimes_2 : decode cX4_tickTimes 2 = .ok (.iload_n 3, 1) := by decide +kernel
theorem dX4_tickTimes_3 : decode cX4_tickTimes 3 = .ok (.iload_n 2, 1) := by decide +kernel
theorem dX4_tickTimes_4 : decode cX4_tickTimes 4 = .ok (.if_icmp .ge 15, 3) := by decide +kernel
theorem dX4_tickTimes_7 : decode cX4_tickTimes 7 = .ok (.aload_n 0, 1) := by decide +kernel
theorem dX4_tickTimes_8 : decode cX4_tickTimes 8 = .ok (.aload_n 1, 1) := by decide +kernel
theorem dX4_tickTimes_9 : decode cX4_tickTimes 9 = .ok (.invokevirtual 108, 3) := by decide +kernel
theorem dX4_tickTimes_12 : decode cX4_tickTimes 12 = .ok (.pop, 1) := by decide +kernel
theorem dX4_tickTimes_13 : decode cX4_tickTimes 13 = .ok (.iinc 3 1, 3) := by decide +kernel
theorem dX4_tickTimes_16 : decode cX4_tickTimes 16 = .ok (.goto (-14), 3) := by decide +kernel
theorem dX4_tickTimes_19 : decode cX4_tickTimes 19 = .ok (.return_, 1) := by decide +kernel
theorem dX4_tick_0 : decode cX4_tick 0 = .ok (.aload_n 0, 1) := by decide +kernel
theorem dX4_tick_1 : decode cX4_tick 1 = .ok (.dup, 1) := by decide +kernel
theorem dX4_tick_2 : decode cX4_tick 2 = .ok (.getfield 65, 3) := by decide +kernel
theorem dX4_tick_5 : decode cX4_tick 5 = .ok (.iconst 1, 1) := by decide +kernel
theorem dX4_tick_6 : decode cX4_tick 6 = .ok (.iadd, 1) := by decide +kernel
theorem dX4_tick_7 : decode cX4_tick 7 = .ok (.putfield 65, 3) := by decide +kernel
theorem dX4_tick_10 : decode cX4_tick 10 = .ok (.aload_n 0, 1) := by decide +kernel
theorem dX4_tick_11 : decode cX4_tick 11 = .ok (.getfield 52, 3) := by decide +kernel
theorem dX4_tick_14 : decode cX4_tick 14 = .ok (.ifCond .ne 7, 3) := by decide +kernel
theorem dX4_tick_17 : decode cX4_tick 17 = .ok (.iconst 1, 1) := by decide +kernel
theorem dX4_tick_18 : decode cX4_tick 18 = .ok (.goto 4, 3) := by decide +kernel
theorem dX4_tick_21 : decode cX4_tick 21 = .ok (.iconst 0, 1) := by decide +kernel
theorem dX4_tick_22 : decode cX4_tick 22 = .ok (.istore_n 2, 1) := by decide +kernel
theorem dX4_tick_23 : decode cX4_tick 23 = .ok (.iload_n 2, 1) := by decide +kernel
theorem dX4_tick_24 : decode cX4_tick 24 = .ok (.ifCond .eq 32, 3) := by decide +kernel
theorem dX4_tick_27 : decode cX4_tick 27 = .ok (.aload_n 0, 1) := by decide +kernel
theorem dX4_tick_28 : decode cX4_tick 28 = .ok (.aload_n 1, 1) := by decide +kernel
theorem dX4_tick_29 : decode cX4_tick 29 = .ok (.invokevirtual 112, 3) := by decide +kernel
theorem dX4_tick_32 : decode cX4_tick 32 = .ok (.ifCond .ne 9, 3) := by decide +kernel
theorem dX4_tick_35 : decode cX4_tick 35 = .ok (.aload_n 0, 1) := by decide +kernel
theorem dX4_tick_36 : decode cX4_tick 36 = .ok (.invokevirtual 115, 3) := by decide +kernel
theorem dX4_tick_39 : decode cX4_tick 39 = .ok (.iconst 0, 1) := by decide +kernel
theorem dX4_tick_40 : decode cX4_tick 40 = .ok (.ireturn, 1) := by decide +kernel
theorem dX4_tick_41 : decode cX4_tick 41 = .ok (.aload_n 0, 1) := by decide +kernel
theorem dX4_tick_42 : decode cX4_tick 42 = .ok (.aload_n 1, 1) := by decide +kernel
theorem dX4_tick_43 : decode cX4_tick 43 = .ok (.invokevirtual 118, 3) := by decide +kernel
theorem dX4_tick_46 : decode cX4_tick 46 = .ok (.aload_n 0, 1) := by decide +kernel
theorem dX4_tick_47 : decode cX4_tick 47 = .ok (.dup, 1) := by decide +kernel
theorem dX4_tick_48 : decode cX4_tick 48 = .ok (.getfield 74, 3) := by decide +kernel
theorem dX4_tick_51 : decode cX4_tick 51 = .ok (.iconst 1, 1) := by decide +kernel
theorem dX4_tick_52 : decode cX4_tick 52 = .ok (.iadd, 1) := by decide +kernel
theorem dX4_tick_53 : decode cX4_tick 53 = .ok (.putfield 74, 3) := by decide +kernel
theorem dX4_tick_56 : decode cX4_tick 56 = .ok (.aload_n 0, 1) := by decide +kernel
theorem dX4_tick_57 : decode cX4_tick 57 = .ok (.dup, 1) := by decide +kernel
theorem dX4_tick_58 : decode cX4_tick 58 = .ok (.getfield 52, 3) := by decide +kernel
theorem dX4_tick_61 : decode cX4_tick 61 = .ok (.iconst 1, 1) := by decide +kernel
theorem dX4_tick_62 : decode cX4_tick 62 = .ok (.isub, 1) := by decide +kernel
theorem dX4_tick_63 : decode cX4_tick 63 = .ok (.putfield 52, 3) := by decide +kernel
theorem dX4_tick_66 : decode cX4_tick 66 = .ok (.aload_n 0, 1) := by decide +kernel
theorem dX4_tick_67 : decode cX4_tick 67 = .ok (.getfield 27, 3) := by decide +kernel
theorem dX4_tick_70 : decode cX4_tick 70 = .ok (.aload_n 1, 1) := by decide +kernel
theorem dX4_tick_71 : decode cX4_tick 71 = .ok (.aload_n 0, 1) := by decide +kernel
theorem dX4_tick_72 : decode cX4_tick 72 = .ok (.getfield 46, 3) := by decide +kernel
theorem dX4_tick_75 : decode cX4_tick 75 = .ok (.invokevirtual 87, 3) := by decide +kernel
theorem dX4_tick_78 : decode cX4_tick 78 = .ok (.ifCond .eq 15, 3) := by decide +kernel
theorem dX4_tick_81 : decode cX4_tick 81 = .ok (.aload_n 1, 1) := by decide +kernel
theorem dX4_tick_82 : decode cX4_tick 82 = .ok (.getfield 122, 3) := by decide +kernel
theorem dX4_tick_85 : decode cX4_tick 85 = .ok (.aload_n 0, 1) := by decide +kernel
theorem dX4_tick_86 : decode cX4_tick 86 = .ok (.getfield 46, 3) := by decide +kernel
theorem dX4_tick_89 : decode cX4_tick 89 = .ok (.iaload, 1) := by decide +kernel
theorem dX4_tick_90 : decode cX4_tick 90 = .ok (.goto 4, 3) := by decide +kernel
theorem dX4_tick_93 : decode cX4_tick 93 = .ok (.iconst 0, 1) := by decide +kernel
theorem dX4_tick_94 : decode cX4_tick 94 = .ok (.iload_n 2, 1) := by decide +kernel
theorem dX4_tick_95 : decode cX4_tick 95 = .ok (.invokevirtual 125, 3) := by decide +kernel
theorem dX4_tick_98 : decode cX4_tick 98 = .ok (.aload_n 0, 1) := by decide +kernel
theorem dX4_tick_99 : decode cX4_tick 99 = .ok (.aload_n 1, 1) := by decide +kernel
theorem dX4_tick_100 : decode cX4_tick 100 = .ok (.invokevirtual 129, 3) := by decide +kernel
theorem dX4_tick_103 : decode cX4_tick 103 = .ok (.aload_n 0, 1) := by decide +kernel
theorem dX4_tick_104 : decode cX4_tick 104 = .ok (.getfield 27, 3) := by decide +kernel
theorem dX4_tick_107 : decode cX4_tick 107 = .ok (.getfield 132, 3) := by decide +kernel
theorem dX4_tick_110 : decode cX4_tick 110 = .ok (.aload_n 1, 1) := by decide +kernel
theorem dX4_tick_111 : decode cX4_tick 111 = .ok (.iconst 0, 1) := by decide +kernel
theorem dX4_tick_112 : decode cX4_tick 112 = .ok (.invokevirtual 98, 3) := by decide +kernel
theorem dX4_tick_115 : decode cX4_tick 115 = .ok (.if_icmp .le 7, 3) := by decide +kernel
theorem dX4_tick_118 : decode cX4_tick 118 = .ok (.iconst 1, 1) := by decide +kernel
theorem dX4_tick_119 : decode cX4_tick 119 = .ok (.goto 4, 3) := by decide +kernel
theorem dX4_tick_122 : decode cX4_tick 122 = .ok (.iconst 0, 1) := by decide +kernel
theorem dX4_tick_123 : decode cX4_tick 123 = .ok (.istore_n 3, 1) := by decide +kernel
theorem dX4_tick_124 : decode cX4_tick 124 = .ok (.iload_n 3, 1) := by decide +kernel
theorem dX4_tick_125 : decode cX4_tick 125 = .ok (.ifCond .eq 13, 3) := by decide +kernel
theorem dX4_tick_128 : decode cX4_tick 128 = .ok (.aload_n 0, 1) := by decide +kernel
theorem dX4_tick_129 : decode cX4_tick 129 = .ok (.aload_n 1, 1) := by decide +kernel
theorem dX4_tick_130 : decode cX4_tick 130 = .ok (.invokevirtual 135, 3) := by decide +kernel
theorem dX4_tick_133 : decode cX4_tick 133 = .ok (.aload_n 0, 1) := by decide +kernel
theorem dX4_tick_134 : decode cX4_tick 134 = .ok (.aload_n 1, 1) := by decide +kernel
theorem dX4_tick_135 : decode cX4_tick 135 = .ok (.invokevirtual 138, 3) := by decide +kernel
theorem dX4_tick_138 : decode cX4_tick 138 = .ok (.aload_n 0, 1) := by decide +kernel
theorem dX4_tick_139 : decode cX4_tick 139 = .ok (.getfield 55, 3) := by decide +kernel
theorem dX4_tick_142 : decode cX4_tick 142 = .ok (.ifCond .le 13, 3) := by decide +kernel
theorem dX4_tick_145 : decode cX4_tick 145 = .ok (.aload_n 0, 1) := by decide +kernel
theorem dX4_tick_146 : decode cX4_tick 146 = .ok (.dup, 1) := by decide +kernel
theorem dX4_tick_147 : decode cX4_tick 147 = .ok (.getfield 55, 3) := by decide +kernel
theorem dX4_tick_150 : decode cX4_tick 150 = .ok (.iconst 1, 1) := by decide +kernel
theorem dX4_tick_151 : decode cX4_tick 151 = .ok (.iadd, 1) := by decide +kernel
theorem dX4_tick_152 : decode cX4_tick 152 = .ok (.putfield 55, 3) := by decide +kernel
theorem dX4_tick_155 : decode cX4_tick 155 = .ok (.iload_n 3, 1) := by decide +kernel
theorem dX4_tick_156 : decode cX4_tick 156 = .ok (.ireturn, 1) := by decide +kernel
theorem dX4_canPaste_0 : decode cX4_canPaste 0 = .ok (.aload_n 0, 1) := by decide +kernel
theorem dX4_canPaste_1 : decode cX4_canPaste 1 = .ok (.aload_n 1, 1) := by decide +kernel
theorem dX4_canPaste_2 : decode cX4_canPaste 2 = .ok (.invokevirtual 141, 3) := by decide +kernel
theorem dX4_canPaste_5 : decode cX4_canPaste 5 = .ok (.bipush (-9), 2) := by decide +kernel
theorem dX4_canPaste_7 : decode cX4_canPaste 7 = .ok (.if_icmp .eq 18, 3) := by decide +kernel
theorem dX4_canPaste_10 : decode cX4_canPaste 10 = .ok (.aload_n 0, 1) := by decide +kernel
theorem dX4_canPaste_11 : decode cX4_canPaste 11 = .ok (.getfield 55, 3) := by decide +kernel
theorem dX4_canPaste_14 : decode cX4_canPaste 14 = .ok (.aload_n 1, 1) := by decide +kernel
theorem dX4_canPaste_15 : decode cX4_canPaste 15 = .ok (.getfield 145, 3) := by decide +kernel
theorem dX4_canPaste_18 : decode cX4_canPaste 18 = .ok (.if_icmp .lt 7, 3) := by decide +kernel
theorem dX4_canPaste_21 : decode cX4_canPaste 21 = .ok (.iconst 1, 1) := by decide +kernel
theorem dX4_canPaste_22 : decode cX4_canPaste 22 = .ok (.goto 4, 3) := by decide +kernel
theorem dX4_canPaste_25 : decode cX4_canPaste 25 = .ok (.iconst 0, 1) := by decide +kernel
theorem dX4_canPaste_26 : decode cX4_canPaste 26 = .ok (.ireturn, 1) := by decide +kernel
theorem dX4_makeReadyToPaste_0 : decode cX4_makeReadyToPaste 0 = .ok (.aload_n 0, 1) := by decide +kernel
theorem dX4_makeReadyToPaste_1 : decode cX4_makeReadyToPaste 1 = .ok (.iconst 0, 1) := by decide +kernel
theorem dX4_makeReadyToPaste_2 : decode cX4_makeReadyToPaste 2 = .ok (.putfield 52, 3) := by decide +kernel
theorem dX4_makeReadyToPaste_5 : decode cX4_makeReadyToPaste 5 = .ok (.aload_n 0, 1) := by decide +kernel
theorem dX4_makeReadyToPaste_6 : decode cX4_makeReadyToPaste 6 = .ok (.aload_n 1, 1) := by decide +kernel
theorem dX4_makeReadyToPaste_7 : decode cX4_makeReadyToPaste 7 = .ok (.getfield 145, 3) := by decide +kernel
theorem dX4_makeReadyToPaste_10 : decode cX4_makeReadyToPaste 10 = .ok (.putfield 55, 3) := by decide +kernel
theorem dX4_makeReadyToPaste_13 : decode cX4_makeReadyToPaste 13 = .ok (.return_, 1) := by decide +kernel
theorem dX4_mountNext_0 : decode cX4_mountNext 0 = .ok (.aload_n 0, 1) := by decide +kernel
theorem dX4_mountNext_1 : decode cX4_mountNext 1 = .ok (.aload_n 1, 1) := by decide +kernel
theorem dX4_mountNext_2 : decode cX4_mountNext 2 = .ok (.invokevirtual 141, 3) := by decide +kernel
theorem dX4_mountNext_5 : decode cX4_mountNext 5 = .ok (.istore_n 2, 1) := by decide +kernel
theorem dX4_mountNext_6 : decode cX4_mountNext 6 = .ok (.iload_n 2, 1) := by decide +kernel
theorem dX4_mountNext_7 : decode cX4_mountNext 7 = .ok (.bipush (-9), 2) := by decide +kernel
theorem dX4_mountNext_9 : decode cX4_mountNext 9 = .ok (.if_icmp .eq 23, 3) := by decide +kernel
theorem dX4_mountNext_12 : decode cX4_mountNext 12 = .ok (.aload_n 0, 1) := by decide +kernel
theorem dX4_mountNext_13 : decode cX4_mountNext 13 = .ok (.iload_n 2, 1) := by decide +kernel
theorem dX4_mountNext_14 : decode cX4_mountNext 14 = .ok (.putfield 46, 3) := by decide +kernel
theorem dX4_mountNext_17 : decode cX4_mountNext 17 = .ok (.aload_n 0, 1) := by decide +kernel
theorem dX4_mountNext_18 : decode cX4_mountNext 18 = .ok (.aload_n 1, 1) := by decide +kernel
theorem dX4_mountNext_19 : decode cX4_mountNext 19 = .ok (.getfield 49, 3) := by decide +kernel
theorem dX4_mountNext_22 : decode cX4_mountNext 22 = .ok (.iload_n 2, 1) := by decide +kernel
theorem dX4_mountNext_23 : decode cX4_mountNext 23 = .ok (.iaload, 1) := by decide +kernel
theorem dX4_mountNext_24 : decode cX4_mountNext 24 = .ok (.putfield 52, 3) := by decide +kernel
theorem dX4_mountNext_27 : decode cX4_mountNext 27 = .ok (.aload_n 0, 1) := by decide +kernel
theorem dX4_mountNext_28 : decode cX4_mountNext 28 = .ok (.iconst 0, 1) := by decide +kernel
theorem dX4_mountNext_29 : decode cX4_mountNext 29 = .ok (.putfield 55, 3) := by decide +kernel
theorem dX4_mountNext_32 : decode cX4_mountNext 32 = .ok (.return_, 1) := by decide +kernel
theorem dX4_breakOff_0 : decode cX4_breakOff 0 = .ok (.aload_n 0, 1) := by decide +kernel
theorem dX4_breakOff_1 : decode cX4_breakOff 1 = .ok (.iconst 0, 1) := by decide +kernel
theorem dX4_breakOff_2 : decode cX4_breakOff 2 = .ok (.putfield 58, 3) := by decide +kernel
theorem dX4_breakOff_5 : decode cX4_breakOff 5 = .ok (.aload_n 0, 1) := by decide +kernel
theorem dX4_breakOff_6 : decode cX4_breakOff 6 = .ok (.dup, 1) := by decide +kernel
theorem dX4_breakOff_7 : decode cX4_breakOff 7 = .ok (.getfield 71, 3) := by decide +kernel
theorem dX4_breakOff_10 : decode cX4_breakOff 10 = .ok (.aload_n 0, 1) := by decide +kernel
theorem dX4_breakOff_11 : decode cX4_breakOff 11 = .ok (.getfield 27, 3) := by decide +kernel
theorem dX4_breakOff_14 : decode cX4_breakOff 14 = .ok (.getfield 132, 3) := by decide +kernel
theorem dX4_breakOff_17 : decode cX4_breakOff 17 = .ok (.iadd, 1) := by decide +kernel
theorem dX4_breakOff_18 : decode cX4_breakOff 18 = .ok (.putfield 71, 3) := by decide +kernel
theorem dX4_breakOff_21 : decode cX4_breakOff 21 = .ok (.aload_n 0, 1) := by decide +kernel
theorem dX4_breakOff_22 : decode cX4_breakOff 22 = .ok (.getfield 27, 3) := by decide +kernel
theorem dX4_breakOff_25 : decode cX4_breakOff 25 = .ok (.iconst 0, 1) := by decide +kernel
theorem dX4_breakOff_26 : decode cX4_breakOff 26 = .ok (.putfield 132, 3) := by decide +kernel
theorem dX4_breakOff_29 : decode cX4_breakOff 29 = .ok (.aload_n 0, 1) := by decide +kernel
theorem dX4_breakOff_30 : decode cX4_breakOff 30 = .ok (.getfield 21, 3) := by decide +kernel
theorem dX4_breakOff_33 : decode cX4_breakOff 33 = .ok (.iconst 0, 1) := by decide +kernel
theorem dX4_breakOff_34 : decode cX4_breakOff 34 = .ok (.invokestatic 31, 3) := by decide +kernel
theorem dX4_breakOff_37 : decode cX4_breakOff 37 = .ok (.return_, 1) := by decide +kernel
theorem dX4_restart_0 : decode cX4_restart 0 = .ok (.aload_n 0, 1) := by decide +kernel
theorem dX4_restart_1 : decode cX4_restart 1 = .ok (.aload_n 1, 1) := by decide +kernel
theorem dX4_restart_2 : decode cX4_restart 2 = .ok (.invokevirtual 118, 3) := by decide +kernel
theorem dX4_restart_5 : decode cX4_restart 5 = .ok (.aload_n 0, 1) := by decide +kernel
theorem dX4_restart_6 : decode cX4_restart 6 = .ok (.iconst 1, 1) := by decide +kernel
theorem dX4_restart_7 : decode cX4_restart 7 = .ok (.putfield 58, 3) := by decide +kernel
theorem dX4_restart_10 : decode cX4_restart 10 = .ok (.aload_n 0, 1) := by decide +kernel
theorem dX4_restart_11 : decode cX4_restart 11 = .ok (.getfield 18, 3) := by decide +kernel
theorem dX4_restart_14 : decode cX4_restart 14 = .ok (.iconst 0, 1) := by decide +kernel
theorem dX4_restart_15 : decode cX4_restart 15 = .ok (.invokestatic 31, 3) := by decide +kernel
theorem dX4_restart_18 : decode cX4_restart 18 = .ok (.return_, 1) := by decide +kernel
theorem dX4_print_0 : decode cX4_print 0 = .ok (.iconst 1, 1) := by decide +kernel
theorem dX4_print_1 : decode cX4_print 1 = .ok (.istore_n 2, 1) := by decide +kernel
theorem dX4_print_2 : decode cX4_print 2 = .ok (.iload_n 2, 1) := by decide +kernel
theorem dX4_print_3 : decode cX4_print 3 = .ok (.aload_n 1, 1) := by decide +kernel
theorem dX4_print_4 : decode cX4_print 4 = .ok (.getfield 148, 3) := by decide +kernel
theorem dX4_print_7 : decode cX4_print 7 = .ok (.if_icmp .ge 66, 3) := by decide +kernel
theorem dX4_print_10 : decode cX4_print 10 = .ok (.iload_n 2, 1) := by decide +kernel
theorem dX4_print_11 : decode cX4_print 11 = .ok (.aload_n 0, 1) := by decide +kernel
theorem dX4_print_12 : decode cX4_print 12 = .ok (.getfield 65, 3) := by decide +kernel
theorem dX4_print_15 : decode cX4_print 15 = .ok (.invokestatic 91, 3) := by decide +kernel
theorem dX4_print_18 : decode cX4_print 18 = .ok (.istore_n 3, 1) := by decide +kernel
theorem dX4_print_19 : decode cX4_print 19 = .ok (.aload_n 0, 1) := by decide +kernel
theorem dX4_print_20 : decode cX4_print 20 = .ok (.getfield 15, 3) := by decide +kernel
theorem dX4_print_23 : decode cX4_print 23 = .ok (.iload_n 2, 1) := by decide +kernel
theorem dX4_print_24 : decode cX4_print 24 = .ok (.dup2, 1) := by decide +kernel
theorem dX4_print_25 : decode cX4_print 25 = .ok (.iaload, 1) := by decide +kernel
theorem dX4_print_26 : decode cX4_print 26 = .ok (.aload_n 0, 1) := by decide +kernel
theorem dX4_print_27 : decode cX4_print 27 = .ok (.getfield 21, 3) := by decide +kernel
theorem dX4_print_30 : decode cX4_print 30 = .ok (.iload_n 3, 1) := by decide +kernel
theorem dX4_print_31 : decode cX4_print 31 = .ok (.iaload, 1) := by decide +kernel
theorem dX4_print_32 : decode cX4_print 32 = .ok (.iadd, 1) := by decide +kernel
theorem dX4_print_33 : decode cX4_print 33 = .ok (.iastore, 1) := by decide +kernel
theorem dX4_print_34 : decode cX4_print 34 = .ok (.aload_n 0, 1) := by decide +kernel
theorem dX4_print_35 : decode cX4_print 35 = .ok (.getfield 21, 3) := by decide +kernel
theorem dX4_print_38 : decode cX4_print 38 = .ok (.iload_n 3, 1) := by decide +kernel
theorem dX4_print_39 : decode cX4_print 39 = .ok (.iconst 0, 1) := by decide +kernel
theorem dX4_print_40 : decode cX4_print 40 = .ok (.iastore, 1) := by decide +kernel
theorem dX4_print_41 : decode cX4_print 41 = .ok (.aload_n 0, 1) := by decide +kernel
theorem dX4_print_42 : decode cX4_print 42 = .ok (.getfield 27, 3) := by decide +kernel
theorem dX4_print_45 : decode cX4_print 45 = .ok (.aload_n 1, 1) := by decide +kernel
theorem dX4_print_46 : decode cX4_print 46 = .ok (.getfield 151, 3) := by decide +kernel
theorem dX4_print_49 : decode cX4_print 49 = .ok (.iload_n 2, 1) := by decide +kernel
theorem dX4_print_50 : decode cX4_print 50 = .ok (.iaload, 1) := by decide +kernel
theorem dX4_print_51 : decode cX4_print 51 = .ok (.iload_n 2, 1) := by decide +kernel
theorem dX4_print_52 : decode cX4_print 52 = .ok (.aload_n 0, 1) := by decide +kernel
theorem dX4_print_53 : decode cX4_print 53 = .ok (.getfield 9, 3) := by decide +kernel
theorem dX4_print_56 : decode cX4_print 56 = .ok (.iload_n 2, 1) := by decide +kernel
theorem dX4_print_57 : decode cX4_print 57 = .ok (.iaload, 1) := by decide +kernel
theorem dX4_print_58 : decode cX4_print 58 = .ok (.aload_n 0, 1) := by decide +kernel
theorem dX4_print_59 : decode cX4_print 59 = .ok (.getfield 15, 3) := by decide +kernel
theorem dX4_print_62 : decode cX4_print 62 = .ok (.iload_n 2, 1) := by decide +kernel
theorem dX4_print_63 : decode cX4_print 63 = .ok (.iaload, 1) := by decide +kernel
theorem dX4_print_64 : decode cX4_print 64 = .ok (.invokevirtual 154, 3) := by decide +kernel
theorem dX4_print_67 : decode cX4_print 67 = .ok (.iinc 2 1, 3) := by decide +kernel
theorem dX4_print_70 : decode cX4_print 70 = .ok (.goto (-68), 3) := by decide +kernel
theorem dX4_print_73 : decode cX4_print 73 = .ok (.return_, 1) := by decide +kernel
theorem dX4_judge_0 : decode cX4_judge 0 = .ok (.aload_n 0, 1) := by decide +kernel
theorem dX4_judge_1 : decode cX4_judge 1 = .ok (.getfield 27, 3) := by decide +kernel
theorem dX4_judge_4 : decode cX4_judge 4 = .ok (.aload_n 1, 1) := by decide +kernel
theorem dX4_judge_5 : decode cX4_judge 5 = .ok (.getfield 157, 3) := by decide +kernel
theorem dX4_judge_8 : decode cX4_judge 8 = .ok (.invokevirtual 160, 3) := by decide +kernel
theorem dX4_judge_11 : decode cX4_judge 11 = .ok (.aload_n 0, 1) := by decide +kernel
theorem dX4_judge_12 : decode cX4_judge 12 = .ok (.getfield 27, 3) := by decide +kernel
theorem dX4_judge_15 : decode cX4_judge 15 = .ok (.getfield 164, 3) := by decide +kernel
theorem dX4_judge_18 : decode cX4_judge 18 = .ok (.ifCond .eq 16, 3) := by decide +kernel
theorem dX4_judge_21 : decode cX4_judge 21 = .ok (.aload_n 0, 1) := by decide +kernel
theorem dX4_judge_22 : decode cX4_judge 22 = .ok (.dup, 1) := by decide +kernel
theorem dX4_judge_23 : decode cX4_judge 23 = .ok (.getfield 68, 3) := by decide +kernel
theorem dX4_judge_26 : decode cX4_judge 26 = .ok (.iconst 1, 1) := by decide +kernel
theorem dX4_judge_27 : decode cX4_judge 27 = .ok (.iadd, 1) := by decide +kernel
theorem dX4_judge_28 : decode cX4_judge 28 = .ok (.putfield 68, 3) := by decide +kernel
theorem dX4_judge_31 : decode cX4_judge 31 = .ok (.goto 13, 3) := by decide +kernel
theorem dX4_judge_34 : decode cX4_judge 34 = .ok (.aload_n 0, 1) := by decide +kernel
theorem dX4_judge_35 : decode cX4_judge 35 = .ok (.dup, 1) := by decide +kernel
theorem dX4_judge_36 : decode cX4_judge 36 = .ok (.getfield 71, 3) := by decide +kernel
theorem dX4_judge_39 : decode cX4_judge 39 = .ok (.iconst 1, 1) := by decide +kernel
theorem dX4_judge_40 : decode cX4_judge 40 = .ok (.iadd, 1) := by decide +kernel
theorem dX4_judge_41 : decode cX4_judge 41 = .ok (.putfield 71, 3) := by decide +kernel
theorem dX4_judge_44 : decode cX4_judge 44 = .ok (.return_, 1) := by decide +kernel
theorem dX4_adjust_0 : decode cX4_adjust 0 = .ok (.iconst 1, 1) := by decide +kernel
theorem dX4_adjust_1 : decode cX4_adjust 1 = .ok (.istore_n 2, 1) := by decide +kernel
theorem dX4_adjust_2 : decode cX4_adjust 2 = .ok (.iload_n 2, 1) := by decide +kernel
theorem dX4_adjust_3 : decode cX4_adjust 3 = .ok (.aload_n 1, 1) := by decide +kernel
theorem dX4_adjust_4 : decode cX4_adjust 4 = .ok (.getfield 148, 3) := by decide +kernel
theorem dX4_adjust_7 : decode cX4_adjust 7 = .ok (.if_icmp .ge 69, 3) := by decide +kernel
theorem dX4_adjust_10 : decode cX4_adjust 10 = .ok (.aload_n 0, 1) := by decide +kernel
theorem dX4_adjust_11 : decode cX4_adjust 11 = .ok (.getfield 27, 3) := by decide +kernel
theorem dX4_adjust_14 : decode cX4_adjust 14 = .ok (.getfield 167, 3) := by decide +kernel
theorem dX4_adjust_17 : decode cX4_adjust 17 = .ok (.iload_n 2, 1) := by decide +kernel
theorem dX4_adjust_18 : decode cX4_adjust 18 = .ok (.iaload, 1) := by decide +kernel
theorem dX4_adjust_19 : decode cX4_adjust 19 = .ok (.istore_n 3, 1) := by decide +kernel
theorem dX4_adjust_20 : decode cX4_adjust 20 = .ok (.aload_n 0, 1) := by decide +kernel
theorem dX4_adjust_21 : decode cX4_adjust 21 = .ok (.getfield 18, 3) := by decide +kernel
theorem dX4_adjust_24 : decode cX4_adjust 24 = .ok (.iload_n 2, 1) := by decide +kernel
theorem dX4_adjust_25 : decode cX4_adjust 25 = .ok (.iaload, 1) := by decide +kernel
theorem dX4_adjust_26 : decode cX4_adjust 26 = .ok (.ifCond .le 16, 3) := by decide +kernel
theorem dX4_adjust_29 : decode cX4_adjust 29 = .ok (.aload_n 0, 1) := by decide +kernel
theorem dX4_adjust_30 : decode cX4_adjust 30 = .ok (.getfield 18, 3) := by decide +kernel
theorem dX4_adjust_33 : decode cX4_adjust 33 = .ok (.iload_n 2, 1) := by decide +kernel
theorem dX4_adjust_34 : decode cX4_adjust 34 = .ok (.dup2, 1) := by decide +kernel
theorem dX4_adjust_35 : decode cX4_adjust 35 = .ok (.iaload, 1) := by decide +kernel
theorem dX4_adjust_36 : decode cX4_adjust 36 = .ok (.iconst 1, 1) := by decide +kernel
theorem dX4_adjust_37 : decode cX4_adjust 37 = .ok (.isub, 1) := by decide +kernel
theorem dX4_adjust_38 : decode cX4_adjust 38 = .ok (.iastore, 1) := by decide +kernel
theorem dX4_adjust_39 : decode cX4_adjust 39 = .ok (.goto 31, 3) := by decide +kernel
theorem dX4_adjust_42 : decode cX4_adjust 42 = .ok (.iload_n 3, 1) := by decide +kernel
theorem dX4_adjust_43 : decode cX4_adjust 43 = .ok (.invokestatic 170, 3) := by decide +kernel
theorem dX4_adjust_46 : decode cX4_adjust 46 = .ok (.aload_n 1, 1) := by decide +kernel
theorem dX4_adjust_47 : decode cX4_adjust 47 = .ok (.getfield 175, 3) := by decide +kernel
theorem dX4_adjust_50 : decode cX4_adjust 50 = .ok (.if_icmp .le 20, 3) := by decide +kernel
theorem dX4_adjust_53 : decode cX4_adjust 53 = .ok (.aload_n 0, 1) := by decide +kernel
theorem dX4_adjust_54 : decode cX4_adjust 54 = .ok (.getfield 27, 3) := by decide +kernel
theorem dX4_adjust_57 : decode cX4_adjust 57 = .ok (.getfield 178, 3) := by decide +kernel
theorem dX4_adjust_60 : decode cX4_adjust 60 = .ok (.ifCond .ne 10, 3) := by decide +kernel
theorem dX4_adjust_63 : decode cX4_adjust 63 = .ok (.aload_n 0, 1) := by decide +kernel
theorem dX4_adjust_64 : decode cX4_adjust 64 = .ok (.aload_n 1, 1) := by decide +kernel
theorem dX4_adjust_65 : decode cX4_adjust 65 = .ok (.iload_n 2, 1) := by decide +kernel
theorem dX4_adjust_66 : decode cX4_adjust 66 = .ok (.iload_n 3, 1) := by decide +kernel
theorem dX4_adjust_67 : decode cX4_adjust 67 = .ok (.invokevirtual 181, 3) := by decide +kernel
theorem dX4_adjust_70 : decode cX4_adjust 70 = .ok (.iinc 2 1, 3) := by decide +kernel
theorem dX4_adjust_73 : decode cX4_adjust 73 = .ok (.goto (-71), 3) := by decide +kernel
theorem dX4_adjust_76 : decode cX4_adjust 76 = .ok (.return_, 1) := by decide +kernel
theorem dX5_init_0 : decode cX5_init 0 = .ok (.aload_n 0, 1) := by decide +kernel
theorem dX5_init_1 : decode cX5_init 1 = .ok (.invokespecial 3, 3) := by decide +kernel
theorem dX5_init_4 : decode cX5_init 4 = .ok (.aload_n 0, 1) := by decide +kernel
theorem dX5_init_5 : decode cX5_init 5 = .ok (.bipush 120, 2) := by decide +kernel
theorem dX5_init_7 : decode cX5_init 7 = .ok (.newarray .int, 2) := by decide +kernel
theorem dX5_init_9 : decode cX5_init 9 = .ok (.putfield 9, 3) := by decide +kernel
theorem dX5_init_12 : decode cX5_init 12 = .ok (.return_, 1) := by decide +kernel
theorem dX5_add_0 : decode cX5_add 0 = .ok (.aload_n 0, 1) := by decide +kernel
theorem dX5_add_1 : decode cX5_add 1 = .ok (.getfield 15, 3) := by decide +kernel
theorem dX5_add_4 : decode cX5_add 4 = .ok (.bipush 120, 2) := by decide +kernel
theorem dX5_add_6 : decode cX5_add 6 = .ok (.if_icmp .lt 5, 3) := by decide +kernel
theorem dX5_add_9 : decode cX5_add 9 = .ok (.iconst 0, 1) := by decide +kernel
theorem dX5_add_10 : decode cX5_add 10 = .ok (.ireturn, 1) := by decide +kernel
theorem dX5_add_11 : decode cX5_add 11 = .ok (.aload_n 0, 1) := by decide +kernel
theorem dX5_add_12 : decode cX5_add 12 = .ok (.getfield 9, 3) := by decide +kernel
theorem dX5_add_15 : decode cX5_add 15 = .ok (.aload_n 0, 1) := by decide +kernel
theorem dX5_add_16 : decode cX5_add 16 = .ok (.getfield 15, 3) := by decide +kernel
theorem dX5_add_19 : decode cX5_add 19 = .ok (.iload_n 1, 1) := by decide +kernel
theorem dX5_add_20 : decode cX5_add 20 = .ok (.iastore, 1) := by decide +kernel
theorem dX5_add_21 : decode cX5_add 21 = .ok (.aload_n 0, 1) := by decide +kernel
theorem dX5_add_22 : decode cX5_add 22 = .ok (.dup, 1) := by decide +kernel
theorem dX5_add_23 : decode cX5_add 23 = .ok (.getfield 15, 3) := by decide +kernel
theorem dX5_add_26 : decode cX5_add 26 = .ok (.iconst 1, 1) := by decide +kernel
theorem dX5_add_27 : decode cX5_add 27 = .ok (.iadd, 1) := by decide +kernel
theorem dX5_add_28 : decode cX5_add 28 = .ok (.putfield 15, 3) := by decide +kernel
theorem dX5_add_31 : decode cX5_add 31 = .ok (.iconst 1, 1) := by decide +kernel
theorem dX5_add_32 : decode cX5_add 32 = .ok (.ireturn, 1) := by decide +kernel
theorem dX5_readInto_0 : decode cX5_readInto 0 = .ok (.aload_n 1, 1) := by decide +kernel
theorem dX5_readInto_1 : decode cX5_readInto 1 = .ok (.invokevirtual 19, 3) := by decide +kernel
theorem dX5_readInto_4 : decode cX5_readInto 4 = .ok (.aload_n 0, 1) := by decide +kernel
theorem dX5_readInto_5 : decode cX5_readInto 5 = .ok (.iconst 0, 1) := by decide +kernel
theorem dX5_readInto_6 : decode cX5_readInto 6 = .ok (.putfield 24, 3) := by decide +kernel
theorem dX5_readInto_9 : decode cX5_readInto 9 = .ok (.aload_n 0, 1) := by decide +kernel
theorem dX5_readInto_10 : decode cX5_readInto 10 = .ok (.iconst 0, 1) := by decide +kernel
theorem dX5_readInto_11 : decode cX5_readInto 11 = .ok (.putfield 27, 3) := by decide +kernel
theorem dX5_readInto_14 : decode cX5_readInto 14 = .ok (.iconst 0, 1) := by decide +kernel
theorem dX5_readInto_15 : decode cX5_readInto 15 = .ok (.istore_n 2, 1) := by decide +kernel
theorem dX5_readInto_16 : decode cX5_readInto 16 = .ok (.aload_n 0, 1) := by decide +kernel
theorem dX5_readInto_17 : decode cX5_readInto 17 = .ok (.invokevirtual 30, 3) := by decide +kernel
theorem dX5_readInto_20 : decode cX5_readInto 20 = .ok (.aload_n 0, 1) := by decide +kernel
theorem dX5_readInto_21 : decode cX5_readInto 21 = .ok (.getfield 33, 3) := by decide +kernel
theorem dX5_readInto_24 : decode cX5_readInto 24 = .ok (.sipush 257, 3) := by decide +kernel
theorem dX5_readInto_27 : decode cX5_readInto 27 = .ok (.if_icmp .eq 31, 3) := by decide +kernel
theorem dX5_readInto_30 : decode cX5_readInto 30 = .ok (.iload_n 2, 1) := by decide +kernel
theorem dX5_readInto_31 : decode cX5_readInto 31 = .ok (.bipush 120, 2) := by decide +kernel
theorem dX5_readInto_33 : decode cX5_readInto 33 = .ok (.if_icmp .ge 25, 3) := by decide +kernel
theorem dX5_readInto_36 : decode cX5_readInto 36 = .ok (.aload_n 0, 1) := by decide +kernel
theorem dX5_readInto_37 : decode cX5_readInto 37 = .ok (.aload_n 1, 1) := by decide +kernel
theorem dX5_readInto_38 : decode cX5_readInto 38 = .ok (.invokevirtual 36, 3) := by decide +kernel
theorem dX5_readInto_41 : decode cX5_readInto 41 = .ok (.ifCond .ne 11, 3) := by decide +kernel
theorem dX5_readInto_44 : decode cX5_readInto 44 = .ok (.bipush (-10), 2) := by decide +kernel
theorem dX5_readInto_46 : decode cX5_readInto 46 = .ok (.aload_n 0, 1) := by decide +kernel
theorem dX5_readInto_47 : decode cX5_readInto 47 = .ok (.getfield 40, 3) := by decide +kernel
theorem dX5_readInto_50 : decode cX5_readInto 50 = .ok (.isub, 1) := by decide +kernel
theorem dX5_readInto_51 : decode cX5_readInto 51 = .ok (.ireturn, 1) := by decide +kernel
theorem dX5_readInto_52 : decode cX5_readInto 52 = .ok (.iinc 2 1, 3) := by decide +kernel
theorem dX5_readInto_55 : decode cX5_readInto 55 = .ok (.goto (-35), 3) := by decide +kernel
theorem dX5_readInto_58 : decode cX5_readInto 58 = .ok (.iload_n 2, 1) := by decide +kernel
theorem dX5_readInto_59 : decode cX5_readInto 59 = .ok (.ireturn, 1) := by decide +kernel
theorem dX5_readItem_0 : decode cX5_readItem 0 = .ok (.aload_n 0, 1) := by decide +kernel
theorem dX5_readItem_1 : decode cX5_readItem 1 = .ok (.getfield 33, 3) := by decide +kernel
theorem dX5_readItem_4 : decode cX5_readItem 4 = .ok (.istore_n 2, 1) := by decide +kernel
theorem dX5_readItem_5 : decode cX5_readItem 5 = .ok (.aload_n 0, 1) := by decide +kernel
theorem dX5_readItem_6 : decode cX5_readItem 6 = .ok (.aload_n 1, 1) := by decide +kernel
theorem dX5_readItem_7 : decode cX5_readItem 7 = .ok (.iload_n 2, 1) := by decide +kernel
theorem dX5_readItem_8 : decode cX5_readItem 8 = .ok (.invokevirtual 43, 3) := by decide +kernel
theorem dX5_readItem_11 : decode cX5_readItem 11 = .ok (.ifCond .ne 5, 3) := by decide +kernel
theorem dX5_readItem_14 : decode cX5_readItem 14 = .ok (.iconst 0, 1) := by decide +kernel
theorem dX5_readItem_15 : decode cX5_readItem 15 = .ok (.ireturn, 1) := by decide +kernel
theorem dX5_readItem_16 : decode cX5_readItem 16 = .ok (.aload_n 0, 1) := by decide +kernel
theorem dX5_readItem_17 : decode cX5_readItem 17 = .ok (.invokevirtual 30, 3) := by decide +kernel
theorem dX5_readItem_20 : decode cX5_readItem 20 = .ok (.iload_n 2, 1) := by decide +kernel
theorem dX5_readItem_21 : decode cX5_readItem 21 = .ok (.bipush 114, 2) := by decide +kernel
theorem dX5_readItem_23 : decode cX5_readItem 23 = .ok (.if_icmp .ne 11, 3) := by decide +kernel
theorem dX5_readItem_26 : decode cX5_readItem 26 = .ok (.aload_n 0, 1) := by decide +kernel
theorem dX5_readItem_27 : decode cX5_readItem 27 = .ok (.aload_n 1, 1) := by decide +kernel
theorem dX5_readItem_28 : decode cX5_readItem 28 = .ok (.invokevirtual 47, 3) := by decide +kernel
theorem dX5_readItem_31 : decode cX5_readItem 31 = .ok (.goto 9, 3) := by decide +kernel
theorem dX5_readItem_34 : decode cX5_readItem 34 = .ok (.aload_n 0, 1) := by decide +kernel
theorem dX5_readItem_35 : decode cX5_readItem 35 = .ok (.aload_n 1, 1) := by decide +kernel
theorem dX5_readItem_36 : decode cX5_readItem 36 = .ok (.iload_n 2, 1) := by decide +kernel
theorem dX5_readItem_37 : decode cX5_readItem 37 = .ok (.invokevirtual 50, 3) := by decide +kernel
theorem dX5_readItem_40 : decode cX5_readItem 40 = .ok (.istore_n 3, 1) := by decide +kernel
theorem dX5_readItem_41 : decode cX5_readItem 41 = .ok (.iload_n 3, 1) := by decide +kernel
theorem dX5_readItem_42 : decode cX5_readItem 42 = .ok (.ifCond .eq 12, 3) := by decide +kernel
theorem dX5_readItem_45 : decode cX5_readItem 45 = .ok (.aload_n 0, 1) := by decide +kernel
theorem dX5_readItem_46 : decode cX5_readItem 46 = .ok (.getfield 33, 3) := by decide +kernel
theorem dX5_readItem_49 : decode cX5_readItem 49 = .ok (.bipush 59, 2) := by decide +kernel
theorem dX5_readItem_51 : decode cX5_readItem 51 = .ok (.if_icmp .eq 5, 3) := by decide +kernel
theorem dX5_readItem_54 : decode cX5_readItem 54 = .ok (.iconst 0, 1) := by decide +kernel
theorem dX5_readItem_55 : decode cX5_readItem 55 = .ok (.ireturn, 1) := by decide +kernel
theorem dX5_readItem_56 : decode cX5_readItem 56 = .ok (.aload_n 0, 1) := by decide +kernel
theorem dX5_readItem_57 : decode cX5_readItem 57 = .ok (.invokevirtual 30, 3) := by decide +kernel
theorem dX5_readItem_60 : decode cX5_readItem 60 = .ok (.iconst 1, 1) := by decide +kernel
theorem dX5_readItem_61 : decode cX5_readItem 61 = .ok (.ireturn, 1) := by decide +kernel
theorem dX5_mayBegin_0 : decode cX5_mayBegin 0 = .ok (.iload_n 2, 1) := by decide +kernel
theorem dX5_mayBegin_1 : decode cX5_mayBegin 1 = .ok (.bipush 117, 2) := by decide +kernel
theorem dX5_mayBegin_3 : decode cX5_mayBegin 3 = .ok (.if_icmp .ne 17, 3) := by decide +kernel
theorem dX5_mayBegin_6 : decode cX5_mayBegin 6 = .ok (.aload_n 1, 1) := by decide +kernel
theorem dX5_mayBegin_7 : decode cX5_mayBegin 7 = .ok (.getfield 53, 3) := by decide +kernel
theorem dX5_mayBegin_10 : decode cX5_mayBegin 10 = .ok (.iconst 4, 1) := by decide +kernel
theorem dX5_mayBegin_11 : decode cX5_mayBegin 11 = .ok (.if_icmp .ge 7, 3) := by decide +kernel
theorem dX5_mayBegin_14 : decode cX5_mayBegin 14 = .ok (.iconst 1, 1) := by decide +kernel
theorem dX5_mayBegin_15 : decode cX5_mayBegin 15 = .ok (.goto 4, 3) := by decide +kernel
theorem dX5_mayBegin_18 : decode cX5_mayBegin 18 = .ok (.iconst 0, 1) := by decide +kernel
theorem dX5_mayBegin_19 : decode cX5_mayBegin 19 = .ok (.ireturn, 1) := by decide +kernel
theorem dX5_mayBegin_20 : decode cX5_mayBegin 20 = .ok (.iload_n 2, 1) := by decide +kernel
theorem dX5_mayBegin_21 : decode cX5_mayBegin 21 = .ok (.bipush 114, 2) := by decide +kernel
theorem dX5_mayBegin_23 : decode cX5_mayBegin 23 = .ok (.if_icmp .ne 18, 3) := by decide +kernel
theorem dX5_mayBegin_26 : decode cX5_mayBegin 26 = .ok (.aload_n 1, 1) := by decide +kernel
theorem dX5_mayBegin_27 : decode cX5_mayBegin 27 = .ok (.getfield 56, 3) := by decide +kernel
theorem dX5_mayBegin_30 : decode cX5_mayBegin 30 = .ok (.bipush 8, 2) := by decide +kernel
theorem dX5_mayBegin_32 : decode cX5_mayBegin 32 = .ok (.if_icmp .ge 7, 3) := by decide +kernel
theorem dX5_mayBegin_35 : decode cX5_mayBegin 35 = .ok (.iconst 1, 1) := by decide +kernel
theorem dX5_mayBegin_36 : decode cX5_mayBegin 36 = .ok (.goto 4, 3) := by decide +kernel
theorem dX5_mayBegin_39 : decode cX5_mayBegin 39 = .ok (.iconst 0, 1) := by decide +kernel
theorem dX5_mayBegin_40 : decode cX5_mayBegin 40 = .ok (.ireturn, 1) := by decide +kernel
theorem dX5_mayBegin_41 : decode cX5_mayBegin 41 = .ok (.iload_n 2, 1) := by decide +kernel
theorem dX5_mayBegin_42 : decode cX5_mayBegin 42 = .ok (.invokestatic 59, 3) := by decide +kernel
theorem dX5_mayBegin_45 : decode cX5_mayBegin 45 = .ok (.istore_n 3, 1) := by decide +kernel
theorem dX5_mayBegin_46 : decode cX5_mayBegin 46 = .ok (.iload_n 3, 1) := by decide +kernel
theorem dX5_mayBegin_47 : decode cX5_mayBegin 47 = .ok (.ifCond .eq 12, 3) := by decide +kernel
theorem dX5_mayBegin_50 : decode cX5_mayBegin 50 = .ok (.aload_n 0, 1) := by decide +kernel
theorem dX5_mayBegin_51 : decode cX5_mayBegin 51 = .ok (.getfield 27, 3) := by decide +kernel
theorem dX5_mayBegin_54 : decode cX5_mayBegin 54 = .ok (.iload_n 3, 1) := by decide +kernel
theorem dX5_mayBegin_55 : decode cX5_mayBegin 55 = .ok (.iand, 1) := by decide +kernel
theorem dX5_mayBegin_56 : decode cX5_mayBegin 56 = .ok (.ifCond .eq 5, 3) := by decide +kernel
theorem dX5_mayBegin_59 : decode cX5_mayBegin 59 = .ok (.iconst 0, 1) := by decide +kernel
theorem dX5_mayBegin_60 : decode cX5_mayBegin 60 = .ok (.ireturn, 1) := by decide +kernel
theorem dX5_mayBegin_61 : decode cX5_mayBegin 61 = .ok (.aload_n 0, 1) := by decide +kernel
theorem dX5_mayBegin_62 : decode cX5_mayBegin 62 = .ok (.dup, 1) := by decide +kernel
theorem dX5_mayBegin_63 : decode cX5_mayBegin 63 = .ok (.getfield 27, 3) := by decide +kernel
theorem dX5_mayBegin_66 : decode cX5_mayBegin 66 = .ok (.iload_n 3, 1) := by decide +kernel
theorem dX5_mayBegin_67 : decode cX5_mayBegin 67 = .ok (.ior, 1) := by decide +kernel
theorem dX5_mayBegin_68 : decode cX5_mayBegin 68 = .ok (.putfield 27, 3) := by decide +kernel
theorem dX5_mayBegin_71 : decode cX5_mayBegin 71 = .ok (.iconst 1, 1) := by decide +kernel
theorem dX5_mayBegin_72 : decode cX5_mayBegin 72 = .ok (.ireturn, 1) := by decide +kernel
theorem dX5_onceBit_0 : decode cX5_onceBit 0 = .ok (.iload_n 0, 1) := by decide +kernel
theorem dX5_onceBit_1 : decode cX5_onceBit 1 = .ok (.lookupswitch 52 #[(101, 43), (105, 47), (108, 45), (112, 49)], 43) := by decide +kernel
theorem dX5_onceBit_44 : decode cX5_onceBit 44 = .ok (.iconst 1, 1) := by decide +kernel
theorem dX5_onceBit_45 : decode cX5_onceBit 45 = .ok (.ireturn, 1) := by decide +kernel
theorem dX5_onceBit_46 : decode cX5_onceBit 46 = .ok (.iconst 2, 1) := by decide +kernel
theorem dX5_onceBit_47 : decode cX5_onceBit 47 = .ok (.ireturn, 1) := by decide +kernel
theorem dX5_onceBit_48 : decode cX5_onceBit 48 = .ok (.iconst 4, 1) := by decide +kernel
theorem dX5_onceBit_49 : decode cX5_onceBit 49 = .ok (.ireturn, 1) := by decide +kernel
theorem dX5_onceBit_50 : decode cX5_onceBit 50 = .ok (.bipush 8, 2) := by decide +kernel
theorem dX5_onceBit_52 : decode cX5_onceBit 52 = .ok (.ireturn, 1) := by decide +kernel
theorem dX5_onceBit_53 : decode cX5_onceBit 53 = .ok (.iconst 0, 1) := by decide +kernel
theorem dX5_onceBit_54 : decode cX5_onceBit 54 = .ok (.ireturn, 1) := by decide +kernel
theorem dX5_readReel_0 : decode cX5_readReel 0 = .ok (.aload_n 0, 1) := by decide +kernel
theorem dX5_readReel_1 : decode cX5_readReel 1 = .ok (.iconst 1, 1) := by decide +kernel
theorem dX5_readReel_2 : decode cX5_readReel 2 = .ok (.bipush 99, 2) := by decide +kernel
theorem dX5_readReel_4 : decode cX5_readReel 4 = .ok (.invokevirtual 63, 3) := by decide +kernel
theorem dX5_readReel_7 : decode cX5_readReel 7 = .ok (.istore_n 2, 1) := by decide +kernel
theorem dX5_readReel_8 : decode cX5_readReel 8 = .ok (.iload_n 2, 1) := by decide +kernel
theorem dX5_readReel_9 : decode cX5_readReel 9 = .ok (.ifCond .ge 5, 3) := by decide +kernel
theorem dX5_readReel_12 : decode cX5_readReel 12 = .ok (.iconst 0, 1) := by decide +kernel
theorem dX5_readReel_13 : decode cX5_readReel 13 = .ok (.ireturn, 1) := by decide +kernel
theorem dX5_readReel_14 : decode cX5_readReel 14 = .ok (.aload_n 0, 1) := by decide +kernel
theorem dX5_readReel_15 : decode cX5_readReel 15 = .ok (.getfield 33, 3) := by decide +kernel
theorem dX5_readReel_18 : decode cX5_readReel 18 = .ok (.bipush 45, 2) := by decide +kernel
theorem dX5_readReel_20 : decode cX5_readReel 20 = .ok (.if_icmp .ne 7, 3) := by decide +kernel
theorem dX5_readReel_23 : decode cX5_readReel 23 = .ok (.iconst 1, 1) := by decide +kernel
theorem dX5_readReel_24 : decode cX5_readReel 24 = .ok (.goto 4, 3) := by decide +kernel
theorem dX5_readReel_27 : decode cX5_readReel 27 = .ok (.iconst 0, 1) := by decide +kernel
theorem dX5_readReel_28 : decode cX5_readReel 28 = .ok (.istore_n 3, 1) := by decide +kernel
theorem dX5_readReel_29 : decode cX5_readReel 29 = .ok (.iload_n 3, 1) := by decide +kernel
theorem dX5_readReel_30 : decode cX5_readReel 30 = .ok (.ifCond .eq 7, 3) := by decide +kernel
theorem dX5_readReel_33 : decode cX5_readReel 33 = .ok (.aload_n 0, 1) := by decide +kernel
theorem dX5_readReel_34 : decode cX5_readReel 34 = .ok (.invokevirtual 30, 3) := by decide +kernel
theorem dX5_readReel_37 : decode cX5_readReel 37 = .ok (.aload_n 0, 1) := by decide +kernel
theorem dX5_readReel_38 : decode cX5_readReel 38 = .ok (.iconst 0, 1) := by decide +kernel
theorem dX5_readReel_39 : decode cX5_readReel 39 = .ok (.bipush 9, 2) := by decide +kernel
theorem dX5_readReel_41 : decode cX5_readReel 41 = .ok (.invokevirtual 63, 3) := by decide +kernel
theorem dX5_readReel_44 : decode cX5_readReel 44 = .ok (.istore 4, 2) := by decide +kernel
theorem dX5_readReel_46 : decode cX5_readReel 46 = .ok (.iload 4, 2) := by decide +kernel
theorem dX5_readReel_48 : decode cX5_readReel 48 = .ok (.ifCond .ge 5, 3) := by decide +kernel
theorem dX5_readReel_51 : decode cX5_readReel 51 = .ok (.iconst 0, 1) := by decide +kernel
theorem dX5_readReel_52 : decode cX5_readReel 52 = .ok (.ireturn, 1) := by decide +kernel
theorem dX5_readReel_53 : decode cX5_readReel 53 = .ok (.aload_n 1, 1) := by decide +kernel
theorem dX5_readReel_54 : decode cX5_readReel 54 = .ok (.iload_n 2, 1) := by decide +kernel
theorem dX5_readReel_55 : decode cX5_readReel 55 = .ok (.iload_n 3, 1) := by decide +kernel
theorem dX5_readReel_56 : decode cX5_readReel 56 = .ok (.ifCond .eq 9, 3) := by decide +kernel
theorem dX5_readReel_59 : decode cX5_readReel 59 = .ok (.iload 4, 2) := by decide +kernel
theorem dX5_readReel_61 : decode cX5_readReel 61 = .ok (.ineg, 1) := by decide +kernel
theorem dX5_readReel_62 : decode cX5_readReel 62 = .ok (.goto 5, 3) := by decide +kernel
theorem dX5_readReel_65 : decode cX5_readReel 65 = .ok (.iload 4, 2) := by decide +kernel
theorem dX5_readReel_67 : decode cX5_readReel 67 = .ok (.invokevirtual 67, 3) := by decide +kernel
theorem dX5_readReel_70 : decode cX5_readReel 70 = .ok (.iconst 1, 1) := by decide +kernel
theorem dX5_readReel_71 : decode cX5_readReel 71 = .ok (.ireturn, 1) := by decide +kernel
theorem dX5_readSetting_0 : decode cX5_readSetting 0 = .ok (.iload_n 2, 1) := by decide +kernel
theorem dX5_readSetting_1 : decode cX5_readSetting 1 = .ok (.bipush 105, 2) := by decide +kernel
theorem dX5_readSetting_3 : decode cX5_readSetting 3 = .ok (.if_icmp .ne 7, 3) := by decide +kernel
theorem dX5_readSetting_6 : decode cX5_readSetting 6 = .ok (.iconst 0, 1) := by decide +kernel
theorem dX5_readSetting_7 : decode cX5_readSetting 7 = .ok (.goto 4, 3) := by decide +kernel
theorem dX5_readSetting_10 : decode cX5_readSetting 10 = .ok (.iconst 1, 1) := by decide +kernel
theorem dX5_readSetting_11 : decode cX5_readSetting 11 = .ok (.istore_n 3, 1) := by decide +kernel
theorem dX5_readSetting_12 : decode cX5_readSetting 12 = .ok (.aload_n 0, 1) := by decide +kernel
theorem dX5_readSetting_13 : decode cX5_readSetting 13 = .ok (.iload_n 3, 1) := by decide +kernel
theorem dX5_readSetting_14 : decode cX5_readSetting 14 = .ok (.iload_n 2, 1) := by decide +kernel
theorem dX5_readSetting_15 : decode cX5_readSetting 15 = .ok (.invokestatic 71, 3) := by decide +kernel
theorem dX5_readSetting_18 : decode cX5_readSetting 18 = .ok (.invokevirtual 63, 3) := by decide +kernel
theorem dX5_readSetting_21 : decode cX5_readSetting 21 = .ok (.istore 4, 2) := by decide +kernel
theorem dX5_readSetting_23 : decode cX5_readSetting 23 = .ok (.iload 4, 2) := by decide +kernel
theorem dX5_readSetting_25 : decode cX5_readSetting 25 = .ok (.ifCond .ge 5, 3) := by decide +kernel
theorem dX5_readSetting_28 : decode cX5_readSetting 28 = .ok (.iconst 0, 1) := by decide +kernel
theorem dX5_readSetting_29 : decode cX5_readSetting 29 = .ok (.ireturn, 1) := by decide +kernel
theorem dX5_readSetting_30 : decode cX5_readSetting 30 = .ok (.iload_n 2, 1) := by decide +kernel
theorem dX5_readSetting_31 : decode cX5_readSetting 31 = .ok (.lookupswitch 77 #[(101, 50), (105, 68), (108, 59), (117, 41)], 41) := by decide +kernel
theorem dX5_readSetting_72 : decode cX5_readSetting 72 = .ok (.aload_n 1, 1) := by decide +kernel
theorem dX5_readSetting_73 : decode cX5_readSetting 73 = .ok (.iload 4, 2) := by decide +kernel
theorem dX5_readSetting_75 : decode cX5_readSetting 75 = .ok (.invokevirtual 74, 3) := by decide +kernel
theorem dX5_readSetting_78 : decode cX5_readSetting 78 = .ok (.goto 36, 3) := by decide +kernel
theorem dX5_readSetting_81 : decode cX5_readSetting 81 = .ok (.aload_n 1, 1) := by decide +kernel
theorem dX5_readSetting_82 : decode cX5_readSetting 82 = .ok (.iload 4, 2) := by decide +kernel
theorem dX5_readSetting_84 : decode cX5_readSetting 84 = .ok (.putfield 78, 3) := by decide +kernel
theorem dX5_readSetting_87 : decode cX5_readSetting 87 = .ok (.goto 27, 3) := by decide +kernel
theorem dX5_readSetting_90 : decode cX5_readSetting 90 = .ok (.aload_n 1, 1) := by decide +kernel
theorem dX5_readSetting_91 : decode cX5_readSetting 91 = .ok (.iload 4, 2) := by decide +kernel
theorem dX5_readSetting_93 : decode cX5_readSetting 93 = .ok (.putfield 81, 3) := by decide +kernel
theorem dX5_readSetting_96 : decode cX5_readSetting 96 = .ok (.goto 18, 3) := by decide +kernel
theorem dX5_readSetting_99 : decode cX5_readSetting 99 = .ok (.aload_n 1, 1) := by decide +kernel
theorem dX5_readSetting_100 : decode cX5_readSetting 100 = .ok (.iload 4, 2) := by decide +kernel
theorem dX5_readSetting_102 : decode cX5_readSetting 102 = .ok (.putfield 84, 3) := by decide +kernel
theorem dX5_readSetting_105 : decode cX5_readSetting 105 = .ok (.goto 9, 3) := by decide +kernel
theorem dX5_readSetting_108 : decode cX5_readSetting 108 = .ok (.aload_n 1, 1) := by decide +kernel
theorem dX5_readSetting_109 : decode cX5_readSetting 109 = .ok (.iload 4, 2) := by decide +kernel
theorem dX5_readSetting_111 : decode cX5_readSetting 111 = .ok (.putfield 87, 3) := by decide +kernel
theorem dX5_readSetting_114 : decode cX5_readSetting 114 = .ok (.iconst 1, 1) := by decide +kernel
theorem dX5_readSetting_115 : decode cX5_readSetting 115 = .ok (.ireturn, 1) := by decide +kernel
theorem dX5_highest_0 : decode cX5_highest 0 = .ok (.iload_n 0, 1) := by decide +kernel
theorem dX5_highest_1 : decode cX5_highest 1 = .ok (.lookupswitch 44 #[(101, 38), (105, 41), (117, 35)], 35) := by decide +kernel
theorem dX5_highest_36 : decode cX5_highest 36 = .ok (.bipush 6, 2) := by decide +kernel
theorem dX5_highest_38 : decode cX5_highest 38 = .ok (.ireturn, 1) := by decide +kernel
theorem dX5_highest_39 : decode cX5_highest 39 = .ok (.bipush 9, 2) := by decide +kernel
theorem dX5_highest_41 : decode cX5_highest 41 = .ok (.ireturn, 1) := by decide +kernel
theorem dX5_highest_42 : decode cX5_highest 42 = .ok (.bipush 9, 2) := by decide +kernel
theorem dX5_highest_44 : decode cX5_highest 44 = .ok (.ireturn, 1) := by decide +kernel
theorem dX5_highest_45 : decode cX5_highest 45 = .ok (.bipush 20, 2) := by decide +kernel
theorem dX5_highest_47 : decode cX5_highest 47 = .ok (.ireturn, 1) := by decide +kernel
theorem dX5_takeNumber_0 : decode cX5_takeNumber 0 = .ok (.aload_n 0, 1) := by decide +kernel
theorem dX5_takeNumber_1 : decode cX5_takeNumber 1 = .ok (.getfield 33, 3) := by decide +kernel
theorem dX5_takeNumber_4 : decode cX5_takeNumber 4 = .ok (.sipush 256, 3) := by decide +kernel
theorem dX5_takeNumber_7 : decode cX5_takeNumber 7 = .ok (.if_icmp .ne 15, 3) := by decide +kernel
theorem dX5_takeNumber_10 : decode cX5_takeNumber 10 = .ok (.aload_n 0, 1) := by decide +kernel
theorem dX5_takeNumber_11 : decode cX5_takeNumber 11 = .ok (.getfield 90, 3) := by decide +kernel
theorem dX5_takeNumber_14 : decode cX5_takeNumber 14 = .ok (.iload_n 1, 1) := by decide +kernel
theorem dX5_takeNumber_15 : decode cX5_takeNumber 15 = .ok (.iload_n 2, 1) := by decide +kernel
theorem dX5_takeNumber_16 : decode cX5_takeNumber 16 = .ok (.invokestatic 93, 3) := by decide +kernel
theorem dX5_takeNumber_19 : decode cX5_takeNumber 19 = .ok (.ifCond .ne 5, 3) := by decide +kernel
theorem dX5_takeNumber_22 : decode cX5_takeNumber 22 = .ok (.iconst (-1), 1) := by decide +kernel
theorem dX5_takeNumber_23 : decode cX5_takeNumber 23 = .ok (.ireturn, 1) := by decide +kernel
theorem dX5_takeNumber_24 : decode cX5_takeNumber 24 = .ok (.aload_n 0, 1) := by decide +kernel
theorem dX5_takeNumber_25 : decode cX5_takeNumber 25 = .ok (.getfield 90, 3) := by decide +kernel
theorem dX5_takeNumber_28 : decode cX5_takeNumber 28 = .ok (.istore_n 3, 1) := by decide +kernel
theorem dX5_takeNumber_29 : decode cX5_takeNumber 29 = .ok (.aload_n 0, 1) := by decide +kernel
theorem dX5_takeNumber_30 : decode cX5_takeNumber 30 = .ok (.invokevirtual 30, 3) := by decide +kernel
theorem dX5_takeNumber_33 : decode cX5_takeNumber 33 = .ok (.iload_n 3, 1) := by decide +kernel
theorem dX5_takeNumber_34 : decode cX5_takeNumber 34 = .ok (.ireturn, 1) := by decide +kernel
theorem dX5_stepOn_0 : decode cX5_stepOn 0 = .ok (.aload_n 0, 1) := by decide +kernel
theorem dX5_stepOn_1 : decode cX5_stepOn 1 = .ok (.getfield 24, 3) := by decide +kernel
theorem dX5_stepOn_4 : decode cX5_stepOn 4 = .ok (.aload_n 0, 1) := by decide +kernel
theorem dX5_stepOn_5 : decode cX5_stepOn 5 = .ok (.getfield 15, 3) := by decide +kernel
theorem dX5_stepOn_8 : decode cX5_stepOn 8 = .ok (.if_icmp .ge 30, 3) := by decide +kernel
theorem dX5_stepOn_11 : decode cX5_stepOn 11 = .ok (.aload_n 0, 1) := by decide +kernel
theorem dX5_stepOn_12 : decode cX5_stepOn 12 = .ok (.getfield 9, 3) := by decide +kernel
theorem dX5_stepOn_15 : decode cX5_stepOn 15 = .ok (.aload_n 0, 1) := by decide +kernel
theorem dX5_stepOn_16 : decode cX5_stepOn 16 = .ok (.getfield 24, 3) := by decide +kernel
theorem dX5_stepOn_19 : decode cX5_stepOn 19 = .ok (.iaload, 1) := by decide +kernel
theorem dX5_stepOn_20 : decode cX5_stepOn 20 = .ok (.bipush 32, 2) := by decide +kernel
theorem dX5_stepOn_22 : decode cX5_stepOn 22 = .ok (.if_icmp .ne 16, 3) := by decide +kernel
theorem dX5_stepOn_25 : decode cX5_stepOn 25 = .ok (.aload_n 0, 1) := by decide +kernel
theorem dX5_stepOn_26 : decode cX5_stepOn 26 = .ok (.dup, 1) := by decide +kernel
theorem dX5_stepOn_27 : decode cX5_stepOn 27 = .ok (.getfield 24, 3) := by decide +kernel
theorem dX5_stepOn_30 : decode cX5_stepOn 30 = .ok (.iconst 1, 1) := by decide +kernel
theorem dX5_stepOn_31 : decode cX5_stepOn 31 = .ok (.iadd, 1) := by decide +kernel
theorem dX5_stepOn_32 : decode cX5_stepOn 32 = .ok (.putfield 24, 3) := by decide +kernel
theorem dX5_stepOn_35 : decode cX5_stepOn 35 = .ok (.goto (-35), 3) := by decide +kernel
theorem dX5_stepOn_38 : decode cX5_stepOn 38 = .ok (.aload_n 0, 1) := by decide +kernel
theorem dX5_stepOn_39 : decode cX5_stepOn 39 = .ok (.aload_n 0, 1) := by decide +kernel
theorem dX5_stepOn_40 : decode cX5_stepOn 40 = .ok (.getfield 24, 3) := by decide +kernel
theorem dX5_stepOn_43 : decode cX5_stepOn 43 = .ok (.putfield 40, 3) := by decide +kernel
theorem dX5_stepOn_46 : decode cX5_stepOn 46 = .ok (.aload_n 0, 1) := by decide +kernel
theorem dX5_stepOn_47 : decode cX5_stepOn 47 = .ok (.getfield 24, 3) := by decide +kernel
theorem dX5_stepOn_50 : decode cX5_stepOn 50 = .ok (.aload_n 0, 1) := by decide +kernel
theorem dX5_stepOn_51 : decode cX5_stepOn 51 = .ok (.getfield 15, 3) := by decide +kernel
theorem dX5_stepOn_54 : decode cX5_stepOn 54 = .ok (.if_icmp .lt 13, 3) := by decide +kernel
theorem dX5_stepOn_57 : decode cX5_stepOn 57 = .ok (.aload_n 0, 1) := by decide +kernel
theorem dX5_stepOn_58 : decode cX5_stepOn 58 = .ok (.sipush 257, 3) := by decide +kernel
theorem dX5_stepOn_61 : decode cX5_stepOn 61 = .ok (.putfield 33, 3) := by decide +kernel
theorem dX5_stepOn_64 : decode cX5_stepOn 64 = .ok (.goto 48, 3) := by decide +kernel
theorem dX5_stepOn_67 : decode cX5_stepOn 67 = .ok (.aload_n 0, 1) := by decide +kernel
theorem dX5_stepOn_68 : decode cX5_stepOn 68 = .ok (.getfield 9, 3) := by decide +kernel
theorem dX5_stepOn_71 : decode cX5_stepOn 71 = .ok (.aload_n 0, 1) := by decide +kernel
theorem dX5_stepOn_72 : decode cX5_stepOn 72 = .ok (.getfield 24, 3) := by decide +kernel
theorem dX5_stepOn_75 : decode cX5_stepOn 75 = .ok (.iaload, 1) := by decide +kernel
theorem dX5_stepOn_76 : decode cX5_stepOn 76 = .ok (.invokestatic 97, 3) := by decide +kernel
theorem dX5_stepOn_79 : decode cX5_stepOn 79 = .ok (.ifCond .eq 10, 3) := by decide +kernel
theorem dX5_stepOn_82 : decode cX5_stepOn 82 = .ok (.aload_n 0, 1) := by decide +kernel
theorem dX5_stepOn_83 : decode cX5_stepOn 83 = .ok (.invokevirtual 101, 3) := by decide +kernel
theorem dX5_stepOn_86 : decode cX5_stepOn 86 = .ok (.goto 26, 3) := by decide +kernel
theorem dX5_stepOn_89 : decode cX5_stepOn 89 = .ok (.aload_n 0, 1) := by decide +kernel
theorem dX5_stepOn_90 : decode cX5_stepOn 90 = .ok (.aload_n 0, 1) := by decide +kernel
theorem dX5_stepOn_91 : decode cX5_stepOn 91 = .ok (.getfield 9, 3) := by decide +kernel
theorem dX5_stepOn_94 : decode cX5_stepOn 94 = .ok (.aload_n 0, 1) := by decide +kernel
theorem dX5_stepOn_95 : decode cX5_stepOn 95 = .ok (.getfield 24, 3) := by decide +kernel
theorem dX5_stepOn_98 : decode cX5_stepOn 98 = .ok (.iaload, 1) := by decide +kernel
theorem dX5_stepOn_99 : decode cX5_stepOn 99 = .ok (.putfield 33, 3) := by decide +kernel
theorem dX5_stepOn_102 : decode cX5_stepOn 102 = .ok (.aload_n 0, 1) := by decide +kernel
theorem dX5_stepOn_103 : decode cX5_stepOn 103 = .ok (.dup, 1) := by decide +kernel
theorem dX5_stepOn_104 : decode cX5_stepOn 104 = .ok (.getfield 24, 3) := by decide +kernel
theorem dX5_stepOn_107 : decode cX5_stepOn 107 = .ok (.iconst 1, 1) := by decide +kernel
theorem dX5_stepOn_108 : decode cX5_stepOn 108 = .ok (.iadd, 1) := by decide +kernel
theorem dX5_stepOn_109 : decode cX5_stepOn 109 = .ok (.putfield 24, 3) := by decide +kernel
theorem dX5_stepOn_112 : decode cX5_stepOn 112 = .ok (.return_, 1) := by decide +kernel
theorem dX5_stepOverNumber_0 : decode cX5_stepOverNumber 0 = .ok (.aload_n 0, 1) := by decide +kernel
theorem dX5_stepOverNumber_1 : decode cX5_stepOverNumber 1 = .ok (.getfield 9, 3) := by decide +kernel
theorem dX5_stepOverNumber_4 : decode cX5_stepOverNumber 4 = .ok (.aload_n 0, 1) := by decide +kernel
theorem dX5_stepOverNumber_5 : decode cX5_stepOverNumber 5 = .ok (.getfield 24, 3) := by decide +kernel
theorem dX5_stepOverNumber_8 : decode cX5_stepOverNumber 8 = .ok (.iaload, 1) := by decide +kernel
theorem dX5_stepOverNumber_9 : decode cX5_stepOverNumber 9 = .ok (.bipush 48, 2) := by decide +kernel
theorem dX5_stepOverNumber_11 : decode cX5_stepOverNumber 11 = .ok (.if_icmp .ne 7, 3) := by decide +kernel
theorem dX5_stepOverNumber_14 : decode cX5_stepOverNumber 14 = .ok (.iconst 1, 1) := by decide +kernel
theorem dX5_stepOverNumber_15 : decode cX5_stepOverNumber 15 = .ok (.goto 4, 3) := by decide +kernel
theorem dX5_stepOverNumber_18 : decode cX5_stepOverNumber 18 = .ok (.iconst 0, 1) := by decide +kernel
theorem dX5_stepOverNumber_19 : decode cX5_stepOverNumber 19 = .ok (.istore_n 1, 1) := by decide +kernel
theorem dX5_stepOverNumber_20 : decode cX5_stepOverNumber 20 = .ok (.aload_n 0, 1) := by decide +kernel
theorem dX5_stepOverNumber_21 : decode cX5_stepOverNumber 21 = .ok (.iconst 0, 1) := by decide +kernel
theorem dX5_stepOverNumber_22 : decode cX5_stepOverNumber 22 = .ok (.putfield 90, 3) := by decide +kernel
theorem dX5_stepOverNumber_25 : decode cX5_stepOverNumber 25 = .ok (.aload_n 0, 1) := by decide +kernel
theorem dX5_stepOverNumber_26 : decode cX5_stepOverNumber 26 = .ok (.getfield 24, 3) := by decide +kernel
theorem dX5_stepOverNumber_29 : decode cX5_stepOverNumber 29 = .ok (.aload_n 0, 1) := by decide +kernel
theorem dX5_stepOverNumber_30 : decode cX5_stepOverNumber 30 = .ok (.getfield 15, 3) := by decide +kernel
theorem dX5_stepOverNumber_33 : decode cX5_stepOverNumber 33 = .ok (.if_icmp .ge 60, 3) := by decide +kernel
theorem dX5_stepOverNumber_36 : decode cX5_stepOverNumber 36 = .ok (.aload_n 0, 1) := by decide +kernel
theorem dX5_stepOverNumber_37 : decode cX5_stepOverNumber 37 = .ok (.getfield 9, 3) := by decide +kernel
theorem dX5_stepOverNumber_40 : decode cX5_stepOverNumber 40 = .ok (.aload_n 0, 1) := by decide +kernel
theorem dX5_stepOverNumber_41 : decode cX5_stepOverNumber 41 = .ok (.getfield 24, 3) := by decide +kernel
theorem dX5_stepOverNumber_44 : decode cX5_stepOverNumber 44 = .ok (.iaload, 1) := by decide +kernel
theorem dX5_stepOverNumber_45 : decode cX5_stepOverNumber 45 = .ok (.invokestatic 97, 3) := by decide +kernel
theorem dX5_stepOverNumber_48 : decode cX5_stepOverNumber 48 = .ok (.ifCond .eq 45, 3) := by decide +kernel
theorem dX5_stepOverNumber_51 : decode cX5_stepOverNumber 51 = .ok (.aload_n 0, 1) := by decide +kernel
theorem dX5_stepOverNumber_52 : decode cX5_stepOverNumber 52 = .ok (.aload_n 0, 1) := by decide +kernel
theorem dX5_stepOverNumber_53 : decode cX5_stepOverNumber 53 = .ok (.getfield 90, 3) := by decide +kernel
theorem dX5_stepOverNumber_56 : decode cX5_stepOverNumber 56 = .ok (.bipush 10, 2) := by decide +kernel
theorem dX5_stepOverNumber_58 : decode cX5_stepOverNumber 58 = .ok (.imul, 1) := by decide +kernel
theorem dX5_stepOverNumber_59 : decode cX5_stepOverNumber 59 = .ok (.aload_n 0, 1) := by decide +kernel
theorem dX5_stepOverNumber_60 : decode cX5_stepOverNumber 60 = .ok (.getfield 9, 3) := by decide +kernel
theorem dX5_stepOverNumber_63 : decode cX5_stepOverNumber 63 = .ok (.aload_n 0, 1) := by decide +kernel
theorem dX5_stepOverNumber_64 : decode cX5_stepOverNumber 64 = .ok (.getfield 24, 3) := by decide +kernel
theorem dX5_stepOverNumber_67 : decode cX5_stepOverNumber 67 = .ok (.iaload, 1) := by decide +kernel
theorem dX5_stepOverNumber_68 : decode cX5_stepOverNumber 68 = .ok (.iadd, 1) := by decide +kernel
theorem dX5_stepOverNumber_69 : decode cX5_stepOverNumber 69 = .ok (.bipush 48, 2) := by decide +kernel
theorem dX5_stepOverNumber_71 : decode cX5_stepOverNumber 71 = .ok (.isub, 1) := by decide +kernel
theorem dX5_stepOverNumber_72 : decode cX5_stepOverNumber 72 = .ok (.bipush 100, 2) := by decide +kernel
theorem dX5_stepOverNumber_74 : decode cX5_stepOverNumber 74 = .ok (.invokestatic 104, 3) := by decide +kernel
theorem dX5_stepOverNumber_77 : decode cX5_stepOverNumber 77 = .ok (.putfield 90, 3) := by decide +kernel
theorem dX5_stepOverNumber_80 : decode cX5_stepOverNumber 80 = .ok (.aload_n 0, 1) := by decide +kernel
theorem dX5_stepOverNumber_81 : decode cX5_stepOverNumber 81 = .ok (.dup, 1) := by decide +kernel
theorem dX5_stepOverNumber_82 : decode cX5_stepOverNumber 82 = .ok (.getfield 24, 3) := by decide +kernel
theorem dX5_stepOverNumber_85 : decode cX5_stepOverNumber 85 = .ok (.iconst 1, 1) := by decide +kernel
theorem dX5_stepOverNumber_86 : decode cX5_stepOverNumber 86 = .ok (.iadd, 1) := by decide +kernel
theorem dX5_stepOverNumber_87 : decode cX5_stepOverNumber 87 = .ok (.putfield 24, 3) := by decide +kernel
theorem dX5_stepOverNumber_90 : decode cX5_stepOverNumber 90 = .ok (.goto (-65), 3) := by decide +kernel
theorem dX5_stepOverNumber_93 : decode cX5_stepOverNumber 93 = .ok (.iload_n 1, 1) := by decide +kernel
theorem dX5_stepOverNumber_94 : decode cX5_stepOverNumber 94 = .ok (.ifCond .eq 20, 3) := by decide +kernel
theorem dX5_stepOverNumber_97 : decode cX5_stepOverNumber 97 = .ok (.aload_n 0, 1) := by decide +kernel
theorem dX5_stepOverNumber_98 : decode cX5_stepOverNumber 98 = .ok (.getfield 24, 3) := by decide +kernel
theorem dX5_stepOverNumber_101 : decode cX5_stepOverNumber 101 = .ok (.aload_n 0, 1) := by decide +kernel
theorem dX5_stepOverNumber_102 : decode cX5_stepOverNumber 102 = .ok (.getfield 40, 3) := by decide +kernel
theorem dX5_stepOverNumber_105 : decode cX5_stepOverNumber 105 = .ok (.isub, 1) := by decide +kernel
theorem dX5_stepOverNumber_106 : decode cX5_stepOverNumber 106 = .ok (.iconst 1, 1) := by decide +kernel
theorem dX5_stepOverNumber_107 : decode cX5_stepOverNumber 107 = .ok (.if_icmp .le 7, 3) := by decide +kernel
theorem dX5_stepOverNumber_110 : decode cX5_stepOverNumber 110 = .ok (.iconst 1, 1) := by decide +kernel
theorem dX5_stepOverNumber_111 : decode cX5_stepOverNumber 111 = .ok (.goto 4, 3) := by decide +kernel
theorem dX5_stepOverNumber_114 : decode cX5_stepOverNumber 114 = .ok (.iconst 0, 1) := by decide +kernel
theorem dX5_stepOverNumber_115 : decode cX5_stepOverNumber 115 = .ok (.istore_n 2, 1) := by decide +kernel
theorem dX5_stepOverNumber_116 : decode cX5_stepOverNumber 116 = .ok (.aload_n 0, 1) := by decide +kernel
theorem dX5_stepOverNumber_117 : decode cX5_stepOverNumber 117 = .ok (.aload_n 0, 1) := by decide +kernel
theorem dX5_stepOverNumber_118 : decode cX5_stepOverNumber 118 = .ok (.getfield 90, 3) := by decide +kernel
theorem dX5_stepOverNumber_121 : decode cX5_stepOverNumber 121 = .ok (.bipush 99, 2) := by decide +kernel
theorem dX5_stepOverNumber_123 : decode cX5_stepOverNumber 123 = .ok (.if_icmp .gt 7, 3) := by decide +kernel
theorem dX5_stepOverNumber_126 : decode cX5_stepOverNumber 126 = .ok (.iload_n 2, 1) := by decide +kernel
theorem dX5_stepOverNumber_127 : decode cX5_stepOverNumber 127 = .ok (.ifCond .eq 9, 3) := by decide +kernel
theorem dX5_stepOverNumber_130 : decode cX5_stepOverNumber 130 = .ok (.sipush 258, 3) := by decide +kernel
theorem dX5_stepOverNumber_133 : decode cX5_stepOverNumber 133 = .ok (.goto 6, 3) := by decide +kernel
theorem dX5_stepOverNumber_136 : decode cX5_stepOverNumber 136 = .ok (.sipush 256, 3) := by decide +kernel
theorem dX5_stepOverNumber_139 : decode cX5_stepOverNumber 139 = .ok (.putfield 33, 3) := by decide +kernel
theorem dX5_stepOverNumber_142 : decode cX5_stepOverNumber 142 = .ok (.return_, 1) := by decide +kernel
theorem dX5_isFigure_0 : decode cX5_isFigure 0 = .ok (.iload_n 0, 1) := by decide +kernel
theorem dX5_isFigure_1 : decode cX5_isFigure 1 = .ok (.bipush 48, 2) := by decide +kernel
theorem dX5_isFigure_3 : decode cX5_isFigure 3 = .ok (.if_icmp .lt 13, 3) := by decide +kernel
theorem dX5_isFigure_6 : decode cX5_isFigure 6 = .ok (.iload_n 0, 1) := by decide +kernel
theorem dX5_isFigure_7 : decode cX5_isFigure 7 = .ok (.bipush 57, 2) := by decide +kernel
theorem dX5_isFigure_9 : decode cX5_isFigure 9 = .ok (.if_icmp .gt 7, 3) := by decide +kernel
theorem dX5_isFigure_12 : decode cX5_isFigure 12 = .ok (.iconst 1, 1) := by decide +kernel
theorem dX5_isFigure_13 : decode cX5_isFigure 13 = .ok (.goto 4, 3) := by decide +kernel
theorem dX5_isFigure_16 : decode cX5_isFigure 16 = .ok (.iconst 0, 1) := by decide +kernel
theorem dX5_isFigure_17 : decode cX5_isFigure 17 = .ok (.ireturn, 1) := by decide +kernel
end
section
theorem dX6_init_0 : decode cX6_init 0 = .ok (.aload_n 0, 1) := by decide +kernel
theorem dX6_init_1 : decode cX6_init 1 = .ok (.invokespecial 1, 3) := by decide +kernel
theorem dX6_init_4 : decode cX6_init 4 = .ok (.aload_n 0, 1) := by decide +kernel
theorem dX6_init_5 : decode cX6_init 5 = .ok (.new 7, 3) := by decide +kernel
theorem dX6_init_8 : decode cX6_init 8 = .ok (.dup, 1) := by decide +kernel
theorem dX6_init_9 : decode cX6_init 9 = .ok (.invokespecial 9, 3) := by decide +kernel
theorem dX6_init_12 : decode cX6_init 12 = .ok (.putfield 10, 3) := by decide +kernel
theorem dX6_init_15 : decode cX6_init 15 = .ok (.aload_n 0, 1) := by decide +kernel
theorem dX6_init_16 : decode cX6_init 16 = .ok (.new 16, 3) := by decide +kernel
theorem dX6_init_19 : decode cX6_init 19 = .ok (.dup, 1) := by decide +kernel
theorem dX6_init_20 : decode cX6_init 20 = .ok (.invokespecial 18, 3) := by decide +kernel
theorem dX6_init_23 : decode cX6_init 23 = .ok (.putfield 19, 3) := by decide +kernel
theorem dX6_init_26 : decode cX6_init 26 = .ok (.aload_n 0, 1) := by decide +kernel
theorem dX6_init_27 : decode cX6_init 27 = .ok (.new 16, 3) := by decide +kernel
theorem dX6_init_30 : decode cX6_init 30 = .ok (.dup, 1) := by decide +kernel
theorem dX6_init_31 : decode cX6_init 31 = .ok (.invokespecial 18, 3) := by decide +kernel
theorem dX6_init_34 : decode cX6_init 34 = .ok (.putfield 23, 3) := by decide +kernel
theorem dX6_init_37 : decode cX6_init 37 = .ok (.aload_n 0, 1) := by decide +kernel
theorem dX6_init_38 : decode cX6_init 38 = .ok (.new 26, 3) := by decide +kernel
theorem dX6_init_41 : decode cX6_init 41 = .ok (.dup, 1) := by decide +kernel
theorem dX6_init_42 : decode cX6_init 42 = .ok (.invokespecial 28, 3) := by decide +kernel
theorem dX6_init_45 : decode cX6_init 45 = .ok (.putfield 29, 3) := by decide +kernel
theorem dX6_init_48 : decode cX6_init 48 = .ok (.aload_n 0, 1) := by decide +kernel
theorem dX6_init_49 : decode cX6_init 49 = .ok (.new 26, 3) := by decide +kernel
theorem dX6_init_52 : decode cX6_init 52 = .ok (.dup, 1) := by decide +kernel
theorem dX6_init_53 : decode cX6_init 53 = .ok (.invokespecial 28, 3) := by decide +kernel
theorem dX6_init_56 : decode cX6_init 56 = .ok (.putfield 33, 3) := by decide +kernel
theorem dX6_init_59 : decode cX6_init 59 = .ok (.aload_n 0, 1) := by decide +kernel
theorem dX6_init_60 : decode cX6_init 60 = .ok (.new 36, 3) := by decide +kernel
theorem dX6_init_63 : decode cX6_init 63 = .ok (.dup, 1) := by decide +kernel
theorem dX6_init_64 : decode cX6_init 64 = .ok (.invokespecial 38, 3) := by decide +kernel
theorem dX6_init_67 : decode cX6_init 67 = .ok (.putfield 39, 3) := by decide +kernel
theorem dX6_init_70 : decode cX6_init 70 = .ok (.aload_n 0, 1) := by decide +kernel
theorem dX6_init_71 : decode cX6_init 71 = .ok (.iconst 2, 1) := by decide +kernel
theorem dX6_init_72 : decode cX6_init 72 = .ok (.anewarray 26, 3) := by decide +kernel
theorem dX6_init_75 : decode cX6_init 75 = .ok (.putfield 43, 3) := by decide +kernel
theorem dX6_init_78 : decode cX6_init 78 = .ok (.aload_n 0, 1) := by decide +kernel
theorem dX6_init_79 : decode cX6_init 79 = .ok (.iconst 2, 1) := by decide +kernel
theorem dX6_init_80 : decode cX6_init 80 = .ok (.newarray .boolean, 2) := by decide +kernel
theorem dX6_init_82 : decode cX6_init 82 = .ok (.putfield 47, 3) := by decide +kernel
theorem dX6_init_85 : decode cX6_init 85 = .ok (.aload_n 0, 1) := by decide +kernel
theorem dX6_init_86 : decode cX6_init 86 = .ok (.new 51, 3) := by decide +kernel
theorem dX6_init_89 : decode cX6_init 89 = .ok (.dup, 1) := by decide +kernel
theorem dX6_init_90 : decode cX6_init 90 = .ok (.invokespecial 53, 3) := by decide +kernel
theorem dX6_init_93 : decode cX6_init 93 = .ok (.putfield 54, 3) := by decide +kernel
theorem dX6_init_96 : decode cX6_init 96 = .ok (.iconst 0, 1) := by decide +kernel
theorem dX6_init_97 : decode cX6_init 97 = .ok (.istore_n 1, 1) := by decide +kernel
theorem dX6_init_98 : decode cX6_init 98 = .ok (.iload_n 1, 1) := by decide +kernel
theorem dX6_init_99 : decode cX6_init 99 = .ok (.iconst 2, 1) := by decide +kernel
theorem dX6_init_100 : decode cX6_init 100 = .ok (.if_icmp .ge 22, 3) := by decide +kernel
theorem dX6_init_103 : decode cX6_init 103 = .ok (.aload_n 0, 1) := by decide +kernel
theorem dX6_init_104 : decode cX6_init 104 = .ok (.getfield 43, 3) := by decide +kernel
theorem dX6_init_107 : decode cX6_init 107 = .ok (.iload_n 1, 1) := by decide +kernel
theorem dX6_init_108 : decode cX6_init 108 = .ok (.new 26, 3) := by decide +kernel
theorem dX6_init_111 : decode cX6_init 111 = .ok (.dup, 1) := by decide +kernel
theorem dX6_init_112 : decode cX6_init 112 = .ok (.invokespecial 28, 3) := by decide +kernel
theorem dX6_init_115 : decode cX6_init 115 = .ok (.aastore, 1) := by decide +kernel
theorem dX6_init_116 : decode cX6_init 116 = .ok (.iinc 1 1, 3) := by decide +kernel
theorem dX6_init_119 : decode cX6_init 119 = .ok (.goto (-21), 3) := by decide +kernel
theorem dX6_init_122 : decode cX6_init 122 = .ok (.aload_n 0, 1) := by decide +kernel
theorem dX6_init_123 : decode cX6_init 123 = .ok (.getfield 29, 3) := by decide +kernel
theorem dX6_init_126 : decode cX6_init 126 = .ok (.aload_n 0, 1) := by decide +kernel
theorem dX6_init_127 : decode cX6_init 127 = .ok (.getfield 19, 3) := by decide +kernel
theorem dX6_init_130 : decode cX6_init 130 = .ok (.invokevirtual 58, 3) := by decide +kernel
theorem dX6_init_133 : decode cX6_init 133 = .ok (.return_, 1) := by decide +kernel
theorem dX6_type_0 : decode cX6_type 0 = .ok (.iload_n 1, 1) := by decide +kernel
theorem dX6_type_1 : decode cX6_type 1 = .ok (.iconst 0, 1) := by decide +kernel
theorem dX6_type_2 : decode cX6_type 2 = .ok (.sipush 255, 3) := by decide +kernel
theorem dX6_type_5 : decode cX6_type 5 = .ok (.invokestatic 62, 3) := by decide +kernel
theorem dX6_type_8 : decode cX6_type 8 = .ok (.ifCond .ne 5, 3) := by decide +kernel
theorem dX6_type_11 : decode cX6_type 11 = .ok (.iconst (-1), 1) := by decide +kernel
theorem dX6_type_12 : decode cX6_type 12 = .ok (.ireturn, 1) := by decide +kernel
theorem dX6_type_13 : decode cX6_type 13 = .ok (.aload_n 0, 1) := by decide +kernel
theorem dX6_type_14 : decode cX6_type 14 = .ok (.getfield 10, 3) := by decide +kernel
theorem dX6_type_17 : decode cX6_type 17 = .ok (.iload_n 1, 1) := by decide +kernel
theorem dX6_type_18 : decode cX6_type 18 = .ok (.invokevirtual 66, 3) := by decide +kernel
theorem dX6_type_21 : decode cX6_type 21 = .ok (.ifCond .eq 13, 3) := by decide +kernel
theorem dX6_type_24 : decode cX6_type 24 = .ok (.aload_n 0, 1) := by decide +kernel
theorem dX6_type_25 : decode cX6_type 25 = .ok (.getfield 10, 3) := by decide +kernel
theorem dX6_type_28 : decode cX6_type 28 = .ok (.getfield 70, 3) := by decide +kernel
theorem dX6_type_31 : decode cX6_type 31 = .ok (.goto 5, 3) := by decide +kernel
theorem dX6_type_34 : decode cX6_type 34 = .ok (.bipush (-3), 2) := by decide +kernel
theorem dX6_type_36 : decode cX6_type 36 = .ok (.ireturn, 1) := by decide +kernel
theorem dX6_clear_0 : decode cX6_clear 0 = .ok (.aload_n 0, 1) := by decide +kernel
theorem dX6_clear_1 : decode cX6_clear 1 = .ok (.getfield 10, 3) := by decide +kernel
theorem dX6_clear_4 : decode cX6_clear 4 = .ok (.getfield 70, 3) := by decide +kernel
theorem dX6_clear_7 : decode cX6_clear 7 = .ok (.istore_n 1, 1) := by decide +kernel
theorem dX6_clear_8 : decode cX6_clear 8 = .ok (.aload_n 0, 1) := by decide +kernel
theorem dX6_clear_9 : decode cX6_clear 9 = .ok (.getfield 10, 3) := by decide +kernel
theorem dX6_clear_12 : decode cX6_clear 12 = .ok (.iconst 0, 1) := by decide +kernel
theorem dX6_clear_13 : decode cX6_clear 13 = .ok (.putfield 70, 3) := by decide +kernel
theorem dX6_clear_16 : decode cX6_clear 16 = .ok (.iload_n 1, 1) := by decide +kernel
theorem dX6_clear_17 : decode cX6_clear 17 = .ok (.ireturn, 1) := by decide +kernel
theorem dX6_tells_0 : decode cX6_tells 0 = .ok (.aload_n 0, 1) := by decide +kernel
theorem dX6_tells_1 : decode cX6_tells 1 = .ok (.getfield 10, 3) := by decide +kernel
theorem dX6_tells_4 : decode cX6_tells 4 = .ok (.aload_n 0, 1) := by decide +kernel
theorem dX6_tells_5 : decode cX6_tells 5 = .ok (.getfield 23, 3) := by decide +kernel
theorem dX6_tells_8 : decode cX6_tells 8 = .ok (.invokevirtual 74, 3) := by decide +kernel
theorem dX6_tells_11 : decode cX6_tells 11 = .ok (.istore_n 1, 1) := by decide +kernel
theorem dX6_tells_12 : decode cX6_tells 12 = .ok (.iload_n 1, 1) := by decide +kernel
theorem dX6_tells_13 : decode cX6_tells 13 = .ok (.ifCond .ge 5, 3) := by decide +kernel
theorem dX6_tells_16 : decode cX6_tells 16 = .ok (.iload_n 1, 1) := by decide +kernel
theorem dX6_tells_17 : decode cX6_tells 17 = .ok (.ireturn, 1) := by decide +kernel
theorem dX6_tells_18 : decode cX6_tells 18 = .ok (.aload_n 0, 1) := by decide +kernel
theorem dX6_tells_19 : decode cX6_tells 19 = .ok (.getfield 19, 3) := by decide +kernel
theorem dX6_tells_22 : decode cX6_tells 22 = .ok (.astore_n 2, 1) := by decide +kernel
theorem dX6_tells_23 : decode cX6_tells 23 = .ok (.aload_n 0, 1) := by decide +kernel
theorem dX6_tells_24 : decode cX6_tells 24 = .ok (.aload_n 0, 1) := by decide +kernel
theorem dX6_tells_25 : decode cX6_tells 25 = .ok (.getfield 23, 3) := by decide +kernel
theorem dX6_tells_28 : decode cX6_tells 28 = .ok (.putfield 19, 3) := by decide +kernel
theorem dX6_tells_31 : decode cX6_tells 31 = .ok (.aload_n 0, 1) := by decide +kernel
theorem dX6_tells_32 : decode cX6_tells 32 = .ok (.aload_n 2, 1) := by decide +kernel
theorem dX6_tells_33 : decode cX6_tells 33 = .ok (.putfield 23, 3) := by decide +kernel
theorem dX6_tells_36 : decode cX6_tells 36 = .ok (.aload_n 0, 1) := by decide +kernel
theorem dX6_tells_37 : decode cX6_tells 37 = .ok (.getfield 10, 3) := by decide +kernel
theorem dX6_tells_40 : decode cX6_tells 40 = .ok (.iconst 0, 1) := by decide +kernel
theorem dX6_tells_41 : decode cX6_tells 41 = .ok (.putfield 70, 3) := by decide +kernel
theorem dX6_tells_44 : decode cX6_tells 44 = .ok (.aload_n 0, 1) := by decide +kernel
theorem dX6_tells_45 : decode cX6_tells 45 = .ok (.getfield 29, 3) := by decide +kernel
theorem dX6_tells_48 : decode cX6_tells 48 = .ok (.aload_n 0, 1) := by decide +kernel
theorem dX6_tells_49 : decode cX6_tells 49 = .ok (.getfield 19, 3) := by decide +kernel
theorem dX6_tells_52 : decode cX6_tells 52 = .ok (.invokevirtual 58, 3) := by decide +kernel
theorem dX6_tells_55 : decode cX6_tells 55 = .ok (.aload_n 0, 1) := by decide +kernel
theorem dX6_tells_56 : decode cX6_tells 56 = .ok (.getfield 39, 3) := by decide +kernel
theorem dX6_tells_59 : decode cX6_tells 59 = .ok (.iconst 0, 1) := by decide +kernel
theorem dX6_tells_60 : decode cX6_tells 60 = .ok (.putfield 78, 3) := by decide +kernel
theorem dX6_tells_63 : decode cX6_tells 63 = .ok (.aload_n 0, 1) := by decide +kernel
theorem dX6_tells_64 : decode cX6_tells 64 = .ok (.getfield 54, 3) := by decide +kernel
theorem dX6_tells_67 : decode cX6_tells 67 = .ok (.iconst 0, 1) := by decide +kernel
theorem dX6_tells_68 : decode cX6_tells 68 = .ok (.putfield 81, 3) := by decide +kernel
theorem dX6_tells_71 : decode cX6_tells 71 = .ok (.iconst 0, 1) := by decide +kernel
theorem dX6_tells_72 : decode cX6_tells 72 = .ok (.istore_n 3, 1) := by decide +kernel
theorem dX6_tells_73 : decode cX6_tells 73 = .ok (.iload_n 3, 1) := by decide +kernel
theorem dX6_tells_74 : decode cX6_tells 74 = .ok (.iconst 2, 1) := by decide +kernel
theorem dX6_tells_75 : decode cX6_tells 75 = .ok (.if_icmp .ge 16, 3) := by decide +kernel
theorem dX6_tells_78 : decode cX6_tells 78 = .ok (.aload_n 0, 1) := by decide +kernel
theorem dX6_tells_79 : decode cX6_tells 79 = .ok (.getfield 47, 3) := by decide +kernel
theorem dX6_tells_82 : decode cX6_tells 82 = .ok (.iload_n 3, 1) := by decide +kernel
theorem dX6_tells_83 : decode cX6_tells 83 = .ok (.iconst 0, 1) := by decide +kernel
theorem dX6_tells_84 : decode cX6_tells 84 = .ok (.bastore, 1) := by decide +kernel
theorem dX6_tells_85 : decode cX6_tells 85 = .ok (.iinc 3 1, 3) := by decide +kernel
theorem dX6_tells_88 : decode cX6_tells 88 = .ok (.goto (-15), 3) := by decide +kernel
theorem dX6_tells_91 : decode cX6_tells 91 = .ok (.iload_n 1, 1) := by decide +kernel
theorem dX6_tells_92 : decode cX6_tells 92 = .ok (.ireturn, 1) := by decide +kernel
theorem dX6_ticks_0 : decode cX6_ticks 0 = .ok (.iload_n 1, 1) := by decide +kernel
theorem dX6_ticks_1 : decode cX6_ticks 1 = .ok (.iconst 1, 1) := by decide +kernel
theorem dX6_ticks_2 : decode cX6_ticks 2 = .ok (.bipush 60, 2) := by decide +kernel
theorem dX6_ticks_4 : decode cX6_ticks 4 = .ok (.invokestatic 62, 3) := by decide +kernel
theorem dX6_ticks_7 : decode cX6_ticks 7 = .ok (.ifCond .ne 5, 3) := by decide +kernel
theorem dX6_ticks_10 : decode cX6_ticks 10 = .ok (.iconst (-1), 1) := by decide +kernel
theorem dX6_ticks_11 : decode cX6_ticks 11 = .ok (.ireturn, 1) := by decide +kernel
theorem dX6_ticks_12 : decode cX6_ticks 12 = .ok (.aload_n 0, 1) := by decide +kernel
theorem dX6_ticks_13 : decode cX6_ticks 13 = .ok (.getfield 29, 3) := by decide +kernel
theorem dX6_ticks_16 : decode cX6_ticks 16 = .ok (.getfield 82, 3) := by decide +kernel
theorem dX6_ticks_19 : decode cX6_ticks 19 = .ok (.ifCond .ne 6, 3) := by decide +kernel
theorem dX6_ticks_22 : decode cX6_ticks 22 = .ok (.bipush (-2), 2) := by decide +kernel
theorem dX6_ticks_24 : decode cX6_ticks 24 = .ok (.ireturn, 1) := by decide +kernel
theorem dX6_ticks_25 : decode cX6_ticks 25 = .ok (.aload_n 0, 1) := by decide +kernel
theorem dX6_ticks_26 : decode cX6_ticks 26 = .ok (.getfield 29, 3) := by decide +kernel
theorem dX6_ticks_29 : decode cX6_ticks 29 = .ok (.getfield 86, 3) := by decide +kernel
theorem dX6_ticks_32 : decode cX6_ticks 32 = .ok (.iload_n 1, 1) := by decide +kernel
theorem dX6_ticks_33 : decode cX6_ticks 33 = .ok (.iadd, 1) := by decide +kernel
theorem dX6_ticks_34 : decode cX6_ticks 34 = .ok (.sipush 9999, 3) := by decide +kernel
theorem dX6_ticks_37 : decode cX6_ticks 37 = .ok (.if_icmp .le 6, 3) := by decide +kernel
theorem dX6_ticks_40 : decode cX6_ticks 40 = .ok (.bipush (-3), 2) := by decide +kernel
theorem dX6_ticks_42 : decode cX6_ticks 42 = .ok (.ireturn, 1) := by decide +kernel
theorem dX6_ticks_43 : decode cX6_ticks 43 = .ok (.aload_n 0, 1) := by decide +kernel
theorem dX6_ticks_44 : decode cX6_ticks 44 = .ok (.getfield 39, 3) := by decide +kernel
theorem dX6_ticks_47 : decode cX6_ticks 47 = .ok (.aload_n 0, 1) := by decide +kernel
theorem dX6_ticks_48 : decode cX6_ticks 48 = .ok (.getfield 29, 3) := by decide +kernel
theorem dX6_ticks_51 : decode cX6_ticks 51 = .ok (.invokevirtual 89, 3) := by decide +kernel
theorem dX6_ticks_54 : decode cX6_ticks 54 = .ok (.aload_n 0, 1) := by decide +kernel
theorem dX6_ticks_55 : decode cX6_ticks 55 = .ok (.getfield 29, 3) := by decide +kernel
theorem dX6_ticks_58 : decode cX6_ticks 58 = .ok (.getfield 93, 3) := by decide +kernel
theorem dX6_ticks_61 : decode cX6_ticks 61 = .ok (.istore_n 2, 1) := by decide +kernel
theorem dX6_ticks_62 : decode cX6_ticks 62 = .ok (.iconst 0, 1) := by decide +kernel
theorem dX6_ticks_63 : decode cX6_ticks 63 = .ok (.istore_n 3, 1) := by decide +kernel
theorem dX6_ticks_64 : decode cX6_ticks 64 = .ok (.iload_n 3, 1) := by decide +kernel
theorem dX6_ticks_65 : decode cX6_ticks 65 = .ok (.iload_n 1, 1) := by decide +kernel
theorem dX6_ticks_66 : decode cX6_ticks 66 = .ok (.if_icmp .ge 31, 3) := by decide +kernel
theorem dX6_ticks_69 : decode cX6_ticks 69 = .ok (.aload_n 0, 1) := by decide +kernel
theorem dX6_ticks_70 : decode cX6_ticks 70 = .ok (.getfield 29, 3) := by decide +kernel
theorem dX6_ticks_73 : decode cX6_ticks 73 = .ok (.getfield 82, 3) := by decide +kernel
theorem dX6_ticks_76 : decode cX6_ticks 76 = .ok (.ifCond .eq 21, 3) := by decide +kernel
theorem dX6_ticks_79 : decode cX6_ticks 79 = .ok (.aload_n 0, 1) := by decide +kernel
theorem dX6_ticks_80 : decode cX6_ticks 80 = .ok (.getfield 29, 3) := by decide +kernel
theorem dX6_ticks_83 : decode cX6_ticks 83 = .ok (.aload_n 0, 1) := by decide +kernel
theorem dX6_ticks_84 : decode cX6_ticks 84 = .ok (.getfield 19, 3) := by decide +kernel
theorem dX6_ticks_87 : decode cX6_ticks 87 = .ok (.invokevirtual 96, 3) := by decide +kernel
theorem dX6_ticks_90 : decode cX6_ticks 90 = .ok (.pop, 1) := by decide +kernel
theorem dX6_ticks_91 : decode cX6_ticks 91 = .ok (.iinc 3 1, 3) := by decide +kernel
theorem dX6_ticks_94 : decode cX6_ticks 94 = .ok (.goto (-30), 3) := by decide +kernel
theorem dX6_ticks_97 : decode cX6_ticks 97 = .ok (.aload_n 0, 1) := by decide +kernel
theorem dX6_ticks_98 : decode cX6_ticks 98 = .ok (.getfield 29, 3) := by decide +kernel
theorem dX6_ticks_101 : decode cX6_ticks 101 = .ok (.getfield 93, 3) := by decide +kernel
theorem dX6_ticks_104 : decode cX6_ticks 104 = .ok (.iload_n 2, 1) := by decide +kernel
theorem dX6_ticks_105 : decode cX6_ticks 105 = .ok (.isub, 1) := by decide +kernel
theorem dX6_ticks_106 : decode cX6_ticks 106 = .ok (.ireturn, 1) := by decide +kernel
theorem dX6_drifts_0 : decode cX6_drifts 0 = .ok (.aload_n 0, 1) := by decide +kernel
theorem dX6_drifts_1 : decode cX6_drifts 1 = .ok (.getfield 19, 3) := by decide +kernel
theorem dX6_drifts_4 : decode cX6_drifts 4 = .ok (.iload_n 1, 1) := by decide +kernel
theorem dX6_drifts_5 : decode cX6_drifts 5 = .ok (.invokevirtual 100, 3) := by decide +kernel
theorem dX6_drifts_8 : decode cX6_drifts 8 = .ok (.ifCond .eq 14, 3) := by decide +kernel
theorem dX6_drifts_11 : decode cX6_drifts 11 = .ok (.iload_n 2, 1) := by decide +kernel
theorem dX6_drifts_12 : decode cX6_drifts 12 = .ok (.bipush (-20), 2) := by decide +kernel
theorem dX6_drifts_14 : decode cX6_drifts 14 = .ok (.bipush 20, 2) := by decide +kernel
theorem dX6_drifts_16 : decode cX6_drifts 16 = .ok (.invokestatic 62, 3) := by decide +kernel
theorem dX6_drifts_19 : decode cX6_drifts 19 = .ok (.ifCond .ne 5, 3) := by decide +kernel
theorem dX6_drifts_22 : decode cX6_drifts 22 = .ok (.iconst (-1), 1) := by decide +kernel
theorem dX6_drifts_23 : decode cX6_drifts 23 = .ok (.ireturn, 1) := by decide +kernel
theorem dX6_drifts_24 : decode cX6_drifts 24 = .ok (.aload_n 0, 1) := by decide +kernel
theorem dX6_drifts_25 : decode cX6_drifts 25 = .ok (.getfield 29, 3) := by decide +kernel
theorem dX6_drifts_28 : decode cX6_drifts 28 = .ok (.getfield 103, 3) := by decide +kernel
theorem dX6_drifts_31 : decode cX6_drifts 31 = .ok (.iload_n 1, 1) := by decide +kernel
theorem dX6_drifts_32 : decode cX6_drifts 32 = .ok (.iaload, 1) := by decide +kernel
theorem dX6_drifts_33 : decode cX6_drifts 33 = .ok (.iload_n 2, 1) := by decide +kernel
theorem dX6_drifts_34 : decode cX6_drifts 34 = .ok (.if_icmp .ne 6, 3) := by decide +kernel
theorem dX6_drifts_37 : decode cX6_drifts 37 = .ok (.bipush (-2), 2) := by decide +kernel
theorem dX6_drifts_39 : decode cX6_drifts 39 = .ok (.ireturn, 1) := by decide +kernel
theorem dX6_drifts_40 : decode cX6_drifts 40 = .ok (.aload_n 0, 1) := by decide +kernel
theorem dX6_drifts_41 : decode cX6_drifts 41 = .ok (.getfield 39, 3) := by decide +kernel
theorem dX6_drifts_44 : decode cX6_drifts 44 = .ok (.aload_n 0, 1) := by decide +kernel
theorem dX6_drifts_45 : decode cX6_drifts 45 = .ok (.getfield 29, 3) := by decide +kernel
theorem dX6_drifts_48 : decode cX6_drifts 48 = .ok (.invokevirtual 89, 3) := by decide +kernel
theorem dX6_drifts_51 : decode cX6_drifts 51 = .ok (.aload_n 0, 1) := by decide +kernel
theorem dX6_drifts_52 : decode cX6_drifts 52 = .ok (.getfield 29, 3) := by decide +kernel
theorem dX6_drifts_55 : decode cX6_drifts 55 = .ok (.getfield 103, 3) := by decide +kernel
theorem dX6_drifts_58 : decode cX6_drifts 58 = .ok (.iload_n 1, 1) := by decide +kernel
theorem dX6_drifts_59 : decode cX6_drifts 59 = .ok (.iload_n 2, 1) := by decide +kernel
theorem dX6_drifts_60 : decode cX6_drifts 60 = .ok (.iastore, 1) := by decide +kernel
theorem dX6_drifts_61 : decode cX6_drifts 61 = .ok (.iconst 1, 1) := by decide +kernel
theorem dX6_drifts_62 : decode cX6_drifts 62 = .ok (.ireturn, 1) := by decide +kernel
theorem dX6_corrects_0 : decode cX6_corrects 0 = .ok (.aload_n 0, 1) := by decide +kernel
theorem dX6_corrects_1 : decode cX6_corrects 1 = .ok (.getfield 19, 3) := by decide +kernel
theorem dX6_corrects_4 : decode cX6_corrects 4 = .ok (.iload_n 1, 1) := by decide +kernel
theorem dX6_corrects_5 : decode cX6_corrects 5 = .ok (.invokevirtual 100, 3) := by decide +kernel
theorem dX6_corrects_8 : decode cX6_corrects 8 = .ok (.ifCond .eq 18, 3) := by decide +kernel
theorem dX6_corrects_11 : decode cX6_corrects 11 = .ok (.iload_n 2, 1) := by decide +kernel
theorem dX6_corrects_12 : decode cX6_corrects 12 = .ok (.bipush (-20), 2) := by decide +kernel
theorem dX6_corrects_14 : decode cX6_corrects 14 = .ok (.bipush 20, 2) := by decide +kernel
theorem dX6_corrects_16 : decode cX6_corrects 16 = .ok (.invokestatic 62, 3) := by decide +kernel
theorem dX6_corrects_19 : decode cX6_corrects 19 = .ok (.ifCond .eq 7, 3) := by decide +kernel
theorem dX6_corrects_22 : decode cX6_corrects 22 = .ok (.iload_n 2, 1) := by decide +kernel
theorem dX6_corrects_23 : decode cX6_corrects 23 = .ok (.ifCond .ne 5, 3) := by decide +kernel
theorem dX6_corrects_26 : decode cX6_corrects 26 = .ok (.iconst (-1), 1) := by decide +kernel
theorem dX6_corrects_27 : decode cX6_corrects 27 = .ok (.ireturn, 1) := by decide +kernel
theorem dX6_corrects_28 : decode cX6_corrects 28 = .ok (.aload_n 0, 1) := by decide +kernel
theorem dX6_corrects_29 : decode cX6_corrects 29 = .ok (.getfield 39, 3) := by decide +kernel
theorem dX6_corrects_32 : decode cX6_corrects 32 = .ok (.aload_n 0, 1) := by decide +kernel
theorem dX6_corrects_33 : decode cX6_corrects 33 = .ok (.getfield 29, 3) := by decide +kernel
theorem dX6_corrects_36 : decode cX6_corrects 36 = .ok (.invokevirtual 89, 3) := by decide +kernel
theorem dX6_corrects_39 : decode cX6_corrects 39 = .ok (.aload_n 0, 1) := by decide +kernel
theorem dX6_corrects_40 : decode cX6_corrects 40 = .ok (.getfield 29, 3) := by decide +kernel
theorem dX6_corrects_43 : decode cX6_corrects 43 = .ok (.aload_n 0, 1) := by decide +kernel
theorem dX6_corrects_44 : decode cX6_corrects 44 = .ok (.getfield 19, 3) := by decide +kernel
theorem dX6_corrects_47 : decode cX6_corrects 47 = .ok (.iload_n 1, 1) := by decide +kernel
theorem dX6_corrects_48 : decode cX6_corrects 48 = .ok (.iload_n 2, 1) := by decide +kernel
theorem dX6_corrects_49 : decode cX6_corrects 49 = .ok (.invokevirtual 107, 3) := by decide +kernel
theorem dX6_corrects_52 : decode cX6_corrects 52 = .ok (.aload_n 0, 1) := by decide +kernel
theorem dX6_corrects_53 : decode cX6_corrects 53 = .ok (.getfield 29, 3) := by decide +kernel
theorem dX6_corrects_56 : decode cX6_corrects 56 = .ok (.getfield 111, 3) := by decide +kernel
theorem dX6_corrects_59 : decode cX6_corrects 59 = .ok (.iload_n 1, 1) := by decide +kernel
theorem dX6_corrects_60 : decode cX6_corrects 60 = .ok (.iaload, 1) := by decide +kernel
theorem dX6_corrects_61 : decode cX6_corrects 61 = .ok (.ireturn, 1) := by decide +kernel
theorem dX6_spins_0 : decode cX6_spins 0 = .ok (.aload_n 0, 1) := by decide +kernel
theorem dX6_spins_1 : decode cX6_spins 1 = .ok (.getfield 29, 3) := by decide +kernel
theorem dX6_spins_4 : decode cX6_spins 4 = .ok (.aload_n 0, 1) := by decide +kernel
theorem dX6_spins_5 : decode cX6_spins 5 = .ok (.getfield 19, 3) := by decide +kernel
theorem dX6_spins_8 : decode cX6_spins 8 = .ok (.invokevirtual 114, 3) := by decide +kernel
theorem dX6_spins_11 : decode cX6_spins 11 = .ok (.istore_n 1, 1) := by decide +kernel
theorem dX6_spins_12 : decode cX6_spins 12 = .ok (.aload_n 0, 1) := by decide +kernel
theorem dX6_spins_13 : decode cX6_spins 13 = .ok (.getfield 29, 3) := by decide +kernel
theorem dX6_spins_16 : decode cX6_spins 16 = .ok (.getfield 82, 3) := by decide +kernel
theorem dX6_spins_19 : decode cX6_spins 19 = .ok (.ifCond .eq 19, 3) := by decide +kernel
theorem dX6_spins_22 : decode cX6_spins 22 = .ok (.iload_n 1, 1) := by decide +kernel
theorem dX6_spins_23 : decode cX6_spins 23 = .ok (.bipush (-9), 2) := by decide +kernel
theorem dX6_spins_25 : decode cX6_spins 25 = .ok (.if_icmp .eq 13, 3) := by decide +kernel
theorem dX6_spins_28 : decode cX6_spins 28 = .ok (.aload_n 0, 1) := by decide +kernel
theorem dX6_spins_29 : decode cX6_spins 29 = .ok (.getfield 29, 3) := by decide +kernel
theorem dX6_spins_32 : decode cX6_spins 32 = .ok (.getfield 117, 3) := by decide +kernel
theorem dX6_spins_35 : decode cX6_spins 35 = .ok (.ifCond .le 6, 3) := by decide +kernel
theorem dX6_spins_38 : decode cX6_spins 38 = .ok (.bipush (-2), 2) := by decide +kernel
theorem dX6_spins_40 : decode cX6_spins 40 = .ok (.ireturn, 1) := by decide +kernel
theorem dX6_spins_41 : decode cX6_spins 41 = .ok (.aload_n 0, 1) := by decide +kernel
theorem dX6_spins_42 : decode cX6_spins 42 = .ok (.getfield 39, 3) := by decide +kernel
theorem dX6_spins_45 : decode cX6_spins 45 = .ok (.aload_n 0, 1) := by decide +kernel
theorem dX6_spins_46 : decode cX6_spins 46 = .ok (.getfield 29, 3) := by decide +kernel
theorem dX6_spins_49 : decode cX6_spins 49 = .ok (.invokevirtual 89, 3) := by decide +kernel
theorem dX6_spins_52 : decode cX6_spins 52 = .ok (.aload_n 0, 1) := by decide +kernel
theorem dX6_spins_53 : decode cX6_spins 53 = .ok (.getfield 29, 3) := by decide +kernel
theorem dX6_spins_56 : decode cX6_spins 56 = .ok (.iconst 1, 1) := by decide +kernel
theorem dX6_spins_57 : decode cX6_spins 57 = .ok (.putfield 117, 3) := by decide +kernel
theorem dX6_spins_60 : decode cX6_spins 60 = .ok (.iload_n 1, 1) := by decide +kernel
theorem dX6_spins_61 : decode cX6_spins 61 = .ok (.ireturn, 1) := by decide +kernel
theorem dX6_starts_0 : decode cX6_starts 0 = .ok (.aload_n 0, 1) := by decide +kernel
theorem dX6_starts_1 : decode cX6_starts 1 = .ok (.getfield 29, 3) := by decide +kernel
theorem dX6_starts_4 : decode cX6_starts 4 = .ok (.getfield 82, 3) := by decide +kernel
theorem dX6_starts_7 : decode cX6_starts 7 = .ok (.ifCond .ne 19, 3) := by decide +kernel
theorem dX6_starts_10 : decode cX6_starts 10 = .ok (.aload_n 0, 1) := by decide +kernel
theorem dX6_starts_11 : decode cX6_starts 11 = .ok (.getfield 29, 3) := by decide +kernel
theorem dX6_starts_14 : decode cX6_starts 14 = .ok (.aload_n 0, 1) := by decide +kernel
theorem dX6_starts_15 : decode cX6_starts 15 = .ok (.getfield 19, 3) := by decide +kernel
theorem dX6_starts_18 : decode cX6_starts 18 = .ok (.invokevirtual 114, 3) := by decide +kernel
theorem dX6_starts_21 : decode cX6_starts 21 = .ok (.bipush (-9), 2) := by decide +kernel
theorem dX6_starts_23 : decode cX6_starts 23 = .ok (.if_icmp .ne 6, 3) := by decide +kernel
theorem dX6_starts_26 : decode cX6_starts 26 = .ok (.bipush (-2), 2) := by decide +kernel
theorem dX6_starts_28 : decode cX6_starts 28 = .ok (.ireturn, 1) := by decide +kernel
theorem dX6_starts_29 : decode cX6_starts 29 = .ok (.aload_n 0, 1) := by decide +kernel
theorem dX6_starts_30 : decode cX6_starts 30 = .ok (.getfield 39, 3) := by decide +kernel
theorem dX6_starts_33 : decode cX6_starts 33 = .ok (.aload_n 0, 1) := by decide +kernel
theorem dX6_starts_34 : decode cX6_starts 34 = .ok (.getfield 29, 3) := by decide +kernel
theorem dX6_starts_37 : decode cX6_starts 37 = .ok (.invokevirtual 89, 3) := by decide +kernel
theorem dX6_starts_40 : decode cX6_starts 40 = .ok (.aload_n 0, 1) := by decide +kernel
theorem dX6_starts_41 : decode cX6_starts 41 = .ok (.getfield 29, 3) := by decide +kernel
theorem dX6_starts_44 : decode cX6_starts 44 = .ok (.aload_n 0, 1) := by decide +kernel
theorem dX6_starts_45 : decode cX6_starts 45 = .ok (.getfield 19, 3) := by decide +kernel
theorem dX6_starts_48 : decode cX6_starts 48 = .ok (.invokevirtual 120, 3) := by decide +kernel
theorem dX6_starts_51 : decode cX6_starts 51 = .ok (.aload_n 0, 1) := by decide +kernel
theorem dX6_starts_52 : decode cX6_starts 52 = .ok (.getfield 29, 3) := by decide +kernel
theorem dX6_starts_55 : decode cX6_starts 55 = .ok (.getfield 123, 3) := by decide +kernel
theorem dX6_starts_58 : decode cX6_starts 58 = .ok (.ireturn, 1) := by decide +kernel
theorem dX6_aheads_0 : decode cX6_aheads 0 = .ok (.iload_n 1, 1) := by decide +kernel
theorem dX6_aheads_1 : decode cX6_aheads 1 = .ok (.iconst 0, 1) := by decide +kernel
theorem dX6_aheads_2 : decode cX6_aheads 2 = .ok (.iconst 1, 1) := by decide +kernel
theorem dX6_aheads_3 : decode cX6_aheads 3 = .ok (.invokestatic 62, 3) := by decide +kernel
theorem dX6_aheads_6 : decode cX6_aheads 6 = .ok (.ifCond .ne 5, 3) := by decide +kernel
theorem dX6_aheads_9 : decode cX6_aheads 9 = .ok (.iconst (-1), 1) := by decide +kernel
theorem dX6_aheads_10 : decode cX6_aheads 10 = .ok (.ireturn, 1) := by decide +kernel
theorem dX6_aheads_11 : decode cX6_aheads 11 = .ok (.aload_n 0, 1) := by decide +kernel
theorem dX6_aheads_12 : decode cX6_aheads 12 = .ok (.getfield 29, 3) := by decide +kernel
theorem dX6_aheads_15 : decode cX6_aheads 15 = .ok (.getfield 126, 3) := by decide +kernel
theorem dX6_aheads_18 : decode cX6_aheads 18 = .ok (.iload_n 1, 1) := by decide +kernel
theorem dX6_aheads_19 : decode cX6_aheads 19 = .ok (.iconst 1, 1) := by decide +kernel
theorem dX6_aheads_20 : decode cX6_aheads 20 = .ok (.if_icmp .ne 7, 3) := by decide +kernel
theorem dX6_aheads_23 : decode cX6_aheads 23 = .ok (.iconst 1, 1) := by decide +kernel
theorem dX6_aheads_24 : decode cX6_aheads 24 = .ok (.goto 4, 3) := by decide +kernel
theorem dX6_aheads_27 : decode cX6_aheads 27 = .ok (.iconst 0, 1) := by decide +kernel
theorem dX6_aheads_28 : decode cX6_aheads 28 = .ok (.if_icmp .ne 6, 3) := by decide +kernel
theorem dX6_aheads_31 : decode cX6_aheads 31 = .ok (.bipush (-2), 2) := by decide +kernel
theorem dX6_aheads_33 : decode cX6_aheads 33 = .ok (.ireturn, 1) := by decide +kernel
theorem dX6_aheads_34 : decode cX6_aheads 34 = .ok (.aload_n 0, 1) := by decide +kernel
theorem dX6_aheads_35 : decode cX6_aheads 35 = .ok (.getfield 39, 3) := by decide +kernel
theorem dX6_aheads_38 : decode cX6_aheads 38 = .ok (.aload_n 0, 1) := by decide +kernel
theorem dX6_aheads_39 : decode cX6_aheads 39 = .ok (.getfield 29, 3) := by decide +kernel
theorem dX6_aheads_42 : decode cX6_aheads 42 = .ok (.invokevirtual 89, 3) := by decide +kernel
theorem dX6_aheads_45 : decode cX6_aheads 45 = .ok (.aload_n 0, 1) := by decide +kernel
theorem dX6_aheads_46 : decode cX6_aheads 46 = .ok (.getfield 29, 3) := by decide +kernel
theorem dX6_aheads_49 : decode cX6_aheads 49 = .ok (.iload_n 1, 1) := by decide +kernel
theorem dX6_aheads_50 : decode cX6_aheads 50 = .ok (.iconst 1, 1) := by decide +kernel
theorem dX6_aheads_51 : decode cX6_aheads 51 = .ok (.if_icmp .ne 7, 3) := by decide +kernel
theorem dX6_aheads_54 : decode cX6_aheads 54 = .ok (.iconst 1, 1) := by decide +kernel
theorem dX6_aheads_55 : decode cX6_aheads 55 = .ok (.goto 4, 3) := by decide +kernel
theorem dX6_aheads_58 : decode cX6_aheads 58 = .ok (.iconst 0, 1) := by decide +kernel
theorem dX6_aheads_59 : decode cX6_aheads 59 = .ok (.putfield 126, 3) := by decide +kernel
theorem dX6_aheads_62 : decode cX6_aheads 62 = .ok (.iconst 1, 1) := by decide +kernel
theorem dX6_aheads_63 : decode cX6_aheads 63 = .ok (.ireturn, 1) := by decide +kernel
theorem dX6_undo_0 : decode cX6_undo 0 = .ok (.aload_n 0, 1) := by decide +kernel
theorem dX6_undo_1 : decode cX6_undo 1 = .ok (.getfield 39, 3) := by decide +kernel
theorem dX6_undo_4 : decode cX6_undo 4 = .ok (.getfield 78, 3) := by decide +kernel
theorem dX6_undo_7 : decode cX6_undo 7 = .ok (.ifCond .ne 6, 3) := by decide +kernel
theorem dX6_undo_10 : decode cX6_undo 10 = .ok (.bipush (-2), 2) := by decide +kernel
theorem dX6_undo_12 : decode cX6_undo 12 = .ok (.ireturn, 1) := by decide +kernel
theorem dX6_undo_13 : decode cX6_undo 13 = .ok (.aload_n 0, 1) := by decide +kernel
theorem dX6_undo_14 : decode cX6_undo 14 = .ok (.getfield 39, 3) := by decide +kernel
theorem dX6_undo_17 : decode cX6_undo 17 = .ok (.aload_n 0, 1) := by decide +kernel
theorem dX6_undo_18 : decode cX6_undo 18 = .ok (.getfield 29, 3) := by decide +kernel
theorem dX6_undo_21 : decode cX6_undo 21 = .ok (.invokevirtual 129, 3) := by decide +kernel
theorem dX6_undo_24 : decode cX6_undo 24 = .ok (.aload_n 0, 1) := by decide +kernel
theorem dX6_undo_25 : decode cX6_undo 25 = .ok (.getfield 39, 3) := by decide +kernel
theorem dX6_undo_28 : decode cX6_undo 28 = .ok (.getfield 78, 3) := by decide +kernel
theorem dX6_undo_31 : decode cX6_undo 31 = .ok (.ireturn, 1) := by decide +kernel
theorem dX6_unit_0 : decode cX6_unit 0 = .ok (.aload_n 0, 1) := by decide +kernel
theorem dX6_unit_1 : decode cX6_unit 1 = .ok (.getfield 19, 3) := by decide +kernel
theorem dX6_unit_4 : decode cX6_unit 4 = .ok (.iload_n 1, 1) := by decide +kernel
theorem dX6_unit_5 : decode cX6_unit 5 = .ok (.invokevirtual 132, 3) := by decide +kernel
theorem dX6_unit_8 : decode cX6_unit 8 = .ok (.ifCond .ne 6, 3) := by decide +kernel
theorem dX6_unit_11 : decode cX6_unit 11 = .ok (.ldc 135, 2) := by decide +kernel
theorem dX6_unit_13 : decode cX6_unit 13 = .ok (.ireturn, 1) := by decide +kernel
theorem dX6_unit_14 : decode cX6_unit 14 = .ok (.iload_n 2, 1) := by decide +kernel
theorem dX6_unit_15 : decode cX6_unit 15 = .ok (.tableswitch 96 0 5 #[37, 47, 57, 67, 77, 87], 37) := by decide +kernel
theorem dX6_unit_52 : decode cX6_unit 52 = .ok (.aload_n 0, 1) := by decide +kernel
theorem dX6_unit_53 : decode cX6_unit 53 = .ok (.getfield 19, 3) := by decide +kernel
theorem dX6_unit_56 : decode cX6_unit 56 = .ok (.getfield 136, 3) := by decide +kernel
theorem dX6_unit_59 : decode cX6_unit 59 = .ok (.iload_n 1, 1) := by decide +kernel
theorem dX6_unit_60 : decode cX6_unit 60 = .ok (.iaload, 1) := by decide +kernel
theorem dX6_unit_61 : decode cX6_unit 61 = .ok (.ireturn, 1) := by decide +kernel
theorem dX6_unit_62 : decode cX6_unit 62 = .ok (.aload_n 0, 1) := by decide +kernel
theorem dX6_unit_63 : decode cX6_unit 63 = .ok (.getfield 19, 3) := by decide +kernel
theorem dX6_unit_66 : decode cX6_unit 66 = .ok (.getfield 139, 3) := by decide +kernel
theorem dX6_unit_69 : decode cX6_unit 69 = .ok (.iload_n 1, 1) := by decide +kernel
theorem dX6_unit_70 : decode cX6_unit 70 = .ok (.iaload, 1) := by decide +kernel
theorem dX6_unit_71 : decode cX6_unit 71 = .ok (.ireturn, 1) := by decide +kernel
theorem dX6_unit_72 : decode cX6_unit 72 = .ok (.aload_n 0, 1) := by decide +kernel
theorem dX6_unit_73 : decode cX6_unit 73 = .ok (.getfield 29, 3) := by decide +kernel
theorem dX6_unit_76 : decode cX6_unit 76 = .ok (.getfield 103, 3) := by decide +kernel
theorem dX6_unit_79 : decode cX6_unit 79 = .ok (.iload_n 1, 1) := by decide +kernel
theorem dX6_unit_80 : decode cX6_unit 80 = .ok (.iaload, 1) := by decide +kernel
theorem dX6_unit_81 : decode cX6_unit 81 = .ok (.ireturn, 1) := by decide +kernel
theorem dX6_unit_82 : decode cX6_unit 82 = .ok (.aload_n 0, 1) := by decide +kernel
theorem dX6_unit_83 : decode cX6_unit 83 = .ok (.getfield 29, 3) := by decide +kernel
theorem dX6_unit_86 : decode cX6_unit 86 = .ok (.getfield 142, 3) := by decide +kernel
theorem dX6_unit_89 : decode cX6_unit 89 = .ok (.iload_n 1, 1) := by decide +kernel
theorem dX6_unit_90 : decode cX6_unit 90 = .ok (.iaload, 1) := by decide +kernel
theorem dX6_unit_91 : decode cX6_unit 91 = .ok (.ireturn, 1) := by decide +kernel
theorem dX6_unit_92 : decode cX6_unit 92 = .ok (.aload_n 0, 1) := by decide +kernel
theorem dX6_unit_93 : decode cX6_unit 93 = .ok (.getfield 29, 3) := by decide +kernel
theorem dX6_unit_96 : decode cX6_unit 96 = .ok (.getfield 111, 3) := by decide +kernel
theorem dX6_unit_99 : decode cX6_unit 99 = .ok (.iload_n 1, 1) := by decide +kernel
theorem dX6_unit_100 : decode cX6_unit 100 = .ok (.iaload, 1) := by decide +kernel
theorem dX6_unit_101 : decode cX6_unit 101 = .ok (.ireturn, 1) := by decide +kernel
theorem dX6_unit_102 : decode cX6_unit 102 = .ok (.aload_n 0, 1) := by decide +kernel
theorem dX6_unit_103 : decode cX6_unit 103 = .ok (.getfield 29, 3) := by decide +kernel
theorem dX6_unit_106 : decode cX6_unit 106 = .ok (.iload_n 1, 1) := by decide +kernel
theorem dX6_unit_107 : decode cX6_unit 107 = .ok (.invokevirtual 145, 3) := by decide +kernel
theorem dX6_unit_110 : decode cX6_unit 110 = .ok (.ireturn, 1) := by decide +kernel
theorem dX6_unit_111 : decode cX6_unit 111 = .ok (.ldc 135, 2) := by decide +kernel
theorem dX6_unit_113 : decode cX6_unit 113 = .ok (.ireturn, 1) := by decide +kernel
theorem dX6_reel_0 : decode cX6_reel 0 = .ok (.aload_n 0, 1) := by decide +kernel
theorem dX6_reel_1 : decode cX6_reel 1 = .ok (.getfield 19, 3) := by decide +kernel
theorem dX6_reel_4 : decode cX6_reel 4 = .ok (.iload_n 1, 1) := by decide +kernel
theorem dX6_reel_5 : decode cX6_reel 5 = .ok (.invokevirtual 149, 3) := by decide +kernel
theorem dX6_reel_8 : decode cX6_reel 8 = .ok (.ifCond .ne 6, 3) := by decide +kernel
theorem dX6_reel_11 : decode cX6_reel 11 = .ok (.ldc 135, 2) := by decide +kernel
theorem dX6_reel_13 : decode cX6_reel 13 = .ok (.ireturn, 1) := by decide +kernel
theorem dX6_reel_14 : decode cX6_reel 14 = .ok (.iload_n 2, 1) := by decide +kernel
theorem dX6_reel_15 : decode cX6_reel 15 = .ok (.tableswitch 58 0 2 #[25, 35, 45], 25) := by decide +kernel
theorem dX6_reel_40 : decode cX6_reel 40 = .ok (.aload_n 0, 1) := by decide +kernel
theorem dX6_reel_41 : decode cX6_reel 41 = .ok (.getfield 19, 3) := by decide +kernel
theorem dX6_reel_44 : decode cX6_reel 44 = .ok (.getfield 152, 3) := by decide +kernel
theorem dX6_reel_47 : decode cX6_reel 47 = .ok (.iload_n 1, 1) := by decide +kernel
theorem dX6_reel_48 : decode cX6_reel 48 = .ok (.iaload, 1) := by decide +kernel
theorem dX6_reel_49 : decode cX6_reel 49 = .ok (.ireturn, 1) := by decide +kernel
theorem dX6_reel_50 : decode cX6_reel 50 = .ok (.aload_n 0, 1) := by decide +kernel
theorem dX6_reel_51 : decode cX6_reel 51 = .ok (.getfield 19, 3) := by decide +kernel
theorem dX6_reel_54 : decode cX6_reel 54 = .ok (.getfield 155, 3) := by decide +kernel
theorem dX6_reel_57 : decode cX6_reel 57 = .ok (.iload_n 1, 1) := by decide +kernel
theorem dX6_reel_58 : decode cX6_reel 58 = .ok (.iaload, 1) := by decide +kernel
theorem dX6_reel_59 : decode cX6_reel 59 = .ok (.ireturn, 1) := by decide +kernel
theorem dX6_reel_60 : decode cX6_reel 60 = .ok (.aload_n 0, 1) := by decide +kernel
theorem dX6_reel_61 : decode cX6_reel 61 = .ok (.getfield 29, 3) := by decide +kernel
theorem dX6_reel_64 : decode cX6_reel 64 = .ok (.aload_n 0, 1) := by decide +kernel
theorem dX6_reel_65 : decode cX6_reel 65 = .ok (.getfield 19, 3) := by decide +kernel
theorem dX6_reel_68 : decode cX6_reel 68 = .ok (.iload_n 1, 1) := by decide +kernel
theorem dX6_reel_69 : decode cX6_reel 69 = .ok (.invokevirtual 158, 3) := by decide +kernel
theorem dX6_reel_72 : decode cX6_reel 72 = .ok (.ireturn, 1) := by decide +kernel
theorem dX6_reel_73 : decode cX6_reel 73 = .ok (.ldc 135, 2) := by decide +kernel
theorem dX6_reel_75 : decode cX6_reel 75 = .ok (.ireturn, 1) := by decide +kernel
theorem dX6_last_0 : decode cX6_last 0 = .ok (.iload_n 1, 1) := by decide +kernel
theorem dX6_last_1 : decode cX6_last 1 = .ok (.iconst 0, 1) := by decide +kernel
theorem dX6_last_2 : decode cX6_last 2 = .ok (.bipush 6, 2) := by decide +kernel
theorem dX6_last_4 : decode cX6_last 4 = .ok (.invokestatic 62, 3) := by decide +kernel
theorem dX6_last_7 : decode cX6_last 7 = .ok (.ifCond .ne 6, 3) := by decide +kernel
theorem dX6_last_10 : decode cX6_last 10 = .ok (.ldc 135, 2) := by decide +kernel
theorem dX6_last_12 : decode cX6_last 12 = .ok (.ireturn, 1) := by decide +kernel
theorem dX6_last_13 : decode cX6_last 13 = .ok (.aload_n 0, 1) := by decide +kernel
theorem dX6_last_14 : decode cX6_last 14 = .ok (.getfield 29, 3) := by decide +kernel
theorem dX6_last_17 : decode cX6_last 17 = .ok (.getfield 162, 3) := by decide +kernel
theorem dX6_last_20 : decode cX6_last 20 = .ok (.astore_n 2, 1) := by decide +kernel
theorem dX6_last_21 : decode cX6_last 21 = .ok (.aload_n 2, 1) := by decide +kernel
theorem dX6_last_22 : decode cX6_last 22 = .ok (.getfield 166, 3) := by decide +kernel
theorem dX6_last_25 : decode cX6_last 25 = .ok (.ifCond .ne 6, 3) := by decide +kernel
theorem dX6_last_28 : decode cX6_last 28 = .ok (.ldc 171, 2) := by decide +kernel
theorem dX6_last_30 : decode cX6_last 30 = .ok (.ireturn, 1) := by decide +kernel
theorem dX6_last_31 : decode cX6_last 31 = .ok (.iload_n 1, 1) := by decide +kernel
theorem dX6_last_32 : decode cX6_last 32 = .ok (.tableswitch 59 0 2 #[28, 33, 46], 28) := by decide +kernel
theorem dX6_last_60 : decode cX6_last 60 = .ok (.aload_n 2, 1) := by decide +kernel
theorem dX6_last_61 : decode cX6_last 61 = .ok (.getfield 172, 3) := by decide +kernel
theorem dX6_last_64 : decode cX6_last 64 = .ok (.ireturn, 1) := by decide +kernel
theorem dX6_last_65 : decode cX6_last 65 = .ok (.aload_n 2, 1) := by decide +kernel
theorem dX6_last_66 : decode cX6_last 66 = .ok (.getfield 175, 3) := by decide +kernel
theorem dX6_last_69 : decode cX6_last 69 = .ok (.ifCond .eq 7, 3) := by decide +kernel
theorem dX6_last_72 : decode cX6_last 72 = .ok (.iconst 1, 1) := by decide +kernel
theorem dX6_last_73 : decode cX6_last 73 = .ok (.goto 4, 3) := by decide +kernel
theorem dX6_last_76 : decode cX6_last 76 = .ok (.iconst 0, 1) := by decide +kernel
theorem dX6_last_77 : decode cX6_last 77 = .ok (.ireturn, 1) := by decide +kernel
theorem dX6_last_78 : decode cX6_last 78 = .ok (.aload_n 2, 1) := by decide +kernel
theorem dX6_last_79 : decode cX6_last 79 = .ok (.getfield 178, 3) := by decide +kernel
theorem dX6_last_82 : decode cX6_last 82 = .ok (.ifCond .eq 7, 3) := by decide +kernel
theorem dX6_last_85 : decode cX6_last 85 = .ok (.iconst 1, 1) := by decide +kernel
theorem dX6_last_86 : decode cX6_last 86 = .ok (.goto 4, 3) := by decide +kernel
theorem dX6_last_89 : decode cX6_last 89 = .ok (.iconst 0, 1) := by decide +kernel
theorem dX6_last_90 : decode cX6_last 90 = .ok (.ireturn, 1) := by decide +kernel
theorem dX6_last_91 : decode cX6_last 91 = .ok (.aload_n 2, 1) := by decide +kernel
theorem dX6_last_92 : decode cX6_last 92 = .ok (.getfield 181, 3) := by decide +kernel
theorem dX6_last_95 : decode cX6_last 95 = .ok (.iload_n 1, 1) := by decide +kernel
theorem dX6_last_96 : decode cX6_last 96 = .ok (.iconst 3, 1) := by decide +kernel
theorem dX6_last_97 : decode cX6_last 97 = .ok (.isub, 1) := by decide +kernel
theorem dX6_last_98 : decode cX6_last 98 = .ok (.iaload, 1) := by decide +kernel
theorem dX6_last_99 : decode cX6_last 99 = .ok (.ireturn, 1) := by decide +kernel
theorem dX6_error_0 : decode cX6_error 0 = .ok (.aload_n 0, 1) := by decide +kernel
theorem dX6_error_1 : decode cX6_error 1 = .ok (.getfield 19, 3) := by decide +kernel
theorem dX6_error_4 : decode cX6_error 4 = .ok (.iload_n 1, 1) := by decide +kernel
theorem dX6_error_5 : decode cX6_error 5 = .ok (.invokevirtual 132, 3) := by decide +kernel
theorem dX6_error_8 : decode cX6_error 8 = .ok (.ifCond .eq 7, 3) := by decide +kernel
theorem dX6_error_11 : decode cX6_error 11 = .ok (.iload_n 2, 1) := by decide +kernel
theorem dX6_error_12 : decode cX6_error 12 = .ok (.ifCond .ge 6, 3) := by decide +kernel
theorem dX6_error_15 : decode cX6_error 15 = .ok (.ldc 135, 2) := by decide +kernel
theorem dX6_error_17 : decode cX6_error 17 = .ok (.ireturn, 1) := by decide +kernel
theorem dX6_error_18 : decode cX6_error 18 = .ok (.aload_n 0, 1) := by decide +kernel
theorem dX6_error_19 : decode cX6_error 19 = .ok (.getfield 29, 3) := by decide +kernel
theorem dX6_error_22 : decode cX6_error 22 = .ok (.getfield 162, 3) := by decide +kernel
theorem dX6_error_25 : decode cX6_error 25 = .ok (.astore_n 3, 1) := by decide +kernel
theorem dX6_error_26 : decode cX6_error 26 = .ok (.iload_n 2, 1) := by decide +kernel
theorem dX6_error_27 : decode cX6_error 27 = .ok (.aload_n 3, 1) := by decide +kernel
theorem dX6_error_28 : decode cX6_error 28 = .ok (.getfield 184, 3) := by decide +kernel
theorem dX6_error_31 : decode cX6_error 31 = .ok (.if_icmp .ge 16, 3) := by decide +kernel
theorem dX6_error_34 : decode cX6_error 34 = .ok (.iload_n 2, 1) := by decide +kernel
theorem dX6_error_35 : decode cX6_error 35 = .ok (.aload_n 0, 1) := by decide +kernel
theorem dX6_error_36 : decode cX6_error 36 = .ok (.getfield 19, 3) := by decide +kernel
theorem dX6_error_39 : decode cX6_error 39 = .ok (.getfield 139, 3) := by decide +kernel
theorem dX6_error_42 : decode cX6_error 42 = .ok (.iload_n 1, 1) := by decide +kernel
theorem dX6_error_43 : decode cX6_error 43 = .ok (.iaload, 1) := by decide +kernel
theorem dX6_error_44 : decode cX6_error 44 = .ok (.if_icmp .ge 6, 3) := by decide +kernel
theorem dX6_error_47 : decode cX6_error 47 = .ok (.ldc 171, 2) := by decide +kernel
theorem dX6_error_49 : decode cX6_error 49 = .ok (.ireturn, 1) := by decide +kernel
theorem dX6_error_50 : decode cX6_error 50 = .ok (.aload_n 3, 1) := by decide +kernel
theorem dX6_error_51 : decode cX6_error 51 = .ok (.iload_n 2, 1) := by decide +kernel
theorem dX6_error_52 : decode cX6_error 52 = .ok (.iload_n 1, 1) := by decide +kernel
theorem dX6_error_53 : decode cX6_error 53 = .ok (.invokevirtual 187, 3) := by decide +kernel
theorem dX6_error_56 : decode cX6_error 56 = .ok (.ireturn, 1) := by decide +kernel
theorem dX6_steady_0 : decode cX6_steady 0 = .ok (.aload_n 0, 1) := by decide +kernel
theorem dX6_steady_1 : decode cX6_steady 1 = .ok (.getfield 29, 3) := by decide +kernel
theorem dX6_steady_4 : decode cX6_steady 4 = .ok (.getfield 82, 3) := by decide +kernel
theorem dX6_steady_7 : decode cX6_steady 7 = .ok (.ifCond .eq 15, 3) := by decide +kernel
theorem dX6_steady_10 : decode cX6_steady 10 = .ok (.aload_n 0, 1) := by decide +kernel
theorem dX6_steady_11 : decode cX6_steady 11 = .ok (.getfield 29, 3) := by decide +kernel
theorem dX6_steady_14 : decode cX6_steady 14 = .ok (.getfield 123, 3) := by decide +kernel
theorem dX6_steady_17 : decode cX6_steady 17 = .ok (.bipush (-9), 2) := by decide +kernel
theorem dX6_steady_19 : decode cX6_steady 19 = .ok (.if_icmp .ne 6, 3) := by decide +kernel
theorem dX6_steady_22 : decode cX6_steady 22 = .ok (.bipush (-9), 2) := by decide +kernel
theorem dX6_steady_24 : decode cX6_steady 24 = .ok (.ireturn, 1) := by decide +kernel
theorem dX6_steady_25 : decode cX6_steady 25 = .ok (.aload_n 0, 1) := by decide +kernel
theorem dX6_steady_26 : decode cX6_steady 26 = .ok (.getfield 33, 3) := by decide +kernel
theorem dX6_steady_29 : decode cX6_steady 29 = .ok (.aload_n 0, 1) := by decide +kernel
theorem dX6_steady_30 : decode cX6_steady 30 = .ok (.getfield 29, 3) := by decide +kernel
theorem dX6_steady_33 : decode cX6_steady 33 = .ok (.invokevirtual 191, 3) := by decide +kernel
theorem dX6_steady_36 : decode cX6_steady 36 = .ok (.aload_n 0, 1) := by decide +kernel
theorem dX6_steady_37 : decode cX6_steady 37 = .ok (.getfield 33, 3) := by decide +kernel
theorem dX6_steady_40 : decode cX6_steady 40 = .ok (.sipush 1000, 3) := by decide +kernel
theorem dX6_steady_43 : decode cX6_steady 43 = .ok (.putfield 194, 3) := by decide +kernel
theorem dX6_steady_46 : decode cX6_steady 46 = .ok (.iconst 0, 1) := by decide +kernel
theorem dX6_steady_47 : decode cX6_steady 47 = .ok (.istore_n 1, 1) := by decide +kernel
theorem dX6_steady_48 : decode cX6_steady 48 = .ok (.iconst 1, 1) := by decide +kernel
theorem dX6_steady_49 : decode cX6_steady 49 = .ok (.istore_n 2, 1) := by decide +kernel
theorem dX6_steady_50 : decode cX6_steady 50 = .ok (.iload_n 2, 1) := by decide +kernel
theorem dX6_steady_51 : decode cX6_steady 51 = .ok (.sipush 300, 3) := by decide +kernel
theorem dX6_steady_54 : decode cX6_steady 54 = .ok (.if_icmp .gt 45, 3) := by decide +kernel
theorem dX6_steady_57 : decode cX6_steady 57 = .ok (.aload_n 0, 1) := by decide +kernel
theorem dX6_steady_58 : decode cX6_steady 58 = .ok (.getfield 33, 3) := by decide +kernel
theorem dX6_steady_61 : decode cX6_steady 61 = .ok (.aload_n 0, 1) := by decide +kernel
theorem dX6_steady_62 : decode cX6_steady 62 = .ok (.getfield 19, 3) := by decide +kernel
theorem dX6_steady_65 : decode cX6_steady 65 = .ok (.invokevirtual 96, 3) := by decide +kernel
theorem dX6_steady_68 : decode cX6_steady 68 = .ok (.ifCond .eq 25, 3) := by decide +kernel
theorem dX6_steady_71 : decode cX6_steady 71 = .ok (.aload_n 0, 1) := by decide +kernel
theorem dX6_steady_72 : decode cX6_steady 72 = .ok (.getfield 33, 3) := by decide +kernel
theorem dX6_steady_75 : decode cX6_steady 75 = .ok (.getfield 162, 3) := by decide +kernel
theorem dX6_steady_78 : decode cX6_steady 78 = .ok (.aload_n 0, 1) := by decide +kernel
theorem dX6_steady_79 : decode cX6_steady 79 = .ok (.getfield 19, 3) := by decide +kernel
theorem dX6_steady_82 : decode cX6_steady 82 = .ok (.getfield 197, 3) := by decide +kernel
theorem dX6_steady_85 : decode cX6_steady 85 = .ok (.invokevirtual 200, 3) := by decide +kernel
theorem dX6_steady_88 : decode cX6_steady 88 = .ok (.ifCond .eq 5, 3) := by decide +kernel
theorem dX6_steady_91 : decode cX6_steady 91 = .ok (.iload_n 2, 1) := by decide +kernel
theorem dX6_steady_92 : decode cX6_steady 92 = .ok (.istore_n 1, 1) := by decide +kernel
theorem dX6_steady_93 : decode cX6_steady 93 = .ok (.iinc 2 1, 3) := by decide +kernel
theorem dX6_steady_96 : decode cX6_steady 96 = .ok (.goto (-46), 3) := by decide +kernel
theorem dX6_steady_99 : decode cX6_steady 99 = .ok (.iload_n 1, 1) := by decide +kernel
theorem dX6_steady_100 : decode cX6_steady 100 = .ok (.sipush 200, 3) := by decide +kernel
theorem dX6_steady_103 : decode cX6_steady 103 = .ok (.if_icmp .gt 7, 3) := by decide +kernel
theorem dX6_steady_106 : decode cX6_steady 106 = .ok (.iload_n 1, 1) := by decide +kernel
theorem dX6_steady_107 : decode cX6_steady 107 = .ok (.goto 5, 3) := by decide +kernel
theorem dX6_steady_110 : decode cX6_steady 110 = .ok (.bipush (-9), 2) := by decide +kernel
theorem dX6_steady_112 : decode cX6_steady 112 = .ok (.ireturn, 1) := by decide +kernel
theorem dX6_cost_0 : decode cX6_cost 0 = .ok (.aload_n 0, 1) := by decide +kernel
theorem dX6_cost_1 : decode cX6_cost 1 = .ok (.getfield 29, 3) := by decide +kernel
theorem dX6_cost_4 : decode cX6_cost 4 = .ok (.getfield 82, 3) := by decide +kernel
theorem dX6_cost_7 : decode cX6_cost 7 = .ok (.ifCond .eq 19, 3) := by decide +kernel
theorem dX6_cost_10 : decode cX6_cost 10 = .ok (.aload_n 0, 1) := by decide +kernel
theorem dX6_cost_11 : decode cX6_cost 11 = .ok (.getfield 29, 3) := by decide +kernel
theorem dX6_cost_14 : decode cX6_cost 14 = .ok (.aload_n 0, 1) := by decide +kernel
theorem dX6_cost_15 : decode cX6_cost 15 = .ok (.getfield 19, 3) := by decide +kernel
theorem dX6_cost_18 : decode cX6_cost 18 = .ok (.invokevirtual 114, 3) := by decide +kernel
theorem dX6_cost_21 : decode cX6_cost 21 = .ok (.bipush (-9), 2) := by decide +kernel
theorem dX6_cost_23 : decode cX6_cost 23 = .ok (.if_icmp .ne 6, 3) := by decide +kernel
theorem dX6_cost_26 : decode cX6_cost 26 = .ok (.ldc 171, 2) := by decide +kernel
theorem dX6_cost_28 : decode cX6_cost 28 = .ok (.ireturn, 1) := by decide +kernel
theorem dX6_cost_29 : decode cX6_cost 29 = .ok (.aload_n 0, 1) := by decide +kernel
theorem dX6_cost_30 : decode cX6_cost 30 = .ok (.getfield 33, 3) := by decide +kernel
theorem dX6_cost_33 : decode cX6_cost 33 = .ok (.aload_n 0, 1) := by decide +kernel
theorem dX6_cost_34 : decode cX6_cost 34 = .ok (.getfield 29, 3) := by decide +kernel
theorem dX6_cost_37 : decode cX6_cost 37 = .ok (.invokevirtual 191, 3) := by decide +kernel
theorem dX6_cost_40 : decode cX6_cost 40 = .ok (.aload_n 0, 1) := by decide +kernel
theorem dX6_cost_41 : decode cX6_cost 41 = .ok (.getfield 33, 3) := by decide +kernel
theorem dX6_cost_44 : decode cX6_cost 44 = .ok (.sipush 1000, 3) := by decide +kernel
theorem dX6_cost_47 : decode cX6_cost 47 = .ok (.putfield 194, 3) := by decide +kernel
theorem dX6_cost_50 : decode cX6_cost 50 = .ok (.aload_n 0, 1) := by decide +kernel
theorem dX6_cost_51 : decode cX6_cost 51 = .ok (.getfield 33, 3) := by decide +kernel
theorem dX6_cost_54 : decode cX6_cost 54 = .ok (.aload_n 0, 1) := by decide +kernel
theorem dX6_cost_55 : decode cX6_cost 55 = .ok (.getfield 19, 3) := by decide +kernel
theorem dX6_cost_58 : decode cX6_cost 58 = .ok (.sipush 200, 3) := by decide +kernel
theorem dX6_cost_61 : decode cX6_cost 61 = .ok (.invokevirtual 203, 3) := by decide +kernel
theorem dX6_cost_64 : decode cX6_cost 64 = .ok (.aload_n 0, 1) := by decide +kernel
theorem dX6_cost_65 : decode cX6_cost 65 = .ok (.getfield 33, 3) := by decide +kernel
theorem dX6_cost_68 : decode cX6_cost 68 = .ok (.getfield 207, 3) := by decide +kernel
theorem dX6_cost_71 : decode cX6_cost 71 = .ok (.istore_n 1, 1) := by decide +kernel
theorem dX6_cost_72 : decode cX6_cost 72 = .ok (.aload_n 0, 1) := by decide +kernel
theorem dX6_cost_73 : decode cX6_cost 73 = .ok (.getfield 33, 3) := by decide +kernel
theorem dX6_cost_76 : decode cX6_cost 76 = .ok (.aload_n 0, 1) := by decide +kernel
theorem dX6_cost_77 : decode cX6_cost 77 = .ok (.getfield 29, 3) := by decide +kernel
theorem dX6_cost_80 : decode cX6_cost 80 = .ok (.invokevirtual 191, 3) := by decide +kernel
theorem dX6_cost_83 : decode cX6_cost 83 = .ok (.aload_n 0, 1) := by decide +kernel
theorem dX6_cost_84 : decode cX6_cost 84 = .ok (.getfield 33, 3) := by decide +kernel
theorem dX6_cost_87 : decode cX6_cost 87 = .ok (.aload_n 0, 1) := by decide +kernel
theorem dX6_cost_88 : decode cX6_cost 88 = .ok (.getfield 19, 3) := by decide +kernel
theorem dX6_cost_91 : decode cX6_cost 91 = .ok (.invokevirtual 210, 3) := by decide +kernel
theorem dX6_cost_94 : decode cX6_cost 94 = .ok (.aload_n 0, 1) := by decide +kernel
theorem dX6_cost_95 : decode cX6_cost 95 = .ok (.getfield 33, 3) := by decide +kernel
theorem dX6_cost_98 : decode cX6_cost 98 = .ok (.aload_n 0, 1) := by decide +kernel
theorem dX6_cost_99 : decode cX6_cost 99 = .ok (.getfield 19, 3) := by decide +kernel
theorem dX6_cost_102 : decode cX6_cost 102 = .ok (.invokevirtual 96, 3) := by decide +kernel
theorem dX6_cost_105 : decode cX6_cost 105 = .ok (.pop, 1) := by decide +kernel
theorem dX6_cost_106 : decode cX6_cost 106 = .ok (.aload_n 0, 1) := by decide +kernel
theorem dX6_cost_107 : decode cX6_cost 107 = .ok (.getfield 33, 3) := by decide +kernel
theorem dX6_cost_110 : decode cX6_cost 110 = .ok (.sipush 1000, 3) := by decide +kernel
theorem dX6_cost_113 : decode cX6_cost 113 = .ok (.putfield 194, 3) := by decide +kernel
theorem dX6_cost_116 : decode cX6_cost 116 = .ok (.aload_n 0, 1) := by decide +kernel
theorem dX6_cost_117 : decode cX6_cost 117 = .ok (.getfield 33, 3) := by decide +kernel
theorem dX6_cost_120 : decode cX6_cost 120 = .ok (.aload_n 0, 1) := by decide +kernel
theorem dX6_cost_121 : decode cX6_cost 121 = .ok (.getfield 19, 3) := by decide +kernel
theorem dX6_cost_124 : decode cX6_cost 124 = .ok (.sipush 199, 3) := by decide +kernel
theorem dX6_cost_127 : decode cX6_cost 127 = .ok (.invokevirtual 203, 3) := by decide +kernel
theorem dX6_cost_130 : decode cX6_cost 130 = .ok (.aload_n 0, 1) := by decide +kernel
theorem dX6_cost_131 : decode cX6_cost 131 = .ok (.getfield 33, 3) := by decide +kernel
theorem dX6_cost_134 : decode cX6_cost 134 = .ok (.getfield 207, 3) := by decide +kernel
theorem dX6_cost_137 : decode cX6_cost 137 = .ok (.iload_n 1, 1) := by decide +kernel
theorem dX6_cost_138 : decode cX6_cost 138 = .ok (.isub, 1) := by decide +kernel
theorem dX6_cost_139 : decode cX6_cost 139 = .ok (.ireturn, 1) := by decide +kernel
theorem dX6_sees_0 : decode cX6_sees 0 = .ok (.aload_n 0, 1) := by decide +kernel
theorem dX6_sees_1 : decode cX6_sees 1 = .ok (.getfield 19, 3) := by decide +kernel
theorem dX6_sees_4 : decode cX6_sees 4 = .ok (.iload_n 1, 1) := by decide +kernel
theorem dX6_sees_5 : decode cX6_sees 5 = .ok (.invokevirtual 100, 3) := by decide +kernel
theorem dX6_sees_8 : decode cX6_sees 8 = .ok (.ifCond .eq 14, 3) := by decide +kernel
theorem dX6_sees_11 : decode cX6_sees 11 = .ok (.iload_n 2, 1) := by decide +kernel
theorem dX6_sees_12 : decode cX6_sees 12 = .ok (.bipush (-99), 2) := by decide +kernel
theorem dX6_sees_14 : decode cX6_sees 14 = .ok (.bipush 99, 2) := by decide +kernel
theorem dX6_sees_16 : decode cX6_sees 16 = .ok (.invokestatic 62, 3) := by decide +kernel
theorem dX6_sees_19 : decode cX6_sees 19 = .ok (.ifCond .ne 5, 3) := by decide +kernel
theorem dX6_sees_22 : decode cX6_sees 22 = .ok (.iconst (-1), 1) := by decide +kernel
theorem dX6_sees_23 : decode cX6_sees 23 = .ok (.ireturn, 1) := by decide +kernel
theorem dX6_sees_24 : decode cX6_sees 24 = .ok (.aload_n 0, 1) := by decide +kernel
theorem dX6_sees_25 : decode cX6_sees 25 = .ok (.getfield 54, 3) := by decide +kernel
theorem dX6_sees_28 : decode cX6_sees 28 = .ok (.iload_n 1, 1) := by decide +kernel
theorem dX6_sees_29 : decode cX6_sees 29 = .ok (.iload_n 2, 1) := by decide +kernel
theorem dX6_sees_30 : decode cX6_sees 30 = .ok (.invokevirtual 213, 3) := by decide +kernel
theorem dX6_sees_33 : decode cX6_sees 33 = .ok (.ifCond .eq 13, 3) := by decide +kernel
theorem dX6_sees_36 : decode cX6_sees 36 = .ok (.aload_n 0, 1) := by decide +kernel
theorem dX6_sees_37 : decode cX6_sees 37 = .ok (.getfield 54, 3) := by decide +kernel
theorem dX6_sees_40 : decode cX6_sees 40 = .ok (.getfield 81, 3) := by decide +kernel
theorem dX6_sees_43 : decode cX6_sees 43 = .ok (.goto 5, 3) := by decide +kernel
theorem dX6_sees_46 : decode cX6_sees 46 = .ok (.bipush (-3), 2) := by decide +kernel
theorem dX6_sees_48 : decode cX6_sees 48 = .ok (.ireturn, 1) := by decide +kernel
theorem dX6_forget_0 : decode cX6_forget 0 = .ok (.aload_n 0, 1) := by decide +kernel
theorem dX6_forget_1 : decode cX6_forget 1 = .ok (.getfield 54, 3) := by decide +kernel
theorem dX6_forget_4 : decode cX6_forget 4 = .ok (.getfield 81, 3) := by decide +kernel
theorem dX6_forget_7 : decode cX6_forget 7 = .ok (.istore_n 1, 1) := by decide +kernel
theorem dX6_forget_8 : decode cX6_forget 8 = .ok (.aload_n 0, 1) := by decide +kernel
theorem dX6_forget_9 : decode cX6_forget 9 = .ok (.getfield 54, 3) := by decide +kernel
theorem dX6_forget_12 : decode cX6_forget 12 = .ok (.iconst 0, 1) := by decide +kernel
theorem dX6_forget_13 : decode cX6_forget 13 = .ok (.putfield 81, 3) := by decide +kernel
theorem dX6_forget_16 : decode cX6_forget 16 = .ok (.iload_n 1, 1) := by decide +kernel
theorem dX6_forget_17 : decode cX6_forget 17 = .ok (.ireturn, 1) := by decide +kernel
theorem dX6_which_0 : decode cX6_which 0 = .ok (.aload_n 0, 1) := by decide +kernel
theorem dX6_which_1 : decode cX6_which 1 = .ok (.getfield 54, 3) := by decide +kernel
theorem dX6_which_4 : decode cX6_which 4 = .ok (.aload_n 0, 1) := by decide +kernel
theorem dX6_which_5 : decode cX6_which 5 = .ok (.getfield 19, 3) := by decide +kernel
theorem dX6_which_8 : decode cX6_which 8 = .ok (.getfield 216, 3) := by decide +kernel
theorem dX6_which_11 : decode cX6_which 11 = .ok (.invokevirtual 219, 3) := by decide +kernel
theorem dX6_which_14 : decode cX6_which 14 = .ok (.ireturn, 1) := by decide +kernel
theorem dX6_look_0 : decode cX6_look 0 = .ok (.aload_n 0, 1) := by decide +kernel
theorem dX6_look_1 : decode cX6_look 1 = .ok (.getfield 54, 3) := by decide +kernel
theorem dX6_look_4 : decode cX6_look 4 = .ok (.aload_n 0, 1) := by decide +kernel
theorem dX6_look_5 : decode cX6_look 5 = .ok (.getfield 19, 3) := by decide +kernel
theorem dX6_look_8 : decode cX6_look 8 = .ok (.getfield 216, 3) := by decide +kernel
theorem dX6_look_11 : decode cX6_look 11 = .ok (.invokevirtual 222, 3) := by decide +kernel
theorem dX6_look_14 : decode cX6_look 14 = .ok (.ireturn, 1) := by decide +kernel
theorem dX6_keep_0 : decode cX6_keep 0 = .ok (.iload_n 1, 1) := by decide +kernel
theorem dX6_keep_1 : decode cX6_keep 1 = .ok (.iconst 0, 1) := by decide +kernel
theorem dX6_keep_2 : decode cX6_keep 2 = .ok (.iconst 1, 1) := by decide +kernel
theorem dX6_keep_3 : decode cX6_keep 3 = .ok (.invokestatic 62, 3) := by decide +kernel
theorem dX6_keep_6 : decode cX6_keep 6 = .ok (.ifCond .ne 5, 3) := by decide +kernel
theorem dX6_keep_9 : decode cX6_keep 9 = .ok (.iconst (-1), 1) := by decide +kernel
theorem dX6_keep_10 : decode cX6_keep 10 = .ok (.ireturn, 1) := by decide +kernel
theorem dX6_keep_11 : decode cX6_keep 11 = .ok (.aload_n 0, 1) := by decide +kernel
theorem dX6_keep_12 : decode cX6_keep 12 = .ok (.getfield 43, 3) := by decide +kernel
theorem dX6_keep_15 : decode cX6_keep 15 = .ok (.iload_n 1, 1) := by decide +kernel
theorem dX6_keep_16 : decode cX6_keep 16 = .ok (.aaload, 1) := by decide +kernel
theorem dX6_keep_17 : decode cX6_keep 17 = .ok (.aload_n 0, 1) := by decide +kernel
theorem dX6_keep_18 : decode cX6_keep 18 = .ok (.getfield 29, 3) := by decide +kernel
theorem dX6_keep_21 : decode cX6_keep 21 = .ok (.invokevirtual 191, 3) := by decide +kernel
theorem dX6_keep_24 : decode cX6_keep 24 = .ok (.aload_n 0, 1) := by decide +kernel
theorem dX6_keep_25 : decode cX6_keep 25 = .ok (.getfield 47, 3) := by decide +kernel
theorem dX6_keep_28 : decode cX6_keep 28 = .ok (.iload_n 1, 1) := by decide +kernel
theorem dX6_keep_29 : decode cX6_keep 29 = .ok (.iconst 1, 1) := by decide +kernel
theorem dX6_keep_30 : decode cX6_keep 30 = .ok (.bastore, 1) := by decide +kernel
theorem dX6_keep_31 : decode cX6_keep 31 = .ok (.aload_n 0, 1) := by decide +kernel
theorem dX6_keep_32 : decode cX6_keep 32 = .ok (.getfield 29, 3) := by decide +kernel
theorem dX6_keep_35 : decode cX6_keep 35 = .ok (.getfield 86, 3) := by decide +kernel
theorem dX6_keep_38 : decode cX6_keep 38 = .ok (.ireturn, 1) := by decide +kernel
theorem dX6_back_0 : decode cX6_back 0 = .ok (.iload_n 1, 1) := by decide +kernel
theorem dX6_back_1 : decode cX6_back 1 = .ok (.iconst 0, 1) := by decide +kernel
theorem dX6_back_2 : decode cX6_back 2 = .ok (.iconst 1, 1) := by decide +kernel
theorem dX6_back_3 : decode cX6_back 3 = .ok (.invokestatic 62, 3) := by decide +kernel
theorem dX6_back_6 : decode cX6_back 6 = .ok (.ifCond .ne 5, 3) := by decide +kernel
theorem dX6_back_9 : decode cX6_back 9 = .ok (.iconst (-1), 1) := by decide +kernel
theorem dX6_back_10 : decode cX6_back 10 = .ok (.ireturn, 1) := by decide +kernel
theorem dX6_back_11 : decode cX6_back 11 = .ok (.aload_n 0, 1) := by decide +kernel
theorem dX6_back_12 : decode cX6_back 12 = .ok (.getfield 47, 3) := by decide +kernel
theorem dX6_back_15 : decode cX6_back 15 = .ok (.iload_n 1, 1) := by decide +kernel
theorem dX6_back_16 : decode cX6_back 16 = .ok (.baload, 1) := by decide +kernel
theorem dX6_back_17 : decode cX6_back 17 = .ok (.ifCond .ne 6, 3) := by decide +kernel
theorem dX6_back_20 : decode cX6_back 20 = .ok (.bipush (-2), 2) := by decide +kernel
theorem dX6_back_22 : decode cX6_back 22 = .ok (.ireturn, 1) := by decide +kernel
theorem dX6_back_23 : decode cX6_back 23 = .ok (.aload_n 0, 1) := by decide +kernel
theorem dX6_back_24 : decode cX6_back 24 = .ok (.getfield 29, 3) := by decide +kernel
theorem dX6_back_27 : decode cX6_back 27 = .ok (.aload_n 0, 1) := by decide +kernel
theorem dX6_back_28 : decode cX6_back 28 = .ok (.getfield 43, 3) := by decide +kernel
theorem dX6_back_31 : decode cX6_back 31 = .ok (.iload_n 1, 1) := by decide +kernel
theorem dX6_back_32 : decode cX6_back 32 = .ok (.aaload, 1) := by decide +kernel
theorem dX6_back_33 : decode cX6_back 33 = .ok (.invokevirtual 191, 3) := by decide +kernel
theorem dX6_back_36 : decode cX6_back 36 = .ok (.aload_n 0, 1) := by decide +kernel
theorem dX6_back_37 : decode cX6_back 37 = .ok (.getfield 39, 3) := by decide +kernel
theorem dX6_back_40 : decode cX6_back 40 = .ok (.iconst 0, 1) := by decide +kernel
theorem dX6_back_41 : decode cX6_back 41 = .ok (.putfield 78, 3) := by decide +kernel
theorem dX6_back_44 : decode cX6_back 44 = .ok (.aload_n 0, 1) := by decide +kernel
theorem dX6_back_45 : decode cX6_back 45 = .ok (.getfield 29, 3) := by decide +kernel
theorem dX6_back_48 : decode cX6_back 48 = .ok (.getfield 86, 3) := by decide +kernel
theorem dX6_back_51 : decode cX6_back 51 = .ok (.ireturn, 1) := by decide +kernel
theorem dX6_count_0 : decode cX6_count 0 = .ok (.iload_n 1, 1) := by decide +kernel
theorem dX6_count_1 : decode cX6_count 1 = .ok (.tableswitch 281 0 19 #[95, 103, 111, 119, 130, 138, 146, 157, 165, 177, 185, 201, 217, 225, 233, 241, 249, 257, 265, 273], 95) := by decide +kernel
theorem dX6_count_96 : decode cX6_count 96 = .ok (.aload_n 0, 1) := by decide +kernel
theorem dX6_count_97 : decode cX6_count 97 = .ok (.getfield 19, 3) := by decide +kernel
theorem dX6_count_100 : decode cX6_count 100 = .ok (.getfield 216, 3) := by decide +kernel
theorem dX6_count_103 : decode cX6_count 103 = .ok (.ireturn, 1) := by decide +kernel
theorem dX6_count_104 : decode cX6_count 104 = .ok (.aload_n 0, 1) := by decide +kernel
theorem dX6_count_105 : decode cX6_count 105 = .ok (.getfield 19, 3) := by decide +kernel
theorem dX6_count_108 : decode cX6_count 108 = .ok (.getfield 225, 3) := by decide +kernel
theorem dX6_count_111 : decode cX6_count 111 = .ok (.ireturn, 1) := by decide +kernel
theorem dX6_count_112 : decode cX6_count 112 = .ok (.aload_n 0, 1) := by decide +kernel
theorem dX6_count_113 : decode cX6_count 113 = .ok (.getfield 29, 3) := by decide +kernel
theorem dX6_count_116 : decode cX6_count 116 = .ok (.getfield 86, 3) := by decide +kernel
theorem dX6_count_119 : decode cX6_count 119 = .ok (.ireturn, 1) := by decide +kernel
theorem dX6_count_120 : decode cX6_count 120 = .ok (.aload_n 0, 1) := by decide +kernel
theorem dX6_count_121 : decode cX6_count 121 = .ok (.getfield 29, 3) := by decide +kernel
theorem dX6_count_124 : decode cX6_count 124 = .ok (.getfield 162, 3) := by decide +kernel
theorem dX6_count_127 : decode cX6_count 127 = .ok (.getfield 228, 3) := by decide +kernel
theorem dX6_count_130 : decode cX6_count 130 = .ok (.ireturn, 1) := by decide +kernel
theorem dX6_count_131 : decode cX6_count 131 = .ok (.aload_n 0, 1) := by decide +kernel
theorem dX6_count_132 : decode cX6_count 132 = .ok (.getfield 29, 3) := by decide +kernel
theorem dX6_count_135 : decode cX6_count 135 = .ok (.getfield 93, 3) := by decide +kernel
theorem dX6_count_138 : decode cX6_count 138 = .ok (.ireturn, 1) := by decide +kernel
theorem dX6_count_139 : decode cX6_count 139 = .ok (.aload_n 0, 1) := by decide +kernel
theorem dX6_count_140 : decode cX6_count 140 = .ok (.getfield 29, 3) := by decide +kernel
theorem dX6_count_143 : decode cX6_count 143 = .ok (.getfield 207, 3) := by decide +kernel
theorem dX6_count_146 : decode cX6_count 146 = .ok (.ireturn, 1) := by decide +kernel
theorem dX6_count_147 : decode cX6_count 147 = .ok (.aload_n 0, 1) := by decide +kernel
theorem dX6_count_148 : decode cX6_count 148 = .ok (.getfield 29, 3) := by decide +kernel
theorem dX6_count_151 : decode cX6_count 151 = .ok (.getfield 162, 3) := by decide +kernel
theorem dX6_count_154 : decode cX6_count 154 = .ok (.getfield 184, 3) := by decide +kernel
theorem dX6_count_157 : decode cX6_count 157 = .ok (.ireturn, 1) := by decide +kernel
theorem dX6_count_158 : decode cX6_count 158 = .ok (.aload_n 0, 1) := by decide +kernel
theorem dX6_count_159 : decode cX6_count 159 = .ok (.getfield 29, 3) := by decide +kernel
theorem dX6_count_162 : decode cX6_count 162 = .ok (.getfield 123, 3) := by decide +kernel
theorem dX6_count_165 : decode cX6_count 165 = .ok (.ireturn, 1) := by decide +kernel
theorem dX6_count_166 : decode cX6_count 166 = .ok (.aload_n 0, 1) := by decide +kernel
theorem dX6_count_167 : decode cX6_count 167 = .ok (.getfield 29, 3) := by decide +kernel
theorem dX6_count_170 : decode cX6_count 170 = .ok (.aload_n 0, 1) := by decide +kernel
theorem dX6_count_171 : decode cX6_count 171 = .ok (.getfield 19, 3) := by decide +kernel
theorem dX6_count_174 : decode cX6_count 174 = .ok (.invokevirtual 114, 3) := by decide +kernel
theorem dX6_count_177 : decode cX6_count 177 = .ok (.ireturn, 1) := by decide +kernel
theorem dX6_count_178 : decode cX6_count 178 = .ok (.aload_n 0, 1) := by decide +kernel
theorem dX6_count_179 : decode cX6_count 179 = .ok (.getfield 29, 3) := by decide +kernel
theorem dX6_count_182 : decode cX6_count 182 = .ok (.getfield 117, 3) := by decide +kernel
theorem dX6_count_185 : decode cX6_count 185 = .ok (.ireturn, 1) := by decide +kernel
theorem dX6_count_186 : decode cX6_count 186 = .ok (.aload_n 0, 1) := by decide +kernel
theorem dX6_count_187 : decode cX6_count 187 = .ok (.getfield 29, 3) := by decide +kernel
theorem dX6_count_190 : decode cX6_count 190 = .ok (.getfield 82, 3) := by decide +kernel
theorem dX6_count_193 : decode cX6_count 193 = .ok (.ifCond .eq 7, 3) := by decide +kernel
theorem dX6_count_196 : decode cX6_count 196 = .ok (.iconst 1, 1) := by decide +kernel
theorem dX6_count_197 : decode cX6_count 197 = .ok (.goto 4, 3) := by decide +kernel
theorem dX6_count_200 : decode cX6_count 200 = .ok (.iconst 0, 1) := by decide +kernel
theorem dX6_count_201 : decode cX6_count 201 = .ok (.ireturn, 1) := by decide +kernel
theorem dX6_count_202 : decode cX6_count 202 = .ok (.aload_n 0, 1) := by decide +kernel
theorem dX6_count_203 : decode cX6_count 203 = .ok (.getfield 29, 3) := by decide +kernel
theorem dX6_count_206 : decode cX6_count 206 = .ok (.getfield 126, 3) := by decide +kernel
theorem dX6_count_209 : decode cX6_count 209 = .ok (.ifCond .eq 7, 3) := by decide +kernel
theorem dX6_count_212 : decode cX6_count 212 = .ok (.iconst 1, 1) := by decide +kernel
theorem dX6_count_213 : decode cX6_count 213 = .ok (.goto 4, 3) := by decide +kernel
theorem dX6_count_216 : decode cX6_count 216 = .ok (.iconst 0, 1) := by decide +kernel
theorem dX6_count_217 : decode cX6_count 217 = .ok (.ireturn, 1) := by decide +kernel
theorem dX6_count_218 : decode cX6_count 218 = .ok (.aload_n 0, 1) := by decide +kernel
theorem dX6_count_219 : decode cX6_count 219 = .ok (.getfield 29, 3) := by decide +kernel
theorem dX6_count_222 : decode cX6_count 222 = .ok (.getfield 231, 3) := by decide +kernel
theorem dX6_count_225 : decode cX6_count 225 = .ok (.ireturn, 1) := by decide +kernel
theorem dX6_count_226 : decode cX6_count 226 = .ok (.aload_n 0, 1) := by decide +kernel
theorem dX6_count_227 : decode cX6_count 227 = .ok (.getfield 19, 3) := by decide +kernel
theorem dX6_count_230 : decode cX6_count 230 = .ok (.getfield 234, 3) := by decide +kernel
theorem dX6_count_233 : decode cX6_count 233 = .ok (.ireturn, 1) := by decide +kernel
theorem dX6_count_234 : decode cX6_count 234 = .ok (.aload_n 0, 1) := by decide +kernel
theorem dX6_count_235 : decode cX6_count 235 = .ok (.getfield 19, 3) := by decide +kernel
theorem dX6_count_238 : decode cX6_count 238 = .ok (.getfield 237, 3) := by decide +kernel
theorem dX6_count_241 : decode cX6_count 241 = .ok (.ireturn, 1) := by decide +kernel
theorem dX6_count_242 : decode cX6_count 242 = .ok (.aload_n 0, 1) := by decide +kernel
theorem dX6_count_243 : decode cX6_count 243 = .ok (.getfield 19, 3) := by decide +kernel
theorem dX6_count_246 : decode cX6_count 246 = .ok (.getfield 197, 3) := by decide +kernel
theorem dX6_count_249 : decode cX6_count 249 = .ok (.ireturn, 1) := by decide +kernel
theorem dX6_count_250 : decode cX6_count 250 = .ok (.aload_n 0, 1) := by decide +kernel
theorem dX6_count_251 : decode cX6_count 251 = .ok (.getfield 19, 3) := by decide +kernel
theorem dX6_count_254 : decode cX6_count 254 = .ok (.getfield 240, 3) := by decide +kernel
theorem dX6_count_257 : decode cX6_count 257 = .ok (.ireturn, 1) := by decide +kernel
theorem dX6_count_258 : decode cX6_count 258 = .ok (.aload_n 0, 1) := by decide +kernel
theorem dX6_count_259 : decode cX6_count 259 = .ok (.getfield 54, 3) := by decide +kernel
theorem dX6_count_262 : decode cX6_count 262 = .ok (.getfield 81, 3) := by decide +kernel
theorem dX6_count_265 : decode cX6_count 265 = .ok (.ireturn, 1) := by decide +kernel
theorem dX6_count_266 : decode cX6_count 266 = .ok (.aload_n 0, 1) := by decide +kernel
theorem dX6_count_267 : decode cX6_count 267 = .ok (.getfield 10, 3) := by decide +kernel
theorem dX6_count_270 : decode cX6_count 270 = .ok (.getfield 70, 3) := by decide +kernel
theorem dX6_count_273 : decode cX6_count 273 = .ok (.ireturn, 1) := by decide +kernel
theorem dX6_count_274 : decode cX6_count 274 = .ok (.aload_n 0, 1) := by decide +kernel
theorem dX6_count_275 : decode cX6_count 275 = .ok (.getfield 39, 3) := by decide +kernel
theorem dX6_count_278 : decode cX6_count 278 = .ok (.getfield 78, 3) := by decide +kernel
theorem dX6_count_281 : decode cX6_count 281 = .ok (.ireturn, 1) := by decide +kernel
theorem dX6_count_282 : decode cX6_count 282 = .ok (.iconst (-1), 1) := by decide +kernel
theorem dX6_count_283 : decode cX6_count 283 = .ok (.ireturn, 1) := by decide +kernel
theorem dX6_isWithin_0 : decode cX6_isWithin 0 = .ok (.iload_n 0, 1) := by decide +kernel
theorem dX6_isWithin_1 : decode cX6_isWithin 1 = .ok (.iload_n 1, 1) := by decide +kernel
theorem dX6_isWithin_2 : decode cX6_isWithin 2 = .ok (.if_icmp .lt 12, 3) := by decide +kernel
theorem dX6_isWithin_5 : decode cX6_isWithin 5 = .ok (.iload_n 0, 1) := by decide +kernel
theorem dX6_isWithin_6 : decode cX6_isWithin 6 = .ok (.iload_n 2, 1) := by decide +kernel
theorem dX6_isWithin_7 : decode cX6_isWithin 7 = .ok (.if_icmp .gt 7, 3) := by decide +kernel
theorem dX6_isWithin_10 : decode cX6_isWithin 10 = .ok (.iconst 1, 1) := by decide +kernel
theorem dX6_isWithin_11 : decode cX6_isWithin 11 = .ok (.goto 4, 3) := by decide +kernel
theorem dX6_isWithin_14 : decode cX6_isWithin 14 = .ok (.iconst 0, 1) := by decide +kernel
theorem dX6_isWithin_15 : decode cX6_isWithin 15 = .ok (.ireturn, 1) := by decide +kernel
end
section
theorem dX7_init_0 : decode cX7_init 0 = .ok (.aload_n 0, 1) := by decide +kernel
theorem dX7_init_1 : decode cX7_init 1 = .ok (.invokespecial 1, 3) := by decide +kernel
theorem dX7_init_4 : decode cX7_init 4 = .ok (.aload_n 0, 1) := by decide +kernel
theorem dX7_init_5 : decode cX7_init 5 = .ok (.sipush 349, 3) := by decide +kernel
theorem dX7_init_8 : decode cX7_init 8 = .ok (.newarray .int, 2) := by decide +kernel
theorem dX7_init_10 : decode cX7_init 10 = .ok (.putfield 7, 3) := by decide +kernel
theorem dX7_init_13 : decode cX7_init 13 = .ok (.aload_n 0, 1) := by decide +kernel
theorem dX7_init_14 : decode cX7_init 14 = .ok (.sipush 349, 3) := by decide +kernel
theorem dX7_init_17 : decode cX7_init 17 = .ok (.newarray .int, 2) := by decide +kernel
theorem dX7_init_19 : decode cX7_init 19 = .ok (.putfield 13, 3) := by decide +kernel
theorem dX7_init_22 : decode cX7_init 22 = .ok (.aload_n 0, 1) := by decide +kernel
theorem dX7_init_23 : decode cX7_init 23 = .ok (.sipush 2094, 3) := by decide +kernel
theorem dX7_init_26 : decode cX7_init 26 = .ok (.newarray .int, 2) := by decide +kernel
theorem dX7_init_28 : decode cX7_init 28 = .ok (.putfield 16, 3) := by decide +kernel
theorem dX7_init_31 : decode cX7_init 31 = .ok (.aload_n 0, 1) := by decide +kernel
theorem dX7_init_32 : decode cX7_init 32 = .ok (.sipush 698, 3) := by decide +kernel
theorem dX7_init_35 : decode cX7_init 35 = .ok (.newarray .int, 2) := by decide +kernel
theorem dX7_init_37 : decode cX7_init 37 = .ok (.putfield 19, 3) := by decide +kernel
theorem dX7_init_40 : decode cX7_init 40 = .ok (.aload_n 0, 1) := by decide +kernel
theorem dX7_init_41 : decode cX7_init 41 = .ok (.iconst 2, 1) := by decide +kernel
theorem dX7_init_42 : decode cX7_init 42 = .ok (.newarray .boolean, 2) := by decide +kernel
theorem dX7_init_44 : decode cX7_init 44 = .ok (.putfield 22, 3) := by decide +kernel
theorem dX7_init_47 : decode cX7_init 47 = .ok (.aload_n 0, 1) := by decide +kernel
theorem dX7_init_48 : decode cX7_init 48 = .ok (.bipush 120, 2) := by decide +kernel
theorem dX7_init_50 : decode cX7_init 50 = .ok (.newarray .int, 2) := by decide +kernel
theorem dX7_init_52 : decode cX7_init 52 = .ok (.putfield 26, 3) := by decide +kernel
theorem dX7_init_55 : decode cX7_init 55 = .ok (.aload_n 0, 1) := by decide +kernel
theorem dX7_init_56 : decode cX7_init 56 = .ok (.bipush 12, 2) := by decide +kernel
theorem dX7_init_58 : decode cX7_init 58 = .ok (.newarray .int, 2) := by decide +kernel
theorem dX7_init_60 : decode cX7_init 60 = .ok (.putfield 29, 3) := by decide +kernel
theorem dX7_init_63 : decode cX7_init 63 = .ok (.aload_n 0, 1) := by decide +kernel
theorem dX7_init_64 : decode cX7_init 64 = .ok (.iconst 4, 1) := by decide +kernel
theorem dX7_init_65 : decode cX7_init 65 = .ok (.newarray .int, 2) := by decide +kernel
theorem dX7_init_67 : decode cX7_init 67 = .ok (.putfield 32, 3) := by decide +kernel
theorem dX7_init_70 : decode cX7_init 70 = .ok (.aload_n 0, 1) := by decide +kernel
theorem dX7_init_71 : decode cX7_init 71 = .ok (.iconst 4, 1) := by decide +kernel
theorem dX7_init_72 : decode cX7_init 72 = .ok (.newarray .int, 2) := by decide +kernel
theorem dX7_init_74 : decode cX7_init 74 = .ok (.putfield 35, 3) := by decide +kernel
theorem dX7_init_77 : decode cX7_init 77 = .ok (.aload_n 0, 1) := by decide +kernel
theorem dX7_init_78 : decode cX7_init 78 = .ok (.bipush 8, 2) := by decide +kernel
theorem dX7_init_80 : decode cX7_init 80 = .ok (.newarray .int, 2) := by decide +kernel
theorem dX7_init_82 : decode cX7_init 82 = .ok (.putfield 38, 3) := by decide +kernel
theorem dX7_init_85 : decode cX7_init 85 = .ok (.aload_n 0, 1) := by decide +kernel
theorem dX7_init_86 : decode cX7_init 86 = .ok (.bipush 8, 2) := by decide +kernel
theorem dX7_init_88 : decode cX7_init 88 = .ok (.newarray .int, 2) := by decide +kernel
theorem dX7_init_90 : decode cX7_init 90 = .ok (.putfield 41, 3) := by decide +kernel
theorem dX7_init_93 : decode cX7_init 93 = .ok (.aload_n 0, 1) := by decide +kernel
theorem dX7_init_94 : decode cX7_init 94 = .ok (.iconst 4, 1) := by decide +kernel
theorem dX7_init_95 : decode cX7_init 95 = .ok (.newarray .int, 2) := by decide +kernel
theorem dX7_init_97 : decode cX7_init 97 = .ok (.putfield 44, 3) := by decide +kernel
theorem dX7_init_100 : decode cX7_init 100 = .ok (.aload_n 0, 1) := by decide +kernel
theorem dX7_init_101 : decode cX7_init 101 = .ok (.iconst 4, 1) := by decide +kernel
theorem dX7_init_102 : decode cX7_init 102 = .ok (.newarray .int, 2) := by decide +kernel
theorem dX7_init_104 : decode cX7_init 104 = .ok (.putfield 47, 3) := by decide +kernel
theorem dX7_init_107 : decode cX7_init 107 = .ok (.aload_n 0, 1) := by decide +kernel
theorem dX7_init_108 : decode cX7_init 108 = .ok (.bipush 8, 2) := by decide +kernel
theorem dX7_init_110 : decode cX7_init 110 = .ok (.newarray .int, 2) := by decide +kernel
theorem dX7_init_112 : decode cX7_init 112 = .ok (.putfield 50, 3) := by decide +kernel
theorem dX7_init_115 : decode cX7_init 115 = .ok (.aload_n 0, 1) := by decide +kernel
theorem dX7_init_116 : decode cX7_init 116 = .ok (.bipush 8, 2) := by decide +kernel
theorem dX7_init_118 : decode cX7_init 118 = .ok (.newarray .int, 2) := by decide +kernel
theorem dX7_init_120 : decode cX7_init 120 = .ok (.putfield 53, 3) := by decide +kernel
theorem dX7_init_123 : decode cX7_init 123 = .ok (.aload_n 0, 1) := by decide +kernel
theorem dX7_init_124 : decode cX7_init 124 = .ok (.iconst 4, 1) := by decide +kernel
theorem dX7_init_125 : decode cX7_init 125 = .ok (.newarray .int, 2) := by decide +kernel
theorem dX7_init_127 : decode cX7_init 127 = .ok (.putfield 56, 3) := by decide +kernel
theorem dX7_init_130 : decode cX7_init 130 = .ok (.aload_n 0, 1) := by decide +kernel
theorem dX7_init_131 : decode cX7_init 131 = .ok (.iconst 4, 1) := by decide +kernel
theorem dX7_init_132 : decode cX7_init 132 = .ok (.newarray .boolean, 2) := by decide +kernel
theorem dX7_init_134 : decode cX7_init 134 = .ok (.putfield 59, 3) := by decide +kernel
theorem dX7_init_137 : decode cX7_init 137 = .ok (.aload_n 0, 1) := by decide +kernel
theorem dX7_init_138 : decode cX7_init 138 = .ok (.invokevirtual 62, 3) := by decide +kernel
theorem dX7_init_141 : decode cX7_init 141 = .ok (.aload_n 0, 1) := by decide +kernel
theorem dX7_init_142 : decode cX7_init 142 = .ok (.invokevirtual 65, 3) := by decide +kernel
theorem dX7_init_145 : decode cX7_init 145 = .ok (.return_, 1) := by decide +kernel
theorem dX7_in_0 : decode cX7_in 0 = .ok (.iload_n 0, 1) := by decide +kernel
theorem dX7_in_1 : decode cX7_in 1 = .ok (.iload_n 1, 1) := by decide +kernel
theorem dX7_in_2 : decode cX7_in 2 = .ok (.if_icmp .lt 12, 3) := by decide +kernel
theorem dX7_in_5 : decode cX7_in 5 = .ok (.iload_n 0, 1) := by decide +kernel
theorem dX7_in_6 : decode cX7_in 6 = .ok (.iload_n 2, 1) := by decide +kernel
theorem dX7_in_7 : decode cX7_in 7 = .ok (.if_icmp .gt 7, 3) := by decide +kernel
theorem dX7_in_10 : decode cX7_in 10 = .ok (.iconst 1, 1) := by decide +kernel
theorem dX7_in_11 : decode cX7_in 11 = .ok (.goto 4, 3) := by decide +kernel
theorem dX7_in_14 : decode cX7_in 14 = .ok (.iconst 0, 1) := by decide +kernel
theorem dX7_in_15 : decode cX7_in 15 = .ok (.ireturn, 1) := by decide +kernel
theorem dX7_size_0 : decode cX7_size 0 = .ok (.iload_n 0, 1) := by decide +kernel
theorem dX7_size_1 : decode cX7_size 1 = .ok (.ifCond .ge 8, 3) := by decide +kernel
theorem dX7_size_4 : decode cX7_size 4 = .ok (.iload_n 0, 1) := by decide +kernel
theorem dX7_size_5 : decode cX7_size 5 = .ok (.ineg, 1) := by decide +kernel
theorem dX7_size_6 : decode cX7_size 6 = .ok (.goto 4, 3) := by decide +kernel
theorem dX7_size_9 : decode cX7_size 9 = .ok (.iload_n 0, 1) := by decide +kernel
theorem dX7_size_10 : decode cX7_size 10 = .ok (.ireturn, 1) := by decide +kernel
theorem dX7_begins_0 : decode cX7_begins 0 = .ok (.aload_n 0, 1) := by decide +kernel
theorem dX7_begins_1 : decode cX7_begins 1 = .ok (.iconst 1, 1) := by decide +kernel
theorem dX7_begins_2 : decode cX7_begins 2 = .ok (.putfield 68, 3) := by decide +kernel
theorem dX7_begins_5 : decode cX7_begins 5 = .ok (.aload_n 0, 1) := by decide +kernel
theorem dX7_begins_6 : decode cX7_begins 6 = .ok (.iconst 0, 1) := by decide +kernel
theorem dX7_begins_7 : decode cX7_begins 7 = .ok (.putfield 72, 3) := by decide +kernel
theorem dX7_begins_10 : decode cX7_begins 10 = .ok (.aload_n 0, 1) := by decide +kernel
theorem dX7_begins_11 : decode cX7_begins 11 = .ok (.getfield 56, 3) := by decide +kernel
theorem dX7_begins_14 : decode cX7_begins 14 = .ok (.iconst 0, 1) := by decide +kernel
theorem dX7_begins_15 : decode cX7_begins 15 = .ok (.iconst 3, 1) := by decide +kernel
theorem dX7_begins_16 : decode cX7_begins 16 = .ok (.iastore, 1) := by decide +kernel
theorem dX7_begins_17 : decode cX7_begins 17 = .ok (.aload_n 0, 1) := by decide +kernel
theorem dX7_begins_18 : decode cX7_begins 18 = .ok (.getfield 56, 3) := by decide +kernel
theorem dX7_begins_21 : decode cX7_begins 21 = .ok (.iconst 1, 1) := by decide +kernel
theorem dX7_begins_22 : decode cX7_begins 22 = .ok (.iconst 3, 1) := by decide +kernel
theorem dX7_begins_23 : decode cX7_begins 23 = .ok (.iastore, 1) := by decide +kernel
theorem dX7_begins_24 : decode cX7_begins 24 = .ok (.aload_n 0, 1) := by decide +kernel
theorem dX7_begins_25 : decode cX7_begins 25 = .ok (.getfield 56, 3) := by decide +kernel
theorem dX7_begins_28 : decode cX7_begins 28 = .ok (.iconst 2, 1) := by decide +kernel
theorem dX7_begins_29 : decode cX7_begins 29 = .ok (.iconst 1, 1) := by decide +kernel
theorem dX7_begins_30 : decode cX7_begins 30 = .ok (.iastore, 1) := by decide +kernel
theorem dX7_begins_31 : decode cX7_begins 31 = .ok (.aload_n 0, 1) := by decide +kernel
theorem dX7_begins_32 : decode cX7_begins 32 = .ok (.getfield 56, 3) := by decide +kernel
theorem dX7_begins_35 : decode cX7_begins 35 = .ok (.iconst 3, 1) := by decide +kernel
theorem dX7_begins_36 : decode cX7_begins 36 = .ok (.iconst 5, 1) := by decide +kernel
theorem dX7_begins_37 : decode cX7_begins 37 = .ok (.iastore, 1) := by decide +kernel
theorem dX7_begins_38 : decode cX7_begins 38 = .ok (.iconst 0, 1) := by decide +kernel
theorem dX7_begins_39 : decode cX7_begins 39 = .ok (.istore_n 1, 1) := by decide +kernel
theorem dX7_begins_40 : decode cX7_begins 40 = .ok (.iload_n 1, 1) := by decide +kernel
theorem dX7_begins_41 : decode cX7_begins 41 = .ok (.iconst 4, 1) := by decide +kernel
theorem dX7_begins_42 : decode cX7_begins 42 = .ok (.if_icmp .ge 16, 3) := by decide +kernel
theorem dX7_begins_45 : decode cX7_begins 45 = .ok (.aload_n 0, 1) := by decide +kernel
theorem dX7_begins_46 : decode cX7_begins 46 = .ok (.getfield 59, 3) := by decide +kernel
theorem dX7_begins_49 : decode cX7_begins 49 = .ok (.iload_n 1, 1) := by decide +kernel
theorem dX7_begins_50 : decode cX7_begins 50 = .ok (.iconst 0, 1) := by decide +kernel
theorem dX7_begins_51 : decode cX7_begins 51 = .ok (.bastore, 1) := by decide +kernel
theorem dX7_begins_52 : decode cX7_begins 52 = .ok (.iinc 1 1, 3) := by decide +kernel
theorem dX7_begins_55 : decode cX7_begins 55 = .ok (.goto (-15), 3) := by decide +kernel
theorem dX7_begins_58 : decode cX7_begins 58 = .ok (.return_, 1) := by decide +kernel
theorem dX7_takes_0 : decode cX7_takes 0 = .ok (.aload_n 0, 1) := by decide +kernel
theorem dX7_takes_1 : decode cX7_takes 1 = .ok (.aload_n 0, 1) := by decide +kernel
theorem dX7_takes_2 : decode cX7_takes 2 = .ok (.getfield 68, 3) := by decide +kernel
theorem dX7_takes_5 : decode cX7_takes 5 = .ok (.putfield 75, 3) := by decide +kernel
theorem dX7_takes_8 : decode cX7_takes 8 = .ok (.aload_n 0, 1) := by decide +kernel
theorem dX7_takes_9 : decode cX7_takes 9 = .ok (.aload_n 0, 1) := by decide +kernel
theorem dX7_takes_10 : decode cX7_takes 10 = .ok (.getfield 72, 3) := by decide +kernel
theorem dX7_takes_13 : decode cX7_takes 13 = .ok (.putfield 78, 3) := by decide +kernel
theorem dX7_takes_16 : decode cX7_takes 16 = .ok (.iconst 0, 1) := by decide +kernel
theorem dX7_takes_17 : decode cX7_takes 17 = .ok (.istore_n 1, 1) := by decide +kernel
theorem dX7_takes_18 : decode cX7_takes 18 = .ok (.iload_n 1, 1) := by decide +kernel
theorem dX7_takes_19 : decode cX7_takes 19 = .ok (.iconst 4, 1) := by decide +kernel
theorem dX7_takes_20 : decode cX7_takes 20 = .ok (.if_icmp .ge 70, 3) := by decide +kernel
theorem dX7_takes_23 : decode cX7_takes 23 = .ok (.aload_n 0, 1) := by decide +kernel
theorem dX7_takes_24 : decode cX7_takes 24 = .ok (.getfield 32, 3) := by decide +kernel
theorem dX7_takes_27 : decode cX7_takes 27 = .ok (.iload_n 1, 1) := by decide +kernel
theorem dX7_takes_28 : decode cX7_takes 28 = .ok (.iload_n 1, 1) := by decide +kernel
theorem dX7_takes_29 : decode cX7_takes 29 = .ok (.ifCond .ne 7, 3) := by decide +kernel
theorem dX7_takes_32 : decode cX7_takes 32 = .ok (.iconst 0, 1) := by decide +kernel
theorem dX7_takes_33 : decode cX7_takes 33 = .ok (.goto 9, 3) := by decide +kernel
theorem dX7_takes_36 : decode cX7_takes 36 = .ok (.aload_n 0, 1) := by decide +kernel
theorem dX7_takes_37 : decode cX7_takes 37 = .ok (.getfield 47, 3) := by decide +kernel
theorem dX7_takes_40 : decode cX7_takes 40 = .ok (.iload_n 1, 1) := by decide +kernel
theorem dX7_takes_41 : decode cX7_takes 41 = .ok (.iaload, 1) := by decide +kernel
theorem dX7_takes_42 : decode cX7_takes 42 = .ok (.iastore, 1) := by decide +kernel
theorem dX7_takes_43 : decode cX7_takes 43 = .ok (.aload_n 0, 1) := by decide +kernel
theorem dX7_takes_44 : decode cX7_takes 44 = .ok (.getfield 35, 3) := by decide +kernel
theorem dX7_takes_47 : decode cX7_takes 47 = .ok (.iload_n 1, 1) := by decide +kernel
theorem dX7_takes_48 : decode cX7_takes 48 = .ok (.iload_n 1, 1) := by decide +kernel
theorem dX7_takes_49 : decode cX7_takes 49 = .ok (.ifCond .ne 7, 3) := by decide +kernel
theorem dX7_takes_52 : decode cX7_takes 52 = .ok (.iconst 0, 1) := by decide +kernel
theorem dX7_takes_53 : decode cX7_takes 53 = .ok (.goto 18, 3) := by decide +kernel
theorem dX7_takes_56 : decode cX7_takes 56 = .ok (.aload_n 0, 1) := by decide +kernel
theorem dX7_takes_57 : decode cX7_takes 57 = .ok (.getfield 35, 3) := by decide +kernel
theorem dX7_takes_60 : decode cX7_takes 60 = .ok (.iload_n 1, 1) := by decide +kernel
theorem dX7_takes_61 : decode cX7_takes 61 = .ok (.iconst 1, 1) := by decide +kernel
theorem dX7_takes_62 : decode cX7_takes 62 = .ok (.isub, 1) := by decide +kernel
theorem dX7_takes_63 : decode cX7_takes 63 = .ok (.iaload, 1) := by decide +kernel
theorem dX7_takes_64 : decode cX7_takes 64 = .ok (.aload_n 0, 1) := by decide +kernel
theorem dX7_takes_65 : decode cX7_takes 65 = .ok (.getfield 32, 3) := by decide +kernel
theorem dX7_takes_68 : decode cX7_takes 68 = .ok (.iload_n 1, 1) := by decide +kernel
theorem dX7_takes_69 : decode cX7_takes 69 = .ok (.iaload, 1) := by decide +kernel
theorem dX7_takes_70 : decode cX7_takes 70 = .ok (.iadd, 1) := by decide +kernel
theorem dX7_takes_71 : decode cX7_takes 71 = .ok (.iastore, 1) := by decide +kernel
theorem dX7_takes_72 : decode cX7_takes 72 = .ok (.aload_n 0, 1) := by decide +kernel
theorem dX7_takes_73 : decode cX7_takes 73 = .ok (.getfield 44, 3) := by decide +kernel
theorem dX7_takes_76 : decode cX7_takes 76 = .ok (.iload_n 1, 1) := by decide +kernel
theorem dX7_takes_77 : decode cX7_takes 77 = .ok (.aload_n 0, 1) := by decide +kernel
theorem dX7_takes_78 : decode cX7_takes 78 = .ok (.getfield 56, 3) := by decide +kernel
theorem dX7_takes_81 : decode cX7_takes 81 = .ok (.iload_n 1, 1) := by decide +kernel
theorem dX7_takes_82 : decode cX7_takes 82 = .ok (.iaload, 1) := by decide +kernel
theorem dX7_takes_83 : decode cX7_takes 83 = .ok (.iastore, 1) := by decide +kernel
theorem dX7_takes_84 : decode cX7_takes 84 = .ok (.iinc 1 1, 3) := by decide +kernel
theorem dX7_takes_87 : decode cX7_takes 87 = .ok (.goto (-69), 3) := by decide +kernel
theorem dX7_takes_90 : decode cX7_takes 90 = .ok (.iconst 0, 1) := by decide +kernel
theorem dX7_takes_91 : decode cX7_takes 91 = .ok (.istore_n 1, 1) := by decide +kernel
theorem dX7_takes_92 : decode cX7_takes 92 = .ok (.iload_n 1, 1) := by decide +kernel
theorem dX7_takes_93 : decode cX7_takes 93 = .ok (.bipush 8, 2) := by decide +kernel
theorem dX7_takes_95 : decode cX7_takes 95 = .ok (.if_icmp .ge 33, 3) := by decide +kernel
theorem dX7_takes_98 : decode cX7_takes 98 = .ok (.aload_n 0, 1) := by decide +kernel
theorem dX7_takes_99 : decode cX7_takes 99 = .ok (.getfield 38, 3) := by decide +kernel
theorem dX7_takes_102 : decode cX7_takes 102 = .ok (.iload_n 1, 1) := by decide +kernel
theorem dX7_takes_103 : decode cX7_takes 103 = .ok (.aload_n 0, 1) := by decide +kernel
theorem dX7_takes_104 : decode cX7_takes 104 = .ok (.getfield 50, 3) := by decide +kernel
theorem dX7_takes_107 : decode cX7_takes 107 = .ok (.iload_n 1, 1) := by decide +kernel
theorem dX7_takes_108 : decode cX7_takes 108 = .ok (.iaload, 1) := by decide +kernel
theorem dX7_takes_109 : decode cX7_takes 109 = .ok (.iastore, 1) := by decide +kernel
theorem dX7_takes_110 : decode cX7_takes 110 = .ok (.aload_n 0, 1) := by decide +kernel
theorem dX7_takes_111 : decode cX7_takes 111 = .ok (.getfield 41, 3) := by decide +kernel
theorem dX7_takes_114 : decode cX7_takes 114 = .ok (.iload_n 1, 1) := by decide +kernel
theorem dX7_takes_115 : decode cX7_takes 115 = .ok (.aload_n 0, 1) := by decide +kernel
theorem dX7_takes_116 : decode cX7_takes 116 = .ok (.getfield 53, 3) := by decide +kernel
theorem dX7_takes_119 : decode cX7_takes 119 = .ok (.iload_n 1, 1) := by decide +kernel
theorem dX7_takes_120 : decode cX7_takes 120 = .ok (.iaload, 1) := by decide +kernel
theorem dX7_takes_121 : decode cX7_takes 121 = .ok (.iastore, 1) := by decide +kernel
theorem dX7_takes_122 : decode cX7_takes 122 = .ok (.iinc 1 1, 3) := by decide +kernel
theorem dX7_takes_125 : decode cX7_takes 125 = .ok (.goto (-33), 3) := by decide +kernel
theorem dX7_takes_128 : decode cX7_takes 128 = .ok (.iconst 0, 1) := by decide +kernel
theorem dX7_takes_129 : decode cX7_takes 129 = .ok (.istore_n 1, 1) := by decide +kernel
theorem dX7_takes_130 : decode cX7_takes 130 = .ok (.iload_n 1, 1) := by decide +kernel
theorem dX7_takes_131 : decode cX7_takes 131 = .ok (.sipush 349, 3) := by decide +kernel
theorem dX7_takes_134 : decode cX7_takes 134 = .ok (.if_icmp .ge 16, 3) := by decide +kernel
theorem dX7_takes_137 : decode cX7_takes 137 = .ok (.aload_n 0, 1) := by decide +kernel
theorem dX7_takes_138 : decode cX7_takes 138 = .ok (.getfield 7, 3) := by decide +kernel
theorem dX7_takes_141 : decode cX7_takes 141 = .ok (.iload_n 1, 1) := by decide +kernel
theorem dX7_takes_142 : decode cX7_takes 142 = .ok (.iconst 0, 1) := by decide +kernel
theorem dX7_takes_143 : decode cX7_takes 143 = .ok (.iastore, 1) := by decide +kernel
theorem dX7_takes_144 : decode cX7_takes 144 = .ok (.iinc 1 1, 3) := by decide +kernel
theorem dX7_takes_147 : decode cX7_takes 147 = .ok (.goto (-17), 3) := by decide +kernel
theorem dX7_takes_150 : decode cX7_takes 150 = .ok (.aload_n 0, 1) := by decide +kernel
theorem dX7_takes_151 : decode cX7_takes 151 = .ok (.getfield 7, 3) := by decide +kernel
theorem dX7_takes_154 : decode cX7_takes 154 = .ok (.iconst 0, 1) := by decide +kernel
theorem dX7_takes_155 : decode cX7_takes 155 = .ok (.iconst 1, 1) := by decide +kernel
theorem dX7_takes_156 : decode cX7_takes 156 = .ok (.iastore, 1) := by decide +kernel
theorem dX7_takes_157 : decode cX7_takes 157 = .ok (.aload_n 0, 1) := by decide +kernel
theorem dX7_takes_158 : decode cX7_takes 158 = .ok (.getfield 7, 3) := by decide +kernel
theorem dX7_takes_161 : decode cX7_takes 161 = .ok (.iconst 1, 1) := by decide +kernel
theorem dX7_takes_162 : decode cX7_takes 162 = .ok (.aload_n 0, 1) := by decide +kernel
theorem dX7_takes_163 : decode cX7_takes 163 = .ok (.getfield 78, 3) := by decide +kernel
theorem dX7_takes_166 : decode cX7_takes 166 = .ok (.ifCond .le 7, 3) := by decide +kernel
theorem dX7_takes_169 : decode cX7_takes 169 = .ok (.iconst 0, 1) := by decide +kernel
theorem dX7_takes_170 : decode cX7_takes 170 = .ok (.goto 4, 3) := by decide +kernel
theorem dX7_takes_173 : decode cX7_takes 173 = .ok (.iconst (-1), 1) := by decide +kernel
theorem dX7_takes_174 : decode cX7_takes 174 = .ok (.iastore, 1) := by decide +kernel
theorem dX7_takes_175 : decode cX7_takes 175 = .ok (.aload_n 0, 1) := by decide +kernel
theorem dX7_takes_176 : decode cX7_takes 176 = .ok (.getfield 7, 3) := by decide +kernel
theorem dX7_takes_179 : decode cX7_takes 179 = .ok (.iconst 2, 1) := by decide +kernel
theorem dX7_takes_180 : decode cX7_takes 180 = .ok (.aload_n 0, 1) := by decide +kernel
theorem dX7_takes_181 : decode cX7_takes 181 = .ok (.getfield 78, 3) := by decide +kernel
theorem dX7_takes_184 : decode cX7_takes 184 = .ok (.ifCond .le 12, 3) := by decide +kernel
theorem dX7_takes_187 : decode cX7_takes 187 = .ok (.aload_n 0, 1) := by decide +kernel
theorem dX7_takes_188 : decode cX7_takes 188 = .ok (.getfield 38, 3) := by decide +kernel
theorem dX7_takes_191 : decode cX7_takes 191 = .ok (.iconst 0, 1) := by decide +kernel
theorem dX7_takes_192 : decode cX7_takes 192 = .ok (.iaload, 1) := by decide +kernel
theorem dX7_takes_193 : decode cX7_takes 193 = .ok (.goto 4, 3) := by decide +kernel
theorem dX7_takes_196 : decode cX7_takes 196 = .ok (.iconst 0, 1) := by decide +kernel
theorem dX7_takes_197 : decode cX7_takes 197 = .ok (.iastore, 1) := by decide +kernel
theorem dX7_takes_198 : decode cX7_takes 198 = .ok (.aload_n 0, 1) := by decide +kernel
theorem dX7_takes_199 : decode cX7_takes 199 = .ok (.getfield 7, 3) := by decide +kernel
theorem dX7_takes_202 : decode cX7_takes 202 = .ok (.iconst 4, 1) := by decide +kernel
theorem dX7_takes_203 : decode cX7_takes 203 = .ok (.iconst 1, 1) := by decide +kernel
theorem dX7_takes_204 : decode cX7_takes 204 = .ok (.iastore, 1) := by decide +kernel
theorem dX7_takes_205 : decode cX7_takes 205 = .ok (.aload_n 0, 1) := by decide +kernel
theorem dX7_takes_206 : decode cX7_takes 206 = .ok (.iconst 0, 1) := by decide +kernel
theorem dX7_takes_207 : decode cX7_takes 207 = .ok (.putfield 81, 3) := by decide +kernel
theorem dX7_takes_210 : decode cX7_takes 210 = .ok (.aload_n 0, 1) := by decide +kernel
theorem dX7_takes_211 : decode cX7_takes 211 = .ok (.iconst 0, 1) := by decide +kernel
theorem dX7_takes_212 : decode cX7_takes 212 = .ok (.putfield 84, 3) := by decide +kernel
theorem dX7_takes_215 : decode cX7_takes 215 = .ok (.aload_n 0, 1) := by decide +kernel
theorem dX7_takes_216 : decode cX7_takes 216 = .ok (.getfield 22, 3) := by decide +kernel
theorem dX7_takes_219 : decode cX7_takes 219 = .ok (.iconst 0, 1) := by decide +kernel
theorem dX7_takes_220 : decode cX7_takes 220 = .ok (.iconst 0, 1) := by decide +kernel
theorem dX7_takes_221 : decode cX7_takes 221 = .ok (.bastore, 1) := by decide +kernel
theorem dX7_takes_222 : decode cX7_takes 222 = .ok (.aload_n 0, 1) := by decide +kernel
theorem dX7_takes_223 : decode cX7_takes 223 = .ok (.getfield 22, 3) := by decide +kernel
theorem dX7_takes_226 : decode cX7_takes 226 = .ok (.iconst 1, 1) := by decide +kernel
theorem dX7_takes_227 : decode cX7_takes 227 = .ok (.iconst 0, 1) := by decide +kernel
theorem dX7_takes_228 : decode cX7_takes 228 = .ok (.bastore, 1) := by decide +kernel
theorem dX7_takes_229 : decode cX7_takes 229 = .ok (.return_, 1) := by decide +kernel
theorem dX7_blanks_0 : decode cX7_blanks 0 = .ok (.aload_n 0, 1) := by decide +kernel
theorem dX7_blanks_1 : decode cX7_blanks 1 = .ok (.getfield 87, 3) := by decide +kernel
theorem dX7_blanks_4 : decode cX7_blanks 4 = .ok (.aload_n 0, 1) := by decide +kernel
theorem dX7_blanks_5 : decode cX7_blanks 5 = .ok (.getfield 90, 3) := by decide +kernel
theorem dX7_blanks_8 : decode cX7_blanks 8 = .ok (.if_icmp .ge 30, 3) := by decide +kernel
theorem dX7_blanks_11 : decode cX7_blanks 11 = .ok (.aload_n 0, 1) := by decide +kernel
theorem dX7_blanks_12 : decode cX7_blanks 12 = .ok (.getfield 26, 3) := by decide +kernel
theorem dX7_blanks_15 : decode cX7_blanks 15 = .ok (.aload_n 0, 1) := by decide +kernel
theorem dX7_blanks_16 : decode cX7_blanks 16 = .ok (.getfield 87, 3) := by decide +kernel
theorem dX7_blanks_19 : decode cX7_blanks 19 = .ok (.iaload, 1) := by decide +kernel
theorem dX7_blanks_20 : decode cX7_blanks 20 = .ok (.bipush 32, 2) := by decide +kernel
theorem dX7_blanks_22 : decode cX7_blanks 22 = .ok (.if_icmp .ne 16, 3) := by decide +kernel
theorem dX7_blanks_25 : decode cX7_blanks 25 = .ok (.aload_n 0, 1) := by decide +kernel
theorem dX7_blanks_26 : decode cX7_blanks 26 = .ok (.dup, 1) := by decide +kernel
theorem dX7_blanks_27 : decode cX7_blanks 27 = .ok (.getfield 87, 3) := by decide +kernel
theorem dX7_blanks_30 : decode cX7_blanks 30 = .ok (.iconst 1, 1) := by decide +kernel
theorem dX7_blanks_31 : decode cX7_blanks 31 = .ok (.iadd, 1) := by decide +kernel
theorem dX7_blanks_32 : decode cX7_blanks 32 = .ok (.putfield 87, 3) := by decide +kernel
theorem dX7_blanks_35 : decode cX7_blanks 35 = .ok (.goto (-35), 3) := by decide +kernel
theorem dX7_blanks_38 : decode cX7_blanks 38 = .ok (.aload_n 0, 1) := by decide +kernel
theorem dX7_blanks_39 : decode cX7_blanks 39 = .ok (.aload_n 0, 1) := by decide +kernel
theorem dX7_blanks_40 : decode cX7_blanks 40 = .ok (.getfield 87, 3) := by decide +kernel
theorem dX7_blanks_43 : decode cX7_blanks 43 = .ok (.putfield 93, 3) := by decide +kernel
theorem dX7_blanks_46 : decode cX7_blanks 46 = .ok (.return_, 1) := by decide +kernel
theorem dX7_isAt_0 : decode cX7_isAt 0 = .ok (.aload_n 0, 1) := by decide +kernel
theorem dX7_isAt_1 : decode cX7_isAt 1 = .ok (.getfield 87, 3) := by decide +kernel
theorem dX7_isAt_4 : decode cX7_isAt 4 = .ok (.aload_n 0, 1) := by decide +kernel
theorem dX7_isAt_5 : decode cX7_isAt 5 = .ok (.getfield 90, 3) := by decide +kernel
theorem dX7_isAt_8 : decode cX7_isAt 8 = .ok (.if_icmp .ge 24, 3) := by decide +kernel
theorem dX7_isAt_11 : decode cX7_isAt 11 = .ok (.aload_n 0, 1) := by decide +kernel
theorem dX7_isAt_12 : decode cX7_isAt 12 = .ok (.getfield 26, 3) := by decide +kernel
theorem dX7_isAt_15 : decode cX7_isAt 15 = .ok (.aload_n 0, 1) := by decide +kernel
theorem dX7_isAt_16 : decode cX7_isAt 16 = .ok (.getfield 87, 3) := by decide +kernel
theorem dX7_isAt_19 : decode cX7_isAt 19 = .ok (.iaload, 1) := by decide +kernel
theorem dX7_isAt_20 : decode cX7_isAt 20 = .ok (.iload_n 1, 1) := by decide +kernel
theorem dX7_isAt_21 : decode cX7_isAt 21 = .ok (.iload_n 2, 1) := by decide +kernel
theorem dX7_isAt_22 : decode cX7_isAt 22 = .ok (.invokestatic 96, 3) := by decide +kernel
theorem dX7_isAt_25 : decode cX7_isAt 25 = .ok (.ifCond .eq 7, 3) := by decide +kernel
theorem dX7_isAt_28 : decode cX7_isAt 28 = .ok (.iconst 1, 1) := by decide +kernel
theorem dX7_isAt_29 : decode cX7_isAt 29 = .ok (.goto 4, 3) := by decide +kernel
theorem dX7_isAt_32 : decode cX7_isAt 32 = .ok (.iconst 0, 1) := by decide +kernel
theorem dX7_isAt_33 : decode cX7_isAt 33 = .ok (.ireturn, 1) := by decide +kernel
theorem dX7_takesSign_0 : decode cX7_takesSign 0 = .ok (.aload_n 0, 1) := by decide +kernel
theorem dX7_takesSign_1 : decode cX7_takesSign 1 = .ok (.invokevirtual 100, 3) := by decide +kernel
theorem dX7_takesSign_4 : decode cX7_takesSign 4 = .ok (.aload_n 0, 1) := by decide +kernel
theorem dX7_takesSign_5 : decode cX7_takesSign 5 = .ok (.iload_n 1, 1) := by decide +kernel
theorem dX7_takesSign_6 : decode cX7_takesSign 6 = .ok (.iload_n 1, 1) := by decide +kernel
theorem dX7_takesSign_7 : decode cX7_takesSign 7 = .ok (.invokevirtual 103, 3) := by decide +kernel
theorem dX7_takesSign_10 : decode cX7_takesSign 10 = .ok (.istore_n 2, 1) := by decide +kernel
theorem dX7_takesSign_11 : decode cX7_takesSign 11 = .ok (.aload_n 0, 1) := by decide +kernel
theorem dX7_takesSign_12 : decode cX7_takesSign 12 = .ok (.dup, 1) := by decide +kernel
theorem dX7_takesSign_13 : decode cX7_takesSign 13 = .ok (.getfield 87, 3) := by decide +kernel
theorem dX7_takesSign_16 : decode cX7_takesSign 16 = .ok (.iload_n 2, 1) := by decide +kernel
theorem dX7_takesSign_17 : decode cX7_takesSign 17 = .ok (.ifCond .eq 7, 3) := by decide +kernel
theorem dX7_takesSign_20 : decode cX7_takesSign 20 = .ok (.iconst 1, 1) := by decide +kernel
theorem dX7_takesSign_21 : decode cX7_takesSign 21 = .ok (.goto 4, 3) := by decide +kernel
theorem dX7_takesSign_24 : decode cX7_takesSign 24 = .ok (.iconst 0, 1) := by decide +kernel
theorem dX7_takesSign_25 : decode cX7_takesSign 25 = .ok (.iadd, 1) := by decide +kernel
theorem dX7_takesSign_26 : decode cX7_takesSign 26 = .ok (.putfield 87, 3) := by decide +kernel
theorem dX7_takesSign_29 : decode cX7_takesSign 29 = .ok (.iload_n 2, 1) := by decide +kernel
theorem dX7_takesSign_30 : decode cX7_takesSign 30 = .ok (.ireturn, 1) := by decide +kernel
theorem dX7_takesNumber_0 : decode cX7_takesNumber 0 = .ok (.aload_n 0, 1) := by decide +kernel
theorem dX7_takesNumber_1 : decode cX7_takesNumber 1 = .ok (.invokevirtual 100, 3) := by decide +kernel
theorem dX7_takesNumber_4 : decode cX7_takesNumber 4 = .ok (.aload_n 0, 1) := by decide +kernel
theorem dX7_takesNumber_5 : decode cX7_takesNumber 5 = .ok (.iconst 0, 1) := by decide +kernel
theorem dX7_takesNumber_6 : decode cX7_takesNumber 6 = .ok (.putfield 107, 3) := by decide +kernel
theorem dX7_takesNumber_9 : decode cX7_takesNumber 9 = .ok (.aload_n 0, 1) := by decide +kernel
theorem dX7_takesNumber_10 : decode cX7_takesNumber 10 = .ok (.bipush 48, 2) := by decide +kernel
theorem dX7_takesNumber_12 : decode cX7_takesNumber 12 = .ok (.bipush 57, 2) := by decide +kernel
theorem dX7_takesNumber_14 : decode cX7_takesNumber 14 = .ok (.invokevirtual 103, 3) := by decide +kernel
theorem dX7_takesNumber_17 : decode cX7_takesNumber 17 = .ok (.ifCond .eq 54, 3) := by decide +kernel
theorem dX7_takesNumber_20 : decode cX7_takesNumber 20 = .ok (.aload_n 0, 1) := by decide +kernel
theorem dX7_takesNumber_21 : decode cX7_takesNumber 21 = .ok (.aload_n 0, 1) := by decide +kernel
theorem dX7_takesNumber_22 : decode cX7_takesNumber 22 = .ok (.getfield 107, 3) := by decide +kernel
theorem dX7_takesNumber_25 : decode cX7_takesNumber 25 = .ok (.bipush 99, 2) := by decide +kernel
theorem dX7_takesNumber_27 : decode cX7_takesNumber 27 = .ok (.if_icmp .le 8, 3) := by decide +kernel
theorem dX7_takesNumber_30 : decode cX7_takesNumber 30 = .ok (.bipush 100, 2) := by decide +kernel
theorem dX7_takesNumber_32 : decode cX7_takesNumber 32 = .ok (.goto 23, 3) := by decide +kernel
theorem dX7_takesNumber_35 : decode cX7_takesNumber 35 = .ok (.bipush 10, 2) := by decide +kernel
theorem dX7_takesNumber_37 : decode cX7_takesNumber 37 = .ok (.aload_n 0, 1) := by decide +kernel
theorem dX7_takesNumber_38 : decode cX7_takesNumber 38 = .ok (.getfield 107, 3) := by decide +kernel
theorem dX7_takesNumber_41 : decode cX7_takesNumber 41 = .ok (.imul, 1) := by decide +kernel
theorem dX7_takesNumber_42 : decode cX7_takesNumber 42 = .ok (.aload_n 0, 1) := by decide +kernel
theorem dX7_takesNumber_43 : decode cX7_takesNumber 43 = .ok (.getfield 26, 3) := by decide +kernel
theorem dX7_takesNumber_46 : decode cX7_takesNumber 46 = .ok (.aload_n 0, 1) := by decide +kernel
theorem dX7_takesNumber_47 : decode cX7_takesNumber 47 = .ok (.getfield 87, 3) := by decide +kernel
theorem dX7_takesNumber_50 : decode cX7_takesNumber 50 = .ok (.iaload, 1) := by decide +kernel
theorem dX7_takesNumber_51 : decode cX7_takesNumber 51 = .ok (.iadd, 1) := by decide +kernel
theorem dX7_takesNumber_52 : decode cX7_takesNumber 52 = .ok (.bipush 48, 2) := by decide +kernel
theorem dX7_takesNumber_54 : decode cX7_takesNumber 54 = .ok (.isub, 1) := by decide +kernel
theorem dX7_takesNumber_55 : decode cX7_takesNumber 55 = .ok (.putfield 107, 3) := by decide +kernel
theorem dX7_takesNumber_58 : decode cX7_takesNumber 58 = .ok (.aload_n 0, 1) := by decide +kernel
theorem dX7_takesNumber_59 : decode cX7_takesNumber 59 = .ok (.dup, 1) := by decide +kernel
theorem dX7_takesNumber_60 : decode cX7_takesNumber 60 = .ok (.getfield 87, 3) := by decide +kernel
theorem dX7_takesNumber_63 : decode cX7_takesNumber 63 = .ok (.iconst 1, 1) := by decide +kernel
theorem dX7_takesNumber_64 : decode cX7_takesNumber 64 = .ok (.iadd, 1) := by decide +kernel
theorem dX7_takesNumber_65 : decode cX7_takesNumber 65 = .ok (.putfield 87, 3) := by decide +kernel
theorem dX7_takesNumber_68 : decode cX7_takesNumber 68 = .ok (.goto (-59), 3) := by decide +kernel
theorem dX7_takesNumber_71 : decode cX7_takesNumber 71 = .ok (.aload_n 0, 1) := by decide +kernel
theorem dX7_takesNumber_72 : decode cX7_takesNumber 72 = .ok (.getfield 87, 3) := by decide +kernel
theorem dX7_takesNumber_75 : decode cX7_takesNumber 75 = .ok (.aload_n 0, 1) := by decide +kernel
theorem dX7_takesNumber_76 : decode cX7_takesNumber 76 = .ok (.getfield 93, 3) := by decide +kernel
theorem dX7_takesNumber_79 : decode cX7_takesNumber 79 = .ok (.iconst 1, 1) := by decide +kernel
theorem dX7_takesNumber_80 : decode cX7_takesNumber 80 = .ok (.iadd, 1) := by decide +kernel
theorem dX7_takesNumber_81 : decode cX7_takesNumber 81 = .ok (.if_icmp .eq 28, 3) := by decide +kernel
theorem dX7_takesNumber_84 : decode cX7_takesNumber 84 = .ok (.aload_n 0, 1) := by decide +kernel
theorem dX7_takesNumber_85 : decode cX7_takesNumber 85 = .ok (.getfield 87, 3) := by decide +kernel
theorem dX7_takesNumber_88 : decode cX7_takesNumber 88 = .ok (.aload_n 0, 1) := by decide +kernel
theorem dX7_takesNumber_89 : decode cX7_takesNumber 89 = .ok (.getfield 93, 3) := by decide +kernel
theorem dX7_takesNumber_92 : decode cX7_takesNumber 92 = .ok (.if_icmp .le 21, 3) := by decide +kernel
theorem dX7_takesNumber_95 : decode cX7_takesNumber 95 = .ok (.aload_n 0, 1) := by decide +kernel
theorem dX7_takesNumber_96 : decode cX7_takesNumber 96 = .ok (.getfield 26, 3) := by decide +kernel
theorem dX7_takesNumber_99 : decode cX7_takesNumber 99 = .ok (.aload_n 0, 1) := by decide +kernel
theorem dX7_takesNumber_100 : decode cX7_takesNumber 100 = .ok (.getfield 93, 3) := by decide +kernel
theorem dX7_takesNumber_103 : decode cX7_takesNumber 103 = .ok (.iaload, 1) := by decide +kernel
theorem dX7_takesNumber_104 : decode cX7_takesNumber 104 = .ok (.bipush 48, 2) := by decide +kernel
theorem dX7_takesNumber_106 : decode cX7_takesNumber 106 = .ok (.if_icmp .eq 7, 3) := by decide +kernel
theorem dX7_takesNumber_109 : decode cX7_takesNumber 109 = .ok (.iconst 1, 1) := by decide +kernel
theorem dX7_takesNumber_110 : decode cX7_takesNumber 110 = .ok (.goto 4, 3) := by decide +kernel
theorem dX7_takesNumber_113 : decode cX7_takesNumber 113 = .ok (.iconst 0, 1) := by decide +kernel
theorem dX7_takesNumber_114 : decode cX7_takesNumber 114 = .ok (.istore_n 3, 1) := by decide +kernel
theorem dX7_takesNumber_115 : decode cX7_takesNumber 115 = .ok (.iload_n 3, 1) := by decide +kernel
theorem dX7_takesNumber_116 : decode cX7_takesNumber 116 = .ok (.ifCond .eq 19, 3) := by decide +kernel
theorem dX7_takesNumber_119 : decode cX7_takesNumber 119 = .ok (.aload_n 0, 1) := by decide +kernel
theorem dX7_takesNumber_120 : decode cX7_takesNumber 120 = .ok (.getfield 107, 3) := by decide +kernel
theorem dX7_takesNumber_123 : decode cX7_takesNumber 123 = .ok (.iload_n 1, 1) := by decide +kernel
theorem dX7_takesNumber_124 : decode cX7_takesNumber 124 = .ok (.iload_n 2, 1) := by decide +kernel
theorem dX7_takesNumber_125 : decode cX7_takesNumber 125 = .ok (.invokestatic 96, 3) := by decide +kernel
theorem dX7_takesNumber_128 : decode cX7_takesNumber 128 = .ok (.ifCond .eq 7, 3) := by decide +kernel
theorem dX7_takesNumber_131 : decode cX7_takesNumber 131 = .ok (.iconst 1, 1) := by decide +kernel
theorem dX7_takesNumber_132 : decode cX7_takesNumber 132 = .ok (.goto 4, 3) := by decide +kernel
theorem dX7_takesNumber_135 : decode cX7_takesNumber 135 = .ok (.iconst 0, 1) := by decide +kernel
theorem dX7_takesNumber_136 : decode cX7_takesNumber 136 = .ok (.ireturn, 1) := by decide +kernel
theorem dX7_takesUnit_0 : decode cX7_takesUnit 0 = .ok (.aload_n 0, 1) := by decide +kernel
theorem dX7_takesUnit_1 : decode cX7_takesUnit 1 = .ok (.getfield 68, 3) := by decide +kernel
theorem dX7_takesUnit_4 : decode cX7_takesUnit 4 = .ok (.iconst 4, 1) := by decide +kernel
theorem dX7_takesUnit_5 : decode cX7_takesUnit 5 = .ok (.if_icmp .ne 5, 3) := by decide +kernel
theorem dX7_takesUnit_8 : decode cX7_takesUnit 8 = .ok (.iconst 0, 1) := by decide +kernel
theorem dX7_takesUnit_9 : decode cX7_takesUnit 9 = .ok (.ireturn, 1) := by decide +kernel
theorem dX7_takesUnit_10 : decode cX7_takesUnit 10 = .ok (.aload_n 0, 1) := by decide +kernel
theorem dX7_takesUnit_11 : decode cX7_takesUnit 11 = .ok (.dup, 1) := by decide +kernel
theorem dX7_takesUnit_12 : decode cX7_takesUnit 12 = .ok (.getfield 87, 3) := by decide +kernel
theorem dX7_takesUnit_15 : decode cX7_takesUnit 15 = .ok (.iconst 1, 1) := by decide +kernel
theorem dX7_takesUnit_16 : decode cX7_takesUnit 16 = .ok (.iadd, 1) := by decide +kernel
theorem dX7_takesUnit_17 : decode cX7_takesUnit 17 = .ok (.putfield 87, 3) := by decide +kernel
theorem dX7_takesUnit_20 : decode cX7_takesUnit 20 = .ok (.aload_n 0, 1) := by decide +kernel
theorem dX7_takesUnit_21 : decode cX7_takesUnit 21 = .ok (.iconst 1, 1) := by decide +kernel
theorem dX7_takesUnit_22 : decode cX7_takesUnit 22 = .ok (.bipush 6, 2) := by decide +kernel
theorem dX7_takesUnit_24 : decode cX7_takesUnit 24 = .ok (.invokevirtual 110, 3) := by decide +kernel
theorem dX7_takesUnit_27 : decode cX7_takesUnit 27 = .ok (.ifCond .ne 5, 3) := by decide +kernel
theorem dX7_takesUnit_30 : decode cX7_takesUnit 30 = .ok (.iconst 0, 1) := by decide +kernel
theorem dX7_takesUnit_31 : decode cX7_takesUnit 31 = .ok (.ireturn, 1) := by decide +kernel
theorem dX7_takesUnit_32 : decode cX7_takesUnit 32 = .ok (.aload_n 0, 1) := by decide +kernel
theorem dX7_takesUnit_33 : decode cX7_takesUnit 33 = .ok (.getfield 47, 3) := by decide +kernel
theorem dX7_takesUnit_36 : decode cX7_takesUnit 36 = .ok (.aload_n 0, 1) := by decide +kernel
theorem dX7_takesUnit_37 : decode cX7_takesUnit 37 = .ok (.getfield 68, 3) := by decide +kernel
theorem dX7_takesUnit_40 : decode cX7_takesUnit 40 = .ok (.aload_n 0, 1) := by decide +kernel
theorem dX7_takesUnit_41 : decode cX7_takesUnit 41 = .ok (.getfield 107, 3) := by decide +kernel
theorem dX7_takesUnit_44 : decode cX7_takesUnit 44 = .ok (.iastore, 1) := by decide +kernel
theorem dX7_takesUnit_45 : decode cX7_takesUnit 45 = .ok (.aload_n 0, 1) := by decide +kernel
theorem dX7_takesUnit_46 : decode cX7_takesUnit 46 = .ok (.dup, 1) := by decide +kernel
theorem dX7_takesUnit_47 : decode cX7_takesUnit 47 = .ok (.getfield 68, 3) := by decide +kernel
theorem dX7_takesUnit_50 : decode cX7_takesUnit 50 = .ok (.iconst 1, 1) := by decide +kernel
theorem dX7_takesUnit_51 : decode cX7_takesUnit 51 = .ok (.iadd, 1) := by decide +kernel
theorem dX7_takesUnit_52 : decode cX7_takesUnit 52 = .ok (.putfield 68, 3) := by decide +kernel
theorem dX7_takesUnit_55 : decode cX7_takesUnit 55 = .ok (.aload_n 0, 1) := by decide +kernel
theorem dX7_takesUnit_56 : decode cX7_takesUnit 56 = .ok (.bipush 59, 2) := by decide +kernel
theorem dX7_takesUnit_58 : decode cX7_takesUnit 58 = .ok (.invokevirtual 113, 3) := by decide +kernel
theorem dX7_takesUnit_61 : decode cX7_takesUnit 61 = .ok (.ireturn, 1) := by decide +kernel
theorem dX7_takesReel_0 : decode cX7_takesReel 0 = .ok (.aload_n 0, 1) := by decide +kernel
theorem dX7_takesReel_1 : decode cX7_takesReel 1 = .ok (.getfield 72, 3) := by decide +kernel
theorem dX7_takesReel_4 : decode cX7_takesReel 4 = .ok (.bipush 8, 2) := by decide +kernel
theorem dX7_takesReel_6 : decode cX7_takesReel 6 = .ok (.if_icmp .ne 5, 3) := by decide +kernel
theorem dX7_takesReel_9 : decode cX7_takesReel 9 = .ok (.iconst 0, 1) := by decide +kernel
theorem dX7_takesReel_10 : decode cX7_takesReel 10 = .ok (.ireturn, 1) := by decide +kernel
theorem dX7_takesReel_11 : decode cX7_takesReel 11 = .ok (.aload_n 0, 1) := by decide +kernel
theorem dX7_takesReel_12 : decode cX7_takesReel 12 = .ok (.dup, 1) := by decide +kernel
theorem dX7_takesReel_13 : decode cX7_takesReel 13 = .ok (.getfield 87, 3) := by decide +kernel
theorem dX7_takesReel_16 : decode cX7_takesReel 16 = .ok (.iconst 1, 1) := by decide +kernel
theorem dX7_takesReel_17 : decode cX7_takesReel 17 = .ok (.iadd, 1) := by decide +kernel
theorem dX7_takesReel_18 : decode cX7_takesReel 18 = .ok (.putfield 87, 3) := by decide +kernel
theorem dX7_takesReel_21 : decode cX7_takesReel 21 = .ok (.aload_n 0, 1) := by decide +kernel
theorem dX7_takesReel_22 : decode cX7_takesReel 22 = .ok (.iconst 1, 1) := by decide +kernel
theorem dX7_takesReel_23 : decode cX7_takesReel 23 = .ok (.bipush 99, 2) := by decide +kernel
theorem dX7_takesReel_25 : decode cX7_takesReel 25 = .ok (.invokevirtual 110, 3) := by decide +kernel
theorem dX7_takesReel_28 : decode cX7_takesReel 28 = .ok (.ifCond .ne 5, 3) := by decide +kernel
theorem dX7_takesReel_31 : decode cX7_takesReel 31 = .ok (.iconst 0, 1) := by decide +kernel
theorem dX7_takesReel_32 : decode cX7_takesReel 32 = .ok (.ireturn, 1) := by decide +kernel
theorem dX7_takesReel_33 : decode cX7_takesReel 33 = .ok (.aload_n 0, 1) := by decide +kernel
theorem dX7_takesReel_34 : decode cX7_takesReel 34 = .ok (.getfield 50, 3) := by decide +kernel
theorem dX7_takesReel_37 : decode cX7_takesReel 37 = .ok (.aload_n 0, 1) := by decide +kernel
theorem dX7_takesReel_38 : decode cX7_takesReel 38 = .ok (.getfield 72, 3) := by decide +kernel
theorem dX7_takesReel_41 : decode cX7_takesReel 41 = .ok (.aload_n 0, 1) := by decide +kernel
theorem dX7_takesReel_42 : decode cX7_takesReel 42 = .ok (.getfield 107, 3) := by decide +kernel
theorem dX7_takesReel_45 : decode cX7_takesReel 45 = .ok (.iastore, 1) := by decide +kernel
theorem dX7_takesReel_46 : decode cX7_takesReel 46 = .ok (.aload_n 0, 1) := by decide +kernel
theorem dX7_takesReel_47 : decode cX7_takesReel 47 = .ok (.bipush 45, 2) := by decide +kernel
theorem dX7_takesReel_49 : decode cX7_takesReel 49 = .ok (.invokevirtual 113, 3) := by decide +kernel
theorem dX7_takesReel_52 : decode cX7_takesReel 52 = .ok (.istore_n 1, 1) := by decide +kernel
theorem dX7_takesReel_53 : decode cX7_takesReel 53 = .ok (.aload_n 0, 1) := by decide +kernel
theorem dX7_takesReel_54 : decode cX7_takesReel 54 = .ok (.iconst 0, 1) := by decide +kernel
theorem dX7_takesReel_55 : decode cX7_takesReel 55 = .ok (.bipush 9, 2) := by decide +kernel
theorem dX7_takesReel_57 : decode cX7_takesReel 57 = .ok (.invokevirtual 110, 3) := by decide +kernel
theorem dX7_takesReel_60 : decode cX7_takesReel 60 = .ok (.ifCond .ne 5, 3) := by decide +kernel
theorem dX7_takesReel_63 : decode cX7_takesReel 63 = .ok (.iconst 0, 1) := by decide +kernel
theorem dX7_takesReel_64 : decode cX7_takesReel 64 = .ok (.ireturn, 1) := by decide +kernel
theorem dX7_takesReel_65 : decode cX7_takesReel 65 = .ok (.aload_n 0, 1) := by decide +kernel
theorem dX7_takesReel_66 : decode cX7_takesReel 66 = .ok (.getfield 53, 3) := by decide +kernel
theorem dX7_takesReel_69 : decode cX7_takesReel 69 = .ok (.aload_n 0, 1) := by decide +kernel
theorem dX7_takesReel_70 : decode cX7_takesReel 70 = .ok (.getfield 72, 3) := by decide +kernel
theorem dX7_takesReel_73 : decode cX7_takesReel 73 = .ok (.iload_n 1, 1) := by decide +kernel
theorem dX7_takesReel_74 : decode cX7_takesReel 74 = .ok (.ifCond .eq 11, 3) := by decide +kernel
theorem dX7_takesReel_77 : decode cX7_takesReel 77 = .ok (.aload_n 0, 1) := by decide +kernel
theorem dX7_takesReel_78 : decode cX7_takesReel 78 = .ok (.getfield 107, 3) := by decide +kernel
theorem dX7_takesReel_81 : decode cX7_takesReel 81 = .ok (.ineg, 1) := by decide +kernel
theorem dX7_takesReel_82 : decode cX7_takesReel 82 = .ok (.goto 7, 3) := by decide +kernel
theorem dX7_takesReel_85 : decode cX7_takesReel 85 = .ok (.aload_n 0, 1) := by decide +kernel
theorem dX7_takesReel_86 : decode cX7_takesReel 86 = .ok (.getfield 107, 3) := by decide +kernel
theorem dX7_takesReel_89 : decode cX7_takesReel 89 = .ok (.iastore, 1) := by decide +kernel
theorem dX7_takesReel_90 : decode cX7_takesReel 90 = .ok (.aload_n 0, 1) := by decide +kernel
theorem dX7_takesReel_91 : decode cX7_takesReel 91 = .ok (.dup, 1) := by decide +kernel
theorem dX7_takesReel_92 : decode cX7_takesReel 92 = .ok (.getfield 72, 3) := by decide +kernel
theorem dX7_takesReel_95 : decode cX7_takesReel 95 = .ok (.iconst 1, 1) := by decide +kernel
theorem dX7_takesReel_96 : decode cX7_takesReel 96 = .ok (.iadd, 1) := by decide +kernel
theorem dX7_takesReel_97 : decode cX7_takesReel 97 = .ok (.putfield 72, 3) := by decide +kernel
theorem dX7_takesReel_100 : decode cX7_takesReel 100 = .ok (.aload_n 0, 1) := by decide +kernel
theorem dX7_takesReel_101 : decode cX7_takesReel 101 = .ok (.bipush 59, 2) := by decide +kernel
theorem dX7_takesReel_103 : decode cX7_takesReel 103 = .ok (.invokevirtual 113, 3) := by decide +kernel
theorem dX7_takesReel_106 : decode cX7_takesReel 106 = .ok (.ireturn, 1) := by decide +kernel
theorem dX7_takesSetting_0 : decode cX7_takesSetting 0 = .ok (.aload_n 0, 1) := by decide +kernel
theorem dX7_takesSetting_1 : decode cX7_takesSetting 1 = .ok (.getfield 59, 3) := by decide +kernel
theorem dX7_takesSetting_4 : decode cX7_takesSetting 4 = .ok (.iload_n 1, 1) := by decide +kernel
theorem dX7_takesSetting_5 : decode cX7_takesSetting 5 = .ok (.baload, 1) := by decide +kernel
theorem dX7_takesSetting_6 : decode cX7_takesSetting 6 = .ok (.ifCond .eq 5, 3) := by decide +kernel
theorem dX7_takesSetting_9 : decode cX7_takesSetting 9 = .ok (.iconst 0, 1) := by decide +kernel
theorem dX7_takesSetting_10 : decode cX7_takesSetting 10 = .ok (.ireturn, 1) := by decide +kernel
theorem dX7_takesSetting_11 : decode cX7_takesSetting 11 = .ok (.aload_n 0, 1) := by decide +kernel
theorem dX7_takesSetting_12 : decode cX7_takesSetting 12 = .ok (.getfield 59, 3) := by decide +kernel
theorem dX7_takesSetting_15 : decode cX7_takesSetting 15 = .ok (.iload_n 1, 1) := by decide +kernel
theorem dX7_takesSetting_16 : decode cX7_takesSetting 16 = .ok (.iconst 1, 1) := by decide +kernel
theorem dX7_takesSetting_17 : decode cX7_takesSetting 17 = .ok (.bastore, 1) := by decide +kernel
theorem dX7_takesSetting_18 : decode cX7_takesSetting 18 = .ok (.aload_n 0, 1) := by decide +kernel
theorem dX7_takesSetting_19 : decode cX7_takesSetting 19 = .ok (.dup, 1) := by decide +kernel
theorem dX7_takesSetting_20 : decode cX7_takesSetting 20 = .ok (.getfield 87, 3) := by decide +kernel
theorem dX7_takesSetting_23 : decode cX7_takesSetting 23 = .ok (.iconst 1, 1) := by decide +kernel
theorem dX7_takesSetting_24 : decode cX7_takesSetting 24 = .ok (.iadd, 1) := by decide +kernel
theorem dX7_takesSetting_25 : decode cX7_takesSetting 25 = .ok (.putfield 87, 3) := by decide +kernel
theorem dX7_takesSetting_28 : decode cX7_takesSetting 28 = .ok (.aload_n 0, 1) := by decide +kernel
theorem dX7_takesSetting_29 : decode cX7_takesSetting 29 = .ok (.iload_n 1, 1) := by decide +kernel
theorem dX7_takesSetting_30 : decode cX7_takesSetting 30 = .ok (.iconst 2, 1) := by decide +kernel
theorem dX7_takesSetting_31 : decode cX7_takesSetting 31 = .ok (.if_icmp .ne 7, 3) := by decide +kernel
theorem dX7_takesSetting_34 : decode cX7_takesSetting 34 = .ok (.iconst 0, 1) := by decide +kernel
theorem dX7_takesSetting_35 : decode cX7_takesSetting 35 = .ok (.goto 4, 3) := by decide +kernel
theorem dX7_takesSetting_38 : decode cX7_takesSetting 38 = .ok (.iconst 1, 1) := by decide +kernel
theorem dX7_takesSetting_39 : decode cX7_takesSetting 39 = .ok (.iload_n 1, 1) := by decide +kernel
theorem dX7_takesSetting_40 : decode cX7_takesSetting 40 = .ok (.ifCond .eq 8, 3) := by decide +kernel
theorem dX7_takesSetting_43 : decode cX7_takesSetting 43 = .ok (.iload_n 1, 1) := by decide +kernel
theorem dX7_takesSetting_44 : decode cX7_takesSetting 44 = .ok (.iconst 2, 1) := by decide +kernel
theorem dX7_takesSetting_45 : decode cX7_takesSetting 45 = .ok (.if_icmp .ne 8, 3) := by decide +kernel
theorem dX7_takesSetting_48 : decode cX7_takesSetting 48 = .ok (.bipush 9, 2) := by decide +kernel
theorem dX7_takesSetting_50 : decode cX7_takesSetting 50 = .ok (.goto 5, 3) := by decide +kernel
theorem dX7_takesSetting_53 : decode cX7_takesSetting 53 = .ok (.bipush 20, 2) := by decide +kernel
theorem dX7_takesSetting_55 : decode cX7_takesSetting 55 = .ok (.invokevirtual 110, 3) := by decide +kernel
theorem dX7_takesSetting_58 : decode cX7_takesSetting 58 = .ok (.ifCond .ne 5, 3) := by decide +kernel
theorem dX7_takesSetting_61 : decode cX7_takesSetting 61 = .ok (.iconst 0, 1) := by decide +kernel
theorem dX7_takesSetting_62 : decode cX7_takesSetting 62 = .ok (.ireturn, 1) := by decide +kernel
theorem dX7_takesSetting_63 : decode cX7_takesSetting 63 = .ok (.aload_n 0, 1) := by decide +kernel
theorem dX7_takesSetting_64 : decode cX7_takesSetting 64 = .ok (.getfield 56, 3) := by decide +kernel
theorem dX7_takesSetting_67 : decode cX7_takesSetting 67 = .ok (.iload_n 1, 1) := by decide +kernel
theorem dX7_takesSetting_68 : decode cX7_takesSetting 68 = .ok (.aload_n 0, 1) := by decide +kernel
theorem dX7_takesSetting_69 : decode cX7_takesSetting 69 = .ok (.getfield 107, 3) := by decide +kernel
theorem dX7_takesSetting_72 : decode cX7_takesSetting 72 = .ok (.iastore, 1) := by decide +kernel
theorem dX7_takesSetting_73 : decode cX7_takesSetting 73 = .ok (.aload_n 0, 1) := by decide +kernel
theorem dX7_takesSetting_74 : decode cX7_takesSetting 74 = .ok (.bipush 59, 2) := by decide +kernel
theorem dX7_takesSetting_76 : decode cX7_takesSetting 76 = .ok (.invokevirtual 113, 3) := by decide +kernel
theorem dX7_takesSetting_79 : decode cX7_takesSetting 79 = .ok (.ireturn, 1) := by decide +kernel
theorem dX7_takesItem_0 : decode cX7_takesItem 0 = .ok (.aload_n 0, 1) := by decide +kernel
theorem dX7_takesItem_1 : decode cX7_takesItem 1 = .ok (.getfield 26, 3) := by decide +kernel
theorem dX7_takesItem_4 : decode cX7_takesItem 4 = .ok (.aload_n 0, 1) := by decide +kernel
theorem dX7_takesItem_5 : decode cX7_takesItem 5 = .ok (.getfield 87, 3) := by decide +kernel
theorem dX7_takesItem_8 : decode cX7_takesItem 8 = .ok (.iaload, 1) := by decide +kernel
theorem dX7_takesItem_9 : decode cX7_takesItem 9 = .ok (.tableswitch 117 101 117 #[93, 117, 117, 117, 105, 117, 117, 99, 117, 117, 117, 111, 117, 88, 117, 117, 83], 83) := by decide +kernel
theorem dX7_takesItem_92 : decode cX7_takesItem 92 = .ok (.aload_n 0, 1) := by decide +kernel
theorem dX7_takesItem_93 : decode cX7_takesItem 93 = .ok (.invokevirtual 117, 3) := by decide +kernel
theorem dX7_takesItem_96 : decode cX7_takesItem 96 = .ok (.ireturn, 1) := by decide +kernel
theorem dX7_takesItem_97 : decode cX7_takesItem 97 = .ok (.aload_n 0, 1) := by decide +kernel
theorem dX7_takesItem_98 : decode cX7_takesItem 98 = .ok (.invokevirtual 121, 3) := by decide +kernel
theorem dX7_takesItem_101 : decode cX7_takesItem 101 = .ok (.ireturn, 1) := by decide +kernel
theorem dX7_takesItem_102 : decode cX7_takesItem 102 = .ok (.aload_n 0, 1) := by decide +kernel
theorem dX7_takesItem_103 : decode cX7_takesItem 103 = .ok (.iconst 0, 1) := by decide +kernel
theorem dX7_takesItem_104 : decode cX7_takesItem 104 = .ok (.invokevirtual 124, 3) := by decide +kernel
theorem dX7_takesItem_107 : decode cX7_takesItem 107 = .ok (.ireturn, 1) := by decide +kernel
theorem dX7_takesItem_108 : decode cX7_takesItem 108 = .ok (.aload_n 0, 1) := by decide +kernel
theorem dX7_takesItem_109 : decode cX7_takesItem 109 = .ok (.iconst 1, 1) := by decide +kernel
theorem dX7_takesItem_110 : decode cX7_takesItem 110 = .ok (.invokevirtual 124, 3) := by decide +kernel
theorem dX7_takesItem_113 : decode cX7_takesItem 113 = .ok (.ireturn, 1) := by decide +kernel
theorem dX7_takesItem_114 : decode cX7_takesItem 114 = .ok (.aload_n 0, 1) := by decide +kernel
theorem dX7_takesItem_115 : decode cX7_takesItem 115 = .ok (.iconst 2, 1) := by decide +kernel
theorem dX7_takesItem_116 : decode cX7_takesItem 116 = .ok (.invokevirtual 124, 3) := by decide +kernel
theorem dX7_takesItem_119 : decode cX7_takesItem 119 = .ok (.ireturn, 1) := by decide +kernel
theorem dX7_takesItem_120 : decode cX7_takesItem 120 = .ok (.aload_n 0, 1) := by decide +kernel
theorem dX7_takesItem_121 : decode cX7_takesItem 121 = .ok (.iconst 3, 1) := by decide +kernel
theorem dX7_takesItem_122 : decode cX7_takesItem 122 = .ok (.invokevirtual 124, 3) := by decide +kernel
theorem dX7_takesItem_125 : decode cX7_takesItem 125 = .ok (.ireturn, 1) := by decide +kernel
theorem dX7_takesItem_126 : decode cX7_takesItem 126 = .ok (.iconst 0, 1) := by decide +kernel
theorem dX7_takesItem_127 : decode cX7_takesItem 127 = .ok (.ireturn, 1) := by decide +kernel
theorem dX7_reads_0 : decode cX7_reads 0 = .ok (.aload_n 0, 1) := by decide +kernel
theorem dX7_reads_1 : decode cX7_reads 1 = .ok (.invokevirtual 62, 3) := by decide +kernel
theorem dX7_reads_4 : decode cX7_reads 4 = .ok (.aload_n 0, 1) := by decide +kernel
theorem dX7_reads_5 : decode cX7_reads 5 = .ok (.iconst 0, 1) := by decide +kernel
theorem dX7_reads_6 : decode cX7_reads 6 = .ok (.putfield 87, 3) := by decide +kernel
theorem dX7_reads_9 : decode cX7_reads 9 = .ok (.iconst 0, 1) := by decide +kernel
theorem dX7_reads_10 : decode cX7_reads 10 = .ok (.istore_n 1, 1) := by decide +kernel
theorem dX7_reads_11 : decode cX7_reads 11 = .ok (.aload_n 0, 1) := by decide +kernel
theorem dX7_reads_12 : decode cX7_reads 12 = .ok (.invokevirtual 100, 3) := by decide +kernel
theorem dX7_reads_15 : decode cX7_reads 15 = .ok (.aload_n 0, 1) := by decide +kernel
theorem dX7_reads_16 : decode cX7_reads 16 = .ok (.getfield 87, 3) := by decide +kernel
theorem dX7_reads_19 : decode cX7_reads 19 = .ok (.aload_n 0, 1) := by decide +kernel
theorem dX7_reads_20 : decode cX7_reads 20 = .ok (.getfield 90, 3) := by decide +kernel
theorem dX7_reads_23 : decode cX7_reads 23 = .ok (.if_icmp .ge 28, 3) := by decide +kernel
theorem dX7_reads_26 : decode cX7_reads 26 = .ok (.aload_n 0, 1) := by decide +kernel
theorem dX7_reads_27 : decode cX7_reads 27 = .ok (.invokevirtual 127, 3) := by decide +kernel
theorem dX7_reads_30 : decode cX7_reads 30 = .ok (.ifCond .ne 11, 3) := by decide +kernel
theorem dX7_reads_33 : decode cX7_reads 33 = .ok (.bipush (-10), 2) := by decide +kernel
theorem dX7_reads_35 : decode cX7_reads 35 = .ok (.aload_n 0, 1) := by decide +kernel
theorem dX7_reads_36 : decode cX7_reads 36 = .ok (.getfield 93, 3) := by decide +kernel
theorem dX7_reads_39 : decode cX7_reads 39 = .ok (.isub, 1) := by decide +kernel
theorem dX7_reads_40 : decode cX7_reads 40 = .ok (.ireturn, 1) := by decide +kernel
theorem dX7_reads_41 : decode cX7_reads 41 = .ok (.iinc 1 1, 3) := by decide +kernel
theorem dX7_reads_44 : decode cX7_reads 44 = .ok (.aload_n 0, 1) := by decide +kernel
theorem dX7_reads_45 : decode cX7_reads 45 = .ok (.invokevirtual 100, 3) := by decide +kernel
theorem dX7_reads_48 : decode cX7_reads 48 = .ok (.goto (-33), 3) := by decide +kernel
theorem dX7_reads_51 : decode cX7_reads 51 = .ok (.iload_n 1, 1) := by decide +kernel
theorem dX7_reads_52 : decode cX7_reads 52 = .ok (.ireturn, 1) := by decide +kernel
theorem dX7_type_0 : decode cX7_type 0 = .ok (.iload_n 1, 1) := by decide +kernel
theorem dX7_type_1 : decode cX7_type 1 = .ok (.iconst 0, 1) := by decide +kernel
theorem dX7_type_2 : decode cX7_type 2 = .ok (.sipush 255, 3) := by decide +kernel
theorem dX7_type_5 : decode cX7_type 5 = .ok (.invokestatic 96, 3) := by decide +kernel
theorem dX7_type_8 : decode cX7_type 8 = .ok (.ifCond .ne 5, 3) := by decide +kernel
theorem dX7_type_11 : decode cX7_type 11 = .ok (.iconst (-1), 1) := by decide +kernel
theorem dX7_type_12 : decode cX7_type 12 = .ok (.ireturn, 1) := by decide +kernel
theorem dX7_type_13 : decode cX7_type 13 = .ok (.aload_n 0, 1) := by decide +kernel
theorem dX7_type_14 : decode cX7_type 14 = .ok (.getfield 90, 3) := by decide +kernel
theorem dX7_type_17 : decode cX7_type 17 = .ok (.bipush 120, 2) := by decide +kernel
theorem dX7_type_19 : decode cX7_type 19 = .ok (.if_icmp .ne 6, 3) := by decide +kernel
theorem dX7_type_22 : decode cX7_type 22 = .ok (.bipush (-3), 2) := by decide +kernel
theorem dX7_type_24 : decode cX7_type 24 = .ok (.ireturn, 1) := by decide +kernel
theorem dX7_type_25 : decode cX7_type 25 = .ok (.aload_n 0, 1) := by decide +kernel
theorem dX7_type_26 : decode cX7_type 26 = .ok (.getfield 26, 3) := by decide +kernel
theorem dX7_type_29 : decode cX7_type 29 = .ok (.aload_n 0, 1) := by decide +kernel
theorem dX7_type_30 : decode cX7_type 30 = .ok (.getfield 90, 3) := by decide +kernel
theorem dX7_type_33 : decode cX7_type 33 = .ok (.iload_n 1, 1) := by decide +kernel
theorem dX7_type_34 : decode cX7_type 34 = .ok (.iastore, 1) := by decide +kernel
theorem dX7_type_35 : decode cX7_type 35 = .ok (.aload_n 0, 1) := by decide +kernel
theorem dX7_type_36 : decode cX7_type 36 = .ok (.dup, 1) := by decide +kernel
theorem dX7_type_37 : decode cX7_type 37 = .ok (.getfield 90, 3) := by decide +kernel
theorem dX7_type_40 : decode cX7_type 40 = .ok (.iconst 1, 1) := by decide +kernel
theorem dX7_type_41 : decode cX7_type 41 = .ok (.iadd, 1) := by decide +kernel
theorem dX7_type_42 : decode cX7_type 42 = .ok (.putfield 90, 3) := by decide +kernel
theorem dX7_type_45 : decode cX7_type 45 = .ok (.aload_n 0, 1) := by decide +kernel
theorem dX7_type_46 : decode cX7_type 46 = .ok (.getfield 90, 3) := by decide +kernel
theorem dX7_type_49 : decode cX7_type 49 = .ok (.ireturn, 1) := by decide +kernel
theorem dX7_clear_0 : decode cX7_clear 0 = .ok (.aload_n 0, 1) := by decide +kernel
theorem dX7_clear_1 : decode cX7_clear 1 = .ok (.getfield 90, 3) := by decide +kernel
theorem dX7_clear_4 : decode cX7_clear 4 = .ok (.istore_n 1, 1) := by decide +kernel
theorem dX7_clear_5 : decode cX7_clear 5 = .ok (.aload_n 0, 1) := by decide +kernel
theorem dX7_clear_6 : decode cX7_clear 6 = .ok (.iconst 0, 1) := by decide +kernel
theorem dX7_clear_7 : decode cX7_clear 7 = .ok (.putfield 90, 3) := by decide +kernel
theorem dX7_clear_10 : decode cX7_clear 10 = .ok (.iload_n 1, 1) := by decide +kernel
theorem dX7_clear_11 : decode cX7_clear 11 = .ok (.ireturn, 1) := by decide +kernel
theorem dX7_tells_0 : decode cX7_tells 0 = .ok (.aload_n 0, 1) := by decide +kernel
theorem dX7_tells_1 : decode cX7_tells 1 = .ok (.invokevirtual 130, 3) := by decide +kernel
theorem dX7_tells_4 : decode cX7_tells 4 = .ok (.istore_n 1, 1) := by decide +kernel
theorem dX7_tells_5 : decode cX7_tells 5 = .ok (.iload_n 1, 1) := by decide +kernel
theorem dX7_tells_6 : decode cX7_tells 6 = .ok (.ifCond .lt 12, 3) := by decide +kernel
theorem dX7_tells_9 : decode cX7_tells 9 = .ok (.aload_n 0, 1) := by decide +kernel
theorem dX7_tells_10 : decode cX7_tells 10 = .ok (.invokevirtual 65, 3) := by decide +kernel
theorem dX7_tells_13 : decode cX7_tells 13 = .ok (.aload_n 0, 1) := by decide +kernel
theorem dX7_tells_14 : decode cX7_tells 14 = .ok (.iconst 0, 1) := by decide +kernel
theorem dX7_tells_15 : decode cX7_tells 15 = .ok (.putfield 90, 3) := by decide +kernel
theorem dX7_tells_18 : decode cX7_tells 18 = .ok (.iload_n 1, 1) := by decide +kernel
theorem dX7_tells_19 : decode cX7_tells 19 = .ok (.ireturn, 1) := by decide +kernel
theorem dX7_remembers_0 : decode cX7_remembers 0 = .ok (.aload_n 0, 1) := by decide +kernel
theorem dX7_remembers_1 : decode cX7_remembers 1 = .ok (.getfield 81, 3) := by decide +kernel
theorem dX7_remembers_4 : decode cX7_remembers 4 = .ok (.bipush 6, 2) := by decide +kernel
theorem dX7_remembers_6 : decode cX7_remembers 6 = .ok (.if_icmp .ne 44, 3) := by decide +kernel
theorem dX7_remembers_9 : decode cX7_remembers 9 = .ok (.iconst 0, 1) := by decide +kernel
theorem dX7_remembers_10 : decode cX7_remembers 10 = .ok (.istore_n 1, 1) := by decide +kernel
theorem dX7_remembers_11 : decode cX7_remembers 11 = .ok (.iload_n 1, 1) := by decide +kernel
theorem dX7_remembers_12 : decode cX7_remembers 12 = .ok (.sipush 1745, 3) := by decide +kernel
theorem dX7_remembers_15 : decode cX7_remembers 15 = .ok (.if_icmp .ge 25, 3) := by decide +kernel
theorem dX7_remembers_18 : decode cX7_remembers 18 = .ok (.aload_n 0, 1) := by decide +kernel
theorem dX7_remembers_19 : decode cX7_remembers 19 = .ok (.getfield 16, 3) := by decide +kernel
theorem dX7_remembers_22 : decode cX7_remembers 22 = .ok (.iload_n 1, 1) := by decide +kernel
theorem dX7_remembers_23 : decode cX7_remembers 23 = .ok (.aload_n 0, 1) := by decide +kernel
theorem dX7_remembers_24 : decode cX7_remembers 24 = .ok (.getfield 16, 3) := by decide +kernel
theorem dX7_remembers_27 : decode cX7_remembers 27 = .ok (.iload_n 1, 1) := by decide +kernel
theorem dX7_remembers_28 : decode cX7_remembers 28 = .ok (.sipush 349, 3) := by decide +kernel
theorem dX7_remembers_31 : decode cX7_remembers 31 = .ok (.iadd, 1) := by decide +kernel
theorem dX7_remembers_32 : decode cX7_remembers 32 = .ok (.iaload, 1) := by decide +kernel
theorem dX7_remembers_33 : decode cX7_remembers 33 = .ok (.iastore, 1) := by decide +kernel
theorem dX7_remembers_34 : decode cX7_remembers 34 = .ok (.iinc 1 1, 3) := by decide +kernel
theorem dX7_remembers_37 : decode cX7_remembers 37 = .ok (.goto (-26), 3) := by decide +kernel
theorem dX7_remembers_40 : decode cX7_remembers 40 = .ok (.aload_n 0, 1) := by decide +kernel
theorem dX7_remembers_41 : decode cX7_remembers 41 = .ok (.dup, 1) := by decide +kernel
theorem dX7_remembers_42 : decode cX7_remembers 42 = .ok (.getfield 81, 3) := by decide +kernel
theorem dX7_remembers_45 : decode cX7_remembers 45 = .ok (.iconst 1, 1) := by decide +kernel
theorem dX7_remembers_46 : decode cX7_remembers 46 = .ok (.isub, 1) := by decide +kernel
theorem dX7_remembers_47 : decode cX7_remembers 47 = .ok (.putfield 81, 3) := by decide +kernel
theorem dX7_remembers_50 : decode cX7_remembers 50 = .ok (.iconst 0, 1) := by decide +kernel
theorem dX7_remembers_51 : decode cX7_remembers 51 = .ok (.istore_n 1, 1) := by decide +kernel
theorem dX7_remembers_52 : decode cX7_remembers 52 = .ok (.iload_n 1, 1) := by decide +kernel
theorem dX7_remembers_53 : decode cX7_remembers 53 = .ok (.sipush 349, 3) := by decide +kernel
theorem dX7_remembers_56 : decode cX7_remembers 56 = .ok (.if_icmp .ge 30, 3) := by decide +kernel
theorem dX7_remembers_59 : decode cX7_remembers 59 = .ok (.aload_n 0, 1) := by decide +kernel
theorem dX7_remembers_60 : decode cX7_remembers 60 = .ok (.getfield 16, 3) := by decide +kernel
theorem dX7_remembers_63 : decode cX7_remembers 63 = .ok (.sipush 349, 3) := by decide +kernel
theorem dX7_remembers_66 : decode cX7_remembers 66 = .ok (.aload_n 0, 1) := by decide +kernel
theorem dX7_remembers_67 : decode cX7_remembers 67 = .ok (.getfield 81, 3) := by decide +kernel
theorem dX7_remembers_70 : decode cX7_remembers 70 = .ok (.imul, 1) := by decide +kernel
theorem dX7_remembers_71 : decode cX7_remembers 71 = .ok (.iload_n 1, 1) := by decide +kernel
theorem dX7_remembers_72 : decode cX7_remembers 72 = .ok (.iadd, 1) := by decide +kernel
theorem dX7_remembers_73 : decode cX7_remembers 73 = .ok (.aload_n 0, 1) := by decide +kernel
theorem dX7_remembers_74 : decode cX7_remembers 74 = .ok (.getfield 7, 3) := by decide +kernel
theorem dX7_remembers_77 : decode cX7_remembers 77 = .ok (.iload_n 1, 1) := by decide +kernel
theorem dX7_remembers_78 : decode cX7_remembers 78 = .ok (.iaload, 1) := by decide +kernel
theorem dX7_remembers_79 : decode cX7_remembers 79 = .ok (.iastore, 1) := by decide +kernel
theorem dX7_remembers_80 : decode cX7_remembers 80 = .ok (.iinc 1 1, 3) := by decide +kernel
theorem dX7_remembers_83 : decode cX7_remembers 83 = .ok (.goto (-31), 3) := by decide +kernel
theorem dX7_remembers_86 : decode cX7_remembers 86 = .ok (.aload_n 0, 1) := by decide +kernel
theorem dX7_remembers_87 : decode cX7_remembers 87 = .ok (.dup, 1) := by decide +kernel
theorem dX7_remembers_88 : decode cX7_remembers 88 = .ok (.getfield 81, 3) := by decide +kernel
theorem dX7_remembers_91 : decode cX7_remembers 91 = .ok (.iconst 1, 1) := by decide +kernel
theorem dX7_remembers_92 : decode cX7_remembers 92 = .ok (.iadd, 1) := by decide +kernel
theorem dX7_remembers_93 : decode cX7_remembers 93 = .ok (.putfield 81, 3) := by decide +kernel
theorem dX7_remembers_96 : decode cX7_remembers 96 = .ok (.return_, 1) := by decide +kernel
theorem dX7_undo_0 : decode cX7_undo 0 = .ok (.aload_n 0, 1) := by decide +kernel
theorem dX7_undo_1 : decode cX7_undo 1 = .ok (.getfield 81, 3) := by decide +kernel
theorem dX7_undo_4 : decode cX7_undo 4 = .ok (.ifCond .ne 6, 3) := by decide +kernel
theorem dX7_undo_7 : decode cX7_undo 7 = .ok (.bipush (-2), 2) := by decide +kernel
theorem dX7_undo_9 : decode cX7_undo 9 = .ok (.ireturn, 1) := by decide +kernel
theorem dX7_undo_10 : decode cX7_undo 10 = .ok (.aload_n 0, 1) := by decide +kernel
theorem dX7_undo_11 : decode cX7_undo 11 = .ok (.dup, 1) := by decide +kernel
theorem dX7_undo_12 : decode cX7_undo 12 = .ok (.getfield 81, 3) := by decide +kernel
theorem dX7_undo_15 : decode cX7_undo 15 = .ok (.iconst 1, 1) := by decide +kernel
theorem dX7_undo_16 : decode cX7_undo 16 = .ok (.isub, 1) := by decide +kernel
theorem dX7_undo_17 : decode cX7_undo 17 = .ok (.putfield 81, 3) := by decide +kernel
theorem dX7_undo_20 : decode cX7_undo 20 = .ok (.iconst 0, 1) := by decide +kernel
theorem dX7_undo_21 : decode cX7_undo 21 = .ok (.istore_n 1, 1) := by decide +kernel
theorem dX7_undo_22 : decode cX7_undo 22 = .ok (.iload_n 1, 1) := by decide +kernel
theorem dX7_undo_23 : decode cX7_undo 23 = .ok (.sipush 349, 3) := by decide +kernel
theorem dX7_undo_26 : decode cX7_undo 26 = .ok (.if_icmp .ge 30, 3) := by decide +kernel
theorem dX7_undo_29 : decode cX7_undo 29 = .ok (.aload_n 0, 1) := by decide +kernel
theorem dX7_undo_30 : decode cX7_undo 30 = .ok (.getfield 7, 3) := by decide +kernel
theorem dX7_undo_33 : decode cX7_undo 33 = .ok (.iload_n 1, 1) := by decide +kernel
theorem dX7_undo_34 : decode cX7_undo 34 = .ok (.aload_n 0, 1) := by decide +kernel
theorem dX7_undo_35 : decode cX7_undo 35 = .ok (.getfield 16, 3) := by decide +kernel
theorem dX7_undo_38 : decode cX7_undo 38 = .ok (.sipush 349, 3) := by decide +kernel
theorem dX7_undo_41 : decode cX7_undo 41 = .ok (.aload_n 0, 1) := by decide +kernel
theorem dX7_undo_42 : decode cX7_undo 42 = .ok (.getfield 81, 3) := by decide +kernel
theorem dX7_undo_45 : decode cX7_undo 45 = .ok (.imul, 1) := by decide +kernel
theorem dX7_undo_46 : decode cX7_undo 46 = .ok (.iload_n 1, 1) := by decide +kernel
theorem dX7_undo_47 : decode cX7_undo 47 = .ok (.iadd, 1) := by decide +kernel
theorem dX7_undo_48 : decode cX7_undo 48 = .ok (.iaload, 1) := by decide +kernel
theorem dX7_undo_49 : decode cX7_undo 49 = .ok (.iastore, 1) := by decide +kernel
theorem dX7_undo_50 : decode cX7_undo 50 = .ok (.iinc 1 1, 3) := by decide +kernel
theorem dX7_undo_53 : decode cX7_undo 53 = .ok (.goto (-31), 3) := by decide +kernel
theorem dX7_undo_56 : decode cX7_undo 56 = .ok (.aload_n 0, 1) := by decide +kernel
theorem dX7_undo_57 : decode cX7_undo 57 = .ok (.getfield 81, 3) := by decide +kernel
theorem dX7_undo_60 : decode cX7_undo 60 = .ok (.ireturn, 1) := by decide +kernel
theorem dX7_laysAside_0 : decode cX7_laysAside 0 = .ok (.iconst 0, 1) := by decide +kernel
theorem dX7_laysAside_1 : decode cX7_laysAside 1 = .ok (.istore_n 1, 1) := by decide +kernel
theorem dX7_laysAside_2 : decode cX7_laysAside 2 = .ok (.iload_n 1, 1) := by decide +kernel
theorem dX7_laysAside_3 : decode cX7_laysAside 3 = .ok (.sipush 349, 3) := by decide +kernel
theorem dX7_laysAside_6 : decode cX7_laysAside 6 = .ok (.if_icmp .ge 21, 3) := by decide +kernel
theorem dX7_laysAside_9 : decode cX7_laysAside 9 = .ok (.aload_n 0, 1) := by decide +kernel
theorem dX7_laysAside_10 : decode cX7_laysAside 10 = .ok (.getfield 13, 3) := by decide +kernel
theorem dX7_laysAside_13 : decode cX7_laysAside 13 = .ok (.iload_n 1, 1) := by decide +kernel
theorem dX7_laysAside_14 : decode cX7_laysAside 14 = .ok (.aload_n 0, 1) := by decide +kernel
theorem dX7_laysAside_15 : decode cX7_laysAside 15 = .ok (.getfield 7, 3) := by decide +kernel
theorem dX7_laysAside_18 : decode cX7_laysAside 18 = .ok (.iload_n 1, 1) := by decide +kernel
theorem dX7_laysAside_19 : decode cX7_laysAside 19 = .ok (.iaload, 1) := by decide +kernel
theorem dX7_laysAside_20 : decode cX7_laysAside 20 = .ok (.iastore, 1) := by decide +kernel
theorem dX7_laysAside_21 : decode cX7_laysAside 21 = .ok (.iinc 1 1, 3) := by decide +kernel
theorem dX7_laysAside_24 : decode cX7_laysAside 24 = .ok (.goto (-22), 3) := by decide +kernel
theorem dX7_laysAside_27 : decode cX7_laysAside 27 = .ok (.return_, 1) := by decide +kernel
theorem dX7_comesBack_0 : decode cX7_comesBack 0 = .ok (.iconst 0, 1) := by decide +kernel
theorem dX7_comesBack_1 : decode cX7_comesBack 1 = .ok (.istore_n 1, 1) := by decide +kernel
theorem dX7_comesBack_2 : decode cX7_comesBack 2 = .ok (.iload_n 1, 1) := by decide +kernel
theorem dX7_comesBack_3 : decode cX7_comesBack 3 = .ok (.sipush 349, 3) := by decide +kernel
theorem dX7_comesBack_6 : decode cX7_comesBack 6 = .ok (.if_icmp .ge 21, 3) := by decide +kernel
theorem dX7_comesBack_9 : decode cX7_comesBack 9 = .ok (.aload_n 0, 1) := by decide +kernel
theorem dX7_comesBack_10 : decode cX7_comesBack 10 = .ok (.getfield 7, 3) := by decide +kernel
theorem dX7_comesBack_13 : decode cX7_comesBack 13 = .ok (.iload_n 1, 1) := by decide +kernel
theorem dX7_comesBack_14 : decode cX7_comesBack 14 = .ok (.aload_n 0, 1) := by decide +kernel
theorem dX7_comesBack_15 : decode cX7_comesBack 15 = .ok (.getfield 13, 3) := by decide +kernel
theorem dX7_comesBack_18 : decode cX7_comesBack 18 = .ok (.iload_n 1, 1) := by decide +kernel
theorem dX7_comesBack_19 : decode cX7_comesBack 19 = .ok (.iaload, 1) := by decide +kernel
theorem dX7_comesBack_20 : decode cX7_comesBack 20 = .ok (.iastore, 1) := by decide +kernel
theorem dX7_comesBack_21 : decode cX7_comesBack 21 = .ok (.iinc 1 1, 3) := by decide +kernel
theorem dX7_comesBack_24 : decode cX7_comesBack 24 = .ok (.goto (-22), 3) := by decide +kernel
theorem dX7_comesBack_27 : decode cX7_comesBack 27 = .ok (.return_, 1) := by decide +kernel
theorem dX7_nextReel_0 : decode cX7_nextReel 0 = .ok (.aload_n 0, 1) := by decide +kernel
theorem dX7_nextReel_1 : decode cX7_nextReel 1 = .ok (.getfield 7, 3) := by decide +kernel
theorem dX7_nextReel_4 : decode cX7_nextReel 4 = .ok (.iconst 1, 1) := by decide +kernel
theorem dX7_nextReel_5 : decode cX7_nextReel 5 = .ok (.iaload, 1) := by decide +kernel
theorem dX7_nextReel_6 : decode cX7_nextReel 6 = .ok (.iconst 1, 1) := by decide +kernel
theorem dX7_nextReel_7 : decode cX7_nextReel 7 = .ok (.iadd, 1) := by decide +kernel
theorem dX7_nextReel_8 : decode cX7_nextReel 8 = .ok (.aload_n 0, 1) := by decide +kernel
theorem dX7_nextReel_9 : decode cX7_nextReel 9 = .ok (.getfield 78, 3) := by decide +kernel
theorem dX7_nextReel_12 : decode cX7_nextReel 12 = .ok (.if_icmp .ge 14, 3) := by decide +kernel
theorem dX7_nextReel_15 : decode cX7_nextReel 15 = .ok (.aload_n 0, 1) := by decide +kernel
theorem dX7_nextReel_16 : decode cX7_nextReel 16 = .ok (.getfield 7, 3) := by decide +kernel
theorem dX7_nextReel_19 : decode cX7_nextReel 19 = .ok (.iconst 1, 1) := by decide +kernel
theorem dX7_nextReel_20 : decode cX7_nextReel 20 = .ok (.iaload, 1) := by decide +kernel
theorem dX7_nextReel_21 : decode cX7_nextReel 21 = .ok (.iconst 1, 1) := by decide +kernel
theorem dX7_nextReel_22 : decode cX7_nextReel 22 = .ok (.iadd, 1) := by decide +kernel
theorem dX7_nextReel_23 : decode cX7_nextReel 23 = .ok (.goto 5, 3) := by decide +kernel
theorem dX7_nextReel_26 : decode cX7_nextReel 26 = .ok (.bipush (-9), 2) := by decide +kernel
theorem dX7_nextReel_28 : decode cX7_nextReel 28 = .ok (.ireturn, 1) := by decide +kernel
theorem dX7_goesOnReel_0 : decode cX7_goesOnReel 0 = .ok (.aload_n 0, 1) := by decide +kernel
theorem dX7_goesOnReel_1 : decode cX7_goesOnReel 1 = .ok (.getfield 7, 3) := by decide +kernel
theorem dX7_goesOnReel_4 : decode cX7_goesOnReel 4 = .ok (.iconst 1, 1) := by decide +kernel
theorem dX7_goesOnReel_5 : decode cX7_goesOnReel 5 = .ok (.dup2, 1) := by decide +kernel
theorem dX7_goesOnReel_6 : decode cX7_goesOnReel 6 = .ok (.iaload, 1) := by decide +kernel
theorem dX7_goesOnReel_7 : decode cX7_goesOnReel 7 = .ok (.iconst 1, 1) := by decide +kernel
theorem dX7_goesOnReel_8 : decode cX7_goesOnReel 8 = .ok (.iadd, 1) := by decide +kernel
theorem dX7_goesOnReel_9 : decode cX7_goesOnReel 9 = .ok (.iastore, 1) := by decide +kernel
theorem dX7_goesOnReel_10 : decode cX7_goesOnReel 10 = .ok (.aload_n 0, 1) := by decide +kernel
theorem dX7_goesOnReel_11 : decode cX7_goesOnReel 11 = .ok (.getfield 7, 3) := by decide +kernel
theorem dX7_goesOnReel_14 : decode cX7_goesOnReel 14 = .ok (.iconst 2, 1) := by decide +kernel
theorem dX7_goesOnReel_15 : decode cX7_goesOnReel 15 = .ok (.aload_n 0, 1) := by decide +kernel
theorem dX7_goesOnReel_16 : decode cX7_goesOnReel 16 = .ok (.getfield 38, 3) := by decide +kernel
theorem dX7_goesOnReel_19 : decode cX7_goesOnReel 19 = .ok (.aload_n 0, 1) := by decide +kernel
theorem dX7_goesOnReel_20 : decode cX7_goesOnReel 20 = .ok (.getfield 7, 3) := by decide +kernel
theorem dX7_goesOnReel_23 : decode cX7_goesOnReel 23 = .ok (.iconst 1, 1) := by decide +kernel
theorem dX7_goesOnReel_24 : decode cX7_goesOnReel 24 = .ok (.iaload, 1) := by decide +kernel
theorem dX7_goesOnReel_25 : decode cX7_goesOnReel 25 = .ok (.iaload, 1) := by decide +kernel
theorem dX7_goesOnReel_26 : decode cX7_goesOnReel 26 = .ok (.iastore, 1) := by decide +kernel
theorem dX7_goesOnReel_27 : decode cX7_goesOnReel 27 = .ok (.aload_n 0, 1) := by decide +kernel
theorem dX7_goesOnReel_28 : decode cX7_goesOnReel 28 = .ok (.getfield 7, 3) := by decide +kernel
theorem dX7_goesOnReel_31 : decode cX7_goesOnReel 31 = .ok (.iconst 3, 1) := by decide +kernel
theorem dX7_goesOnReel_32 : decode cX7_goesOnReel 32 = .ok (.iconst 0, 1) := by decide +kernel
theorem dX7_goesOnReel_33 : decode cX7_goesOnReel 33 = .ok (.iastore, 1) := by decide +kernel
theorem dX7_goesOnReel_34 : decode cX7_goesOnReel 34 = .ok (.return_, 1) := by decide +kernel
theorem dX7_copyPlace_0 : decode cX7_copyPlace 0 = .ok (.bipush 61, 2) := by decide +kernel
theorem dX7_copyPlace_2 : decode cX7_copyPlace 2 = .ok (.bipush 9, 2) := by decide +kernel
theorem dX7_copyPlace_4 : decode cX7_copyPlace 4 = .ok (.iload_n 0, 1) := by decide +kernel
theorem dX7_copyPlace_5 : decode cX7_copyPlace 5 = .ok (.bipush 32, 2) := by decide +kernel
theorem dX7_copyPlace_7 : decode cX7_copyPlace 7 = .ok (.irem, 1) := by decide +kernel
theorem dX7_copyPlace_8 : decode cX7_copyPlace 8 = .ok (.imul, 1) := by decide +kernel
theorem dX7_copyPlace_9 : decode cX7_copyPlace 9 = .ok (.iadd, 1) := by decide +kernel
theorem dX7_copyPlace_10 : decode cX7_copyPlace 10 = .ok (.ireturn, 1) := by decide +kernel
theorem dX7_isThere_0 : decode cX7_isThere 0 = .ok (.iload_n 1, 1) := by decide +kernel
theorem dX7_isThere_1 : decode cX7_isThere 1 = .ok (.ifCond .le 20, 3) := by decide +kernel
theorem dX7_isThere_4 : decode cX7_isThere 4 = .ok (.aload_n 0, 1) := by decide +kernel
theorem dX7_isThere_5 : decode cX7_isThere 5 = .ok (.getfield 7, 3) := by decide +kernel
theorem dX7_isThere_8 : decode cX7_isThere 8 = .ok (.iload_n 1, 1) := by decide +kernel
theorem dX7_isThere_9 : decode cX7_isThere 9 = .ok (.invokestatic 134, 3) := by decide +kernel
theorem dX7_isThere_12 : decode cX7_isThere 12 = .ok (.iaload, 1) := by decide +kernel
theorem dX7_isThere_13 : decode cX7_isThere 13 = .ok (.iconst 1, 1) := by decide +kernel
theorem dX7_isThere_14 : decode cX7_isThere 14 = .ok (.if_icmp .ne 7, 3) := by decide +kernel
theorem dX7_isThere_17 : decode cX7_isThere 17 = .ok (.iconst 1, 1) := by decide +kernel
theorem dX7_isThere_18 : decode cX7_isThere 18 = .ok (.goto 4, 3) := by decide +kernel
theorem dX7_isThere_21 : decode cX7_isThere 21 = .ok (.iconst 0, 1) := by decide +kernel
theorem dX7_isThere_22 : decode cX7_isThere 22 = .ok (.ireturn, 1) := by decide +kernel
theorem dX7_breaks_0 : decode cX7_breaks 0 = .ok (.aload_n 0, 1) := by decide +kernel
theorem dX7_breaks_1 : decode cX7_breaks 1 = .ok (.getfield 7, 3) := by decide +kernel
theorem dX7_breaks_4 : decode cX7_breaks 4 = .ok (.iconst 0, 1) := by decide +kernel
theorem dX7_breaks_5 : decode cX7_breaks 5 = .ok (.iconst 0, 1) := by decide +kernel
theorem dX7_breaks_6 : decode cX7_breaks 6 = .ok (.iastore, 1) := by decide +kernel
theorem dX7_breaks_7 : decode cX7_breaks 7 = .ok (.iconst 0, 1) := by decide +kernel
theorem dX7_breaks_8 : decode cX7_breaks 8 = .ok (.istore_n 1, 1) := by decide +kernel
theorem dX7_breaks_9 : decode cX7_breaks 9 = .ok (.iload_n 1, 1) := by decide +kernel
theorem dX7_breaks_10 : decode cX7_breaks 10 = .ok (.bipush 32, 2) := by decide +kernel
theorem dX7_breaks_12 : decode cX7_breaks 12 = .ok (.if_icmp .ge 55, 3) := by decide +kernel
theorem dX7_breaks_15 : decode cX7_breaks 15 = .ok (.iload_n 1, 1) := by decide +kernel
theorem dX7_breaks_16 : decode cX7_breaks 16 = .ok (.invokestatic 134, 3) := by decide +kernel
theorem dX7_breaks_19 : decode cX7_breaks 19 = .ok (.istore_n 2, 1) := by decide +kernel
theorem dX7_breaks_20 : decode cX7_breaks 20 = .ok (.aload_n 0, 1) := by decide +kernel
theorem dX7_breaks_21 : decode cX7_breaks 21 = .ok (.getfield 7, 3) := by decide +kernel
theorem dX7_breaks_24 : decode cX7_breaks 24 = .ok (.bipush 8, 2) := by decide +kernel
theorem dX7_breaks_26 : decode cX7_breaks 26 = .ok (.dup2, 1) := by decide +kernel
theorem dX7_breaks_27 : decode cX7_breaks 27 = .ok (.iaload, 1) := by decide +kernel
theorem dX7_breaks_28 : decode cX7_breaks 28 = .ok (.aload_n 0, 1) := by decide +kernel
theorem dX7_breaks_29 : decode cX7_breaks 29 = .ok (.getfield 7, 3) := by decide +kernel
theorem dX7_breaks_32 : decode cX7_breaks 32 = .ok (.iload_n 2, 1) := by decide +kernel
theorem dX7_breaks_33 : decode cX7_breaks 33 = .ok (.iconst 0, 1) := by decide +kernel
theorem dX7_breaks_34 : decode cX7_breaks 34 = .ok (.iadd, 1) := by decide +kernel
theorem dX7_breaks_35 : decode cX7_breaks 35 = .ok (.iaload, 1) := by decide +kernel
theorem dX7_breaks_36 : decode cX7_breaks 36 = .ok (.iadd, 1) := by decide +kernel
theorem dX7_breaks_37 : decode cX7_breaks 37 = .ok (.iastore, 1) := by decide +kernel
theorem dX7_breaks_38 : decode cX7_breaks 38 = .ok (.iconst 0, 1) := by decide +kernel
theorem dX7_breaks_39 : decode cX7_breaks 39 = .ok (.istore_n 3, 1) := by decide +kernel
theorem dX7_breaks_40 : decode cX7_breaks 40 = .ok (.iload_n 3, 1) := by decide +kernel
theorem dX7_breaks_41 : decode cX7_breaks 41 = .ok (.bipush 9, 2) := by decide +kernel
theorem dX7_breaks_43 : decode cX7_breaks 43 = .ok (.if_icmp .ge 18, 3) := by decide +kernel
theorem dX7_breaks_46 : decode cX7_breaks 46 = .ok (.aload_n 0, 1) := by decide +kernel
theorem dX7_breaks_47 : decode cX7_breaks 47 = .ok (.getfield 7, 3) := by decide +kernel
theorem dX7_breaks_50 : decode cX7_breaks 50 = .ok (.iload_n 2, 1) := by decide +kernel
theorem dX7_breaks_51 : decode cX7_breaks 51 = .ok (.iload_n 3, 1) := by decide +kernel
theorem dX7_breaks_52 : decode cX7_breaks 52 = .ok (.iadd, 1) := by decide +kernel
theorem dX7_breaks_53 : decode cX7_breaks 53 = .ok (.iconst 0, 1) := by decide +kernel
theorem dX7_breaks_54 : decode cX7_breaks 54 = .ok (.iastore, 1) := by decide +kernel
theorem dX7_breaks_55 : decode cX7_breaks 55 = .ok (.iinc 3 1, 3) := by decide +kernel
theorem dX7_breaks_58 : decode cX7_breaks 58 = .ok (.goto (-18), 3) := by decide +kernel
theorem dX7_breaks_61 : decode cX7_breaks 61 = .ok (.iinc 1 1, 3) := by decide +kernel
theorem dX7_breaks_64 : decode cX7_breaks 64 = .ok (.goto (-55), 3) := by decide +kernel
theorem dX7_breaks_67 : decode cX7_breaks 67 = .ok (.bipush 22, 2) := by decide +kernel
theorem dX7_breaks_69 : decode cX7_breaks 69 = .ok (.istore_n 1, 1) := by decide +kernel
theorem dX7_breaks_70 : decode cX7_breaks 70 = .ok (.iload_n 1, 1) := by decide +kernel
theorem dX7_breaks_71 : decode cX7_breaks 71 = .ok (.bipush 54, 2) := by decide +kernel
theorem dX7_breaks_73 : decode cX7_breaks 73 = .ok (.if_icmp .ge 16, 3) := by decide +kernel
theorem dX7_breaks_76 : decode cX7_breaks 76 = .ok (.aload_n 0, 1) := by decide +kernel
theorem dX7_breaks_77 : decode cX7_breaks 77 = .ok (.getfield 7, 3) := by decide +kernel
theorem dX7_breaks_80 : decode cX7_breaks 80 = .ok (.iload_n 1, 1) := by decide +kernel
theorem dX7_breaks_81 : decode cX7_breaks 81 = .ok (.iconst 0, 1) := by decide +kernel
theorem dX7_breaks_82 : decode cX7_breaks 82 = .ok (.iastore, 1) := by decide +kernel
theorem dX7_breaks_83 : decode cX7_breaks 83 = .ok (.iinc 1 1, 3) := by decide +kernel
theorem dX7_breaks_86 : decode cX7_breaks 86 = .ok (.goto (-16), 3) := by decide +kernel
theorem dX7_breaks_89 : decode cX7_breaks 89 = .ok (.return_, 1) := by decide +kernel
theorem dX7_copyBegins_0 : decode cX7_copyBegins 0 = .ok (.aload_n 0, 1) := by decide +kernel
theorem dX7_copyBegins_1 : decode cX7_copyBegins 1 = .ok (.getfield 7, 3) := by decide +kernel
theorem dX7_copyBegins_4 : decode cX7_copyBegins 4 = .ok (.iconst 5, 1) := by decide +kernel
theorem dX7_copyBegins_5 : decode cX7_copyBegins 5 = .ok (.iaload, 1) := by decide +kernel
theorem dX7_copyBegins_6 : decode cX7_copyBegins 6 = .ok (.invokestatic 134, 3) := by decide +kernel
theorem dX7_copyBegins_9 : decode cX7_copyBegins 9 = .ok (.istore_n 2, 1) := by decide +kernel
theorem dX7_copyBegins_10 : decode cX7_copyBegins 10 = .ok (.aload_n 0, 1) := by decide +kernel
theorem dX7_copyBegins_11 : decode cX7_copyBegins 11 = .ok (.getfield 7, 3) := by decide +kernel
theorem dX7_copyBegins_14 : decode cX7_copyBegins 14 = .ok (.iload_n 2, 1) := by decide +kernel
theorem dX7_copyBegins_15 : decode cX7_copyBegins 15 = .ok (.iconst 0, 1) := by decide +kernel
theorem dX7_copyBegins_16 : decode cX7_copyBegins 16 = .ok (.iadd, 1) := by decide +kernel
theorem dX7_copyBegins_17 : decode cX7_copyBegins 17 = .ok (.iconst 1, 1) := by decide +kernel
theorem dX7_copyBegins_18 : decode cX7_copyBegins 18 = .ok (.iastore, 1) := by decide +kernel
theorem dX7_copyBegins_19 : decode cX7_copyBegins 19 = .ok (.aload_n 0, 1) := by decide +kernel
theorem dX7_copyBegins_20 : decode cX7_copyBegins 20 = .ok (.getfield 7, 3) := by decide +kernel
theorem dX7_copyBegins_23 : decode cX7_copyBegins 23 = .ok (.iload_n 2, 1) := by decide +kernel
theorem dX7_copyBegins_24 : decode cX7_copyBegins 24 = .ok (.iconst 1, 1) := by decide +kernel
theorem dX7_copyBegins_25 : decode cX7_copyBegins 25 = .ok (.iadd, 1) := by decide +kernel
theorem dX7_copyBegins_26 : decode cX7_copyBegins 26 = .ok (.aload_n 0, 1) := by decide +kernel
theorem dX7_copyBegins_27 : decode cX7_copyBegins 27 = .ok (.getfield 7, 3) := by decide +kernel
theorem dX7_copyBegins_30 : decode cX7_copyBegins 30 = .ok (.bipush 6, 2) := by decide +kernel
theorem dX7_copyBegins_32 : decode cX7_copyBegins 32 = .ok (.iaload, 1) := by decide +kernel
theorem dX7_copyBegins_33 : decode cX7_copyBegins 33 = .ok (.iastore, 1) := by decide +kernel
theorem dX7_copyBegins_34 : decode cX7_copyBegins 34 = .ok (.aload_n 0, 1) := by decide +kernel
theorem dX7_copyBegins_35 : decode cX7_copyBegins 35 = .ok (.getfield 7, 3) := by decide +kernel
theorem dX7_copyBegins_38 : decode cX7_copyBegins 38 = .ok (.iload_n 2, 1) := by decide +kernel
theorem dX7_copyBegins_39 : decode cX7_copyBegins 39 = .ok (.iconst 2, 1) := by decide +kernel
theorem dX7_copyBegins_40 : decode cX7_copyBegins 40 = .ok (.iadd, 1) := by decide +kernel
theorem dX7_copyBegins_41 : decode cX7_copyBegins 41 = .ok (.aload_n 0, 1) := by decide +kernel
theorem dX7_copyBegins_42 : decode cX7_copyBegins 42 = .ok (.getfield 41, 3) := by decide +kernel
theorem dX7_copyBegins_45 : decode cX7_copyBegins 45 = .ok (.aload_n 0, 1) := by decide +kernel
theorem dX7_copyBegins_46 : decode cX7_copyBegins 46 = .ok (.getfield 7, 3) := by decide +kernel
theorem dX7_copyBegins_49 : decode cX7_copyBegins 49 = .ok (.iconst 1, 1) := by decide +kernel
theorem dX7_copyBegins_50 : decode cX7_copyBegins 50 = .ok (.iaload, 1) := by decide +kernel
theorem dX7_copyBegins_51 : decode cX7_copyBegins 51 = .ok (.iaload, 1) := by decide +kernel
theorem dX7_copyBegins_52 : decode cX7_copyBegins 52 = .ok (.iastore, 1) := by decide +kernel
theorem dX7_copyBegins_53 : decode cX7_copyBegins 53 = .ok (.aload_n 0, 1) := by decide +kernel
theorem dX7_copyBegins_54 : decode cX7_copyBegins 54 = .ok (.getfield 7, 3) := by decide +kernel
theorem dX7_copyBegins_57 : decode cX7_copyBegins 57 = .ok (.iload_n 2, 1) := by decide +kernel
theorem dX7_copyBegins_58 : decode cX7_copyBegins 58 = .ok (.iconst 3, 1) := by decide +kernel
theorem dX7_copyBegins_59 : decode cX7_copyBegins 59 = .ok (.iadd, 1) := by decide +kernel
theorem dX7_copyBegins_60 : decode cX7_copyBegins 60 = .ok (.iload_n 1, 1) := by decide +kernel
theorem dX7_copyBegins_61 : decode cX7_copyBegins 61 = .ok (.ifCond .eq 7, 3) := by decide +kernel
theorem dX7_copyBegins_64 : decode cX7_copyBegins 64 = .ok (.iconst 1, 1) := by decide +kernel
theorem dX7_copyBegins_65 : decode cX7_copyBegins 65 = .ok (.goto 4, 3) := by decide +kernel
theorem dX7_copyBegins_68 : decode cX7_copyBegins 68 = .ok (.iconst 0, 1) := by decide +kernel
theorem dX7_copyBegins_69 : decode cX7_copyBegins 69 = .ok (.iastore, 1) := by decide +kernel
theorem dX7_copyBegins_70 : decode cX7_copyBegins 70 = .ok (.aload_n 0, 1) := by decide +kernel
theorem dX7_copyBegins_71 : decode cX7_copyBegins 71 = .ok (.getfield 7, 3) := by decide +kernel
theorem dX7_copyBegins_74 : decode cX7_copyBegins 74 = .ok (.iload_n 2, 1) := by decide +kernel
theorem dX7_copyBegins_75 : decode cX7_copyBegins 75 = .ok (.iconst 4, 1) := by decide +kernel
theorem dX7_copyBegins_76 : decode cX7_copyBegins 76 = .ok (.iadd, 1) := by decide +kernel
theorem dX7_copyBegins_77 : decode cX7_copyBegins 77 = .ok (.iconst 0, 1) := by decide +kernel
theorem dX7_copyBegins_78 : decode cX7_copyBegins 78 = .ok (.iastore, 1) := by decide +kernel
theorem dX7_copyBegins_79 : decode cX7_copyBegins 79 = .ok (.iconst 0, 1) := by decide +kernel
theorem dX7_copyBegins_80 : decode cX7_copyBegins 80 = .ok (.istore_n 3, 1) := by decide +kernel
theorem dX7_copyBegins_81 : decode cX7_copyBegins 81 = .ok (.iload_n 3, 1) := by decide +kernel
theorem dX7_copyBegins_82 : decode cX7_copyBegins 82 = .ok (.iconst 4, 1) := by decide +kernel
theorem dX7_copyBegins_83 : decode cX7_copyBegins 83 = .ok (.if_icmp .ge 20, 3) := by decide +kernel
theorem dX7_copyBegins_86 : decode cX7_copyBegins 86 = .ok (.aload_n 0, 1) := by decide +kernel
theorem dX7_copyBegins_87 : decode cX7_copyBegins 87 = .ok (.getfield 7, 3) := by decide +kernel
theorem dX7_copyBegins_90 : decode cX7_copyBegins 90 = .ok (.iload_n 2, 1) := by decide +kernel
theorem dX7_copyBegins_91 : decode cX7_copyBegins 91 = .ok (.iconst 5, 1) := by decide +kernel
theorem dX7_copyBegins_92 : decode cX7_copyBegins 92 = .ok (.iadd, 1) := by decide +kernel
theorem dX7_copyBegins_93 : decode cX7_copyBegins 93 = .ok (.iload_n 3, 1) := by decide +kernel
theorem dX7_copyBegins_94 : decode cX7_copyBegins 94 = .ok (.iadd, 1) := by decide +kernel
theorem dX7_copyBegins_95 : decode cX7_copyBegins 95 = .ok (.iconst 0, 1) := by decide +kernel
theorem dX7_copyBegins_96 : decode cX7_copyBegins 96 = .ok (.iastore, 1) := by decide +kernel
theorem dX7_copyBegins_97 : decode cX7_copyBegins 97 = .ok (.iinc 3 1, 3) := by decide +kernel
theorem dX7_copyBegins_100 : decode cX7_copyBegins 100 = .ok (.goto (-19), 3) := by decide +kernel
theorem dX7_copyBegins_103 : decode cX7_copyBegins 103 = .ok (.aload_n 0, 1) := by decide +kernel
theorem dX7_copyBegins_104 : decode cX7_copyBegins 104 = .ok (.getfield 7, 3) := by decide +kernel
theorem dX7_copyBegins_107 : decode cX7_copyBegins 107 = .ok (.bipush 6, 2) := by decide +kernel
theorem dX7_copyBegins_109 : decode cX7_copyBegins 109 = .ok (.dup2, 1) := by decide +kernel
theorem dX7_copyBegins_110 : decode cX7_copyBegins 110 = .ok (.iaload, 1) := by decide +kernel
theorem dX7_copyBegins_111 : decode cX7_copyBegins 111 = .ok (.iconst 1, 1) := by decide +kernel
theorem dX7_copyBegins_112 : decode cX7_copyBegins 112 = .ok (.iadd, 1) := by decide +kernel
theorem dX7_copyBegins_113 : decode cX7_copyBegins 113 = .ok (.iastore, 1) := by decide +kernel
theorem dX7_copyBegins_114 : decode cX7_copyBegins 114 = .ok (.return_, 1) := by decide +kernel
theorem dX7_passedPlace_0 : decode cX7_passedPlace 0 = .ok (.bipush 22, 2) := by decide +kernel
theorem dX7_passedPlace_2 : decode cX7_passedPlace 2 = .ok (.bipush 8, 2) := by decide +kernel
theorem dX7_passedPlace_4 : decode cX7_passedPlace 4 = .ok (.iload_n 0, 1) := by decide +kernel
theorem dX7_passedPlace_5 : decode cX7_passedPlace 5 = .ok (.imul, 1) := by decide +kernel
theorem dX7_passedPlace_6 : decode cX7_passedPlace 6 = .ok (.iadd, 1) := by decide +kernel
theorem dX7_passedPlace_7 : decode cX7_passedPlace 7 = .ok (.iload_n 1, 1) := by decide +kernel
theorem dX7_passedPlace_8 : decode cX7_passedPlace 8 = .ok (.bipush 8, 2) := by decide +kernel
theorem dX7_passedPlace_10 : decode cX7_passedPlace 10 = .ok (.irem, 1) := by decide +kernel
theorem dX7_passedPlace_11 : decode cX7_passedPlace 11 = .ok (.iadd, 1) := by decide +kernel
theorem dX7_passedPlace_12 : decode cX7_passedPlace 12 = .ok (.ireturn, 1) := by decide +kernel
theorem dX7_prints_0 : decode cX7_prints 0 = .ok (.iload_n 1, 1) := by decide +kernel
theorem dX7_prints_1 : decode cX7_prints 1 = .ok (.aload_n 0, 1) := by decide +kernel
theorem dX7_prints_2 : decode cX7_prints 2 = .ok (.getfield 7, 3) := by decide +kernel
theorem dX7_prints_5 : decode cX7_prints 5 = .ok (.iconst 5, 1) := by decide +kernel
theorem dX7_prints_6 : decode cX7_prints 6 = .ok (.iaload, 1) := by decide +kernel
theorem dX7_prints_7 : decode cX7_prints 7 = .ok (.invokestatic 138, 3) := by decide +kernel
theorem dX7_prints_10 : decode cX7_prints 10 = .ok (.istore_n 2, 1) := by decide +kernel
theorem dX7_prints_11 : decode cX7_prints 11 = .ok (.aload_n 0, 1) := by decide +kernel
theorem dX7_prints_12 : decode cX7_prints 12 = .ok (.getfield 7, 3) := by decide +kernel
theorem dX7_prints_15 : decode cX7_prints 15 = .ok (.bipush 14, 2) := by decide +kernel
theorem dX7_prints_17 : decode cX7_prints 17 = .ok (.iload_n 1, 1) := by decide +kernel
theorem dX7_prints_18 : decode cX7_prints 18 = .ok (.iadd, 1) := by decide +kernel
theorem dX7_prints_19 : decode cX7_prints 19 = .ok (.dup2, 1) := by decide +kernel
theorem dX7_prints_20 : decode cX7_prints 20 = .ok (.iaload, 1) := by decide +kernel
theorem dX7_prints_21 : decode cX7_prints 21 = .ok (.aload_n 0, 1) := by decide +kernel
theorem dX7_prints_22 : decode cX7_prints 22 = .ok (.getfield 7, 3) := by decide +kernel
theorem dX7_prints_25 : decode cX7_prints 25 = .ok (.iload_n 2, 1) := by decide +kernel
theorem dX7_prints_26 : decode cX7_prints 26 = .ok (.iaload, 1) := by decide +kernel
theorem dX7_prints_27 : decode cX7_prints 27 = .ok (.iadd, 1) := by decide +kernel
theorem dX7_prints_28 : decode cX7_prints 28 = .ok (.iastore, 1) := by decide +kernel
theorem dX7_prints_29 : decode cX7_prints 29 = .ok (.aload_n 0, 1) := by decide +kernel
theorem dX7_prints_30 : decode cX7_prints 30 = .ok (.getfield 7, 3) := by decide +kernel
theorem dX7_prints_33 : decode cX7_prints 33 = .ok (.iload_n 2, 1) := by decide +kernel
theorem dX7_prints_34 : decode cX7_prints 34 = .ok (.iconst 0, 1) := by decide +kernel
theorem dX7_prints_35 : decode cX7_prints 35 = .ok (.iastore, 1) := by decide +kernel
theorem dX7_prints_36 : decode cX7_prints 36 = .ok (.aload_n 0, 1) := by decide +kernel
theorem dX7_prints_37 : decode cX7_prints 37 = .ok (.getfield 7, 3) := by decide +kernel
theorem dX7_prints_40 : decode cX7_prints 40 = .ok (.iconst 5, 1) := by decide +kernel
theorem dX7_prints_41 : decode cX7_prints 41 = .ok (.iaload, 1) := by decide +kernel
theorem dX7_prints_42 : decode cX7_prints 42 = .ok (.aload_n 0, 1) := by decide +kernel
theorem dX7_prints_43 : decode cX7_prints 43 = .ok (.getfield 35, 3) := by decide +kernel
theorem dX7_prints_46 : decode cX7_prints 46 = .ok (.iload_n 1, 1) := by decide +kernel
theorem dX7_prints_47 : decode cX7_prints 47 = .ok (.iaload, 1) := by decide +kernel
theorem dX7_prints_48 : decode cX7_prints 48 = .ok (.isub, 1) := by decide +kernel
theorem dX7_prints_49 : decode cX7_prints 49 = .ok (.istore_n 3, 1) := by decide +kernel
theorem dX7_prints_50 : decode cX7_prints 50 = .ok (.aload_n 0, 1) := by decide +kernel
theorem dX7_prints_51 : decode cX7_prints 51 = .ok (.iload_n 3, 1) := by decide +kernel
theorem dX7_prints_52 : decode cX7_prints 52 = .ok (.invokevirtual 142, 3) := by decide +kernel
theorem dX7_prints_55 : decode cX7_prints 55 = .ok (.ifCond .eq 72, 3) := by decide +kernel
theorem dX7_prints_58 : decode cX7_prints 58 = .ok (.iload_n 3, 1) := by decide +kernel
theorem dX7_prints_59 : decode cX7_prints 59 = .ok (.invokestatic 134, 3) := by decide +kernel
theorem dX7_prints_62 : decode cX7_prints 62 = .ok (.istore 4, 2) := by decide +kernel
theorem dX7_prints_64 : decode cX7_prints 64 = .ok (.aload_n 0, 1) := by decide +kernel
theorem dX7_prints_65 : decode cX7_prints 65 = .ok (.getfield 7, 3) := by decide +kernel
theorem dX7_prints_68 : decode cX7_prints 68 = .ok (.iload 4, 2) := by decide +kernel
theorem dX7_prints_70 : decode cX7_prints 70 = .ok (.iconst 4, 1) := by decide +kernel
theorem dX7_prints_71 : decode cX7_prints 71 = .ok (.iadd, 1) := by decide +kernel
theorem dX7_prints_72 : decode cX7_prints 72 = .ok (.dup2, 1) := by decide +kernel
theorem dX7_prints_73 : decode cX7_prints 73 = .ok (.iaload, 1) := by decide +kernel
theorem dX7_prints_74 : decode cX7_prints 74 = .ok (.aload_n 0, 1) := by decide +kernel
theorem dX7_prints_75 : decode cX7_prints 75 = .ok (.getfield 7, 3) := by decide +kernel
theorem dX7_prints_78 : decode cX7_prints 78 = .ok (.bipush 14, 2) := by decide +kernel
theorem dX7_prints_80 : decode cX7_prints 80 = .ok (.iload_n 1, 1) := by decide +kernel
theorem dX7_prints_81 : decode cX7_prints 81 = .ok (.iadd, 1) := by decide +kernel
theorem dX7_prints_82 : decode cX7_prints 82 = .ok (.iaload, 1) := by decide +kernel
theorem dX7_prints_83 : decode cX7_prints 83 = .ok (.iadd, 1) := by decide +kernel
theorem dX7_prints_84 : decode cX7_prints 84 = .ok (.iastore, 1) := by decide +kernel
theorem dX7_prints_85 : decode cX7_prints 85 = .ok (.aload_n 0, 1) := by decide +kernel
theorem dX7_prints_86 : decode cX7_prints 86 = .ok (.getfield 7, 3) := by decide +kernel
theorem dX7_prints_89 : decode cX7_prints 89 = .ok (.iload 4, 2) := by decide +kernel
theorem dX7_prints_91 : decode cX7_prints 91 = .ok (.iconst 5, 1) := by decide +kernel
theorem dX7_prints_92 : decode cX7_prints 92 = .ok (.iadd, 1) := by decide +kernel
theorem dX7_prints_93 : decode cX7_prints 93 = .ok (.iload_n 1, 1) := by decide +kernel
theorem dX7_prints_94 : decode cX7_prints 94 = .ok (.iadd, 1) := by decide +kernel
theorem dX7_prints_95 : decode cX7_prints 95 = .ok (.aload_n 0, 1) := by decide +kernel
theorem dX7_prints_96 : decode cX7_prints 96 = .ok (.getfield 7, 3) := by decide +kernel
theorem dX7_prints_99 : decode cX7_prints 99 = .ok (.bipush 10, 2) := by decide +kernel
theorem dX7_prints_101 : decode cX7_prints 101 = .ok (.iload_n 1, 1) := by decide +kernel
theorem dX7_prints_102 : decode cX7_prints 102 = .ok (.iadd, 1) := by decide +kernel
theorem dX7_prints_103 : decode cX7_prints 103 = .ok (.iaload, 1) := by decide +kernel
theorem dX7_prints_104 : decode cX7_prints 104 = .ok (.iload_n 1, 1) := by decide +kernel
theorem dX7_prints_105 : decode cX7_prints 105 = .ok (.aload_n 0, 1) := by decide +kernel
theorem dX7_prints_106 : decode cX7_prints 106 = .ok (.getfield 7, 3) := by decide +kernel
theorem dX7_prints_109 : decode cX7_prints 109 = .ok (.iload 4, 2) := by decide +kernel
theorem dX7_prints_111 : decode cX7_prints 111 = .ok (.iconst 2, 1) := by decide +kernel
theorem dX7_prints_112 : decode cX7_prints 112 = .ok (.iadd, 1) := by decide +kernel
theorem dX7_prints_113 : decode cX7_prints 113 = .ok (.iaload, 1) := by decide +kernel
theorem dX7_prints_114 : decode cX7_prints 114 = .ok (.imul, 1) := by decide +kernel
theorem dX7_prints_115 : decode cX7_prints 115 = .ok (.iadd, 1) := by decide +kernel
theorem dX7_prints_116 : decode cX7_prints 116 = .ok (.aload_n 0, 1) := by decide +kernel
theorem dX7_prints_117 : decode cX7_prints 117 = .ok (.getfield 7, 3) := by decide +kernel
theorem dX7_prints_120 : decode cX7_prints 120 = .ok (.iload 4, 2) := by decide +kernel
theorem dX7_prints_122 : decode cX7_prints 122 = .ok (.iconst 4, 1) := by decide +kernel
theorem dX7_prints_123 : decode cX7_prints 123 = .ok (.iadd, 1) := by decide +kernel
theorem dX7_prints_124 : decode cX7_prints 124 = .ok (.iaload, 1) := by decide +kernel
theorem dX7_prints_125 : decode cX7_prints 125 = .ok (.isub, 1) := by decide +kernel
theorem dX7_prints_126 : decode cX7_prints 126 = .ok (.iastore, 1) := by decide +kernel
theorem dX7_prints_127 : decode cX7_prints 127 = .ok (.return_, 1) := by decide +kernel
theorem dX7_waitOf_0 : decode cX7_waitOf 0 = .ok (.aload_n 0, 1) := by decide +kernel
theorem dX7_waitOf_1 : decode cX7_waitOf 1 = .ok (.getfield 35, 3) := by decide +kernel
theorem dX7_waitOf_4 : decode cX7_waitOf 4 = .ok (.aload_n 0, 1) := by decide +kernel
theorem dX7_waitOf_5 : decode cX7_waitOf 5 = .ok (.getfield 75, 3) := by decide +kernel
theorem dX7_waitOf_8 : decode cX7_waitOf 8 = .ok (.iconst 1, 1) := by decide +kernel
theorem dX7_waitOf_9 : decode cX7_waitOf 9 = .ok (.isub, 1) := by decide +kernel
theorem dX7_waitOf_10 : decode cX7_waitOf 10 = .ok (.iaload, 1) := by decide +kernel
theorem dX7_waitOf_11 : decode cX7_waitOf 11 = .ok (.aload_n 0, 1) := by decide +kernel
theorem dX7_waitOf_12 : decode cX7_waitOf 12 = .ok (.getfield 35, 3) := by decide +kernel
theorem dX7_waitOf_15 : decode cX7_waitOf 15 = .ok (.iload_n 1, 1) := by decide +kernel
theorem dX7_waitOf_16 : decode cX7_waitOf 16 = .ok (.iaload, 1) := by decide +kernel
theorem dX7_waitOf_17 : decode cX7_waitOf 17 = .ok (.isub, 1) := by decide +kernel
theorem dX7_waitOf_18 : decode cX7_waitOf 18 = .ok (.aload_n 0, 1) := by decide +kernel
theorem dX7_waitOf_19 : decode cX7_waitOf 19 = .ok (.getfield 44, 3) := by decide +kernel
theorem dX7_waitOf_22 : decode cX7_waitOf 22 = .ok (.iconst 0, 1) := by decide +kernel
theorem dX7_waitOf_23 : decode cX7_waitOf 23 = .ok (.iaload, 1) := by decide +kernel
theorem dX7_waitOf_24 : decode cX7_waitOf 24 = .ok (.iadd, 1) := by decide +kernel
theorem dX7_waitOf_25 : decode cX7_waitOf 25 = .ok (.ireturn, 1) := by decide +kernel
theorem dX7_correctedBy_0 : decode cX7_correctedBy 0 = .ok (.aload_n 0, 1) := by decide +kernel
theorem dX7_correctedBy_1 : decode cX7_correctedBy 1 = .ok (.getfield 7, 3) := by decide +kernel
theorem dX7_correctedBy_4 : decode cX7_correctedBy 4 = .ok (.bipush 14, 2) := by decide +kernel
theorem dX7_correctedBy_6 : decode cX7_correctedBy 6 = .ok (.iload_n 1, 1) := by decide +kernel
theorem dX7_correctedBy_7 : decode cX7_correctedBy 7 = .ok (.iadd, 1) := by decide +kernel
theorem dX7_correctedBy_8 : decode cX7_correctedBy 8 = .ok (.dup2, 1) := by decide +kernel
theorem dX7_correctedBy_9 : decode cX7_correctedBy 9 = .ok (.iaload, 1) := by decide +kernel
theorem dX7_correctedBy_10 : decode cX7_correctedBy 10 = .ok (.iload_n 2, 1) := by decide +kernel
theorem dX7_correctedBy_11 : decode cX7_correctedBy 11 = .ok (.iadd, 1) := by decide +kernel
theorem dX7_correctedBy_12 : decode cX7_correctedBy 12 = .ok (.iastore, 1) := by decide +kernel
theorem dX7_correctedBy_13 : decode cX7_correctedBy 13 = .ok (.aload_n 0, 1) := by decide +kernel
theorem dX7_correctedBy_14 : decode cX7_correctedBy 14 = .ok (.getfield 7, 3) := by decide +kernel
theorem dX7_correctedBy_17 : decode cX7_correctedBy 17 = .ok (.bipush 18, 2) := by decide +kernel
theorem dX7_correctedBy_19 : decode cX7_correctedBy 19 = .ok (.iload_n 1, 1) := by decide +kernel
theorem dX7_correctedBy_20 : decode cX7_correctedBy 20 = .ok (.iadd, 1) := by decide +kernel
theorem dX7_correctedBy_21 : decode cX7_correctedBy 21 = .ok (.aload_n 0, 1) := by decide +kernel
theorem dX7_correctedBy_22 : decode cX7_correctedBy 22 = .ok (.iload_n 1, 1) := by decide +kernel
theorem dX7_correctedBy_23 : decode cX7_correctedBy 23 = .ok (.invokevirtual 145, 3) := by decide +kernel
theorem dX7_correctedBy_26 : decode cX7_correctedBy 26 = .ok (.iastore, 1) := by decide +kernel
theorem dX7_correctedBy_27 : decode cX7_correctedBy 27 = .ok (.aload_n 0, 1) := by decide +kernel
theorem dX7_correctedBy_28 : decode cX7_correctedBy 28 = .ok (.getfield 7, 3) := by decide +kernel
theorem dX7_correctedBy_31 : decode cX7_correctedBy 31 = .ok (.iconst 4, 1) := by decide +kernel
theorem dX7_correctedBy_32 : decode cX7_correctedBy 32 = .ok (.iaload, 1) := by decide +kernel
theorem dX7_correctedBy_33 : decode cX7_correctedBy 33 = .ok (.iconst 1, 1) := by decide +kernel
theorem dX7_correctedBy_34 : decode cX7_correctedBy 34 = .ok (.if_icmp .ne 45, 3) := by decide +kernel
theorem dX7_correctedBy_37 : decode cX7_correctedBy 37 = .ok (.iload_n 1, 1) := by decide +kernel
theorem dX7_correctedBy_38 : decode cX7_correctedBy 38 = .ok (.iconst 1, 1) := by decide +kernel
theorem dX7_correctedBy_39 : decode cX7_correctedBy 39 = .ok (.iadd, 1) := by decide +kernel
theorem dX7_correctedBy_40 : decode cX7_correctedBy 40 = .ok (.aload_n 0, 1) := by decide +kernel
theorem dX7_correctedBy_41 : decode cX7_correctedBy 41 = .ok (.getfield 75, 3) := by decide +kernel
theorem dX7_correctedBy_44 : decode cX7_correctedBy 44 = .ok (.if_icmp .ge 35, 3) := by decide +kernel
theorem dX7_correctedBy_47 : decode cX7_correctedBy 47 = .ok (.aload_n 0, 1) := by decide +kernel
theorem dX7_correctedBy_48 : decode cX7_correctedBy 48 = .ok (.getfield 7, 3) := by decide +kernel
theorem dX7_correctedBy_51 : decode cX7_correctedBy 51 = .ok (.iload_n 1, 1) := by decide +kernel
theorem dX7_correctedBy_52 : decode cX7_correctedBy 52 = .ok (.iconst 1, 1) := by decide +kernel
theorem dX7_correctedBy_53 : decode cX7_correctedBy 53 = .ok (.iadd, 1) := by decide +kernel
theorem dX7_correctedBy_54 : decode cX7_correctedBy 54 = .ok (.aload_n 0, 1) := by decide +kernel
theorem dX7_correctedBy_55 : decode cX7_correctedBy 55 = .ok (.getfield 7, 3) := by decide +kernel
theorem dX7_correctedBy_58 : decode cX7_correctedBy 58 = .ok (.iconst 5, 1) := by decide +kernel
theorem dX7_correctedBy_59 : decode cX7_correctedBy 59 = .ok (.iaload, 1) := by decide +kernel
theorem dX7_correctedBy_60 : decode cX7_correctedBy 60 = .ok (.iconst 1, 1) := by decide +kernel
theorem dX7_correctedBy_61 : decode cX7_correctedBy 61 = .ok (.iadd, 1) := by decide +kernel
theorem dX7_correctedBy_62 : decode cX7_correctedBy 62 = .ok (.aload_n 0, 1) := by decide +kernel
theorem dX7_correctedBy_63 : decode cX7_correctedBy 63 = .ok (.getfield 32, 3) := by decide +kernel
theorem dX7_correctedBy_66 : decode cX7_correctedBy 66 = .ok (.iload_n 1, 1) := by decide +kernel
theorem dX7_correctedBy_67 : decode cX7_correctedBy 67 = .ok (.iconst 1, 1) := by decide +kernel
theorem dX7_correctedBy_68 : decode cX7_correctedBy 68 = .ok (.iadd, 1) := by decide +kernel
theorem dX7_correctedBy_69 : decode cX7_correctedBy 69 = .ok (.iaload, 1) := by decide +kernel
theorem dX7_correctedBy_70 : decode cX7_correctedBy 70 = .ok (.iadd, 1) := by decide +kernel
theorem dX7_correctedBy_71 : decode cX7_correctedBy 71 = .ok (.invokestatic 138, 3) := by decide +kernel
theorem dX7_correctedBy_74 : decode cX7_correctedBy 74 = .ok (.dup2, 1) := by decide +kernel
theorem dX7_correctedBy_75 : decode cX7_correctedBy 75 = .ok (.iaload, 1) := by decide +kernel
theorem dX7_correctedBy_76 : decode cX7_correctedBy 76 = .ok (.iload_n 2, 1) := by decide +kernel
theorem dX7_correctedBy_77 : decode cX7_correctedBy 77 = .ok (.isub, 1) := by decide +kernel
theorem dX7_correctedBy_78 : decode cX7_correctedBy 78 = .ok (.iastore, 1) := by decide +kernel
theorem dX7_correctedBy_79 : decode cX7_correctedBy 79 = .ok (.return_, 1) := by decide +kernel
theorem dX7_worst_0 : decode cX7_worst 0 = .ok (.iconst 0, 1) := by decide +kernel
theorem dX7_worst_1 : decode cX7_worst 1 = .ok (.istore_n 1, 1) := by decide +kernel
theorem dX7_worst_2 : decode cX7_worst 2 = .ok (.iconst 1, 1) := by decide +kernel
theorem dX7_worst_3 : decode cX7_worst 3 = .ok (.istore_n 2, 1) := by decide +kernel
theorem dX7_worst_4 : decode cX7_worst 4 = .ok (.iload_n 2, 1) := by decide +kernel
theorem dX7_worst_5 : decode cX7_worst 5 = .ok (.aload_n 0, 1) := by decide +kernel
theorem dX7_worst_6 : decode cX7_worst 6 = .ok (.getfield 75, 3) := by decide +kernel
theorem dX7_worst_9 : decode cX7_worst 9 = .ok (.if_icmp .ge 33, 3) := by decide +kernel
theorem dX7_worst_12 : decode cX7_worst 12 = .ok (.aload_n 0, 1) := by decide +kernel
theorem dX7_worst_13 : decode cX7_worst 13 = .ok (.getfield 7, 3) := by decide +kernel
theorem dX7_worst_16 : decode cX7_worst 16 = .ok (.bipush 57, 2) := by decide +kernel
theorem dX7_worst_18 : decode cX7_worst 18 = .ok (.iload_n 2, 1) := by decide +kernel
theorem dX7_worst_19 : decode cX7_worst 19 = .ok (.iadd, 1) := by decide +kernel
theorem dX7_worst_20 : decode cX7_worst 20 = .ok (.iaload, 1) := by decide +kernel
theorem dX7_worst_21 : decode cX7_worst 21 = .ok (.invokestatic 148, 3) := by decide +kernel
theorem dX7_worst_24 : decode cX7_worst 24 = .ok (.istore_n 3, 1) := by decide +kernel
theorem dX7_worst_25 : decode cX7_worst 25 = .ok (.iload_n 3, 1) := by decide +kernel
theorem dX7_worst_26 : decode cX7_worst 26 = .ok (.iload_n 1, 1) := by decide +kernel
theorem dX7_worst_27 : decode cX7_worst 27 = .ok (.if_icmp .le 7, 3) := by decide +kernel
theorem dX7_worst_30 : decode cX7_worst 30 = .ok (.iload_n 3, 1) := by decide +kernel
theorem dX7_worst_31 : decode cX7_worst 31 = .ok (.goto 4, 3) := by decide +kernel
theorem dX7_worst_34 : decode cX7_worst 34 = .ok (.iload_n 1, 1) := by decide +kernel
theorem dX7_worst_35 : decode cX7_worst 35 = .ok (.istore_n 1, 1) := by decide +kernel
theorem dX7_worst_36 : decode cX7_worst 36 = .ok (.iinc 2 1, 3) := by decide +kernel
theorem dX7_worst_39 : decode cX7_worst 39 = .ok (.goto (-35), 3) := by decide +kernel
theorem dX7_worst_42 : decode cX7_worst 42 = .ok (.iload_n 1, 1) := by decide +kernel
theorem dX7_worst_43 : decode cX7_worst 43 = .ok (.ireturn, 1) := by decide +kernel
theorem dX7_isSeen_0 : decode cX7_isSeen 0 = .ok (.aload_n 0, 1) := by decide +kernel
theorem dX7_isSeen_1 : decode cX7_isSeen 1 = .ok (.getfield 7, 3) := by decide +kernel
theorem dX7_isSeen_4 : decode cX7_isSeen 4 = .ok (.iconst 5, 1) := by decide +kernel
theorem dX7_isSeen_5 : decode cX7_isSeen 5 = .ok (.iaload, 1) := by decide +kernel
theorem dX7_isSeen_6 : decode cX7_isSeen 6 = .ok (.aload_n 0, 1) := by decide +kernel
theorem dX7_isSeen_7 : decode cX7_isSeen 7 = .ok (.getfield 35, 3) := by decide +kernel
theorem dX7_isSeen_10 : decode cX7_isSeen 10 = .ok (.aload_n 0, 1) := by decide +kernel
theorem dX7_isSeen_11 : decode cX7_isSeen 11 = .ok (.getfield 75, 3) := by decide +kernel
theorem dX7_isSeen_14 : decode cX7_isSeen 14 = .ok (.iconst 1, 1) := by decide +kernel
theorem dX7_isSeen_15 : decode cX7_isSeen 15 = .ok (.isub, 1) := by decide +kernel
theorem dX7_isSeen_16 : decode cX7_isSeen 16 = .ok (.iaload, 1) := by decide +kernel
theorem dX7_isSeen_17 : decode cX7_isSeen 17 = .ok (.isub, 1) := by decide +kernel
theorem dX7_isSeen_18 : decode cX7_isSeen 18 = .ok (.aload_n 0, 1) := by decide +kernel
theorem dX7_isSeen_19 : decode cX7_isSeen 19 = .ok (.getfield 44, 3) := by decide +kernel
theorem dX7_isSeen_22 : decode cX7_isSeen 22 = .ok (.iconst 0, 1) := by decide +kernel
theorem dX7_isSeen_23 : decode cX7_isSeen 23 = .ok (.iaload, 1) := by decide +kernel
theorem dX7_isSeen_24 : decode cX7_isSeen 24 = .ok (.isub, 1) := by decide +kernel
theorem dX7_isSeen_25 : decode cX7_isSeen 25 = .ok (.istore_n 1, 1) := by decide +kernel
theorem dX7_isSeen_26 : decode cX7_isSeen 26 = .ok (.aload_n 0, 1) := by decide +kernel
theorem dX7_isSeen_27 : decode cX7_isSeen 27 = .ok (.iload_n 1, 1) := by decide +kernel
theorem dX7_isSeen_28 : decode cX7_isSeen 28 = .ok (.invokevirtual 142, 3) := by decide +kernel
theorem dX7_isSeen_31 : decode cX7_isSeen 31 = .ok (.ifCond .ne 5, 3) := by decide +kernel
theorem dX7_isSeen_34 : decode cX7_isSeen 34 = .ok (.iconst 0, 1) := by decide +kernel
theorem dX7_isSeen_35 : decode cX7_isSeen 35 = .ok (.ireturn, 1) := by decide +kernel
theorem dX7_isSeen_36 : decode cX7_isSeen 36 = .ok (.iload_n 1, 1) := by decide +kernel
theorem dX7_isSeen_37 : decode cX7_isSeen 37 = .ok (.invokestatic 134, 3) := by decide +kernel
theorem dX7_isSeen_40 : decode cX7_isSeen 40 = .ok (.istore_n 2, 1) := by decide +kernel
theorem dX7_isSeen_41 : decode cX7_isSeen 41 = .ok (.aload_n 0, 1) := by decide +kernel
theorem dX7_isSeen_42 : decode cX7_isSeen 42 = .ok (.getfield 7, 3) := by decide +kernel
theorem dX7_isSeen_45 : decode cX7_isSeen 45 = .ok (.iload_n 2, 1) := by decide +kernel
theorem dX7_isSeen_46 : decode cX7_isSeen 46 = .ok (.iconst 0, 1) := by decide +kernel
theorem dX7_isSeen_47 : decode cX7_isSeen 47 = .ok (.iadd, 1) := by decide +kernel
theorem dX7_isSeen_48 : decode cX7_isSeen 48 = .ok (.iconst 0, 1) := by decide +kernel
theorem dX7_isSeen_49 : decode cX7_isSeen 49 = .ok (.iastore, 1) := by decide +kernel
theorem dX7_isSeen_50 : decode cX7_isSeen 50 = .ok (.aload_n 0, 1) := by decide +kernel
theorem dX7_isSeen_51 : decode cX7_isSeen 51 = .ok (.getfield 7, 3) := by decide +kernel
theorem dX7_isSeen_54 : decode cX7_isSeen 54 = .ok (.bipush 54, 2) := by decide +kernel
theorem dX7_isSeen_56 : decode cX7_isSeen 56 = .ok (.aload_n 0, 1) := by decide +kernel
theorem dX7_isSeen_57 : decode cX7_isSeen 57 = .ok (.getfield 7, 3) := by decide +kernel
theorem dX7_isSeen_60 : decode cX7_isSeen 60 = .ok (.iload_n 2, 1) := by decide +kernel
theorem dX7_isSeen_61 : decode cX7_isSeen 61 = .ok (.iconst 1, 1) := by decide +kernel
theorem dX7_isSeen_62 : decode cX7_isSeen 62 = .ok (.iadd, 1) := by decide +kernel
theorem dX7_isSeen_63 : decode cX7_isSeen 63 = .ok (.iaload, 1) := by decide +kernel
theorem dX7_isSeen_64 : decode cX7_isSeen 64 = .ok (.iconst 1, 1) := by decide +kernel
theorem dX7_isSeen_65 : decode cX7_isSeen 65 = .ok (.iadd, 1) := by decide +kernel
theorem dX7_isSeen_66 : decode cX7_isSeen 66 = .ok (.iastore, 1) := by decide +kernel
theorem dX7_isSeen_67 : decode cX7_isSeen 67 = .ok (.aload_n 0, 1) := by decide +kernel
end
section
theorem dX7_isSeen_68 : decode cX7_isSeen 68 = .ok (.getfield 7, 3) := by decide +kernel
theorem dX7_isSeen_71 : decode cX7_isSeen 71 = .ok (.bipush 55, 2) := by decide +kernel
theorem dX7_isSeen_73 : decode cX7_isSeen 73 = .ok (.aload_n 0, 1) := by decide +kernel
theorem dX7_isSeen_74 : decode cX7_isSeen 74 = .ok (.getfield 7, 3) := by decide +kernel
theorem dX7_isSeen_77 : decode cX7_isSeen 77 = .ok (.iload_n 2, 1) := by decide +kernel
theorem dX7_isSeen_78 : decode cX7_isSeen 78 = .ok (.iconst 3, 1) := by decide +kernel
theorem dX7_isSeen_79 : decode cX7_isSeen 79 = .ok (.iadd, 1) := by decide +kernel
theorem dX7_isSeen_80 : decode cX7_isSeen 80 = .ok (.iaload, 1) := by decide +kernel
theorem dX7_isSeen_81 : decode cX7_isSeen 81 = .ok (.iastore, 1) := by decide +kernel
theorem dX7_isSeen_82 : decode cX7_isSeen 82 = .ok (.iconst 0, 1) := by decide +kernel
theorem dX7_isSeen_83 : decode cX7_isSeen 83 = .ok (.istore_n 3, 1) := by decide +kernel
theorem dX7_isSeen_84 : decode cX7_isSeen 84 = .ok (.iload_n 3, 1) := by decide +kernel
theorem dX7_isSeen_85 : decode cX7_isSeen 85 = .ok (.iconst 4, 1) := by decide +kernel
theorem dX7_isSeen_86 : decode cX7_isSeen 86 = .ok (.if_icmp .ge 28, 3) := by decide +kernel
theorem dX7_isSeen_89 : decode cX7_isSeen 89 = .ok (.aload_n 0, 1) := by decide +kernel
theorem dX7_isSeen_90 : decode cX7_isSeen 90 = .ok (.getfield 7, 3) := by decide +kernel
theorem dX7_isSeen_93 : decode cX7_isSeen 93 = .ok (.bipush 57, 2) := by decide +kernel
theorem dX7_isSeen_95 : decode cX7_isSeen 95 = .ok (.iload_n 3, 1) := by decide +kernel
theorem dX7_isSeen_96 : decode cX7_isSeen 96 = .ok (.iadd, 1) := by decide +kernel
theorem dX7_isSeen_97 : decode cX7_isSeen 97 = .ok (.aload_n 0, 1) := by decide +kernel
theorem dX7_isSeen_98 : decode cX7_isSeen 98 = .ok (.getfield 7, 3) := by decide +kernel
theorem dX7_isSeen_101 : decode cX7_isSeen 101 = .ok (.iload_n 2, 1) := by decide +kernel
theorem dX7_isSeen_102 : decode cX7_isSeen 102 = .ok (.iconst 5, 1) := by decide +kernel
theorem dX7_isSeen_103 : decode cX7_isSeen 103 = .ok (.iadd, 1) := by decide +kernel
theorem dX7_isSeen_104 : decode cX7_isSeen 104 = .ok (.iload_n 3, 1) := by decide +kernel
theorem dX7_isSeen_105 : decode cX7_isSeen 105 = .ok (.iadd, 1) := by decide +kernel
theorem dX7_isSeen_106 : decode cX7_isSeen 106 = .ok (.iaload, 1) := by decide +kernel
theorem dX7_isSeen_107 : decode cX7_isSeen 107 = .ok (.iastore, 1) := by decide +kernel
theorem dX7_isSeen_108 : decode cX7_isSeen 108 = .ok (.iinc 3 1, 3) := by decide +kernel
theorem dX7_isSeen_111 : decode cX7_isSeen 111 = .ok (.goto (-27), 3) := by decide +kernel
theorem dX7_isSeen_114 : decode cX7_isSeen 114 = .ok (.aload_n 0, 1) := by decide +kernel
theorem dX7_isSeen_115 : decode cX7_isSeen 115 = .ok (.getfield 7, 3) := by decide +kernel
theorem dX7_isSeen_118 : decode cX7_isSeen 118 = .ok (.bipush 55, 2) := by decide +kernel
theorem dX7_isSeen_120 : decode cX7_isSeen 120 = .ok (.iaload, 1) := by decide +kernel
theorem dX7_isSeen_121 : decode cX7_isSeen 121 = .ok (.ifCond .ne 20, 3) := by decide +kernel
theorem dX7_isSeen_124 : decode cX7_isSeen 124 = .ok (.aload_n 0, 1) := by decide +kernel
theorem dX7_isSeen_125 : decode cX7_isSeen 125 = .ok (.invokevirtual 151, 3) := by decide +kernel
theorem dX7_isSeen_128 : decode cX7_isSeen 128 = .ok (.aload_n 0, 1) := by decide +kernel
theorem dX7_isSeen_129 : decode cX7_isSeen 129 = .ok (.getfield 44, 3) := by decide +kernel
theorem dX7_isSeen_132 : decode cX7_isSeen 132 = .ok (.iconst 1, 1) := by decide +kernel
theorem dX7_isSeen_133 : decode cX7_isSeen 133 = .ok (.iaload, 1) := by decide +kernel
theorem dX7_isSeen_134 : decode cX7_isSeen 134 = .ok (.if_icmp .gt 7, 3) := by decide +kernel
theorem dX7_isSeen_137 : decode cX7_isSeen 137 = .ok (.iconst 1, 1) := by decide +kernel
theorem dX7_isSeen_138 : decode cX7_isSeen 138 = .ok (.goto 4, 3) := by decide +kernel
theorem dX7_isSeen_141 : decode cX7_isSeen 141 = .ok (.iconst 0, 1) := by decide +kernel
theorem dX7_isSeen_142 : decode cX7_isSeen 142 = .ok (.istore_n 3, 1) := by decide +kernel
theorem dX7_isSeen_143 : decode cX7_isSeen 143 = .ok (.aload_n 0, 1) := by decide +kernel
theorem dX7_isSeen_144 : decode cX7_isSeen 144 = .ok (.getfield 7, 3) := by decide +kernel
theorem dX7_isSeen_147 : decode cX7_isSeen 147 = .ok (.bipush 56, 2) := by decide +kernel
theorem dX7_isSeen_149 : decode cX7_isSeen 149 = .ok (.iload_n 3, 1) := by decide +kernel
theorem dX7_isSeen_150 : decode cX7_isSeen 150 = .ok (.ifCond .eq 7, 3) := by decide +kernel
theorem dX7_isSeen_153 : decode cX7_isSeen 153 = .ok (.iconst 1, 1) := by decide +kernel
theorem dX7_isSeen_154 : decode cX7_isSeen 154 = .ok (.goto 4, 3) := by decide +kernel
theorem dX7_isSeen_157 : decode cX7_isSeen 157 = .ok (.iconst 0, 1) := by decide +kernel
theorem dX7_isSeen_158 : decode cX7_isSeen 158 = .ok (.iastore, 1) := by decide +kernel
theorem dX7_isSeen_159 : decode cX7_isSeen 159 = .ok (.aload_n 0, 1) := by decide +kernel
theorem dX7_isSeen_160 : decode cX7_isSeen 160 = .ok (.getfield 7, 3) := by decide +kernel
theorem dX7_isSeen_163 : decode cX7_isSeen 163 = .ok (.bipush 7, 2) := by decide +kernel
theorem dX7_isSeen_165 : decode cX7_isSeen 165 = .ok (.dup2, 1) := by decide +kernel
theorem dX7_isSeen_166 : decode cX7_isSeen 166 = .ok (.iaload, 1) := by decide +kernel
theorem dX7_isSeen_167 : decode cX7_isSeen 167 = .ok (.iload_n 3, 1) := by decide +kernel
theorem dX7_isSeen_168 : decode cX7_isSeen 168 = .ok (.ifCond .eq 7, 3) := by decide +kernel
theorem dX7_isSeen_171 : decode cX7_isSeen 171 = .ok (.iconst 1, 1) := by decide +kernel
theorem dX7_isSeen_172 : decode cX7_isSeen 172 = .ok (.goto 4, 3) := by decide +kernel
theorem dX7_isSeen_175 : decode cX7_isSeen 175 = .ok (.iconst 0, 1) := by decide +kernel
theorem dX7_isSeen_176 : decode cX7_isSeen 176 = .ok (.iadd, 1) := by decide +kernel
theorem dX7_isSeen_177 : decode cX7_isSeen 177 = .ok (.iastore, 1) := by decide +kernel
theorem dX7_isSeen_178 : decode cX7_isSeen 178 = .ok (.aload_n 0, 1) := by decide +kernel
theorem dX7_isSeen_179 : decode cX7_isSeen 179 = .ok (.getfield 7, 3) := by decide +kernel
theorem dX7_isSeen_182 : decode cX7_isSeen 182 = .ok (.bipush 8, 2) := by decide +kernel
theorem dX7_isSeen_184 : decode cX7_isSeen 184 = .ok (.dup2, 1) := by decide +kernel
theorem dX7_isSeen_185 : decode cX7_isSeen 185 = .ok (.iaload, 1) := by decide +kernel
theorem dX7_isSeen_186 : decode cX7_isSeen 186 = .ok (.iload_n 3, 1) := by decide +kernel
theorem dX7_isSeen_187 : decode cX7_isSeen 187 = .ok (.ifCond .eq 7, 3) := by decide +kernel
theorem dX7_isSeen_190 : decode cX7_isSeen 190 = .ok (.iconst 0, 1) := by decide +kernel
theorem dX7_isSeen_191 : decode cX7_isSeen 191 = .ok (.goto 4, 3) := by decide +kernel
theorem dX7_isSeen_194 : decode cX7_isSeen 194 = .ok (.iconst 1, 1) := by decide +kernel
theorem dX7_isSeen_195 : decode cX7_isSeen 195 = .ok (.iadd, 1) := by decide +kernel
theorem dX7_isSeen_196 : decode cX7_isSeen 196 = .ok (.iastore, 1) := by decide +kernel
theorem dX7_isSeen_197 : decode cX7_isSeen 197 = .ok (.iconst 1, 1) := by decide +kernel
theorem dX7_isSeen_198 : decode cX7_isSeen 198 = .ok (.ireturn, 1) := by decide +kernel
theorem dX7_corrections_0 : decode cX7_corrections 0 = .ok (.iconst 1, 1) := by decide +kernel
theorem dX7_corrections_1 : decode cX7_corrections 1 = .ok (.istore_n 1, 1) := by decide +kernel
theorem dX7_corrections_2 : decode cX7_corrections 2 = .ok (.iload_n 1, 1) := by decide +kernel
theorem dX7_corrections_3 : decode cX7_corrections 3 = .ok (.aload_n 0, 1) := by decide +kernel
theorem dX7_corrections_4 : decode cX7_corrections 4 = .ok (.getfield 75, 3) := by decide +kernel
theorem dX7_corrections_7 : decode cX7_corrections 7 = .ok (.if_icmp .ge 76, 3) := by decide +kernel
theorem dX7_corrections_10 : decode cX7_corrections 10 = .ok (.aload_n 0, 1) := by decide +kernel
theorem dX7_corrections_11 : decode cX7_corrections 11 = .ok (.getfield 7, 3) := by decide +kernel
theorem dX7_corrections_14 : decode cX7_corrections 14 = .ok (.bipush 57, 2) := by decide +kernel
theorem dX7_corrections_16 : decode cX7_corrections 16 = .ok (.iload_n 1, 1) := by decide +kernel
theorem dX7_corrections_17 : decode cX7_corrections 17 = .ok (.iadd, 1) := by decide +kernel
theorem dX7_corrections_18 : decode cX7_corrections 18 = .ok (.iaload, 1) := by decide +kernel
theorem dX7_corrections_19 : decode cX7_corrections 19 = .ok (.istore_n 2, 1) := by decide +kernel
theorem dX7_corrections_20 : decode cX7_corrections 20 = .ok (.aload_n 0, 1) := by decide +kernel
theorem dX7_corrections_21 : decode cX7_corrections 21 = .ok (.getfield 7, 3) := by decide +kernel
theorem dX7_corrections_24 : decode cX7_corrections 24 = .ok (.bipush 18, 2) := by decide +kernel
theorem dX7_corrections_26 : decode cX7_corrections 26 = .ok (.iload_n 1, 1) := by decide +kernel
theorem dX7_corrections_27 : decode cX7_corrections 27 = .ok (.iadd, 1) := by decide +kernel
theorem dX7_corrections_28 : decode cX7_corrections 28 = .ok (.iaload, 1) := by decide +kernel
theorem dX7_corrections_29 : decode cX7_corrections 29 = .ok (.ifCond .le 19, 3) := by decide +kernel
theorem dX7_corrections_32 : decode cX7_corrections 32 = .ok (.aload_n 0, 1) := by decide +kernel
theorem dX7_corrections_33 : decode cX7_corrections 33 = .ok (.getfield 7, 3) := by decide +kernel
theorem dX7_corrections_36 : decode cX7_corrections 36 = .ok (.bipush 18, 2) := by decide +kernel
theorem dX7_corrections_38 : decode cX7_corrections 38 = .ok (.iload_n 1, 1) := by decide +kernel
theorem dX7_corrections_39 : decode cX7_corrections 39 = .ok (.iadd, 1) := by decide +kernel
theorem dX7_corrections_40 : decode cX7_corrections 40 = .ok (.dup2, 1) := by decide +kernel
theorem dX7_corrections_41 : decode cX7_corrections 41 = .ok (.iaload, 1) := by decide +kernel
theorem dX7_corrections_42 : decode cX7_corrections 42 = .ok (.iconst 1, 1) := by decide +kernel
theorem dX7_corrections_43 : decode cX7_corrections 43 = .ok (.isub, 1) := by decide +kernel
theorem dX7_corrections_44 : decode cX7_corrections 44 = .ok (.iastore, 1) := by decide +kernel
theorem dX7_corrections_45 : decode cX7_corrections 45 = .ok (.goto 32, 3) := by decide +kernel
theorem dX7_corrections_48 : decode cX7_corrections 48 = .ok (.iload_n 2, 1) := by decide +kernel
theorem dX7_corrections_49 : decode cX7_corrections 49 = .ok (.invokestatic 148, 3) := by decide +kernel
theorem dX7_corrections_52 : decode cX7_corrections 52 = .ok (.aload_n 0, 1) := by decide +kernel
theorem dX7_corrections_53 : decode cX7_corrections 53 = .ok (.getfield 44, 3) := by decide +kernel
theorem dX7_corrections_56 : decode cX7_corrections 56 = .ok (.iconst 2, 1) := by decide +kernel
theorem dX7_corrections_57 : decode cX7_corrections 57 = .ok (.iaload, 1) := by decide +kernel
theorem dX7_corrections_58 : decode cX7_corrections 58 = .ok (.if_icmp .le 19, 3) := by decide +kernel
theorem dX7_corrections_61 : decode cX7_corrections 61 = .ok (.aload_n 0, 1) := by decide +kernel
theorem dX7_corrections_62 : decode cX7_corrections 62 = .ok (.getfield 7, 3) := by decide +kernel
theorem dX7_corrections_65 : decode cX7_corrections 65 = .ok (.bipush 55, 2) := by decide +kernel
theorem dX7_corrections_67 : decode cX7_corrections 67 = .ok (.iaload, 1) := by decide +kernel
theorem dX7_corrections_68 : decode cX7_corrections 68 = .ok (.ifCond .ne 9, 3) := by decide +kernel
theorem dX7_corrections_71 : decode cX7_corrections 71 = .ok (.aload_n 0, 1) := by decide +kernel
theorem dX7_corrections_72 : decode cX7_corrections 72 = .ok (.iload_n 1, 1) := by decide +kernel
theorem dX7_corrections_73 : decode cX7_corrections 73 = .ok (.iload_n 2, 1) := by decide +kernel
theorem dX7_corrections_74 : decode cX7_corrections 74 = .ok (.invokevirtual 154, 3) := by decide +kernel
theorem dX7_corrections_77 : decode cX7_corrections 77 = .ok (.iinc 1 1, 3) := by decide +kernel
theorem dX7_corrections_80 : decode cX7_corrections 80 = .ok (.goto (-78), 3) := by decide +kernel
theorem dX7_corrections_83 : decode cX7_corrections 83 = .ok (.return_, 1) := by decide +kernel
theorem dX7_goes_0 : decode cX7_goes 0 = .ok (.aload_n 0, 1) := by decide +kernel
theorem dX7_goes_1 : decode cX7_goes 1 = .ok (.getfield 7, 3) := by decide +kernel
theorem dX7_goes_4 : decode cX7_goes 4 = .ok (.iconst 5, 1) := by decide +kernel
theorem dX7_goes_5 : decode cX7_goes 5 = .ok (.dup2, 1) := by decide +kernel
theorem dX7_goes_6 : decode cX7_goes 6 = .ok (.iaload, 1) := by decide +kernel
theorem dX7_goes_7 : decode cX7_goes 7 = .ok (.iconst 1, 1) := by decide +kernel
theorem dX7_goes_8 : decode cX7_goes 8 = .ok (.iadd, 1) := by decide +kernel
theorem dX7_goes_9 : decode cX7_goes 9 = .ok (.iastore, 1) := by decide +kernel
theorem dX7_goes_10 : decode cX7_goes 10 = .ok (.iload_n 1, 1) := by decide +kernel
theorem dX7_goes_11 : decode cX7_goes 11 = .ok (.iconst 2, 1) := by decide +kernel
theorem dX7_goes_12 : decode cX7_goes 12 = .ok (.if_icmp .ne 7, 3) := by decide +kernel
theorem dX7_goes_15 : decode cX7_goes 15 = .ok (.iconst 1, 1) := by decide +kernel
theorem dX7_goes_16 : decode cX7_goes 16 = .ok (.goto 4, 3) := by decide +kernel
theorem dX7_goes_19 : decode cX7_goes 19 = .ok (.iconst 0, 1) := by decide +kernel
theorem dX7_goes_20 : decode cX7_goes 20 = .ok (.istore_n 2, 1) := by decide +kernel
theorem dX7_goes_21 : decode cX7_goes 21 = .ok (.iload_n 1, 1) := by decide +kernel
theorem dX7_goes_22 : decode cX7_goes 22 = .ok (.ifCond .ne 61, 3) := by decide +kernel
theorem dX7_goes_25 : decode cX7_goes 25 = .ok (.aload_n 0, 1) := by decide +kernel
theorem dX7_goes_26 : decode cX7_goes 26 = .ok (.getfield 7, 3) := by decide +kernel
theorem dX7_goes_29 : decode cX7_goes 29 = .ok (.iconst 2, 1) := by decide +kernel
theorem dX7_goes_30 : decode cX7_goes 30 = .ok (.iaload, 1) := by decide +kernel
theorem dX7_goes_31 : decode cX7_goes 31 = .ok (.ifCond .ne 52, 3) := by decide +kernel
theorem dX7_goes_34 : decode cX7_goes 34 = .ok (.aload_n 0, 1) := by decide +kernel
theorem dX7_goes_35 : decode cX7_goes 35 = .ok (.invokevirtual 158, 3) := by decide +kernel
theorem dX7_goes_38 : decode cX7_goes 38 = .ok (.bipush (-9), 2) := by decide +kernel
theorem dX7_goes_40 : decode cX7_goes 40 = .ok (.if_icmp .eq 31, 3) := by decide +kernel
theorem dX7_goes_43 : decode cX7_goes 43 = .ok (.aload_n 0, 1) := by decide +kernel
theorem dX7_goes_44 : decode cX7_goes 44 = .ok (.getfield 7, 3) := by decide +kernel
theorem dX7_goes_47 : decode cX7_goes 47 = .ok (.iconst 3, 1) := by decide +kernel
theorem dX7_goes_48 : decode cX7_goes 48 = .ok (.iaload, 1) := by decide +kernel
theorem dX7_goes_49 : decode cX7_goes 49 = .ok (.ifCond .le 22, 3) := by decide +kernel
theorem dX7_goes_52 : decode cX7_goes 52 = .ok (.aload_n 0, 1) := by decide +kernel
theorem dX7_goes_53 : decode cX7_goes 53 = .ok (.getfield 7, 3) := by decide +kernel
theorem dX7_goes_56 : decode cX7_goes 56 = .ok (.iconst 3, 1) := by decide +kernel
theorem dX7_goes_57 : decode cX7_goes 57 = .ok (.iaload, 1) := by decide +kernel
theorem dX7_goes_58 : decode cX7_goes 58 = .ok (.aload_n 0, 1) := by decide +kernel
theorem dX7_goes_59 : decode cX7_goes 59 = .ok (.getfield 44, 3) := by decide +kernel
theorem dX7_goes_62 : decode cX7_goes 62 = .ok (.iconst 3, 1) := by decide +kernel
theorem dX7_goes_63 : decode cX7_goes 63 = .ok (.iaload, 1) := by decide +kernel
theorem dX7_goes_64 : decode cX7_goes 64 = .ok (.if_icmp .lt 7, 3) := by decide +kernel
theorem dX7_goes_67 : decode cX7_goes 67 = .ok (.iconst 1, 1) := by decide +kernel
theorem dX7_goes_68 : decode cX7_goes 68 = .ok (.goto 4, 3) := by decide +kernel
theorem dX7_goes_71 : decode cX7_goes 71 = .ok (.iconst 0, 1) := by decide +kernel
theorem dX7_goes_72 : decode cX7_goes 72 = .ok (.istore_n 2, 1) := by decide +kernel
theorem dX7_goes_73 : decode cX7_goes 73 = .ok (.iload_n 2, 1) := by decide +kernel
theorem dX7_goes_74 : decode cX7_goes 74 = .ok (.ifCond .ne 9, 3) := by decide +kernel
theorem dX7_goes_77 : decode cX7_goes 77 = .ok (.aload_n 0, 1) := by decide +kernel
theorem dX7_goes_78 : decode cX7_goes 78 = .ok (.invokevirtual 161, 3) := by decide +kernel
theorem dX7_goes_81 : decode cX7_goes 81 = .ok (.iconst 0, 1) := by decide +kernel
theorem dX7_goes_82 : decode cX7_goes 82 = .ok (.ireturn, 1) := by decide +kernel
theorem dX7_goes_83 : decode cX7_goes 83 = .ok (.iload_n 2, 1) := by decide +kernel
theorem dX7_goes_84 : decode cX7_goes 84 = .ok (.ifCond .eq 18, 3) := by decide +kernel
theorem dX7_goes_87 : decode cX7_goes 87 = .ok (.aload_n 0, 1) := by decide +kernel
theorem dX7_goes_88 : decode cX7_goes 88 = .ok (.invokevirtual 164, 3) := by decide +kernel
theorem dX7_goes_91 : decode cX7_goes 91 = .ok (.aload_n 0, 1) := by decide +kernel
theorem dX7_goes_92 : decode cX7_goes 92 = .ok (.getfield 7, 3) := by decide +kernel
theorem dX7_goes_95 : decode cX7_goes 95 = .ok (.bipush 9, 2) := by decide +kernel
theorem dX7_goes_97 : decode cX7_goes 97 = .ok (.dup2, 1) := by decide +kernel
theorem dX7_goes_98 : decode cX7_goes 98 = .ok (.iaload, 1) := by decide +kernel
theorem dX7_goes_99 : decode cX7_goes 99 = .ok (.iconst 1, 1) := by decide +kernel
theorem dX7_goes_100 : decode cX7_goes 100 = .ok (.iadd, 1) := by decide +kernel
theorem dX7_goes_101 : decode cX7_goes 101 = .ok (.iastore, 1) := by decide +kernel
theorem dX7_goes_102 : decode cX7_goes 102 = .ok (.aload_n 0, 1) := by decide +kernel
theorem dX7_goes_103 : decode cX7_goes 103 = .ok (.iload_n 2, 1) := by decide +kernel
theorem dX7_goes_104 : decode cX7_goes 104 = .ok (.invokevirtual 167, 3) := by decide +kernel
theorem dX7_goes_107 : decode cX7_goes 107 = .ok (.aload_n 0, 1) := by decide +kernel
theorem dX7_goes_108 : decode cX7_goes 108 = .ok (.getfield 7, 3) := by decide +kernel
theorem dX7_goes_111 : decode cX7_goes 111 = .ok (.iconst 2, 1) := by decide +kernel
theorem dX7_goes_112 : decode cX7_goes 112 = .ok (.dup2, 1) := by decide +kernel
theorem dX7_goes_113 : decode cX7_goes 113 = .ok (.iaload, 1) := by decide +kernel
theorem dX7_goes_114 : decode cX7_goes 114 = .ok (.iload_n 1, 1) := by decide +kernel
theorem dX7_goes_115 : decode cX7_goes 115 = .ok (.ifCond .ne 7, 3) := by decide +kernel
theorem dX7_goes_118 : decode cX7_goes 118 = .ok (.iconst 1, 1) := by decide +kernel
theorem dX7_goes_119 : decode cX7_goes 119 = .ok (.goto 4, 3) := by decide +kernel
theorem dX7_goes_122 : decode cX7_goes 122 = .ok (.iconst 0, 1) := by decide +kernel
theorem dX7_goes_123 : decode cX7_goes 123 = .ok (.isub, 1) := by decide +kernel
theorem dX7_goes_124 : decode cX7_goes 124 = .ok (.iastore, 1) := by decide +kernel
theorem dX7_goes_125 : decode cX7_goes 125 = .ok (.iconst 1, 1) := by decide +kernel
theorem dX7_goes_126 : decode cX7_goes 126 = .ok (.istore_n 3, 1) := by decide +kernel
theorem dX7_goes_127 : decode cX7_goes 127 = .ok (.iload_n 3, 1) := by decide +kernel
theorem dX7_goes_128 : decode cX7_goes 128 = .ok (.aload_n 0, 1) := by decide +kernel
theorem dX7_goes_129 : decode cX7_goes 129 = .ok (.getfield 75, 3) := by decide +kernel
theorem dX7_goes_132 : decode cX7_goes 132 = .ok (.if_icmp .ge 14, 3) := by decide +kernel
theorem dX7_goes_135 : decode cX7_goes 135 = .ok (.aload_n 0, 1) := by decide +kernel
theorem dX7_goes_136 : decode cX7_goes 136 = .ok (.iload_n 3, 1) := by decide +kernel
theorem dX7_goes_137 : decode cX7_goes 137 = .ok (.invokevirtual 171, 3) := by decide +kernel
theorem dX7_goes_140 : decode cX7_goes 140 = .ok (.iinc 3 1, 3) := by decide +kernel
theorem dX7_goes_143 : decode cX7_goes 143 = .ok (.goto (-16), 3) := by decide +kernel
theorem dX7_goes_146 : decode cX7_goes 146 = .ok (.aload_n 0, 1) := by decide +kernel
theorem dX7_goes_147 : decode cX7_goes 147 = .ok (.invokevirtual 175, 3) := by decide +kernel
theorem dX7_goes_150 : decode cX7_goes 150 = .ok (.istore_n 3, 1) := by decide +kernel
theorem dX7_goes_151 : decode cX7_goes 151 = .ok (.iload_n 3, 1) := by decide +kernel
theorem dX7_goes_152 : decode cX7_goes 152 = .ok (.ifCond .eq 7, 3) := by decide +kernel
theorem dX7_goes_155 : decode cX7_goes 155 = .ok (.aload_n 0, 1) := by decide +kernel
theorem dX7_goes_156 : decode cX7_goes 156 = .ok (.invokevirtual 178, 3) := by decide +kernel
theorem dX7_goes_159 : decode cX7_goes 159 = .ok (.aload_n 0, 1) := by decide +kernel
theorem dX7_goes_160 : decode cX7_goes 160 = .ok (.getfield 7, 3) := by decide +kernel
theorem dX7_goes_163 : decode cX7_goes 163 = .ok (.iconst 3, 1) := by decide +kernel
theorem dX7_goes_164 : decode cX7_goes 164 = .ok (.dup2, 1) := by decide +kernel
theorem dX7_goes_165 : decode cX7_goes 165 = .ok (.iaload, 1) := by decide +kernel
theorem dX7_goes_166 : decode cX7_goes 166 = .ok (.aload_n 0, 1) := by decide +kernel
theorem dX7_goes_167 : decode cX7_goes 167 = .ok (.getfield 7, 3) := by decide +kernel
theorem dX7_goes_170 : decode cX7_goes 170 = .ok (.iconst 3, 1) := by decide +kernel
theorem dX7_goes_171 : decode cX7_goes 171 = .ok (.iaload, 1) := by decide +kernel
theorem dX7_goes_172 : decode cX7_goes 172 = .ok (.ifCond .le 7, 3) := by decide +kernel
theorem dX7_goes_175 : decode cX7_goes 175 = .ok (.iconst 1, 1) := by decide +kernel
theorem dX7_goes_176 : decode cX7_goes 176 = .ok (.goto 4, 3) := by decide +kernel
theorem dX7_goes_179 : decode cX7_goes 179 = .ok (.iconst 0, 1) := by decide +kernel
theorem dX7_goes_180 : decode cX7_goes 180 = .ok (.iadd, 1) := by decide +kernel
theorem dX7_goes_181 : decode cX7_goes 181 = .ok (.iastore, 1) := by decide +kernel
theorem dX7_goes_182 : decode cX7_goes 182 = .ok (.iload_n 3, 1) := by decide +kernel
theorem dX7_goes_183 : decode cX7_goes 183 = .ok (.ireturn, 1) := by decide +kernel
theorem dX7_ticks_0 : decode cX7_ticks 0 = .ok (.iload_n 1, 1) := by decide +kernel
theorem dX7_ticks_1 : decode cX7_ticks 1 = .ok (.iconst 1, 1) := by decide +kernel
theorem dX7_ticks_2 : decode cX7_ticks 2 = .ok (.bipush 60, 2) := by decide +kernel
theorem dX7_ticks_4 : decode cX7_ticks 4 = .ok (.invokestatic 96, 3) := by decide +kernel
theorem dX7_ticks_7 : decode cX7_ticks 7 = .ok (.ifCond .ne 5, 3) := by decide +kernel
theorem dX7_ticks_10 : decode cX7_ticks 10 = .ok (.iconst (-1), 1) := by decide +kernel
theorem dX7_ticks_11 : decode cX7_ticks 11 = .ok (.ireturn, 1) := by decide +kernel
theorem dX7_ticks_12 : decode cX7_ticks 12 = .ok (.aload_n 0, 1) := by decide +kernel
theorem dX7_ticks_13 : decode cX7_ticks 13 = .ok (.getfield 7, 3) := by decide +kernel
theorem dX7_ticks_16 : decode cX7_ticks 16 = .ok (.iconst 0, 1) := by decide +kernel
theorem dX7_ticks_17 : decode cX7_ticks 17 = .ok (.iaload, 1) := by decide +kernel
theorem dX7_ticks_18 : decode cX7_ticks 18 = .ok (.ifCond .ne 6, 3) := by decide +kernel
theorem dX7_ticks_21 : decode cX7_ticks 21 = .ok (.bipush (-2), 2) := by decide +kernel
theorem dX7_ticks_23 : decode cX7_ticks 23 = .ok (.ireturn, 1) := by decide +kernel
theorem dX7_ticks_24 : decode cX7_ticks 24 = .ok (.aload_n 0, 1) := by decide +kernel
theorem dX7_ticks_25 : decode cX7_ticks 25 = .ok (.getfield 7, 3) := by decide +kernel
theorem dX7_ticks_28 : decode cX7_ticks 28 = .ok (.iconst 5, 1) := by decide +kernel
theorem dX7_ticks_29 : decode cX7_ticks 29 = .ok (.iaload, 1) := by decide +kernel
theorem dX7_ticks_30 : decode cX7_ticks 30 = .ok (.iload_n 1, 1) := by decide +kernel
theorem dX7_ticks_31 : decode cX7_ticks 31 = .ok (.iadd, 1) := by decide +kernel
theorem dX7_ticks_32 : decode cX7_ticks 32 = .ok (.sipush 9999, 3) := by decide +kernel
theorem dX7_ticks_35 : decode cX7_ticks 35 = .ok (.if_icmp .le 6, 3) := by decide +kernel
theorem dX7_ticks_38 : decode cX7_ticks 38 = .ok (.bipush (-3), 2) := by decide +kernel
theorem dX7_ticks_40 : decode cX7_ticks 40 = .ok (.ireturn, 1) := by decide +kernel
theorem dX7_ticks_41 : decode cX7_ticks 41 = .ok (.aload_n 0, 1) := by decide +kernel
theorem dX7_ticks_42 : decode cX7_ticks 42 = .ok (.invokevirtual 181, 3) := by decide +kernel
theorem dX7_ticks_45 : decode cX7_ticks 45 = .ok (.aload_n 0, 1) := by decide +kernel
theorem dX7_ticks_46 : decode cX7_ticks 46 = .ok (.getfield 7, 3) := by decide +kernel
theorem dX7_ticks_49 : decode cX7_ticks 49 = .ok (.bipush 7, 2) := by decide +kernel
theorem dX7_ticks_51 : decode cX7_ticks 51 = .ok (.iaload, 1) := by decide +kernel
theorem dX7_ticks_52 : decode cX7_ticks 52 = .ok (.istore_n 2, 1) := by decide +kernel
theorem dX7_ticks_53 : decode cX7_ticks 53 = .ok (.iconst 0, 1) := by decide +kernel
theorem dX7_ticks_54 : decode cX7_ticks 54 = .ok (.istore_n 3, 1) := by decide +kernel
theorem dX7_ticks_55 : decode cX7_ticks 55 = .ok (.iload_n 3, 1) := by decide +kernel
theorem dX7_ticks_56 : decode cX7_ticks 56 = .ok (.iload_n 1, 1) := by decide +kernel
theorem dX7_ticks_57 : decode cX7_ticks 57 = .ok (.if_icmp .ge 25, 3) := by decide +kernel
theorem dX7_ticks_60 : decode cX7_ticks 60 = .ok (.aload_n 0, 1) := by decide +kernel
theorem dX7_ticks_61 : decode cX7_ticks 61 = .ok (.getfield 7, 3) := by decide +kernel
theorem dX7_ticks_64 : decode cX7_ticks 64 = .ok (.iconst 0, 1) := by decide +kernel
theorem dX7_ticks_65 : decode cX7_ticks 65 = .ok (.iaload, 1) := by decide +kernel
theorem dX7_ticks_66 : decode cX7_ticks 66 = .ok (.iconst 1, 1) := by decide +kernel
theorem dX7_ticks_67 : decode cX7_ticks 67 = .ok (.if_icmp .ne 15, 3) := by decide +kernel
theorem dX7_ticks_70 : decode cX7_ticks 70 = .ok (.aload_n 0, 1) := by decide +kernel
theorem dX7_ticks_71 : decode cX7_ticks 71 = .ok (.iconst 0, 1) := by decide +kernel
theorem dX7_ticks_72 : decode cX7_ticks 72 = .ok (.invokevirtual 184, 3) := by decide +kernel
theorem dX7_ticks_75 : decode cX7_ticks 75 = .ok (.pop, 1) := by decide +kernel
theorem dX7_ticks_76 : decode cX7_ticks 76 = .ok (.iinc 3 1, 3) := by decide +kernel
theorem dX7_ticks_79 : decode cX7_ticks 79 = .ok (.goto (-24), 3) := by decide +kernel
theorem dX7_ticks_82 : decode cX7_ticks 82 = .ok (.aload_n 0, 1) := by decide +kernel
theorem dX7_ticks_83 : decode cX7_ticks 83 = .ok (.getfield 7, 3) := by decide +kernel
theorem dX7_ticks_86 : decode cX7_ticks 86 = .ok (.bipush 7, 2) := by decide +kernel
theorem dX7_ticks_88 : decode cX7_ticks 88 = .ok (.iaload, 1) := by decide +kernel
theorem dX7_ticks_89 : decode cX7_ticks 89 = .ok (.iload_n 2, 1) := by decide +kernel
theorem dX7_ticks_90 : decode cX7_ticks 90 = .ok (.isub, 1) := by decide +kernel
theorem dX7_ticks_91 : decode cX7_ticks 91 = .ok (.ireturn, 1) := by decide +kernel
theorem dX7_isLater_0 : decode cX7_isLater 0 = .ok (.iload_n 1, 1) := by decide +kernel
theorem dX7_isLater_1 : decode cX7_isLater 1 = .ok (.iconst 1, 1) := by decide +kernel
theorem dX7_isLater_2 : decode cX7_isLater 2 = .ok (.aload_n 0, 1) := by decide +kernel
theorem dX7_isLater_3 : decode cX7_isLater 3 = .ok (.getfield 75, 3) := by decide +kernel
theorem dX7_isLater_6 : decode cX7_isLater 6 = .ok (.iconst 1, 1) := by decide +kernel
theorem dX7_isLater_7 : decode cX7_isLater 7 = .ok (.isub, 1) := by decide +kernel
theorem dX7_isLater_8 : decode cX7_isLater 8 = .ok (.invokestatic 96, 3) := by decide +kernel
theorem dX7_isLater_11 : decode cX7_isLater 11 = .ok (.ireturn, 1) := by decide +kernel
theorem dX7_drifts_0 : decode cX7_drifts 0 = .ok (.aload_n 0, 1) := by decide +kernel
theorem dX7_drifts_1 : decode cX7_drifts 1 = .ok (.iload_n 1, 1) := by decide +kernel
theorem dX7_drifts_2 : decode cX7_drifts 2 = .ok (.invokevirtual 187, 3) := by decide +kernel
theorem dX7_drifts_5 : decode cX7_drifts 5 = .ok (.ifCond .eq 14, 3) := by decide +kernel
theorem dX7_drifts_8 : decode cX7_drifts 8 = .ok (.iload_n 2, 1) := by decide +kernel
theorem dX7_drifts_9 : decode cX7_drifts 9 = .ok (.bipush (-20), 2) := by decide +kernel
theorem dX7_drifts_11 : decode cX7_drifts 11 = .ok (.bipush 20, 2) := by decide +kernel
theorem dX7_drifts_13 : decode cX7_drifts 13 = .ok (.invokestatic 96, 3) := by decide +kernel
theorem dX7_drifts_16 : decode cX7_drifts 16 = .ok (.ifCond .ne 5, 3) := by decide +kernel
theorem dX7_drifts_19 : decode cX7_drifts 19 = .ok (.iconst (-1), 1) := by decide +kernel
theorem dX7_drifts_20 : decode cX7_drifts 20 = .ok (.ireturn, 1) := by decide +kernel
theorem dX7_drifts_21 : decode cX7_drifts 21 = .ok (.aload_n 0, 1) := by decide +kernel
theorem dX7_drifts_22 : decode cX7_drifts 22 = .ok (.getfield 7, 3) := by decide +kernel
theorem dX7_drifts_25 : decode cX7_drifts 25 = .ok (.bipush 10, 2) := by decide +kernel
theorem dX7_drifts_27 : decode cX7_drifts 27 = .ok (.iload_n 1, 1) := by decide +kernel
theorem dX7_drifts_28 : decode cX7_drifts 28 = .ok (.iadd, 1) := by decide +kernel
theorem dX7_drifts_29 : decode cX7_drifts 29 = .ok (.iaload, 1) := by decide +kernel
theorem dX7_drifts_30 : decode cX7_drifts 30 = .ok (.iload_n 2, 1) := by decide +kernel
theorem dX7_drifts_31 : decode cX7_drifts 31 = .ok (.if_icmp .ne 6, 3) := by decide +kernel
theorem dX7_drifts_34 : decode cX7_drifts 34 = .ok (.bipush (-2), 2) := by decide +kernel
theorem dX7_drifts_36 : decode cX7_drifts 36 = .ok (.ireturn, 1) := by decide +kernel
theorem dX7_drifts_37 : decode cX7_drifts 37 = .ok (.aload_n 0, 1) := by decide +kernel
theorem dX7_drifts_38 : decode cX7_drifts 38 = .ok (.invokevirtual 181, 3) := by decide +kernel
theorem dX7_drifts_41 : decode cX7_drifts 41 = .ok (.aload_n 0, 1) := by decide +kernel
theorem dX7_drifts_42 : decode cX7_drifts 42 = .ok (.getfield 7, 3) := by decide +kernel
theorem dX7_drifts_45 : decode cX7_drifts 45 = .ok (.bipush 10, 2) := by decide +kernel
theorem dX7_drifts_47 : decode cX7_drifts 47 = .ok (.iload_n 1, 1) := by decide +kernel
theorem dX7_drifts_48 : decode cX7_drifts 48 = .ok (.iadd, 1) := by decide +kernel
theorem dX7_drifts_49 : decode cX7_drifts 49 = .ok (.iload_n 2, 1) := by decide +kernel
theorem dX7_drifts_50 : decode cX7_drifts 50 = .ok (.iastore, 1) := by decide +kernel
theorem dX7_drifts_51 : decode cX7_drifts 51 = .ok (.iconst 1, 1) := by decide +kernel
theorem dX7_drifts_52 : decode cX7_drifts 52 = .ok (.ireturn, 1) := by decide +kernel
theorem dX7_corrects_0 : decode cX7_corrects 0 = .ok (.aload_n 0, 1) := by decide +kernel
theorem dX7_corrects_1 : decode cX7_corrects 1 = .ok (.iload_n 1, 1) := by decide +kernel
theorem dX7_corrects_2 : decode cX7_corrects 2 = .ok (.invokevirtual 187, 3) := by decide +kernel
theorem dX7_corrects_5 : decode cX7_corrects 5 = .ok (.ifCond .eq 18, 3) := by decide +kernel
theorem dX7_corrects_8 : decode cX7_corrects 8 = .ok (.iload_n 2, 1) := by decide +kernel
theorem dX7_corrects_9 : decode cX7_corrects 9 = .ok (.bipush (-20), 2) := by decide +kernel
theorem dX7_corrects_11 : decode cX7_corrects 11 = .ok (.bipush 20, 2) := by decide +kernel
theorem dX7_corrects_13 : decode cX7_corrects 13 = .ok (.invokestatic 96, 3) := by decide +kernel
theorem dX7_corrects_16 : decode cX7_corrects 16 = .ok (.ifCond .eq 7, 3) := by decide +kernel
theorem dX7_corrects_19 : decode cX7_corrects 19 = .ok (.iload_n 2, 1) := by decide +kernel
theorem dX7_corrects_20 : decode cX7_corrects 20 = .ok (.ifCond .ne 5, 3) := by decide +kernel
theorem dX7_corrects_23 : decode cX7_corrects 23 = .ok (.iconst (-1), 1) := by decide +kernel
theorem dX7_corrects_24 : decode cX7_corrects 24 = .ok (.ireturn, 1) := by decide +kernel
theorem dX7_corrects_25 : decode cX7_corrects 25 = .ok (.aload_n 0, 1) := by decide +kernel
theorem dX7_corrects_26 : decode cX7_corrects 26 = .ok (.invokevirtual 181, 3) := by decide +kernel
theorem dX7_corrects_29 : decode cX7_corrects 29 = .ok (.aload_n 0, 1) := by decide +kernel
theorem dX7_corrects_30 : decode cX7_corrects 30 = .ok (.iload_n 1, 1) := by decide +kernel
theorem dX7_corrects_31 : decode cX7_corrects 31 = .ok (.iload_n 2, 1) := by decide +kernel
theorem dX7_corrects_32 : decode cX7_corrects 32 = .ok (.invokevirtual 154, 3) := by decide +kernel
theorem dX7_corrects_35 : decode cX7_corrects 35 = .ok (.aload_n 0, 1) := by decide +kernel
theorem dX7_corrects_36 : decode cX7_corrects 36 = .ok (.getfield 7, 3) := by decide +kernel
theorem dX7_corrects_39 : decode cX7_corrects 39 = .ok (.bipush 18, 2) := by decide +kernel
theorem dX7_corrects_41 : decode cX7_corrects 41 = .ok (.iload_n 1, 1) := by decide +kernel
theorem dX7_corrects_42 : decode cX7_corrects 42 = .ok (.iadd, 1) := by decide +kernel
theorem dX7_corrects_43 : decode cX7_corrects 43 = .ok (.iaload, 1) := by decide +kernel
theorem dX7_corrects_44 : decode cX7_corrects 44 = .ok (.ireturn, 1) := by decide +kernel
theorem dX7_spins_0 : decode cX7_spins 0 = .ok (.aload_n 0, 1) := by decide +kernel
theorem dX7_spins_1 : decode cX7_spins 1 = .ok (.getfield 7, 3) := by decide +kernel
theorem dX7_spins_4 : decode cX7_spins 4 = .ok (.iconst 0, 1) := by decide +kernel
theorem dX7_spins_5 : decode cX7_spins 5 = .ok (.iaload, 1) := by decide +kernel
theorem dX7_spins_6 : decode cX7_spins 6 = .ok (.ifCond .eq 21, 3) := by decide +kernel
theorem dX7_spins_9 : decode cX7_spins 9 = .ok (.aload_n 0, 1) := by decide +kernel
theorem dX7_spins_10 : decode cX7_spins 10 = .ok (.invokevirtual 158, 3) := by decide +kernel
theorem dX7_spins_13 : decode cX7_spins 13 = .ok (.bipush (-9), 2) := by decide +kernel
theorem dX7_spins_15 : decode cX7_spins 15 = .ok (.if_icmp .eq 12, 3) := by decide +kernel
theorem dX7_spins_18 : decode cX7_spins 18 = .ok (.aload_n 0, 1) := by decide +kernel
theorem dX7_spins_19 : decode cX7_spins 19 = .ok (.getfield 7, 3) := by decide +kernel
theorem dX7_spins_22 : decode cX7_spins 22 = .ok (.iconst 3, 1) := by decide +kernel
theorem dX7_spins_23 : decode cX7_spins 23 = .ok (.iaload, 1) := by decide +kernel
theorem dX7_spins_24 : decode cX7_spins 24 = .ok (.ifCond .le 6, 3) := by decide +kernel
theorem dX7_spins_27 : decode cX7_spins 27 = .ok (.bipush (-2), 2) := by decide +kernel
theorem dX7_spins_29 : decode cX7_spins 29 = .ok (.ireturn, 1) := by decide +kernel
theorem dX7_spins_30 : decode cX7_spins 30 = .ok (.aload_n 0, 1) := by decide +kernel
theorem dX7_spins_31 : decode cX7_spins 31 = .ok (.invokevirtual 181, 3) := by decide +kernel
theorem dX7_spins_34 : decode cX7_spins 34 = .ok (.aload_n 0, 1) := by decide +kernel
theorem dX7_spins_35 : decode cX7_spins 35 = .ok (.getfield 7, 3) := by decide +kernel
theorem dX7_spins_38 : decode cX7_spins 38 = .ok (.iconst 3, 1) := by decide +kernel
theorem dX7_spins_39 : decode cX7_spins 39 = .ok (.iconst 1, 1) := by decide +kernel
theorem dX7_spins_40 : decode cX7_spins 40 = .ok (.iastore, 1) := by decide +kernel
theorem dX7_spins_41 : decode cX7_spins 41 = .ok (.aload_n 0, 1) := by decide +kernel
theorem dX7_spins_42 : decode cX7_spins 42 = .ok (.invokevirtual 158, 3) := by decide +kernel
theorem dX7_spins_45 : decode cX7_spins 45 = .ok (.ireturn, 1) := by decide +kernel
theorem dX7_starts_0 : decode cX7_starts 0 = .ok (.aload_n 0, 1) := by decide +kernel
theorem dX7_starts_1 : decode cX7_starts 1 = .ok (.getfield 7, 3) := by decide +kernel
theorem dX7_starts_4 : decode cX7_starts 4 = .ok (.iconst 0, 1) := by decide +kernel
theorem dX7_starts_5 : decode cX7_starts 5 = .ok (.iaload, 1) := by decide +kernel
theorem dX7_starts_6 : decode cX7_starts 6 = .ok (.iconst 1, 1) := by decide +kernel
theorem dX7_starts_7 : decode cX7_starts 7 = .ok (.if_icmp .eq 12, 3) := by decide +kernel
theorem dX7_starts_10 : decode cX7_starts 10 = .ok (.aload_n 0, 1) := by decide +kernel
theorem dX7_starts_11 : decode cX7_starts 11 = .ok (.invokevirtual 158, 3) := by decide +kernel
theorem dX7_starts_14 : decode cX7_starts 14 = .ok (.bipush (-9), 2) := by decide +kernel
theorem dX7_starts_16 : decode cX7_starts 16 = .ok (.if_icmp .ne 6, 3) := by decide +kernel
theorem dX7_starts_19 : decode cX7_starts 19 = .ok (.bipush (-2), 2) := by decide +kernel
theorem dX7_starts_21 : decode cX7_starts 21 = .ok (.ireturn, 1) := by decide +kernel
theorem dX7_starts_22 : decode cX7_starts 22 = .ok (.aload_n 0, 1) := by decide +kernel
theorem dX7_starts_23 : decode cX7_starts 23 = .ok (.invokevirtual 181, 3) := by decide +kernel
theorem dX7_starts_26 : decode cX7_starts 26 = .ok (.aload_n 0, 1) := by decide +kernel
theorem dX7_starts_27 : decode cX7_starts 27 = .ok (.invokevirtual 164, 3) := by decide +kernel
theorem dX7_starts_30 : decode cX7_starts 30 = .ok (.aload_n 0, 1) := by decide +kernel
theorem dX7_starts_31 : decode cX7_starts 31 = .ok (.getfield 7, 3) := by decide +kernel
theorem dX7_starts_34 : decode cX7_starts 34 = .ok (.iconst 0, 1) := by decide +kernel
theorem dX7_starts_35 : decode cX7_starts 35 = .ok (.iconst 1, 1) := by decide +kernel
theorem dX7_starts_36 : decode cX7_starts 36 = .ok (.iastore, 1) := by decide +kernel
theorem dX7_starts_37 : decode cX7_starts 37 = .ok (.iconst 0, 1) := by decide +kernel
theorem dX7_starts_38 : decode cX7_starts 38 = .ok (.istore_n 1, 1) := by decide +kernel
theorem dX7_starts_39 : decode cX7_starts 39 = .ok (.iload_n 1, 1) := by decide +kernel
theorem dX7_starts_40 : decode cX7_starts 40 = .ok (.iconst 4, 1) := by decide +kernel
theorem dX7_starts_41 : decode cX7_starts 41 = .ok (.if_icmp .ge 19, 3) := by decide +kernel
theorem dX7_starts_44 : decode cX7_starts 44 = .ok (.aload_n 0, 1) := by decide +kernel
theorem dX7_starts_45 : decode cX7_starts 45 = .ok (.getfield 7, 3) := by decide +kernel
theorem dX7_starts_48 : decode cX7_starts 48 = .ok (.bipush 18, 2) := by decide +kernel
theorem dX7_starts_50 : decode cX7_starts 50 = .ok (.iload_n 1, 1) := by decide +kernel
theorem dX7_starts_51 : decode cX7_starts 51 = .ok (.iadd, 1) := by decide +kernel
theorem dX7_starts_52 : decode cX7_starts 52 = .ok (.iconst 0, 1) := by decide +kernel
theorem dX7_starts_53 : decode cX7_starts 53 = .ok (.iastore, 1) := by decide +kernel
theorem dX7_starts_54 : decode cX7_starts 54 = .ok (.iinc 1 1, 3) := by decide +kernel
theorem dX7_starts_57 : decode cX7_starts 57 = .ok (.goto (-18), 3) := by decide +kernel
theorem dX7_starts_60 : decode cX7_starts 60 = .ok (.aload_n 0, 1) := by decide +kernel
theorem dX7_starts_61 : decode cX7_starts 61 = .ok (.getfield 7, 3) := by decide +kernel
theorem dX7_starts_64 : decode cX7_starts 64 = .ok (.iconst 1, 1) := by decide +kernel
theorem dX7_starts_65 : decode cX7_starts 65 = .ok (.iaload, 1) := by decide +kernel
theorem dX7_starts_66 : decode cX7_starts 66 = .ok (.ireturn, 1) := by decide +kernel
theorem dX7_aheads_0 : decode cX7_aheads 0 = .ok (.iload_n 1, 1) := by decide +kernel
theorem dX7_aheads_1 : decode cX7_aheads 1 = .ok (.iconst 0, 1) := by decide +kernel
theorem dX7_aheads_2 : decode cX7_aheads 2 = .ok (.iconst 1, 1) := by decide +kernel
theorem dX7_aheads_3 : decode cX7_aheads 3 = .ok (.invokestatic 96, 3) := by decide +kernel
theorem dX7_aheads_6 : decode cX7_aheads 6 = .ok (.ifCond .ne 5, 3) := by decide +kernel
theorem dX7_aheads_9 : decode cX7_aheads 9 = .ok (.iconst (-1), 1) := by decide +kernel
theorem dX7_aheads_10 : decode cX7_aheads 10 = .ok (.ireturn, 1) := by decide +kernel
theorem dX7_aheads_11 : decode cX7_aheads 11 = .ok (.aload_n 0, 1) := by decide +kernel
theorem dX7_aheads_12 : decode cX7_aheads 12 = .ok (.getfield 7, 3) := by decide +kernel
theorem dX7_aheads_15 : decode cX7_aheads 15 = .ok (.iconst 4, 1) := by decide +kernel
theorem dX7_aheads_16 : decode cX7_aheads 16 = .ok (.iaload, 1) := by decide +kernel
theorem dX7_aheads_17 : decode cX7_aheads 17 = .ok (.iload_n 1, 1) := by decide +kernel
theorem dX7_aheads_18 : decode cX7_aheads 18 = .ok (.if_icmp .ne 6, 3) := by decide +kernel
theorem dX7_aheads_21 : decode cX7_aheads 21 = .ok (.bipush (-2), 2) := by decide +kernel
theorem dX7_aheads_23 : decode cX7_aheads 23 = .ok (.ireturn, 1) := by decide +kernel
theorem dX7_aheads_24 : decode cX7_aheads 24 = .ok (.aload_n 0, 1) := by decide +kernel
theorem dX7_aheads_25 : decode cX7_aheads 25 = .ok (.invokevirtual 181, 3) := by decide +kernel
theorem dX7_aheads_28 : decode cX7_aheads 28 = .ok (.aload_n 0, 1) := by decide +kernel
theorem dX7_aheads_29 : decode cX7_aheads 29 = .ok (.getfield 7, 3) := by decide +kernel
theorem dX7_aheads_32 : decode cX7_aheads 32 = .ok (.iconst 4, 1) := by decide +kernel
theorem dX7_aheads_33 : decode cX7_aheads 33 = .ok (.iload_n 1, 1) := by decide +kernel
theorem dX7_aheads_34 : decode cX7_aheads 34 = .ok (.iastore, 1) := by decide +kernel
theorem dX7_aheads_35 : decode cX7_aheads 35 = .ok (.iconst 1, 1) := by decide +kernel
theorem dX7_aheads_36 : decode cX7_aheads 36 = .ok (.ireturn, 1) := by decide +kernel
theorem dX7_passedTo_0 : decode cX7_passedTo 0 = .ok (.iconst 0, 1) := by decide +kernel
theorem dX7_passedTo_1 : decode cX7_passedTo 1 = .ok (.istore_n 2, 1) := by decide +kernel
theorem dX7_passedTo_2 : decode cX7_passedTo 2 = .ok (.iconst 0, 1) := by decide +kernel
theorem dX7_passedTo_3 : decode cX7_passedTo 3 = .ok (.istore_n 3, 1) := by decide +kernel
theorem dX7_passedTo_4 : decode cX7_passedTo 4 = .ok (.iload_n 3, 1) := by decide +kernel
theorem dX7_passedTo_5 : decode cX7_passedTo 5 = .ok (.bipush 8, 2) := by decide +kernel
theorem dX7_passedTo_7 : decode cX7_passedTo 7 = .ok (.if_icmp .ge 26, 3) := by decide +kernel
theorem dX7_passedTo_10 : decode cX7_passedTo 10 = .ok (.iload_n 2, 1) := by decide +kernel
theorem dX7_passedTo_11 : decode cX7_passedTo 11 = .ok (.aload_n 0, 1) := by decide +kernel
theorem dX7_passedTo_12 : decode cX7_passedTo 12 = .ok (.getfield 7, 3) := by decide +kernel
theorem dX7_passedTo_15 : decode cX7_passedTo 15 = .ok (.bipush 22, 2) := by decide +kernel
theorem dX7_passedTo_17 : decode cX7_passedTo 17 = .ok (.bipush 8, 2) := by decide +kernel
theorem dX7_passedTo_19 : decode cX7_passedTo 19 = .ok (.iload_n 1, 1) := by decide +kernel
theorem dX7_passedTo_20 : decode cX7_passedTo 20 = .ok (.imul, 1) := by decide +kernel
theorem dX7_passedTo_21 : decode cX7_passedTo 21 = .ok (.iadd, 1) := by decide +kernel
theorem dX7_passedTo_22 : decode cX7_passedTo 22 = .ok (.iload_n 3, 1) := by decide +kernel
theorem dX7_passedTo_23 : decode cX7_passedTo 23 = .ok (.iadd, 1) := by decide +kernel
theorem dX7_passedTo_24 : decode cX7_passedTo 24 = .ok (.iaload, 1) := by decide +kernel
theorem dX7_passedTo_25 : decode cX7_passedTo 25 = .ok (.iadd, 1) := by decide +kernel
theorem dX7_passedTo_26 : decode cX7_passedTo 26 = .ok (.istore_n 2, 1) := by decide +kernel
theorem dX7_passedTo_27 : decode cX7_passedTo 27 = .ok (.iinc 3 1, 3) := by decide +kernel
theorem dX7_passedTo_30 : decode cX7_passedTo 30 = .ok (.goto (-26), 3) := by decide +kernel
theorem dX7_passedTo_33 : decode cX7_passedTo 33 = .ok (.iload_n 2, 1) := by decide +kernel
theorem dX7_passedTo_34 : decode cX7_passedTo 34 = .ok (.ireturn, 1) := by decide +kernel
theorem dX7_unit_0 : decode cX7_unit 0 = .ok (.iload_n 1, 1) := by decide +kernel
theorem dX7_unit_1 : decode cX7_unit 1 = .ok (.iconst 0, 1) := by decide +kernel
theorem dX7_unit_2 : decode cX7_unit 2 = .ok (.aload_n 0, 1) := by decide +kernel
theorem dX7_unit_3 : decode cX7_unit 3 = .ok (.getfield 75, 3) := by decide +kernel
theorem dX7_unit_6 : decode cX7_unit 6 = .ok (.iconst 1, 1) := by decide +kernel
theorem dX7_unit_7 : decode cX7_unit 7 = .ok (.isub, 1) := by decide +kernel
theorem dX7_unit_8 : decode cX7_unit 8 = .ok (.invokestatic 96, 3) := by decide +kernel
theorem dX7_unit_11 : decode cX7_unit 11 = .ok (.ifCond .eq 12, 3) := by decide +kernel
theorem dX7_unit_14 : decode cX7_unit 14 = .ok (.iload_n 2, 1) := by decide +kernel
theorem dX7_unit_15 : decode cX7_unit 15 = .ok (.iconst 0, 1) := by decide +kernel
theorem dX7_unit_16 : decode cX7_unit 16 = .ok (.iconst 5, 1) := by decide +kernel
theorem dX7_unit_17 : decode cX7_unit 17 = .ok (.invokestatic 96, 3) := by decide +kernel
theorem dX7_unit_20 : decode cX7_unit 20 = .ok (.ifCond .ne 6, 3) := by decide +kernel
theorem dX7_unit_23 : decode cX7_unit 23 = .ok (.ldc 190, 2) := by decide +kernel
theorem dX7_unit_25 : decode cX7_unit 25 = .ok (.ireturn, 1) := by decide +kernel
theorem dX7_unit_26 : decode cX7_unit 26 = .ok (.iload_n 2, 1) := by decide +kernel
theorem dX7_unit_27 : decode cX7_unit 27 = .ok (.tableswitch 77 0 4 #[33, 40, 47, 57, 67], 33) := by decide +kernel
theorem dX7_unit_60 : decode cX7_unit 60 = .ok (.aload_n 0, 1) := by decide +kernel
theorem dX7_unit_61 : decode cX7_unit 61 = .ok (.getfield 32, 3) := by decide +kernel
theorem dX7_unit_64 : decode cX7_unit 64 = .ok (.iload_n 1, 1) := by decide +kernel
theorem dX7_unit_65 : decode cX7_unit 65 = .ok (.iaload, 1) := by decide +kernel
theorem dX7_unit_66 : decode cX7_unit 66 = .ok (.ireturn, 1) := by decide +kernel
theorem dX7_unit_67 : decode cX7_unit 67 = .ok (.aload_n 0, 1) := by decide +kernel
theorem dX7_unit_68 : decode cX7_unit 68 = .ok (.getfield 35, 3) := by decide +kernel
theorem dX7_unit_71 : decode cX7_unit 71 = .ok (.iload_n 1, 1) := by decide +kernel
theorem dX7_unit_72 : decode cX7_unit 72 = .ok (.iaload, 1) := by decide +kernel
theorem dX7_unit_73 : decode cX7_unit 73 = .ok (.ireturn, 1) := by decide +kernel
theorem dX7_unit_74 : decode cX7_unit 74 = .ok (.aload_n 0, 1) := by decide +kernel
theorem dX7_unit_75 : decode cX7_unit 75 = .ok (.getfield 7, 3) := by decide +kernel
theorem dX7_unit_78 : decode cX7_unit 78 = .ok (.bipush 10, 2) := by decide +kernel
theorem dX7_unit_80 : decode cX7_unit 80 = .ok (.iload_n 1, 1) := by decide +kernel
theorem dX7_unit_81 : decode cX7_unit 81 = .ok (.iadd, 1) := by decide +kernel
theorem dX7_unit_82 : decode cX7_unit 82 = .ok (.iaload, 1) := by decide +kernel
theorem dX7_unit_83 : decode cX7_unit 83 = .ok (.ireturn, 1) := by decide +kernel
theorem dX7_unit_84 : decode cX7_unit 84 = .ok (.aload_n 0, 1) := by decide +kernel
theorem dX7_unit_85 : decode cX7_unit 85 = .ok (.getfield 7, 3) := by decide +kernel
theorem dX7_unit_88 : decode cX7_unit 88 = .ok (.bipush 14, 2) := by decide +kernel
theorem dX7_unit_90 : decode cX7_unit 90 = .ok (.iload_n 1, 1) := by decide +kernel
theorem dX7_unit_91 : decode cX7_unit 91 = .ok (.iadd, 1) := by decide +kernel
theorem dX7_unit_92 : decode cX7_unit 92 = .ok (.iaload, 1) := by decide +kernel
theorem dX7_unit_93 : decode cX7_unit 93 = .ok (.ireturn, 1) := by decide +kernel
theorem dX7_unit_94 : decode cX7_unit 94 = .ok (.aload_n 0, 1) := by decide +kernel
theorem dX7_unit_95 : decode cX7_unit 95 = .ok (.getfield 7, 3) := by decide +kernel
theorem dX7_unit_98 : decode cX7_unit 98 = .ok (.bipush 18, 2) := by decide +kernel
theorem dX7_unit_100 : decode cX7_unit 100 = .ok (.iload_n 1, 1) := by decide +kernel
theorem dX7_unit_101 : decode cX7_unit 101 = .ok (.iadd, 1) := by decide +kernel
theorem dX7_unit_102 : decode cX7_unit 102 = .ok (.iaload, 1) := by decide +kernel
theorem dX7_unit_103 : decode cX7_unit 103 = .ok (.ireturn, 1) := by decide +kernel
theorem dX7_unit_104 : decode cX7_unit 104 = .ok (.aload_n 0, 1) := by decide +kernel
theorem dX7_unit_105 : decode cX7_unit 105 = .ok (.iload_n 1, 1) := by decide +kernel
theorem dX7_unit_106 : decode cX7_unit 106 = .ok (.invokevirtual 191, 3) := by decide +kernel
theorem dX7_unit_109 : decode cX7_unit 109 = .ok (.ireturn, 1) := by decide +kernel
theorem dX7_reel_0 : decode cX7_reel 0 = .ok (.iload_n 1, 1) := by decide +kernel
theorem dX7_reel_1 : decode cX7_reel 1 = .ok (.iconst 0, 1) := by decide +kernel
theorem dX7_reel_2 : decode cX7_reel 2 = .ok (.aload_n 0, 1) := by decide +kernel
theorem dX7_reel_3 : decode cX7_reel 3 = .ok (.getfield 78, 3) := by decide +kernel
theorem dX7_reel_6 : decode cX7_reel 6 = .ok (.iconst 1, 1) := by decide +kernel
theorem dX7_reel_7 : decode cX7_reel 7 = .ok (.isub, 1) := by decide +kernel
theorem dX7_reel_8 : decode cX7_reel 8 = .ok (.invokestatic 96, 3) := by decide +kernel
theorem dX7_reel_11 : decode cX7_reel 11 = .ok (.ifCond .eq 12, 3) := by decide +kernel
theorem dX7_reel_14 : decode cX7_reel 14 = .ok (.iload_n 2, 1) := by decide +kernel
theorem dX7_reel_15 : decode cX7_reel 15 = .ok (.iconst 0, 1) := by decide +kernel
theorem dX7_reel_16 : decode cX7_reel 16 = .ok (.iconst 2, 1) := by decide +kernel
theorem dX7_reel_17 : decode cX7_reel 17 = .ok (.invokestatic 96, 3) := by decide +kernel
theorem dX7_reel_20 : decode cX7_reel 20 = .ok (.ifCond .ne 6, 3) := by decide +kernel
theorem dX7_reel_23 : decode cX7_reel 23 = .ok (.ldc 190, 2) := by decide +kernel
theorem dX7_reel_25 : decode cX7_reel 25 = .ok (.ireturn, 1) := by decide +kernel
theorem dX7_reel_26 : decode cX7_reel 26 = .ok (.iload_n 2, 1) := by decide +kernel
theorem dX7_reel_27 : decode cX7_reel 27 = .ok (.iconst 1, 1) := by decide +kernel
theorem dX7_reel_28 : decode cX7_reel 28 = .ok (.if_icmp .ne 10, 3) := by decide +kernel
theorem dX7_reel_31 : decode cX7_reel 31 = .ok (.aload_n 0, 1) := by decide +kernel
theorem dX7_reel_32 : decode cX7_reel 32 = .ok (.getfield 41, 3) := by decide +kernel
theorem dX7_reel_35 : decode cX7_reel 35 = .ok (.iload_n 1, 1) := by decide +kernel
theorem dX7_reel_36 : decode cX7_reel 36 = .ok (.iaload, 1) := by decide +kernel
theorem dX7_reel_37 : decode cX7_reel 37 = .ok (.ireturn, 1) := by decide +kernel
theorem dX7_reel_38 : decode cX7_reel 38 = .ok (.iload_n 2, 1) := by decide +kernel
theorem dX7_reel_39 : decode cX7_reel 39 = .ok (.ifCond .eq 13, 3) := by decide +kernel
theorem dX7_reel_42 : decode cX7_reel 42 = .ok (.iload_n 1, 1) := by decide +kernel
theorem dX7_reel_43 : decode cX7_reel 43 = .ok (.aload_n 0, 1) := by decide +kernel
theorem dX7_reel_44 : decode cX7_reel 44 = .ok (.getfield 7, 3) := by decide +kernel
theorem dX7_reel_47 : decode cX7_reel 47 = .ok (.iconst 1, 1) := by decide +kernel
theorem dX7_reel_48 : decode cX7_reel 48 = .ok (.iaload, 1) := by decide +kernel
theorem dX7_reel_49 : decode cX7_reel 49 = .ok (.if_icmp .le 12, 3) := by decide +kernel
theorem dX7_reel_52 : decode cX7_reel 52 = .ok (.aload_n 0, 1) := by decide +kernel
theorem dX7_reel_53 : decode cX7_reel 53 = .ok (.getfield 38, 3) := by decide +kernel
theorem dX7_reel_56 : decode cX7_reel 56 = .ok (.iload_n 1, 1) := by decide +kernel
theorem dX7_reel_57 : decode cX7_reel 57 = .ok (.iaload, 1) := by decide +kernel
theorem dX7_reel_58 : decode cX7_reel 58 = .ok (.goto 23, 3) := by decide +kernel
theorem dX7_reel_61 : decode cX7_reel 61 = .ok (.iload_n 1, 1) := by decide +kernel
theorem dX7_reel_62 : decode cX7_reel 62 = .ok (.aload_n 0, 1) := by decide +kernel
theorem dX7_reel_63 : decode cX7_reel 63 = .ok (.getfield 7, 3) := by decide +kernel
theorem dX7_reel_66 : decode cX7_reel 66 = .ok (.iconst 1, 1) := by decide +kernel
theorem dX7_reel_67 : decode cX7_reel 67 = .ok (.iaload, 1) := by decide +kernel
theorem dX7_reel_68 : decode cX7_reel 68 = .ok (.if_icmp .ne 12, 3) := by decide +kernel
theorem dX7_reel_71 : decode cX7_reel 71 = .ok (.aload_n 0, 1) := by decide +kernel
theorem dX7_reel_72 : decode cX7_reel 72 = .ok (.getfield 7, 3) := by decide +kernel
theorem dX7_reel_75 : decode cX7_reel 75 = .ok (.iconst 2, 1) := by decide +kernel
theorem dX7_reel_76 : decode cX7_reel 76 = .ok (.iaload, 1) := by decide +kernel
theorem dX7_reel_77 : decode cX7_reel 77 = .ok (.goto 4, 3) := by decide +kernel
theorem dX7_reel_80 : decode cX7_reel 80 = .ok (.iconst 0, 1) := by decide +kernel
theorem dX7_reel_81 : decode cX7_reel 81 = .ok (.ireturn, 1) := by decide +kernel
theorem dX7_last_0 : decode cX7_last 0 = .ok (.iload_n 1, 1) := by decide +kernel
theorem dX7_last_1 : decode cX7_last 1 = .ok (.iconst 0, 1) := by decide +kernel
theorem dX7_last_2 : decode cX7_last 2 = .ok (.bipush 6, 2) := by decide +kernel
theorem dX7_last_4 : decode cX7_last 4 = .ok (.invokestatic 96, 3) := by decide +kernel
theorem dX7_last_7 : decode cX7_last 7 = .ok (.ifCond .ne 6, 3) := by decide +kernel
theorem dX7_last_10 : decode cX7_last 10 = .ok (.ldc 190, 2) := by decide +kernel
theorem dX7_last_12 : decode cX7_last 12 = .ok (.ireturn, 1) := by decide +kernel
theorem dX7_last_13 : decode cX7_last 13 = .ok (.aload_n 0, 1) := by decide +kernel
theorem dX7_last_14 : decode cX7_last 14 = .ok (.getfield 7, 3) := by decide +kernel
theorem dX7_last_17 : decode cX7_last 17 = .ok (.bipush 54, 2) := by decide +kernel
theorem dX7_last_19 : decode cX7_last 19 = .ok (.iaload, 1) := by decide +kernel
theorem dX7_last_20 : decode cX7_last 20 = .ok (.ifCond .ne 6, 3) := by decide +kernel
theorem dX7_last_23 : decode cX7_last 23 = .ok (.ldc 194, 2) := by decide +kernel
theorem dX7_last_25 : decode cX7_last 25 = .ok (.ireturn, 1) := by decide +kernel
theorem dX7_last_26 : decode cX7_last 26 = .ok (.iload_n 1, 1) := by decide +kernel
theorem dX7_last_27 : decode cX7_last 27 = .ok (.ifCond .ne 15, 3) := by decide +kernel
theorem dX7_last_30 : decode cX7_last 30 = .ok (.aload_n 0, 1) := by decide +kernel
theorem dX7_last_31 : decode cX7_last 31 = .ok (.getfield 7, 3) := by decide +kernel
theorem dX7_last_34 : decode cX7_last 34 = .ok (.bipush 54, 2) := by decide +kernel
theorem dX7_last_36 : decode cX7_last 36 = .ok (.iaload, 1) := by decide +kernel
theorem dX7_last_37 : decode cX7_last 37 = .ok (.iconst 1, 1) := by decide +kernel
theorem dX7_last_38 : decode cX7_last 38 = .ok (.isub, 1) := by decide +kernel
theorem dX7_last_39 : decode cX7_last 39 = .ok (.goto 12, 3) := by decide +kernel
theorem dX7_last_42 : decode cX7_last 42 = .ok (.aload_n 0, 1) := by decide +kernel
theorem dX7_last_43 : decode cX7_last 43 = .ok (.getfield 7, 3) := by decide +kernel
theorem dX7_last_46 : decode cX7_last 46 = .ok (.bipush 54, 2) := by decide +kernel
theorem dX7_last_48 : decode cX7_last 48 = .ok (.iload_n 1, 1) := by decide +kernel
theorem dX7_last_49 : decode cX7_last 49 = .ok (.iadd, 1) := by decide +kernel
theorem dX7_last_50 : decode cX7_last 50 = .ok (.iaload, 1) := by decide +kernel
theorem dX7_last_51 : decode cX7_last 51 = .ok (.ireturn, 1) := by decide +kernel
theorem dX7_error_0 : decode cX7_error 0 = .ok (.iload_n 1, 1) := by decide +kernel
theorem dX7_error_1 : decode cX7_error 1 = .ok (.iconst 0, 1) := by decide +kernel
theorem dX7_error_2 : decode cX7_error 2 = .ok (.aload_n 0, 1) := by decide +kernel
theorem dX7_error_3 : decode cX7_error 3 = .ok (.getfield 75, 3) := by decide +kernel
theorem dX7_error_6 : decode cX7_error 6 = .ok (.iconst 1, 1) := by decide +kernel
theorem dX7_error_7 : decode cX7_error 7 = .ok (.isub, 1) := by decide +kernel
theorem dX7_error_8 : decode cX7_error 8 = .ok (.invokestatic 96, 3) := by decide +kernel
theorem dX7_error_11 : decode cX7_error 11 = .ok (.ifCond .eq 7, 3) := by decide +kernel
theorem dX7_error_14 : decode cX7_error 14 = .ok (.iload_n 2, 1) := by decide +kernel
theorem dX7_error_15 : decode cX7_error 15 = .ok (.ifCond .ge 6, 3) := by decide +kernel
theorem dX7_error_18 : decode cX7_error 18 = .ok (.ldc 190, 2) := by decide +kernel
theorem dX7_error_20 : decode cX7_error 20 = .ok (.ireturn, 1) := by decide +kernel
theorem dX7_error_21 : decode cX7_error 21 = .ok (.iconst 0, 1) := by decide +kernel
theorem dX7_error_22 : decode cX7_error 22 = .ok (.istore_n 3, 1) := by decide +kernel
theorem dX7_error_23 : decode cX7_error 23 = .ok (.aload_n 0, 1) := by decide +kernel
theorem dX7_error_24 : decode cX7_error 24 = .ok (.getfield 7, 3) := by decide +kernel
theorem dX7_error_27 : decode cX7_error 27 = .ok (.iconst 5, 1) := by decide +kernel
theorem dX7_error_28 : decode cX7_error 28 = .ok (.iaload, 1) := by decide +kernel
theorem dX7_error_29 : decode cX7_error 29 = .ok (.istore 4, 2) := by decide +kernel
theorem dX7_error_31 : decode cX7_error 31 = .ok (.iload 4, 2) := by decide +kernel
theorem dX7_error_33 : decode cX7_error 33 = .ok (.aload_n 0, 1) := by decide +kernel
theorem dX7_error_34 : decode cX7_error 34 = .ok (.getfield 7, 3) := by decide +kernel
theorem dX7_error_37 : decode cX7_error 37 = .ok (.iconst 5, 1) := by decide +kernel
theorem dX7_error_38 : decode cX7_error 38 = .ok (.iaload, 1) := by decide +kernel
theorem dX7_error_39 : decode cX7_error 39 = .ok (.bipush 32, 2) := by decide +kernel
theorem dX7_error_41 : decode cX7_error 41 = .ok (.isub, 1) := by decide +kernel
theorem dX7_error_42 : decode cX7_error 42 = .ok (.if_icmp .le 64, 3) := by decide +kernel
theorem dX7_error_45 : decode cX7_error 45 = .ok (.aload_n 0, 1) := by decide +kernel
theorem dX7_error_46 : decode cX7_error 46 = .ok (.iload 4, 2) := by decide +kernel
theorem dX7_error_48 : decode cX7_error 48 = .ok (.invokevirtual 142, 3) := by decide +kernel
theorem dX7_error_51 : decode cX7_error 51 = .ok (.ifCond .eq 49, 3) := by decide +kernel
theorem dX7_error_54 : decode cX7_error 54 = .ok (.iload_n 3, 1) := by decide +kernel
theorem dX7_error_55 : decode cX7_error 55 = .ok (.iload_n 2, 1) := by decide +kernel
theorem dX7_error_56 : decode cX7_error 56 = .ok (.if_icmp .ne 41, 3) := by decide +kernel
theorem dX7_error_59 : decode cX7_error 59 = .ok (.aload_n 0, 1) := by decide +kernel
theorem dX7_error_60 : decode cX7_error 60 = .ok (.getfield 7, 3) := by decide +kernel
theorem dX7_error_63 : decode cX7_error 63 = .ok (.iconst 5, 1) := by decide +kernel
theorem dX7_error_64 : decode cX7_error 64 = .ok (.iaload, 1) := by decide +kernel
theorem dX7_error_65 : decode cX7_error 65 = .ok (.iload 4, 2) := by decide +kernel
theorem dX7_error_67 : decode cX7_error 67 = .ok (.isub, 1) := by decide +kernel
theorem dX7_error_68 : decode cX7_error 68 = .ok (.aload_n 0, 1) := by decide +kernel
theorem dX7_error_69 : decode cX7_error 69 = .ok (.getfield 35, 3) := by decide +kernel
theorem dX7_error_72 : decode cX7_error 72 = .ok (.iload_n 1, 1) := by decide +kernel
theorem dX7_error_73 : decode cX7_error 73 = .ok (.iaload, 1) := by decide +kernel
theorem dX7_error_74 : decode cX7_error 74 = .ok (.if_icmp .lt 20, 3) := by decide +kernel
theorem dX7_error_77 : decode cX7_error 77 = .ok (.aload_n 0, 1) := by decide +kernel
theorem dX7_error_78 : decode cX7_error 78 = .ok (.getfield 7, 3) := by decide +kernel
theorem dX7_error_81 : decode cX7_error 81 = .ok (.iload 4, 2) := by decide +kernel
theorem dX7_error_83 : decode cX7_error 83 = .ok (.invokestatic 134, 3) := by decide +kernel
theorem dX7_error_86 : decode cX7_error 86 = .ok (.iconst 5, 1) := by decide +kernel
theorem dX7_error_87 : decode cX7_error 87 = .ok (.iadd, 1) := by decide +kernel
theorem dX7_error_88 : decode cX7_error 88 = .ok (.iload_n 1, 1) := by decide +kernel
theorem dX7_error_89 : decode cX7_error 89 = .ok (.iadd, 1) := by decide +kernel
theorem dX7_error_90 : decode cX7_error 90 = .ok (.iaload, 1) := by decide +kernel
theorem dX7_error_91 : decode cX7_error 91 = .ok (.goto 5, 3) := by decide +kernel
theorem dX7_error_94 : decode cX7_error 94 = .ok (.ldc 194, 2) := by decide +kernel
theorem dX7_error_96 : decode cX7_error 96 = .ok (.ireturn, 1) := by decide +kernel
theorem dX7_error_97 : decode cX7_error 97 = .ok (.iinc 3 1, 3) := by decide +kernel
theorem dX7_error_100 : decode cX7_error 100 = .ok (.iinc 4 (-1), 3) := by decide +kernel
theorem dX7_error_103 : decode cX7_error 103 = .ok (.goto (-72), 3) := by decide +kernel
theorem dX7_error_106 : decode cX7_error 106 = .ok (.ldc 194, 2) := by decide +kernel
theorem dX7_error_108 : decode cX7_error 108 = .ok (.ireturn, 1) := by decide +kernel
theorem dX7_steady_0 : decode cX7_steady 0 = .ok (.aload_n 0, 1) := by decide +kernel
theorem dX7_steady_1 : decode cX7_steady 1 = .ok (.getfield 7, 3) := by decide +kernel
theorem dX7_steady_4 : decode cX7_steady 4 = .ok (.iconst 0, 1) := by decide +kernel
theorem dX7_steady_5 : decode cX7_steady 5 = .ok (.iaload, 1) := by decide +kernel
theorem dX7_steady_6 : decode cX7_steady 6 = .ok (.ifCond .eq 12, 3) := by decide +kernel
theorem dX7_steady_9 : decode cX7_steady 9 = .ok (.aload_n 0, 1) := by decide +kernel
theorem dX7_steady_10 : decode cX7_steady 10 = .ok (.getfield 7, 3) := by decide +kernel
theorem dX7_steady_13 : decode cX7_steady 13 = .ok (.iconst 1, 1) := by decide +kernel
theorem dX7_steady_14 : decode cX7_steady 14 = .ok (.iaload, 1) := by decide +kernel
theorem dX7_steady_15 : decode cX7_steady 15 = .ok (.ifCond .ge 6, 3) := by decide +kernel
theorem dX7_steady_18 : decode cX7_steady 18 = .ok (.bipush (-9), 2) := by decide +kernel
theorem dX7_steady_20 : decode cX7_steady 20 = .ok (.ireturn, 1) := by decide +kernel
theorem dX7_steady_21 : decode cX7_steady 21 = .ok (.aload_n 0, 1) := by decide +kernel
theorem dX7_steady_22 : decode cX7_steady 22 = .ok (.invokevirtual 195, 3) := by decide +kernel
theorem dX7_steady_25 : decode cX7_steady 25 = .ok (.iconst 0, 1) := by decide +kernel
theorem dX7_steady_26 : decode cX7_steady 26 = .ok (.istore_n 1, 1) := by decide +kernel
theorem dX7_steady_27 : decode cX7_steady 27 = .ok (.iconst 1, 1) := by decide +kernel
theorem dX7_steady_28 : decode cX7_steady 28 = .ok (.istore_n 2, 1) := by decide +kernel
theorem dX7_steady_29 : decode cX7_steady 29 = .ok (.iload_n 2, 1) := by decide +kernel
theorem dX7_steady_30 : decode cX7_steady 30 = .ok (.sipush 300, 3) := by decide +kernel
theorem dX7_steady_33 : decode cX7_steady 33 = .ok (.if_icmp .gt 38, 3) := by decide +kernel
theorem dX7_steady_36 : decode cX7_steady 36 = .ok (.aload_n 0, 1) := by decide +kernel
theorem dX7_steady_37 : decode cX7_steady 37 = .ok (.iconst 1, 1) := by decide +kernel
theorem dX7_steady_38 : decode cX7_steady 38 = .ok (.invokevirtual 184, 3) := by decide +kernel
theorem dX7_steady_41 : decode cX7_steady 41 = .ok (.istore_n 3, 1) := by decide +kernel
theorem dX7_steady_42 : decode cX7_steady 42 = .ok (.iload_n 3, 1) := by decide +kernel
theorem dX7_steady_43 : decode cX7_steady 43 = .ok (.ifCond .eq 20, 3) := by decide +kernel
theorem dX7_steady_46 : decode cX7_steady 46 = .ok (.aload_n 0, 1) := by decide +kernel
theorem dX7_steady_47 : decode cX7_steady 47 = .ok (.invokevirtual 151, 3) := by decide +kernel
theorem dX7_steady_50 : decode cX7_steady 50 = .ok (.aload_n 0, 1) := by decide +kernel
theorem dX7_steady_51 : decode cX7_steady 51 = .ok (.getfield 44, 3) := by decide +kernel
theorem dX7_steady_54 : decode cX7_steady 54 = .ok (.iconst 2, 1) := by decide +kernel
theorem dX7_steady_55 : decode cX7_steady 55 = .ok (.iaload, 1) := by decide +kernel
theorem dX7_steady_56 : decode cX7_steady 56 = .ok (.if_icmp .le 7, 3) := by decide +kernel
theorem dX7_steady_59 : decode cX7_steady 59 = .ok (.iload_n 2, 1) := by decide +kernel
theorem dX7_steady_60 : decode cX7_steady 60 = .ok (.goto 4, 3) := by decide +kernel
theorem dX7_steady_63 : decode cX7_steady 63 = .ok (.iload_n 1, 1) := by decide +kernel
theorem dX7_steady_64 : decode cX7_steady 64 = .ok (.istore_n 1, 1) := by decide +kernel
theorem dX7_steady_65 : decode cX7_steady 65 = .ok (.iinc 2 1, 3) := by decide +kernel
theorem dX7_steady_68 : decode cX7_steady 68 = .ok (.goto (-39), 3) := by decide +kernel
theorem dX7_steady_71 : decode cX7_steady 71 = .ok (.aload_n 0, 1) := by decide +kernel
theorem dX7_steady_72 : decode cX7_steady 72 = .ok (.invokevirtual 198, 3) := by decide +kernel
theorem dX7_steady_75 : decode cX7_steady 75 = .ok (.iload_n 1, 1) := by decide +kernel
theorem dX7_steady_76 : decode cX7_steady 76 = .ok (.sipush 200, 3) := by decide +kernel
theorem dX7_steady_79 : decode cX7_steady 79 = .ok (.if_icmp .le 8, 3) := by decide +kernel
theorem dX7_steady_82 : decode cX7_steady 82 = .ok (.bipush (-9), 2) := by decide +kernel
theorem dX7_steady_84 : decode cX7_steady 84 = .ok (.goto 4, 3) := by decide +kernel
theorem dX7_steady_87 : decode cX7_steady 87 = .ok (.iload_n 1, 1) := by decide +kernel
theorem dX7_steady_88 : decode cX7_steady 88 = .ok (.ireturn, 1) := by decide +kernel
theorem dX7_wasteBy_0 : decode cX7_wasteBy 0 = .ok (.aload_n 0, 1) := by decide +kernel
theorem dX7_wasteBy_1 : decode cX7_wasteBy 1 = .ok (.invokevirtual 195, 3) := by decide +kernel
theorem dX7_wasteBy_4 : decode cX7_wasteBy 4 = .ok (.aload_n 0, 1) := by decide +kernel
theorem dX7_wasteBy_5 : decode cX7_wasteBy 5 = .ok (.getfield 7, 3) := by decide +kernel
theorem dX7_wasteBy_8 : decode cX7_wasteBy 8 = .ok (.bipush 8, 2) := by decide +kernel
theorem dX7_wasteBy_10 : decode cX7_wasteBy 10 = .ok (.iaload, 1) := by decide +kernel
theorem dX7_wasteBy_11 : decode cX7_wasteBy 11 = .ok (.istore_n 2, 1) := by decide +kernel
theorem dX7_wasteBy_12 : decode cX7_wasteBy 12 = .ok (.iconst 0, 1) := by decide +kernel
theorem dX7_wasteBy_13 : decode cX7_wasteBy 13 = .ok (.istore_n 3, 1) := by decide +kernel
theorem dX7_wasteBy_14 : decode cX7_wasteBy 14 = .ok (.iload_n 3, 1) := by decide +kernel
theorem dX7_wasteBy_15 : decode cX7_wasteBy 15 = .ok (.sipush 200, 3) := by decide +kernel
theorem dX7_wasteBy_18 : decode cX7_wasteBy 18 = .ok (.if_icmp .ge 23, 3) := by decide +kernel
theorem dX7_wasteBy_21 : decode cX7_wasteBy 21 = .ok (.aload_n 0, 1) := by decide +kernel
theorem dX7_wasteBy_22 : decode cX7_wasteBy 22 = .ok (.iload_n 3, 1) := by decide +kernel
theorem dX7_wasteBy_23 : decode cX7_wasteBy 23 = .ok (.ifCond .ne 7, 3) := by decide +kernel
theorem dX7_wasteBy_26 : decode cX7_wasteBy 26 = .ok (.iload_n 1, 1) := by decide +kernel
theorem dX7_wasteBy_27 : decode cX7_wasteBy 27 = .ok (.goto 4, 3) := by decide +kernel
theorem dX7_wasteBy_30 : decode cX7_wasteBy 30 = .ok (.iconst 1, 1) := by decide +kernel
theorem dX7_wasteBy_31 : decode cX7_wasteBy 31 = .ok (.invokevirtual 184, 3) := by decide +kernel
theorem dX7_wasteBy_34 : decode cX7_wasteBy 34 = .ok (.pop, 1) := by decide +kernel
theorem dX7_wasteBy_35 : decode cX7_wasteBy 35 = .ok (.iinc 3 1, 3) := by decide +kernel
theorem dX7_wasteBy_38 : decode cX7_wasteBy 38 = .ok (.goto (-24), 3) := by decide +kernel
theorem dX7_wasteBy_41 : decode cX7_wasteBy 41 = .ok (.aload_n 0, 1) := by decide +kernel
theorem dX7_wasteBy_42 : decode cX7_wasteBy 42 = .ok (.getfield 7, 3) := by decide +kernel
theorem dX7_wasteBy_45 : decode cX7_wasteBy 45 = .ok (.bipush 8, 2) := by decide +kernel
theorem dX7_wasteBy_47 : decode cX7_wasteBy 47 = .ok (.iaload, 1) := by decide +kernel
theorem dX7_wasteBy_48 : decode cX7_wasteBy 48 = .ok (.iload_n 2, 1) := by decide +kernel
theorem dX7_wasteBy_49 : decode cX7_wasteBy 49 = .ok (.isub, 1) := by decide +kernel
theorem dX7_wasteBy_50 : decode cX7_wasteBy 50 = .ok (.istore_n 3, 1) := by decide +kernel
theorem dX7_wasteBy_51 : decode cX7_wasteBy 51 = .ok (.aload_n 0, 1) := by decide +kernel
theorem dX7_wasteBy_52 : decode cX7_wasteBy 52 = .ok (.invokevirtual 198, 3) := by decide +kernel
theorem dX7_wasteBy_55 : decode cX7_wasteBy 55 = .ok (.iload_n 3, 1) := by decide +kernel
theorem dX7_wasteBy_56 : decode cX7_wasteBy 56 = .ok (.ireturn, 1) := by decide +kernel
theorem dX7_cost_0 : decode cX7_cost 0 = .ok (.aload_n 0, 1) := by decide +kernel
theorem dX7_cost_1 : decode cX7_cost 1 = .ok (.getfield 7, 3) := by decide +kernel
theorem dX7_cost_4 : decode cX7_cost 4 = .ok (.iconst 0, 1) := by decide +kernel
theorem dX7_cost_5 : decode cX7_cost 5 = .ok (.iaload, 1) := by decide +kernel
theorem dX7_cost_6 : decode cX7_cost 6 = .ok (.ifCond .eq 12, 3) := by decide +kernel
theorem dX7_cost_9 : decode cX7_cost 9 = .ok (.aload_n 0, 1) := by decide +kernel
theorem dX7_cost_10 : decode cX7_cost 10 = .ok (.invokevirtual 158, 3) := by decide +kernel
theorem dX7_cost_13 : decode cX7_cost 13 = .ok (.bipush (-9), 2) := by decide +kernel
theorem dX7_cost_15 : decode cX7_cost 15 = .ok (.if_icmp .ne 6, 3) := by decide +kernel
theorem dX7_cost_18 : decode cX7_cost 18 = .ok (.ldc 194, 2) := by decide +kernel
theorem dX7_cost_20 : decode cX7_cost 20 = .ok (.ireturn, 1) := by decide +kernel
theorem dX7_cost_21 : decode cX7_cost 21 = .ok (.aload_n 0, 1) := by decide +kernel
theorem dX7_cost_22 : decode cX7_cost 22 = .ok (.iconst 2, 1) := by decide +kernel
theorem dX7_cost_23 : decode cX7_cost 23 = .ok (.invokevirtual 201, 3) := by decide +kernel
theorem dX7_cost_26 : decode cX7_cost 26 = .ok (.aload_n 0, 1) := by decide +kernel
theorem dX7_cost_27 : decode cX7_cost 27 = .ok (.iconst 1, 1) := by decide +kernel
theorem dX7_cost_28 : decode cX7_cost 28 = .ok (.invokevirtual 201, 3) := by decide +kernel
theorem dX7_cost_31 : decode cX7_cost 31 = .ok (.isub, 1) := by decide +kernel
theorem dX7_cost_32 : decode cX7_cost 32 = .ok (.ireturn, 1) := by decide +kernel
theorem dX7_sees_0 : decode cX7_sees 0 = .ok (.aload_n 0, 1) := by decide +kernel
theorem dX7_sees_1 : decode cX7_sees 1 = .ok (.iload_n 1, 1) := by decide +kernel
theorem dX7_sees_2 : decode cX7_sees 2 = .ok (.invokevirtual 187, 3) := by decide +kernel
theorem dX7_sees_5 : decode cX7_sees 5 = .ok (.ifCond .eq 14, 3) := by decide +kernel
theorem dX7_sees_8 : decode cX7_sees 8 = .ok (.iload_n 2, 1) := by decide +kernel
theorem dX7_sees_9 : decode cX7_sees 9 = .ok (.bipush (-99), 2) := by decide +kernel
theorem dX7_sees_11 : decode cX7_sees 11 = .ok (.bipush 99, 2) := by decide +kernel
theorem dX7_sees_13 : decode cX7_sees 13 = .ok (.invokestatic 96, 3) := by decide +kernel
theorem dX7_sees_16 : decode cX7_sees 16 = .ok (.ifCond .ne 5, 3) := by decide +kernel
theorem dX7_sees_19 : decode cX7_sees 19 = .ok (.iconst (-1), 1) := by decide +kernel
theorem dX7_sees_20 : decode cX7_sees 20 = .ok (.ireturn, 1) := by decide +kernel
theorem dX7_sees_21 : decode cX7_sees 21 = .ok (.aload_n 0, 1) := by decide +kernel
theorem dX7_sees_22 : decode cX7_sees 22 = .ok (.getfield 84, 3) := by decide +kernel
theorem dX7_sees_25 : decode cX7_sees 25 = .ok (.bipush 6, 2) := by decide +kernel
theorem dX7_sees_27 : decode cX7_sees 27 = .ok (.if_icmp .ne 6, 3) := by decide +kernel
theorem dX7_sees_30 : decode cX7_sees 30 = .ok (.bipush (-3), 2) := by decide +kernel
theorem dX7_sees_32 : decode cX7_sees 32 = .ok (.ireturn, 1) := by decide +kernel
theorem dX7_sees_33 : decode cX7_sees 33 = .ok (.aload_n 0, 1) := by decide +kernel
theorem dX7_sees_34 : decode cX7_sees 34 = .ok (.getfield 29, 3) := by decide +kernel
theorem dX7_sees_37 : decode cX7_sees 37 = .ok (.iconst 2, 1) := by decide +kernel
theorem dX7_sees_38 : decode cX7_sees 38 = .ok (.aload_n 0, 1) := by decide +kernel
theorem dX7_sees_39 : decode cX7_sees 39 = .ok (.getfield 84, 3) := by decide +kernel
theorem dX7_sees_42 : decode cX7_sees 42 = .ok (.imul, 1) := by decide +kernel
theorem dX7_sees_43 : decode cX7_sees 43 = .ok (.iload_n 1, 1) := by decide +kernel
theorem dX7_sees_44 : decode cX7_sees 44 = .ok (.iastore, 1) := by decide +kernel
theorem dX7_sees_45 : decode cX7_sees 45 = .ok (.aload_n 0, 1) := by decide +kernel
theorem dX7_sees_46 : decode cX7_sees 46 = .ok (.getfield 29, 3) := by decide +kernel
theorem dX7_sees_49 : decode cX7_sees 49 = .ok (.iconst 2, 1) := by decide +kernel
theorem dX7_sees_50 : decode cX7_sees 50 = .ok (.aload_n 0, 1) := by decide +kernel
theorem dX7_sees_51 : decode cX7_sees 51 = .ok (.getfield 84, 3) := by decide +kernel
theorem dX7_sees_54 : decode cX7_sees 54 = .ok (.imul, 1) := by decide +kernel
theorem dX7_sees_55 : decode cX7_sees 55 = .ok (.iconst 1, 1) := by decide +kernel
theorem dX7_sees_56 : decode cX7_sees 56 = .ok (.iadd, 1) := by decide +kernel
theorem dX7_sees_57 : decode cX7_sees 57 = .ok (.iload_n 2, 1) := by decide +kernel
theorem dX7_sees_58 : decode cX7_sees 58 = .ok (.iastore, 1) := by decide +kernel
theorem dX7_sees_59 : decode cX7_sees 59 = .ok (.aload_n 0, 1) := by decide +kernel
theorem dX7_sees_60 : decode cX7_sees 60 = .ok (.dup, 1) := by decide +kernel
theorem dX7_sees_61 : decode cX7_sees 61 = .ok (.getfield 84, 3) := by decide +kernel
theorem dX7_sees_64 : decode cX7_sees 64 = .ok (.iconst 1, 1) := by decide +kernel
theorem dX7_sees_65 : decode cX7_sees 65 = .ok (.iadd, 1) := by decide +kernel
theorem dX7_sees_66 : decode cX7_sees 66 = .ok (.putfield 84, 3) := by decide +kernel
theorem dX7_sees_69 : decode cX7_sees 69 = .ok (.aload_n 0, 1) := by decide +kernel
theorem dX7_sees_70 : decode cX7_sees 70 = .ok (.getfield 84, 3) := by decide +kernel
theorem dX7_sees_73 : decode cX7_sees 73 = .ok (.ireturn, 1) := by decide +kernel
theorem dX7_forget_0 : decode cX7_forget 0 = .ok (.aload_n 0, 1) := by decide +kernel
theorem dX7_forget_1 : decode cX7_forget 1 = .ok (.getfield 84, 3) := by decide +kernel
theorem dX7_forget_4 : decode cX7_forget 4 = .ok (.istore_n 1, 1) := by decide +kernel
theorem dX7_forget_5 : decode cX7_forget 5 = .ok (.aload_n 0, 1) := by decide +kernel
theorem dX7_forget_6 : decode cX7_forget 6 = .ok (.iconst 0, 1) := by decide +kernel
theorem dX7_forget_7 : decode cX7_forget 7 = .ok (.putfield 84, 3) := by decide +kernel
theorem dX7_forget_10 : decode cX7_forget 10 = .ok (.iload_n 1, 1) := by decide +kernel
theorem dX7_forget_11 : decode cX7_forget 11 = .ok (.ireturn, 1) := by decide +kernel
theorem dX7_times_0 : decode cX7_times 0 = .ok (.iload_n 0, 1) := by decide +kernel
theorem dX7_times_1 : decode cX7_times 1 = .ok (.ifCond .ne 5, 3) := by decide +kernel
theorem dX7_times_4 : decode cX7_times 4 = .ok (.iload_n 1, 1) := by decide +kernel
theorem dX7_times_5 : decode cX7_times 5 = .ok (.ireturn, 1) := by decide +kernel
theorem dX7_times_6 : decode cX7_times 6 = .ok (.iload_n 0, 1) := by decide +kernel
theorem dX7_times_7 : decode cX7_times 7 = .ok (.iconst 4, 1) := by decide +kernel
theorem dX7_times_8 : decode cX7_times 8 = .ok (.if_icmp .ge 16, 3) := by decide +kernel
theorem dX7_times_11 : decode cX7_times 11 = .ok (.iload_n 1, 1) := by decide +kernel
theorem dX7_times_12 : decode cX7_times 12 = .ok (.iload_n 0, 1) := by decide +kernel
theorem dX7_times_13 : decode cX7_times 13 = .ok (.if_icmp .ne 7, 3) := by decide +kernel
theorem dX7_times_16 : decode cX7_times 16 = .ok (.iconst 1, 1) := by decide +kernel
theorem dX7_times_17 : decode cX7_times 17 = .ok (.goto 19, 3) := by decide +kernel
theorem dX7_times_20 : decode cX7_times 20 = .ok (.iconst 0, 1) := by decide +kernel
theorem dX7_times_21 : decode cX7_times 21 = .ok (.goto 15, 3) := by decide +kernel
theorem dX7_times_24 : decode cX7_times 24 = .ok (.iload_n 1, 1) := by decide +kernel
theorem dX7_times_25 : decode cX7_times 25 = .ok (.iload_n 0, 1) := by decide +kernel
theorem dX7_times_26 : decode cX7_times 26 = .ok (.iconst 3, 1) := by decide +kernel
theorem dX7_times_27 : decode cX7_times 27 = .ok (.isub, 1) := by decide +kernel
theorem dX7_times_28 : decode cX7_times 28 = .ok (.if_icmp .lt 7, 3) := by decide +kernel
theorem dX7_times_31 : decode cX7_times 31 = .ok (.iconst 1, 1) := by decide +kernel
theorem dX7_times_32 : decode cX7_times 32 = .ok (.goto 4, 3) := by decide +kernel
theorem dX7_times_35 : decode cX7_times 35 = .ok (.iconst 0, 1) := by decide +kernel
theorem dX7_times_36 : decode cX7_times 36 = .ok (.ireturn, 1) := by decide +kernel
theorem dX7_isCause_0 : decode cX7_isCause 0 = .ok (.iload_n 1, 1) := by decide +kernel
theorem dX7_isCause_1 : decode cX7_isCause 1 = .ok (.ifCond .eq 33, 3) := by decide +kernel
theorem dX7_isCause_4 : decode cX7_isCause 4 = .ok (.iload_n 1, 1) := by decide +kernel
theorem dX7_isCause_5 : decode cX7_isCause 5 = .ok (.iconst 1, 1) := by decide +kernel
theorem dX7_isCause_6 : decode cX7_isCause 6 = .ok (.aload_n 0, 1) := by decide +kernel
theorem dX7_isCause_7 : decode cX7_isCause 7 = .ok (.getfield 75, 3) := by decide +kernel
theorem dX7_isCause_10 : decode cX7_isCause 10 = .ok (.iconst 1, 1) := by decide +kernel
theorem dX7_isCause_11 : decode cX7_isCause 11 = .ok (.isub, 1) := by decide +kernel
theorem dX7_isCause_12 : decode cX7_isCause 12 = .ok (.invokestatic 96, 3) := by decide +kernel
theorem dX7_isCause_15 : decode cX7_isCause 15 = .ok (.ifCond .ne 19, 3) := by decide +kernel
theorem dX7_isCause_18 : decode cX7_isCause 18 = .ok (.iload_n 1, 1) := by decide +kernel
theorem dX7_isCause_19 : decode cX7_isCause 19 = .ok (.iconst 3, 1) := by decide +kernel
theorem dX7_isCause_20 : decode cX7_isCause 20 = .ok (.isub, 1) := by decide +kernel
theorem dX7_isCause_21 : decode cX7_isCause 21 = .ok (.iconst 1, 1) := by decide +kernel
theorem dX7_isCause_22 : decode cX7_isCause 22 = .ok (.aload_n 0, 1) := by decide +kernel
theorem dX7_isCause_23 : decode cX7_isCause 23 = .ok (.getfield 75, 3) := by decide +kernel
theorem dX7_isCause_26 : decode cX7_isCause 26 = .ok (.iconst 1, 1) := by decide +kernel
theorem dX7_isCause_27 : decode cX7_isCause 27 = .ok (.isub, 1) := by decide +kernel
theorem dX7_isCause_28 : decode cX7_isCause 28 = .ok (.invokestatic 96, 3) := by decide +kernel
theorem dX7_isCause_31 : decode cX7_isCause 31 = .ok (.ifCond .eq 7, 3) := by decide +kernel
theorem dX7_isCause_34 : decode cX7_isCause 34 = .ok (.iconst 1, 1) := by decide +kernel
theorem dX7_isCause_35 : decode cX7_isCause 35 = .ok (.goto 4, 3) := by decide +kernel
theorem dX7_isCause_38 : decode cX7_isCause 38 = .ok (.iconst 0, 1) := by decide +kernel
theorem dX7_isCause_39 : decode cX7_isCause 39 = .ok (.ireturn, 1) := by decide +kernel
theorem dX7_isSo_0 : decode cX7_isSo 0 = .ok (.bipush (-20), 2) := by decide +kernel
theorem dX7_isSo_2 : decode cX7_isSo 2 = .ok (.istore_n 2, 1) := by decide +kernel
theorem dX7_isSo_3 : decode cX7_isSo 3 = .ok (.iload_n 2, 1) := by decide +kernel
theorem dX7_isSo_4 : decode cX7_isSo 4 = .ok (.bipush 20, 2) := by decide +kernel
theorem dX7_isSo_6 : decode cX7_isSo 6 = .ok (.if_icmp .gt 82, 3) := by decide +kernel
theorem dX7_isSo_9 : decode cX7_isSo 9 = .ok (.iload_n 2, 1) := by decide +kernel
theorem dX7_isSo_10 : decode cX7_isSo 10 = .ok (.ifCond .eq 7, 3) := by decide +kernel
theorem dX7_isSo_13 : decode cX7_isSo 13 = .ok (.iconst 1, 1) := by decide +kernel
theorem dX7_isSo_14 : decode cX7_isSo 14 = .ok (.goto 4, 3) := by decide +kernel
theorem dX7_isSo_17 : decode cX7_isSo 17 = .ok (.iconst 0, 1) := by decide +kernel
theorem dX7_isSo_18 : decode cX7_isSo 18 = .ok (.istore_n 3, 1) := by decide +kernel
theorem dX7_isSo_19 : decode cX7_isSo 19 = .ok (.iconst 0, 1) := by decide +kernel
theorem dX7_isSo_20 : decode cX7_isSo 20 = .ok (.istore 4, 2) := by decide +kernel
theorem dX7_isSo_22 : decode cX7_isSo 22 = .ok (.iload 4, 2) := by decide +kernel
theorem dX7_isSo_24 : decode cX7_isSo 24 = .ok (.aload_n 0, 1) := by decide +kernel
theorem dX7_isSo_25 : decode cX7_isSo 25 = .ok (.getfield 84, 3) := by decide +kernel
theorem dX7_isSo_28 : decode cX7_isSo 28 = .ok (.if_icmp .ge 48, 3) := by decide +kernel
theorem dX7_isSo_31 : decode cX7_isSo 31 = .ok (.iload_n 3, 1) := by decide +kernel
theorem dX7_isSo_32 : decode cX7_isSo 32 = .ok (.ifCond .eq 44, 3) := by decide +kernel
theorem dX7_isSo_35 : decode cX7_isSo 35 = .ok (.iload_n 1, 1) := by decide +kernel
theorem dX7_isSo_36 : decode cX7_isSo 36 = .ok (.aload_n 0, 1) := by decide +kernel
theorem dX7_isSo_37 : decode cX7_isSo 37 = .ok (.getfield 29, 3) := by decide +kernel
theorem dX7_isSo_40 : decode cX7_isSo 40 = .ok (.iconst 2, 1) := by decide +kernel
theorem dX7_isSo_41 : decode cX7_isSo 41 = .ok (.iload 4, 2) := by decide +kernel
theorem dX7_isSo_43 : decode cX7_isSo 43 = .ok (.imul, 1) := by decide +kernel
theorem dX7_isSo_44 : decode cX7_isSo 44 = .ok (.iaload, 1) := by decide +kernel
theorem dX7_isSo_45 : decode cX7_isSo 45 = .ok (.invokestatic 204, 3) := by decide +kernel
theorem dX7_isSo_48 : decode cX7_isSo 48 = .ok (.iload_n 2, 1) := by decide +kernel
theorem dX7_isSo_49 : decode cX7_isSo 49 = .ok (.imul, 1) := by decide +kernel
theorem dX7_isSo_50 : decode cX7_isSo 50 = .ok (.aload_n 0, 1) := by decide +kernel
theorem dX7_isSo_51 : decode cX7_isSo 51 = .ok (.getfield 29, 3) := by decide +kernel
theorem dX7_isSo_54 : decode cX7_isSo 54 = .ok (.iconst 2, 1) := by decide +kernel
theorem dX7_isSo_55 : decode cX7_isSo 55 = .ok (.iload 4, 2) := by decide +kernel
theorem dX7_isSo_57 : decode cX7_isSo 57 = .ok (.imul, 1) := by decide +kernel
theorem dX7_isSo_58 : decode cX7_isSo 58 = .ok (.iconst 1, 1) := by decide +kernel
theorem dX7_isSo_59 : decode cX7_isSo 59 = .ok (.iadd, 1) := by decide +kernel
theorem dX7_isSo_60 : decode cX7_isSo 60 = .ok (.iaload, 1) := by decide +kernel
theorem dX7_isSo_61 : decode cX7_isSo 61 = .ok (.if_icmp .ne 7, 3) := by decide +kernel
theorem dX7_isSo_64 : decode cX7_isSo 64 = .ok (.iconst 1, 1) := by decide +kernel
theorem dX7_isSo_65 : decode cX7_isSo 65 = .ok (.goto 4, 3) := by decide +kernel
theorem dX7_isSo_68 : decode cX7_isSo 68 = .ok (.iconst 0, 1) := by decide +kernel
theorem dX7_isSo_69 : decode cX7_isSo 69 = .ok (.istore_n 3, 1) := by decide +kernel
theorem dX7_isSo_70 : decode cX7_isSo 70 = .ok (.iinc 4 1, 3) := by decide +kernel
theorem dX7_isSo_73 : decode cX7_isSo 73 = .ok (.goto (-51), 3) := by decide +kernel
theorem dX7_isSo_76 : decode cX7_isSo 76 = .ok (.iload_n 3, 1) := by decide +kernel
theorem dX7_isSo_77 : decode cX7_isSo 77 = .ok (.ifCond .eq 5, 3) := by decide +kernel
theorem dX7_isSo_80 : decode cX7_isSo 80 = .ok (.iconst 1, 1) := by decide +kernel
theorem dX7_isSo_81 : decode cX7_isSo 81 = .ok (.ireturn, 1) := by decide +kernel
theorem dX7_isSo_82 : decode cX7_isSo 82 = .ok (.iinc 2 1, 3) := by decide +kernel
theorem dX7_isSo_85 : decode cX7_isSo 85 = .ok (.goto (-82), 3) := by decide +kernel
theorem dX7_isSo_88 : decode cX7_isSo 88 = .ok (.iconst 0, 1) := by decide +kernel
theorem dX7_isSo_89 : decode cX7_isSo 89 = .ok (.ireturn, 1) := by decide +kernel
theorem dX7_causes_0 : decode cX7_causes 0 = .ok (.iconst 0, 1) := by decide +kernel
theorem dX7_causes_1 : decode cX7_causes 1 = .ok (.istore_n 1, 1) := by decide +kernel
theorem dX7_causes_2 : decode cX7_causes 2 = .ok (.iconst 0, 1) := by decide +kernel
theorem dX7_causes_3 : decode cX7_causes 3 = .ok (.istore_n 2, 1) := by decide +kernel
theorem dX7_causes_4 : decode cX7_causes 4 = .ok (.iload_n 2, 1) := by decide +kernel
theorem dX7_causes_5 : decode cX7_causes 5 = .ok (.bipush 7, 2) := by decide +kernel
theorem dX7_causes_7 : decode cX7_causes 7 = .ok (.if_icmp .ge 35, 3) := by decide +kernel
theorem dX7_causes_10 : decode cX7_causes 10 = .ok (.iload_n 1, 1) := by decide +kernel
theorem dX7_causes_11 : decode cX7_causes 11 = .ok (.aload_n 0, 1) := by decide +kernel
theorem dX7_causes_12 : decode cX7_causes 12 = .ok (.iload_n 2, 1) := by decide +kernel
theorem dX7_causes_13 : decode cX7_causes 13 = .ok (.invokevirtual 207, 3) := by decide +kernel
theorem dX7_causes_16 : decode cX7_causes 16 = .ok (.ifCond .eq 17, 3) := by decide +kernel
theorem dX7_causes_19 : decode cX7_causes 19 = .ok (.aload_n 0, 1) := by decide +kernel
theorem dX7_causes_20 : decode cX7_causes 20 = .ok (.iload_n 2, 1) := by decide +kernel
theorem dX7_causes_21 : decode cX7_causes 21 = .ok (.invokevirtual 210, 3) := by decide +kernel
theorem dX7_causes_24 : decode cX7_causes 24 = .ok (.ifCond .eq 9, 3) := by decide +kernel
theorem dX7_causes_27 : decode cX7_causes 27 = .ok (.iconst 1, 1) := by decide +kernel
theorem dX7_causes_28 : decode cX7_causes 28 = .ok (.iload_n 2, 1) := by decide +kernel
theorem dX7_causes_29 : decode cX7_causes 29 = .ok (.ishl, 1) := by decide +kernel
theorem dX7_causes_30 : decode cX7_causes 30 = .ok (.goto 4, 3) := by decide +kernel
theorem dX7_causes_33 : decode cX7_causes 33 = .ok (.iconst 0, 1) := by decide +kernel
theorem dX7_causes_34 : decode cX7_causes 34 = .ok (.ior, 1) := by decide +kernel
theorem dX7_causes_35 : decode cX7_causes 35 = .ok (.istore_n 1, 1) := by decide +kernel
theorem dX7_causes_36 : decode cX7_causes 36 = .ok (.iinc 2 1, 3) := by decide +kernel
theorem dX7_causes_39 : decode cX7_causes 39 = .ok (.goto (-35), 3) := by decide +kernel
theorem dX7_causes_42 : decode cX7_causes 42 = .ok (.iload_n 1, 1) := by decide +kernel
theorem dX7_causes_43 : decode cX7_causes 43 = .ok (.ireturn, 1) := by decide +kernel
theorem dX7_which_0 : decode cX7_which 0 = .ok (.aload_n 0, 1) := by decide +kernel
theorem dX7_which_1 : decode cX7_which 1 = .ok (.invokevirtual 213, 3) := by decide +kernel
theorem dX7_which_4 : decode cX7_which 4 = .ok (.ireturn, 1) := by decide +kernel
theorem dX7_look_0 : decode cX7_look 0 = .ok (.aload_n 0, 1) := by decide +kernel
theorem dX7_look_1 : decode cX7_look 1 = .ok (.invokevirtual 213, 3) := by decide +kernel
theorem dX7_look_4 : decode cX7_look 4 = .ok (.istore_n 1, 1) := by decide +kernel
theorem dX7_look_5 : decode cX7_look 5 = .ok (.iload_n 1, 1) := by decide +kernel
theorem dX7_look_6 : decode cX7_look 6 = .ok (.iload_n 1, 1) := by decide +kernel
theorem dX7_look_7 : decode cX7_look 7 = .ok (.iconst 1, 1) := by decide +kernel
theorem dX7_look_8 : decode cX7_look 8 = .ok (.isub, 1) := by decide +kernel
theorem dX7_look_9 : decode cX7_look 9 = .ok (.iand, 1) := by decide +kernel
theorem dX7_look_10 : decode cX7_look 10 = .ok (.ifCond .ne 6, 3) := by decide +kernel
theorem dX7_look_13 : decode cX7_look 13 = .ok (.bipush (-9), 2) := by decide +kernel
theorem dX7_look_15 : decode cX7_look 15 = .ok (.ireturn, 1) := by decide +kernel
theorem dX7_look_16 : decode cX7_look 16 = .ok (.bipush (-9), 2) := by decide +kernel
theorem dX7_look_18 : decode cX7_look 18 = .ok (.istore_n 2, 1) := by decide +kernel
theorem dX7_look_19 : decode cX7_look 19 = .ok (.bipush 8, 2) := by decide +kernel
theorem dX7_look_21 : decode cX7_look 21 = .ok (.istore_n 3, 1) := by decide +kernel
theorem dX7_look_22 : decode cX7_look 22 = .ok (.iconst 1, 1) := by decide +kernel
theorem dX7_look_23 : decode cX7_look 23 = .ok (.istore 4, 2) := by decide +kernel
theorem dX7_look_25 : decode cX7_look 25 = .ok (.iload 4, 2) := by decide +kernel
theorem dX7_look_27 : decode cX7_look 27 = .ok (.aload_n 0, 1) := by decide +kernel
theorem dX7_look_28 : decode cX7_look 28 = .ok (.getfield 75, 3) := by decide +kernel
theorem dX7_look_31 : decode cX7_look 31 = .ok (.if_icmp .ge 123, 3) := by decide +kernel
theorem dX7_look_34 : decode cX7_look 34 = .ok (.iconst 0, 1) := by decide +kernel
theorem dX7_look_35 : decode cX7_look 35 = .ok (.istore 5, 2) := by decide +kernel
theorem dX7_look_37 : decode cX7_look 37 = .ok (.iconst 0, 1) := by decide +kernel
theorem dX7_look_38 : decode cX7_look 38 = .ok (.istore 6, 2) := by decide +kernel
theorem dX7_look_40 : decode cX7_look 40 = .ok (.iconst 0, 1) := by decide +kernel
theorem dX7_look_41 : decode cX7_look 41 = .ok (.istore 7, 2) := by decide +kernel
theorem dX7_look_43 : decode cX7_look 43 = .ok (.iload 7, 2) := by decide +kernel
theorem dX7_look_45 : decode cX7_look 45 = .ok (.bipush 7, 2) := by decide +kernel
theorem dX7_look_47 : decode cX7_look 47 = .ok (.if_icmp .ge 59, 3) := by decide +kernel
theorem dX7_look_50 : decode cX7_look 50 = .ok (.iload_n 1, 1) := by decide +kernel
theorem dX7_look_51 : decode cX7_look 51 = .ok (.iload 7, 2) := by decide +kernel
theorem dX7_look_53 : decode cX7_look 53 = .ok (.ishr, 1) := by decide +kernel
theorem dX7_look_54 : decode cX7_look 54 = .ok (.iconst 1, 1) := by decide +kernel
theorem dX7_look_55 : decode cX7_look 55 = .ok (.iand, 1) := by decide +kernel
theorem dX7_look_56 : decode cX7_look 56 = .ok (.iconst 1, 1) := by decide +kernel
theorem dX7_look_57 : decode cX7_look 57 = .ok (.if_icmp .ne 43, 3) := by decide +kernel
theorem dX7_look_60 : decode cX7_look 60 = .ok (.iload 5, 2) := by decide +kernel
theorem dX7_look_62 : decode cX7_look 62 = .ok (.iload 7, 2) := by decide +kernel
theorem dX7_look_64 : decode cX7_look 64 = .ok (.iload 4, 2) := by decide +kernel
theorem dX7_look_66 : decode cX7_look 66 = .ok (.invokestatic 204, 3) := by decide +kernel
theorem dX7_look_69 : decode cX7_look 69 = .ok (.ifCond .ne 7, 3) := by decide +kernel
theorem dX7_look_72 : decode cX7_look 72 = .ok (.iconst 1, 1) := by decide +kernel
theorem dX7_look_73 : decode cX7_look 73 = .ok (.goto 4, 3) := by decide +kernel
theorem dX7_look_76 : decode cX7_look 76 = .ok (.iconst 0, 1) := by decide +kernel
theorem dX7_look_77 : decode cX7_look 77 = .ok (.iadd, 1) := by decide +kernel
theorem dX7_look_78 : decode cX7_look 78 = .ok (.istore 5, 2) := by decide +kernel
theorem dX7_look_80 : decode cX7_look 80 = .ok (.iload 6, 2) := by decide +kernel
theorem dX7_look_82 : decode cX7_look 82 = .ok (.iload 7, 2) := by decide +kernel
theorem dX7_look_84 : decode cX7_look 84 = .ok (.iload 4, 2) := by decide +kernel
theorem dX7_look_86 : decode cX7_look 86 = .ok (.invokestatic 204, 3) := by decide +kernel
theorem dX7_look_89 : decode cX7_look 89 = .ok (.ifCond .ne 7, 3) := by decide +kernel
theorem dX7_look_92 : decode cX7_look 92 = .ok (.iconst 0, 1) := by decide +kernel
theorem dX7_look_93 : decode cX7_look 93 = .ok (.goto 4, 3) := by decide +kernel
theorem dX7_look_96 : decode cX7_look 96 = .ok (.iconst 1, 1) := by decide +kernel
theorem dX7_look_97 : decode cX7_look 97 = .ok (.iadd, 1) := by decide +kernel
theorem dX7_look_98 : decode cX7_look 98 = .ok (.istore 6, 2) := by decide +kernel
theorem dX7_look_100 : decode cX7_look 100 = .ok (.iinc 7 1, 3) := by decide +kernel
theorem dX7_look_103 : decode cX7_look 103 = .ok (.goto (-60), 3) := by decide +kernel
theorem dX7_look_106 : decode cX7_look 106 = .ok (.iload 5, 2) := by decide +kernel
theorem dX7_look_108 : decode cX7_look 108 = .ok (.iload 6, 2) := by decide +kernel
theorem dX7_look_110 : decode cX7_look 110 = .ok (.if_icmp .le 8, 3) := by decide +kernel
theorem dX7_look_113 : decode cX7_look 113 = .ok (.iload 5, 2) := by decide +kernel
theorem dX7_look_115 : decode cX7_look 115 = .ok (.goto 5, 3) := by decide +kernel
theorem dX7_look_118 : decode cX7_look 118 = .ok (.iload 6, 2) := by decide +kernel
theorem dX7_look_120 : decode cX7_look 120 = .ok (.istore 7, 2) := by decide +kernel
theorem dX7_look_122 : decode cX7_look 122 = .ok (.iload 7, 2) := by decide +kernel
theorem dX7_look_124 : decode cX7_look 124 = .ok (.iload_n 3, 1) := by decide +kernel
theorem dX7_look_125 : decode cX7_look 125 = .ok (.if_icmp .ge 8, 3) := by decide +kernel
theorem dX7_look_128 : decode cX7_look 128 = .ok (.iload 4, 2) := by decide +kernel
theorem dX7_look_130 : decode cX7_look 130 = .ok (.goto 4, 3) := by decide +kernel
theorem dX7_look_133 : decode cX7_look 133 = .ok (.iload_n 2, 1) := by decide +kernel
theorem dX7_look_134 : decode cX7_look 134 = .ok (.istore_n 2, 1) := by decide +kernel
theorem dX7_look_135 : decode cX7_look 135 = .ok (.iload 7, 2) := by decide +kernel
theorem dX7_look_137 : decode cX7_look 137 = .ok (.iload_n 3, 1) := by decide +kernel
theorem dX7_look_138 : decode cX7_look 138 = .ok (.if_icmp .ge 8, 3) := by decide +kernel
theorem dX7_look_141 : decode cX7_look 141 = .ok (.iload 7, 2) := by decide +kernel
theorem dX7_look_143 : decode cX7_look 143 = .ok (.goto 4, 3) := by decide +kernel
theorem dX7_look_146 : decode cX7_look 146 = .ok (.iload_n 3, 1) := by decide +kernel
theorem dX7_look_147 : decode cX7_look 147 = .ok (.istore_n 3, 1) := by decide +kernel
theorem dX7_look_148 : decode cX7_look 148 = .ok (.iinc 4 1, 3) := by decide +kernel
theorem dX7_look_151 : decode cX7_look 151 = .ok (.goto (-126), 3) := by decide +kernel
theorem dX7_look_154 : decode cX7_look 154 = .ok (.iload_n 2, 1) := by decide +kernel
theorem dX7_look_155 : decode cX7_look 155 = .ok (.ireturn, 1) := by decide +kernel
theorem dX7_keep_0 : decode cX7_keep 0 = .ok (.iload_n 1, 1) := by decide +kernel
theorem dX7_keep_1 : decode cX7_keep 1 = .ok (.iconst 0, 1) := by decide +kernel
theorem dX7_keep_2 : decode cX7_keep 2 = .ok (.iconst 1, 1) := by decide +kernel
theorem dX7_keep_3 : decode cX7_keep 3 = .ok (.invokestatic 96, 3) := by decide +kernel
theorem dX7_keep_6 : decode cX7_keep 6 = .ok (.ifCond .ne 5, 3) := by decide +kernel
theorem dX7_keep_9 : decode cX7_keep 9 = .ok (.iconst (-1), 1) := by decide +kernel
theorem dX7_keep_10 : decode cX7_keep 10 = .ok (.ireturn, 1) := by decide +kernel
theorem dX7_keep_11 : decode cX7_keep 11 = .ok (.iconst 0, 1) := by decide +kernel
theorem dX7_keep_12 : decode cX7_keep 12 = .ok (.istore_n 2, 1) := by decide +kernel
theorem dX7_keep_13 : decode cX7_keep 13 = .ok (.iload_n 2, 1) := by decide +kernel
theorem dX7_keep_14 : decode cX7_keep 14 = .ok (.sipush 349, 3) := by decide +kernel
theorem dX7_keep_17 : decode cX7_keep 17 = .ok (.if_icmp .ge 27, 3) := by decide +kernel
theorem dX7_keep_20 : decode cX7_keep 20 = .ok (.aload_n 0, 1) := by decide +kernel
theorem dX7_keep_21 : decode cX7_keep 21 = .ok (.getfield 19, 3) := by decide +kernel
theorem dX7_keep_24 : decode cX7_keep 24 = .ok (.sipush 349, 3) := by decide +kernel
theorem dX7_keep_27 : decode cX7_keep 27 = .ok (.iload_n 1, 1) := by decide +kernel
theorem dX7_keep_28 : decode cX7_keep 28 = .ok (.imul, 1) := by decide +kernel
theorem dX7_keep_29 : decode cX7_keep 29 = .ok (.iload_n 2, 1) := by decide +kernel
theorem dX7_keep_30 : decode cX7_keep 30 = .ok (.iadd, 1) := by decide +kernel
theorem dX7_keep_31 : decode cX7_keep 31 = .ok (.aload_n 0, 1) := by decide +kernel
theorem dX7_keep_32 : decode cX7_keep 32 = .ok (.getfield 7, 3) := by decide +kernel
theorem dX7_keep_35 : decode cX7_keep 35 = .ok (.iload_n 2, 1) := by decide +kernel
theorem dX7_keep_36 : decode cX7_keep 36 = .ok (.iaload, 1) := by decide +kernel
theorem dX7_keep_37 : decode cX7_keep 37 = .ok (.iastore, 1) := by decide +kernel
theorem dX7_keep_38 : decode cX7_keep 38 = .ok (.iinc 2 1, 3) := by decide +kernel
theorem dX7_keep_41 : decode cX7_keep 41 = .ok (.goto (-28), 3) := by decide +kernel
theorem dX7_keep_44 : decode cX7_keep 44 = .ok (.aload_n 0, 1) := by decide +kernel
theorem dX7_keep_45 : decode cX7_keep 45 = .ok (.getfield 22, 3) := by decide +kernel
theorem dX7_keep_48 : decode cX7_keep 48 = .ok (.iload_n 1, 1) := by decide +kernel
theorem dX7_keep_49 : decode cX7_keep 49 = .ok (.iconst 1, 1) := by decide +kernel
theorem dX7_keep_50 : decode cX7_keep 50 = .ok (.bastore, 1) := by decide +kernel
theorem dX7_keep_51 : decode cX7_keep 51 = .ok (.aload_n 0, 1) := by decide +kernel
theorem dX7_keep_52 : decode cX7_keep 52 = .ok (.getfield 7, 3) := by decide +kernel
theorem dX7_keep_55 : decode cX7_keep 55 = .ok (.iconst 5, 1) := by decide +kernel
theorem dX7_keep_56 : decode cX7_keep 56 = .ok (.iaload, 1) := by decide +kernel
theorem dX7_keep_57 : decode cX7_keep 57 = .ok (.ireturn, 1) := by decide +kernel
theorem dX7_back_0 : decode cX7_back 0 = .ok (.iload_n 1, 1) := by decide +kernel
theorem dX7_back_1 : decode cX7_back 1 = .ok (.iconst 0, 1) := by decide +kernel
theorem dX7_back_2 : decode cX7_back 2 = .ok (.iconst 1, 1) := by decide +kernel
theorem dX7_back_3 : decode cX7_back 3 = .ok (.invokestatic 96, 3) := by decide +kernel
theorem dX7_back_6 : decode cX7_back 6 = .ok (.ifCond .ne 5, 3) := by decide +kernel
theorem dX7_back_9 : decode cX7_back 9 = .ok (.iconst (-1), 1) := by decide +kernel
theorem dX7_back_10 : decode cX7_back 10 = .ok (.ireturn, 1) := by decide +kernel
theorem dX7_back_11 : decode cX7_back 11 = .ok (.aload_n 0, 1) := by decide +kernel
theorem dX7_back_12 : decode cX7_back 12 = .ok (.getfield 22, 3) := by decide +kernel
theorem dX7_back_15 : decode cX7_back 15 = .ok (.iload_n 1, 1) := by decide +kernel
theorem dX7_back_16 : decode cX7_back 16 = .ok (.baload, 1) := by decide +kernel
theorem dX7_back_17 : decode cX7_back 17 = .ok (.ifCond .ne 6, 3) := by decide +kernel
theorem dX7_back_20 : decode cX7_back 20 = .ok (.bipush (-2), 2) := by decide +kernel
theorem dX7_back_22 : decode cX7_back 22 = .ok (.ireturn, 1) := by decide +kernel
theorem dX7_back_23 : decode cX7_back 23 = .ok (.iconst 0, 1) := by decide +kernel
theorem dX7_back_24 : decode cX7_back 24 = .ok (.istore_n 2, 1) := by decide +kernel
theorem dX7_back_25 : decode cX7_back 25 = .ok (.iload_n 2, 1) := by decide +kernel
theorem dX7_back_26 : decode cX7_back 26 = .ok (.sipush 349, 3) := by decide +kernel
theorem dX7_back_29 : decode cX7_back 29 = .ok (.if_icmp .ge 27, 3) := by decide +kernel
theorem dX7_back_32 : decode cX7_back 32 = .ok (.aload_n 0, 1) := by decide +kernel
theorem dX7_back_33 : decode cX7_back 33 = .ok (.getfield 7, 3) := by decide +kernel
theorem dX7_back_36 : decode cX7_back 36 = .ok (.iload_n 2, 1) := by decide +kernel
theorem dX7_back_37 : decode cX7_back 37 = .ok (.aload_n 0, 1) := by decide +kernel
theorem dX7_back_38 : decode cX7_back 38 = .ok (.getfield 19, 3) := by decide +kernel
theorem dX7_back_41 : decode cX7_back 41 = .ok (.sipush 349, 3) := by decide +kernel
theorem dX7_back_44 : decode cX7_back 44 = .ok (.iload_n 1, 1) := by decide +kernel
theorem dX7_back_45 : decode cX7_back 45 = .ok (.imul, 1) := by decide +kernel
theorem dX7_back_46 : decode cX7_back 46 = .ok (.iload_n 2, 1) := by decide +kernel
theorem dX7_back_47 : decode cX7_back 47 = .ok (.iadd, 1) := by decide +kernel
theorem dX7_back_48 : decode cX7_back 48 = .ok (.iaload, 1) := by decide +kernel
theorem dX7_back_49 : decode cX7_back 49 = .ok (.iastore, 1) := by decide +kernel
theorem dX7_back_50 : decode cX7_back 50 = .ok (.iinc 2 1, 3) := by decide +kernel
theorem dX7_back_53 : decode cX7_back 53 = .ok (.goto (-28), 3) := by decide +kernel
theorem dX7_back_56 : decode cX7_back 56 = .ok (.aload_n 0, 1) := by decide +kernel
theorem dX7_back_57 : decode cX7_back 57 = .ok (.iconst 0, 1) := by decide +kernel
theorem dX7_back_58 : decode cX7_back 58 = .ok (.putfield 81, 3) := by decide +kernel
theorem dX7_back_61 : decode cX7_back 61 = .ok (.aload_n 0, 1) := by decide +kernel
theorem dX7_back_62 : decode cX7_back 62 = .ok (.getfield 7, 3) := by decide +kernel
theorem dX7_back_65 : decode cX7_back 65 = .ok (.iconst 5, 1) := by decide +kernel
theorem dX7_back_66 : decode cX7_back 66 = .ok (.iaload, 1) := by decide +kernel
theorem dX7_back_67 : decode cX7_back 67 = .ok (.ireturn, 1) := by decide +kernel
theorem dX7_underWay_0 : decode cX7_underWay 0 = .ok (.iconst 0, 1) := by decide +kernel
theorem dX7_underWay_1 : decode cX7_underWay 1 = .ok (.istore_n 1, 1) := by decide +kernel
theorem dX7_underWay_2 : decode cX7_underWay 2 = .ok (.iconst 0, 1) := by decide +kernel
theorem dX7_underWay_3 : decode cX7_underWay 3 = .ok (.istore_n 2, 1) := by decide +kernel
theorem dX7_underWay_4 : decode cX7_underWay 4 = .ok (.iload_n 2, 1) := by decide +kernel
theorem dX7_underWay_5 : decode cX7_underWay 5 = .ok (.bipush 32, 2) := by decide +kernel
theorem dX7_underWay_7 : decode cX7_underWay 7 = .ok (.if_icmp .ge 21, 3) := by decide +kernel
theorem dX7_underWay_10 : decode cX7_underWay 10 = .ok (.iload_n 1, 1) := by decide +kernel
theorem dX7_underWay_11 : decode cX7_underWay 11 = .ok (.aload_n 0, 1) := by decide +kernel
theorem dX7_underWay_12 : decode cX7_underWay 12 = .ok (.getfield 7, 3) := by decide +kernel
theorem dX7_underWay_15 : decode cX7_underWay 15 = .ok (.iload_n 2, 1) := by decide +kernel
theorem dX7_underWay_16 : decode cX7_underWay 16 = .ok (.invokestatic 134, 3) := by decide +kernel
theorem dX7_underWay_19 : decode cX7_underWay 19 = .ok (.iaload, 1) := by decide +kernel
theorem dX7_underWay_20 : decode cX7_underWay 20 = .ok (.iadd, 1) := by decide +kernel
theorem dX7_underWay_21 : decode cX7_underWay 21 = .ok (.istore_n 1, 1) := by decide +kernel
theorem dX7_underWay_22 : decode cX7_underWay 22 = .ok (.iinc 2 1, 3) := by decide +kernel
theorem dX7_underWay_25 : decode cX7_underWay 25 = .ok (.goto (-21), 3) := by decide +kernel
theorem dX7_underWay_28 : decode cX7_underWay 28 = .ok (.iload_n 1, 1) := by decide +kernel
theorem dX7_underWay_29 : decode cX7_underWay 29 = .ok (.ireturn, 1) := by decide +kernel
theorem dX7_count_0 : decode cX7_count 0 = .ok (.iload_n 1, 1) := by decide +kernel
theorem dX7_count_1 : decode cX7_count 1 = .ok (.tableswitch 221 0 19 #[95, 100, 105, 112, 120, 128, 136, 141, 162, 167, 174, 181, 188, 196, 196, 196, 196, 206, 211, 216], 95) := by decide +kernel
theorem dX7_count_96 : decode cX7_count 96 = .ok (.aload_n 0, 1) := by decide +kernel
theorem dX7_count_97 : decode cX7_count 97 = .ok (.getfield 75, 3) := by decide +kernel
theorem dX7_count_100 : decode cX7_count 100 = .ok (.ireturn, 1) := by decide +kernel
theorem dX7_count_101 : decode cX7_count 101 = .ok (.aload_n 0, 1) := by decide +kernel
theorem dX7_count_102 : decode cX7_count 102 = .ok (.getfield 78, 3) := by decide +kernel
theorem dX7_count_105 : decode cX7_count 105 = .ok (.ireturn, 1) := by decide +kernel
theorem dX7_count_106 : decode cX7_count 106 = .ok (.aload_n 0, 1) := by decide +kernel
theorem dX7_count_107 : decode cX7_count 107 = .ok (.getfield 7, 3) := by decide +kernel
theorem dX7_count_110 : decode cX7_count 110 = .ok (.iconst 5, 1) := by decide +kernel
theorem dX7_count_111 : decode cX7_count 111 = .ok (.iaload, 1) := by decide +kernel
theorem dX7_count_112 : decode cX7_count 112 = .ok (.ireturn, 1) := by decide +kernel
theorem dX7_count_113 : decode cX7_count 113 = .ok (.aload_n 0, 1) := by decide +kernel
theorem dX7_count_114 : decode cX7_count 114 = .ok (.getfield 7, 3) := by decide +kernel
theorem dX7_count_117 : decode cX7_count 117 = .ok (.bipush 6, 2) := by decide +kernel
theorem dX7_count_119 : decode cX7_count 119 = .ok (.iaload, 1) := by decide +kernel
theorem dX7_count_120 : decode cX7_count 120 = .ok (.ireturn, 1) := by decide +kernel
theorem dX7_count_121 : decode cX7_count 121 = .ok (.aload_n 0, 1) := by decide +kernel
theorem dX7_count_122 : decode cX7_count 122 = .ok (.getfield 7, 3) := by decide +kernel
theorem dX7_count_125 : decode cX7_count 125 = .ok (.bipush 7, 2) := by decide +kernel
theorem dX7_count_127 : decode cX7_count 127 = .ok (.iaload, 1) := by decide +kernel
theorem dX7_count_128 : decode cX7_count 128 = .ok (.ireturn, 1) := by decide +kernel
theorem dX7_count_129 : decode cX7_count 129 = .ok (.aload_n 0, 1) := by decide +kernel
theorem dX7_count_130 : decode cX7_count 130 = .ok (.getfield 7, 3) := by decide +kernel
theorem dX7_count_133 : decode cX7_count 133 = .ok (.bipush 8, 2) := by decide +kernel
theorem dX7_count_135 : decode cX7_count 135 = .ok (.iaload, 1) := by decide +kernel
theorem dX7_count_136 : decode cX7_count 136 = .ok (.ireturn, 1) := by decide +kernel
theorem dX7_count_137 : decode cX7_count 137 = .ok (.aload_n 0, 1) := by decide +kernel
theorem dX7_count_138 : decode cX7_count 138 = .ok (.invokevirtual 216, 3) := by decide +kernel
theorem dX7_count_141 : decode cX7_count 141 = .ok (.ireturn, 1) := by decide +kernel
theorem dX7_count_142 : decode cX7_count 142 = .ok (.aload_n 0, 1) := by decide +kernel
theorem dX7_count_143 : decode cX7_count 143 = .ok (.getfield 7, 3) := by decide +kernel
theorem dX7_count_146 : decode cX7_count 146 = .ok (.iconst 1, 1) := by decide +kernel
theorem dX7_count_147 : decode cX7_count 147 = .ok (.iaload, 1) := by decide +kernel
theorem dX7_count_148 : decode cX7_count 148 = .ok (.ifCond .ge 8, 3) := by decide +kernel
theorem dX7_count_151 : decode cX7_count 151 = .ok (.bipush (-9), 2) := by decide +kernel
theorem dX7_count_153 : decode cX7_count 153 = .ok (.goto 9, 3) := by decide +kernel
theorem dX7_count_156 : decode cX7_count 156 = .ok (.aload_n 0, 1) := by decide +kernel
theorem dX7_count_157 : decode cX7_count 157 = .ok (.getfield 7, 3) := by decide +kernel
theorem dX7_count_160 : decode cX7_count 160 = .ok (.iconst 1, 1) := by decide +kernel
theorem dX7_count_161 : decode cX7_count 161 = .ok (.iaload, 1) := by decide +kernel
theorem dX7_count_162 : decode cX7_count 162 = .ok (.ireturn, 1) := by decide +kernel
theorem dX7_count_163 : decode cX7_count 163 = .ok (.aload_n 0, 1) := by decide +kernel
theorem dX7_count_164 : decode cX7_count 164 = .ok (.invokevirtual 158, 3) := by decide +kernel
theorem dX7_count_167 : decode cX7_count 167 = .ok (.ireturn, 1) := by decide +kernel
theorem dX7_count_168 : decode cX7_count 168 = .ok (.aload_n 0, 1) := by decide +kernel
theorem dX7_count_169 : decode cX7_count 169 = .ok (.getfield 7, 3) := by decide +kernel
theorem dX7_count_172 : decode cX7_count 172 = .ok (.iconst 3, 1) := by decide +kernel
theorem dX7_count_173 : decode cX7_count 173 = .ok (.iaload, 1) := by decide +kernel
theorem dX7_count_174 : decode cX7_count 174 = .ok (.ireturn, 1) := by decide +kernel
theorem dX7_count_175 : decode cX7_count 175 = .ok (.aload_n 0, 1) := by decide +kernel
theorem dX7_count_176 : decode cX7_count 176 = .ok (.getfield 7, 3) := by decide +kernel
theorem dX7_count_179 : decode cX7_count 179 = .ok (.iconst 0, 1) := by decide +kernel
theorem dX7_count_180 : decode cX7_count 180 = .ok (.iaload, 1) := by decide +kernel
theorem dX7_count_181 : decode cX7_count 181 = .ok (.ireturn, 1) := by decide +kernel
theorem dX7_count_182 : decode cX7_count 182 = .ok (.aload_n 0, 1) := by decide +kernel
theorem dX7_count_183 : decode cX7_count 183 = .ok (.getfield 7, 3) := by decide +kernel
theorem dX7_count_186 : decode cX7_count 186 = .ok (.iconst 4, 1) := by decide +kernel
theorem dX7_count_187 : decode cX7_count 187 = .ok (.iaload, 1) := by decide +kernel
theorem dX7_count_188 : decode cX7_count 188 = .ok (.ireturn, 1) := by decide +kernel
theorem dX7_count_189 : decode cX7_count 189 = .ok (.aload_n 0, 1) := by decide +kernel
theorem dX7_count_190 : decode cX7_count 190 = .ok (.getfield 7, 3) := by decide +kernel
theorem dX7_count_193 : decode cX7_count 193 = .ok (.bipush 9, 2) := by decide +kernel
theorem dX7_count_195 : decode cX7_count 195 = .ok (.iaload, 1) := by decide +kernel
theorem dX7_count_196 : decode cX7_count 196 = .ok (.ireturn, 1) := by decide +kernel
theorem dX7_count_197 : decode cX7_count 197 = .ok (.aload_n 0, 1) := by decide +kernel
theorem dX7_count_198 : decode cX7_count 198 = .ok (.getfield 44, 3) := by decide +kernel
theorem dX7_count_201 : decode cX7_count 201 = .ok (.iload_n 1, 1) := by decide +kernel
theorem dX7_count_202 : decode cX7_count 202 = .ok (.bipush 13, 2) := by decide +kernel
theorem dX7_count_204 : decode cX7_count 204 = .ok (.isub, 1) := by decide +kernel
theorem dX7_count_205 : decode cX7_count 205 = .ok (.iaload, 1) := by decide +kernel
theorem dX7_count_206 : decode cX7_count 206 = .ok (.ireturn, 1) := by decide +kernel
theorem dX7_count_207 : decode cX7_count 207 = .ok (.aload_n 0, 1) := by decide +kernel
theorem dX7_count_208 : decode cX7_count 208 = .ok (.getfield 84, 3) := by decide +kernel
theorem dX7_count_211 : decode cX7_count 211 = .ok (.ireturn, 1) := by decide +kernel
theorem dX7_count_212 : decode cX7_count 212 = .ok (.aload_n 0, 1) := by decide +kernel
theorem dX7_count_213 : decode cX7_count 213 = .ok (.getfield 90, 3) := by decide +kernel
theorem dX7_count_216 : decode cX7_count 216 = .ok (.ireturn, 1) := by decide +kernel
theorem dX7_count_217 : decode cX7_count 217 = .ok (.aload_n 0, 1) := by decide +kernel
theorem dX7_count_218 : decode cX7_count 218 = .ok (.getfield 81, 3) := by decide +kernel
theorem dX7_count_221 : decode cX7_count 221 = .ok (.ireturn, 1) := by decide +kernel
theorem dX7_count_222 : decode cX7_count 222 = .ok (.iconst (-1), 1) := by decide +kernel
theorem dX7_count_223 : decode cX7_count 223 = .ok (.ireturn, 1) := by decide +kernel
end
section
theorem dJ6_bitCount_0f7a4_0 : decode cJ6_bitCount_0f7a4 0 = .ok (.iload_n 0, 1) := by decide +kernel
theorem dJ6_bitCount_0f7a4_1 : decode cJ6_bitCount_0f7a4 1 = .ok (.iload_n 0, 1) := by decide +kernel
theorem dJ6_bitCount_0f7a4_2 : decode cJ6_bitCount_0f7a4 2 = .ok (.iconst 1, 1) := by decide +kernel
theorem dJ6_bitCount_0f7a4_3 : decode cJ6_bitCount_0f7a4 3 = .ok (.iushr, 1) := by decide +kernel
theorem dJ6_bitCount_0f7a4_4 : decode cJ6_bitCount_0f7a4 4 = .ok (.ldc_w 265, 3) := by decide +kernel
theorem dJ6_bitCount_0f7a4_7 : decode cJ6_bitCount_0f7a4 7 = .ok (.iand, 1) := by decide +kernel
theorem dJ6_bitCount_0f7a4_8 : decode cJ6_bitCount_0f7a4 8 = .ok (.isub, 1) := by decide +kernel
theorem dJ6_bitCount_0f7a4_9 : decode cJ6_bitCount_0f7a4 9 = .ok (.istore_n 0, 1) := by decide +kernel
theorem dJ6_bitCount_0f7a4_10 : decode cJ6_bitCount_0f7a4 10 = .ok (.iload_n 0, 1) := by decide +kernel
theorem dJ6_bitCount_0f7a4_11 : decode cJ6_bitCount_0f7a4 11 = .ok (.ldc_w 266, 3) := by decide +kernel
theorem dJ6_bitCount_0f7a4_14 : decode cJ6_bitCount_0f7a4 14 = .ok (.iand, 1) := by decide +kernel
theorem dJ6_bitCount_0f7a4_15 : decode cJ6_bitCount_0f7a4 15 = .ok (.iload_n 0, 1) := by decide +kernel
theorem dJ6_bitCount_0f7a4_16 : decode cJ6_bitCount_0f7a4 16 = .ok (.iconst 2, 1) := by decide +kernel
theorem dJ6_bitCount_0f7a4_17 : decode cJ6_bitCount_0f7a4 17 = .ok (.iushr, 1) := by decide +kernel
theorem dJ6_bitCount_0f7a4_18 : decode cJ6_bitCount_0f7a4 18 = .ok (.ldc_w 266, 3) := by decide +kernel
theorem dJ6_bitCount_0f7a4_21 : decode cJ6_bitCount_0f7a4 21 = .ok (.iand, 1) := by decide +kernel
theorem dJ6_bitCount_0f7a4_22 : decode cJ6_bitCount_0f7a4 22 = .ok (.iadd, 1) := by decide +kernel
theorem dJ6_bitCount_0f7a4_23 : decode cJ6_bitCount_0f7a4 23 = .ok (.istore_n 0, 1) := by decide +kernel
theorem dJ6_bitCount_0f7a4_24 : decode cJ6_bitCount_0f7a4 24 = .ok (.iload_n 0, 1) := by decide +kernel
theorem dJ6_bitCount_0f7a4_25 : decode cJ6_bitCount_0f7a4 25 = .ok (.iload_n 0, 1) := by decide +kernel
theorem dJ6_bitCount_0f7a4_26 : decode cJ6_bitCount_0f7a4 26 = .ok (.iconst 4, 1) := by decide +kernel
theorem dJ6_bitCount_0f7a4_27 : decode cJ6_bitCount_0f7a4 27 = .ok (.iushr, 1) := by decide +kernel
theorem dJ6_bitCount_0f7a4_28 : decode cJ6_bitCount_0f7a4 28 = .ok (.iadd, 1) := by decide +kernel
theorem dJ6_bitCount_0f7a4_29 : decode cJ6_bitCount_0f7a4 29 = .ok (.ldc_w 267, 3) := by decide +kernel
theorem dJ6_bitCount_0f7a4_32 : decode cJ6_bitCount_0f7a4 32 = .ok (.iand, 1) := by decide +kernel
theorem dJ6_bitCount_0f7a4_33 : decode cJ6_bitCount_0f7a4 33 = .ok (.istore_n 0, 1) := by decide +kernel
theorem dJ6_bitCount_0f7a4_34 : decode cJ6_bitCount_0f7a4 34 = .ok (.iload_n 0, 1) := by decide +kernel
theorem dJ6_bitCount_0f7a4_35 : decode cJ6_bitCount_0f7a4 35 = .ok (.iload_n 0, 1) := by decide +kernel
theorem dJ6_bitCount_0f7a4_36 : decode cJ6_bitCount_0f7a4 36 = .ok (.bipush 8, 2) := by decide +kernel
theorem dJ6_bitCount_0f7a4_38 : decode cJ6_bitCount_0f7a4 38 = .ok (.iushr, 1) := by decide +kernel
theorem dJ6_bitCount_0f7a4_39 : decode cJ6_bitCount_0f7a4 39 = .ok (.iadd, 1) := by decide +kernel
theorem dJ6_bitCount_0f7a4_40 : decode cJ6_bitCount_0f7a4 40 = .ok (.istore_n 0, 1) := by decide +kernel
theorem dJ6_bitCount_0f7a4_41 : decode cJ6_bitCount_0f7a4 41 = .ok (.iload_n 0, 1) := by decide +kernel
theorem dJ6_bitCount_0f7a4_42 : decode cJ6_bitCount_0f7a4 42 = .ok (.iload_n 0, 1) := by decide +kernel
theorem dJ6_bitCount_0f7a4_43 : decode cJ6_bitCount_0f7a4 43 = .ok (.bipush 16, 2) := by decide +kernel
theorem dJ6_bitCount_0f7a4_45 : decode cJ6_bitCount_0f7a4 45 = .ok (.iushr, 1) := by decide +kernel
theorem dJ6_bitCount_0f7a4_46 : decode cJ6_bitCount_0f7a4 46 = .ok (.iadd, 1) := by decide +kernel
theorem dJ6_bitCount_0f7a4_47 : decode cJ6_bitCount_0f7a4 47 = .ok (.istore_n 0, 1) := by decide +kernel
theorem dJ6_bitCount_0f7a4_48 : decode cJ6_bitCount_0f7a4 48 = .ok (.iload_n 0, 1) := by decide +kernel
theorem dJ6_bitCount_0f7a4_49 : decode cJ6_bitCount_0f7a4 49 = .ok (.bipush 63, 2) := by decide +kernel
theorem dJ6_bitCount_0f7a4_51 : decode cJ6_bitCount_0f7a4 51 = .ok (.iand, 1) := by decide +kernel
theorem dJ6_bitCount_0f7a4_52 : decode cJ6_bitCount_0f7a4 52 = .ok (.ireturn, 1) := by decide +kernel
theorem dJ9_abs_0f7a4_0 : decode cJ9_abs_0f7a4 0 = .ok (.iload_n 0, 1) := by decide +kernel
theorem dJ9_abs_0f7a4_1 : decode cJ9_abs_0f7a4 1 = .ok (.ifCond .ge 8, 3) := by decide +kernel
theorem dJ9_abs_0f7a4_4 : decode cJ9_abs_0f7a4 4 = .ok (.iload_n 0, 1) := by decide +kernel
theorem dJ9_abs_0f7a4_5 : decode cJ9_abs_0f7a4 5 = .ok (.ineg, 1) := by decide +kernel
theorem dJ9_abs_0f7a4_6 : decode cJ9_abs_0f7a4 6 = .ok (.goto 4, 3) := by decide +kernel
theorem dJ9_abs_0f7a4_9 : decode cJ9_abs_0f7a4 9 = .ok (.iload_n 0, 1) := by decide +kernel
theorem dJ9_abs_0f7a4_10 : decode cJ9_abs_0f7a4 10 = .ok (.ireturn, 1) := by decide +kernel
theorem dJ9_max_7cf53_0 : decode cJ9_max_7cf53 0 = .ok (.iload_n 0, 1) := by decide +kernel
theorem dJ9_max_7cf53_1 : decode cJ9_max_7cf53 1 = .ok (.iload_n 1, 1) := by decide +kernel
theorem dJ9_max_7cf53_2 : decode cJ9_max_7cf53 2 = .ok (.if_icmp .lt 7, 3) := by decide +kernel
theorem dJ9_max_7cf53_5 : decode cJ9_max_7cf53 5 = .ok (.iload_n 0, 1) := by decide +kernel
theorem dJ9_max_7cf53_6 : decode cJ9_max_7cf53 6 = .ok (.goto 4, 3) := by decide +kernel
theorem dJ9_max_7cf53_9 : decode cJ9_max_7cf53 9 = .ok (.iload_n 1, 1) := by decide +kernel
theorem dJ9_max_7cf53_10 : decode cJ9_max_7cf53 10 = .ok (.ireturn, 1) := by decide +kernel
theorem dJ9_min_7cf53_0 : decode cJ9_min_7cf53 0 = .ok (.iload_n 0, 1) := by decide +kernel
theorem dJ9_min_7cf53_1 : decode cJ9_min_7cf53 1 = .ok (.iload_n 1, 1) := by decide +kernel
theorem dJ9_min_7cf53_2 : decode cJ9_min_7cf53 2 = .ok (.if_icmp .gt 7, 3) := by decide +kernel
theorem dJ9_min_7cf53_5 : decode cJ9_min_7cf53 5 = .ok (.iload_n 0, 1) := by decide +kernel
theorem dJ9_min_7cf53_6 : decode cJ9_min_7cf53 6 = .ok (.goto 4, 3) := by decide +kernel
theorem dJ9_min_7cf53_9 : decode cJ9_min_7cf53 9 = .ok (.iload_n 1, 1) := by decide +kernel
theorem dJ9_min_7cf53_10 : decode cJ9_min_7cf53 10 = .ok (.ireturn, 1) := by decide +kernel
theorem dJ7_fill_53178_0 : decode cJ7_fill_53178 0 = .ok (.iconst 0, 1) := by decide +kernel
theorem dJ7_fill_53178_1 : decode cJ7_fill_53178 1 = .ok (.istore_n 2, 1) := by decide +kernel
theorem dJ7_fill_53178_2 : decode cJ7_fill_53178 2 = .ok (.aload_n 0, 1) := by decide +kernel
theorem dJ7_fill_53178_3 : decode cJ7_fill_53178 3 = .ok (.arraylength, 1) := by decide +kernel
theorem dJ7_fill_53178_4 : decode cJ7_fill_53178 4 = .ok (.istore_n 3, 1) := by decide +kernel
theorem dJ7_fill_53178_5 : decode cJ7_fill_53178 5 = .ok (.iload_n 2, 1) := by decide +kernel
theorem dJ7_fill_53178_6 : decode cJ7_fill_53178 6 = .ok (.iload_n 3, 1) := by decide +kernel
theorem dJ7_fill_53178_7 : decode cJ7_fill_53178 7 = .ok (.if_icmp .ge 13, 3) := by decide +kernel
theorem dJ7_fill_53178_10 : decode cJ7_fill_53178 10 = .ok (.aload_n 0, 1) := by decide +kernel
theorem dJ7_fill_53178_11 : decode cJ7_fill_53178 11 = .ok (.iload_n 2, 1) := by decide +kernel
theorem dJ7_fill_53178_12 : decode cJ7_fill_53178 12 = .ok (.iload_n 1, 1) := by decide +kernel
theorem dJ7_fill_53178_13 : decode cJ7_fill_53178 13 = .ok (.iastore, 1) := by decide +kernel
theorem dJ7_fill_53178_14 : decode cJ7_fill_53178 14 = .ok (.iinc 2 1, 3) := by decide +kernel
theorem dJ7_fill_53178_17 : decode cJ7_fill_53178 17 = .ok (.goto (-12), 3) := by decide +kernel
theorem dJ7_fill_53178_20 : decode cJ7_fill_53178 20 = .ok (.return_, 1) := by decide +kernel
theorem dL_law_0 : decode cL_law 0 = .ok (.new 7, 3) := by decide +kernel
theorem dL_law_3 : decode cL_law 3 = .ok (.dup, 1) := by decide +kernel
theorem dL_law_4 : decode cL_law 4 = .ok (.invokespecial 9, 3) := by decide +kernel
theorem dL_law_7 : decode cL_law 7 = .ok (.astore_n 1, 1) := by decide +kernel
theorem dL_law_8 : decode cL_law 8 = .ok (.new 10, 3) := by decide +kernel
theorem dL_law_11 : decode cL_law 11 = .ok (.dup, 1) := by decide +kernel
theorem dL_law_12 : decode cL_law 12 = .ok (.invokespecial 12, 3) := by decide +kernel
theorem dL_law_15 : decode cL_law 15 = .ok (.astore_n 2, 1) := by decide +kernel
theorem dL_law_16 : decode cL_law 16 = .ok (.iconst 0, 1) := by decide +kernel
theorem dL_law_17 : decode cL_law 17 = .ok (.istore_n 3, 1) := by decide +kernel
theorem dL_law_18 : decode cL_law 18 = .ok (.iload_n 3, 1) := by decide +kernel
theorem dL_law_19 : decode cL_law 19 = .ok (.aload_n 0, 1) := by decide +kernel
theorem dL_law_20 : decode cL_law 20 = .ok (.arraylength, 1) := by decide +kernel
theorem dL_law_21 : decode cL_law 21 = .ok (.iconst 3, 1) := by decide +kernel
theorem dL_law_22 : decode cL_law 22 = .ok (.isub, 1) := by decide +kernel
theorem dL_law_23 : decode cL_law 23 = .ok (.if_icmp .gt 612, 3) := by decide +kernel
theorem dL_law_26 : decode cL_law 26 = .ok (.aload_n 0, 1) := by decide +kernel
theorem dL_law_27 : decode cL_law 27 = .ok (.iload_n 3, 1) := by decide +kernel
theorem dL_law_28 : decode cL_law 28 = .ok (.iaload, 1) := by decide +kernel
theorem dL_law_29 : decode cL_law 29 = .ok (.bipush 31, 2) := by decide +kernel
theorem dL_law_31 : decode cL_law 31 = .ok (.iand, 1) := by decide +kernel
theorem dL_law_32 : decode cL_law 32 = .ok (.tableswitch 597 0 22 #[108, 131, 144, 157, 180, 213, 246, 259, 272, 295, 308, 341, 374, 397, 430, 443, 456, 489, 502, 515, 528, 551, 574], 108) := by decide +kernel
theorem dL_law_140 : decode cL_law 140 = .ok (.aload_n 1, 1) := by decide +kernel
theorem dL_law_141 : decode cL_law 141 = .ok (.aload_n 0, 1) := by decide +kernel
theorem dL_law_142 : decode cL_law 142 = .ok (.iload_n 3, 1) := by decide +kernel
theorem dL_law_143 : decode cL_law 143 = .ok (.iconst 1, 1) := by decide +kernel
theorem dL_law_144 : decode cL_law 144 = .ok (.iadd, 1) := by decide +kernel
theorem dL_law_145 : decode cL_law 145 = .ok (.iaload, 1) := by decide +kernel
theorem dL_law_146 : decode cL_law 146 = .ok (.invokevirtual 13, 3) := by decide +kernel
theorem dL_law_149 : decode cL_law 149 = .ok (.aload_n 2, 1) := by decide +kernel
theorem dL_law_150 : decode cL_law 150 = .ok (.aload_n 0, 1) := by decide +kernel
theorem dL_law_151 : decode cL_law 151 = .ok (.iload_n 3, 1) := by decide +kernel
theorem dL_law_152 : decode cL_law 152 = .ok (.iconst 1, 1) := by decide +kernel
theorem dL_law_153 : decode cL_law 153 = .ok (.iadd, 1) := by decide +kernel
theorem dL_law_154 : decode cL_law 154 = .ok (.iaload, 1) := by decide +kernel
theorem dL_law_155 : decode cL_law 155 = .ok (.invokevirtual 17, 3) := by decide +kernel
theorem dL_law_158 : decode cL_law 158 = .ok (.if_icmp .eq 471, 3) := by decide +kernel
theorem dL_law_161 : decode cL_law 161 = .ok (.iconst 0, 1) := by decide +kernel
theorem dL_law_162 : decode cL_law 162 = .ok (.ireturn, 1) := by decide +kernel
theorem dL_law_163 : decode cL_law 163 = .ok (.aload_n 1, 1) := by decide +kernel
theorem dL_law_164 : decode cL_law 164 = .ok (.invokevirtual 18, 3) := by decide +kernel
theorem dL_law_167 : decode cL_law 167 = .ok (.aload_n 2, 1) := by decide +kernel
theorem dL_law_168 : decode cL_law 168 = .ok (.invokevirtual 22, 3) := by decide +kernel
theorem dL_law_171 : decode cL_law 171 = .ok (.if_icmp .eq 458, 3) := by decide +kernel
theorem dL_law_174 : decode cL_law 174 = .ok (.iconst 0, 1) := by decide +kernel
theorem dL_law_175 : decode cL_law 175 = .ok (.ireturn, 1) := by decide +kernel
theorem dL_law_176 : decode cL_law 176 = .ok (.aload_n 1, 1) := by decide +kernel
theorem dL_law_177 : decode cL_law 177 = .ok (.invokevirtual 23, 3) := by decide +kernel
theorem dL_law_180 : decode cL_law 180 = .ok (.aload_n 2, 1) := by decide +kernel
theorem dL_law_181 : decode cL_law 181 = .ok (.invokevirtual 26, 3) := by decide +kernel
theorem dL_law_184 : decode cL_law 184 = .ok (.if_icmp .eq 445, 3) := by decide +kernel
theorem dL_law_187 : decode cL_law 187 = .ok (.iconst 0, 1) := by decide +kernel
theorem dL_law_188 : decode cL_law 188 = .ok (.ireturn, 1) := by decide +kernel
theorem dL_law_189 : decode cL_law 189 = .ok (.aload_n 1, 1) := by decide +kernel
theorem dL_law_190 : decode cL_law 190 = .ok (.aload_n 0, 1) := by decide +kernel
theorem dL_law_191 : decode cL_law 191 = .ok (.iload_n 3, 1) := by decide +kernel
theorem dL_law_192 : decode cL_law 192 = .ok (.iconst 1, 1) := by decide +kernel
theorem dL_law_193 : decode cL_law 193 = .ok (.iadd, 1) := by decide +kernel
theorem dL_law_194 : decode cL_law 194 = .ok (.iaload, 1) := by decide +kernel
theorem dL_law_195 : decode cL_law 195 = .ok (.invokevirtual 27, 3) := by decide +kernel
theorem dL_law_198 : decode cL_law 198 = .ok (.aload_n 2, 1) := by decide +kernel
theorem dL_law_199 : decode cL_law 199 = .ok (.aload_n 0, 1) := by decide +kernel
theorem dL_law_200 : decode cL_law 200 = .ok (.iload_n 3, 1) := by decide +kernel
theorem dL_law_201 : decode cL_law 201 = .ok (.iconst 1, 1) := by decide +kernel
theorem dL_law_202 : decode cL_law 202 = .ok (.iadd, 1) := by decide +kernel
theorem dL_law_203 : decode cL_law 203 = .ok (.iaload, 1) := by decide +kernel
theorem dL_law_204 : decode cL_law 204 = .ok (.invokevirtual 30, 3) := by decide +kernel
theorem dL_law_207 : decode cL_law 207 = .ok (.if_icmp .eq 422, 3) := by decide +kernel
theorem dL_law_210 : decode cL_law 210 = .ok (.iconst 0, 1) := by decide +kernel
theorem dL_law_211 : decode cL_law 211 = .ok (.ireturn, 1) := by decide +kernel
theorem dL_law_212 : decode cL_law 212 = .ok (.aload_n 1, 1) := by decide +kernel
theorem dL_law_213 : decode cL_law 213 = .ok (.aload_n 0, 1) := by decide +kernel
theorem dL_law_214 : decode cL_law 214 = .ok (.iload_n 3, 1) := by decide +kernel
theorem dL_law_215 : decode cL_law 215 = .ok (.iconst 1, 1) := by decide +kernel
theorem dL_law_216 : decode cL_law 216 = .ok (.iadd, 1) := by decide +kernel
theorem dL_law_217 : decode cL_law 217 = .ok (.iaload, 1) := by decide +kernel
theorem dL_law_218 : decode cL_law 218 = .ok (.aload_n 0, 1) := by decide +kernel
theorem dL_law_219 : decode cL_law 219 = .ok (.iload_n 3, 1) := by decide +kernel
theorem dL_law_220 : decode cL_law 220 = .ok (.iconst 2, 1) := by decide +kernel
theorem dL_law_221 : decode cL_law 221 = .ok (.iadd, 1) := by decide +kernel
theorem dL_law_222 : decode cL_law 222 = .ok (.iaload, 1) := by decide +kernel
theorem dL_law_223 : decode cL_law 223 = .ok (.invokevirtual 31, 3) := by decide +kernel
theorem dL_law_226 : decode cL_law 226 = .ok (.aload_n 2, 1) := by decide +kernel
theorem dL_law_227 : decode cL_law 227 = .ok (.aload_n 0, 1) := by decide +kernel
theorem dL_law_228 : decode cL_law 228 = .ok (.iload_n 3, 1) := by decide +kernel
theorem dL_law_229 : decode cL_law 229 = .ok (.iconst 1, 1) := by decide +kernel
theorem dL_law_230 : decode cL_law 230 = .ok (.iadd, 1) := by decide +kernel
theorem dL_law_231 : decode cL_law 231 = .ok (.iaload, 1) := by decide +kernel
theorem dL_law_232 : decode cL_law 232 = .ok (.aload_n 0, 1) := by decide +kernel
theorem dL_law_233 : decode cL_law 233 = .ok (.iload_n 3, 1) := by decide +kernel
theorem dL_law_234 : decode cL_law 234 = .ok (.iconst 2, 1) := by decide +kernel
theorem dL_law_235 : decode cL_law 235 = .ok (.iadd, 1) := by decide +kernel
theorem dL_law_236 : decode cL_law 236 = .ok (.iaload, 1) := by decide +kernel
theorem dL_law_237 : decode cL_law 237 = .ok (.invokevirtual 35, 3) := by decide +kernel
theorem dL_law_240 : decode cL_law 240 = .ok (.if_icmp .eq 389, 3) := by decide +kernel
theorem dL_law_243 : decode cL_law 243 = .ok (.iconst 0, 1) := by decide +kernel
theorem dL_law_244 : decode cL_law 244 = .ok (.ireturn, 1) := by decide +kernel
theorem dL_law_245 : decode cL_law 245 = .ok (.aload_n 1, 1) := by decide +kernel
theorem dL_law_246 : decode cL_law 246 = .ok (.aload_n 0, 1) := by decide +kernel
theorem dL_law_247 : decode cL_law 247 = .ok (.iload_n 3, 1) := by decide +kernel
theorem dL_law_248 : decode cL_law 248 = .ok (.iconst 1, 1) := by decide +kernel
theorem dL_law_249 : decode cL_law 249 = .ok (.iadd, 1) := by decide +kernel
theorem dL_law_250 : decode cL_law 250 = .ok (.iaload, 1) := by decide +kernel
theorem dL_law_251 : decode cL_law 251 = .ok (.aload_n 0, 1) := by decide +kernel
theorem dL_law_252 : decode cL_law 252 = .ok (.iload_n 3, 1) := by decide +kernel
theorem dL_law_253 : decode cL_law 253 = .ok (.iconst 2, 1) := by decide +kernel
theorem dL_law_254 : decode cL_law 254 = .ok (.iadd, 1) := by decide +kernel
theorem dL_law_255 : decode cL_law 255 = .ok (.iaload, 1) := by decide +kernel
theorem dL_law_256 : decode cL_law 256 = .ok (.invokevirtual 36, 3) := by decide +kernel
theorem dL_law_259 : decode cL_law 259 = .ok (.aload_n 2, 1) := by decide +kernel
theorem dL_law_260 : decode cL_law 260 = .ok (.aload_n 0, 1) := by decide +kernel
theorem dL_law_261 : decode cL_law 261 = .ok (.iload_n 3, 1) := by decide +kernel
theorem dL_law_262 : decode cL_law 262 = .ok (.iconst 1, 1) := by decide +kernel
theorem dL_law_263 : decode cL_law 263 = .ok (.iadd, 1) := by decide +kernel
theorem dL_law_264 : decode cL_law 264 = .ok (.iaload, 1) := by decide +kernel
theorem dL_law_265 : decode cL_law 265 = .ok (.aload_n 0, 1) := by decide +kernel
theorem dL_law_266 : decode cL_law 266 = .ok (.iload_n 3, 1) := by decide +kernel
theorem dL_law_267 : decode cL_law 267 = .ok (.iconst 2, 1) := by decide +kernel
theorem dL_law_268 : decode cL_law 268 = .ok (.iadd, 1) := by decide +kernel
theorem dL_law_269 : decode cL_law 269 = .ok (.iaload, 1) := by decide +kernel
theorem dL_law_270 : decode cL_law 270 = .ok (.invokevirtual 39, 3) := by decide +kernel
theorem dL_law_273 : decode cL_law 273 = .ok (.if_icmp .eq 356, 3) := by decide +kernel
theorem dL_law_276 : decode cL_law 276 = .ok (.iconst 0, 1) := by decide +kernel
theorem dL_law_277 : decode cL_law 277 = .ok (.ireturn, 1) := by decide +kernel
theorem dL_law_278 : decode cL_law 278 = .ok (.aload_n 1, 1) := by decide +kernel
theorem dL_law_279 : decode cL_law 279 = .ok (.invokevirtual 40, 3) := by decide +kernel
theorem dL_law_282 : decode cL_law 282 = .ok (.aload_n 2, 1) := by decide +kernel
theorem dL_law_283 : decode cL_law 283 = .ok (.invokevirtual 43, 3) := by decide +kernel
theorem dL_law_286 : decode cL_law 286 = .ok (.if_icmp .eq 343, 3) := by decide +kernel
theorem dL_law_289 : decode cL_law 289 = .ok (.iconst 0, 1) := by decide +kernel
theorem dL_law_290 : decode cL_law 290 = .ok (.ireturn, 1) := by decide +kernel
theorem dL_law_291 : decode cL_law 291 = .ok (.aload_n 1, 1) := by decide +kernel
theorem dL_law_292 : decode cL_law 292 = .ok (.invokevirtual 44, 3) := by decide +kernel
theorem dL_law_295 : decode cL_law 295 = .ok (.aload_n 2, 1) := by decide +kernel
theorem dL_law_296 : decode cL_law 296 = .ok (.invokevirtual 47, 3) := by decide +kernel
theorem dL_law_299 : decode cL_law 299 = .ok (.if_icmp .eq 330, 3) := by decide +kernel
theorem dL_law_302 : decode cL_law 302 = .ok (.iconst 0, 1) := by decide +kernel
theorem dL_law_303 : decode cL_law 303 = .ok (.ireturn, 1) := by decide +kernel
theorem dL_law_304 : decode cL_law 304 = .ok (.aload_n 1, 1) := by decide +kernel
theorem dL_law_305 : decode cL_law 305 = .ok (.aload_n 0, 1) := by decide +kernel
theorem dL_law_306 : decode cL_law 306 = .ok (.iload_n 3, 1) := by decide +kernel
theorem dL_law_307 : decode cL_law 307 = .ok (.iconst 1, 1) := by decide +kernel
theorem dL_law_308 : decode cL_law 308 = .ok (.iadd, 1) := by decide +kernel
theorem dL_law_309 : decode cL_law 309 = .ok (.iaload, 1) := by decide +kernel
theorem dL_law_310 : decode cL_law 310 = .ok (.invokevirtual 48, 3) := by decide +kernel
theorem dL_law_313 : decode cL_law 313 = .ok (.aload_n 2, 1) := by decide +kernel
theorem dL_law_314 : decode cL_law 314 = .ok (.aload_n 0, 1) := by decide +kernel
theorem dL_law_315 : decode cL_law 315 = .ok (.iload_n 3, 1) := by decide +kernel
theorem dL_law_316 : decode cL_law 316 = .ok (.iconst 1, 1) := by decide +kernel
theorem dL_law_317 : decode cL_law 317 = .ok (.iadd, 1) := by decide +kernel
theorem dL_law_318 : decode cL_law 318 = .ok (.iaload, 1) := by decide +kernel
theorem dL_law_319 : decode cL_law 319 = .ok (.invokevirtual 51, 3) := by decide +kernel
theorem dL_law_322 : decode cL_law 322 = .ok (.if_icmp .eq 307, 3) := by decide +kernel
theorem dL_law_325 : decode cL_law 325 = .ok (.iconst 0, 1) := by decide +kernel
theorem dL_law_326 : decode cL_law 326 = .ok (.ireturn, 1) := by decide +kernel
theorem dL_law_327 : decode cL_law 327 = .ok (.aload_n 1, 1) := by decide +kernel
theorem dL_law_328 : decode cL_law 328 = .ok (.invokevirtual 52, 3) := by decide +kernel
theorem dL_law_331 : decode cL_law 331 = .ok (.aload_n 2, 1) := by decide +kernel
theorem dL_law_332 : decode cL_law 332 = .ok (.invokevirtual 55, 3) := by decide +kernel
theorem dL_law_335 : decode cL_law 335 = .ok (.if_icmp .eq 294, 3) := by decide +kernel
theorem dL_law_338 : decode cL_law 338 = .ok (.iconst 0, 1) := by decide +kernel
theorem dL_law_339 : decode cL_law 339 = .ok (.ireturn, 1) := by decide +kernel
theorem dL_law_340 : decode cL_law 340 = .ok (.aload_n 1, 1) := by decide +kernel
theorem dL_law_341 : decode cL_law 341 = .ok (.aload_n 0, 1) := by decide +kernel
theorem dL_law_342 : decode cL_law 342 = .ok (.iload_n 3, 1) := by decide +kernel
theorem dL_law_343 : decode cL_law 343 = .ok (.iconst 1, 1) := by decide +kernel
theorem dL_law_344 : decode cL_law 344 = .ok (.iadd, 1) := by decide +kernel
theorem dL_law_345 : decode cL_law 345 = .ok (.iaload, 1) := by decide +kernel
theorem dL_law_346 : decode cL_law 346 = .ok (.aload_n 0, 1) := by decide +kernel
theorem dL_law_347 : decode cL_law 347 = .ok (.iload_n 3, 1) := by decide +kernel
theorem dL_law_348 : decode cL_law 348 = .ok (.iconst 2, 1) := by decide +kernel
theorem dL_law_349 : decode cL_law 349 = .ok (.iadd, 1) := by decide +kernel
theorem dL_law_350 : decode cL_law 350 = .ok (.iaload, 1) := by decide +kernel
theorem dL_law_351 : decode cL_law 351 = .ok (.invokevirtual 56, 3) := by decide +kernel
theorem dL_law_354 : decode cL_law 354 = .ok (.aload_n 2, 1) := by decide +kernel
theorem dL_law_355 : decode cL_law 355 = .ok (.aload_n 0, 1) := by decide +kernel
theorem dL_law_356 : decode cL_law 356 = .ok (.iload_n 3, 1) := by decide +kernel
theorem dL_law_357 : decode cL_law 357 = .ok (.iconst 1, 1) := by decide +kernel
theorem dL_law_358 : decode cL_law 358 = .ok (.iadd, 1) := by decide +kernel
theorem dL_law_359 : decode cL_law 359 = .ok (.iaload, 1) := by decide +kernel
theorem dL_law_360 : decode cL_law 360 = .ok (.aload_n 0, 1) := by decide +kernel
theorem dL_law_361 : decode cL_law 361 = .ok (.iload_n 3, 1) := by decide +kernel
theorem dL_law_362 : decode cL_law 362 = .ok (.iconst 2, 1) := by decide +kernel
theorem dL_law_363 : decode cL_law 363 = .ok (.iadd, 1) := by decide +kernel
theorem dL_law_364 : decode cL_law 364 = .ok (.iaload, 1) := by decide +kernel
theorem dL_law_365 : decode cL_law 365 = .ok (.invokevirtual 59, 3) := by decide +kernel
theorem dL_law_368 : decode cL_law 368 = .ok (.if_icmp .eq 261, 3) := by decide +kernel
theorem dL_law_371 : decode cL_law 371 = .ok (.iconst 0, 1) := by decide +kernel
theorem dL_law_372 : decode cL_law 372 = .ok (.ireturn, 1) := by decide +kernel
theorem dL_law_373 : decode cL_law 373 = .ok (.aload_n 1, 1) := by decide +kernel
theorem dL_law_374 : decode cL_law 374 = .ok (.aload_n 0, 1) := by decide +kernel
theorem dL_law_375 : decode cL_law 375 = .ok (.iload_n 3, 1) := by decide +kernel
theorem dL_law_376 : decode cL_law 376 = .ok (.iconst 1, 1) := by decide +kernel
theorem dL_law_377 : decode cL_law 377 = .ok (.iadd, 1) := by decide +kernel
theorem dL_law_378 : decode cL_law 378 = .ok (.iaload, 1) := by decide +kernel
theorem dL_law_379 : decode cL_law 379 = .ok (.aload_n 0, 1) := by decide +kernel
theorem dL_law_380 : decode cL_law 380 = .ok (.iload_n 3, 1) := by decide +kernel
theorem dL_law_381 : decode cL_law 381 = .ok (.iconst 2, 1) := by decide +kernel
theorem dL_law_382 : decode cL_law 382 = .ok (.iadd, 1) := by decide +kernel
theorem dL_law_383 : decode cL_law 383 = .ok (.iaload, 1) := by decide +kernel
theorem dL_law_384 : decode cL_law 384 = .ok (.invokevirtual 60, 3) := by decide +kernel
theorem dL_law_387 : decode cL_law 387 = .ok (.aload_n 2, 1) := by decide +kernel
theorem dL_law_388 : decode cL_law 388 = .ok (.aload_n 0, 1) := by decide +kernel
theorem dL_law_389 : decode cL_law 389 = .ok (.iload_n 3, 1) := by decide +kernel
theorem dL_law_390 : decode cL_law 390 = .ok (.iconst 1, 1) := by decide +kernel
theorem dL_law_391 : decode cL_law 391 = .ok (.iadd, 1) := by decide +kernel
theorem dL_law_392 : decode cL_law 392 = .ok (.iaload, 1) := by decide +kernel
theorem dL_law_393 : decode cL_law 393 = .ok (.aload_n 0, 1) := by decide +kernel
theorem dL_law_394 : decode cL_law 394 = .ok (.iload_n 3, 1) := by decide +kernel
theorem dL_law_395 : decode cL_law 395 = .ok (.iconst 2, 1) := by decide +kernel
theorem dL_law_396 : decode cL_law 396 = .ok (.iadd, 1) := by decide +kernel
theorem dL_law_397 : decode cL_law 397 = .ok (.iaload, 1) := by decide +kernel
theorem dL_law_398 : decode cL_law 398 = .ok (.invokevirtual 63, 3) := by decide +kernel
theorem dL_law_401 : decode cL_law 401 = .ok (.if_icmp .eq 228, 3) := by decide +kernel
theorem dL_law_404 : decode cL_law 404 = .ok (.iconst 0, 1) := by decide +kernel
theorem dL_law_405 : decode cL_law 405 = .ok (.ireturn, 1) := by decide +kernel
theorem dL_law_406 : decode cL_law 406 = .ok (.aload_n 1, 1) := by decide +kernel
theorem dL_law_407 : decode cL_law 407 = .ok (.aload_n 0, 1) := by decide +kernel
theorem dL_law_408 : decode cL_law 408 = .ok (.iload_n 3, 1) := by decide +kernel
theorem dL_law_409 : decode cL_law 409 = .ok (.iconst 1, 1) := by decide +kernel
theorem dL_law_410 : decode cL_law 410 = .ok (.iadd, 1) := by decide +kernel
theorem dL_law_411 : decode cL_law 411 = .ok (.iaload, 1) := by decide +kernel
theorem dL_law_412 : decode cL_law 412 = .ok (.invokevirtual 64, 3) := by decide +kernel
theorem dL_law_415 : decode cL_law 415 = .ok (.aload_n 2, 1) := by decide +kernel
theorem dL_law_416 : decode cL_law 416 = .ok (.aload_n 0, 1) := by decide +kernel
theorem dL_law_417 : decode cL_law 417 = .ok (.iload_n 3, 1) := by decide +kernel
theorem dL_law_418 : decode cL_law 418 = .ok (.iconst 1, 1) := by decide +kernel
theorem dL_law_419 : decode cL_law 419 = .ok (.iadd, 1) := by decide +kernel
theorem dL_law_420 : decode cL_law 420 = .ok (.iaload, 1) := by decide +kernel
theorem dL_law_421 : decode cL_law 421 = .ok (.invokevirtual 67, 3) := by decide +kernel
theorem dL_law_424 : decode cL_law 424 = .ok (.if_icmp .eq 205, 3) := by decide +kernel
theorem dL_law_427 : decode cL_law 427 = .ok (.iconst 0, 1) := by decide +kernel
theorem dL_law_428 : decode cL_law 428 = .ok (.ireturn, 1) := by decide +kernel
theorem dL_law_429 : decode cL_law 429 = .ok (.aload_n 1, 1) := by decide +kernel
theorem dL_law_430 : decode cL_law 430 = .ok (.aload_n 0, 1) := by decide +kernel
theorem dL_law_431 : decode cL_law 431 = .ok (.iload_n 3, 1) := by decide +kernel
theorem dL_law_432 : decode cL_law 432 = .ok (.iconst 1, 1) := by decide +kernel
theorem dL_law_433 : decode cL_law 433 = .ok (.iadd, 1) := by decide +kernel
theorem dL_law_434 : decode cL_law 434 = .ok (.iaload, 1) := by decide +kernel
theorem dL_law_435 : decode cL_law 435 = .ok (.aload_n 0, 1) := by decide +kernel
theorem dL_law_436 : decode cL_law 436 = .ok (.iload_n 3, 1) := by decide +kernel
theorem dL_law_437 : decode cL_law 437 = .ok (.iconst 2, 1) := by decide +kernel
theorem dL_law_438 : decode cL_law 438 = .ok (.iadd, 1) := by decide +kernel
theorem dL_law_439 : decode cL_law 439 = .ok (.iaload, 1) := by decide +kernel
theorem dL_law_440 : decode cL_law 440 = .ok (.invokevirtual 68, 3) := by decide +kernel
theorem dL_law_443 : decode cL_law 443 = .ok (.aload_n 2, 1) := by decide +kernel
theorem dL_law_444 : decode cL_law 444 = .ok (.aload_n 0, 1) := by decide +kernel
theorem dL_law_445 : decode cL_law 445 = .ok (.iload_n 3, 1) := by decide +kernel
theorem dL_law_446 : decode cL_law 446 = .ok (.iconst 1, 1) := by decide +kernel
theorem dL_law_447 : decode cL_law 447 = .ok (.iadd, 1) := by decide +kernel
theorem dL_law_448 : decode cL_law 448 = .ok (.iaload, 1) := by decide +kernel
theorem dL_law_449 : decode cL_law 449 = .ok (.aload_n 0, 1) := by decide +kernel
theorem dL_law_450 : decode cL_law 450 = .ok (.iload_n 3, 1) := by decide +kernel
theorem dL_law_451 : decode cL_law 451 = .ok (.iconst 2, 1) := by decide +kernel
theorem dL_law_452 : decode cL_law 452 = .ok (.iadd, 1) := by decide +kernel
theorem dL_law_453 : decode cL_law 453 = .ok (.iaload, 1) := by decide +kernel
theorem dL_law_454 : decode cL_law 454 = .ok (.invokevirtual 71, 3) := by decide +kernel
theorem dL_law_457 : decode cL_law 457 = .ok (.if_icmp .eq 172, 3) := by decide +kernel
theorem dL_law_460 : decode cL_law 460 = .ok (.iconst 0, 1) := by decide +kernel
theorem dL_law_461 : decode cL_law 461 = .ok (.ireturn, 1) := by decide +kernel
theorem dL_law_462 : decode cL_law 462 = .ok (.aload_n 1, 1) := by decide +kernel
theorem dL_law_463 : decode cL_law 463 = .ok (.invokevirtual 72, 3) := by decide +kernel
theorem dL_law_466 : decode cL_law 466 = .ok (.aload_n 2, 1) := by decide +kernel
theorem dL_law_467 : decode cL_law 467 = .ok (.invokevirtual 75, 3) := by decide +kernel
theorem dL_law_470 : decode cL_law 470 = .ok (.if_icmp .eq 159, 3) := by decide +kernel
theorem dL_law_473 : decode cL_law 473 = .ok (.iconst 0, 1) := by decide +kernel
theorem dL_law_474 : decode cL_law 474 = .ok (.ireturn, 1) := by decide +kernel
theorem dL_law_475 : decode cL_law 475 = .ok (.aload_n 1, 1) := by decide +kernel
theorem dL_law_476 : decode cL_law 476 = .ok (.invokevirtual 76, 3) := by decide +kernel
theorem dL_law_479 : decode cL_law 479 = .ok (.aload_n 2, 1) := by decide +kernel
theorem dL_law_480 : decode cL_law 480 = .ok (.invokevirtual 79, 3) := by decide +kernel
theorem dL_law_483 : decode cL_law 483 = .ok (.if_icmp .eq 146, 3) := by decide +kernel
theorem dL_law_486 : decode cL_law 486 = .ok (.iconst 0, 1) := by decide +kernel
theorem dL_law_487 : decode cL_law 487 = .ok (.ireturn, 1) := by decide +kernel
theorem dL_law_488 : decode cL_law 488 = .ok (.aload_n 1, 1) := by decide +kernel
theorem dL_law_489 : decode cL_law 489 = .ok (.aload_n 0, 1) := by decide +kernel
theorem dL_law_490 : decode cL_law 490 = .ok (.iload_n 3, 1) := by decide +kernel
theorem dL_law_491 : decode cL_law 491 = .ok (.iconst 1, 1) := by decide +kernel
theorem dL_law_492 : decode cL_law 492 = .ok (.iadd, 1) := by decide +kernel
theorem dL_law_493 : decode cL_law 493 = .ok (.iaload, 1) := by decide +kernel
theorem dL_law_494 : decode cL_law 494 = .ok (.aload_n 0, 1) := by decide +kernel
theorem dL_law_495 : decode cL_law 495 = .ok (.iload_n 3, 1) := by decide +kernel
theorem dL_law_496 : decode cL_law 496 = .ok (.iconst 2, 1) := by decide +kernel
theorem dL_law_497 : decode cL_law 497 = .ok (.iadd, 1) := by decide +kernel
theorem dL_law_498 : decode cL_law 498 = .ok (.iaload, 1) := by decide +kernel
theorem dL_law_499 : decode cL_law 499 = .ok (.invokevirtual 80, 3) := by decide +kernel
theorem dL_law_502 : decode cL_law 502 = .ok (.aload_n 2, 1) := by decide +kernel
theorem dL_law_503 : decode cL_law 503 = .ok (.aload_n 0, 1) := by decide +kernel
theorem dL_law_504 : decode cL_law 504 = .ok (.iload_n 3, 1) := by decide +kernel
theorem dL_law_505 : decode cL_law 505 = .ok (.iconst 1, 1) := by decide +kernel
theorem dL_law_506 : decode cL_law 506 = .ok (.iadd, 1) := by decide +kernel
theorem dL_law_507 : decode cL_law 507 = .ok (.iaload, 1) := by decide +kernel
theorem dL_law_508 : decode cL_law 508 = .ok (.aload_n 0, 1) := by decide +kernel
theorem dL_law_509 : decode cL_law 509 = .ok (.iload_n 3, 1) := by decide +kernel
theorem dL_law_510 : decode cL_law 510 = .ok (.iconst 2, 1) := by decide +kernel
theorem dL_law_511 : decode cL_law 511 = .ok (.iadd, 1) := by decide +kernel
theorem dL_law_512 : decode cL_law 512 = .ok (.iaload, 1) := by decide +kernel
theorem dL_law_513 : decode cL_law 513 = .ok (.invokevirtual 83, 3) := by decide +kernel
theorem dL_law_516 : decode cL_law 516 = .ok (.if_icmp .eq 113, 3) := by decide +kernel
theorem dL_law_519 : decode cL_law 519 = .ok (.iconst 0, 1) := by decide +kernel
theorem dL_law_520 : decode cL_law 520 = .ok (.ireturn, 1) := by decide +kernel
theorem dL_law_521 : decode cL_law 521 = .ok (.aload_n 1, 1) := by decide +kernel
theorem dL_law_522 : decode cL_law 522 = .ok (.invokevirtual 84, 3) := by decide +kernel
theorem dL_law_525 : decode cL_law 525 = .ok (.aload_n 2, 1) := by decide +kernel
theorem dL_law_526 : decode cL_law 526 = .ok (.invokevirtual 87, 3) := by decide +kernel
theorem dL_law_529 : decode cL_law 529 = .ok (.if_icmp .eq 100, 3) := by decide +kernel
theorem dL_law_532 : decode cL_law 532 = .ok (.iconst 0, 1) := by decide +kernel
theorem dL_law_533 : decode cL_law 533 = .ok (.ireturn, 1) := by decide +kernel
theorem dL_law_534 : decode cL_law 534 = .ok (.aload_n 1, 1) := by decide +kernel
theorem dL_law_535 : decode cL_law 535 = .ok (.invokevirtual 88, 3) := by decide +kernel
theorem dL_law_538 : decode cL_law 538 = .ok (.aload_n 2, 1) := by decide +kernel
theorem dL_law_539 : decode cL_law 539 = .ok (.invokevirtual 91, 3) := by decide +kernel
theorem dL_law_542 : decode cL_law 542 = .ok (.if_icmp .eq 87, 3) := by decide +kernel
theorem dL_law_545 : decode cL_law 545 = .ok (.iconst 0, 1) := by decide +kernel
theorem dL_law_546 : decode cL_law 546 = .ok (.ireturn, 1) := by decide +kernel
theorem dL_law_547 : decode cL_law 547 = .ok (.aload_n 1, 1) := by decide +kernel
theorem dL_law_548 : decode cL_law 548 = .ok (.invokevirtual 92, 3) := by decide +kernel
theorem dL_law_551 : decode cL_law 551 = .ok (.aload_n 2, 1) := by decide +kernel
theorem dL_law_552 : decode cL_law 552 = .ok (.invokevirtual 95, 3) := by decide +kernel
theorem dL_law_555 : decode cL_law 555 = .ok (.if_icmp .eq 74, 3) := by decide +kernel
theorem dL_law_558 : decode cL_law 558 = .ok (.iconst 0, 1) := by decide +kernel
theorem dL_law_559 : decode cL_law 559 = .ok (.ireturn, 1) := by decide +kernel
theorem dL_law_560 : decode cL_law 560 = .ok (.aload_n 1, 1) := by decide +kernel
theorem dL_law_561 : decode cL_law 561 = .ok (.aload_n 0, 1) := by decide +kernel
theorem dL_law_562 : decode cL_law 562 = .ok (.iload_n 3, 1) := by decide +kernel
theorem dL_law_563 : decode cL_law 563 = .ok (.iconst 1, 1) := by decide +kernel
theorem dL_law_564 : decode cL_law 564 = .ok (.iadd, 1) := by decide +kernel
theorem dL_law_565 : decode cL_law 565 = .ok (.iaload, 1) := by decide +kernel
theorem dL_law_566 : decode cL_law 566 = .ok (.invokevirtual 96, 3) := by decide +kernel
theorem dL_law_569 : decode cL_law 569 = .ok (.aload_n 2, 1) := by decide +kernel
theorem dL_law_570 : decode cL_law 570 = .ok (.aload_n 0, 1) := by decide +kernel
theorem dL_law_571 : decode cL_law 571 = .ok (.iload_n 3, 1) := by decide +kernel
theorem dL_law_572 : decode cL_law 572 = .ok (.iconst 1, 1) := by decide +kernel
theorem dL_law_573 : decode cL_law 573 = .ok (.iadd, 1) := by decide +kernel
theorem dL_law_574 : decode cL_law 574 = .ok (.iaload, 1) := by decide +kernel
theorem dL_law_575 : decode cL_law 575 = .ok (.invokevirtual 99, 3) := by decide +kernel
theorem dL_law_578 : decode cL_law 578 = .ok (.if_icmp .eq 51, 3) := by decide +kernel
theorem dL_law_581 : decode cL_law 581 = .ok (.iconst 0, 1) := by decide +kernel
theorem dL_law_582 : decode cL_law 582 = .ok (.ireturn, 1) := by decide +kernel
theorem dL_law_583 : decode cL_law 583 = .ok (.aload_n 1, 1) := by decide +kernel
theorem dL_law_584 : decode cL_law 584 = .ok (.aload_n 0, 1) := by decide +kernel
theorem dL_law_585 : decode cL_law 585 = .ok (.iload_n 3, 1) := by decide +kernel
theorem dL_law_586 : decode cL_law 586 = .ok (.iconst 1, 1) := by decide +kernel
theorem dL_law_587 : decode cL_law 587 = .ok (.iadd, 1) := by decide +kernel
theorem dL_law_588 : decode cL_law 588 = .ok (.iaload, 1) := by decide +kernel
theorem dL_law_589 : decode cL_law 589 = .ok (.invokevirtual 100, 3) := by decide +kernel
theorem dL_law_592 : decode cL_law 592 = .ok (.aload_n 2, 1) := by decide +kernel
theorem dL_law_593 : decode cL_law 593 = .ok (.aload_n 0, 1) := by decide +kernel
theorem dL_law_594 : decode cL_law 594 = .ok (.iload_n 3, 1) := by decide +kernel
theorem dL_law_595 : decode cL_law 595 = .ok (.iconst 1, 1) := by decide +kernel
theorem dL_law_596 : decode cL_law 596 = .ok (.iadd, 1) := by decide +kernel
theorem dL_law_597 : decode cL_law 597 = .ok (.iaload, 1) := by decide +kernel
theorem dL_law_598 : decode cL_law 598 = .ok (.invokevirtual 103, 3) := by decide +kernel
theorem dL_law_601 : decode cL_law 601 = .ok (.if_icmp .eq 28, 3) := by decide +kernel
theorem dL_law_604 : decode cL_law 604 = .ok (.iconst 0, 1) := by decide +kernel
theorem dL_law_605 : decode cL_law 605 = .ok (.ireturn, 1) := by decide +kernel
theorem dL_law_606 : decode cL_law 606 = .ok (.aload_n 1, 1) := by decide +kernel
theorem dL_law_607 : decode cL_law 607 = .ok (.aload_n 0, 1) := by decide +kernel
theorem dL_law_608 : decode cL_law 608 = .ok (.iload_n 3, 1) := by decide +kernel
theorem dL_law_609 : decode cL_law 609 = .ok (.iconst 1, 1) := by decide +kernel
theorem dL_law_610 : decode cL_law 610 = .ok (.iadd, 1) := by decide +kernel
theorem dL_law_611 : decode cL_law 611 = .ok (.iaload, 1) := by decide +kernel
theorem dL_law_612 : decode cL_law 612 = .ok (.invokevirtual 104, 3) := by decide +kernel
theorem dL_law_615 : decode cL_law 615 = .ok (.aload_n 2, 1) := by decide +kernel
theorem dL_law_616 : decode cL_law 616 = .ok (.aload_n 0, 1) := by decide +kernel
theorem dL_law_617 : decode cL_law 617 = .ok (.iload_n 3, 1) := by decide +kernel
theorem dL_law_618 : decode cL_law 618 = .ok (.iconst 1, 1) := by decide +kernel
theorem dL_law_619 : decode cL_law 619 = .ok (.iadd, 1) := by decide +kernel
theorem dL_law_620 : decode cL_law 620 = .ok (.iaload, 1) := by decide +kernel
theorem dL_law_621 : decode cL_law 621 = .ok (.invokevirtual 107, 3) := by decide +kernel
theorem dL_law_624 : decode cL_law 624 = .ok (.if_icmp .eq 5, 3) := by decide +kernel
theorem dL_law_627 : decode cL_law 627 = .ok (.iconst 0, 1) := by decide +kernel
theorem dL_law_628 : decode cL_law 628 = .ok (.ireturn, 1) := by decide +kernel
theorem dL_law_629 : decode cL_law 629 = .ok (.iinc 3 3, 3) := by decide +kernel
theorem dL_law_632 : decode cL_law 632 = .ok (.goto (-614), 3) := by decide +kernel
theorem dL_law_635 : decode cL_law 635 = .ok (.iconst 1, 1) := by decide +kernel
theorem dL_law_636 : decode cL_law 636 = .ok (.ireturn, 1) := by decide +kernel
end
section
/-! the layout: places 0 to 129 the class's object and what it makes, 130 to 147 the reference's -/
def FKl : List (List Bool) := [[true, true, true, true, false, false, false, false, false, false, true], [true, true, false], [true, false, false], [true, true, true, true, false, false, false, false, false, false], [true, true, true, true, true, false, false, false, false, false, false, false, false, false], [true, false, false, false, false, false, false], [true, true, true, true, true, true, true, true, true], [true, true, true, false, true, true, true, false, true, false, false, true, true, false, true, true, true, false, false, true, true, true, true, true, false, false, false]]
def shl : List (Nat × Nat) := [(6, 0), (5, 0), (8, 120), (3, 0), (8, 4), (8, 4), (8, 8), (8, 8), (3, 0), (8, 4), (8, 4), (8, 8), (8, 8), (4, 0), (8, 4), (8, 4), (8, 4), (8, 32), (0, 0), (8, 32), (8, 32), (8, 32), (8, 128), (8, 4), (4, 0), (8, 4), (8, 4), (8, 4), (8, 32), (0, 0), (8, 32), (8, 32), (8, 32), (8, 128), (8, 4), (2, 0), (10, 6), (4, 0), (8, 4), (8, 4), (8, 4), (8, 32), (0, 0), (8, 32), (8, 32), (8, 32), (8, 128), (8, 4), (4, 0), (8, 4), (8, 4), (8, 4), (8, 32), (0, 0), (8, 32), (8, 32), (8, 32), (8, 128), (8, 4), (4, 0), (8, 4), (8, 4), (8, 4), (8, 32), (0, 0), (8, 32), (8, 32), (8, 32), (8, 128), (8, 4), (4, 0), (8, 4), (8, 4), (8, 4), (8, 32), (0, 0), (8, 32), (8, 32), (8, 32), (8, 128), (8, 4), (4, 0), (8, 4), (8, 4), (8, 4), (8, 32), (0, 0), (8, 32), (8, 32), (8, 32), (8, 128), (8, 4), (4, 0), (8, 4), (8, 4), (8, 4), (8, 32), (0, 0), (8, 32), (8, 32), (8, 32), (8, 128), (8, 4), (10, 2), (9, 2), (1, 0), (8, 6), (8, 6), (4, 0), (8, 4), (8, 4), (8, 4), (8, 32), (0, 0), (8, 32), (8, 32), (8, 32), (8, 128), (8, 4), (4, 0), (8, 4), (8, 4), (8, 4), (8, 32), (0, 0), (8, 32), (8, 32), (8, 32), (8, 128), (8, 4), (7, 0), (8, 349), (8, 349), (8, 2094), (8, 698), (9, 2), (8, 120), (8, 12), (8, 4), (8, 4), (8, 8), (8, 8), (8, 4), (8, 4), (8, 8), (8, 8), (8, 4), (9, 4)]
end
section
/-! THE WORLD AS TWO FUNCTIONS: M (place, slot) of ints, R (place, slot) of references; the cells lie at XB S + place -/
abbrev Mem : Type := Nat → Nat → Int32
abbrev Rfs : Type := Nat → Nat → Option Nat
/-- what does not move: class numbers and slots, the classes of int[], boolean[], Press[], the first address -/
abbrev XS : Type := va_G × ClassId × ClassId × ClassId × Nat
def XB (S : XS) : Nat := S.2.2.2.2
def XA (S : XS) : Nat → Prop := fun q => XB S ≤ q
/-- a field of class ci is a reference -/
def FK (ci k : Nat) : Bool := (FKl.getD ci []).getD k false
def NF (ci : Nat) : Nat := (FKl.getD ci []).length
/-- a place: its kind (0 to 7 a class, 8 int[], 9 boolean[], 10 Press[]) and its length -/
def SH (c : Nat) : Nat × Nat := shl.getD c (99, 0)
def XF (S : XS) (M : Mem) (R : Rfs) (ci c k : Nat) : Value := if FK ci k = true then va_rf ((R c k).map (fun o => XB S + o)) else .int (M c k)
def XE (S : XS) (M : Mem) (R : Rfs) (c : Nat) : va_E :=
  if (SH c).1 = 8 then .inl (S.2.1, (SH c).2, .inl (M c))
  else if (SH c).1 = 9 then .inl (S.2.2.1, (SH c).2, .inl (M c))
  else if (SH c).1 = 10 then .inl (S.2.2.2.1, (SH c).2, .inr (.inr (.inr (.inr (fun k => (R c k).map (fun o => XB S + o))))))
  else .inr ((SH c).1, (List.range (NF (SH c).1)).map (XF S M R (SH c).1 c))
def XW (S : XS) (n : Nat) (M : Mem) (R : Rfs) : va_W := (List.range n).map (fun c => (XB S + c, XE S M R c))
/-- a write -/
def mw (M : Mem) (a k : Nat) (v : Int32) : Mem := fun b j => if b = a ∧ j = k then v else M b j
def mr (R : Rfs) (a k : Nat) (v : Nat) : Rfs := fun b j => if b = a ∧ j = k then some v else R b j
/-- a copy of a stretch -/
def mcp (M : Mem) (a sp b dp n : Nat) : Mem := fun x j => if x = b ∧ dp ≤ j ∧ j < dp + n then M a (sp + (j - dp)) else M x j
theorem mw_row (M : Mem) (a k : Nat) (v : Int32) : mw M a k v a = upd (M a) k v := by funext j; simp [mw, upd]
theorem mw_ne {M : Mem} {a k b : Nat} {v : Int32} (h : b ≠ a) : mw M a k v b = M b := by funext j; simp [mw, h]
theorem mr_row (R : Rfs) (a k v : Nat) : mr R a k v a = va_up (R a) k (some v) := by funext j; simp [mr, va_up]
theorem mr_ne {R : Rfs} {a k b v : Nat} (h : b ≠ a) : mr R a k v b = R b := by funext j; simp [mr, h]
theorem mcp_row (M : Mem) (a sp b dp n : Nat) : mcp M a sp b dp n b = va_cpy (M a) (M b) sp dp n := by funext j; simp [mcp, va_cpy]
theorem mcp_ne {M : Mem} {a sp b dp n x : Nat} (h : x ≠ b) : mcp M a sp b dp n x = M x := by funext j; simp [mcp, h]
theorem XE_congr {S : XS} {M M' : Mem} {R R' : Rfs} {c : Nat} (h : M c = M' c) (h2 : R c = R' c) : XE S M R c = XE S M' R' c := by
  have e : XF S M R (SH c).1 c = XF S M' R' (SH c).1 c := by funext k; simp [XF, h, h2]
  simp [XE, h, h2, e]
theorem mrs {α : Type} (n c : Nat) (f g : Nat → α) (hg : ∀ j, j ≠ c → g j = f j) : ((List.range n).map f).set c (g c) = (List.range n).map g := by
  apply List.ext_getElem?
  intro j
  rw [List.getElem?_set]
  by_cases hj : c = j
  · subst hj
    by_cases hn : c < n
    · simp [hn]
    · simp [hn]
  · rw [if_neg hj]
    by_cases hn : j < n
    · simp [hn, hg j (fun z => hj z.symm)]
    · simp [hn]
theorem xw_at {S : XS} {n c : Nat} {M : Mem} {R : Rfs} (h : c < n) : (XW S n M R)[c]? = some (XB S + c, XE S M R c) := by simp [XW, h]
theorem xe_obj {S : XS} {c ci z : Nat} {M : Mem} {R : Rfs} (hs : SH c = (ci, z)) (hci : ci < 8) : XE S M R c = .inr (ci, (List.range (NF ci)).map (XF S M R ci c)) := by
  unfold XE
  rw [hs]
  rw [if_neg (by show ¬ ci = 8; omega), if_neg (by show ¬ ci = 9; omega), if_neg (by show ¬ ci = 10; omega)]
theorem xe_i {S : XS} {c z : Nat} {M : Mem} {R : Rfs} (hs : SH c = (8, z)) : XE S M R c = .inl (S.2.1, z, .inl (M c)) := by
  unfold XE; rw [hs]; rfl
theorem xe_z {S : XS} {c z : Nat} {M : Mem} {R : Rfs} (hs : SH c = (9, z)) : XE S M R c = .inl (S.2.2.1, z, .inl (M c)) := by
  unfold XE; rw [hs]; rfl
theorem xe_q {S : XS} {c z : Nat} {M : Mem} {R : Rfs} (hs : SH c = (10, z)) : XE S M R c = .inl (S.2.2.2.1, z, .inr (.inr (.inr (.inr (fun k => (R c k).map (fun o => XB S + o)))))) := by
  unfold XE; rw [hs]; rfl
theorem xw_obj {S : XS} {n c ci z : Nat} {M : Mem} {R : Rfs} (h : c < n) (hs : SH c = (ci, z)) (hci : ci < 8) : (XW S n M R)[c]? = some (XB S + c, .inr (ci, (List.range (NF ci)).map (XF S M R ci c))) := by rw [xw_at h, xe_obj hs hci]
theorem xw_i {S : XS} {n c z : Nat} {M : Mem} {R : Rfs} (h : c < n) (hs : SH c = (8, z)) : (XW S n M R)[c]? = some (XB S + c, .inl (S.2.1, z, .inl (M c))) := by rw [xw_at h, xe_i hs]
theorem xw_z {S : XS} {n c z : Nat} {M : Mem} {R : Rfs} (h : c < n) (hs : SH c = (9, z)) : (XW S n M R)[c]? = some (XB S + c, .inl (S.2.2.1, z, .inl (M c))) := by rw [xw_at h, xe_z hs]
theorem xw_q {S : XS} {n c z : Nat} {M : Mem} {R : Rfs} (h : c < n) (hs : SH c = (10, z)) : (XW S n M R)[c]? = some (XB S + c, .inl (S.2.2.2.1, z, .inr (.inr (.inr (.inr (fun k => (R c k).map (fun o => XB S + o))))))) := by rw [xw_at h, xe_q hs]
theorem xw_D {S : XS} {n : Nat} {M : Mem} {R : Rfs} : va_D (XA S) (XW S n M R) := by
  have key : ∀ (i : Nat) (q : Nat × va_E), (XW S n M R)[i]? = some q → q.1 = XB S + i := by
    intro i q hq
    by_cases hn : i < n
    · rw [xw_at hn] at hq; cases hq; rfl
    · simp [XW, hn] at hq
  exact ⟨fun i j p q hi hj he => by rw [key i p hi, key j q hj] at he; omega, fun k q hk => by rw [key k q hk]; exact Nat.le_add_right _ _⟩
theorem xw_set {S : XS} {n c : Nat} {M M' : Mem} {R R' : Rfs} {x : va_E} (hM : ∀ j, j ≠ c → M' j = M j) (hR : ∀ j, j ≠ c → R' j = R j) (hx : XE S M' R' c = x) : (XW S n M R).set c (XB S + c, x) = XW S n M' R' := by
  have h := mrs n c (fun c => (XB S + c, XE S M R c)) (fun c => (XB S + c, XE S M' R' c)) (fun j hj => by show (XB S + j, XE S M' R' j) = (XB S + j, XE S M R j); rw [XE_congr (hM j hj) (hR j hj)])
  rw [← hx]
  exact h
theorem xf_set {S : XS} {M M' : Mem} {R R' : Rfs} {ci c k : Nat} {v : Value} (hv : XF S M' R' ci c k = v) (h : ∀ j, j ≠ k → XF S M' R' ci c j = XF S M R ci c j) (N : Nat) : ((List.range N).map (XF S M R ci c)).set k v = (List.range N).map (XF S M' R' ci c) := by
  rw [← hv]; exact mrs N k _ _ h
theorem xw_puti {S : XS} {n c ci z k : Nat} {M : Mem} {R : Rfs} {v : Int32} (hs : SH c = (ci, z)) (hci : ci < 8) (hf : FK ci k = false) : (XW S n M R).set c (XB S + c, .inr (ci, ((List.range (NF ci)).map (XF S M R ci c)).set k (.int v))) = XW S n (mw M c k v) R := by
  refine xw_set (fun j hj => mw_ne hj) (fun _ _ => rfl) ?_
  rw [xe_obj hs hci, xf_set (M' := mw M c k v) (R' := R) (v := .int v) (by simp [XF, hf, mw]) (fun j hj => by simp [XF, mw, hj])]
theorem xw_putr {S : XS} {n c ci z k o : Nat} {M : Mem} {R : Rfs} (hs : SH c = (ci, z)) (hci : ci < 8) (hf : FK ci k = true) : (XW S n M R).set c (XB S + c, .inr (ci, ((List.range (NF ci)).map (XF S M R ci c)).set k (.ref (XB S + o)))) = XW S n M (mr R c k o) := by
  refine xw_set (fun _ _ => rfl) (fun j hj => mr_ne hj) ?_
  rw [xe_obj hs hci, xf_set (M' := M) (R' := mr R c k o) (v := .ref (XB S + o)) (by simp [XF, hf, mr, va_rf]) (fun j hj => by simp [XF, mr, hj])]
theorem xw_sti {S : XS} {n c z i : Nat} {M : Mem} {R : Rfs} {v : Int32} (hs : SH c = (8, z)) : (XW S n M R).set c (XB S + c, .inl (S.2.1, z, .inl (upd (M c) i v))) = XW S n (mw M c i v) R :=
  xw_set (fun j hj => mw_ne hj) (fun _ _ => rfl) (by rw [xe_i hs, mw_row])
theorem xw_stz {S : XS} {n c z i : Nat} {M : Mem} {R : Rfs} {v : Int32} (hs : SH c = (9, z)) : (XW S n M R).set c (XB S + c, .inl (S.2.2.1, z, .inl (upd (M c) i v))) = XW S n (mw M c i v) R :=
  xw_set (fun j hj => mw_ne hj) (fun _ _ => rfl) (by rw [xe_z hs, mw_row])
theorem xw_cpi {S : XS} {n a b z sp dp len : Nat} {M : Mem} {R : Rfs} (hs : SH b = (8, z)) : (XW S n M R).set b (XB S + b, .inl (S.2.1, z, .inl (va_cpy (M a) (M b) sp dp len))) = XW S n (mcp M a sp b dp len) R :=
  xw_set (fun j hj => mcp_ne hj) (fun _ _ => rfl) (by rw [xe_i hs, mcp_row])
theorem xw_stq {S : XS} {n c z i o : Nat} {M : Mem} {R : Rfs} (hs : SH c = (10, z)) : (XW S n M R).set c (XB S + c, .inl (S.2.2.2.1, z, .inr (.inr (.inr (.inr (va_up (fun k => (R c k).map (fun o => XB S + o)) i (some (XB S + o)))))))) = XW S n M (mr R c i o) :=
  xw_set (fun _ _ => rfl) (fun j hj => mr_ne hj) (by
    rw [xe_q hs, mr_row]
    congr 7
    funext k
    by_cases hk : k = i <;> simp [va_up, hk])
theorem xw_push {S : XS} {n : Nat} {M : Mem} {R : Rfs} {x : va_E} (hx : XE S M R n = x) : XW S n M R ++ [(XB S + n, x)] = XW S (n + 1) M R := by
  simp [XW, List.range_succ, hx]
/-- the nest's links and the class of Press[], as words that the pay of a call doesn't carry -/
def XN (U : State) : Prop :=
  va_Nw (.methodLinkNest "SplicedWeb" 9 ⟨"SplicedWeb$Text", "<init>", "()V"⟩ "SplicedWeb") U ∧
  va_Nw (.methodLinkNest "SplicedWeb" 28 ⟨"SplicedWeb$Press", "<init>", "()V"⟩ "SplicedWeb") U ∧
  va_Nw (.methodLinkNest "SplicedWeb$Press" 26 ⟨"SplicedWeb$Band", "<init>", "()V"⟩ "SplicedWeb") U ∧
  va_Nw (.methodLinkNest "SplicedWeb$History" 17 ⟨"SplicedWeb$Press", "<init>", "()V"⟩ "SplicedWeb") U ∧
  va_Nw (.methodLinkNest "SplicedWeb" 53 ⟨"SplicedWeb$Clues", "<init>", "()V"⟩ "SplicedWeb") U ∧
  va_Nw (.methodLinkNest "SplicedWeb$Text" 93 ⟨"SplicedWeb", "isWithin", "(III)Z"⟩ "SplicedWeb") U ∧
  va_Nw (.methodLinkNest "SplicedWeb$Plan" 46 ⟨"SplicedWeb", "isWithin", "(III)Z"⟩ "SplicedWeb") U ∧
  va_Nw (.methodLinkNest "SplicedWeb$Band" 63 ⟨"SplicedWeb", "isWithin", "(III)Z"⟩ "SplicedWeb") U ∧
  va_AO "SplicedWeb$Press" U
theorem XN.warm {s U : State} (hW : s.WarmedH U.vm) (h : XN s) : XN U := by
  obtain ⟨a, b, c, d, e, f, g, i, j⟩ := h
  exact ⟨va_Nw.warmM hW a, va_Nw.warmM hW b, va_Nw.warmM hW c, va_Nw.warmM hW d, va_Nw.warmM hW e, va_Nw.warmM hW f, va_Nw.warmM hW g, va_Nw.warmM hW i, va_AO.moved hW.alike j⟩
theorem XN.same {s U : State} (hW : s.vm = U.vm) (h : XN s) : XN U := by
  obtain ⟨a, b, c, d, e, f, g, i, j⟩ := h
  exact ⟨va_Nw.same rfl hW a, va_Nw.same rfl hW b, va_Nw.same rfl hW c, va_Nw.same rfl hW d, va_Nw.same rfl hW e, va_Nw.same rfl hW f, va_Nw.same rfl hW g, va_Nw.same rfl hW i, va_AO.moved (by rw [hW]; exact Vm.Alike.refl _) j⟩
def Xty (S : XS) : List (ClassId × FieldType) := [(S.2.1, .int), (S.2.2.1, .boolean), (S.2.2.2.1, .object "SplicedWeb$Press")]
def XK (S : XS) (U : State) : Prop := va_K S.1 vwCl (Xty S) U ∧ XN U
theorem XK.warm {S : XS} {s U : State} (hW : s.WarmedH U.vm) (h : XK S s) : XK S U := ⟨va_K.moved hW.alike h.1, h.2.warm hW⟩
/-- the words that every method takes: the good ones of the tables -/
def LG : List Cond := lw_tbl.filter goodWord
theorem lg_mem {w : Cond} (i : Nat) (h : lw_tbl[i]? = some w) (hg : goodWord w = true) : w ∈ LG := List.mem_filter.mpr ⟨List.mem_of_getElem? h, hg⟩
theorem lg_sub {ws : List Cond} (ps : List Nat) (hp : ws = ps.filterMap (fun i => lw_tbl[i]?)) (hg : ws.all goodWord = true) : ∀ w ∈ ws, w ∈ LG := by
  intro w hw
  have h1 := List.all_eq_true.mp hg w hw
  rw [hp] at hw
  obtain ⟨i, -, hi⟩ := List.mem_filterMap.mp hw
  exact lg_mem i hi h1
theorem lg_good {w0 : Cond} (h : w0 ∈ LG) : GoodIn LG (w0 :: LG) := by
  intro w hw
  rcases List.mem_cons.mp hw with rfl | hw
  · exact ⟨h, good_of_word (List.mem_filter.mp h).2⟩
  · exact ⟨hw, good_of_word (List.mem_filter.mp hw).2⟩
theorem lg_ok {w : Cond} (h : w ∈ LG) : w ∈ LG ∧ ((w.onTables && w.keeps) = true ∨ ∃ ty, w = .arrayClass ty) := ⟨h, good_of_word (List.mem_filter.mp h).2⟩
/-- what stands within a method's body -/
def Cx (p : Program) (m : MethodId) (meth : Method) (c : Code) (s : State) (args : Array Value) (cc : ByteArray) (own : String) (nL : Nat) (S : XS) : Prop :=
  (p.tables.exec = Jvm.exec ∧ c.code = cc ∧ c.maxLocals = nL ∧ s.vm.findClass own = some m.cls ∧ ∀ w ∈ LG, w.before args s = true) ∧ XK S s ∧ meth.locks = false
/-- a method's start and end -/
def XPre (S : XS) (n : Nat) (M : Mem) (R : Rfs) (U : State) : Prop := va_P S.1 vwCl (XW S n M R) U.heap ∧ XK S U
/-- the same, and nothing lies behind the world -/
def XPreG (S : XS) (n : Nat) (M : Mem) (R : Rfs) (U : State) : Prop := va_P S.1 vwCl (XW S n M R) U.heap ∧ U.heap.size = XB S + n ∧ XK S U
def XPost (S : XS) (n : Nat) (R : Rfs) (M : Mem) (t : State) : Prop := va_P S.1 vwCl (XW S n M R) t.heap
/-- an int method's, a void method's contract; a making one's -/
abbrev CI (l : Launch) (y : MethodName) (cd : ByteArray) (mL : Nat) (rt : Option FieldType) (rm : Room) (S : XS) (n : Nat) (R : Rfs) (av : List Value) (M : Mem) (K : Int32 → Mem → Prop) : Prop :=
  Met l y (Cond.code y cd mL rt :: LG) rm (va_Pc av (XPre S n M R)) (va_Qi K (XPost S n R) (XA S)) 0 0 (XA S)
abbrev CV (l : Launch) (y : MethodName) (cd : ByteArray) (mL : Nat) (rm : Room) (S : XS) (n : Nat) (R : Rfs) (av : List Value) (M : Mem) (K : Mem → Prop) : Prop :=
  Met l y (Cond.code y cd mL none :: LG) rm (va_Pc av (XPre S n M R)) (va_Qv K (XPost S n R) (XA S)) 0 0 (XA S)
/-- one that may move references (int), one that makes cells (void) -/
abbrev CR (l : Launch) (y : MethodName) (cd : ByteArray) (mL : Nat) (rt : Option FieldType) (rm : Room) (S : XS) (n : Nat) (R : Rfs) (av : List Value) (M : Mem) (K : Int32 → Mem × Rfs → Prop) : Prop :=
  Met l y (Cond.code y cd mL rt :: LG) rm (va_Pc av (XPre S n M R)) (va_Qi K (fun u t => XPost S n u.2 u.1 t) (XA S)) 0 0 (XA S)
abbrev CG (l : Launch) (y : MethodName) (cd : ByteArray) (mL : Nat) (rm : Room) (S : XS) (n : Nat) (R : Rfs) (av : List Value) (M : Mem) (n' mc ms : Nat) (K : Mem × Rfs → Prop) : Prop :=
  Met l y (Cond.code y cd mL none :: LG) rm (va_Pc av (XPreG S n M R)) (va_Qv K (fun u t => XPost S n' u.2 u.1 t) (XA S)) mc ms (XA S)
section VV
variable {p : Program} {l : Launch} {e : Env} {Rm : Room} {s : State} {m : MethodId} {args : Array Value} {below : List Frame} {meth : Method} {c : Code} {Q : State → Prop}
/-- the machine at pc, with the world (n, M, R), the locals lv, the stack st, comes to Q -/
def V (p : Program) (l : Launch) (e : Env) (Rm : Room) (s : State) (m : MethodId) (args : Array Value) (below : List Frame) (meth : Method) (c : Code) (Q : State → Prop) (S : XS) (nL cells slots n : Nat) (M : Mem) (R : Rfs) (pc : Nat) (lv : List (Nat × Value)) (st : List Value) : Prop :=
  ∀ (H : Heap) (locs : List Loc) (ls : Array Slot), va_P S.1 vwCl (XW S n M R) H → va_S (XA S) s.heap H locs → lv_has ls nL lv → W p l e Rm s m args below meth c H locs cells slots Q (F0 m pc ls st)
variable {cc : ByteArray} {own : String} {nL cells slots n pc : Nat} {S : XS} {M : Mem} {R : Rfs} {lv lv' : List (Nat × Value)} {st : List Value}
theorem v_loc (ks : List Nat) (hl : lv_pick lv ks = lv') (k : V p l e Rm s m args below meth c Q S nL cells slots n M R pc lv' st) : V p l e Rm s m args below meth c Q S nL cells slots n M R pc lv st :=
  fun H locs ls hP hS h => k H locs ls hP hS (lv_sub h ks hl)
theorem v_iconst (C : Cx p m meth c s args cc own nL S) {i : Int} {v : Int32} (hv : Int32.ofInt i = v) (hd : decode cc pc = .ok (.iconst i, 1)) (k : V p l e Rm s m args below meth c Q S nL cells slots n M R (pc + 1) lv (.int v :: st)) : V p l e Rm s m args below meth c Q S nL cells slots n M R pc lv st :=
  fun H locs ls hP hS h => lv_iconst C.1.1 C.1.2.1 hd hv (k H locs ls hP hS h)
theorem v_bipush (C : Cx p m meth c s args cc own nL S) {i : Int} {v : Int32} (hv : (Int8.ofInt i).toInt32 = v) (hd : decode cc pc = .ok (.bipush i, 2)) (k : V p l e Rm s m args below meth c Q S nL cells slots n M R (pc + 2) lv (.int v :: st)) : V p l e Rm s m args below meth c Q S nL cells slots n M R pc lv st :=
  fun H locs ls hP hS h => lv_bipush C.1.1 C.1.2.1 hd hv (k H locs ls hP hS h)
theorem v_sipush (C : Cx p m meth c s args cc own nL S) {i : Int} {v : Int32} (hv : (Int16.ofInt i).toInt32 = v) (hd : decode cc pc = .ok (.sipush i, 3)) (k : V p l e Rm s m args below meth c Q S nL cells slots n M R (pc + 3) lv (.int v :: st)) : V p l e Rm s m args below meth c Q S nL cells slots n M R pc lv st :=
  fun H locs ls hP hS h => lv_sipush C.1.1 C.1.2.1 hd hv (k H locs ls hP hS h)
theorem v_ldc (C : Cx p m meth c s args cc own nL S) {i : Nat} {v : Int32} (hw : Cond.constant own i v ∈ LG) (hd : decode cc pc = .ok (.ldc i, 2)) (k : V p l e Rm s m args below meth c Q S nL cells slots n M R (pc + 2) lv (.int v :: st)) : V p l e Rm s m args below meth c Q S nL cells slots n M R pc lv st :=
  fun H locs ls hP hS h => lv_ldc C.1.1 C.1.2.1 C.1.2.2.2.1 (C.1.2.2.2.2 _ hw) hd (k H locs ls hP hS h)
theorem v_ldcw (C : Cx p m meth c s args cc own nL S) {i : Nat} {v : Int32} (hw : Cond.constant own i v ∈ LG) (hd : decode cc pc = .ok (.ldc_w i, 3)) (k : V p l e Rm s m args below meth c Q S nL cells slots n M R (pc + 3) lv (.int v :: st)) : V p l e Rm s m args below meth c Q S nL cells slots n M R pc lv st :=
  fun H locs ls hP hS h => lv_ldcw C.1.1 C.1.2.1 C.1.2.2.2.1 (C.1.2.2.2.2 _ hw) hd (k H locs ls hP hS h)
theorem v_iloadn (C : Cx p m meth c s args cc own nL S) {f : Fin 4} {i : Nat} {x : Int32} (j : Nat) (hj : lv[j]? = some (i, .int x)) (hi : (f : Nat) = i) (hd : decode cc pc = .ok (.iload_n f, 1)) (k : V p l e Rm s m args below meth c Q S nL cells slots n M R (pc + 1) lv (.int x :: st)) : V p l e Rm s m args below meth c Q S nL cells slots n M R pc lv st :=
  fun H locs ls hP hS h => lv_iload_n C.1.1 C.1.2.1 hd hi (lv_at h j hj) (k H locs ls hP hS h)
theorem v_iload (C : Cx p m meth c s args cc own nL S) {i : Nat} {x : Int32} (j : Nat) (hj : lv[j]? = some (i, .int x)) (hd : decode cc pc = .ok (.iload i, 2)) (k : V p l e Rm s m args below meth c Q S nL cells slots n M R (pc + 2) lv (.int x :: st)) : V p l e Rm s m args below meth c Q S nL cells slots n M R pc lv st :=
  fun H locs ls hP hS h => lv_iload C.1.1 C.1.2.1 hd (lv_at h j hj) (k H locs ls hP hS h)
theorem v_aloadn (C : Cx p m meth c s args cc own nL S) {f : Fin 4} {i : Nat} {x : Nat} (j : Nat) (hj : lv[j]? = some (i, .ref x)) (hi : (f : Nat) = i) (hd : decode cc pc = .ok (.aload_n f, 1)) (k : V p l e Rm s m args below meth c Q S nL cells slots n M R (pc + 1) lv (.ref x :: st)) : V p l e Rm s m args below meth c Q S nL cells slots n M R pc lv st :=
  fun H locs ls hP hS h => lv_aload_n C.1.1 C.1.2.1 hd hi (lv_at h j hj) (k H locs ls hP hS h)
theorem v_istoren (C : Cx p m meth c s args cc own nL S) {f : Fin 4} {i : Nat} {x : Int32} (hl : (i, Value.int x) :: lv.filter (fun q => !(q.1 == i) && !(q.1 + 1 == i && q.2.category == 2)) = lv') (hi : (f : Nat) = i) (hn : i < nL) (hd : decode cc pc = .ok (.istore_n f, 1)) (k : V p l e Rm s m args below meth c Q S nL cells slots n M R (pc + 1) lv' st) : V p l e Rm s m args below meth c Q S nL cells slots n M R pc lv (.int x :: st) :=
  fun H locs ls hP hS h => lv_istore_n C.1.1 C.1.2.1 hd hi h hn hl (fun ls' h' => k H locs ls' hP hS h')
theorem v_istore (C : Cx p m meth c s args cc own nL S) {i : Nat} {x : Int32} (hl : (i, Value.int x) :: lv.filter (fun q => !(q.1 == i) && !(q.1 + 1 == i && q.2.category == 2)) = lv') (hn : i < nL) (hd : decode cc pc = .ok (.istore i, 2)) (k : V p l e Rm s m args below meth c Q S nL cells slots n M R (pc + 2) lv' st) : V p l e Rm s m args below meth c Q S nL cells slots n M R pc lv (.int x :: st) :=
  fun H locs ls hP hS h => lv_istore C.1.1 C.1.2.1 hd h hn hl (fun ls' h' => k H locs ls' hP hS h')
theorem v_astoren (C : Cx p m meth c s args cc own nL S) {f : Fin 4} {i : Nat} {x : Nat} (hl : (i, Value.ref x) :: lv.filter (fun q => !(q.1 == i) && !(q.1 + 1 == i && q.2.category == 2)) = lv') (hi : (f : Nat) = i) (hn : i < nL) (hd : decode cc pc = .ok (.astore_n f, 1)) (k : V p l e Rm s m args below meth c Q S nL cells slots n M R (pc + 1) lv' st) : V p l e Rm s m args below meth c Q S nL cells slots n M R pc lv (.ref x :: st) :=
  fun H locs ls hP hS h => lv_astore_n C.1.1 C.1.2.1 hd hi h hn hl (fun ls' h' => k H locs ls' hP hS h')
theorem v_iinc (C : Cx p m meth c s args cc own nL S) {i : Nat} {d : Int} {x y v : Int32} (j : Nat) (hj : lv[j]? = some (i, .int x)) (hy : Int32.ofInt d = y) (hv : x + y = v) (hl : (i, Value.int v) :: lv.filter (fun q => !(q.1 == i) && !(q.1 + 1 == i && q.2.category == 2)) = lv') (hn : i < nL) (hd : decode cc pc = .ok (.iinc i d, 3)) (k : V p l e Rm s m args below meth c Q S nL cells slots n M R (pc + 3) lv' st) : V p l e Rm s m args below meth c Q S nL cells slots n M R pc lv st :=
  fun H locs ls hP hS h => lv_iinc C.1.1 C.1.2.1 hd h hj (by rw [hy]; exact hv) hn hl (fun ls' h' => k H locs ls' hP hS h')
theorem v_iadd (C : Cx p m meth c s args cc own nL S) {x y : Int32} (hd : decode cc pc = .ok (.iadd, 1)) (k : V p l e Rm s m args below meth c Q S nL cells slots n M R (pc + 1) lv (.int (x + y) :: st)) : V p l e Rm s m args below meth c Q S nL cells slots n M R pc lv (.int y :: .int x :: st) :=
  fun H locs ls hP hS h => lv_iadd C.1.1 C.1.2.1 hd (k H locs ls hP hS h)
theorem v_isub (C : Cx p m meth c s args cc own nL S) {x y : Int32} (hd : decode cc pc = .ok (.isub, 1)) (k : V p l e Rm s m args below meth c Q S nL cells slots n M R (pc + 1) lv (.int (x - y) :: st)) : V p l e Rm s m args below meth c Q S nL cells slots n M R pc lv (.int y :: .int x :: st) :=
  fun H locs ls hP hS h => lv_isub C.1.1 C.1.2.1 hd (k H locs ls hP hS h)
theorem v_imul (C : Cx p m meth c s args cc own nL S) {x y : Int32} (hd : decode cc pc = .ok (.imul, 1)) (k : V p l e Rm s m args below meth c Q S nL cells slots n M R (pc + 1) lv (.int (x * y) :: st)) : V p l e Rm s m args below meth c Q S nL cells slots n M R pc lv (.int y :: .int x :: st) :=
  fun H locs ls hP hS h => lv_imul C.1.1 C.1.2.1 hd (k H locs ls hP hS h)
theorem v_iand (C : Cx p m meth c s args cc own nL S) {x y : Int32} (hd : decode cc pc = .ok (.iand, 1)) (k : V p l e Rm s m args below meth c Q S nL cells slots n M R (pc + 1) lv (.int (x &&& y) :: st)) : V p l e Rm s m args below meth c Q S nL cells slots n M R pc lv (.int y :: .int x :: st) :=
  fun H locs ls hP hS h => lv_iand C.1.1 C.1.2.1 hd (k H locs ls hP hS h)
theorem v_ior (C : Cx p m meth c s args cc own nL S) {x y : Int32} (hd : decode cc pc = .ok (.ior, 1)) (k : V p l e Rm s m args below meth c Q S nL cells slots n M R (pc + 1) lv (.int (x ||| y) :: st)) : V p l e Rm s m args below meth c Q S nL cells slots n M R pc lv (.int y :: .int x :: st) :=
  fun H locs ls hP hS h => lv_ior C.1.1 C.1.2.1 hd (k H locs ls hP hS h)
theorem v_irem (C : Cx p m meth c s args cc own nL S) {x y : Int32} (hy : ¬ y = 0) (hd : decode cc pc = .ok (.irem, 1)) (k : V p l e Rm s m args below meth c Q S nL cells slots n M R (pc + 1) lv (.int (x - x / y * y) :: st)) : V p l e Rm s m args below meth c Q S nL cells slots n M R pc lv (.int y :: .int x :: st) :=
  fun H locs ls hP hS h => lv_irem C.1.1 C.1.2.1 hd hy (k H locs ls hP hS h)
theorem v_ineg (C : Cx p m meth c s args cc own nL S) {x : Int32} (hd : decode cc pc = .ok (.ineg, 1)) (k : V p l e Rm s m args below meth c Q S nL cells slots n M R (pc + 1) lv (.int (-x) :: st)) : V p l e Rm s m args below meth c Q S nL cells slots n M R pc lv (.int x :: st) :=
  fun H locs ls hP hS h => lv_ineg C.1.1 C.1.2.1 hd (k H locs ls hP hS h)
theorem v_ishl (C : Cx p m meth c s args cc own nL S) {x y : Int32} (hd : decode cc pc = .ok (.ishl, 1)) (k : V p l e Rm s m args below meth c Q S nL cells slots n M R (pc + 1) lv (.int (x <<< (y &&& 31)) :: st)) : V p l e Rm s m args below meth c Q S nL cells slots n M R pc lv (.int y :: .int x :: st) :=
  fun H locs ls hP hS h => lv_ishl C.1.1 C.1.2.1 hd (k H locs ls hP hS h)
theorem v_ishr (C : Cx p m meth c s args cc own nL S) {x y : Int32} (hd : decode cc pc = .ok (.ishr, 1)) (k : V p l e Rm s m args below meth c Q S nL cells slots n M R (pc + 1) lv (.int (x >>> (y &&& 31)) :: st)) : V p l e Rm s m args below meth c Q S nL cells slots n M R pc lv (.int y :: .int x :: st) :=
  fun H locs ls hP hS h => lv_ishr C.1.1 C.1.2.1 hd (k H locs ls hP hS h)
theorem v_iushr (C : Cx p m meth c s args cc own nL S) {x y : Int32} (hd : decode cc pc = .ok (.iushr, 1)) (k : V p l e Rm s m args below meth c Q S nL cells slots n M R (pc + 1) lv (.int ((x.toUInt32 >>> (y.toUInt32 &&& Int32.toUInt32 31)).toInt32) :: st)) : V p l e Rm s m args below meth c Q S nL cells slots n M R pc lv (.int y :: .int x :: st) :=
  fun H locs ls hP hS h => lv_iushr C.1.1 C.1.2.1 hd rfl (k H locs ls hP hS h)
theorem v_dup (C : Cx p m meth c s args cc own nL S) {v : Value} (hv : v.category = 1) (hd : decode cc pc = .ok (.dup, 1)) (k : V p l e Rm s m args below meth c Q S nL cells slots n M R (pc + 1) lv (v :: v :: st)) : V p l e Rm s m args below meth c Q S nL cells slots n M R pc lv (v :: st) :=
  fun H locs ls hP hS h => lv_dup C.1.1 C.1.2.1 hd hv (k H locs ls hP hS h)
theorem v_dup2 (C : Cx p m meth c s args cc own nL S) {v w : Value} (hv : v.category = 1) (hw : w.category = 1) (hd : decode cc pc = .ok (.dup2, 1)) (k : V p l e Rm s m args below meth c Q S nL cells slots n M R (pc + 1) lv (v :: w :: v :: w :: st)) : V p l e Rm s m args below meth c Q S nL cells slots n M R pc lv (v :: w :: st) :=
  fun H locs ls hP hS h => lv_dup2_11 C.1.1 C.1.2.1 hd hv hw (k H locs ls hP hS h)
theorem v_pop (C : Cx p m meth c s args cc own nL S) {v : Value} (hv : v.category = 1) (hd : decode cc pc = .ok (.pop, 1)) (k : V p l e Rm s m args below meth c Q S nL cells slots n M R (pc + 1) lv st) : V p l e Rm s m args below meth c Q S nL cells slots n M R pc lv (v :: st) :=
  fun H locs ls hP hS h => lv_pop C.1.1 C.1.2.1 hd hv (k H locs ls hP hS h)
theorem v_goto (C : Cx p m meth c s args cc own nL S) {o : Int} (tgt : Nat) (ht : (pc : Int) + o = (tgt : Int)) (hd : decode cc pc = .ok (.goto o, 3)) (k : V p l e Rm s m args below meth c Q S nL cells slots n M R tgt lv st) : V p l e Rm s m args below meth c Q S nL cells slots n M R pc lv st :=
  fun H locs ls hP hS h => lv_goto C.1.1 C.1.2.1 hd ht (k H locs ls hP hS h)
theorem v_if_eq (C : Cx p m meth c s args cc own nL S) {x : Int32} {o : Int} (tgt : Nat) (ht : (pc : Int) + o = (tgt : Int)) (hd : decode cc pc = .ok (.ifCond .eq o, 3)) (kt : x = 0 → V p l e Rm s m args below meth c Q S nL cells slots n M R tgt lv st) (kf : ¬ x = 0 → V p l e Rm s m args below meth c Q S nL cells slots n M R (pc + 3) lv st) : V p l e Rm s m args below meth c Q S nL cells slots n M R pc lv (.int x :: st) :=
  fun H locs ls hP hS h => lv_if_eq C.1.1 C.1.2.1 hd ht (fun q => kt q H locs ls hP hS h) (fun q => kf q H locs ls hP hS h)
theorem v_icmp_eq (C : Cx p m meth c s args cc own nL S) {x y : Int32} {o : Int} (tgt : Nat) (ht : (pc : Int) + o = (tgt : Int)) (hd : decode cc pc = .ok (.if_icmp .eq o, 3)) (kt : x = y → V p l e Rm s m args below meth c Q S nL cells slots n M R tgt lv st) (kf : ¬ x = y → V p l e Rm s m args below meth c Q S nL cells slots n M R (pc + 3) lv st) : V p l e Rm s m args below meth c Q S nL cells slots n M R pc lv (.int y :: .int x :: st) :=
  fun H locs ls hP hS h => lv_icmp_eq C.1.1 C.1.2.1 hd ht (fun q => kt q H locs ls hP hS h) (fun q => kf q H locs ls hP hS h)
theorem v_if_ne (C : Cx p m meth c s args cc own nL S) {x : Int32} {o : Int} (tgt : Nat) (ht : (pc : Int) + o = (tgt : Int)) (hd : decode cc pc = .ok (.ifCond .ne o, 3)) (kt : ¬ x = 0 → V p l e Rm s m args below meth c Q S nL cells slots n M R tgt lv st) (kf : x = 0 → V p l e Rm s m args below meth c Q S nL cells slots n M R (pc + 3) lv st) : V p l e Rm s m args below meth c Q S nL cells slots n M R pc lv (.int x :: st) :=
  fun H locs ls hP hS h => lv_if_ne C.1.1 C.1.2.1 hd ht (fun q => kt q H locs ls hP hS h) (fun q => kf q H locs ls hP hS h)
theorem v_icmp_ne (C : Cx p m meth c s args cc own nL S) {x y : Int32} {o : Int} (tgt : Nat) (ht : (pc : Int) + o = (tgt : Int)) (hd : decode cc pc = .ok (.if_icmp .ne o, 3)) (kt : ¬ x = y → V p l e Rm s m args below meth c Q S nL cells slots n M R tgt lv st) (kf : x = y → V p l e Rm s m args below meth c Q S nL cells slots n M R (pc + 3) lv st) : V p l e Rm s m args below meth c Q S nL cells slots n M R pc lv (.int y :: .int x :: st) :=
  fun H locs ls hP hS h => lv_icmp_ne C.1.1 C.1.2.1 hd ht (fun q => kt q H locs ls hP hS h) (fun q => kf q H locs ls hP hS h)
theorem v_if_lt (C : Cx p m meth c s args cc own nL S) {x : Int32} {o : Int} (tgt : Nat) (ht : (pc : Int) + o = (tgt : Int)) (hd : decode cc pc = .ok (.ifCond .lt o, 3)) (kt : x < 0 → V p l e Rm s m args below meth c Q S nL cells slots n M R tgt lv st) (kf : ¬ x < 0 → V p l e Rm s m args below meth c Q S nL cells slots n M R (pc + 3) lv st) : V p l e Rm s m args below meth c Q S nL cells slots n M R pc lv (.int x :: st) :=
  fun H locs ls hP hS h => lv_if_lt C.1.1 C.1.2.1 hd ht (fun q => kt q H locs ls hP hS h) (fun q => kf q H locs ls hP hS h)
theorem v_icmp_lt (C : Cx p m meth c s args cc own nL S) {x y : Int32} {o : Int} (tgt : Nat) (ht : (pc : Int) + o = (tgt : Int)) (hd : decode cc pc = .ok (.if_icmp .lt o, 3)) (kt : x < y → V p l e Rm s m args below meth c Q S nL cells slots n M R tgt lv st) (kf : ¬ x < y → V p l e Rm s m args below meth c Q S nL cells slots n M R (pc + 3) lv st) : V p l e Rm s m args below meth c Q S nL cells slots n M R pc lv (.int y :: .int x :: st) :=
  fun H locs ls hP hS h => lv_icmp_lt C.1.1 C.1.2.1 hd ht (fun q => kt q H locs ls hP hS h) (fun q => kf q H locs ls hP hS h)
theorem v_if_ge (C : Cx p m meth c s args cc own nL S) {x : Int32} {o : Int} (tgt : Nat) (ht : (pc : Int) + o = (tgt : Int)) (hd : decode cc pc = .ok (.ifCond .ge o, 3)) (kt : 0 ≤ x → V p l e Rm s m args below meth c Q S nL cells slots n M R tgt lv st) (kf : ¬ 0 ≤ x → V p l e Rm s m args below meth c Q S nL cells slots n M R (pc + 3) lv st) : V p l e Rm s m args below meth c Q S nL cells slots n M R pc lv (.int x :: st) :=
  fun H locs ls hP hS h => lv_if_ge C.1.1 C.1.2.1 hd ht (fun q => kt q H locs ls hP hS h) (fun q => kf q H locs ls hP hS h)
theorem v_icmp_ge (C : Cx p m meth c s args cc own nL S) {x y : Int32} {o : Int} (tgt : Nat) (ht : (pc : Int) + o = (tgt : Int)) (hd : decode cc pc = .ok (.if_icmp .ge o, 3)) (kt : y ≤ x → V p l e Rm s m args below meth c Q S nL cells slots n M R tgt lv st) (kf : ¬ y ≤ x → V p l e Rm s m args below meth c Q S nL cells slots n M R (pc + 3) lv st) : V p l e Rm s m args below meth c Q S nL cells slots n M R pc lv (.int y :: .int x :: st) :=
  fun H locs ls hP hS h => lv_icmp_ge C.1.1 C.1.2.1 hd ht (fun q => kt q H locs ls hP hS h) (fun q => kf q H locs ls hP hS h)
theorem v_if_gt (C : Cx p m meth c s args cc own nL S) {x : Int32} {o : Int} (tgt : Nat) (ht : (pc : Int) + o = (tgt : Int)) (hd : decode cc pc = .ok (.ifCond .gt o, 3)) (kt : 0 < x → V p l e Rm s m args below meth c Q S nL cells slots n M R tgt lv st) (kf : ¬ 0 < x → V p l e Rm s m args below meth c Q S nL cells slots n M R (pc + 3) lv st) : V p l e Rm s m args below meth c Q S nL cells slots n M R pc lv (.int x :: st) :=
  fun H locs ls hP hS h => lv_if_gt C.1.1 C.1.2.1 hd ht (fun q => kt q H locs ls hP hS h) (fun q => kf q H locs ls hP hS h)
theorem v_icmp_gt (C : Cx p m meth c s args cc own nL S) {x y : Int32} {o : Int} (tgt : Nat) (ht : (pc : Int) + o = (tgt : Int)) (hd : decode cc pc = .ok (.if_icmp .gt o, 3)) (kt : y < x → V p l e Rm s m args below meth c Q S nL cells slots n M R tgt lv st) (kf : ¬ y < x → V p l e Rm s m args below meth c Q S nL cells slots n M R (pc + 3) lv st) : V p l e Rm s m args below meth c Q S nL cells slots n M R pc lv (.int y :: .int x :: st) :=
  fun H locs ls hP hS h => lv_icmp_gt C.1.1 C.1.2.1 hd ht (fun q => kt q H locs ls hP hS h) (fun q => kf q H locs ls hP hS h)
theorem v_if_le (C : Cx p m meth c s args cc own nL S) {x : Int32} {o : Int} (tgt : Nat) (ht : (pc : Int) + o = (tgt : Int)) (hd : decode cc pc = .ok (.ifCond .le o, 3)) (kt : x ≤ 0 → V p l e Rm s m args below meth c Q S nL cells slots n M R tgt lv st) (kf : ¬ x ≤ 0 → V p l e Rm s m args below meth c Q S nL cells slots n M R (pc + 3) lv st) : V p l e Rm s m args below meth c Q S nL cells slots n M R pc lv (.int x :: st) :=
  fun H locs ls hP hS h => lv_if_le C.1.1 C.1.2.1 hd ht (fun q => kt q H locs ls hP hS h) (fun q => kf q H locs ls hP hS h)
theorem v_icmp_le (C : Cx p m meth c s args cc own nL S) {x y : Int32} {o : Int} (tgt : Nat) (ht : (pc : Int) + o = (tgt : Int)) (hd : decode cc pc = .ok (.if_icmp .le o, 3)) (kt : x ≤ y → V p l e Rm s m args below meth c Q S nL cells slots n M R tgt lv st) (kf : ¬ x ≤ y → V p l e Rm s m args below meth c Q S nL cells slots n M R (pc + 3) lv st) : V p l e Rm s m args below meth c Q S nL cells slots n M R pc lv (.int y :: .int x :: st) :=
  fun H locs ls hP hS h => lv_icmp_le C.1.1 C.1.2.1 hd ht (fun q => kt q H locs ls hP hS h) (fun q => kf q H locs ls hP hS h)
end VV
end
section
def ix (i : Int32) : Nat := i.toNatClampNeg
def isB (v : Int32) : Prop := v = 0 ∨ v = 1
/-- a written number as an index -/
def Lit (i : Int32) (k : Nat) : Prop := ¬ i < 0 ∧ i.toNatClampNeg = k
theorem isB0 : isB 0 := Or.inl rfl
theorem isB1 : isB 1 := Or.inr rfl
theorem nar_b {v : Int32} (h : isB v) : narrow .boolean (.int v) = .int v := by rcases h with rfl | rfl <;> rfl
theorem fit_b {v : Int32} (h : isB v) : fits .boolean (.int v) = true := by rcases h with rfl | rfl <;> rfl
theorem vpn_b {v : Int32} (h : isB v) : vp_nar .boolean v = v := by rcases h with rfl | rfl <;> rfl
theorem Lit.in {i : Int32} {k z : Nat} (h : Lit i k) (hz : k < z) : vp_in i z := fun q => q.elim h.1 (fun q2 => by have := h.2; omega)
/-- a class, as the kit's rows want it -/
def CRow (ci : Nat) (Cn : String) (T : u_T) (N : Nat) (ty0 : Nat → FieldType) : Prop :=
  vwCl[ci]? = some (Cn, T, N) ∧ ci < 8 ∧ NF ci = N ∧ (∀ w ∈ u_ws Cn T N, w ∈ LG) ∧ (∀ k, k < N → parseFieldDescriptor (T k).2.2.1 = some (ty0 k)) ∧ (∀ a, a < N → ∀ b, b < N → a ≠ b → (T a).2.1 ≠ (T b).2.1) ∧ (∀ k, k < N → defaultValue (ty0 k) = if FK ci k = true then .null else .int 0)
/-- a field's link -/
def FR (own : String) (idx ci k : Nat) (fin : Bool) (ty : FieldType) : Prop :=
  ∃ (Cn : String) (T : u_T) (N : Nat) (ty0 : Nat → FieldType), CRow ci Cn T N ty0 ∧ k < N ∧ ty0 k = ty ∧ (T k).2.2.2 = fin ∧ Cond.fieldLink own idx (T k).1 (T k).2.1 (T k).2.2.1 ∈ LG ∧ (fin = true → own = Cn → (T k).1 = own)
/-- a call's links: virtual, static, static of the nest -/
def MV (own : String) (idx ci : Nat) (y : MethodName) (cd : ByteArray) (mL : Nat) (rt : Option FieldType) (na : Nat) : Prop :=
  (∃ (T : u_T) (N : Nat), vwCl[ci]? = some (y.cls, T, N)) ∧ ci < 8 ∧ Cond.methodLink own idx y ∈ LG ∧ Cond.instanceMethod y ∈ LG ∧ Cond.selects y.cls y y ∈ LG ∧ Cond.initialized y.cls ∈ LG ∧ Cond.code y cd mL rt ∈ LG ∧ y.cls ≠ "java/lang/invoke/MethodHandle" ∧ y.cls ≠ "java/lang/invoke/VarHandle" ∧ (parseMethodDescriptor y.desc).map (fun d => d.parameters.length) = some na
def MS (own : String) (idx : Nat) (y : MethodName) (cd : ByteArray) (mL : Nat) (rt : Option FieldType) (na : Nat) : Prop :=
  Cond.methodLink own idx y ∈ LG ∧ Cond.static y ∈ LG ∧ Cond.initialized y.cls ∈ LG ∧ Cond.code y cd mL rt ∈ LG ∧ y.cls ≠ "java/lang/invoke/MethodHandle" ∧ y.cls ≠ "java/lang/invoke/VarHandle" ∧ (parseMethodDescriptor y.desc).map (fun d => d.parameters.length) = some na
def MN (y : MethodName) (cd : ByteArray) (mL : Nat) (rt : Option FieldType) (na : Nat) : Prop :=
  Cond.static y ∈ LG ∧ Cond.initialized y.cls ∈ LG ∧ Cond.code y cd mL rt ∈ LG ∧ y.cls ≠ "java/lang/invoke/MethodHandle" ∧ y.cls ≠ "java/lang/invoke/VarHandle" ∧ (parseMethodDescriptor y.desc).map (fun d => d.parameters.length) = some na
def MI (y : MethodName) (cd : ByteArray) (mL : Nat) (na : Nat) : Prop :=
  Cond.instanceMethod y ∈ LG ∧ Cond.initialized y.cls ∈ LG ∧ Cond.code y cd mL none ∈ LG ∧ y.cls ≠ "java/lang/invoke/MethodHandle" ∧ y.cls ≠ "java/lang/invoke/VarHandle" ∧ (parseMethodDescriptor y.desc).map (fun d => d.parameters.length) = some na ∧ y.name = "<init>"
theorem xpre_blind {S : XS} {n : Nat} {M : Mem} {R : Rfs} {av : List Value} : FrameBlind (va_Pc av (XPre S n M R)) := fun a U g mk q => ⟨q.1, q.2.1, va_K.moved (u := U) (U := U.calling g mk a) (Vm.Alike.refl U.vm) q.2.2.1, q.2.2.2.same (U := U.calling g mk a) rfl⟩
theorem xpreg_blind {S : XS} {n : Nat} {M : Mem} {R : Rfs} {av : List Value} : FrameBlind (va_Pc av (XPreG S n M R)) := fun a U g mk q => ⟨q.1, q.2.1, q.2.2.1, va_K.moved (u := U) (U := U.calling g mk a) (Vm.Alike.refl U.vm) q.2.2.2.1, q.2.2.2.2.same (U := U.calling g mk a) rfl⟩

section V2
variable {p : Program} {l : Launch} {e : Env} {Rm : Room} {s : State} {m : MethodId} {args : Array Value} {below : List Frame} {meth : Method} {c : Code} {Q : State → Prop}
variable {cc : ByteArray} {own : String} {nL cells slots n pc : Nat} {S : XS} {M : Mem} {R : Rfs} {lv lv' : List (Nat × Value)} {st : List Value}
theorem v_geti (C : Cx p m meth c s args cc own nL S) {idx ci k z o : Nat} {fin : Bool} {ty : FieldType} (hf : FR own idx ci k fin ty) (hs : SH o = (ci, z)) (ho : o < n) (hi : FK ci k = false) (hd : decode cc pc = .ok (.getfield idx, 3)) (kk : V p l e Rm s m args below meth c Q S nL cells slots n M R (pc + 3) lv (.int (M o k) :: st)) : V p l e Rm s m args below meth c Q S nL cells slots n M R pc lv (.ref (XB S + o) :: st) := by
  obtain ⟨Cn, T, N, ty0, ⟨h1, h2, h3, h4, h5, h6, h7⟩, hk, hty, hfin, hlink, hown⟩ := hf
  intro H locs ls hP hS h
  exact va_get (D := S.1) (ci := ci) (v := .int (M o k)) C.1.1 C.1.2.1 C.1.2.2.2.2 h4 C.1.2.2.2.1 C.2.1.1 hP o (xw_obj ho hs h2) h1 k hk (C.1.2.2.2.2 _ hlink) (fun _ h9 => h9) (by simp [h3, hk, XF, hi]) hd (kk H locs ls hP hS h)
theorem v_getr (C : Cx p m meth c s args cc own nL S) {idx ci k z o : Nat} {fin : Bool} {ty : FieldType} (hf : FR own idx ci k fin ty) (hs : SH o = (ci, z)) (ho : o < n) (hi : FK ci k = true) {o' : Nat} (hr : R o k = some o') (hd : decode cc pc = .ok (.getfield idx, 3)) (kk : V p l e Rm s m args below meth c Q S nL cells slots n M R (pc + 3) lv (.ref (XB S + o') :: st)) : V p l e Rm s m args below meth c Q S nL cells slots n M R pc lv (.ref (XB S + o) :: st) := by
  obtain ⟨Cn, T, N, ty0, ⟨h1, h2, h3, h4, h5, h6, h7⟩, hk, hty, hfin, hlink, hown⟩ := hf
  intro H locs ls hP hS h
  exact va_get (D := S.1) (ci := ci) (v := .ref (XB S + o')) C.1.1 C.1.2.1 C.1.2.2.2.2 h4 C.1.2.2.2.1 C.2.1.1 hP o (xw_obj ho hs h2) h1 k hk (C.1.2.2.2.2 _ hlink) (fun _ h9 => h9) (by simp [h3, hk, XF, hi, hr, va_rf]) hd (kk H locs ls hP hS h)
theorem v_putx (C : Cx p m meth c s args cc own nL S) {idx ci k z o : Nat} {ty : FieldType} (hf : FR own idx ci k false ty) (hs : SH o = (ci, z)) (ho : o < n) {v : Int32} (hn : narrow ty (.int v) = .int v) (hfit : fits ty (.int v) = true) (hi : FK ci k = false) (hd : decode cc pc = .ok (.putfield idx, 3)) (kk : ∀ M', M' = mw M o k v → V p l e Rm s m args below meth c Q S nL cells slots n M' R (pc + 3) lv st) : V p l e Rm s m args below meth c Q S nL cells slots n M R pc lv (.int v :: .ref (XB S + o) :: st) := by
  obtain ⟨Cn, T, N, ty0, ⟨h1, h2, h3, h4, h5, h6, h7⟩, hk, hty, hfin, hlink, hown⟩ := hf
  intro H locs ls hP hS h
  refine va_put (D := S.1) (ci := ci) (v := .int v) (ty := ty) C.1.1 C.1.2.1 C.1.2.2.2.2 h4 ty0 h5 h6 C.1.2.2.2.1 C.2.1.1 hP xw_D hS o (xw_obj ho hs h2) h1 k hk (C.1.2.2.2.2 _ hlink) (fun _ h9 => h9) hfin (by rw [← hty]; exact h5 k hk) hn hfit (by simp [h3, hk]) hd (fun H1 locs1 hP1 hD1 hS1 => ?_)
  rw [xw_puti hs h2 hi] at hP1
  exact kk _ rfl H1 locs1 ls hP1 hS1 h
theorem v_puti (C : Cx p m meth c s args cc own nL S) {idx ci k z o : Nat} (hf : FR own idx ci k false .int) (hs : SH o = (ci, z)) (ho : o < n) (hi : FK ci k = false) {v : Int32} (hd : decode cc pc = .ok (.putfield idx, 3)) (kk : ∀ M', M' = mw M o k v → V p l e Rm s m args below meth c Q S nL cells slots n M' R (pc + 3) lv st) : V p l e Rm s m args below meth c Q S nL cells slots n M R pc lv (.int v :: .ref (XB S + o) :: st) := v_putx C hf hs ho rfl rfl hi hd kk
theorem v_putb (C : Cx p m meth c s args cc own nL S) {idx ci k z o : Nat} (hf : FR own idx ci k false .boolean) (hs : SH o = (ci, z)) (ho : o < n) (hi : FK ci k = false) {v : Int32} (hb : isB v) (hd : decode cc pc = .ok (.putfield idx, 3)) (kk : ∀ M', M' = mw M o k v → V p l e Rm s m args below meth c Q S nL cells slots n M' R (pc + 3) lv st) : V p l e Rm s m args below meth c Q S nL cells slots n M R pc lv (.int v :: .ref (XB S + o) :: st) := v_putx C hf hs ho (nar_b hb) (fit_b hb) hi hd kk
theorem v_putr (C : Cx p m meth c s args cc own nL S) {idx ci k z o : Nat} {ty : FieldType} (hf : FR own idx ci k false ty) (hs : SH o = (ci, z)) (ho : o < n) {v : Nat} (hn : narrow ty (.ref (XB S + v)) = .ref (XB S + v)) (hfit : fits ty (.ref (XB S + v)) = true) (hi : FK ci k = true) (hd : decode cc pc = .ok (.putfield idx, 3)) (kk : ∀ R', R' = mr R o k v → V p l e Rm s m args below meth c Q S nL cells slots n M R' (pc + 3) lv st) : V p l e Rm s m args below meth c Q S nL cells slots n M R pc lv (.ref (XB S + v) :: .ref (XB S + o) :: st) := by
  obtain ⟨Cn, T, N, ty0, ⟨h1, h2, h3, h4, h5, h6, h7⟩, hk, hty, hfin, hlink, hown⟩ := hf
  intro H locs ls hP hS h
  refine va_put (D := S.1) (ci := ci) (v := .ref (XB S + v)) (ty := ty) C.1.1 C.1.2.1 C.1.2.2.2.2 h4 ty0 h5 h6 C.1.2.2.2.1 C.2.1.1 hP xw_D hS o (xw_obj ho hs h2) h1 k hk (C.1.2.2.2.2 _ hlink) (fun _ h9 => h9) hfin (by rw [← hty]; exact h5 k hk) hn hfit (by simp [h3, hk]) hd (fun H1 locs1 hP1 hD1 hS1 => ?_)
  rw [xw_putr hs h2 hi] at hP1
  exact kk _ rfl H1 locs1 ls hP1 hS1 h
theorem v_putF (C : Cx p m meth c s args cc own nL S) (hin : meth.name = "<init>") {idx ci k z o : Nat} {ty : FieldType} (hf : FR own idx ci k true ty) (hs : SH o = (ci, z)) (ho : o < n) (hoc : ∀ Cn T N ty0, CRow ci Cn T N ty0 → own = Cn) {v : Nat} (hn : narrow ty (.ref (XB S + v)) = .ref (XB S + v)) (hfit : fits ty (.ref (XB S + v)) = true) (hi : FK ci k = true) (hd : decode cc pc = .ok (.putfield idx, 3)) (kk : ∀ R', R' = mr R o k v → V p l e Rm s m args below meth c Q S nL cells slots n M R' (pc + 3) lv st) : V p l e Rm s m args below meth c Q S nL cells slots n M R pc lv (.ref (XB S + v) :: .ref (XB S + o) :: st) := by
  obtain ⟨Cn, T, N, ty0, ⟨h1, h2, h3, h4, h5, h6, h7⟩, hk, hty, hfin, hlink, hown⟩ := hf
  intro H locs ls hP hS h
  have hOC := hoc Cn T N ty0 ⟨h1, h2, h3, h4, h5, h6, h7⟩
  refine va_putF (D := S.1) (ci := ci) (v := .ref (XB S + v)) (ty := ty) C.1.1 C.1.2.1 C.1.2.2.2.2 h4 ty0 h5 h6 C.1.2.2.2.1 C.2.1.1 hP xw_D hS o (xw_obj ho hs h2) h1 k hk (C.1.2.2.2.2 _ hlink) (fun _ h9 => h9) hfin hin (hown rfl hOC) (by rw [← hty]; exact h5 k hk) hn hfit (by simp [h3, hk]) hd (fun H1 locs1 hP1 hD1 hS1 => ?_)
  rw [xw_putr hs h2 hi] at hP1
  exact kk _ rfl H1 locs1 ls hP1 hS1 h
theorem v_ald (C : Cx p m meth c s args cc own nL S) {a z : Nat} (hs : SH a = (8, z)) (ha : a < n) {i : Int32} (hin : vp_in i z) (hd : decode cc pc = .ok (.iaload, 1)) (kk : V p l e Rm s m args below meth c Q S nL cells slots n M R (pc + 1) lv (.int (M a (ix i)) :: st)) : V p l e Rm s m args below meth c Q S nL cells slots n M R pc lv (.int i :: .ref (XB S + a) :: st) :=
  fun H locs ls hP hS h => va_iald C.1.1 C.1.2.1 C.2.1.1 hP a 0 (xw_i ha hs) rfl hin hd (kk H locs ls hP hS h)
theorem v_aldk (C : Cx p m meth c s args cc own nL S) {a z : Nat} (hs : SH a = (8, z)) (ha : a < n) {i : Int32} {k : Nat} (hi : Lit i k) (hz : k < z) (hd : decode cc pc = .ok (.iaload, 1)) (kk : V p l e Rm s m args below meth c Q S nL cells slots n M R (pc + 1) lv (.int (M a k) :: st)) : V p l e Rm s m args below meth c Q S nL cells slots n M R pc lv (.int i :: .ref (XB S + a) :: st) :=
  v_ald C hs ha (hi.in hz) hd (by rw [show ix i = k from hi.2]; exact kk)
theorem v_ast (C : Cx p m meth c s args cc own nL S) {a z : Nat} (hs : SH a = (8, z)) (ha : a < n) {i : Int32} {x : Int32} (hin : vp_in i z) (hd : decode cc pc = .ok (.iastore, 1)) (kk : ∀ M', M' = mw M a (ix i) x → V p l e Rm s m args below meth c Q S nL cells slots n M' R (pc + 1) lv st) : V p l e Rm s m args below meth c Q S nL cells slots n M R pc lv (.int x :: .int i :: .ref (XB S + a) :: st) :=
  fun H locs ls hP hS h => va_iast C.1.1 C.1.2.1 C.2.1.1 hP xw_D hS a 0 (xw_i ha hs) rfl hin hd (fun H1 locs1 hP1 hD1 hS1 => kk _ rfl H1 locs1 ls (by rw [xw_sti hs] at hP1; exact hP1) hS1 h)
theorem v_astk (C : Cx p m meth c s args cc own nL S) {a z : Nat} (hs : SH a = (8, z)) (ha : a < n) {i : Int32} {k : Nat} {x : Int32} (hi : Lit i k) (hz : k < z) (hd : decode cc pc = .ok (.iastore, 1)) (kk : ∀ M', M' = mw M a k x → V p l e Rm s m args below meth c Q S nL cells slots n M' R (pc + 1) lv st) : V p l e Rm s m args below meth c Q S nL cells slots n M R pc lv (.int x :: .int i :: .ref (XB S + a) :: st) :=
  v_ast C hs ha (hi.in hz) hd (by rw [show ix i = k from hi.2]; exact kk)
theorem v_zald (C : Cx p m meth c s args cc own nL S) {a z : Nat} (hs : SH a = (9, z)) (ha : a < n) {i : Int32} (hin : vp_in i z) (hd : decode cc pc = .ok (.baload, 1)) (kk : V p l e Rm s m args below meth c Q S nL cells slots n M R (pc + 1) lv (.int (M a (ix i)) :: st)) : V p l e Rm s m args below meth c Q S nL cells slots n M R pc lv (.int i :: .ref (XB S + a) :: st) :=
  fun H locs ls hP hS h => va_zald C.1.1 C.1.2.1 C.2.1.1 hP a 1 (xw_z ha hs) rfl hin hd (kk H locs ls hP hS h)
theorem v_zast (C : Cx p m meth c s args cc own nL S) {a z : Nat} (hs : SH a = (9, z)) (ha : a < n) {i : Int32} {x : Int32} (hb : isB x) (hin : vp_in i z) (hd : decode cc pc = .ok (.bastore, 1)) (kk : ∀ M', M' = mw M a (ix i) x → V p l e Rm s m args below meth c Q S nL cells slots n M' R (pc + 1) lv st) : V p l e Rm s m args below meth c Q S nL cells slots n M R pc lv (.int x :: .int i :: .ref (XB S + a) :: st) :=
  fun H locs ls hP hS h => va_zast C.1.1 C.1.2.1 C.2.1.1 hP xw_D hS a 1 (xw_z ha hs) rfl hin hd (fun H1 locs1 hP1 hD1 hS1 => kk _ rfl H1 locs1 ls (by rw [vpn_b hb, xw_stz hs] at hP1; exact hP1) hS1 h)
theorem v_zastk (C : Cx p m meth c s args cc own nL S) {a z : Nat} (hs : SH a = (9, z)) (ha : a < n) {i : Int32} {k : Nat} {x : Int32} (hb : isB x) (hi : Lit i k) (hz : k < z) (hd : decode cc pc = .ok (.bastore, 1)) (kk : ∀ M', M' = mw M a k x → V p l e Rm s m args below meth c Q S nL cells slots n M' R (pc + 1) lv st) : V p l e Rm s m args below meth c Q S nL cells slots n M R pc lv (.int x :: .int i :: .ref (XB S + a) :: st) :=
  v_zast C hs ha hb (hi.in hz) hd (by rw [show ix i = k from hi.2]; exact kk)
theorem v_qald (C : Cx p m meth c s args cc own nL S) {a z : Nat} (hs : SH a = (10, z)) (ha : a < n) {i : Int32} {o' : Nat} (hin : vp_in i z) (hr : R a (ix i) = some o') (hd : decode cc pc = .ok (.aaload, 1)) (kk : V p l e Rm s m args below meth c Q S nL cells slots n M R (pc + 1) lv (.ref (XB S + o') :: st)) : V p l e Rm s m args below meth c Q S nL cells slots n M R pc lv (.int i :: .ref (XB S + a) :: st) := by
  intro H locs ls hP hS h
  refine va_aldq C.1.1 C.1.2.1 C.2.1.1 hP a 2 (xw_q ha hs) rfl hin hd ?_
  have e1 : va_rf ((R a i.toNatClampNeg).map (fun o => XB S + o)) = .ref (XB S + o') := by rw [show R a i.toNatClampNeg = some o' from hr]; rfl
  show W p l e Rm s m args below meth c H locs cells slots Q (F0 m (pc + 1) ls (va_rf ((R a i.toNatClampNeg).map (fun o => XB S + o)) :: st))
  rw [e1]
  exact kk H locs ls hP hS h
theorem v_qastk (C : Cx p m meth c s args cc own nL S) {a z : Nat} (hs : SH a = (10, z)) (ha : a < n) {i : Int32} {k o' z' : Nat} (hi : Lit i k) (hz : k < z) (hs' : SH o' = (4, z')) (ho' : o' < n) (hd : decode cc pc = .ok (.aastore, 1)) (kk : ∀ R', R' = mr R a k o' → V p l e Rm s m args below meth c Q S nL cells slots n M R' (pc + 1) lv st) : V p l e Rm s m args below meth c Q S nL cells slots n M R pc lv (.ref (XB S + o') :: .int i :: .ref (XB S + a) :: st) := by
  intro H locs ls hP hS h
  refine va_astq (r := (RX4, TX4, 14)) C.1.1 C.1.2.1 C.2.1.1 hP xw_D hS a 2 o' 4 (xw_q ha hs) rfl (xw_obj ho' hs' (by decide)) rfl (hi.in hz) hd (fun H1 locs1 hP1 hD1 hS1 => ?_)
  rw [show i.toNatClampNeg = k from hi.2, xw_stq hs] at hP1
  exact kk _ rfl H1 locs1 ls hP1 hS1 h
theorem v_alen (C : Cx p m meth c s args cc own nL S) {a z : Nat} (hs : SH a = (8, z)) (ha : a < n) (hd : decode cc pc = .ok (.arraylength, 1)) (kk : V p l e Rm s m args below meth c Q S nL cells slots n M R (pc + 1) lv (.int (nI z) :: st)) : V p l e Rm s m args below meth c Q S nL cells slots n M R pc lv (.ref (XB S + a) :: st) :=
  fun H locs ls hP hS h => va_alen C.1.1 C.1.2.1 C.2.1.1 hP a 0 (xw_i ha hs) rfl rfl hd (kk H locs ls hP hS h)
theorem v_copy (C : Cx p m meth c s args cc own nL S) {a za b zb idx : Nat} (hs : SH a = (8, za)) (ha : a < n) (hs' : SH b = (8, zb)) (hb : b < n) {sp dp len : Int32} (hlk : Cond.methodLink own idx arraycopyName ∈ LG) (hnat : Cond.native arraycopyName ∈ LG) (hst : Cond.static arraycopyName ∈ LG) (hini : Cond.initialized "java/lang/System" ∈ LG) (h1 : ¬ sp < 0) (h2 : ¬ dp < 0) (h3 : ¬ len < 0) (h4 : ix sp + ix len ≤ za) (h5 : ix dp + ix len ≤ zb) (hfr : 1 ≤ Rm.frames) (hlo : (st.map fun v => v.category).sum + 18 ≤ Rm.locals) (hd : decode cc pc = .ok (.invokestatic idx, 3)) (kk : ∀ M', M' = mcp M a (ix sp) b (ix dp) (ix len) → V p l e Rm s m args below meth c Q S nL cells slots n M' R (pc + 3) lv st) : V p l e Rm s m args below meth c Q S nL cells slots n M R pc lv (.int len :: .int dp :: .ref (XB S + b) :: .int sp :: .ref (XB S + a) :: st) := by
  intro H locs ls hP hS h
  refine va_copyi C.1.1 C.1.2.1 (C.1.2.2.1.trans h.1.symm) C.1.2.2.2.1 (C.1.2.2.2.2 _ hlk) (C.1.2.2.2.2 _ hnat) (C.1.2.2.2.2 _ hst) (C.1.2.2.2.2 _ hini) C.2.1.1 hP xw_D hS a b 0 0 (xw_i ha hs) (xw_i hb hs') rfl rfl rfl h1 h2 h3 h4 h5 (fun _ _ => rfl) hfr hlo hd (fun H1 locs1 hP1 hD1 hS1 => ?_)
  rw [xw_cpi hs'] at hP1
  exact kk _ rfl H1 locs1 ls hP1 hS1 h
theorem v_iret (C : Cx p m meth c s args cc own nL S) {K : Int32 → Mem → Prop} {v : Int32} (hr : meth.sig.returnType = some .int) (hd : decode cc pc = .ok (.ireturn, 1)) (hk : K v M) : V p l e Rm s m args below meth c (MQ below (va_Qi K (XPost S n R) (XA S)) args s cells slots (XA S)) S nL cells slots n M R pc lv [.int v] :=
  fun H locs ls hP hS h => W.iret C.1.1 C.1.2.1 hr (fun t ht hW => ⟨⟨v, M, rfl, hk, show va_P S.1 vwCl (XW S n M R) t.heap by rw [ht]; exact hP⟩, hS.F ht⟩) hS.2.2 hd C.2.2
theorem v_zret (C : Cx p m meth c s args cc own nL S) {K : Int32 → Mem → Prop} {v : Int32} (hb : isB v) (hr : meth.sig.returnType = some .boolean) (hd : decode cc pc = .ok (.ireturn, 1)) (hk : K v M) : V p l e Rm s m args below meth c (MQ below (va_Qi K (XPost S n R) (XA S)) args s cells slots (XA S)) S nL cells slots n M R pc lv [.int v] :=
  fun H locs ls hP hS h => W.zret C.1.1 C.1.2.1 hr (nar_b hb) (fun t ht hW => ⟨⟨v, M, rfl, hk, show va_P S.1 vwCl (XW S n M R) t.heap by rw [ht]; exact hP⟩, hS.F ht⟩) hS.2.2 hd C.2.2
theorem v_vret (C : Cx p m meth c s args cc own nL S) {K : Mem → Prop} (hr : meth.sig.returnType = none) (hd : decode cc pc = .ok (.return_, 1)) (hk : K M) : V p l e Rm s m args below meth c (MQ below (va_Qv K (XPost S n R) (XA S)) args s cells slots (XA S)) S nL cells slots n M R pc lv [] :=
  fun H locs ls hP hS h => W.vret C.1.1 C.1.2.1 hr (fun t ht hW => ⟨⟨M, rfl, hk, show va_P S.1 vwCl (XW S n M R) t.heap by rw [ht]; exact hP⟩, hS.F ht⟩) hS.2.2 hd C.2.2
theorem v_iretR (C : Cx p m meth c s args cc own nL S) {K : Int32 → Mem × Rfs → Prop} {v : Int32} (hr : meth.sig.returnType = some .int) (hd : decode cc pc = .ok (.ireturn, 1)) (hk : K v (M, R)) : V p l e Rm s m args below meth c (MQ below (va_Qi K (fun u t => XPost S n u.2 u.1 t) (XA S)) args s cells slots (XA S)) S nL cells slots n M R pc lv [.int v] :=
  fun H locs ls hP hS h => W.iret C.1.1 C.1.2.1 hr (fun t ht hW => ⟨⟨v, (M, R), rfl, hk, show va_P S.1 vwCl (XW S n M R) t.heap by rw [ht]; exact hP⟩, hS.F ht⟩) hS.2.2 hd C.2.2
theorem v_vretG (C : Cx p m meth c s args cc own nL S) {K : Mem × Rfs → Prop} (hr : meth.sig.returnType = none) (hd : decode cc pc = .ok (.return_, 1)) (hk : K (M, R)) : V p l e Rm s m args below meth c (MQ below (va_Qv K (fun u t => XPost S n u.2 u.1 t) (XA S)) args s cells slots (XA S)) S nL cells slots n M R pc lv [] :=
  fun H locs ls hP hS h => W.vret C.1.1 C.1.2.1 hr (fun t ht hW => ⟨⟨(M, R), rfl, hk, show va_P S.1 vwCl (XW S n M R) t.heap by rw [ht]; exact hP⟩, hS.F ht⟩) hS.2.2 hd C.2.2
theorem v_cvI (C : Cx p m meth c s args cc own nL S) {y : MethodName} {cd : ByteArray} {mL na idx ci z o : Nat} {rt : Option FieldType} {rm : Room} {As : List Value} {K : Int32 → Mem → Prop} (row : MV own idx ci y cd mL rt na) (hM : CI l y cd mL rt rm S n R (.ref (XB S + o) :: As) M K) (hs : SH o = (ci, z)) (ho : o < n) (hn : As.length = na) (hfr : rm.frames + 1 ≤ Rm.frames ∧ 8 + (mL + 11) + rm.locals ≤ Rm.locals) (hcs : rm.cells = 0 ∧ rm.slots = 0 ∧ cells ≤ Rm.cells ∧ slots ≤ Rm.slots) (hW : (st.map fun v => v.category).sum ≤ 8) (hd : decode cc pc = .ok (.invokevirtual idx, 3)) (kk : ∀ r M', K r M' → V p l e Rm s m args below meth c Q S nL cells slots n M' R (pc + 3) lv (.int r :: st)) : V p l e Rm s m args below meth c Q S nL cells slots n M R pc lv (As.reverse ++ .ref (XB S + o) :: st) := by
  obtain ⟨⟨T, N, h1⟩, h2, hlk, hin, hse, hini, hco, hd1, hd2, hd3⟩ := row
  intro H locs ls hP hS h
  have hcw : CallW Rm s args own y.cls idx y cd mL rt (Cond.code y cd mL rt :: LG) rm 0 0 na := ⟨callB_of na C.1.2.2.2.2 (lg_good hco) rfl hcs.1 hcs.2.1 (C.1.2.2.2.2 _ hini) (C.1.2.2.2.2 _ hlk) ⟨hd1, hd2, hd3⟩ hfr, C.1.2.2.2.2 _ hin, C.1.2.2.2.2 _ hse⟩
  refine va_calli (va_runV (As := As) (rest := st) C.1 hM hcw ⟨xpre_blind, va_recv C.2.1.1 hP h1 (xw_obj ho hs h2), fun U hU hW => ⟨rfl, by rw [hU]; exact hP, C.2.1.warm hW⟩⟩ rfl hn h.1 rfl (lv_room hW) hd ⟨hcs.2.2.1, hcs.2.2.2⟩) hS (fun q _ h => h) (fun q h => h) ?_
  intro r u t H1 locs1 ht hvm hw hB hz1 hk1 hS1
  exact kk r u hw H1 locs1 ls (by rw [← ht]; exact hB) hS1 h
theorem v_cvV (C : Cx p m meth c s args cc own nL S) {y : MethodName} {cd : ByteArray} {mL na idx ci z o : Nat} {rm : Room} {As : List Value} {K : Mem → Prop} (row : MV own idx ci y cd mL none na) (hM : CV l y cd mL rm S n R (.ref (XB S + o) :: As) M K) (hs : SH o = (ci, z)) (ho : o < n) (hn : As.length = na) (hfr : rm.frames + 1 ≤ Rm.frames ∧ 8 + (mL + 11) + rm.locals ≤ Rm.locals) (hcs : rm.cells = 0 ∧ rm.slots = 0 ∧ cells ≤ Rm.cells ∧ slots ≤ Rm.slots) (hW : (st.map fun v => v.category).sum ≤ 8) (hd : decode cc pc = .ok (.invokevirtual idx, 3)) (kk : ∀ M', K M' → V p l e Rm s m args below meth c Q S nL cells slots n M' R (pc + 3) lv st) : V p l e Rm s m args below meth c Q S nL cells slots n M R pc lv (As.reverse ++ .ref (XB S + o) :: st) := by
  obtain ⟨⟨T, N, h1⟩, h2, hlk, hin, hse, hini, hco, hd1, hd2, hd3⟩ := row
  intro H locs ls hP hS h
  have hcw : CallW Rm s args own y.cls idx y cd mL none (Cond.code y cd mL none :: LG) rm 0 0 na := ⟨callB_of na C.1.2.2.2.2 (lg_good hco) rfl hcs.1 hcs.2.1 (C.1.2.2.2.2 _ hini) (C.1.2.2.2.2 _ hlk) ⟨hd1, hd2, hd3⟩ hfr, C.1.2.2.2.2 _ hin, C.1.2.2.2.2 _ hse⟩
  refine va_callv (va_runV (As := As) (rest := st) C.1 hM hcw ⟨xpre_blind, va_recv C.2.1.1 hP h1 (xw_obj ho hs h2), fun U hU hW => ⟨rfl, by rw [hU]; exact hP, C.2.1.warm hW⟩⟩ rfl hn h.1 rfl (lv_room hW) hd ⟨hcs.2.2.1, hcs.2.2.2⟩) hS (fun q _ h => h) (fun q h => h) ?_
  intro u t H1 locs1 ht hvm hw hB hz1 hk1 hS1
  exact kk u hw H1 locs1 ls (by rw [← ht]; exact hB) hS1 h
theorem v_csI (C : Cx p m meth c s args cc own nL S) {y : MethodName} {cd : ByteArray} {mL na idx : Nat} {rt : Option FieldType} {rm : Room} {As : List Value} {K : Int32 → Mem → Prop} (row : MS own idx y cd mL rt na) (hM : CI l y cd mL rt rm S n R As M K) (hn : As.length = na) (hfr : rm.frames + 1 ≤ Rm.frames ∧ 8 + (mL + 11) + rm.locals ≤ Rm.locals) (hcs : rm.cells = 0 ∧ rm.slots = 0 ∧ cells ≤ Rm.cells ∧ slots ≤ Rm.slots) (hW : (st.map fun v => v.category).sum ≤ 8) (hd : decode cc pc = .ok (.invokestatic idx, 3)) (kk : ∀ r M', K r M' → V p l e Rm s m args below meth c Q S nL cells slots n M' R (pc + 3) lv (.int r :: st)) : V p l e Rm s m args below meth c Q S nL cells slots n M R pc lv (As.reverse ++ st) := by
  obtain ⟨hlk, hst, hini, hco, hd1, hd2, hd3⟩ := row
  intro H locs ls hP hS h
  have hcw : CallB Rm s args own idx y cd mL rt (Cond.code y cd mL rt :: LG) rm 0 0 na ∧ (Cond.static y).before args s = true := ⟨callB_of na C.1.2.2.2.2 (lg_good hco) rfl hcs.1 hcs.2.1 (C.1.2.2.2.2 _ hini) (C.1.2.2.2.2 _ hlk) ⟨hd1, hd2, hd3⟩ hfr, C.1.2.2.2.2 _ hst⟩
  refine va_calli (va_runS (As := As) (rest := st) C.1 hM hcw ⟨xpre_blind, fun U hU hW => ⟨rfl, by rw [hU]; exact hP, C.2.1.warm hW⟩⟩ rfl hn h.1 rfl (lv_room hW) hd ⟨hcs.2.2.1, hcs.2.2.2⟩) hS (fun q _ h => h) (fun q h => h) ?_
  intro r u t H1 locs1 ht hvm hw hB hz1 hk1 hS1
  exact kk r u hw H1 locs1 ls (by rw [← ht]; exact hB) hS1 h
theorem v_csV (C : Cx p m meth c s args cc own nL S) {y : MethodName} {cd : ByteArray} {mL na idx : Nat} {rm : Room} {As : List Value} {K : Mem → Prop} (row : MS own idx y cd mL none na) (hM : CV l y cd mL rm S n R As M K) (hn : As.length = na) (hfr : rm.frames + 1 ≤ Rm.frames ∧ 8 + (mL + 11) + rm.locals ≤ Rm.locals) (hcs : rm.cells = 0 ∧ rm.slots = 0 ∧ cells ≤ Rm.cells ∧ slots ≤ Rm.slots) (hW : (st.map fun v => v.category).sum ≤ 8) (hd : decode cc pc = .ok (.invokestatic idx, 3)) (kk : ∀ M', K M' → V p l e Rm s m args below meth c Q S nL cells slots n M' R (pc + 3) lv st) : V p l e Rm s m args below meth c Q S nL cells slots n M R pc lv (As.reverse ++ st) := by
  obtain ⟨hlk, hst, hini, hco, hd1, hd2, hd3⟩ := row
  intro H locs ls hP hS h
  have hcw : CallB Rm s args own idx y cd mL none (Cond.code y cd mL none :: LG) rm 0 0 na ∧ (Cond.static y).before args s = true := ⟨callB_of na C.1.2.2.2.2 (lg_good hco) rfl hcs.1 hcs.2.1 (C.1.2.2.2.2 _ hini) (C.1.2.2.2.2 _ hlk) ⟨hd1, hd2, hd3⟩ hfr, C.1.2.2.2.2 _ hst⟩
  refine va_callv (va_runS (As := As) (rest := st) C.1 hM hcw ⟨xpre_blind, fun U hU hW => ⟨rfl, by rw [hU]; exact hP, C.2.1.warm hW⟩⟩ rfl hn h.1 rfl (lv_room hW) hd ⟨hcs.2.2.1, hcs.2.2.2⟩) hS (fun q _ h => h) (fun q h => h) ?_
  intro u t H1 locs1 ht hvm hw hB hz1 hk1 hS1
  exact kk u hw H1 locs1 ls (by rw [← ht]; exact hB) hS1 h
theorem v_cnI (C : Cx p m meth c s args cc own nL S) {y : MethodName} {cd : ByteArray} {mL na idx : Nat} {rt : Option FieldType} {rm : Room} {host : String} {As : List Value} {K : Int32 → Mem → Prop} (hnw : va_Nw (.methodLinkNest own idx y host) s) (row : MN y cd mL rt na) (hM : CI l y cd mL rt rm S n R As M K) (hn : As.length = na) (hfr : rm.frames + 1 ≤ Rm.frames ∧ 8 + (mL + 11) + rm.locals ≤ Rm.locals) (hcs : rm.cells = 0 ∧ rm.slots = 0 ∧ cells ≤ Rm.cells ∧ slots ≤ Rm.slots) (hW : (st.map fun v => v.category).sum ≤ 8) (hd : decode cc pc = .ok (.invokestatic idx, 3)) (kk : ∀ r M', K r M' → V p l e Rm s m args below meth c Q S nL cells slots n M' R (pc + 3) lv (.int r :: st)) : V p l e Rm s m args below meth c Q S nL cells slots n M R pc lv (As.reverse ++ st) := by
  obtain ⟨hst, hini, hco, hd1, hd2, hd3⟩ := row
  intro H locs ls hP hS h
  refine va_calli (va_runSN (As := As) (rest := st) C.1 hM ⟨va_cnB na C.1.2.2.2.2 (lg_good hco) rfl hcs.1 hcs.2.1 hnw (C.1.2.2.2.2 _ hini) ⟨hd1, hd2, hd3⟩ hfr, C.1.2.2.2.2 _ hst, trivial⟩ ⟨xpre_blind, fun U hU hW => ⟨rfl, by rw [hU]; exact hP, C.2.1.warm hW⟩⟩ rfl hn h.1 rfl (lv_room hW) hd ⟨hcs.2.2.1, hcs.2.2.2⟩) hS (fun q _ h => h) (fun q h => h) ?_
  intro r u t H1 locs1 ht hvm hw hB hz1 hk1 hS1
  exact kk r u hw H1 locs1 ls (by rw [← ht]; exact hB) hS1 h
end V2
theorem conI {l : Launch} {y : MethodName} {cd : ByteArray} {mL : Nat} {rt : Option FieldType} {rm : Room} {S : XS} {n : Nat} {R : Rfs} {av : List Value} {M : Mem} {K : Int32 → Mem → Prop} {lv : List (Nat × Value)} (hy : plainName y.cls = true) (hlen : (lg_sl av).length ≤ mL) (hlv : lv_args 0 av = lv)
    (body : ∀ (p : Program) (e : Env) (s : State) (m : MethodId) (args : Array Value) (below : List Frame) (meth : Method) (c : Code), Cx p m meth c s args cd y.cls mL S → meth.sig.returnType = rt → V p l e rm s m args below meth c (MQ below (va_Qi K (XPost S n R) (XA S)) args s 0 0 (XA S)) S mL 0 0 n M R 0 lv []) : CI l y cd mL rt rm S n R av M K := by
  refine Met.ofW (cc := cd) (maxL := mL) (ret := rt) hy rfl ?_
  intro p e s m args below meth c s₁ B hml hv
  obtain ⟨rfl, hP, hK⟩ := hv
  have hts := atoms_spec (ws := Cond.code y cd mL rt :: LG) B.pre
  have hC : Cx p m meth c s av.toArray cd y.cls mL S := ⟨⟨B.exec, B.bytes, hml, findClass_of_methodNamed B.named, fun w hw => hts w (List.mem_cons_of_mem _ hw)⟩, hK, B.notSynchronized⟩
  rw [lg_entry_eq]
  exact body p e s m av.toArray below meth c hC B.returns s.heap [] _ hP va_S.rf (by rw [← hlv]; exact lv_entry av hlen)
theorem conV {l : Launch} {y : MethodName} {cd : ByteArray} {mL : Nat} {rm : Room} {S : XS} {n : Nat} {R : Rfs} {av : List Value} {M : Mem} {K : Mem → Prop} {lv : List (Nat × Value)} (hy : plainName y.cls = true) (hlen : (lg_sl av).length ≤ mL) (hlv : lv_args 0 av = lv)
    (body : ∀ (p : Program) (e : Env) (s : State) (m : MethodId) (args : Array Value) (below : List Frame) (meth : Method) (c : Code), Cx p m meth c s args cd y.cls mL S → meth.sig.returnType = none → V p l e rm s m args below meth c (MQ below (va_Qv K (XPost S n R) (XA S)) args s 0 0 (XA S)) S mL 0 0 n M R 0 lv []) : CV l y cd mL rm S n R av M K := by
  refine Met.ofW (cc := cd) (maxL := mL) (ret := none) hy rfl ?_
  intro p e s m args below meth c s₁ B hml hv
  obtain ⟨rfl, hP, hK⟩ := hv
  have hts := atoms_spec (ws := Cond.code y cd mL none :: LG) B.pre
  have hC : Cx p m meth c s av.toArray cd y.cls mL S := ⟨⟨B.exec, B.bytes, hml, findClass_of_methodNamed B.named, fun w hw => hts w (List.mem_cons_of_mem _ hw)⟩, hK, B.notSynchronized⟩
  rw [lg_entry_eq]
  exact body p e s m av.toArray below meth c hC B.returns s.heap [] _ hP va_S.rf (by rw [← hlv]; exact lv_entry av hlen)
theorem conR {l : Launch} {y : MethodName} {cd : ByteArray} {mL : Nat} {rt : Option FieldType} {rm : Room} {S : XS} {n : Nat} {R : Rfs} {av : List Value} {M : Mem} {K : Int32 → Mem × Rfs → Prop} {lv : List (Nat × Value)} (hy : plainName y.cls = true) (hlen : (lg_sl av).length ≤ mL) (hlv : lv_args 0 av = lv)
    (body : ∀ (p : Program) (e : Env) (s : State) (m : MethodId) (args : Array Value) (below : List Frame) (meth : Method) (c : Code), Cx p m meth c s args cd y.cls mL S → meth.sig.returnType = rt → V p l e rm s m args below meth c (MQ below (va_Qi K (fun u t => XPost S n u.2 u.1 t) (XA S)) args s 0 0 (XA S)) S mL 0 0 n M R 0 lv []) : CR l y cd mL rt rm S n R av M K := by
  refine Met.ofW (cc := cd) (maxL := mL) (ret := rt) hy rfl ?_
  intro p e s m args below meth c s₁ B hml hv
  obtain ⟨rfl, hP, hK⟩ := hv
  have hts := atoms_spec (ws := Cond.code y cd mL rt :: LG) B.pre
  have hC : Cx p m meth c s av.toArray cd y.cls mL S := ⟨⟨B.exec, B.bytes, hml, findClass_of_methodNamed B.named, fun w hw => hts w (List.mem_cons_of_mem _ hw)⟩, hK, B.notSynchronized⟩
  rw [lg_entry_eq]
  exact body p e s m av.toArray below meth c hC B.returns s.heap [] _ hP va_S.rf (by rw [← hlv]; exact lv_entry av hlen)
end
section
/-! rows by program out of the tables: classes, fields, calls -/
theorem cr_0 : CRow 0 RX0 TX0 11 tyX0 := ⟨rfl, by decide, rfl, lg_sub [200, 202, 204, 206, 208, 210, 212, 214, 216, 218, 220] (by decide +kernel) (by decide +kernel), tyX0_ok, nmX0, by decide +kernel⟩
theorem cown_0 : ∀ Cn T N ty0, CRow 0 Cn T N ty0 → RX0 = Cn := fun _ _ _ _ h => congrArg Prod.fst (Option.some.inj ((show vwCl[0]? = some (RX0, TX0, 11) from rfl).symm.trans h.1))
theorem cr_1 : CRow 1 RX1 TX1 3 tyX1 := ⟨rfl, by decide, rfl, lg_sub [309, 311, 313] (by decide +kernel) (by decide +kernel), tyX1_ok, nmX1, by decide +kernel⟩
theorem cown_1 : ∀ Cn T N ty0, CRow 1 Cn T N ty0 → RX1 = Cn := fun _ _ _ _ h => congrArg Prod.fst (Option.some.inj ((show vwCl[1]? = some (RX1, TX1, 3) from rfl).symm.trans h.1))
theorem cr_2 : CRow 2 RX2 TX2 3 tyX2 := ⟨rfl, by decide, rfl, lg_sub [292, 294, 296] (by decide +kernel) (by decide +kernel), tyX2_ok, nmX2, by decide +kernel⟩
theorem cown_2 : ∀ Cn T N ty0, CRow 2 Cn T N ty0 → RX2 = Cn := fun _ _ _ _ h => congrArg Prod.fst (Option.some.inj ((show vwCl[2]? = some (RX2, TX2, 3) from rfl).symm.trans h.1))
theorem cr_3 : CRow 3 RX3 TX3 10 tyX3 := ⟨rfl, by decide, rfl, lg_sub [145, 147, 149, 151, 153, 155, 157, 159, 161, 163] (by decide +kernel) (by decide +kernel), tyX3_ok, nmX3, by decide +kernel⟩
theorem cown_3 : ∀ Cn T N ty0, CRow 3 Cn T N ty0 → RX3 = Cn := fun _ _ _ _ h => congrArg Prod.fst (Option.some.inj ((show vwCl[3]? = some (RX3, TX3, 10) from rfl).symm.trans h.1))
theorem cr_4 : CRow 4 RX4 TX4 14 tyX4 := ⟨rfl, by decide, rfl, lg_sub [250, 252, 254, 256, 258, 260, 262, 264, 266, 268, 270, 272, 274, 276] (by decide +kernel) (by decide +kernel), tyX4_ok, nmX4, by decide +kernel⟩
theorem cown_4 : ∀ Cn T N ty0, CRow 4 Cn T N ty0 → RX4 = Cn := fun _ _ _ _ h => congrArg Prod.fst (Option.some.inj ((show vwCl[4]? = some (RX4, TX4, 14) from rfl).symm.trans h.1))
theorem cr_5 : CRow 5 RX5 TX5 7 tyX5 := ⟨rfl, by decide, rfl, lg_sub [84, 86, 88, 90, 92, 94, 96] (by decide +kernel) (by decide +kernel), tyX5_ok, nmX5, by decide +kernel⟩
theorem cown_5 : ∀ Cn T N ty0, CRow 5 Cn T N ty0 → RX5 = Cn := fun _ _ _ _ h => congrArg Prod.fst (Option.some.inj ((show vwCl[5]? = some (RX5, TX5, 7) from rfl).symm.trans h.1))
theorem cr_6 : CRow 6 RX6 TX6 9 tyX6 := ⟨rfl, by decide, rfl, lg_sub [338, 340, 342, 344, 346, 348, 350, 352, 354] (by decide +kernel) (by decide +kernel), tyX6_ok, nmX6, by decide +kernel⟩
theorem cown_6 : ∀ Cn T N ty0, CRow 6 Cn T N ty0 → RX6 = Cn := fun _ _ _ _ h => congrArg Prod.fst (Option.some.inj ((show vwCl[6]? = some (RX6, TX6, 9) from rfl).symm.trans h.1))
theorem cr_7 : CRow 7 RX7 TX7 27 tyX7 := ⟨rfl, by decide, rfl, lg_sub [726, 728, 730, 732, 734, 736, 738, 740, 742, 744, 746, 748, 750, 752, 754, 756, 758, 760, 762, 764, 766, 768, 770, 772, 774, 776, 778] (by decide +kernel) (by decide +kernel), tyX7_ok, nmX7, by decide +kernel⟩
theorem cown_7 : ∀ Cn T N ty0, CRow 7 Cn T N ty0 → RX7 = Cn := fun _ _ _ _ h => congrArg Prod.fst (Option.some.inj ((show vwCl[7]? = some (RX7, TX7, 27) from rfl).symm.trans h.1))
theorem wn_X5_init : Cond.instanceMethod yX5_init ∈ LG := lg_mem 73 (by decide +kernel) rfl
theorem wi_X5 : Cond.initialized RX5 ∈ LG := lg_mem 51 (by decide +kernel) rfl
theorem wc_X5_init : Cond.code yX5_init cX5_init 1 none ∈ LG := lg_mem 74 (by decide +kernel) rfl
theorem mi_X5_init : MI yX5_init cX5_init 1 0 := ⟨wn_X5_init, wi_X5, wc_X5_init, by decide, by decide, by decide +kernel, rfl⟩
theorem fr_X6_10 : FR RX6 10 6 0 true (.object "SplicedWeb$Text") := ⟨RX6, TX6, 9, tyX6, cr_6, by decide, rfl, rfl, lg_mem 329 (by decide +kernel) rfl, fun _ h => by first | exact h.symm | rfl⟩
theorem wn_X3_init : Cond.instanceMethod yX3_init ∈ LG := lg_mem 103 (by decide +kernel) rfl
theorem wi_X3 : Cond.initialized RX3 ∈ LG := lg_mem 52 (by decide +kernel) rfl
theorem wc_X3_init : Cond.code yX3_init cX3_init 1 none ∈ LG := lg_mem 104 (by decide +kernel) rfl
theorem mi_X3_init : MI yX3_init cX3_init 1 0 := ⟨wn_X3_init, wi_X3, wc_X3_init, by decide, by decide, by decide +kernel, rfl⟩
theorem fr_X6_19 : FR RX6 19 6 1 false (.object "SplicedWeb$Plan") := ⟨RX6, TX6, 9, tyX6, cr_6, by decide, rfl, rfl, lg_mem 330 (by decide +kernel) rfl, fun h => by cases h⟩
theorem fr_X6_23 : FR RX6 23 6 2 false (.object "SplicedWeb$Plan") := ⟨RX6, TX6, 9, tyX6, cr_6, by decide, rfl, rfl, lg_mem 331 (by decide +kernel) rfl, fun h => by cases h⟩
theorem wn_X4_init : Cond.instanceMethod yX4_init ∈ LG := lg_mem 169 (by decide +kernel) rfl
theorem wi_X4 : Cond.initialized RX4 ∈ LG := lg_mem 53 (by decide +kernel) rfl
theorem wc_X4_init : Cond.code yX4_init cX4_init 1 none ∈ LG := lg_mem 170 (by decide +kernel) rfl
theorem mi_X4_init : MI yX4_init cX4_init 1 0 := ⟨wn_X4_init, wi_X4, wc_X4_init, by decide, by decide, by decide +kernel, rfl⟩
theorem fr_X6_29 : FR RX6 29 6 3 true (.object "SplicedWeb$Press") := ⟨RX6, TX6, 9, tyX6, cr_6, by decide, rfl, rfl, lg_mem 332 (by decide +kernel) rfl, fun _ h => by first | exact h.symm | rfl⟩
theorem fr_X6_33 : FR RX6 33 6 4 true (.object "SplicedWeb$Press") := ⟨RX6, TX6, 9, tyX6, cr_6, by decide, rfl, rfl, lg_mem 333 (by decide +kernel) rfl, fun _ h => by first | exact h.symm | rfl⟩
theorem wn_X2_init : Cond.instanceMethod yX2_init ∈ LG := lg_mem 282 (by decide +kernel) rfl
theorem wi_X2 : Cond.initialized RX2 ∈ LG := lg_mem 55 (by decide +kernel) rfl
theorem wc_X2_init : Cond.code yX2_init cX2_init 2 none ∈ LG := lg_mem 283 (by decide +kernel) rfl
theorem mi_X2_init : MI yX2_init cX2_init 2 0 := ⟨wn_X2_init, wi_X2, wc_X2_init, by decide, by decide, by decide +kernel, rfl⟩
theorem fr_X6_39 : FR RX6 39 6 5 true (.object "SplicedWeb$History") := ⟨RX6, TX6, 9, tyX6, cr_6, by decide, rfl, rfl, lg_mem 334 (by decide +kernel) rfl, fun _ h => by first | exact h.symm | rfl⟩
theorem fr_X6_43 : FR RX6 43 6 6 true (.array (.object "SplicedWeb$Press")) := ⟨RX6, TX6, 9, tyX6, cr_6, by decide, rfl, rfl, lg_mem 335 (by decide +kernel) rfl, fun _ h => by first | exact h.symm | rfl⟩
theorem fr_X6_47 : FR RX6 47 6 7 true (.array .boolean) := ⟨RX6, TX6, 9, tyX6, cr_6, by decide, rfl, rfl, lg_mem 336 (by decide +kernel) rfl, fun _ h => by first | exact h.symm | rfl⟩
theorem wn_X1_init : Cond.instanceMethod yX1_init ∈ LG := lg_mem 302 (by decide +kernel) rfl
theorem wi_X1 : Cond.initialized RX1 ∈ LG := lg_mem 56 (by decide +kernel) rfl
theorem wc_X1_init : Cond.code yX1_init cX1_init 1 none ∈ LG := lg_mem 303 (by decide +kernel) rfl
theorem mi_X1_init : MI yX1_init cX1_init 1 0 := ⟨wn_X1_init, wi_X1, wc_X1_init, by decide, by decide, by decide +kernel, rfl⟩
theorem fr_X6_54 : FR RX6 54 6 8 true (.object "SplicedWeb$Clues") := ⟨RX6, TX6, 9, tyX6, cr_6, by decide, rfl, rfl, lg_mem 337 (by decide +kernel) rfl, fun _ h => by first | exact h.symm | rfl⟩
theorem wn_X4_setAsAtFirst : Cond.instanceMethod yX4_setAsAtFirst ∈ LG := lg_mem 318 (by decide +kernel) rfl
theorem wl_X4_setAsAtFirst : Cond.selects yX4_setAsAtFirst.cls yX4_setAsAtFirst yX4_setAsAtFirst ∈ LG := lg_mem 319 (by decide +kernel) rfl
theorem wc_X4_setAsAtFirst : Cond.code yX4_setAsAtFirst cX4_setAsAtFirst 2 none ∈ LG := lg_mem 320 (by decide +kernel) rfl
theorem mv_X6_58 : MV RX6 58 4 yX4_setAsAtFirst cX4_setAsAtFirst 2 none 1 := ⟨⟨TX4, 14, rfl⟩, by decide, lg_mem 317 (by decide +kernel) rfl, wn_X4_setAsAtFirst, wl_X4_setAsAtFirst, wi_X4, wc_X4_setAsAtFirst, by decide, by decide, by decide +kernel⟩
theorem wt_X6_isWithin : Cond.static yX6_isWithin ∈ LG := lg_mem 362 (by decide +kernel) rfl
theorem wi_X6 : Cond.initialized RX6 ∈ LG := lg_mem 50 (by decide +kernel) rfl
theorem wc_X6_isWithin : Cond.code yX6_isWithin cX6_isWithin 3 (some .boolean) ∈ LG := lg_mem 363 (by decide +kernel) rfl
theorem ms_X6_62 : MS RX6 62 yX6_isWithin cX6_isWithin 3 (some .boolean) 3 := ⟨lg_mem 361 (by decide +kernel) rfl, wt_X6_isWithin, wi_X6, wc_X6_isWithin, by decide, by decide, by decide +kernel⟩
theorem wn_X5_add : Cond.instanceMethod yX5_add ∈ LG := lg_mem 365 (by decide +kernel) rfl
theorem wl_X5_add : Cond.selects yX5_add.cls yX5_add yX5_add ∈ LG := lg_mem 366 (by decide +kernel) rfl
theorem wc_X5_add : Cond.code yX5_add cX5_add 2 (some .boolean) ∈ LG := lg_mem 367 (by decide +kernel) rfl
theorem mv_X6_66 : MV RX6 66 5 yX5_add cX5_add 2 (some .boolean) 1 := ⟨⟨TX5, 7, rfl⟩, by decide, lg_mem 364 (by decide +kernel) rfl, wn_X5_add, wl_X5_add, wi_X5, wc_X5_add, by decide, by decide, by decide +kernel⟩
theorem fr_X6_70 : FR RX6 70 5 1 false (.int) := ⟨RX5, TX5, 7, tyX5, cr_5, by decide, rfl, rfl, lg_mem 78 (by decide +kernel) rfl, fun h => by cases h⟩
theorem wn_X5_readInto : Cond.instanceMethod yX5_readInto ∈ LG := lg_mem 377 (by decide +kernel) rfl
theorem wl_X5_readInto : Cond.selects yX5_readInto.cls yX5_readInto yX5_readInto ∈ LG := lg_mem 378 (by decide +kernel) rfl
theorem wc_X5_readInto : Cond.code yX5_readInto cX5_readInto 3 (some .int) ∈ LG := lg_mem 379 (by decide +kernel) rfl
theorem mv_X6_74 : MV RX6 74 5 yX5_readInto cX5_readInto 3 (some .int) 1 := ⟨⟨TX5, 7, rfl⟩, by decide, lg_mem 376 (by decide +kernel) rfl, wn_X5_readInto, wl_X5_readInto, wi_X5, wc_X5_readInto, by decide, by decide, by decide +kernel⟩
theorem fr_X6_78 : FR RX6 78 2 2 false (.int) := ⟨RX2, TX2, 3, tyX2, cr_2, by decide, rfl, rfl, lg_mem 291 (by decide +kernel) rfl, fun h => by cases h⟩
theorem fr_X6_81 : FR RX6 81 1 2 false (.int) := ⟨RX1, TX1, 3, tyX1, cr_1, by decide, rfl, rfl, lg_mem 308 (by decide +kernel) rfl, fun h => by cases h⟩
theorem fr_X6_82 : FR RX6 82 4 8 false (.boolean) := ⟨RX4, TX4, 14, tyX4, cr_4, by decide, rfl, rfl, lg_mem 239 (by decide +kernel) rfl, fun h => by cases h⟩
theorem fr_X6_86 : FR RX6 86 4 10 false (.int) := ⟨RX4, TX4, 14, tyX4, cr_4, by decide, rfl, rfl, lg_mem 243 (by decide +kernel) rfl, fun h => by cases h⟩
theorem wn_X2_remember : Cond.instanceMethod yX2_remember ∈ LG := lg_mem 436 (by decide +kernel) rfl
theorem wl_X2_remember : Cond.selects yX2_remember.cls yX2_remember yX2_remember ∈ LG := lg_mem 437 (by decide +kernel) rfl
theorem wc_X2_remember : Cond.code yX2_remember cX2_remember 2 none ∈ LG := lg_mem 438 (by decide +kernel) rfl
theorem mv_X6_89 : MV RX6 89 2 yX2_remember cX2_remember 2 none 1 := ⟨⟨TX2, 3, rfl⟩, by decide, lg_mem 435 (by decide +kernel) rfl, wn_X2_remember, wl_X2_remember, wi_X2, wc_X2_remember, by decide, by decide, by decide +kernel⟩
theorem fr_X6_93 : FR RX6 93 4 11 false (.int) := ⟨RX4, TX4, 14, tyX4, cr_4, by decide, rfl, rfl, lg_mem 245 (by decide +kernel) rfl, fun h => by cases h⟩
theorem wn_X4_tick : Cond.instanceMethod yX4_tick ∈ LG := lg_mem 453 (by decide +kernel) rfl
theorem wl_X4_tick : Cond.selects yX4_tick.cls yX4_tick yX4_tick ∈ LG := lg_mem 454 (by decide +kernel) rfl
theorem wc_X4_tick : Cond.code yX4_tick cX4_tick 4 (some .boolean) ∈ LG := lg_mem 455 (by decide +kernel) rfl
theorem mv_X6_96 : MV RX6 96 4 yX4_tick cX4_tick 4 (some .boolean) 1 := ⟨⟨TX4, 14, rfl⟩, by decide, lg_mem 452 (by decide +kernel) rfl, wn_X4_tick, wl_X4_tick, wi_X4, wc_X4_tick, by decide, by decide, by decide +kernel⟩
theorem wn_X3_isMovable : Cond.instanceMethod yX3_isMovable ∈ LG := lg_mem 525 (by decide +kernel) rfl
theorem wl_X3_isMovable : Cond.selects yX3_isMovable.cls yX3_isMovable yX3_isMovable ∈ LG := lg_mem 526 (by decide +kernel) rfl
theorem wc_X3_isMovable : Cond.code yX3_isMovable cX3_isMovable 2 (some .boolean) ∈ LG := lg_mem 527 (by decide +kernel) rfl
theorem mv_X6_100 : MV RX6 100 3 yX3_isMovable cX3_isMovable 2 (some .boolean) 1 := ⟨⟨TX3, 10, rfl⟩, by decide, lg_mem 536 (by decide +kernel) rfl, wn_X3_isMovable, wl_X3_isMovable, wi_X3, wc_X3_isMovable, by decide, by decide, by decide +kernel⟩
theorem fr_X6_103 : FR RX6 103 4 0 true (.array .int) := ⟨RX4, TX4, 14, tyX4, cr_4, by decide, rfl, rfl, lg_mem 224 (by decide +kernel) rfl, fun _ h => by first | exact h.symm | rfl⟩
theorem wn_X4_correct : Cond.instanceMethod yX4_correct ∈ LG := lg_mem 521 (by decide +kernel) rfl
theorem wl_X4_correct : Cond.selects yX4_correct.cls yX4_correct yX4_correct ∈ LG := lg_mem 522 (by decide +kernel) rfl
theorem wc_X4_correct : Cond.code yX4_correct cX4_correct 5 none ∈ LG := lg_mem 523 (by decide +kernel) rfl
theorem mv_X6_107 : MV RX6 107 4 yX4_correct cX4_correct 5 none 3 := ⟨⟨TX4, 14, rfl⟩, by decide, lg_mem 541 (by decide +kernel) rfl, wn_X4_correct, wl_X4_correct, wi_X4, wc_X4_correct, by decide, by decide, by decide +kernel⟩
theorem fr_X6_111 : FR RX6 111 4 2 true (.array .int) := ⟨RX4, TX4, 14, tyX4, cr_4, by decide, rfl, rfl, lg_mem 228 (by decide +kernel) rfl, fun _ h => by first | exact h.symm | rfl⟩
theorem wn_X4_nextReel : Cond.instanceMethod yX4_nextReel ∈ LG := lg_mem 461 (by decide +kernel) rfl
theorem wl_X4_nextReel : Cond.selects yX4_nextReel.cls yX4_nextReel yX4_nextReel ∈ LG := lg_mem 462 (by decide +kernel) rfl
theorem wc_X4_nextReel : Cond.code yX4_nextReel cX4_nextReel 2 (some .int) ∈ LG := lg_mem 463 (by decide +kernel) rfl
theorem mv_X6_114 : MV RX6 114 4 yX4_nextReel cX4_nextReel 2 (some .int) 1 := ⟨⟨TX4, 14, rfl⟩, by decide, lg_mem 546 (by decide +kernel) rfl, wn_X4_nextReel, wl_X4_nextReel, wi_X4, wc_X4_nextReel, by decide, by decide, by decide +kernel⟩
theorem fr_X6_117 : FR RX6 117 4 7 false (.int) := ⟨RX4, TX4, 14, tyX4, cr_4, by decide, rfl, rfl, lg_mem 237 (by decide +kernel) rfl, fun h => by cases h⟩
theorem wn_X4_restart : Cond.instanceMethod yX4_restart ∈ LG := lg_mem 552 (by decide +kernel) rfl
theorem wl_X4_restart : Cond.selects yX4_restart.cls yX4_restart yX4_restart ∈ LG := lg_mem 553 (by decide +kernel) rfl
theorem wc_X4_restart : Cond.code yX4_restart cX4_restart 2 none ∈ LG := lg_mem 554 (by decide +kernel) rfl
theorem mv_X6_120 : MV RX6 120 4 yX4_restart cX4_restart 2 none 1 := ⟨⟨TX4, 14, rfl⟩, by decide, lg_mem 551 (by decide +kernel) rfl, wn_X4_restart, wl_X4_restart, wi_X4, wc_X4_restart, by decide, by decide, by decide +kernel⟩
theorem fr_X6_123 : FR RX6 123 4 5 false (.int) := ⟨RX4, TX4, 14, tyX4, cr_4, by decide, rfl, rfl, lg_mem 233 (by decide +kernel) rfl, fun h => by cases h⟩
theorem fr_X6_126 : FR RX6 126 4 9 false (.boolean) := ⟨RX4, TX4, 14, tyX4, cr_4, by decide, rfl, rfl, lg_mem 241 (by decide +kernel) rfl, fun h => by cases h⟩
theorem wn_X2_restore : Cond.instanceMethod yX2_restore ∈ LG := lg_mem 564 (by decide +kernel) rfl
theorem wl_X2_restore : Cond.selects yX2_restore.cls yX2_restore yX2_restore ∈ LG := lg_mem 565 (by decide +kernel) rfl
theorem wc_X2_restore : Cond.code yX2_restore cX2_restore 2 none ∈ LG := lg_mem 566 (by decide +kernel) rfl
theorem mv_X6_129 : MV RX6 129 2 yX2_restore cX2_restore 2 none 1 := ⟨⟨TX2, 3, rfl⟩, by decide, lg_mem 563 (by decide +kernel) rfl, wn_X2_restore, wl_X2_restore, wi_X2, wc_X2_restore, by decide, by decide, by decide +kernel⟩
theorem wn_X3_hasUnit : Cond.instanceMethod yX3_hasUnit ∈ LG := lg_mem 529 (by decide +kernel) rfl
theorem wl_X3_hasUnit : Cond.selects yX3_hasUnit.cls yX3_hasUnit yX3_hasUnit ∈ LG := lg_mem 530 (by decide +kernel) rfl
theorem wc_X3_hasUnit : Cond.code yX3_hasUnit cX3_hasUnit 2 (some .boolean) ∈ LG := lg_mem 531 (by decide +kernel) rfl
theorem mv_X6_132 : MV RX6 132 3 yX3_hasUnit cX3_hasUnit 2 (some .boolean) 1 := ⟨⟨TX3, 10, rfl⟩, by decide, lg_mem 571 (by decide +kernel) rfl, wn_X3_hasUnit, wl_X3_hasUnit, wi_X3, wc_X3_hasUnit, by decide, by decide, by decide +kernel⟩
theorem fr_X6_136 : FR RX6 136 3 0 true (.array .int) := ⟨RX3, TX3, 10, tyX3, cr_3, by decide, rfl, rfl, lg_mem 112 (by decide +kernel) rfl, fun _ h => by first | exact h.symm | rfl⟩
theorem fr_X6_139 : FR RX6 139 3 1 true (.array .int) := ⟨RX3, TX3, 10, tyX3, cr_3, by decide, rfl, rfl, lg_mem 114 (by decide +kernel) rfl, fun _ h => by first | exact h.symm | rfl⟩
theorem fr_X6_142 : FR RX6 142 4 1 true (.array .int) := ⟨RX4, TX4, 14, tyX4, cr_4, by decide, rfl, rfl, lg_mem 226 (by decide +kernel) rfl, fun _ h => by first | exact h.symm | rfl⟩
theorem wn_X4_toBePassed : Cond.instanceMethod yX4_toBePassed ∈ LG := lg_mem 574 (by decide +kernel) rfl
theorem wl_X4_toBePassed : Cond.selects yX4_toBePassed.cls yX4_toBePassed yX4_toBePassed ∈ LG := lg_mem 575 (by decide +kernel) rfl
theorem wc_X4_toBePassed : Cond.code yX4_toBePassed cX4_toBePassed 4 (some .int) ∈ LG := lg_mem 576 (by decide +kernel) rfl
theorem mv_X6_145 : MV RX6 145 4 yX4_toBePassed cX4_toBePassed 4 (some .int) 1 := ⟨⟨TX4, 14, rfl⟩, by decide, lg_mem 573 (by decide +kernel) rfl, wn_X4_toBePassed, wl_X4_toBePassed, wi_X4, wc_X4_toBePassed, by decide, by decide, by decide +kernel⟩
theorem wn_X3_hasReel : Cond.instanceMethod yX3_hasReel ∈ LG := lg_mem 465 (by decide +kernel) rfl
theorem wl_X3_hasReel : Cond.selects yX3_hasReel.cls yX3_hasReel yX3_hasReel ∈ LG := lg_mem 466 (by decide +kernel) rfl
theorem wc_X3_hasReel : Cond.code yX3_hasReel cX3_hasReel 2 (some .boolean) ∈ LG := lg_mem 467 (by decide +kernel) rfl
theorem mv_X6_149 : MV RX6 149 3 yX3_hasReel cX3_hasReel 2 (some .boolean) 1 := ⟨⟨TX3, 10, rfl⟩, by decide, lg_mem 581 (by decide +kernel) rfl, wn_X3_hasReel, wl_X3_hasReel, wi_X3, wc_X3_hasReel, by decide, by decide, by decide +kernel⟩
theorem fr_X6_152 : FR RX6 152 3 2 true (.array .int) := ⟨RX3, TX3, 10, tyX3, cr_3, by decide, rfl, rfl, lg_mem 118 (by decide +kernel) rfl, fun _ h => by first | exact h.symm | rfl⟩
theorem fr_X6_155 : FR RX6 155 3 3 true (.array .int) := ⟨RX3, TX3, 10, tyX3, cr_3, by decide, rfl, rfl, lg_mem 121 (by decide +kernel) rfl, fun _ h => by first | exact h.symm | rfl⟩
theorem wn_X4_leftOn : Cond.instanceMethod yX4_leftOn ∈ LG := lg_mem 583 (by decide +kernel) rfl
theorem wl_X4_leftOn : Cond.selects yX4_leftOn.cls yX4_leftOn yX4_leftOn ∈ LG := lg_mem 584 (by decide +kernel) rfl
theorem wc_X4_leftOn : Cond.code yX4_leftOn cX4_leftOn 3 (some .int) ∈ LG := lg_mem 585 (by decide +kernel) rfl
theorem mv_X6_158 : MV RX6 158 4 yX4_leftOn cX4_leftOn 3 (some .int) 2 := ⟨⟨TX4, 14, rfl⟩, by decide, lg_mem 582 (by decide +kernel) rfl, wn_X4_leftOn, wl_X4_leftOn, wi_X4, wc_X4_leftOn, by decide, by decide, by decide +kernel⟩
theorem fr_X6_162 : FR RX6 162 4 4 true (.object "SplicedWeb$Band") := ⟨RX4, TX4, 14, tyX4, cr_4, by decide, rfl, rfl, lg_mem 231 (by decide +kernel) rfl, fun _ h => by first | exact h.symm | rfl⟩
theorem fr_X6_166 : FR RX6 166 0 6 false (.boolean) := ⟨RX0, TX0, 11, tyX0, cr_0, by decide, rfl, rfl, lg_mem 188 (by decide +kernel) rfl, fun h => by cases h⟩
theorem fr_X6_172 : FR RX6 172 0 7 false (.int) := ⟨RX0, TX0, 11, tyX0, cr_0, by decide, rfl, rfl, lg_mem 190 (by decide +kernel) rfl, fun h => by cases h⟩
theorem fr_X6_175 : FR RX6 175 0 8 false (.boolean) := ⟨RX0, TX0, 11, tyX0, cr_0, by decide, rfl, rfl, lg_mem 192 (by decide +kernel) rfl, fun h => by cases h⟩
theorem fr_X6_178 : FR RX6 178 0 9 false (.boolean) := ⟨RX0, TX0, 11, tyX0, cr_0, by decide, rfl, rfl, lg_mem 195 (by decide +kernel) rfl, fun h => by cases h⟩
theorem fr_X6_181 : FR RX6 181 0 10 true (.array .int) := ⟨RX0, TX0, 11, tyX0, cr_0, by decide, rfl, rfl, lg_mem 198 (by decide +kernel) rfl, fun _ h => by first | exact h.symm | rfl⟩
theorem fr_X6_184 : FR RX6 184 0 5 false (.int) := ⟨RX0, TX0, 11, tyX0, cr_0, by decide, rfl, rfl, lg_mem 186 (by decide +kernel) rfl, fun h => by cases h⟩
theorem wn_X0_errorAt : Cond.instanceMethod yX0_errorAt ∈ LG := lg_mem 596 (by decide +kernel) rfl
theorem wl_X0_errorAt : Cond.selects yX0_errorAt.cls yX0_errorAt yX0_errorAt ∈ LG := lg_mem 597 (by decide +kernel) rfl
theorem wi_X0 : Cond.initialized RX0 ∈ LG := lg_mem 54 (by decide +kernel) rfl
theorem wc_X0_errorAt : Cond.code yX0_errorAt cX0_errorAt 3 (some .int) ∈ LG := lg_mem 598 (by decide +kernel) rfl
theorem mv_X6_187 : MV RX6 187 0 yX0_errorAt cX0_errorAt 3 (some .int) 2 := ⟨⟨TX0, 11, rfl⟩, by decide, lg_mem 595 (by decide +kernel) rfl, wn_X0_errorAt, wl_X0_errorAt, wi_X0, wc_X0_errorAt, by decide, by decide, by decide +kernel⟩
theorem wn_X4_takeFrom : Cond.instanceMethod yX4_takeFrom ∈ LG := lg_mem 440 (by decide +kernel) rfl
theorem wl_X4_takeFrom : Cond.selects yX4_takeFrom.cls yX4_takeFrom yX4_takeFrom ∈ LG := lg_mem 441 (by decide +kernel) rfl
theorem wc_X4_takeFrom : Cond.code yX4_takeFrom cX4_takeFrom 2 none ∈ LG := lg_mem 442 (by decide +kernel) rfl
theorem mv_X6_191 : MV RX6 191 4 yX4_takeFrom cX4_takeFrom 2 none 1 := ⟨⟨TX4, 14, rfl⟩, by decide, lg_mem 603 (by decide +kernel) rfl, wn_X4_takeFrom, wl_X4_takeFrom, wi_X4, wc_X4_takeFrom, by decide, by decide, by decide +kernel⟩
theorem fr_X6_194 : FR RX6 194 4 6 false (.int) := ⟨RX4, TX4, 14, tyX4, cr_4, by decide, rfl, rfl, lg_mem 235 (by decide +kernel) rfl, fun h => by cases h⟩
theorem fr_X6_197 : FR RX6 197 3 8 false (.int) := ⟨RX3, TX3, 10, tyX3, cr_3, by decide, rfl, rfl, lg_mem 139 (by decide +kernel) rfl, fun h => by cases h⟩
theorem wn_X0_cameFurtherOutThan : Cond.instanceMethod yX0_cameFurtherOutThan ∈ LG := lg_mem 509 (by decide +kernel) rfl
theorem wl_X0_cameFurtherOutThan : Cond.selects yX0_cameFurtherOutThan.cls yX0_cameFurtherOutThan yX0_cameFurtherOutThan ∈ LG := lg_mem 510 (by decide +kernel) rfl
theorem wc_X0_cameFurtherOutThan : Cond.code yX0_cameFurtherOutThan cX0_cameFurtherOutThan 3 (some .boolean) ∈ LG := lg_mem 511 (by decide +kernel) rfl
theorem mv_X6_200 : MV RX6 200 0 yX0_cameFurtherOutThan cX0_cameFurtherOutThan 3 (some .boolean) 1 := ⟨⟨TX0, 11, rfl⟩, by decide, lg_mem 604 (by decide +kernel) rfl, wn_X0_cameFurtherOutThan, wl_X0_cameFurtherOutThan, wi_X0, wc_X0_cameFurtherOutThan, by decide, by decide, by decide +kernel⟩
theorem wn_X4_tickTimes : Cond.instanceMethod yX4_tickTimes ∈ LG := lg_mem 610 (by decide +kernel) rfl
theorem wl_X4_tickTimes : Cond.selects yX4_tickTimes.cls yX4_tickTimes yX4_tickTimes ∈ LG := lg_mem 611 (by decide +kernel) rfl
theorem wc_X4_tickTimes : Cond.code yX4_tickTimes cX4_tickTimes 4 none ∈ LG := lg_mem 612 (by decide +kernel) rfl
theorem mv_X6_203 : MV RX6 203 4 yX4_tickTimes cX4_tickTimes 4 none 2 := ⟨⟨TX4, 14, rfl⟩, by decide, lg_mem 609 (by decide +kernel) rfl, wn_X4_tickTimes, wl_X4_tickTimes, wi_X4, wc_X4_tickTimes, by decide, by decide, by decide +kernel⟩
theorem fr_X6_207 : FR RX6 207 4 12 false (.int) := ⟨RX4, TX4, 14, tyX4, cr_4, by decide, rfl, rfl, lg_mem 247 (by decide +kernel) rfl, fun h => by cases h⟩
theorem wn_X4_makeReadyToPaste : Cond.instanceMethod yX4_makeReadyToPaste ∈ LG := lg_mem 615 (by decide +kernel) rfl
theorem wl_X4_makeReadyToPaste : Cond.selects yX4_makeReadyToPaste.cls yX4_makeReadyToPaste yX4_makeReadyToPaste ∈ LG := lg_mem 616 (by decide +kernel) rfl
theorem wc_X4_makeReadyToPaste : Cond.code yX4_makeReadyToPaste cX4_makeReadyToPaste 2 none ∈ LG := lg_mem 617 (by decide +kernel) rfl
theorem mv_X6_210 : MV RX6 210 4 yX4_makeReadyToPaste cX4_makeReadyToPaste 2 none 1 := ⟨⟨TX4, 14, rfl⟩, by decide, lg_mem 614 (by decide +kernel) rfl, wn_X4_makeReadyToPaste, wl_X4_makeReadyToPaste, wi_X4, wc_X4_makeReadyToPaste, by decide, by decide, by decide +kernel⟩
theorem wn_X1_add : Cond.instanceMethod yX1_add ∈ LG := lg_mem 623 (by decide +kernel) rfl
theorem wl_X1_add : Cond.selects yX1_add.cls yX1_add yX1_add ∈ LG := lg_mem 624 (by decide +kernel) rfl
theorem wc_X1_add : Cond.code yX1_add cX1_add 3 (some .boolean) ∈ LG := lg_mem 625 (by decide +kernel) rfl
theorem mv_X6_213 : MV RX6 213 1 yX1_add cX1_add 3 (some .boolean) 2 := ⟨⟨TX1, 3, rfl⟩, by decide, lg_mem 622 (by decide +kernel) rfl, wn_X1_add, wl_X1_add, wi_X1, wc_X1_add, by decide, by decide, by decide +kernel⟩
theorem fr_X6_216 : FR RX6 216 3 4 false (.int) := ⟨RX3, TX3, 10, tyX3, cr_3, by decide, rfl, rfl, lg_mem 125 (by decide +kernel) rfl, fun h => by cases h⟩
theorem wn_X1_causes : Cond.instanceMethod yX1_causes ∈ LG := lg_mem 635 (by decide +kernel) rfl
theorem wl_X1_causes : Cond.selects yX1_causes.cls yX1_causes yX1_causes ∈ LG := lg_mem 636 (by decide +kernel) rfl
theorem wc_X1_causes : Cond.code yX1_causes cX1_causes 4 (some .int) ∈ LG := lg_mem 637 (by decide +kernel) rfl
theorem mv_X6_219 : MV RX6 219 1 yX1_causes cX1_causes 4 (some .int) 1 := ⟨⟨TX1, 3, rfl⟩, by decide, lg_mem 634 (by decide +kernel) rfl, wn_X1_causes, wl_X1_causes, wi_X1, wc_X1_causes, by decide, by decide, by decide +kernel⟩
theorem wn_X1_bestUnit : Cond.instanceMethod yX1_bestUnit ∈ LG := lg_mem 657 (by decide +kernel) rfl
theorem wl_X1_bestUnit : Cond.selects yX1_bestUnit.cls yX1_bestUnit yX1_bestUnit ∈ LG := lg_mem 658 (by decide +kernel) rfl
theorem wc_X1_bestUnit : Cond.code yX1_bestUnit cX1_bestUnit 9 (some .int) ∈ LG := lg_mem 659 (by decide +kernel) rfl
theorem mv_X6_222 : MV RX6 222 1 yX1_bestUnit cX1_bestUnit 9 (some .int) 1 := ⟨⟨TX1, 3, rfl⟩, by decide, lg_mem 656 (by decide +kernel) rfl, wn_X1_bestUnit, wl_X1_bestUnit, wi_X1, wc_X1_bestUnit, by decide, by decide, by decide +kernel⟩
theorem fr_X6_225 : FR RX6 225 3 5 false (.int) := ⟨RX3, TX3, 10, tyX3, cr_3, by decide, rfl, rfl, lg_mem 129 (by decide +kernel) rfl, fun h => by cases h⟩
theorem fr_X6_228 : FR RX6 228 0 4 false (.int) := ⟨RX0, TX0, 11, tyX0, cr_0, by decide, rfl, rfl, lg_mem 183 (by decide +kernel) rfl, fun h => by cases h⟩
theorem fr_X6_231 : FR RX6 231 4 13 false (.int) := ⟨RX4, TX4, 14, tyX4, cr_4, by decide, rfl, rfl, lg_mem 249 (by decide +kernel) rfl, fun h => by cases h⟩
theorem fr_X6_234 : FR RX6 234 3 6 false (.int) := ⟨RX3, TX3, 10, tyX3, cr_3, by decide, rfl, rfl, lg_mem 132 (by decide +kernel) rfl, fun h => by cases h⟩
theorem fr_X6_237 : FR RX6 237 3 7 false (.int) := ⟨RX3, TX3, 10, tyX3, cr_3, by decide, rfl, rfl, lg_mem 136 (by decide +kernel) rfl, fun h => by cases h⟩
theorem fr_X6_240 : FR RX6 240 3 9 false (.int) := ⟨RX3, TX3, 10, tyX3, cr_3, by decide, rfl, rfl, lg_mem 144 (by decide +kernel) rfl, fun h => by cases h⟩
theorem fr_X7_7 : FR RX7 7 7 0 true (.array .int) := ⟨RX7, TX7, 27, tyX7, cr_7, by decide, rfl, rfl, lg_mem 699 (by decide +kernel) rfl, fun _ h => by first | exact h.symm | rfl⟩
theorem fr_X7_13 : FR RX7 13 7 1 true (.array .int) := ⟨RX7, TX7, 27, tyX7, cr_7, by decide, rfl, rfl, lg_mem 700 (by decide +kernel) rfl, fun _ h => by first | exact h.symm | rfl⟩
theorem fr_X7_16 : FR RX7 16 7 2 true (.array .int) := ⟨RX7, TX7, 27, tyX7, cr_7, by decide, rfl, rfl, lg_mem 701 (by decide +kernel) rfl, fun _ h => by first | exact h.symm | rfl⟩
theorem fr_X7_19 : FR RX7 19 7 4 true (.array .int) := ⟨RX7, TX7, 27, tyX7, cr_7, by decide, rfl, rfl, lg_mem 703 (by decide +kernel) rfl, fun _ h => by first | exact h.symm | rfl⟩
theorem fr_X7_22 : FR RX7 22 7 5 true (.array .boolean) := ⟨RX7, TX7, 27, tyX7, cr_7, by decide, rfl, rfl, lg_mem 704 (by decide +kernel) rfl, fun _ h => by first | exact h.symm | rfl⟩
theorem fr_X7_26 : FR RX7 26 7 6 true (.array .int) := ⟨RX7, TX7, 27, tyX7, cr_7, by decide, rfl, rfl, lg_mem 705 (by decide +kernel) rfl, fun _ h => by first | exact h.symm | rfl⟩
theorem fr_X7_29 : FR RX7 29 7 8 true (.array .int) := ⟨RX7, TX7, 27, tyX7, cr_7, by decide, rfl, rfl, lg_mem 707 (by decide +kernel) rfl, fun _ h => by first | exact h.symm | rfl⟩
theorem fr_X7_32 : FR RX7 32 7 11 true (.array .int) := ⟨RX7, TX7, 27, tyX7, cr_7, by decide, rfl, rfl, lg_mem 710 (by decide +kernel) rfl, fun _ h => by first | exact h.symm | rfl⟩
theorem fr_X7_35 : FR RX7 35 7 12 true (.array .int) := ⟨RX7, TX7, 27, tyX7, cr_7, by decide, rfl, rfl, lg_mem 711 (by decide +kernel) rfl, fun _ h => by first | exact h.symm | rfl⟩
theorem fr_X7_38 : FR RX7 38 7 14 true (.array .int) := ⟨RX7, TX7, 27, tyX7, cr_7, by decide, rfl, rfl, lg_mem 713 (by decide +kernel) rfl, fun _ h => by first | exact h.symm | rfl⟩
theorem fr_X7_41 : FR RX7 41 7 15 true (.array .int) := ⟨RX7, TX7, 27, tyX7, cr_7, by decide, rfl, rfl, lg_mem 714 (by decide +kernel) rfl, fun _ h => by first | exact h.symm | rfl⟩
theorem fr_X7_44 : FR RX7 44 7 16 true (.array .int) := ⟨RX7, TX7, 27, tyX7, cr_7, by decide, rfl, rfl, lg_mem 715 (by decide +kernel) rfl, fun _ h => by first | exact h.symm | rfl⟩
theorem fr_X7_47 : FR RX7 47 7 19 true (.array .int) := ⟨RX7, TX7, 27, tyX7, cr_7, by decide, rfl, rfl, lg_mem 718 (by decide +kernel) rfl, fun _ h => by first | exact h.symm | rfl⟩
theorem fr_X7_50 : FR RX7 50 7 20 true (.array .int) := ⟨RX7, TX7, 27, tyX7, cr_7, by decide, rfl, rfl, lg_mem 719 (by decide +kernel) rfl, fun _ h => by first | exact h.symm | rfl⟩
theorem fr_X7_53 : FR RX7 53 7 21 true (.array .int) := ⟨RX7, TX7, 27, tyX7, cr_7, by decide, rfl, rfl, lg_mem 720 (by decide +kernel) rfl, fun _ h => by first | exact h.symm | rfl⟩
theorem fr_X7_56 : FR RX7 56 7 22 true (.array .int) := ⟨RX7, TX7, 27, tyX7, cr_7, by decide, rfl, rfl, lg_mem 721 (by decide +kernel) rfl, fun _ h => by first | exact h.symm | rfl⟩
theorem fr_X7_59 : FR RX7 59 7 23 true (.array .boolean) := ⟨RX7, TX7, 27, tyX7, cr_7, by decide, rfl, rfl, lg_mem 722 (by decide +kernel) rfl, fun _ h => by first | exact h.symm | rfl⟩
theorem wn_X7_begins : Cond.instanceMethod yX7_begins ∈ LG := lg_mem 693 (by decide +kernel) rfl
theorem wl_X7_begins : Cond.selects yX7_begins.cls yX7_begins yX7_begins ∈ LG := lg_mem 16 (by decide +kernel) rfl
theorem wi_X7 : Cond.initialized RX7 ∈ LG := lg_mem 58 (by decide +kernel) rfl
theorem wc_X7_begins : Cond.code yX7_begins cX7_begins 2 none ∈ LG := lg_mem 694 (by decide +kernel) rfl
theorem mv_X7_62 : MV RX7 62 7 yX7_begins cX7_begins 2 none 0 := ⟨⟨TX7, 27, rfl⟩, by decide, lg_mem 691 (by decide +kernel) rfl, wn_X7_begins, wl_X7_begins, wi_X7, wc_X7_begins, by decide, by decide, by decide +kernel⟩
theorem wn_X7_takes : Cond.instanceMethod yX7_takes ∈ LG := lg_mem 697 (by decide +kernel) rfl
theorem wl_X7_takes : Cond.selects yX7_takes.cls yX7_takes yX7_takes ∈ LG := lg_mem 17 (by decide +kernel) rfl
theorem wc_X7_takes : Cond.code yX7_takes cX7_takes 2 none ∈ LG := lg_mem 698 (by decide +kernel) rfl
theorem mv_X7_65 : MV RX7 65 7 yX7_takes cX7_takes 2 none 0 := ⟨⟨TX7, 27, rfl⟩, by decide, lg_mem 695 (by decide +kernel) rfl, wn_X7_takes, wl_X7_takes, wi_X7, wc_X7_takes, by decide, by decide, by decide +kernel⟩
theorem fr_X7_68 : FR RX7 68 7 17 false (.int) := ⟨RX7, TX7, 27, tyX7, cr_7, by decide, rfl, rfl, lg_mem 716 (by decide +kernel) rfl, fun h => by cases h⟩
theorem fr_X7_72 : FR RX7 72 7 18 false (.int) := ⟨RX7, TX7, 27, tyX7, cr_7, by decide, rfl, rfl, lg_mem 717 (by decide +kernel) rfl, fun h => by cases h⟩
theorem fr_X7_75 : FR RX7 75 7 10 false (.int) := ⟨RX7, TX7, 27, tyX7, cr_7, by decide, rfl, rfl, lg_mem 709 (by decide +kernel) rfl, fun h => by cases h⟩
theorem fr_X7_78 : FR RX7 78 7 13 false (.int) := ⟨RX7, TX7, 27, tyX7, cr_7, by decide, rfl, rfl, lg_mem 712 (by decide +kernel) rfl, fun h => by cases h⟩
theorem fr_X7_81 : FR RX7 81 7 3 false (.int) := ⟨RX7, TX7, 27, tyX7, cr_7, by decide, rfl, rfl, lg_mem 702 (by decide +kernel) rfl, fun h => by cases h⟩
theorem fr_X7_84 : FR RX7 84 7 9 false (.int) := ⟨RX7, TX7, 27, tyX7, cr_7, by decide, rfl, rfl, lg_mem 708 (by decide +kernel) rfl, fun h => by cases h⟩
theorem fr_X7_87 : FR RX7 87 7 24 false (.int) := ⟨RX7, TX7, 27, tyX7, cr_7, by decide, rfl, rfl, lg_mem 723 (by decide +kernel) rfl, fun h => by cases h⟩
theorem fr_X7_90 : FR RX7 90 7 7 false (.int) := ⟨RX7, TX7, 27, tyX7, cr_7, by decide, rfl, rfl, lg_mem 706 (by decide +kernel) rfl, fun h => by cases h⟩
theorem fr_X7_93 : FR RX7 93 7 25 false (.int) := ⟨RX7, TX7, 27, tyX7, cr_7, by decide, rfl, rfl, lg_mem 724 (by decide +kernel) rfl, fun h => by cases h⟩
theorem wt_X7_in : Cond.static yX7_in ∈ LG := lg_mem 786 (by decide +kernel) rfl
theorem wc_X7_in : Cond.code yX7_in cX7_in 3 (some .boolean) ∈ LG := lg_mem 787 (by decide +kernel) rfl
theorem ms_X7_96 : MS RX7 96 yX7_in cX7_in 3 (some .boolean) 3 := ⟨lg_mem 785 (by decide +kernel) rfl, wt_X7_in, wi_X7, wc_X7_in, by decide, by decide, by decide +kernel⟩
theorem wn_X7_blanks : Cond.instanceMethod yX7_blanks ∈ LG := lg_mem 802 (by decide +kernel) rfl
theorem wl_X7_blanks : Cond.selects yX7_blanks.cls yX7_blanks yX7_blanks ∈ LG := lg_mem 19 (by decide +kernel) rfl
theorem wc_X7_blanks : Cond.code yX7_blanks cX7_blanks 1 none ∈ LG := lg_mem 803 (by decide +kernel) rfl
theorem mv_X7_100 : MV RX7 100 7 yX7_blanks cX7_blanks 1 none 0 := ⟨⟨TX7, 27, rfl⟩, by decide, lg_mem 800 (by decide +kernel) rfl, wn_X7_blanks, wl_X7_blanks, wi_X7, wc_X7_blanks, by decide, by decide, by decide +kernel⟩
theorem wn_X7_isAt : Cond.instanceMethod yX7_isAt ∈ LG := lg_mem 818 (by decide +kernel) rfl
theorem wl_X7_isAt : Cond.selects yX7_isAt.cls yX7_isAt yX7_isAt ∈ LG := lg_mem 23 (by decide +kernel) rfl
theorem wc_X7_isAt : Cond.code yX7_isAt cX7_isAt 3 (some .boolean) ∈ LG := lg_mem 819 (by decide +kernel) rfl
theorem mv_X7_103 : MV RX7 103 7 yX7_isAt cX7_isAt 3 (some .boolean) 2 := ⟨⟨TX7, 27, rfl⟩, by decide, lg_mem 816 (by decide +kernel) rfl, wn_X7_isAt, wl_X7_isAt, wi_X7, wc_X7_isAt, by decide, by decide, by decide +kernel⟩
theorem fr_X7_107 : FR RX7 107 7 26 false (.int) := ⟨RX7, TX7, 27, tyX7, cr_7, by decide, rfl, rfl, lg_mem 725 (by decide +kernel) rfl, fun h => by cases h⟩
theorem wn_X7_takesNumber : Cond.instanceMethod yX7_takesNumber ∈ LG := lg_mem 814 (by decide +kernel) rfl
theorem wl_X7_takesNumber : Cond.selects yX7_takesNumber.cls yX7_takesNumber yX7_takesNumber ∈ LG := lg_mem 22 (by decide +kernel) rfl
theorem wc_X7_takesNumber : Cond.code yX7_takesNumber cX7_takesNumber 4 (some .boolean) ∈ LG := lg_mem 815 (by decide +kernel) rfl
theorem mv_X7_110 : MV RX7 110 7 yX7_takesNumber cX7_takesNumber 4 (some .boolean) 2 := ⟨⟨TX7, 27, rfl⟩, by decide, lg_mem 812 (by decide +kernel) rfl, wn_X7_takesNumber, wl_X7_takesNumber, wi_X7, wc_X7_takesNumber, by decide, by decide, by decide +kernel⟩
theorem wn_X7_takesSign : Cond.instanceMethod yX7_takesSign ∈ LG := lg_mem 822 (by decide +kernel) rfl
theorem wl_X7_takesSign : Cond.selects yX7_takesSign.cls yX7_takesSign yX7_takesSign ∈ LG := lg_mem 24 (by decide +kernel) rfl
theorem wc_X7_takesSign : Cond.code yX7_takesSign cX7_takesSign 3 (some .boolean) ∈ LG := lg_mem 823 (by decide +kernel) rfl
theorem mv_X7_113 : MV RX7 113 7 yX7_takesSign cX7_takesSign 3 (some .boolean) 1 := ⟨⟨TX7, 27, rfl⟩, by decide, lg_mem 820 (by decide +kernel) rfl, wn_X7_takesSign, wl_X7_takesSign, wi_X7, wc_X7_takesSign, by decide, by decide, by decide +kernel⟩
theorem wn_X7_takesUnit : Cond.instanceMethod yX7_takesUnit ∈ LG := lg_mem 810 (by decide +kernel) rfl
theorem wl_X7_takesUnit : Cond.selects yX7_takesUnit.cls yX7_takesUnit yX7_takesUnit ∈ LG := lg_mem 21 (by decide +kernel) rfl
theorem wc_X7_takesUnit : Cond.code yX7_takesUnit cX7_takesUnit 1 (some .boolean) ∈ LG := lg_mem 811 (by decide +kernel) rfl
theorem mv_X7_117 : MV RX7 117 7 yX7_takesUnit cX7_takesUnit 1 (some .boolean) 0 := ⟨⟨TX7, 27, rfl⟩, by decide, lg_mem 808 (by decide +kernel) rfl, wn_X7_takesUnit, wl_X7_takesUnit, wi_X7, wc_X7_takesUnit, by decide, by decide, by decide +kernel⟩
theorem wn_X7_takesReel : Cond.instanceMethod yX7_takesReel ∈ LG := lg_mem 826 (by decide +kernel) rfl
theorem wl_X7_takesReel : Cond.selects yX7_takesReel.cls yX7_takesReel yX7_takesReel ∈ LG := lg_mem 25 (by decide +kernel) rfl
theorem wc_X7_takesReel : Cond.code yX7_takesReel cX7_takesReel 2 (some .boolean) ∈ LG := lg_mem 827 (by decide +kernel) rfl
theorem mv_X7_121 : MV RX7 121 7 yX7_takesReel cX7_takesReel 2 (some .boolean) 0 := ⟨⟨TX7, 27, rfl⟩, by decide, lg_mem 824 (by decide +kernel) rfl, wn_X7_takesReel, wl_X7_takesReel, wi_X7, wc_X7_takesReel, by decide, by decide, by decide +kernel⟩
theorem wn_X7_takesSetting : Cond.instanceMethod yX7_takesSetting ∈ LG := lg_mem 830 (by decide +kernel) rfl
theorem wl_X7_takesSetting : Cond.selects yX7_takesSetting.cls yX7_takesSetting yX7_takesSetting ∈ LG := lg_mem 26 (by decide +kernel) rfl
theorem wc_X7_takesSetting : Cond.code yX7_takesSetting cX7_takesSetting 2 (some .boolean) ∈ LG := lg_mem 831 (by decide +kernel) rfl
theorem mv_X7_124 : MV RX7 124 7 yX7_takesSetting cX7_takesSetting 2 (some .boolean) 1 := ⟨⟨TX7, 27, rfl⟩, by decide, lg_mem 828 (by decide +kernel) rfl, wn_X7_takesSetting, wl_X7_takesSetting, wi_X7, wc_X7_takesSetting, by decide, by decide, by decide +kernel⟩
theorem wn_X7_takesItem : Cond.instanceMethod yX7_takesItem ∈ LG := lg_mem 806 (by decide +kernel) rfl
theorem wl_X7_takesItem : Cond.selects yX7_takesItem.cls yX7_takesItem yX7_takesItem ∈ LG := lg_mem 20 (by decide +kernel) rfl
theorem wc_X7_takesItem : Cond.code yX7_takesItem cX7_takesItem 1 (some .boolean) ∈ LG := lg_mem 807 (by decide +kernel) rfl
theorem mv_X7_127 : MV RX7 127 7 yX7_takesItem cX7_takesItem 1 (some .boolean) 0 := ⟨⟨TX7, 27, rfl⟩, by decide, lg_mem 804 (by decide +kernel) rfl, wn_X7_takesItem, wl_X7_takesItem, wi_X7, wc_X7_takesItem, by decide, by decide, by decide +kernel⟩
theorem wn_X7_reads : Cond.instanceMethod yX7_reads ∈ LG := lg_mem 798 (by decide +kernel) rfl
theorem wl_X7_reads : Cond.selects yX7_reads.cls yX7_reads yX7_reads ∈ LG := lg_mem 18 (by decide +kernel) rfl
theorem wc_X7_reads : Cond.code yX7_reads cX7_reads 2 (some .int) ∈ LG := lg_mem 799 (by decide +kernel) rfl
theorem mv_X7_130 : MV RX7 130 7 yX7_reads cX7_reads 2 (some .int) 0 := ⟨⟨TX7, 27, rfl⟩, by decide, lg_mem 796 (by decide +kernel) rfl, wn_X7_reads, wl_X7_reads, wi_X7, wc_X7_reads, by decide, by decide, by decide +kernel⟩
theorem wt_X7_copyPlace : Cond.static yX7_copyPlace ∈ LG := lg_mem 857 (by decide +kernel) rfl
theorem wc_X7_copyPlace : Cond.code yX7_copyPlace cX7_copyPlace 1 (some .int) ∈ LG := lg_mem 858 (by decide +kernel) rfl
theorem ms_X7_134 : MS RX7 134 yX7_copyPlace cX7_copyPlace 1 (some .int) 1 := ⟨lg_mem 856 (by decide +kernel) rfl, wt_X7_copyPlace, wi_X7, wc_X7_copyPlace, by decide, by decide, by decide +kernel⟩
theorem wt_X7_passedPlace : Cond.static yX7_passedPlace ∈ LG := lg_mem 872 (by decide +kernel) rfl
theorem wc_X7_passedPlace : Cond.code yX7_passedPlace cX7_passedPlace 2 (some .int) ∈ LG := lg_mem 873 (by decide +kernel) rfl
theorem ms_X7_138 : MS RX7 138 yX7_passedPlace cX7_passedPlace 2 (some .int) 2 := ⟨lg_mem 871 (by decide +kernel) rfl, wt_X7_passedPlace, wi_X7, wc_X7_passedPlace, by decide, by decide, by decide +kernel⟩
theorem wn_X7_isThere : Cond.instanceMethod yX7_isThere ∈ LG := lg_mem 876 (by decide +kernel) rfl
theorem wl_X7_isThere : Cond.selects yX7_isThere.cls yX7_isThere yX7_isThere ∈ LG := lg_mem 34 (by decide +kernel) rfl
theorem wc_X7_isThere : Cond.code yX7_isThere cX7_isThere 2 (some .boolean) ∈ LG := lg_mem 877 (by decide +kernel) rfl
theorem mv_X7_142 : MV RX7 142 7 yX7_isThere cX7_isThere 2 (some .boolean) 1 := ⟨⟨TX7, 27, rfl⟩, by decide, lg_mem 874 (by decide +kernel) rfl, wn_X7_isThere, wl_X7_isThere, wi_X7, wc_X7_isThere, by decide, by decide, by decide +kernel⟩
theorem wn_X7_waitOf : Cond.instanceMethod yX7_waitOf ∈ LG := lg_mem 899 (by decide +kernel) rfl
theorem wl_X7_waitOf : Cond.selects yX7_waitOf.cls yX7_waitOf yX7_waitOf ∈ LG := lg_mem 39 (by decide +kernel) rfl
theorem wc_X7_waitOf : Cond.code yX7_waitOf cX7_waitOf 2 (some .int) ∈ LG := lg_mem 900 (by decide +kernel) rfl
theorem mv_X7_145 : MV RX7 145 7 yX7_waitOf cX7_waitOf 2 (some .int) 1 := ⟨⟨TX7, 27, rfl⟩, by decide, lg_mem 897 (by decide +kernel) rfl, wn_X7_waitOf, wl_X7_waitOf, wi_X7, wc_X7_waitOf, by decide, by decide, by decide +kernel⟩
theorem wt_X7_size : Cond.static yX7_size ∈ LG := lg_mem 887 (by decide +kernel) rfl
theorem wc_X7_size : Cond.code yX7_size cX7_size 1 (some .int) ∈ LG := lg_mem 888 (by decide +kernel) rfl
theorem ms_X7_148 : MS RX7 148 yX7_size cX7_size 1 (some .int) 1 := ⟨lg_mem 886 (by decide +kernel) rfl, wt_X7_size, wi_X7, wc_X7_size, by decide, by decide, by decide +kernel⟩
theorem wn_X7_worst : Cond.instanceMethod yX7_worst ∈ LG := lg_mem 884 (by decide +kernel) rfl
theorem wl_X7_worst : Cond.selects yX7_worst.cls yX7_worst yX7_worst ∈ LG := lg_mem 36 (by decide +kernel) rfl
theorem wc_X7_worst : Cond.code yX7_worst cX7_worst 4 (some .int) ∈ LG := lg_mem 885 (by decide +kernel) rfl
theorem mv_X7_151 : MV RX7 151 7 yX7_worst cX7_worst 4 (some .int) 0 := ⟨⟨TX7, 27, rfl⟩, by decide, lg_mem 882 (by decide +kernel) rfl, wn_X7_worst, wl_X7_worst, wi_X7, wc_X7_worst, by decide, by decide, by decide +kernel⟩
theorem wn_X7_correctedBy : Cond.instanceMethod yX7_correctedBy ∈ LG := lg_mem 895 (by decide +kernel) rfl
theorem wl_X7_correctedBy : Cond.selects yX7_correctedBy.cls yX7_correctedBy yX7_correctedBy ∈ LG := lg_mem 38 (by decide +kernel) rfl
theorem wc_X7_correctedBy : Cond.code yX7_correctedBy cX7_correctedBy 3 none ∈ LG := lg_mem 896 (by decide +kernel) rfl
theorem mv_X7_154 : MV RX7 154 7 yX7_correctedBy cX7_correctedBy 3 none 2 := ⟨⟨TX7, 27, rfl⟩, by decide, lg_mem 893 (by decide +kernel) rfl, wn_X7_correctedBy, wl_X7_correctedBy, wi_X7, wc_X7_correctedBy, by decide, by decide, by decide +kernel⟩
theorem wn_X7_nextReel : Cond.instanceMethod yX7_nextReel ∈ LG := lg_mem 850 (by decide +kernel) rfl
theorem wl_X7_nextReel : Cond.selects yX7_nextReel.cls yX7_nextReel yX7_nextReel ∈ LG := lg_mem 29 (by decide +kernel) rfl
theorem wc_X7_nextReel : Cond.code yX7_nextReel cX7_nextReel 1 (some .int) ∈ LG := lg_mem 851 (by decide +kernel) rfl
theorem mv_X7_158 : MV RX7 158 7 yX7_nextReel cX7_nextReel 1 (some .int) 0 := ⟨⟨TX7, 27, rfl⟩, by decide, lg_mem 848 (by decide +kernel) rfl, wn_X7_nextReel, wl_X7_nextReel, wi_X7, wc_X7_nextReel, by decide, by decide, by decide +kernel⟩
theorem wn_X7_breaks : Cond.instanceMethod yX7_breaks ∈ LG := lg_mem 854 (by decide +kernel) rfl
theorem wl_X7_breaks : Cond.selects yX7_breaks.cls yX7_breaks yX7_breaks ∈ LG := lg_mem 30 (by decide +kernel) rfl
theorem wc_X7_breaks : Cond.code yX7_breaks cX7_breaks 4 none ∈ LG := lg_mem 855 (by decide +kernel) rfl
theorem mv_X7_161 : MV RX7 161 7 yX7_breaks cX7_breaks 4 none 0 := ⟨⟨TX7, 27, rfl⟩, by decide, lg_mem 852 (by decide +kernel) rfl, wn_X7_breaks, wl_X7_breaks, wi_X7, wc_X7_breaks, by decide, by decide, by decide +kernel⟩
theorem wn_X7_goesOnReel : Cond.instanceMethod yX7_goesOnReel ∈ LG := lg_mem 861 (by decide +kernel) rfl
theorem wl_X7_goesOnReel : Cond.selects yX7_goesOnReel.cls yX7_goesOnReel yX7_goesOnReel ∈ LG := lg_mem 31 (by decide +kernel) rfl
theorem wc_X7_goesOnReel : Cond.code yX7_goesOnReel cX7_goesOnReel 1 none ∈ LG := lg_mem 862 (by decide +kernel) rfl
theorem mv_X7_164 : MV RX7 164 7 yX7_goesOnReel cX7_goesOnReel 1 none 0 := ⟨⟨TX7, 27, rfl⟩, by decide, lg_mem 859 (by decide +kernel) rfl, wn_X7_goesOnReel, wl_X7_goesOnReel, wi_X7, wc_X7_goesOnReel, by decide, by decide, by decide +kernel⟩
theorem wn_X7_copyBegins : Cond.instanceMethod yX7_copyBegins ∈ LG := lg_mem 865 (by decide +kernel) rfl
theorem wl_X7_copyBegins : Cond.selects yX7_copyBegins.cls yX7_copyBegins yX7_copyBegins ∈ LG := lg_mem 32 (by decide +kernel) rfl
theorem wc_X7_copyBegins : Cond.code yX7_copyBegins cX7_copyBegins 4 none ∈ LG := lg_mem 866 (by decide +kernel) rfl
theorem mv_X7_167 : MV RX7 167 7 yX7_copyBegins cX7_copyBegins 4 none 1 := ⟨⟨TX7, 27, rfl⟩, by decide, lg_mem 863 (by decide +kernel) rfl, wn_X7_copyBegins, wl_X7_copyBegins, wi_X7, wc_X7_copyBegins, by decide, by decide, by decide +kernel⟩
theorem wn_X7_prints : Cond.instanceMethod yX7_prints ∈ LG := lg_mem 869 (by decide +kernel) rfl
theorem wl_X7_prints : Cond.selects yX7_prints.cls yX7_prints yX7_prints ∈ LG := lg_mem 33 (by decide +kernel) rfl
theorem wc_X7_prints : Cond.code yX7_prints cX7_prints 5 none ∈ LG := lg_mem 870 (by decide +kernel) rfl
theorem mv_X7_171 : MV RX7 171 7 yX7_prints cX7_prints 5 none 1 := ⟨⟨TX7, 27, rfl⟩, by decide, lg_mem 867 (by decide +kernel) rfl, wn_X7_prints, wl_X7_prints, wi_X7, wc_X7_prints, by decide, by decide, by decide +kernel⟩
theorem wn_X7_isSeen : Cond.instanceMethod yX7_isSeen ∈ LG := lg_mem 880 (by decide +kernel) rfl
theorem wl_X7_isSeen : Cond.selects yX7_isSeen.cls yX7_isSeen yX7_isSeen ∈ LG := lg_mem 35 (by decide +kernel) rfl
theorem wc_X7_isSeen : Cond.code yX7_isSeen cX7_isSeen 4 (some .boolean) ∈ LG := lg_mem 881 (by decide +kernel) rfl
theorem mv_X7_175 : MV RX7 175 7 yX7_isSeen cX7_isSeen 4 (some .boolean) 0 := ⟨⟨TX7, 27, rfl⟩, by decide, lg_mem 878 (by decide +kernel) rfl, wn_X7_isSeen, wl_X7_isSeen, wi_X7, wc_X7_isSeen, by decide, by decide, by decide +kernel⟩
theorem wn_X7_corrections : Cond.instanceMethod yX7_corrections ∈ LG := lg_mem 891 (by decide +kernel) rfl
theorem wl_X7_corrections : Cond.selects yX7_corrections.cls yX7_corrections yX7_corrections ∈ LG := lg_mem 37 (by decide +kernel) rfl
theorem wc_X7_corrections : Cond.code yX7_corrections cX7_corrections 3 none ∈ LG := lg_mem 892 (by decide +kernel) rfl
theorem mv_X7_178 : MV RX7 178 7 yX7_corrections cX7_corrections 3 none 0 := ⟨⟨TX7, 27, rfl⟩, by decide, lg_mem 889 (by decide +kernel) rfl, wn_X7_corrections, wl_X7_corrections, wi_X7, wc_X7_corrections, by decide, by decide, by decide +kernel⟩
theorem wn_X7_remembers : Cond.instanceMethod yX7_remembers ∈ LG := lg_mem 842 (by decide +kernel) rfl
theorem wl_X7_remembers : Cond.selects yX7_remembers.cls yX7_remembers yX7_remembers ∈ LG := lg_mem 27 (by decide +kernel) rfl
theorem wc_X7_remembers : Cond.code yX7_remembers cX7_remembers 2 none ∈ LG := lg_mem 843 (by decide +kernel) rfl
theorem mv_X7_181 : MV RX7 181 7 yX7_remembers cX7_remembers 2 none 0 := ⟨⟨TX7, 27, rfl⟩, by decide, lg_mem 840 (by decide +kernel) rfl, wn_X7_remembers, wl_X7_remembers, wi_X7, wc_X7_remembers, by decide, by decide, by decide +kernel⟩
theorem wn_X7_goes : Cond.instanceMethod yX7_goes ∈ LG := lg_mem 846 (by decide +kernel) rfl
theorem wl_X7_goes : Cond.selects yX7_goes.cls yX7_goes yX7_goes ∈ LG := lg_mem 28 (by decide +kernel) rfl
theorem wc_X7_goes : Cond.code yX7_goes cX7_goes 4 (some .boolean) ∈ LG := lg_mem 847 (by decide +kernel) rfl
theorem mv_X7_184 : MV RX7 184 7 yX7_goes cX7_goes 4 (some .boolean) 1 := ⟨⟨TX7, 27, rfl⟩, by decide, lg_mem 844 (by decide +kernel) rfl, wn_X7_goes, wl_X7_goes, wi_X7, wc_X7_goes, by decide, by decide, by decide +kernel⟩
theorem wn_X7_isLater : Cond.instanceMethod yX7_isLater ∈ LG := lg_mem 907 (by decide +kernel) rfl
theorem wl_X7_isLater : Cond.selects yX7_isLater.cls yX7_isLater yX7_isLater ∈ LG := lg_mem 40 (by decide +kernel) rfl
theorem wc_X7_isLater : Cond.code yX7_isLater cX7_isLater 2 (some .boolean) ∈ LG := lg_mem 908 (by decide +kernel) rfl
theorem mv_X7_187 : MV RX7 187 7 yX7_isLater cX7_isLater 2 (some .boolean) 1 := ⟨⟨TX7, 27, rfl⟩, by decide, lg_mem 905 (by decide +kernel) rfl, wn_X7_isLater, wl_X7_isLater, wi_X7, wc_X7_isLater, by decide, by decide, by decide +kernel⟩
theorem wn_X7_passedTo : Cond.instanceMethod yX7_passedTo ∈ LG := lg_mem 932 (by decide +kernel) rfl
theorem wl_X7_passedTo : Cond.selects yX7_passedTo.cls yX7_passedTo yX7_passedTo ∈ LG := lg_mem 41 (by decide +kernel) rfl
theorem wc_X7_passedTo : Cond.code yX7_passedTo cX7_passedTo 4 (some .int) ∈ LG := lg_mem 933 (by decide +kernel) rfl
theorem mv_X7_191 : MV RX7 191 7 yX7_passedTo cX7_passedTo 4 (some .int) 1 := ⟨⟨TX7, 27, rfl⟩, by decide, lg_mem 930 (by decide +kernel) rfl, wn_X7_passedTo, wl_X7_passedTo, wi_X7, wc_X7_passedTo, by decide, by decide, by decide +kernel⟩
theorem wn_X7_laysAside : Cond.instanceMethod yX7_laysAside ∈ LG := lg_mem 953 (by decide +kernel) rfl
theorem wl_X7_laysAside : Cond.selects yX7_laysAside.cls yX7_laysAside yX7_laysAside ∈ LG := lg_mem 42 (by decide +kernel) rfl
theorem wc_X7_laysAside : Cond.code yX7_laysAside cX7_laysAside 2 none ∈ LG := lg_mem 954 (by decide +kernel) rfl
theorem mv_X7_195 : MV RX7 195 7 yX7_laysAside cX7_laysAside 2 none 0 := ⟨⟨TX7, 27, rfl⟩, by decide, lg_mem 951 (by decide +kernel) rfl, wn_X7_laysAside, wl_X7_laysAside, wi_X7, wc_X7_laysAside, by decide, by decide, by decide +kernel⟩
theorem wn_X7_comesBack : Cond.instanceMethod yX7_comesBack ∈ LG := lg_mem 957 (by decide +kernel) rfl
theorem wl_X7_comesBack : Cond.selects yX7_comesBack.cls yX7_comesBack yX7_comesBack ∈ LG := lg_mem 43 (by decide +kernel) rfl
theorem wc_X7_comesBack : Cond.code yX7_comesBack cX7_comesBack 2 none ∈ LG := lg_mem 958 (by decide +kernel) rfl
theorem mv_X7_198 : MV RX7 198 7 yX7_comesBack cX7_comesBack 2 none 0 := ⟨⟨TX7, 27, rfl⟩, by decide, lg_mem 955 (by decide +kernel) rfl, wn_X7_comesBack, wl_X7_comesBack, wi_X7, wc_X7_comesBack, by decide, by decide, by decide +kernel⟩
theorem wn_X7_wasteBy : Cond.instanceMethod yX7_wasteBy ∈ LG := lg_mem 965 (by decide +kernel) rfl
theorem wl_X7_wasteBy : Cond.selects yX7_wasteBy.cls yX7_wasteBy yX7_wasteBy ∈ LG := lg_mem 44 (by decide +kernel) rfl
theorem wc_X7_wasteBy : Cond.code yX7_wasteBy cX7_wasteBy 4 (some .int) ∈ LG := lg_mem 966 (by decide +kernel) rfl
theorem mv_X7_201 : MV RX7 201 7 yX7_wasteBy cX7_wasteBy 4 (some .int) 1 := ⟨⟨TX7, 27, rfl⟩, by decide, lg_mem 963 (by decide +kernel) rfl, wn_X7_wasteBy, wl_X7_wasteBy, wi_X7, wc_X7_wasteBy, by decide, by decide, by decide +kernel⟩
theorem wt_X7_times : Cond.static yX7_times ∈ LG := lg_mem 992 (by decide +kernel) rfl
theorem wc_X7_times : Cond.code yX7_times cX7_times 2 (some .int) ∈ LG := lg_mem 993 (by decide +kernel) rfl
theorem ms_X7_204 : MS RX7 204 yX7_times cX7_times 2 (some .int) 2 := ⟨lg_mem 991 (by decide +kernel) rfl, wt_X7_times, wi_X7, wc_X7_times, by decide, by decide, by decide +kernel⟩
theorem wn_X7_isCause : Cond.instanceMethod yX7_isCause ∈ LG := lg_mem 985 (by decide +kernel) rfl
theorem wl_X7_isCause : Cond.selects yX7_isCause.cls yX7_isCause yX7_isCause ∈ LG := lg_mem 46 (by decide +kernel) rfl
theorem wc_X7_isCause : Cond.code yX7_isCause cX7_isCause 2 (some .boolean) ∈ LG := lg_mem 986 (by decide +kernel) rfl
theorem mv_X7_207 : MV RX7 207 7 yX7_isCause cX7_isCause 2 (some .boolean) 1 := ⟨⟨TX7, 27, rfl⟩, by decide, lg_mem 983 (by decide +kernel) rfl, wn_X7_isCause, wl_X7_isCause, wi_X7, wc_X7_isCause, by decide, by decide, by decide +kernel⟩
theorem wn_X7_isSo : Cond.instanceMethod yX7_isSo ∈ LG := lg_mem 989 (by decide +kernel) rfl
theorem wl_X7_isSo : Cond.selects yX7_isSo.cls yX7_isSo yX7_isSo ∈ LG := lg_mem 47 (by decide +kernel) rfl
theorem wc_X7_isSo : Cond.code yX7_isSo cX7_isSo 5 (some .boolean) ∈ LG := lg_mem 990 (by decide +kernel) rfl
theorem mv_X7_210 : MV RX7 210 7 yX7_isSo cX7_isSo 5 (some .boolean) 1 := ⟨⟨TX7, 27, rfl⟩, by decide, lg_mem 987 (by decide +kernel) rfl, wn_X7_isSo, wl_X7_isSo, wi_X7, wc_X7_isSo, by decide, by decide, by decide +kernel⟩
theorem wn_X7_causes : Cond.instanceMethod yX7_causes ∈ LG := lg_mem 981 (by decide +kernel) rfl
theorem wl_X7_causes : Cond.selects yX7_causes.cls yX7_causes yX7_causes ∈ LG := lg_mem 45 (by decide +kernel) rfl
theorem wc_X7_causes : Cond.code yX7_causes cX7_causes 3 (some .int) ∈ LG := lg_mem 982 (by decide +kernel) rfl
theorem mv_X7_213 : MV RX7 213 7 yX7_causes cX7_causes 3 (some .int) 0 := ⟨⟨TX7, 27, rfl⟩, by decide, lg_mem 979 (by decide +kernel) rfl, wn_X7_causes, wl_X7_causes, wi_X7, wc_X7_causes, by decide, by decide, by decide +kernel⟩
theorem wn_X7_underWay : Cond.instanceMethod yX7_underWay ∈ LG := lg_mem 1012 (by decide +kernel) rfl
theorem wl_X7_underWay : Cond.selects yX7_underWay.cls yX7_underWay yX7_underWay ∈ LG := lg_mem 48 (by decide +kernel) rfl
theorem wc_X7_underWay : Cond.code yX7_underWay cX7_underWay 3 (some .int) ∈ LG := lg_mem 1013 (by decide +kernel) rfl
theorem mv_X7_216 : MV RX7 216 7 yX7_underWay cX7_underWay 3 (some .int) 0 := ⟨⟨TX7, 27, rfl⟩, by decide, lg_mem 1010 (by decide +kernel) rfl, wn_X7_underWay, wl_X7_underWay, wi_X7, wc_X7_underWay, by decide, by decide, by decide +kernel⟩
theorem fr_X0_11 : FR RX0 11 0 0 true (.array .int) := ⟨RX0, TX0, 11, tyX0, cr_0, by decide, rfl, rfl, lg_mem 178 (by decide +kernel) rfl, fun _ h => by first | exact h.symm | rfl⟩
theorem fr_X0_15 : FR RX0 15 0 1 true (.array .int) := ⟨RX0, TX0, 11, tyX0, cr_0, by decide, rfl, rfl, lg_mem 179 (by decide +kernel) rfl, fun _ h => by first | exact h.symm | rfl⟩
theorem fr_X0_18 : FR RX0 18 0 2 true (.array .int) := ⟨RX0, TX0, 11, tyX0, cr_0, by decide, rfl, rfl, lg_mem 180 (by decide +kernel) rfl, fun _ h => by first | exact h.symm | rfl⟩
theorem fr_X0_21 : FR RX0 21 0 3 true (.array .int) := ⟨RX0, TX0, 11, tyX0, cr_0, by decide, rfl, rfl, lg_mem 181 (by decide +kernel) rfl, fun _ h => by first | exact h.symm | rfl⟩
theorem fr_X0_24 : FR RX0 24 0 10 true (.array .int) := ⟨RX0, TX0, 11, tyX0, cr_0, by decide, rfl, rfl, lg_mem 197 (by decide +kernel) rfl, fun _ h => by first | exact h.symm | rfl⟩
theorem fr_X0_27 : FR RX0 27 0 4 false (.int) := ⟨RX0, TX0, 11, tyX0, cr_0, by decide, rfl, rfl, lg_mem 182 (by decide +kernel) rfl, fun h => by cases h⟩
theorem fr_X0_31 : FR RX0 31 0 5 false (.int) := ⟨RX0, TX0, 11, tyX0, cr_0, by decide, rfl, rfl, lg_mem 184 (by decide +kernel) rfl, fun h => by cases h⟩
theorem fr_X0_34 : FR RX0 34 0 6 false (.boolean) := ⟨RX0, TX0, 11, tyX0, cr_0, by decide, rfl, rfl, lg_mem 187 (by decide +kernel) rfl, fun h => by cases h⟩
theorem wt_J7_fill_53178 : Cond.static yJ7_fill_53178 ∈ LG := lg_mem 322 (by decide +kernel) rfl
theorem wi_J7 : Cond.initialized RJ7 ∈ LG := lg_mem 57 (by decide +kernel) rfl
theorem wc_J7_fill_53178 : Cond.code yJ7_fill_53178 cJ7_fill_53178 4 none ∈ LG := lg_mem 323 (by decide +kernel) rfl
theorem ms_X0_38 : MS RX0 38 yJ7_fill_53178 cJ7_fill_53178 4 none 2 := ⟨lg_mem 328 (by decide +kernel) rfl, wt_J7_fill_53178, wi_J7, wc_J7_fill_53178, by decide, by decide, by decide +kernel⟩
theorem wk_X0_44 : Cond.methodLink RX0 44 arraycopyName ∈ LG := lg_mem 450 (by decide +kernel) rfl
theorem fr_X0_50 : FR RX0 50 0 7 false (.int) := ⟨RX0, TX0, 11, tyX0, cr_0, by decide, rfl, rfl, lg_mem 189 (by decide +kernel) rfl, fun h => by cases h⟩
theorem fr_X0_53 : FR RX0 53 0 8 false (.boolean) := ⟨RX0, TX0, 11, tyX0, cr_0, by decide, rfl, rfl, lg_mem 191 (by decide +kernel) rfl, fun h => by cases h⟩
theorem fr_X0_56 : FR RX0 56 0 9 false (.boolean) := ⟨RX0, TX0, 11, tyX0, cr_0, by decide, rfl, rfl, lg_mem 194 (by decide +kernel) rfl, fun h => by cases h⟩
theorem wn_X0_placeOf : Cond.instanceMethod yX0_placeOf ∈ LG := lg_mem 482 (by decide +kernel) rfl
theorem wl_X0_placeOf : Cond.selects yX0_placeOf.cls yX0_placeOf yX0_placeOf ∈ LG := lg_mem 10 (by decide +kernel) rfl
theorem wc_X0_placeOf : Cond.code yX0_placeOf cX0_placeOf 2 (some .int) ∈ LG := lg_mem 483 (by decide +kernel) rfl
theorem mv_X0_59 : MV RX0 59 0 yX0_placeOf cX0_placeOf 2 (some .int) 1 := ⟨⟨TX0, 11, rfl⟩, by decide, lg_mem 480 (by decide +kernel) rfl, wn_X0_placeOf, wl_X0_placeOf, wi_X0, wc_X0_placeOf, by decide, by decide, by decide +kernel⟩
theorem mn_X6_isWithin : MN yX6_isWithin cX6_isWithin 3 (some .boolean) 3 := ⟨wt_X6_isWithin, wi_X6, wc_X6_isWithin, by decide, by decide, by decide +kernel⟩
theorem mv_X0_67 : MV RX0 67 0 yX0_cameFurtherOutThan cX0_cameFurtherOutThan 3 (some .boolean) 1 := ⟨⟨TX0, 11, rfl⟩, by decide, lg_mem 508 (by decide +kernel) rfl, wn_X0_cameFurtherOutThan, wl_X0_cameFurtherOutThan, wi_X0, wc_X0_cameFurtherOutThan, by decide, by decide, by decide +kernel⟩
theorem wt_J9_abs_0f7a4 : Cond.static yJ9_abs_0f7a4 ∈ LG := lg_mem 513 (by decide +kernel) rfl
theorem wi_J9 : Cond.initialized RJ9 ∈ LG := lg_mem 59 (by decide +kernel) rfl
theorem wc_J9_abs_0f7a4 : Cond.code yJ9_abs_0f7a4 cJ9_abs_0f7a4 1 (some .int) ∈ LG := lg_mem 514 (by decide +kernel) rfl
theorem ms_X0_71 : MS RX0 71 yJ9_abs_0f7a4 cJ9_abs_0f7a4 1 (some .int) 1 := ⟨lg_mem 512 (by decide +kernel) rfl, wt_J9_abs_0f7a4, wi_J9, wc_J9_abs_0f7a4, by decide, by decide, by decide +kernel⟩
theorem fr_X1_9 : FR RX1 9 1 0 true (.array .int) := ⟨RX1, TX1, 3, tyX1, cr_1, by decide, rfl, rfl, lg_mem 305 (by decide +kernel) rfl, fun _ h => by first | exact h.symm | rfl⟩
theorem fr_X1_15 : FR RX1 15 1 1 true (.array .int) := ⟨RX1, TX1, 3, tyX1, cr_1, by decide, rfl, rfl, lg_mem 306 (by decide +kernel) rfl, fun _ h => by first | exact h.symm | rfl⟩
theorem fr_X1_18 : FR RX1 18 1 2 false (.int) := ⟨RX1, TX1, 3, tyX1, cr_1, by decide, rfl, rfl, lg_mem 307 (by decide +kernel) rfl, fun h => by cases h⟩
theorem wt_X1_unitOf : Cond.static yX1_unitOf ∈ LG := lg_mem 639 (by decide +kernel) rfl
theorem wc_X1_unitOf : Cond.code yX1_unitOf cX1_unitOf 1 (some .int) ∈ LG := lg_mem 640 (by decide +kernel) rfl
theorem ms_X1_22 : MS RX1 22 yX1_unitOf cX1_unitOf 1 (some .int) 1 := ⟨lg_mem 638 (by decide +kernel) rfl, wt_X1_unitOf, wi_X1, wc_X1_unitOf, by decide, by decide, by decide +kernel⟩
theorem wn_X1_fitsAny : Cond.instanceMethod yX1_fitsAny ∈ LG := lg_mem 643 (by decide +kernel) rfl
theorem wl_X1_fitsAny : Cond.selects yX1_fitsAny.cls yX1_fitsAny yX1_fitsAny ∈ LG := lg_mem 14 (by decide +kernel) rfl
theorem wc_X1_fitsAny : Cond.code yX1_fitsAny cX1_fitsAny 3 (some .boolean) ∈ LG := lg_mem 644 (by decide +kernel) rfl
theorem mv_X1_26 : MV RX1 26 1 yX1_fitsAny cX1_fitsAny 3 (some .boolean) 1 := ⟨⟨TX1, 3, rfl⟩, by decide, lg_mem 641 (by decide +kernel) rfl, wn_X1_fitsAny, wl_X1_fitsAny, wi_X1, wc_X1_fitsAny, by decide, by decide, by decide +kernel⟩
theorem mv_X1_30 : MV RX1 30 1 yX1_causes cX1_causes 4 (some .int) 1 := ⟨⟨TX1, 3, rfl⟩, by decide, lg_mem 660 (by decide +kernel) rfl, wn_X1_causes, wl_X1_causes, wi_X1, wc_X1_causes, by decide, by decide, by decide +kernel⟩
theorem wt_J6_bitCount_0f7a4 : Cond.static yJ6_bitCount_0f7a4 ∈ LG := lg_mem 662 (by decide +kernel) rfl
theorem wi_J6 : Cond.initialized RJ6 ∈ LG := lg_mem 61 (by decide +kernel) rfl
theorem wc_J6_bitCount_0f7a4 : Cond.code yJ6_bitCount_0f7a4 cJ6_bitCount_0f7a4 1 (some .int) ∈ LG := lg_mem 663 (by decide +kernel) rfl
theorem ms_X1_33 : MS RX1 33 yJ6_bitCount_0f7a4 cJ6_bitCount_0f7a4 1 (some .int) 1 := ⟨lg_mem 661 (by decide +kernel) rfl, wt_J6_bitCount_0f7a4, wi_J6, wc_J6_bitCount_0f7a4, by decide, by decide, by decide +kernel⟩
theorem wt_X1_silentAt : Cond.static yX1_silentAt ∈ LG := lg_mem 668 (by decide +kernel) rfl
theorem wc_X1_silentAt : Cond.code yX1_silentAt cX1_silentAt 4 (some .int) ∈ LG := lg_mem 669 (by decide +kernel) rfl
theorem ms_X1_38 : MS RX1 38 yX1_silentAt cX1_silentAt 4 (some .int) 2 := ⟨lg_mem 667 (by decide +kernel) rfl, wt_X1_silentAt, wi_X1, wc_X1_silentAt, by decide, by decide, by decide +kernel⟩
theorem wt_J9_max_7cf53 : Cond.static yJ9_max_7cf53 ∈ LG := lg_mem 671 (by decide +kernel) rfl
theorem wc_J9_max_7cf53 : Cond.code yJ9_max_7cf53 cJ9_max_7cf53 2 (some .int) ∈ LG := lg_mem 672 (by decide +kernel) rfl
theorem ms_X1_42 : MS RX1 42 yJ9_max_7cf53 cJ9_max_7cf53 2 (some .int) 2 := ⟨lg_mem 670 (by decide +kernel) rfl, wt_J9_max_7cf53, wi_J9, wc_J9_max_7cf53, by decide, by decide, by decide +kernel⟩
theorem wn_X1_fits : Cond.instanceMethod yX1_fits ∈ LG := lg_mem 647 (by decide +kernel) rfl
theorem wl_X1_fits : Cond.selects yX1_fits.cls yX1_fits yX1_fits ∈ LG := lg_mem 15 (by decide +kernel) rfl
theorem wc_X1_fits : Cond.code yX1_fits cX1_fits 4 (some .boolean) ∈ LG := lg_mem 648 (by decide +kernel) rfl
theorem mv_X1_47 : MV RX1 47 1 yX1_fits cX1_fits 4 (some .boolean) 2 := ⟨⟨TX1, 3, rfl⟩, by decide, lg_mem 645 (by decide +kernel) rfl, wn_X1_fits, wl_X1_fits, wi_X1, wc_X1_fits, by decide, by decide, by decide +kernel⟩
theorem wt_X1_effect : Cond.static yX1_effect ∈ LG := lg_mem 650 (by decide +kernel) rfl
theorem wc_X1_effect : Cond.code yX1_effect cX1_effect 4 (some .int) ∈ LG := lg_mem 651 (by decide +kernel) rfl
theorem ms_X1_51 : MS RX1 51 yX1_effect cX1_effect 4 (some .int) 3 := ⟨lg_mem 649 (by decide +kernel) rfl, wt_X1_effect, wi_X1, wc_X1_effect, by decide, by decide, by decide +kernel⟩
theorem fr_X2_11 : FR RX2 11 2 0 true (.array (.object "SplicedWeb$Press")) := ⟨RX2, TX2, 3, tyX2, cr_2, by decide, rfl, rfl, lg_mem 288 (by decide +kernel) rfl, fun _ h => by first | exact h.symm | rfl⟩
theorem fr_X2_18 : FR RX2 18 2 1 false (.int) := ⟨RX2, TX2, 3, tyX2, cr_2, by decide, rfl, rfl, lg_mem 289 (by decide +kernel) rfl, fun h => by cases h⟩
theorem mv_X2_22 : MV RX2 22 4 yX4_takeFrom cX4_takeFrom 2 none 1 := ⟨⟨TX4, 14, rfl⟩, by decide, lg_mem 439 (by decide +kernel) rfl, wn_X4_takeFrom, wl_X4_takeFrom, wi_X4, wc_X4_takeFrom, by decide, by decide, by decide +kernel⟩
theorem fr_X2_26 : FR RX2 26 2 2 false (.int) := ⟨RX2, TX2, 3, tyX2, cr_2, by decide, rfl, rfl, lg_mem 290 (by decide +kernel) rfl, fun h => by cases h⟩
theorem wt_J9_min_7cf53 : Cond.static yJ9_min_7cf53 ∈ LG := lg_mem 393 (by decide +kernel) rfl
theorem wc_J9_min_7cf53 : Cond.code yJ9_min_7cf53 cJ9_min_7cf53 2 (some .int) ∈ LG := lg_mem 394 (by decide +kernel) rfl
theorem ms_X2_29 : MS RX2 29 yJ9_min_7cf53 cJ9_min_7cf53 2 (some .int) 2 := ⟨lg_mem 451 (by decide +kernel) rfl, wt_J9_min_7cf53, wi_J9, wc_J9_min_7cf53, by decide, by decide, by decide +kernel⟩
theorem fr_X3_9 : FR RX3 9 3 0 true (.array .int) := ⟨RX3, TX3, 10, tyX3, cr_3, by decide, rfl, rfl, lg_mem 110 (by decide +kernel) rfl, fun _ h => by first | exact h.symm | rfl⟩
theorem fr_X3_15 : FR RX3 15 3 1 true (.array .int) := ⟨RX3, TX3, 10, tyX3, cr_3, by decide, rfl, rfl, lg_mem 113 (by decide +kernel) rfl, fun _ h => by first | exact h.symm | rfl⟩
theorem fr_X3_18 : FR RX3 18 3 2 true (.array .int) := ⟨RX3, TX3, 10, tyX3, cr_3, by decide, rfl, rfl, lg_mem 116 (by decide +kernel) rfl, fun _ h => by first | exact h.symm | rfl⟩
theorem fr_X3_21 : FR RX3 21 3 3 true (.array .int) := ⟨RX3, TX3, 10, tyX3, cr_3, by decide, rfl, rfl, lg_mem 119 (by decide +kernel) rfl, fun _ h => by first | exact h.symm | rfl⟩
theorem wn_X3_setAsAtFirst : Cond.instanceMethod yX3_setAsAtFirst ∈ LG := lg_mem 107 (by decide +kernel) rfl
theorem wl_X3_setAsAtFirst : Cond.selects yX3_setAsAtFirst.cls yX3_setAsAtFirst yX3_setAsAtFirst ∈ LG := lg_mem 108 (by decide +kernel) rfl
theorem wc_X3_setAsAtFirst : Cond.code yX3_setAsAtFirst cX3_setAsAtFirst 1 none ∈ LG := lg_mem 109 (by decide +kernel) rfl
theorem mv_X3_24 : MV RX3 24 3 yX3_setAsAtFirst cX3_setAsAtFirst 1 none 0 := ⟨⟨TX3, 10, rfl⟩, by decide, lg_mem 106 (by decide +kernel) rfl, wn_X3_setAsAtFirst, wl_X3_setAsAtFirst, wi_X3, wc_X3_setAsAtFirst, by decide, by decide, by decide +kernel⟩
theorem fr_X3_27 : FR RX3 27 3 4 false (.int) := ⟨RX3, TX3, 10, tyX3, cr_3, by decide, rfl, rfl, lg_mem 122 (by decide +kernel) rfl, fun h => by cases h⟩
theorem fr_X3_31 : FR RX3 31 3 5 false (.int) := ⟨RX3, TX3, 10, tyX3, cr_3, by decide, rfl, rfl, lg_mem 126 (by decide +kernel) rfl, fun h => by cases h⟩
theorem fr_X3_34 : FR RX3 34 3 6 false (.int) := ⟨RX3, TX3, 10, tyX3, cr_3, by decide, rfl, rfl, lg_mem 130 (by decide +kernel) rfl, fun h => by cases h⟩
theorem fr_X3_37 : FR RX3 37 3 7 false (.int) := ⟨RX3, TX3, 10, tyX3, cr_3, by decide, rfl, rfl, lg_mem 133 (by decide +kernel) rfl, fun h => by cases h⟩
theorem fr_X3_40 : FR RX3 40 3 8 false (.int) := ⟨RX3, TX3, 10, tyX3, cr_3, by decide, rfl, rfl, lg_mem 137 (by decide +kernel) rfl, fun h => by cases h⟩
theorem fr_X3_43 : FR RX3 43 3 9 false (.int) := ⟨RX3, TX3, 10, tyX3, cr_3, by decide, rfl, rfl, lg_mem 141 (by decide +kernel) rfl, fun h => by cases h⟩
theorem fr_X4_9 : FR RX4 9 4 0 true (.array .int) := ⟨RX4, TX4, 14, tyX4, cr_4, by decide, rfl, rfl, lg_mem 223 (by decide +kernel) rfl, fun _ h => by first | exact h.symm | rfl⟩
theorem fr_X4_15 : FR RX4 15 4 1 true (.array .int) := ⟨RX4, TX4, 14, tyX4, cr_4, by decide, rfl, rfl, lg_mem 225 (by decide +kernel) rfl, fun _ h => by first | exact h.symm | rfl⟩
theorem fr_X4_18 : FR RX4 18 4 2 true (.array .int) := ⟨RX4, TX4, 14, tyX4, cr_4, by decide, rfl, rfl, lg_mem 227 (by decide +kernel) rfl, fun _ h => by first | exact h.symm | rfl⟩
theorem fr_X4_21 : FR RX4 21 4 3 true (.array .int) := ⟨RX4, TX4, 14, tyX4, cr_4, by decide, rfl, rfl, lg_mem 229 (by decide +kernel) rfl, fun _ h => by first | exact h.symm | rfl⟩
theorem wn_X0_init : Cond.instanceMethod yX0_init ∈ LG := lg_mem 175 (by decide +kernel) rfl
theorem wc_X0_init : Cond.code yX0_init cX0_init 1 none ∈ LG := lg_mem 176 (by decide +kernel) rfl
theorem mi_X0_init : MI yX0_init cX0_init 1 0 := ⟨wn_X0_init, wi_X0, wc_X0_init, by decide, by decide, by decide +kernel, rfl⟩
theorem fr_X4_27 : FR RX4 27 4 4 true (.object "SplicedWeb$Band") := ⟨RX4, TX4, 14, tyX4, cr_4, by decide, rfl, rfl, lg_mem 230 (by decide +kernel) rfl, fun _ h => by first | exact h.symm | rfl⟩
theorem ms_X4_31 : MS RX4 31 yJ7_fill_53178 cJ7_fill_53178 4 none 2 := ⟨lg_mem 321 (by decide +kernel) rfl, wt_J7_fill_53178, wi_J7, wc_J7_fill_53178, by decide, by decide, by decide +kernel⟩
theorem wn_X0_setAsAtFirst : Cond.instanceMethod yX0_setAsAtFirst ∈ LG := lg_mem 325 (by decide +kernel) rfl
theorem wl_X0_setAsAtFirst : Cond.selects yX0_setAsAtFirst.cls yX0_setAsAtFirst yX0_setAsAtFirst ∈ LG := lg_mem 326 (by decide +kernel) rfl
theorem wc_X0_setAsAtFirst : Cond.code yX0_setAsAtFirst cX0_setAsAtFirst 1 none ∈ LG := lg_mem 327 (by decide +kernel) rfl
theorem mv_X4_37 : MV RX4 37 0 yX0_setAsAtFirst cX0_setAsAtFirst 1 none 0 := ⟨⟨TX0, 11, rfl⟩, by decide, lg_mem 324 (by decide +kernel) rfl, wn_X0_setAsAtFirst, wl_X0_setAsAtFirst, wi_X0, wc_X0_setAsAtFirst, by decide, by decide, by decide +kernel⟩
theorem fr_X4_40 : FR RX4 40 3 5 false (.int) := ⟨RX3, TX3, 10, tyX3, cr_3, by decide, rfl, rfl, lg_mem 127 (by decide +kernel) rfl, fun h => by cases h⟩
theorem fr_X4_46 : FR RX4 46 4 5 false (.int) := ⟨RX4, TX4, 14, tyX4, cr_4, by decide, rfl, rfl, lg_mem 232 (by decide +kernel) rfl, fun h => by cases h⟩
theorem fr_X4_49 : FR RX4 49 3 2 true (.array .int) := ⟨RX3, TX3, 10, tyX3, cr_3, by decide, rfl, rfl, lg_mem 117 (by decide +kernel) rfl, fun _ h => by first | exact h.symm | rfl⟩
theorem fr_X4_52 : FR RX4 52 4 6 false (.int) := ⟨RX4, TX4, 14, tyX4, cr_4, by decide, rfl, rfl, lg_mem 234 (by decide +kernel) rfl, fun h => by cases h⟩
theorem fr_X4_55 : FR RX4 55 4 7 false (.int) := ⟨RX4, TX4, 14, tyX4, cr_4, by decide, rfl, rfl, lg_mem 236 (by decide +kernel) rfl, fun h => by cases h⟩
theorem fr_X4_58 : FR RX4 58 4 8 false (.boolean) := ⟨RX4, TX4, 14, tyX4, cr_4, by decide, rfl, rfl, lg_mem 238 (by decide +kernel) rfl, fun h => by cases h⟩
theorem fr_X4_62 : FR RX4 62 4 9 false (.boolean) := ⟨RX4, TX4, 14, tyX4, cr_4, by decide, rfl, rfl, lg_mem 240 (by decide +kernel) rfl, fun h => by cases h⟩
theorem fr_X4_65 : FR RX4 65 4 10 false (.int) := ⟨RX4, TX4, 14, tyX4, cr_4, by decide, rfl, rfl, lg_mem 242 (by decide +kernel) rfl, fun h => by cases h⟩
theorem fr_X4_68 : FR RX4 68 4 11 false (.int) := ⟨RX4, TX4, 14, tyX4, cr_4, by decide, rfl, rfl, lg_mem 244 (by decide +kernel) rfl, fun h => by cases h⟩
theorem fr_X4_71 : FR RX4 71 4 12 false (.int) := ⟨RX4, TX4, 14, tyX4, cr_4, by decide, rfl, rfl, lg_mem 246 (by decide +kernel) rfl, fun h => by cases h⟩
theorem fr_X4_74 : FR RX4 74 4 13 false (.int) := ⟨RX4, TX4, 14, tyX4, cr_4, by decide, rfl, rfl, lg_mem 248 (by decide +kernel) rfl, fun h => by cases h⟩
theorem wk_X4_77 : Cond.methodLink RX4 77 arraycopyName ∈ LG := lg_mem 443 (by decide +kernel) rfl
theorem wn_X0_takeFrom : Cond.instanceMethod yX0_takeFrom ∈ LG := lg_mem 447 (by decide +kernel) rfl
theorem wl_X0_takeFrom : Cond.selects yX0_takeFrom.cls yX0_takeFrom yX0_takeFrom ∈ LG := lg_mem 448 (by decide +kernel) rfl
theorem wc_X0_takeFrom : Cond.code yX0_takeFrom cX0_takeFrom 2 none ∈ LG := lg_mem 449 (by decide +kernel) rfl
theorem mv_X4_83 : MV RX4 83 0 yX0_takeFrom cX0_takeFrom 2 none 1 := ⟨⟨TX0, 11, rfl⟩, by decide, lg_mem 446 (by decide +kernel) rfl, wn_X0_takeFrom, wl_X0_takeFrom, wi_X0, wc_X0_takeFrom, by decide, by decide, by decide +kernel⟩
theorem mv_X4_87 : MV RX4 87 3 yX3_hasReel cX3_hasReel 2 (some .boolean) 1 := ⟨⟨TX3, 10, rfl⟩, by decide, lg_mem 464 (by decide +kernel) rfl, wn_X3_hasReel, wl_X3_hasReel, wi_X3, wc_X3_hasReel, by decide, by decide, by decide +kernel⟩
theorem wt_X4_passPlace : Cond.static yX4_passPlace ∈ LG := lg_mem 489 (by decide +kernel) rfl
theorem wc_X4_passPlace : Cond.code yX4_passPlace cX4_passPlace 2 (some .int) ∈ LG := lg_mem 490 (by decide +kernel) rfl
theorem ms_X4_91 : MS RX4 91 yX4_passPlace cX4_passPlace 2 (some .int) 2 := ⟨lg_mem 488 (by decide +kernel) rfl, wt_X4_passPlace, wi_X4, wc_X4_passPlace, by decide, by decide, by decide +kernel⟩
theorem mv_X4_95 : MV RX4 95 3 yX3_isMovable cX3_isMovable 2 (some .boolean) 1 := ⟨⟨TX3, 10, rfl⟩, by decide, lg_mem 524 (by decide +kernel) rfl, wn_X3_isMovable, wl_X3_isMovable, wi_X3, wc_X3_isMovable, by decide, by decide, by decide +kernel⟩
theorem wn_X3_ticksToCameraFrom : Cond.instanceMethod yX3_ticksToCameraFrom ∈ LG := lg_mem 497 (by decide +kernel) rfl
theorem wl_X3_ticksToCameraFrom : Cond.selects yX3_ticksToCameraFrom.cls yX3_ticksToCameraFrom yX3_ticksToCameraFrom ∈ LG := lg_mem 498 (by decide +kernel) rfl
theorem wc_X3_ticksToCameraFrom : Cond.code yX3_ticksToCameraFrom cX3_ticksToCameraFrom 2 (some .int) ∈ LG := lg_mem 499 (by decide +kernel) rfl
theorem mv_X4_98 : MV RX4 98 3 yX3_ticksToCameraFrom cX3_ticksToCameraFrom 2 (some .int) 1 := ⟨⟨TX3, 10, rfl⟩, by decide, lg_mem 496 (by decide +kernel) rfl, wn_X3_ticksToCameraFrom, wl_X3_ticksToCameraFrom, wi_X3, wc_X3_ticksToCameraFrom, by decide, by decide, by decide +kernel⟩
theorem mv_X4_102 : MV RX4 102 3 yX3_hasUnit cX3_hasUnit 2 (some .boolean) 1 := ⟨⟨TX3, 10, rfl⟩, by decide, lg_mem 528 (by decide +kernel) rfl, wn_X3_hasUnit, wl_X3_hasUnit, wi_X3, wc_X3_hasUnit, by decide, by decide, by decide +kernel⟩
theorem fr_X4_105 : FR RX4 105 3 0 true (.array .int) := ⟨RX3, TX3, 10, tyX3, cr_3, by decide, rfl, rfl, lg_mem 111 (by decide +kernel) rfl, fun _ h => by first | exact h.symm | rfl⟩
theorem mv_X4_108 : MV RX4 108 4 yX4_tick cX4_tick 4 (some .boolean) 1 := ⟨⟨TX4, 14, rfl⟩, by decide, lg_mem 613 (by decide +kernel) rfl, wn_X4_tick, wl_X4_tick, wi_X4, wc_X4_tick, by decide, by decide, by decide +kernel⟩
theorem wn_X4_canPaste : Cond.instanceMethod yX4_canPaste ∈ LG := lg_mem 458 (by decide +kernel) rfl
theorem wl_X4_canPaste : Cond.selects yX4_canPaste.cls yX4_canPaste yX4_canPaste ∈ LG := lg_mem 7 (by decide +kernel) rfl
theorem wc_X4_canPaste : Cond.code yX4_canPaste cX4_canPaste 2 (some .boolean) ∈ LG := lg_mem 459 (by decide +kernel) rfl
theorem mv_X4_112 : MV RX4 112 4 yX4_canPaste cX4_canPaste 2 (some .boolean) 1 := ⟨⟨TX4, 14, rfl⟩, by decide, lg_mem 456 (by decide +kernel) rfl, wn_X4_canPaste, wl_X4_canPaste, wi_X4, wc_X4_canPaste, by decide, by decide, by decide +kernel⟩
theorem wn_X4_breakOff : Cond.instanceMethod yX4_breakOff ∈ LG := lg_mem 470 (by decide +kernel) rfl
theorem wl_X4_breakOff : Cond.selects yX4_breakOff.cls yX4_breakOff yX4_breakOff ∈ LG := lg_mem 8 (by decide +kernel) rfl
theorem wc_X4_breakOff : Cond.code yX4_breakOff cX4_breakOff 1 none ∈ LG := lg_mem 471 (by decide +kernel) rfl
theorem mv_X4_115 : MV RX4 115 4 yX4_breakOff cX4_breakOff 1 none 0 := ⟨⟨TX4, 14, rfl⟩, by decide, lg_mem 468 (by decide +kernel) rfl, wn_X4_breakOff, wl_X4_breakOff, wi_X4, wc_X4_breakOff, by decide, by decide, by decide +kernel⟩
theorem wn_X4_mountNext : Cond.instanceMethod yX4_mountNext ∈ LG := lg_mem 474 (by decide +kernel) rfl
theorem wl_X4_mountNext : Cond.selects yX4_mountNext.cls yX4_mountNext yX4_mountNext ∈ LG := lg_mem 9 (by decide +kernel) rfl
theorem wc_X4_mountNext : Cond.code yX4_mountNext cX4_mountNext 3 none ∈ LG := lg_mem 475 (by decide +kernel) rfl
theorem mv_X4_118 : MV RX4 118 4 yX4_mountNext cX4_mountNext 3 none 1 := ⟨⟨TX4, 14, rfl⟩, by decide, lg_mem 472 (by decide +kernel) rfl, wn_X4_mountNext, wl_X4_mountNext, wi_X4, wc_X4_mountNext, by decide, by decide, by decide +kernel⟩
theorem fr_X4_122 : FR RX4 122 3 3 true (.array .int) := ⟨RX3, TX3, 10, tyX3, cr_3, by decide, rfl, rfl, lg_mem 120 (by decide +kernel) rfl, fun _ h => by first | exact h.symm | rfl⟩
theorem wn_X0_begin : Cond.instanceMethod yX0_begin ∈ LG := lg_mem 477 (by decide +kernel) rfl
theorem wl_X0_begin : Cond.selects yX0_begin.cls yX0_begin yX0_begin ∈ LG := lg_mem 478 (by decide +kernel) rfl
theorem wc_X0_begin : Cond.code yX0_begin cX0_begin 4 none ∈ LG := lg_mem 479 (by decide +kernel) rfl
theorem mv_X4_125 : MV RX4 125 0 yX0_begin cX0_begin 4 none 2 := ⟨⟨TX0, 11, rfl⟩, by decide, lg_mem 476 (by decide +kernel) rfl, wn_X0_begin, wl_X0_begin, wi_X0, wc_X0_begin, by decide, by decide, by decide +kernel⟩
theorem wn_X4_print : Cond.instanceMethod yX4_print ∈ LG := lg_mem 486 (by decide +kernel) rfl
theorem wl_X4_print : Cond.selects yX4_print.cls yX4_print yX4_print ∈ LG := lg_mem 11 (by decide +kernel) rfl
theorem wc_X4_print : Cond.code yX4_print cX4_print 4 none ∈ LG := lg_mem 487 (by decide +kernel) rfl
theorem mv_X4_129 : MV RX4 129 4 yX4_print cX4_print 4 none 1 := ⟨⟨TX4, 14, rfl⟩, by decide, lg_mem 484 (by decide +kernel) rfl, wn_X4_print, wl_X4_print, wi_X4, wc_X4_print, by decide, by decide, by decide +kernel⟩
theorem fr_X4_132 : FR RX4 132 0 5 false (.int) := ⟨RX0, TX0, 11, tyX0, cr_0, by decide, rfl, rfl, lg_mem 185 (by decide +kernel) rfl, fun h => by cases h⟩
theorem wn_X4_judge : Cond.instanceMethod yX4_judge ∈ LG := lg_mem 502 (by decide +kernel) rfl
theorem wl_X4_judge : Cond.selects yX4_judge.cls yX4_judge yX4_judge ∈ LG := lg_mem 12 (by decide +kernel) rfl
theorem wc_X4_judge : Cond.code yX4_judge cX4_judge 2 none ∈ LG := lg_mem 503 (by decide +kernel) rfl
theorem mv_X4_135 : MV RX4 135 4 yX4_judge cX4_judge 2 none 1 := ⟨⟨TX4, 14, rfl⟩, by decide, lg_mem 500 (by decide +kernel) rfl, wn_X4_judge, wl_X4_judge, wi_X4, wc_X4_judge, by decide, by decide, by decide +kernel⟩
theorem wn_X4_adjust : Cond.instanceMethod yX4_adjust ∈ LG := lg_mem 517 (by decide +kernel) rfl
theorem wl_X4_adjust : Cond.selects yX4_adjust.cls yX4_adjust yX4_adjust ∈ LG := lg_mem 13 (by decide +kernel) rfl
theorem wc_X4_adjust : Cond.code yX4_adjust cX4_adjust 4 none ∈ LG := lg_mem 518 (by decide +kernel) rfl
theorem mv_X4_138 : MV RX4 138 4 yX4_adjust cX4_adjust 4 none 1 := ⟨⟨TX4, 14, rfl⟩, by decide, lg_mem 515 (by decide +kernel) rfl, wn_X4_adjust, wl_X4_adjust, wi_X4, wc_X4_adjust, by decide, by decide, by decide +kernel⟩
theorem mv_X4_141 : MV RX4 141 4 yX4_nextReel cX4_nextReel 2 (some .int) 1 := ⟨⟨TX4, 14, rfl⟩, by decide, lg_mem 460 (by decide +kernel) rfl, wn_X4_nextReel, wl_X4_nextReel, wi_X4, wc_X4_nextReel, by decide, by decide, by decide +kernel⟩
theorem fr_X4_145 : FR RX4 145 3 9 false (.int) := ⟨RX3, TX3, 10, tyX3, cr_3, by decide, rfl, rfl, lg_mem 143 (by decide +kernel) rfl, fun h => by cases h⟩
theorem fr_X4_148 : FR RX4 148 3 4 false (.int) := ⟨RX3, TX3, 10, tyX3, cr_3, by decide, rfl, rfl, lg_mem 124 (by decide +kernel) rfl, fun h => by cases h⟩
theorem fr_X4_151 : FR RX4 151 3 1 true (.array .int) := ⟨RX3, TX3, 10, tyX3, cr_3, by decide, rfl, rfl, lg_mem 115 (by decide +kernel) rfl, fun _ h => by first | exact h.symm | rfl⟩
theorem wn_X0_print : Cond.instanceMethod yX0_print ∈ LG := lg_mem 492 (by decide +kernel) rfl
theorem wl_X0_print : Cond.selects yX0_print.cls yX0_print yX0_print ∈ LG := lg_mem 493 (by decide +kernel) rfl
theorem wc_X0_print : Cond.code yX0_print cX0_print 6 none ∈ LG := lg_mem 494 (by decide +kernel) rfl
theorem mv_X4_154 : MV RX4 154 0 yX0_print cX0_print 6 none 4 := ⟨⟨TX0, 11, rfl⟩, by decide, lg_mem 491 (by decide +kernel) rfl, wn_X0_print, wl_X0_print, wi_X0, wc_X0_print, by decide, by decide, by decide +kernel⟩
theorem fr_X4_157 : FR RX4 157 3 7 false (.int) := ⟨RX3, TX3, 10, tyX3, cr_3, by decide, rfl, rfl, lg_mem 135 (by decide +kernel) rfl, fun h => by cases h⟩
theorem wn_X0_come : Cond.instanceMethod yX0_come ∈ LG := lg_mem 505 (by decide +kernel) rfl
theorem wl_X0_come : Cond.selects yX0_come.cls yX0_come yX0_come ∈ LG := lg_mem 506 (by decide +kernel) rfl
theorem wc_X0_come : Cond.code yX0_come cX0_come 3 none ∈ LG := lg_mem 507 (by decide +kernel) rfl
theorem mv_X4_160 : MV RX4 160 0 yX0_come cX0_come 3 none 1 := ⟨⟨TX0, 11, rfl⟩, by decide, lg_mem 504 (by decide +kernel) rfl, wn_X0_come, wl_X0_come, wi_X0, wc_X0_come, by decide, by decide, by decide +kernel⟩
theorem fr_X4_164 : FR RX4 164 0 9 false (.boolean) := ⟨RX0, TX0, 11, tyX0, cr_0, by decide, rfl, rfl, lg_mem 196 (by decide +kernel) rfl, fun h => by cases h⟩
theorem fr_X4_167 : FR RX4 167 0 10 true (.array .int) := ⟨RX0, TX0, 11, tyX0, cr_0, by decide, rfl, rfl, lg_mem 199 (by decide +kernel) rfl, fun _ h => by first | exact h.symm | rfl⟩
theorem ms_X4_170 : MS RX4 170 yJ9_abs_0f7a4 cJ9_abs_0f7a4 1 (some .int) 1 := ⟨lg_mem 519 (by decide +kernel) rfl, wt_J9_abs_0f7a4, wi_J9, wc_J9_abs_0f7a4, by decide, by decide, by decide +kernel⟩
theorem fr_X4_175 : FR RX4 175 3 8 false (.int) := ⟨RX3, TX3, 10, tyX3, cr_3, by decide, rfl, rfl, lg_mem 140 (by decide +kernel) rfl, fun h => by cases h⟩
theorem fr_X4_178 : FR RX4 178 0 8 false (.boolean) := ⟨RX0, TX0, 11, tyX0, cr_0, by decide, rfl, rfl, lg_mem 193 (by decide +kernel) rfl, fun h => by cases h⟩
theorem mv_X4_181 : MV RX4 181 4 yX4_correct cX4_correct 5 none 3 := ⟨⟨TX4, 14, rfl⟩, by decide, lg_mem 520 (by decide +kernel) rfl, wn_X4_correct, wl_X4_correct, wi_X4, wc_X4_correct, by decide, by decide, by decide +kernel⟩
theorem fr_X5_9 : FR RX5 9 5 0 true (.array .int) := ⟨RX5, TX5, 7, tyX5, cr_5, by decide, rfl, rfl, lg_mem 76 (by decide +kernel) rfl, fun _ h => by first | exact h.symm | rfl⟩
theorem fr_X5_15 : FR RX5 15 5 1 false (.int) := ⟨RX5, TX5, 7, tyX5, cr_5, by decide, rfl, rfl, lg_mem 77 (by decide +kernel) rfl, fun h => by cases h⟩
theorem mv_X5_19 : MV RX5 19 3 yX3_setAsAtFirst cX3_setAsAtFirst 1 none 0 := ⟨⟨TX3, 10, rfl⟩, by decide, lg_mem 380 (by decide +kernel) rfl, wn_X3_setAsAtFirst, wl_X3_setAsAtFirst, wi_X3, wc_X3_setAsAtFirst, by decide, by decide, by decide +kernel⟩
theorem fr_X5_24 : FR RX5 24 5 2 false (.int) := ⟨RX5, TX5, 7, tyX5, cr_5, by decide, rfl, rfl, lg_mem 79 (by decide +kernel) rfl, fun h => by cases h⟩
theorem fr_X5_27 : FR RX5 27 5 6 false (.int) := ⟨RX5, TX5, 7, tyX5, cr_5, by decide, rfl, rfl, lg_mem 83 (by decide +kernel) rfl, fun h => by cases h⟩
theorem wn_X5_stepOn : Cond.instanceMethod yX5_stepOn ∈ LG := lg_mem 383 (by decide +kernel) rfl
theorem wl_X5_stepOn : Cond.selects yX5_stepOn.cls yX5_stepOn yX5_stepOn ∈ LG := lg_mem 0 (by decide +kernel) rfl
theorem wc_X5_stepOn : Cond.code yX5_stepOn cX5_stepOn 1 none ∈ LG := lg_mem 384 (by decide +kernel) rfl
theorem mv_X5_30 : MV RX5 30 5 yX5_stepOn cX5_stepOn 1 none 0 := ⟨⟨TX5, 7, rfl⟩, by decide, lg_mem 381 (by decide +kernel) rfl, wn_X5_stepOn, wl_X5_stepOn, wi_X5, wc_X5_stepOn, by decide, by decide, by decide +kernel⟩
theorem fr_X5_33 : FR RX5 33 5 4 false (.int) := ⟨RX5, TX5, 7, tyX5, cr_5, by decide, rfl, rfl, lg_mem 81 (by decide +kernel) rfl, fun h => by cases h⟩
theorem wn_X5_readItem : Cond.instanceMethod yX5_readItem ∈ LG := lg_mem 397 (by decide +kernel) rfl
theorem wl_X5_readItem : Cond.selects yX5_readItem.cls yX5_readItem yX5_readItem ∈ LG := lg_mem 2 (by decide +kernel) rfl
theorem wc_X5_readItem : Cond.code yX5_readItem cX5_readItem 4 (some .boolean) ∈ LG := lg_mem 398 (by decide +kernel) rfl
theorem mv_X5_36 : MV RX5 36 5 yX5_readItem cX5_readItem 4 (some .boolean) 1 := ⟨⟨TX5, 7, rfl⟩, by decide, lg_mem 395 (by decide +kernel) rfl, wn_X5_readItem, wl_X5_readItem, wi_X5, wc_X5_readItem, by decide, by decide, by decide +kernel⟩
theorem fr_X5_40 : FR RX5 40 5 3 false (.int) := ⟨RX5, TX5, 7, tyX5, cr_5, by decide, rfl, rfl, lg_mem 80 (by decide +kernel) rfl, fun h => by cases h⟩
theorem wn_X5_mayBegin : Cond.instanceMethod yX5_mayBegin ∈ LG := lg_mem 401 (by decide +kernel) rfl
theorem wl_X5_mayBegin : Cond.selects yX5_mayBegin.cls yX5_mayBegin yX5_mayBegin ∈ LG := lg_mem 3 (by decide +kernel) rfl
theorem wc_X5_mayBegin : Cond.code yX5_mayBegin cX5_mayBegin 4 (some .boolean) ∈ LG := lg_mem 402 (by decide +kernel) rfl
theorem mv_X5_43 : MV RX5 43 5 yX5_mayBegin cX5_mayBegin 4 (some .boolean) 2 := ⟨⟨TX5, 7, rfl⟩, by decide, lg_mem 399 (by decide +kernel) rfl, wn_X5_mayBegin, wl_X5_mayBegin, wi_X5, wc_X5_mayBegin, by decide, by decide, by decide +kernel⟩
theorem wn_X5_readReel : Cond.instanceMethod yX5_readReel ∈ LG := lg_mem 408 (by decide +kernel) rfl
theorem wl_X5_readReel : Cond.selects yX5_readReel.cls yX5_readReel yX5_readReel ∈ LG := lg_mem 4 (by decide +kernel) rfl
theorem wc_X5_readReel : Cond.code yX5_readReel cX5_readReel 5 (some .boolean) ∈ LG := lg_mem 409 (by decide +kernel) rfl
theorem mv_X5_47 : MV RX5 47 5 yX5_readReel cX5_readReel 5 (some .boolean) 1 := ⟨⟨TX5, 7, rfl⟩, by decide, lg_mem 406 (by decide +kernel) rfl, wn_X5_readReel, wl_X5_readReel, wi_X5, wc_X5_readReel, by decide, by decide, by decide +kernel⟩
theorem wn_X5_readSetting : Cond.instanceMethod yX5_readSetting ∈ LG := lg_mem 422 (by decide +kernel) rfl
theorem wl_X5_readSetting : Cond.selects yX5_readSetting.cls yX5_readSetting yX5_readSetting ∈ LG := lg_mem 6 (by decide +kernel) rfl
theorem wc_X5_readSetting : Cond.code yX5_readSetting cX5_readSetting 5 (some .boolean) ∈ LG := lg_mem 423 (by decide +kernel) rfl
theorem mv_X5_50 : MV RX5 50 5 yX5_readSetting cX5_readSetting 5 (some .boolean) 2 := ⟨⟨TX5, 7, rfl⟩, by decide, lg_mem 420 (by decide +kernel) rfl, wn_X5_readSetting, wl_X5_readSetting, wi_X5, wc_X5_readSetting, by decide, by decide, by decide +kernel⟩
theorem fr_X5_53 : FR RX5 53 3 4 false (.int) := ⟨RX3, TX3, 10, tyX3, cr_3, by decide, rfl, rfl, lg_mem 123 (by decide +kernel) rfl, fun h => by cases h⟩
theorem fr_X5_56 : FR RX5 56 3 5 false (.int) := ⟨RX3, TX3, 10, tyX3, cr_3, by decide, rfl, rfl, lg_mem 128 (by decide +kernel) rfl, fun h => by cases h⟩
theorem wt_X5_onceBit : Cond.static yX5_onceBit ∈ LG := lg_mem 404 (by decide +kernel) rfl
theorem wc_X5_onceBit : Cond.code yX5_onceBit cX5_onceBit 1 (some .int) ∈ LG := lg_mem 405 (by decide +kernel) rfl
theorem ms_X5_59 : MS RX5 59 yX5_onceBit cX5_onceBit 1 (some .int) 1 := ⟨lg_mem 403 (by decide +kernel) rfl, wt_X5_onceBit, wi_X5, wc_X5_onceBit, by decide, by decide, by decide +kernel⟩
theorem wn_X5_takeNumber : Cond.instanceMethod yX5_takeNumber ∈ LG := lg_mem 412 (by decide +kernel) rfl
theorem wl_X5_takeNumber : Cond.selects yX5_takeNumber.cls yX5_takeNumber yX5_takeNumber ∈ LG := lg_mem 5 (by decide +kernel) rfl
theorem wc_X5_takeNumber : Cond.code yX5_takeNumber cX5_takeNumber 4 (some .int) ∈ LG := lg_mem 413 (by decide +kernel) rfl
theorem mv_X5_63 : MV RX5 63 5 yX5_takeNumber cX5_takeNumber 4 (some .int) 2 := ⟨⟨TX5, 7, rfl⟩, by decide, lg_mem 410 (by decide +kernel) rfl, wn_X5_takeNumber, wl_X5_takeNumber, wi_X5, wc_X5_takeNumber, by decide, by decide, by decide +kernel⟩
theorem wn_X3_addReel : Cond.instanceMethod yX3_addReel ∈ LG := lg_mem 416 (by decide +kernel) rfl
theorem wl_X3_addReel : Cond.selects yX3_addReel.cls yX3_addReel yX3_addReel ∈ LG := lg_mem 417 (by decide +kernel) rfl
theorem wc_X3_addReel : Cond.code yX3_addReel cX3_addReel 3 none ∈ LG := lg_mem 418 (by decide +kernel) rfl
theorem mv_X5_67 : MV RX5 67 3 yX3_addReel cX3_addReel 3 none 2 := ⟨⟨TX3, 10, rfl⟩, by decide, lg_mem 415 (by decide +kernel) rfl, wn_X3_addReel, wl_X3_addReel, wi_X3, wc_X3_addReel, by decide, by decide, by decide +kernel⟩
theorem wt_X5_highest : Cond.static yX5_highest ∈ LG := lg_mem 425 (by decide +kernel) rfl
theorem wc_X5_highest : Cond.code yX5_highest cX5_highest 1 (some .int) ∈ LG := lg_mem 426 (by decide +kernel) rfl
theorem ms_X5_71 : MS RX5 71 yX5_highest cX5_highest 1 (some .int) 1 := ⟨lg_mem 424 (by decide +kernel) rfl, wt_X5_highest, wi_X5, wc_X5_highest, by decide, by decide, by decide +kernel⟩
theorem wn_X3_addUnit : Cond.instanceMethod yX3_addUnit ∈ LG := lg_mem 428 (by decide +kernel) rfl
theorem wl_X3_addUnit : Cond.selects yX3_addUnit.cls yX3_addUnit yX3_addUnit ∈ LG := lg_mem 429 (by decide +kernel) rfl
theorem wc_X3_addUnit : Cond.code yX3_addUnit cX3_addUnit 2 none ∈ LG := lg_mem 430 (by decide +kernel) rfl
theorem mv_X5_74 : MV RX5 74 3 yX3_addUnit cX3_addUnit 2 none 1 := ⟨⟨TX3, 10, rfl⟩, by decide, lg_mem 427 (by decide +kernel) rfl, wn_X3_addUnit, wl_X3_addUnit, wi_X3, wc_X3_addUnit, by decide, by decide, by decide +kernel⟩
theorem fr_X5_78 : FR RX5 78 3 6 false (.int) := ⟨RX3, TX3, 10, tyX3, cr_3, by decide, rfl, rfl, lg_mem 131 (by decide +kernel) rfl, fun h => by cases h⟩
theorem fr_X5_81 : FR RX5 81 3 7 false (.int) := ⟨RX3, TX3, 10, tyX3, cr_3, by decide, rfl, rfl, lg_mem 134 (by decide +kernel) rfl, fun h => by cases h⟩
theorem fr_X5_84 : FR RX5 84 3 8 false (.int) := ⟨RX3, TX3, 10, tyX3, cr_3, by decide, rfl, rfl, lg_mem 138 (by decide +kernel) rfl, fun h => by cases h⟩
theorem fr_X5_87 : FR RX5 87 3 9 false (.int) := ⟨RX3, TX3, 10, tyX3, cr_3, by decide, rfl, rfl, lg_mem 142 (by decide +kernel) rfl, fun h => by cases h⟩
theorem fr_X5_90 : FR RX5 90 5 5 false (.int) := ⟨RX5, TX5, 7, tyX5, cr_5, by decide, rfl, rfl, lg_mem 82 (by decide +kernel) rfl, fun h => by cases h⟩
theorem wt_X5_isFigure : Cond.static yX5_isFigure ∈ LG := lg_mem 386 (by decide +kernel) rfl
theorem wc_X5_isFigure : Cond.code yX5_isFigure cX5_isFigure 1 (some .boolean) ∈ LG := lg_mem 387 (by decide +kernel) rfl
theorem ms_X5_97 : MS RX5 97 yX5_isFigure cX5_isFigure 1 (some .boolean) 1 := ⟨lg_mem 385 (by decide +kernel) rfl, wt_X5_isFigure, wi_X5, wc_X5_isFigure, by decide, by decide, by decide +kernel⟩
theorem wn_X5_stepOverNumber : Cond.instanceMethod yX5_stepOverNumber ∈ LG := lg_mem 390 (by decide +kernel) rfl
theorem wl_X5_stepOverNumber : Cond.selects yX5_stepOverNumber.cls yX5_stepOverNumber yX5_stepOverNumber ∈ LG := lg_mem 1 (by decide +kernel) rfl
theorem wc_X5_stepOverNumber : Cond.code yX5_stepOverNumber cX5_stepOverNumber 3 none ∈ LG := lg_mem 391 (by decide +kernel) rfl
theorem mv_X5_101 : MV RX5 101 5 yX5_stepOverNumber cX5_stepOverNumber 3 none 0 := ⟨⟨TX5, 7, rfl⟩, by decide, lg_mem 388 (by decide +kernel) rfl, wn_X5_stepOverNumber, wl_X5_stepOverNumber, wi_X5, wc_X5_stepOverNumber, by decide, by decide, by decide +kernel⟩
theorem ms_X5_104 : MS RX5 104 yJ9_min_7cf53 cJ9_min_7cf53 2 (some .int) 2 := ⟨lg_mem 392 (by decide +kernel) rfl, wt_J9_min_7cf53, wi_J9, wc_J9_min_7cf53, by decide, by decide, by decide +kernel⟩
theorem wn_X6_init : Cond.instanceMethod yX6_init ∈ LG := lg_mem 65 (by decide +kernel) rfl
theorem wc_X6_init : Cond.code yX6_init cX6_init 2 none ∈ LG := lg_mem 66 (by decide +kernel) rfl
theorem mi_X6_init : MI yX6_init cX6_init 2 0 := ⟨wn_X6_init, wi_X6, wc_X6_init, by decide, by decide, by decide +kernel, rfl⟩
theorem wn_X7_init : Cond.instanceMethod yX7_init ∈ LG := lg_mem 688 (by decide +kernel) rfl
theorem wc_X7_init : Cond.code yX7_init cX7_init 1 none ∈ LG := lg_mem 689 (by decide +kernel) rfl
theorem mi_X7_init : MI yX7_init cX7_init 1 0 := ⟨wn_X7_init, wi_X7, wc_X7_init, by decide, by decide, by decide +kernel, rfl⟩
theorem wn_X6_type : Cond.instanceMethod yX6_type ∈ LG := lg_mem 358 (by decide +kernel) rfl
theorem wl_X6_type : Cond.selects yX6_type.cls yX6_type yX6_type ∈ LG := lg_mem 359 (by decide +kernel) rfl
theorem wc_X6_type : Cond.code yX6_type cX6_type 2 (some .int) ∈ LG := lg_mem 360 (by decide +kernel) rfl
theorem mv_L_13 : MV RL 13 6 yX6_type cX6_type 2 (some .int) 1 := ⟨⟨TX6, 9, rfl⟩, by decide, lg_mem 357 (by decide +kernel) rfl, wn_X6_type, wl_X6_type, wi_X6, wc_X6_type, by decide, by decide, by decide +kernel⟩
theorem wn_X7_type : Cond.instanceMethod yX7_type ∈ LG := lg_mem 782 (by decide +kernel) rfl
theorem wl_X7_type : Cond.selects yX7_type.cls yX7_type yX7_type ∈ LG := lg_mem 783 (by decide +kernel) rfl
theorem wc_X7_type : Cond.code yX7_type cX7_type 2 (some .int) ∈ LG := lg_mem 784 (by decide +kernel) rfl
theorem mv_L_17 : MV RL 17 7 yX7_type cX7_type 2 (some .int) 1 := ⟨⟨TX7, 27, rfl⟩, by decide, lg_mem 781 (by decide +kernel) rfl, wn_X7_type, wl_X7_type, wi_X7, wc_X7_type, by decide, by decide, by decide +kernel⟩
theorem wn_X6_clear : Cond.instanceMethod yX6_clear ∈ LG := lg_mem 369 (by decide +kernel) rfl
theorem wl_X6_clear : Cond.selects yX6_clear.cls yX6_clear yX6_clear ∈ LG := lg_mem 370 (by decide +kernel) rfl
theorem wc_X6_clear : Cond.code yX6_clear cX6_clear 2 (some .int) ∈ LG := lg_mem 371 (by decide +kernel) rfl
theorem mv_L_18 : MV RL 18 6 yX6_clear cX6_clear 2 (some .int) 0 := ⟨⟨TX6, 9, rfl⟩, by decide, lg_mem 368 (by decide +kernel) rfl, wn_X6_clear, wl_X6_clear, wi_X6, wc_X6_clear, by decide, by decide, by decide +kernel⟩
theorem wn_X7_clear : Cond.instanceMethod yX7_clear ∈ LG := lg_mem 789 (by decide +kernel) rfl
theorem wl_X7_clear : Cond.selects yX7_clear.cls yX7_clear yX7_clear ∈ LG := lg_mem 790 (by decide +kernel) rfl
theorem wc_X7_clear : Cond.code yX7_clear cX7_clear 2 (some .int) ∈ LG := lg_mem 791 (by decide +kernel) rfl
theorem mv_L_22 : MV RL 22 7 yX7_clear cX7_clear 2 (some .int) 0 := ⟨⟨TX7, 27, rfl⟩, by decide, lg_mem 788 (by decide +kernel) rfl, wn_X7_clear, wl_X7_clear, wi_X7, wc_X7_clear, by decide, by decide, by decide +kernel⟩
theorem wn_X6_tells : Cond.instanceMethod yX6_tells ∈ LG := lg_mem 373 (by decide +kernel) rfl
theorem wl_X6_tells : Cond.selects yX6_tells.cls yX6_tells yX6_tells ∈ LG := lg_mem 374 (by decide +kernel) rfl
theorem wc_X6_tells : Cond.code yX6_tells cX6_tells 4 (some .int) ∈ LG := lg_mem 375 (by decide +kernel) rfl
theorem mv_L_23 : MV RL 23 6 yX6_tells cX6_tells 4 (some .int) 0 := ⟨⟨TX6, 9, rfl⟩, by decide, lg_mem 372 (by decide +kernel) rfl, wn_X6_tells, wl_X6_tells, wi_X6, wc_X6_tells, by decide, by decide, by decide +kernel⟩
theorem wn_X7_tells : Cond.instanceMethod yX7_tells ∈ LG := lg_mem 793 (by decide +kernel) rfl
theorem wl_X7_tells : Cond.selects yX7_tells.cls yX7_tells yX7_tells ∈ LG := lg_mem 794 (by decide +kernel) rfl
theorem wc_X7_tells : Cond.code yX7_tells cX7_tells 2 (some .int) ∈ LG := lg_mem 795 (by decide +kernel) rfl
theorem mv_L_26 : MV RL 26 7 yX7_tells cX7_tells 2 (some .int) 0 := ⟨⟨TX7, 27, rfl⟩, by decide, lg_mem 792 (by decide +kernel) rfl, wn_X7_tells, wl_X7_tells, wi_X7, wc_X7_tells, by decide, by decide, by decide +kernel⟩
theorem wn_X6_ticks : Cond.instanceMethod yX6_ticks ∈ LG := lg_mem 432 (by decide +kernel) rfl
theorem wl_X6_ticks : Cond.selects yX6_ticks.cls yX6_ticks yX6_ticks ∈ LG := lg_mem 433 (by decide +kernel) rfl
theorem wc_X6_ticks : Cond.code yX6_ticks cX6_ticks 4 (some .int) ∈ LG := lg_mem 434 (by decide +kernel) rfl
theorem mv_L_27 : MV RL 27 6 yX6_ticks cX6_ticks 4 (some .int) 1 := ⟨⟨TX6, 9, rfl⟩, by decide, lg_mem 431 (by decide +kernel) rfl, wn_X6_ticks, wl_X6_ticks, wi_X6, wc_X6_ticks, by decide, by decide, by decide +kernel⟩
theorem wn_X7_ticks : Cond.instanceMethod yX7_ticks ∈ LG := lg_mem 837 (by decide +kernel) rfl
theorem wl_X7_ticks : Cond.selects yX7_ticks.cls yX7_ticks yX7_ticks ∈ LG := lg_mem 838 (by decide +kernel) rfl
theorem wc_X7_ticks : Cond.code yX7_ticks cX7_ticks 4 (some .int) ∈ LG := lg_mem 839 (by decide +kernel) rfl
theorem mv_L_30 : MV RL 30 7 yX7_ticks cX7_ticks 4 (some .int) 1 := ⟨⟨TX7, 27, rfl⟩, by decide, lg_mem 836 (by decide +kernel) rfl, wn_X7_ticks, wl_X7_ticks, wi_X7, wc_X7_ticks, by decide, by decide, by decide +kernel⟩
theorem wn_X6_drifts : Cond.instanceMethod yX6_drifts ∈ LG := lg_mem 533 (by decide +kernel) rfl
theorem wl_X6_drifts : Cond.selects yX6_drifts.cls yX6_drifts yX6_drifts ∈ LG := lg_mem 534 (by decide +kernel) rfl
theorem wc_X6_drifts : Cond.code yX6_drifts cX6_drifts 3 (some .int) ∈ LG := lg_mem 535 (by decide +kernel) rfl
theorem mv_L_31 : MV RL 31 6 yX6_drifts cX6_drifts 3 (some .int) 2 := ⟨⟨TX6, 9, rfl⟩, by decide, lg_mem 532 (by decide +kernel) rfl, wn_X6_drifts, wl_X6_drifts, wi_X6, wc_X6_drifts, by decide, by decide, by decide +kernel⟩
theorem wn_X7_drifts : Cond.instanceMethod yX7_drifts ∈ LG := lg_mem 902 (by decide +kernel) rfl
theorem wl_X7_drifts : Cond.selects yX7_drifts.cls yX7_drifts yX7_drifts ∈ LG := lg_mem 903 (by decide +kernel) rfl
theorem wc_X7_drifts : Cond.code yX7_drifts cX7_drifts 3 (some .int) ∈ LG := lg_mem 904 (by decide +kernel) rfl
theorem mv_L_35 : MV RL 35 7 yX7_drifts cX7_drifts 3 (some .int) 2 := ⟨⟨TX7, 27, rfl⟩, by decide, lg_mem 901 (by decide +kernel) rfl, wn_X7_drifts, wl_X7_drifts, wi_X7, wc_X7_drifts, by decide, by decide, by decide +kernel⟩
theorem wn_X6_corrects : Cond.instanceMethod yX6_corrects ∈ LG := lg_mem 538 (by decide +kernel) rfl
theorem wl_X6_corrects : Cond.selects yX6_corrects.cls yX6_corrects yX6_corrects ∈ LG := lg_mem 539 (by decide +kernel) rfl
theorem wc_X6_corrects : Cond.code yX6_corrects cX6_corrects 3 (some .int) ∈ LG := lg_mem 540 (by decide +kernel) rfl
theorem mv_L_36 : MV RL 36 6 yX6_corrects cX6_corrects 3 (some .int) 2 := ⟨⟨TX6, 9, rfl⟩, by decide, lg_mem 537 (by decide +kernel) rfl, wn_X6_corrects, wl_X6_corrects, wi_X6, wc_X6_corrects, by decide, by decide, by decide +kernel⟩
theorem wn_X7_corrects : Cond.instanceMethod yX7_corrects ∈ LG := lg_mem 910 (by decide +kernel) rfl
theorem wl_X7_corrects : Cond.selects yX7_corrects.cls yX7_corrects yX7_corrects ∈ LG := lg_mem 911 (by decide +kernel) rfl
theorem wc_X7_corrects : Cond.code yX7_corrects cX7_corrects 3 (some .int) ∈ LG := lg_mem 912 (by decide +kernel) rfl
theorem mv_L_39 : MV RL 39 7 yX7_corrects cX7_corrects 3 (some .int) 2 := ⟨⟨TX7, 27, rfl⟩, by decide, lg_mem 909 (by decide +kernel) rfl, wn_X7_corrects, wl_X7_corrects, wi_X7, wc_X7_corrects, by decide, by decide, by decide +kernel⟩
theorem wn_X6_spins : Cond.instanceMethod yX6_spins ∈ LG := lg_mem 543 (by decide +kernel) rfl
theorem wl_X6_spins : Cond.selects yX6_spins.cls yX6_spins yX6_spins ∈ LG := lg_mem 544 (by decide +kernel) rfl
theorem wc_X6_spins : Cond.code yX6_spins cX6_spins 2 (some .int) ∈ LG := lg_mem 545 (by decide +kernel) rfl
theorem mv_L_40 : MV RL 40 6 yX6_spins cX6_spins 2 (some .int) 0 := ⟨⟨TX6, 9, rfl⟩, by decide, lg_mem 542 (by decide +kernel) rfl, wn_X6_spins, wl_X6_spins, wi_X6, wc_X6_spins, by decide, by decide, by decide +kernel⟩
theorem wn_X7_spins : Cond.instanceMethod yX7_spins ∈ LG := lg_mem 914 (by decide +kernel) rfl
theorem wl_X7_spins : Cond.selects yX7_spins.cls yX7_spins yX7_spins ∈ LG := lg_mem 915 (by decide +kernel) rfl
theorem wc_X7_spins : Cond.code yX7_spins cX7_spins 1 (some .int) ∈ LG := lg_mem 916 (by decide +kernel) rfl
theorem mv_L_43 : MV RL 43 7 yX7_spins cX7_spins 1 (some .int) 0 := ⟨⟨TX7, 27, rfl⟩, by decide, lg_mem 913 (by decide +kernel) rfl, wn_X7_spins, wl_X7_spins, wi_X7, wc_X7_spins, by decide, by decide, by decide +kernel⟩
theorem wn_X6_starts : Cond.instanceMethod yX6_starts ∈ LG := lg_mem 548 (by decide +kernel) rfl
theorem wl_X6_starts : Cond.selects yX6_starts.cls yX6_starts yX6_starts ∈ LG := lg_mem 549 (by decide +kernel) rfl
theorem wc_X6_starts : Cond.code yX6_starts cX6_starts 1 (some .int) ∈ LG := lg_mem 550 (by decide +kernel) rfl
theorem mv_L_44 : MV RL 44 6 yX6_starts cX6_starts 1 (some .int) 0 := ⟨⟨TX6, 9, rfl⟩, by decide, lg_mem 547 (by decide +kernel) rfl, wn_X6_starts, wl_X6_starts, wi_X6, wc_X6_starts, by decide, by decide, by decide +kernel⟩
theorem wn_X7_starts : Cond.instanceMethod yX7_starts ∈ LG := lg_mem 918 (by decide +kernel) rfl
theorem wl_X7_starts : Cond.selects yX7_starts.cls yX7_starts yX7_starts ∈ LG := lg_mem 919 (by decide +kernel) rfl
theorem wc_X7_starts : Cond.code yX7_starts cX7_starts 2 (some .int) ∈ LG := lg_mem 920 (by decide +kernel) rfl
theorem mv_L_47 : MV RL 47 7 yX7_starts cX7_starts 2 (some .int) 0 := ⟨⟨TX7, 27, rfl⟩, by decide, lg_mem 917 (by decide +kernel) rfl, wn_X7_starts, wl_X7_starts, wi_X7, wc_X7_starts, by decide, by decide, by decide +kernel⟩
theorem wn_X6_aheads : Cond.instanceMethod yX6_aheads ∈ LG := lg_mem 556 (by decide +kernel) rfl
theorem wl_X6_aheads : Cond.selects yX6_aheads.cls yX6_aheads yX6_aheads ∈ LG := lg_mem 557 (by decide +kernel) rfl
theorem wc_X6_aheads : Cond.code yX6_aheads cX6_aheads 2 (some .int) ∈ LG := lg_mem 558 (by decide +kernel) rfl
theorem mv_L_48 : MV RL 48 6 yX6_aheads cX6_aheads 2 (some .int) 1 := ⟨⟨TX6, 9, rfl⟩, by decide, lg_mem 555 (by decide +kernel) rfl, wn_X6_aheads, wl_X6_aheads, wi_X6, wc_X6_aheads, by decide, by decide, by decide +kernel⟩
theorem wn_X7_aheads : Cond.instanceMethod yX7_aheads ∈ LG := lg_mem 922 (by decide +kernel) rfl
theorem wl_X7_aheads : Cond.selects yX7_aheads.cls yX7_aheads yX7_aheads ∈ LG := lg_mem 923 (by decide +kernel) rfl
theorem wc_X7_aheads : Cond.code yX7_aheads cX7_aheads 2 (some .int) ∈ LG := lg_mem 924 (by decide +kernel) rfl
theorem mv_L_51 : MV RL 51 7 yX7_aheads cX7_aheads 2 (some .int) 1 := ⟨⟨TX7, 27, rfl⟩, by decide, lg_mem 921 (by decide +kernel) rfl, wn_X7_aheads, wl_X7_aheads, wi_X7, wc_X7_aheads, by decide, by decide, by decide +kernel⟩
theorem wn_X6_undo : Cond.instanceMethod yX6_undo ∈ LG := lg_mem 560 (by decide +kernel) rfl
theorem wl_X6_undo : Cond.selects yX6_undo.cls yX6_undo yX6_undo ∈ LG := lg_mem 561 (by decide +kernel) rfl
theorem wc_X6_undo : Cond.code yX6_undo cX6_undo 1 (some .int) ∈ LG := lg_mem 562 (by decide +kernel) rfl
theorem mv_L_52 : MV RL 52 6 yX6_undo cX6_undo 1 (some .int) 0 := ⟨⟨TX6, 9, rfl⟩, by decide, lg_mem 559 (by decide +kernel) rfl, wn_X6_undo, wl_X6_undo, wi_X6, wc_X6_undo, by decide, by decide, by decide +kernel⟩
theorem wn_X7_undo : Cond.instanceMethod yX7_undo ∈ LG := lg_mem 833 (by decide +kernel) rfl
theorem wl_X7_undo : Cond.selects yX7_undo.cls yX7_undo yX7_undo ∈ LG := lg_mem 834 (by decide +kernel) rfl
theorem wc_X7_undo : Cond.code yX7_undo cX7_undo 2 (some .int) ∈ LG := lg_mem 835 (by decide +kernel) rfl
theorem mv_L_55 : MV RL 55 7 yX7_undo cX7_undo 2 (some .int) 0 := ⟨⟨TX7, 27, rfl⟩, by decide, lg_mem 832 (by decide +kernel) rfl, wn_X7_undo, wl_X7_undo, wi_X7, wc_X7_undo, by decide, by decide, by decide +kernel⟩
theorem wn_X6_unit : Cond.instanceMethod yX6_unit ∈ LG := lg_mem 568 (by decide +kernel) rfl
theorem wl_X6_unit : Cond.selects yX6_unit.cls yX6_unit yX6_unit ∈ LG := lg_mem 569 (by decide +kernel) rfl
theorem wc_X6_unit : Cond.code yX6_unit cX6_unit 3 (some .int) ∈ LG := lg_mem 570 (by decide +kernel) rfl
theorem mv_L_56 : MV RL 56 6 yX6_unit cX6_unit 3 (some .int) 2 := ⟨⟨TX6, 9, rfl⟩, by decide, lg_mem 567 (by decide +kernel) rfl, wn_X6_unit, wl_X6_unit, wi_X6, wc_X6_unit, by decide, by decide, by decide +kernel⟩
theorem wn_X7_unit : Cond.instanceMethod yX7_unit ∈ LG := lg_mem 926 (by decide +kernel) rfl
theorem wl_X7_unit : Cond.selects yX7_unit.cls yX7_unit yX7_unit ∈ LG := lg_mem 927 (by decide +kernel) rfl
theorem wc_X7_unit : Cond.code yX7_unit cX7_unit 3 (some .int) ∈ LG := lg_mem 928 (by decide +kernel) rfl
theorem mv_L_59 : MV RL 59 7 yX7_unit cX7_unit 3 (some .int) 2 := ⟨⟨TX7, 27, rfl⟩, by decide, lg_mem 925 (by decide +kernel) rfl, wn_X7_unit, wl_X7_unit, wi_X7, wc_X7_unit, by decide, by decide, by decide +kernel⟩
theorem wn_X6_reel : Cond.instanceMethod yX6_reel ∈ LG := lg_mem 578 (by decide +kernel) rfl
theorem wl_X6_reel : Cond.selects yX6_reel.cls yX6_reel yX6_reel ∈ LG := lg_mem 579 (by decide +kernel) rfl
theorem wc_X6_reel : Cond.code yX6_reel cX6_reel 3 (some .int) ∈ LG := lg_mem 580 (by decide +kernel) rfl
theorem mv_L_60 : MV RL 60 6 yX6_reel cX6_reel 3 (some .int) 2 := ⟨⟨TX6, 9, rfl⟩, by decide, lg_mem 577 (by decide +kernel) rfl, wn_X6_reel, wl_X6_reel, wi_X6, wc_X6_reel, by decide, by decide, by decide +kernel⟩
theorem wn_X7_reel : Cond.instanceMethod yX7_reel ∈ LG := lg_mem 935 (by decide +kernel) rfl
theorem wl_X7_reel : Cond.selects yX7_reel.cls yX7_reel yX7_reel ∈ LG := lg_mem 936 (by decide +kernel) rfl
theorem wc_X7_reel : Cond.code yX7_reel cX7_reel 3 (some .int) ∈ LG := lg_mem 937 (by decide +kernel) rfl
theorem mv_L_63 : MV RL 63 7 yX7_reel cX7_reel 3 (some .int) 2 := ⟨⟨TX7, 27, rfl⟩, by decide, lg_mem 934 (by decide +kernel) rfl, wn_X7_reel, wl_X7_reel, wi_X7, wc_X7_reel, by decide, by decide, by decide +kernel⟩
theorem wn_X6_last : Cond.instanceMethod yX6_last ∈ LG := lg_mem 587 (by decide +kernel) rfl
theorem wl_X6_last : Cond.selects yX6_last.cls yX6_last yX6_last ∈ LG := lg_mem 588 (by decide +kernel) rfl
theorem wc_X6_last : Cond.code yX6_last cX6_last 3 (some .int) ∈ LG := lg_mem 589 (by decide +kernel) rfl
theorem mv_L_64 : MV RL 64 6 yX6_last cX6_last 3 (some .int) 1 := ⟨⟨TX6, 9, rfl⟩, by decide, lg_mem 586 (by decide +kernel) rfl, wn_X6_last, wl_X6_last, wi_X6, wc_X6_last, by decide, by decide, by decide +kernel⟩
theorem wn_X7_last : Cond.instanceMethod yX7_last ∈ LG := lg_mem 939 (by decide +kernel) rfl
theorem wl_X7_last : Cond.selects yX7_last.cls yX7_last yX7_last ∈ LG := lg_mem 940 (by decide +kernel) rfl
theorem wc_X7_last : Cond.code yX7_last cX7_last 2 (some .int) ∈ LG := lg_mem 941 (by decide +kernel) rfl
theorem mv_L_67 : MV RL 67 7 yX7_last cX7_last 2 (some .int) 1 := ⟨⟨TX7, 27, rfl⟩, by decide, lg_mem 938 (by decide +kernel) rfl, wn_X7_last, wl_X7_last, wi_X7, wc_X7_last, by decide, by decide, by decide +kernel⟩
theorem wn_X6_error : Cond.instanceMethod yX6_error ∈ LG := lg_mem 592 (by decide +kernel) rfl
theorem wl_X6_error : Cond.selects yX6_error.cls yX6_error yX6_error ∈ LG := lg_mem 593 (by decide +kernel) rfl
theorem wc_X6_error : Cond.code yX6_error cX6_error 4 (some .int) ∈ LG := lg_mem 594 (by decide +kernel) rfl
theorem mv_L_68 : MV RL 68 6 yX6_error cX6_error 4 (some .int) 2 := ⟨⟨TX6, 9, rfl⟩, by decide, lg_mem 591 (by decide +kernel) rfl, wn_X6_error, wl_X6_error, wi_X6, wc_X6_error, by decide, by decide, by decide +kernel⟩
theorem wn_X7_error : Cond.instanceMethod yX7_error ∈ LG := lg_mem 944 (by decide +kernel) rfl
theorem wl_X7_error : Cond.selects yX7_error.cls yX7_error yX7_error ∈ LG := lg_mem 945 (by decide +kernel) rfl
theorem wc_X7_error : Cond.code yX7_error cX7_error 5 (some .int) ∈ LG := lg_mem 946 (by decide +kernel) rfl
theorem mv_L_71 : MV RL 71 7 yX7_error cX7_error 5 (some .int) 2 := ⟨⟨TX7, 27, rfl⟩, by decide, lg_mem 943 (by decide +kernel) rfl, wn_X7_error, wl_X7_error, wi_X7, wc_X7_error, by decide, by decide, by decide +kernel⟩
theorem wn_X6_steady : Cond.instanceMethod yX6_steady ∈ LG := lg_mem 600 (by decide +kernel) rfl
theorem wl_X6_steady : Cond.selects yX6_steady.cls yX6_steady yX6_steady ∈ LG := lg_mem 601 (by decide +kernel) rfl
theorem wc_X6_steady : Cond.code yX6_steady cX6_steady 3 (some .int) ∈ LG := lg_mem 602 (by decide +kernel) rfl
theorem mv_L_72 : MV RL 72 6 yX6_steady cX6_steady 3 (some .int) 0 := ⟨⟨TX6, 9, rfl⟩, by decide, lg_mem 599 (by decide +kernel) rfl, wn_X6_steady, wl_X6_steady, wi_X6, wc_X6_steady, by decide, by decide, by decide +kernel⟩
theorem wn_X7_steady : Cond.instanceMethod yX7_steady ∈ LG := lg_mem 948 (by decide +kernel) rfl
theorem wl_X7_steady : Cond.selects yX7_steady.cls yX7_steady yX7_steady ∈ LG := lg_mem 949 (by decide +kernel) rfl
theorem wc_X7_steady : Cond.code yX7_steady cX7_steady 4 (some .int) ∈ LG := lg_mem 950 (by decide +kernel) rfl
theorem mv_L_75 : MV RL 75 7 yX7_steady cX7_steady 4 (some .int) 0 := ⟨⟨TX7, 27, rfl⟩, by decide, lg_mem 947 (by decide +kernel) rfl, wn_X7_steady, wl_X7_steady, wi_X7, wc_X7_steady, by decide, by decide, by decide +kernel⟩
theorem wn_X6_cost : Cond.instanceMethod yX6_cost ∈ LG := lg_mem 606 (by decide +kernel) rfl
theorem wl_X6_cost : Cond.selects yX6_cost.cls yX6_cost yX6_cost ∈ LG := lg_mem 607 (by decide +kernel) rfl
theorem wc_X6_cost : Cond.code yX6_cost cX6_cost 2 (some .int) ∈ LG := lg_mem 608 (by decide +kernel) rfl
theorem mv_L_76 : MV RL 76 6 yX6_cost cX6_cost 2 (some .int) 0 := ⟨⟨TX6, 9, rfl⟩, by decide, lg_mem 605 (by decide +kernel) rfl, wn_X6_cost, wl_X6_cost, wi_X6, wc_X6_cost, by decide, by decide, by decide +kernel⟩
theorem wn_X7_cost : Cond.instanceMethod yX7_cost ∈ LG := lg_mem 960 (by decide +kernel) rfl
theorem wl_X7_cost : Cond.selects yX7_cost.cls yX7_cost yX7_cost ∈ LG := lg_mem 961 (by decide +kernel) rfl
theorem wc_X7_cost : Cond.code yX7_cost cX7_cost 1 (some .int) ∈ LG := lg_mem 962 (by decide +kernel) rfl
theorem mv_L_79 : MV RL 79 7 yX7_cost cX7_cost 1 (some .int) 0 := ⟨⟨TX7, 27, rfl⟩, by decide, lg_mem 959 (by decide +kernel) rfl, wn_X7_cost, wl_X7_cost, wi_X7, wc_X7_cost, by decide, by decide, by decide +kernel⟩
theorem wn_X6_sees : Cond.instanceMethod yX6_sees ∈ LG := lg_mem 619 (by decide +kernel) rfl
theorem wl_X6_sees : Cond.selects yX6_sees.cls yX6_sees yX6_sees ∈ LG := lg_mem 620 (by decide +kernel) rfl
theorem wc_X6_sees : Cond.code yX6_sees cX6_sees 3 (some .int) ∈ LG := lg_mem 621 (by decide +kernel) rfl
theorem mv_L_80 : MV RL 80 6 yX6_sees cX6_sees 3 (some .int) 2 := ⟨⟨TX6, 9, rfl⟩, by decide, lg_mem 618 (by decide +kernel) rfl, wn_X6_sees, wl_X6_sees, wi_X6, wc_X6_sees, by decide, by decide, by decide +kernel⟩
theorem wn_X7_sees : Cond.instanceMethod yX7_sees ∈ LG := lg_mem 968 (by decide +kernel) rfl
theorem wl_X7_sees : Cond.selects yX7_sees.cls yX7_sees yX7_sees ∈ LG := lg_mem 969 (by decide +kernel) rfl
theorem wc_X7_sees : Cond.code yX7_sees cX7_sees 3 (some .int) ∈ LG := lg_mem 970 (by decide +kernel) rfl
theorem mv_L_83 : MV RL 83 7 yX7_sees cX7_sees 3 (some .int) 2 := ⟨⟨TX7, 27, rfl⟩, by decide, lg_mem 967 (by decide +kernel) rfl, wn_X7_sees, wl_X7_sees, wi_X7, wc_X7_sees, by decide, by decide, by decide +kernel⟩
theorem wn_X6_forget : Cond.instanceMethod yX6_forget ∈ LG := lg_mem 627 (by decide +kernel) rfl
theorem wl_X6_forget : Cond.selects yX6_forget.cls yX6_forget yX6_forget ∈ LG := lg_mem 628 (by decide +kernel) rfl
theorem wc_X6_forget : Cond.code yX6_forget cX6_forget 2 (some .int) ∈ LG := lg_mem 629 (by decide +kernel) rfl
theorem mv_L_84 : MV RL 84 6 yX6_forget cX6_forget 2 (some .int) 0 := ⟨⟨TX6, 9, rfl⟩, by decide, lg_mem 626 (by decide +kernel) rfl, wn_X6_forget, wl_X6_forget, wi_X6, wc_X6_forget, by decide, by decide, by decide +kernel⟩
theorem wn_X7_forget : Cond.instanceMethod yX7_forget ∈ LG := lg_mem 972 (by decide +kernel) rfl
theorem wl_X7_forget : Cond.selects yX7_forget.cls yX7_forget yX7_forget ∈ LG := lg_mem 973 (by decide +kernel) rfl
theorem wc_X7_forget : Cond.code yX7_forget cX7_forget 2 (some .int) ∈ LG := lg_mem 974 (by decide +kernel) rfl
theorem mv_L_87 : MV RL 87 7 yX7_forget cX7_forget 2 (some .int) 0 := ⟨⟨TX7, 27, rfl⟩, by decide, lg_mem 971 (by decide +kernel) rfl, wn_X7_forget, wl_X7_forget, wi_X7, wc_X7_forget, by decide, by decide, by decide +kernel⟩
theorem wn_X6_which : Cond.instanceMethod yX6_which ∈ LG := lg_mem 631 (by decide +kernel) rfl
theorem wl_X6_which : Cond.selects yX6_which.cls yX6_which yX6_which ∈ LG := lg_mem 632 (by decide +kernel) rfl
theorem wc_X6_which : Cond.code yX6_which cX6_which 1 (some .int) ∈ LG := lg_mem 633 (by decide +kernel) rfl
theorem mv_L_88 : MV RL 88 6 yX6_which cX6_which 1 (some .int) 0 := ⟨⟨TX6, 9, rfl⟩, by decide, lg_mem 630 (by decide +kernel) rfl, wn_X6_which, wl_X6_which, wi_X6, wc_X6_which, by decide, by decide, by decide +kernel⟩
theorem wn_X7_which : Cond.instanceMethod yX7_which ∈ LG := lg_mem 976 (by decide +kernel) rfl
theorem wl_X7_which : Cond.selects yX7_which.cls yX7_which yX7_which ∈ LG := lg_mem 977 (by decide +kernel) rfl
theorem wc_X7_which : Cond.code yX7_which cX7_which 1 (some .int) ∈ LG := lg_mem 978 (by decide +kernel) rfl
theorem mv_L_91 : MV RL 91 7 yX7_which cX7_which 1 (some .int) 0 := ⟨⟨TX7, 27, rfl⟩, by decide, lg_mem 975 (by decide +kernel) rfl, wn_X7_which, wl_X7_which, wi_X7, wc_X7_which, by decide, by decide, by decide +kernel⟩
theorem wn_X6_look : Cond.instanceMethod yX6_look ∈ LG := lg_mem 653 (by decide +kernel) rfl
theorem wl_X6_look : Cond.selects yX6_look.cls yX6_look yX6_look ∈ LG := lg_mem 654 (by decide +kernel) rfl
theorem wc_X6_look : Cond.code yX6_look cX6_look 1 (some .int) ∈ LG := lg_mem 655 (by decide +kernel) rfl
theorem mv_L_92 : MV RL 92 6 yX6_look cX6_look 1 (some .int) 0 := ⟨⟨TX6, 9, rfl⟩, by decide, lg_mem 652 (by decide +kernel) rfl, wn_X6_look, wl_X6_look, wi_X6, wc_X6_look, by decide, by decide, by decide +kernel⟩
theorem wn_X7_look : Cond.instanceMethod yX7_look ∈ LG := lg_mem 995 (by decide +kernel) rfl
theorem wl_X7_look : Cond.selects yX7_look.cls yX7_look yX7_look ∈ LG := lg_mem 996 (by decide +kernel) rfl
theorem wc_X7_look : Cond.code yX7_look cX7_look 8 (some .int) ∈ LG := lg_mem 997 (by decide +kernel) rfl
theorem mv_L_95 : MV RL 95 7 yX7_look cX7_look 8 (some .int) 0 := ⟨⟨TX7, 27, rfl⟩, by decide, lg_mem 994 (by decide +kernel) rfl, wn_X7_look, wl_X7_look, wi_X7, wc_X7_look, by decide, by decide, by decide +kernel⟩
theorem wn_X6_keep : Cond.instanceMethod yX6_keep ∈ LG := lg_mem 674 (by decide +kernel) rfl
theorem wl_X6_keep : Cond.selects yX6_keep.cls yX6_keep yX6_keep ∈ LG := lg_mem 675 (by decide +kernel) rfl
theorem wc_X6_keep : Cond.code yX6_keep cX6_keep 2 (some .int) ∈ LG := lg_mem 676 (by decide +kernel) rfl
theorem mv_L_96 : MV RL 96 6 yX6_keep cX6_keep 2 (some .int) 1 := ⟨⟨TX6, 9, rfl⟩, by decide, lg_mem 673 (by decide +kernel) rfl, wn_X6_keep, wl_X6_keep, wi_X6, wc_X6_keep, by decide, by decide, by decide +kernel⟩
theorem wn_X7_keep : Cond.instanceMethod yX7_keep ∈ LG := lg_mem 999 (by decide +kernel) rfl
theorem wl_X7_keep : Cond.selects yX7_keep.cls yX7_keep yX7_keep ∈ LG := lg_mem 1000 (by decide +kernel) rfl
theorem wc_X7_keep : Cond.code yX7_keep cX7_keep 3 (some .int) ∈ LG := lg_mem 1001 (by decide +kernel) rfl
theorem mv_L_99 : MV RL 99 7 yX7_keep cX7_keep 3 (some .int) 1 := ⟨⟨TX7, 27, rfl⟩, by decide, lg_mem 998 (by decide +kernel) rfl, wn_X7_keep, wl_X7_keep, wi_X7, wc_X7_keep, by decide, by decide, by decide +kernel⟩
theorem wn_X6_back : Cond.instanceMethod yX6_back ∈ LG := lg_mem 678 (by decide +kernel) rfl
theorem wl_X6_back : Cond.selects yX6_back.cls yX6_back yX6_back ∈ LG := lg_mem 679 (by decide +kernel) rfl
theorem wc_X6_back : Cond.code yX6_back cX6_back 2 (some .int) ∈ LG := lg_mem 680 (by decide +kernel) rfl
theorem mv_L_100 : MV RL 100 6 yX6_back cX6_back 2 (some .int) 1 := ⟨⟨TX6, 9, rfl⟩, by decide, lg_mem 677 (by decide +kernel) rfl, wn_X6_back, wl_X6_back, wi_X6, wc_X6_back, by decide, by decide, by decide +kernel⟩
theorem wn_X7_back : Cond.instanceMethod yX7_back ∈ LG := lg_mem 1003 (by decide +kernel) rfl
theorem wl_X7_back : Cond.selects yX7_back.cls yX7_back yX7_back ∈ LG := lg_mem 1004 (by decide +kernel) rfl
theorem wc_X7_back : Cond.code yX7_back cX7_back 3 (some .int) ∈ LG := lg_mem 1005 (by decide +kernel) rfl
theorem mv_L_103 : MV RL 103 7 yX7_back cX7_back 3 (some .int) 1 := ⟨⟨TX7, 27, rfl⟩, by decide, lg_mem 1002 (by decide +kernel) rfl, wn_X7_back, wl_X7_back, wi_X7, wc_X7_back, by decide, by decide, by decide +kernel⟩
theorem wn_X6_count : Cond.instanceMethod yX6_count ∈ LG := lg_mem 682 (by decide +kernel) rfl
theorem wl_X6_count : Cond.selects yX6_count.cls yX6_count yX6_count ∈ LG := lg_mem 683 (by decide +kernel) rfl
theorem wc_X6_count : Cond.code yX6_count cX6_count 2 (some .int) ∈ LG := lg_mem 684 (by decide +kernel) rfl
theorem mv_L_104 : MV RL 104 6 yX6_count cX6_count 2 (some .int) 1 := ⟨⟨TX6, 9, rfl⟩, by decide, lg_mem 681 (by decide +kernel) rfl, wn_X6_count, wl_X6_count, wi_X6, wc_X6_count, by decide, by decide, by decide +kernel⟩
theorem wn_X7_count : Cond.instanceMethod yX7_count ∈ LG := lg_mem 1007 (by decide +kernel) rfl
theorem wl_X7_count : Cond.selects yX7_count.cls yX7_count yX7_count ∈ LG := lg_mem 1008 (by decide +kernel) rfl
theorem wc_X7_count : Cond.code yX7_count cX7_count 2 (some .int) ∈ LG := lg_mem 1009 (by decide +kernel) rfl
theorem mv_L_107 : MV RL 107 7 yX7_count cX7_count 2 (some .int) 1 := ⟨⟨TX7, 27, rfl⟩, by decide, lg_mem 1006 (by decide +kernel) rfl, wn_X7_count, wl_X7_count, wi_X7, wc_X7_count, by decide, by decide, by decide +kernel⟩
theorem w_cp1 : Cond.native arraycopyName ∈ LG := lg_mem 445 (by decide +kernel) rfl
theorem w_cp2 : Cond.static arraycopyName ∈ LG := lg_mem 444 (by decide +kernel) rfl
theorem w_cp3 : Cond.initialized "java/lang/System" ∈ LG := lg_mem 60 (by decide +kernel) rfl
theorem wx_X6_135 : Cond.constant RX6 135 (-1000000) ∈ LG := lg_mem 572 (by decide +kernel) rfl
theorem wx_X6_171 : Cond.constant RX6 171 (-2000000) ∈ LG := lg_mem 590 (by decide +kernel) rfl
theorem wx_J6_265 : Cond.constant RJ6 265 (1431655765) ∈ LG := lg_mem 664 (by decide +kernel) rfl
theorem wx_J6_266 : Cond.constant RJ6 266 (858993459) ∈ LG := lg_mem 665 (by decide +kernel) rfl
theorem wx_J6_267 : Cond.constant RJ6 267 (252645135) ∈ LG := lg_mem 666 (by decide +kernel) rfl
theorem wx_X7_190 : Cond.constant RX7 190 (-1000000) ∈ LG := lg_mem 929 (by decide +kernel) rfl
theorem wx_X7_194 : Cond.constant RX7 194 (-2000000) ∈ LG := lg_mem 942 (by decide +kernel) rfl
theorem kc_m1 : Int32.ofInt (-1) = (-1 : Int32) := by decide +kernel
theorem kc_0 : Int32.ofInt (0) = (0 : Int32) := by decide +kernel
theorem kc_1 : Int32.ofInt (1) = (1 : Int32) := by decide +kernel
theorem kc_2 : Int32.ofInt (2) = (2 : Int32) := by decide +kernel
theorem kc_3 : Int32.ofInt (3) = (3 : Int32) := by decide +kernel
theorem kc_4 : Int32.ofInt (4) = (4 : Int32) := by decide +kernel
theorem kc_5 : Int32.ofInt (5) = (5 : Int32) := by decide +kernel
theorem kb_m99 : (Int8.ofInt (-99)).toInt32 = (-99 : Int32) := by decide +kernel
theorem kb_m20 : (Int8.ofInt (-20)).toInt32 = (-20 : Int32) := by decide +kernel
theorem kb_m10 : (Int8.ofInt (-10)).toInt32 = (-10 : Int32) := by decide +kernel
theorem kb_m9 : (Int8.ofInt (-9)).toInt32 = (-9 : Int32) := by decide +kernel
theorem kb_m3 : (Int8.ofInt (-3)).toInt32 = (-3 : Int32) := by decide +kernel
theorem kb_m2 : (Int8.ofInt (-2)).toInt32 = (-2 : Int32) := by decide +kernel
theorem kb_6 : (Int8.ofInt (6)).toInt32 = (6 : Int32) := by decide +kernel
theorem kb_7 : (Int8.ofInt (7)).toInt32 = (7 : Int32) := by decide +kernel
theorem kb_8 : (Int8.ofInt (8)).toInt32 = (8 : Int32) := by decide +kernel
theorem kb_9 : (Int8.ofInt (9)).toInt32 = (9 : Int32) := by decide +kernel
theorem kb_10 : (Int8.ofInt (10)).toInt32 = (10 : Int32) := by decide +kernel
theorem kb_12 : (Int8.ofInt (12)).toInt32 = (12 : Int32) := by decide +kernel
theorem kb_13 : (Int8.ofInt (13)).toInt32 = (13 : Int32) := by decide +kernel
theorem kb_14 : (Int8.ofInt (14)).toInt32 = (14 : Int32) := by decide +kernel
theorem kb_16 : (Int8.ofInt (16)).toInt32 = (16 : Int32) := by decide +kernel
theorem kb_18 : (Int8.ofInt (18)).toInt32 = (18 : Int32) := by decide +kernel
theorem kb_20 : (Int8.ofInt (20)).toInt32 = (20 : Int32) := by decide +kernel
theorem kb_22 : (Int8.ofInt (22)).toInt32 = (22 : Int32) := by decide +kernel
theorem kb_31 : (Int8.ofInt (31)).toInt32 = (31 : Int32) := by decide +kernel
theorem kb_32 : (Int8.ofInt (32)).toInt32 = (32 : Int32) := by decide +kernel
theorem kb_45 : (Int8.ofInt (45)).toInt32 = (45 : Int32) := by decide +kernel
theorem kb_48 : (Int8.ofInt (48)).toInt32 = (48 : Int32) := by decide +kernel
theorem kb_54 : (Int8.ofInt (54)).toInt32 = (54 : Int32) := by decide +kernel
theorem kb_55 : (Int8.ofInt (55)).toInt32 = (55 : Int32) := by decide +kernel
theorem kb_56 : (Int8.ofInt (56)).toInt32 = (56 : Int32) := by decide +kernel
theorem kb_57 : (Int8.ofInt (57)).toInt32 = (57 : Int32) := by decide +kernel
theorem kb_59 : (Int8.ofInt (59)).toInt32 = (59 : Int32) := by decide +kernel
theorem kb_60 : (Int8.ofInt (60)).toInt32 = (60 : Int32) := by decide +kernel
theorem kb_61 : (Int8.ofInt (61)).toInt32 = (61 : Int32) := by decide +kernel
theorem kb_63 : (Int8.ofInt (63)).toInt32 = (63 : Int32) := by decide +kernel
theorem kb_99 : (Int8.ofInt (99)).toInt32 = (99 : Int32) := by decide +kernel
theorem kb_100 : (Int8.ofInt (100)).toInt32 = (100 : Int32) := by decide +kernel
theorem kb_105 : (Int8.ofInt (105)).toInt32 = (105 : Int32) := by decide +kernel
theorem kb_114 : (Int8.ofInt (114)).toInt32 = (114 : Int32) := by decide +kernel
theorem kb_117 : (Int8.ofInt (117)).toInt32 = (117 : Int32) := by decide +kernel
theorem kb_120 : (Int8.ofInt (120)).toInt32 = (120 : Int32) := by decide +kernel
theorem ks_128 : (Int16.ofInt (128)).toInt32 = (128 : Int32) := by decide +kernel
theorem ks_199 : (Int16.ofInt (199)).toInt32 = (199 : Int32) := by decide +kernel
theorem ks_200 : (Int16.ofInt (200)).toInt32 = (200 : Int32) := by decide +kernel
theorem ks_255 : (Int16.ofInt (255)).toInt32 = (255 : Int32) := by decide +kernel
theorem ks_256 : (Int16.ofInt (256)).toInt32 = (256 : Int32) := by decide +kernel
theorem ks_257 : (Int16.ofInt (257)).toInt32 = (257 : Int32) := by decide +kernel
theorem ks_258 : (Int16.ofInt (258)).toInt32 = (258 : Int32) := by decide +kernel
theorem ks_300 : (Int16.ofInt (300)).toInt32 = (300 : Int32) := by decide +kernel
theorem ks_349 : (Int16.ofInt (349)).toInt32 = (349 : Int32) := by decide +kernel
theorem ks_698 : (Int16.ofInt (698)).toInt32 = (698 : Int32) := by decide +kernel
theorem ks_1000 : (Int16.ofInt (1000)).toInt32 = (1000 : Int32) := by decide +kernel
theorem ks_1745 : (Int16.ofInt (1745)).toInt32 = (1745 : Int32) := by decide +kernel
theorem ks_2094 : (Int16.ofInt (2094)).toInt32 = (2094 : Int32) := by decide +kernel
theorem ks_9999 : (Int16.ofInt (9999)).toInt32 = (9999 : Int32) := by decide +kernel
theorem lit_0 : Lit 0 0 := ⟨by decide +kernel, by decide +kernel⟩
theorem lit_1 : Lit 1 1 := ⟨by decide +kernel, by decide +kernel⟩
theorem lit_2 : Lit 2 2 := ⟨by decide +kernel, by decide +kernel⟩
theorem lit_3 : Lit 3 3 := ⟨by decide +kernel, by decide +kernel⟩
theorem lit_4 : Lit 4 4 := ⟨by decide +kernel, by decide +kernel⟩
theorem lit_5 : Lit 5 5 := ⟨by decide +kernel, by decide +kernel⟩
theorem lit_6 : Lit 6 6 := ⟨by decide +kernel, by decide +kernel⟩
theorem lit_7 : Lit 7 7 := ⟨by decide +kernel, by decide +kernel⟩
theorem lit_8 : Lit 8 8 := ⟨by decide +kernel, by decide +kernel⟩
theorem lit_9 : Lit 9 9 := ⟨by decide +kernel, by decide +kernel⟩
theorem lit_10 : Lit 10 10 := ⟨by decide +kernel, by decide +kernel⟩
theorem lit_12 : Lit 12 12 := ⟨by decide +kernel, by decide +kernel⟩
theorem lit_13 : Lit 13 13 := ⟨by decide +kernel, by decide +kernel⟩
theorem lit_14 : Lit 14 14 := ⟨by decide +kernel, by decide +kernel⟩
theorem lit_16 : Lit 16 16 := ⟨by decide +kernel, by decide +kernel⟩
theorem lit_18 : Lit 18 18 := ⟨by decide +kernel, by decide +kernel⟩
theorem lit_20 : Lit 20 20 := ⟨by decide +kernel, by decide +kernel⟩
theorem lit_22 : Lit 22 22 := ⟨by decide +kernel, by decide +kernel⟩
theorem lit_31 : Lit 31 31 := ⟨by decide +kernel, by decide +kernel⟩
theorem lit_32 : Lit 32 32 := ⟨by decide +kernel, by decide +kernel⟩
theorem lit_45 : Lit 45 45 := ⟨by decide +kernel, by decide +kernel⟩
theorem lit_48 : Lit 48 48 := ⟨by decide +kernel, by decide +kernel⟩
theorem lit_54 : Lit 54 54 := ⟨by decide +kernel, by decide +kernel⟩
theorem lit_55 : Lit 55 55 := ⟨by decide +kernel, by decide +kernel⟩
theorem lit_56 : Lit 56 56 := ⟨by decide +kernel, by decide +kernel⟩
theorem lit_57 : Lit 57 57 := ⟨by decide +kernel, by decide +kernel⟩
theorem lit_59 : Lit 59 59 := ⟨by decide +kernel, by decide +kernel⟩
theorem lit_60 : Lit 60 60 := ⟨by decide +kernel, by decide +kernel⟩
theorem lit_61 : Lit 61 61 := ⟨by decide +kernel, by decide +kernel⟩
theorem lit_63 : Lit 63 63 := ⟨by decide +kernel, by decide +kernel⟩
theorem lit_99 : Lit 99 99 := ⟨by decide +kernel, by decide +kernel⟩
theorem lit_100 : Lit 100 100 := ⟨by decide +kernel, by decide +kernel⟩
theorem lit_105 : Lit 105 105 := ⟨by decide +kernel, by decide +kernel⟩
theorem lit_114 : Lit 114 114 := ⟨by decide +kernel, by decide +kernel⟩
theorem lit_117 : Lit 117 117 := ⟨by decide +kernel, by decide +kernel⟩
theorem lit_120 : Lit 120 120 := ⟨by decide +kernel, by decide +kernel⟩
theorem lit_128 : Lit 128 128 := ⟨by decide +kernel, by decide +kernel⟩
theorem lit_199 : Lit 199 199 := ⟨by decide +kernel, by decide +kernel⟩
theorem lit_200 : Lit 200 200 := ⟨by decide +kernel, by decide +kernel⟩
theorem lit_255 : Lit 255 255 := ⟨by decide +kernel, by decide +kernel⟩
theorem lit_256 : Lit 256 256 := ⟨by decide +kernel, by decide +kernel⟩
theorem lit_257 : Lit 257 257 := ⟨by decide +kernel, by decide +kernel⟩
theorem lit_258 : Lit 258 258 := ⟨by decide +kernel, by decide +kernel⟩
theorem lit_300 : Lit 300 300 := ⟨by decide +kernel, by decide +kernel⟩
theorem lit_349 : Lit 349 349 := ⟨by decide +kernel, by decide +kernel⟩
theorem lit_698 : Lit 698 698 := ⟨by decide +kernel, by decide +kernel⟩
theorem lit_1000 : Lit 1000 1000 := ⟨by decide +kernel, by decide +kernel⟩
theorem lit_1745 : Lit 1745 1745 := ⟨by decide +kernel, by decide +kernel⟩
theorem lit_2094 : Lit 2094 2094 := ⟨by decide +kernel, by decide +kernel⟩
theorem lit_9999 : Lit 9999 9999 := ⟨by decide +kernel, by decide +kernel⟩
theorem sh_0 : SH 0 = (6, 0) := by decide +kernel
theorem sh_103 : SH 103 = (10, 2) := by decide +kernel
theorem sh_104 : SH 104 = (9, 2) := by decide +kernel
theorem sh_130 : SH 130 = (7, 0) := by decide +kernel
theorem sh_131 : SH 131 = (8, 349) := by decide +kernel
theorem sh_132 : SH 132 = (8, 349) := by decide +kernel
theorem sh_133 : SH 133 = (8, 2094) := by decide +kernel
theorem sh_134 : SH 134 = (8, 698) := by decide +kernel
theorem sh_135 : SH 135 = (9, 2) := by decide +kernel
theorem sh_136 : SH 136 = (8, 120) := by decide +kernel
theorem sh_137 : SH 137 = (8, 12) := by decide +kernel
theorem sh_138 : SH 138 = (8, 4) := by decide +kernel
theorem sh_139 : SH 139 = (8, 4) := by decide +kernel
theorem sh_140 : SH 140 = (8, 8) := by decide +kernel
theorem sh_141 : SH 141 = (8, 8) := by decide +kernel
theorem sh_142 : SH 142 = (8, 4) := by decide +kernel
theorem sh_143 : SH 143 = (8, 4) := by decide +kernel
theorem sh_144 : SH 144 = (8, 8) := by decide +kernel
theorem sh_145 : SH 145 = (8, 8) := by decide +kernel
theorem sh_146 : SH 146 = (8, 4) := by decide +kernel
theorem sh_147 : SH 147 = (9, 4) := by decide +kernel
def isBand (n : Nat) (R : Rfs) (b : Nat) : Prop := b + 6 ≤ n ∧ SH b = (0, 0) ∧ SH (b + 1) = (8, 32) ∧ SH (b + 2) = (8, 32) ∧ SH (b + 3) = (8, 32) ∧ SH (b + 4) = (8, 128) ∧ SH (b + 5) = (8, 4) ∧ R b 0 = some (b + 1) ∧ R b 1 = some (b + 2) ∧ R b 2 = some (b + 3) ∧ R b 3 = some (b + 4) ∧ R b 10 = some (b + 5)
theorem iBand_s0 {n : Nat} {R : Rfs} {b : Nat} (h : isBand n R b) : SH b = (0, 0) := h.2.1
theorem iBand_l0 {n : Nat} {R : Rfs} {b : Nat} (h : isBand n R b) : b < n := by have := h.1; omega
theorem iBand_s1 {n : Nat} {R : Rfs} {b : Nat} (h : isBand n R b) : SH (b + 1) = (8, 32) := h.2.2.1
theorem iBand_l1 {n : Nat} {R : Rfs} {b : Nat} (h : isBand n R b) : b + 1 < n := by have := h.1; omega
theorem iBand_s2 {n : Nat} {R : Rfs} {b : Nat} (h : isBand n R b) : SH (b + 2) = (8, 32) := h.2.2.2.1
theorem iBand_l2 {n : Nat} {R : Rfs} {b : Nat} (h : isBand n R b) : b + 2 < n := by have := h.1; omega
theorem iBand_s3 {n : Nat} {R : Rfs} {b : Nat} (h : isBand n R b) : SH (b + 3) = (8, 32) := h.2.2.2.2.1
theorem iBand_l3 {n : Nat} {R : Rfs} {b : Nat} (h : isBand n R b) : b + 3 < n := by have := h.1; omega
theorem iBand_s4 {n : Nat} {R : Rfs} {b : Nat} (h : isBand n R b) : SH (b + 4) = (8, 128) := h.2.2.2.2.2.1
theorem iBand_l4 {n : Nat} {R : Rfs} {b : Nat} (h : isBand n R b) : b + 4 < n := by have := h.1; omega
theorem iBand_s5 {n : Nat} {R : Rfs} {b : Nat} (h : isBand n R b) : SH (b + 5) = (8, 4) := h.2.2.2.2.2.2.1
theorem iBand_l5 {n : Nat} {R : Rfs} {b : Nat} (h : isBand n R b) : b + 5 < n := by have := h.1; omega
theorem iBand_r0 {n : Nat} {R : Rfs} {b : Nat} (h : isBand n R b) : R b 0 = some (b + 1) := h.2.2.2.2.2.2.2.1
theorem iBand_r1 {n : Nat} {R : Rfs} {b : Nat} (h : isBand n R b) : R b 1 = some (b + 2) := h.2.2.2.2.2.2.2.2.1
theorem iBand_r2 {n : Nat} {R : Rfs} {b : Nat} (h : isBand n R b) : R b 2 = some (b + 3) := h.2.2.2.2.2.2.2.2.2.1
theorem iBand_r3 {n : Nat} {R : Rfs} {b : Nat} (h : isBand n R b) : R b 3 = some (b + 4) := h.2.2.2.2.2.2.2.2.2.2.1
theorem iBand_r10 {n : Nat} {R : Rfs} {b : Nat} (h : isBand n R b) : R b 10 = some (b + 5) := h.2.2.2.2.2.2.2.2.2.2.2
def isClues (n : Nat) (R : Rfs) (b : Nat) : Prop := b + 3 ≤ n ∧ SH b = (1, 0) ∧ SH (b + 1) = (8, 6) ∧ SH (b + 2) = (8, 6) ∧ R b 0 = some (b + 1) ∧ R b 1 = some (b + 2)
theorem iClues_s0 {n : Nat} {R : Rfs} {b : Nat} (h : isClues n R b) : SH b = (1, 0) := h.2.1
theorem iClues_l0 {n : Nat} {R : Rfs} {b : Nat} (h : isClues n R b) : b < n := by have := h.1; omega
theorem iClues_s1 {n : Nat} {R : Rfs} {b : Nat} (h : isClues n R b) : SH (b + 1) = (8, 6) := h.2.2.1
theorem iClues_l1 {n : Nat} {R : Rfs} {b : Nat} (h : isClues n R b) : b + 1 < n := by have := h.1; omega
theorem iClues_s2 {n : Nat} {R : Rfs} {b : Nat} (h : isClues n R b) : SH (b + 2) = (8, 6) := h.2.2.2.1
theorem iClues_l2 {n : Nat} {R : Rfs} {b : Nat} (h : isClues n R b) : b + 2 < n := by have := h.1; omega
theorem iClues_r0 {n : Nat} {R : Rfs} {b : Nat} (h : isClues n R b) : R b 0 = some (b + 1) := h.2.2.2.2.1
theorem iClues_r1 {n : Nat} {R : Rfs} {b : Nat} (h : isClues n R b) : R b 1 = some (b + 2) := h.2.2.2.2.2
def isPlan (n : Nat) (R : Rfs) (b : Nat) : Prop := b + 5 ≤ n ∧ SH b = (3, 0) ∧ SH (b + 1) = (8, 4) ∧ SH (b + 2) = (8, 4) ∧ SH (b + 3) = (8, 8) ∧ SH (b + 4) = (8, 8) ∧ R b 0 = some (b + 1) ∧ R b 1 = some (b + 2) ∧ R b 2 = some (b + 3) ∧ R b 3 = some (b + 4)
theorem iPlan_s0 {n : Nat} {R : Rfs} {b : Nat} (h : isPlan n R b) : SH b = (3, 0) := h.2.1
theorem iPlan_l0 {n : Nat} {R : Rfs} {b : Nat} (h : isPlan n R b) : b < n := by have := h.1; omega
theorem iPlan_s1 {n : Nat} {R : Rfs} {b : Nat} (h : isPlan n R b) : SH (b + 1) = (8, 4) := h.2.2.1
theorem iPlan_l1 {n : Nat} {R : Rfs} {b : Nat} (h : isPlan n R b) : b + 1 < n := by have := h.1; omega
theorem iPlan_s2 {n : Nat} {R : Rfs} {b : Nat} (h : isPlan n R b) : SH (b + 2) = (8, 4) := h.2.2.2.1
theorem iPlan_l2 {n : Nat} {R : Rfs} {b : Nat} (h : isPlan n R b) : b + 2 < n := by have := h.1; omega
theorem iPlan_s3 {n : Nat} {R : Rfs} {b : Nat} (h : isPlan n R b) : SH (b + 3) = (8, 8) := h.2.2.2.2.1
theorem iPlan_l3 {n : Nat} {R : Rfs} {b : Nat} (h : isPlan n R b) : b + 3 < n := by have := h.1; omega
theorem iPlan_s4 {n : Nat} {R : Rfs} {b : Nat} (h : isPlan n R b) : SH (b + 4) = (8, 8) := h.2.2.2.2.2.1
theorem iPlan_l4 {n : Nat} {R : Rfs} {b : Nat} (h : isPlan n R b) : b + 4 < n := by have := h.1; omega
theorem iPlan_r0 {n : Nat} {R : Rfs} {b : Nat} (h : isPlan n R b) : R b 0 = some (b + 1) := h.2.2.2.2.2.2.1
theorem iPlan_r1 {n : Nat} {R : Rfs} {b : Nat} (h : isPlan n R b) : R b 1 = some (b + 2) := h.2.2.2.2.2.2.2.1
theorem iPlan_r2 {n : Nat} {R : Rfs} {b : Nat} (h : isPlan n R b) : R b 2 = some (b + 3) := h.2.2.2.2.2.2.2.2.1
theorem iPlan_r3 {n : Nat} {R : Rfs} {b : Nat} (h : isPlan n R b) : R b 3 = some (b + 4) := h.2.2.2.2.2.2.2.2.2
def isPress (n : Nat) (R : Rfs) (b : Nat) : Prop := b + 11 ≤ n ∧ SH b = (4, 0) ∧ SH (b + 1) = (8, 4) ∧ SH (b + 2) = (8, 4) ∧ SH (b + 3) = (8, 4) ∧ SH (b + 4) = (8, 32) ∧ R b 0 = some (b + 1) ∧ R b 1 = some (b + 2) ∧ R b 2 = some (b + 3) ∧ R b 3 = some (b + 4) ∧ R b 4 = some (b + 5) ∧ isBand n R (b + 5)
theorem iPress_s0 {n : Nat} {R : Rfs} {b : Nat} (h : isPress n R b) : SH b = (4, 0) := h.2.1
theorem iPress_l0 {n : Nat} {R : Rfs} {b : Nat} (h : isPress n R b) : b < n := by have := h.1; omega
theorem iPress_s1 {n : Nat} {R : Rfs} {b : Nat} (h : isPress n R b) : SH (b + 1) = (8, 4) := h.2.2.1
theorem iPress_l1 {n : Nat} {R : Rfs} {b : Nat} (h : isPress n R b) : b + 1 < n := by have := h.1; omega
theorem iPress_s2 {n : Nat} {R : Rfs} {b : Nat} (h : isPress n R b) : SH (b + 2) = (8, 4) := h.2.2.2.1
theorem iPress_l2 {n : Nat} {R : Rfs} {b : Nat} (h : isPress n R b) : b + 2 < n := by have := h.1; omega
theorem iPress_s3 {n : Nat} {R : Rfs} {b : Nat} (h : isPress n R b) : SH (b + 3) = (8, 4) := h.2.2.2.2.1
theorem iPress_l3 {n : Nat} {R : Rfs} {b : Nat} (h : isPress n R b) : b + 3 < n := by have := h.1; omega
theorem iPress_s4 {n : Nat} {R : Rfs} {b : Nat} (h : isPress n R b) : SH (b + 4) = (8, 32) := h.2.2.2.2.2.1
theorem iPress_l4 {n : Nat} {R : Rfs} {b : Nat} (h : isPress n R b) : b + 4 < n := by have := h.1; omega
theorem iPress_r0 {n : Nat} {R : Rfs} {b : Nat} (h : isPress n R b) : R b 0 = some (b + 1) := h.2.2.2.2.2.2.1
theorem iPress_r1 {n : Nat} {R : Rfs} {b : Nat} (h : isPress n R b) : R b 1 = some (b + 2) := h.2.2.2.2.2.2.2.1
theorem iPress_r2 {n : Nat} {R : Rfs} {b : Nat} (h : isPress n R b) : R b 2 = some (b + 3) := h.2.2.2.2.2.2.2.2.1
theorem iPress_r3 {n : Nat} {R : Rfs} {b : Nat} (h : isPress n R b) : R b 3 = some (b + 4) := h.2.2.2.2.2.2.2.2.2.1
theorem iPress_r4 {n : Nat} {R : Rfs} {b : Nat} (h : isPress n R b) : R b 4 = some (b + 5) := h.2.2.2.2.2.2.2.2.2.2.1
theorem iPress_x {n : Nat} {R : Rfs} {b : Nat} (h : isPress n R b) : isBand n R (b + 5) := h.2.2.2.2.2.2.2.2.2.2.2
def isText (n : Nat) (R : Rfs) (b : Nat) : Prop := b + 2 ≤ n ∧ SH b = (5, 0) ∧ SH (b + 1) = (8, 120) ∧ R b 0 = some (b + 1)
theorem iText_s0 {n : Nat} {R : Rfs} {b : Nat} (h : isText n R b) : SH b = (5, 0) := h.2.1
theorem iText_l0 {n : Nat} {R : Rfs} {b : Nat} (h : isText n R b) : b < n := by have := h.1; omega
theorem iText_s1 {n : Nat} {R : Rfs} {b : Nat} (h : isText n R b) : SH (b + 1) = (8, 120) := h.2.2.1
theorem iText_l1 {n : Nat} {R : Rfs} {b : Nat} (h : isText n R b) : b + 1 < n := by have := h.1; omega
theorem iText_r0 {n : Nat} {R : Rfs} {b : Nat} (h : isText n R b) : R b 0 = some (b + 1) := h.2.2.2
def isHist (n : Nat) (R : Rfs) (b : Nat) : Prop := b + 68 ≤ n ∧ SH b = (2, 0) ∧ SH (b + 1) = (10, 6) ∧ R b 0 = some (b + 1) ∧ ∀ i, i < 6 → R (b + 1) i = some (b + 2 + 11 * i) ∧ isPress n R (b + 2 + 11 * i)
theorem iHist_s0 {n : Nat} {R : Rfs} {b : Nat} (h : isHist n R b) : SH b = (2, 0) := h.2.1
theorem iHist_l0 {n : Nat} {R : Rfs} {b : Nat} (h : isHist n R b) : b < n := by have := h.1; omega
theorem iHist_s1 {n : Nat} {R : Rfs} {b : Nat} (h : isHist n R b) : SH (b + 1) = (10, 6) := h.2.2.1
theorem iHist_l1 {n : Nat} {R : Rfs} {b : Nat} (h : isHist n R b) : b + 1 < n := by have := h.1; omega
theorem iHist_r0 {n : Nat} {R : Rfs} {b : Nat} (h : isHist n R b) : R b 0 = some (b + 1) := h.2.2.2.1
theorem iHist_x {n : Nat} {R : Rfs} {b : Nat} (h : isHist n R b) : ∀ i, i < 6 → R (b + 1) i = some (b + 2 + 11 * i) ∧ isPress n R (b + 2 + 11 * i) := h.2.2.2.2
def isSW (R : Rfs) (pl dr : Nat) : Prop := R 0 0 = some 1 ∧ R 0 1 = some pl ∧ R 0 2 = some dr ∧ R 0 3 = some 13 ∧ R 0 4 = some 24 ∧ R 0 5 = some 35 ∧ R 0 6 = some 103 ∧ R 0 7 = some 104 ∧ R 0 8 = some 105 ∧ isText 148 R 1 ∧ isPlan 148 R pl ∧ isPlan 148 R dr ∧ isPress 148 R 13 ∧ isPress 148 R 24 ∧ isHist 148 R 35 ∧ isClues 148 R 105 ∧ ∀ i, i < 2 → R 103 i = some (108 + 11 * i) ∧ isPress 148 R (108 + 11 * i)
theorem iSW_r0 {R : Rfs} {pl dr : Nat} (h : isSW R pl dr) : R 0 0 = some 1 := h.1
theorem iSW_r1 {R : Rfs} {pl dr : Nat} (h : isSW R pl dr) : R 0 1 = some pl := h.2.1
theorem iSW_r2 {R : Rfs} {pl dr : Nat} (h : isSW R pl dr) : R 0 2 = some dr := h.2.2.1
theorem iSW_r3 {R : Rfs} {pl dr : Nat} (h : isSW R pl dr) : R 0 3 = some 13 := h.2.2.2.1
theorem iSW_r4 {R : Rfs} {pl dr : Nat} (h : isSW R pl dr) : R 0 4 = some 24 := h.2.2.2.2.1
theorem iSW_r5 {R : Rfs} {pl dr : Nat} (h : isSW R pl dr) : R 0 5 = some 35 := h.2.2.2.2.2.1
theorem iSW_r6 {R : Rfs} {pl dr : Nat} (h : isSW R pl dr) : R 0 6 = some 103 := h.2.2.2.2.2.2.1
theorem iSW_r7 {R : Rfs} {pl dr : Nat} (h : isSW R pl dr) : R 0 7 = some 104 := h.2.2.2.2.2.2.2.1
theorem iSW_r8 {R : Rfs} {pl dr : Nat} (h : isSW R pl dr) : R 0 8 = some 105 := h.2.2.2.2.2.2.2.2.1
theorem iSW_text {R : Rfs} {pl dr : Nat} (h : isSW R pl dr) : isText 148 R 1 := h.2.2.2.2.2.2.2.2.2.1
theorem iSW_plan {R : Rfs} {pl dr : Nat} (h : isSW R pl dr) : isPlan 148 R pl := h.2.2.2.2.2.2.2.2.2.2.1
theorem iSW_draft {R : Rfs} {pl dr : Nat} (h : isSW R pl dr) : isPlan 148 R dr := h.2.2.2.2.2.2.2.2.2.2.2.1
theorem iSW_press {R : Rfs} {pl dr : Nat} (h : isSW R pl dr) : isPress 148 R 13 := h.2.2.2.2.2.2.2.2.2.2.2.2.1
theorem iSW_trial {R : Rfs} {pl dr : Nat} (h : isSW R pl dr) : isPress 148 R 24 := h.2.2.2.2.2.2.2.2.2.2.2.2.2.1
theorem iSW_hist {R : Rfs} {pl dr : Nat} (h : isSW R pl dr) : isHist 148 R 35 := h.2.2.2.2.2.2.2.2.2.2.2.2.2.2.1
theorem iSW_clues {R : Rfs} {pl dr : Nat} (h : isSW R pl dr) : isClues 148 R 105 := h.2.2.2.2.2.2.2.2.2.2.2.2.2.2.2.1
theorem iSW_img {R : Rfs} {pl dr : Nat} (h : isSW R pl dr) : ∀ i, i < 2 → R 103 i = some (108 + 11 * i) ∧ isPress 148 R (108 + 11 * i) := h.2.2.2.2.2.2.2.2.2.2.2.2.2.2.2.2
def isMod (R : Rfs) : Prop := R 130 0 = some 131 ∧ R 130 1 = some 132 ∧ R 130 2 = some 133 ∧ R 130 4 = some 134 ∧ R 130 5 = some 135 ∧ R 130 6 = some 136 ∧ R 130 8 = some 137 ∧ R 130 11 = some 138 ∧ R 130 12 = some 139 ∧ R 130 14 = some 140 ∧ R 130 15 = some 141 ∧ R 130 16 = some 142 ∧ R 130 19 = some 143 ∧ R 130 20 = some 144 ∧ R 130 21 = some 145 ∧ R 130 22 = some 146 ∧ R 130 23 = some 147
theorem iMod_r0 {R : Rfs} (h : isMod R) : R 130 0 = some 131 := h.1
theorem iMod_r1 {R : Rfs} (h : isMod R) : R 130 1 = some 132 := h.2.1
theorem iMod_r2 {R : Rfs} (h : isMod R) : R 130 2 = some 133 := h.2.2.1
theorem iMod_r4 {R : Rfs} (h : isMod R) : R 130 4 = some 134 := h.2.2.2.1
theorem iMod_r5 {R : Rfs} (h : isMod R) : R 130 5 = some 135 := h.2.2.2.2.1
theorem iMod_r6 {R : Rfs} (h : isMod R) : R 130 6 = some 136 := h.2.2.2.2.2.1
theorem iMod_r8 {R : Rfs} (h : isMod R) : R 130 8 = some 137 := h.2.2.2.2.2.2.1
theorem iMod_r11 {R : Rfs} (h : isMod R) : R 130 11 = some 138 := h.2.2.2.2.2.2.2.1
theorem iMod_r12 {R : Rfs} (h : isMod R) : R 130 12 = some 139 := h.2.2.2.2.2.2.2.2.1
theorem iMod_r14 {R : Rfs} (h : isMod R) : R 130 14 = some 140 := h.2.2.2.2.2.2.2.2.2.1
theorem iMod_r15 {R : Rfs} (h : isMod R) : R 130 15 = some 141 := h.2.2.2.2.2.2.2.2.2.2.1
theorem iMod_r16 {R : Rfs} (h : isMod R) : R 130 16 = some 142 := h.2.2.2.2.2.2.2.2.2.2.2.1
theorem iMod_r19 {R : Rfs} (h : isMod R) : R 130 19 = some 143 := h.2.2.2.2.2.2.2.2.2.2.2.2.1
theorem iMod_r20 {R : Rfs} (h : isMod R) : R 130 20 = some 144 := h.2.2.2.2.2.2.2.2.2.2.2.2.2.1
theorem iMod_r21 {R : Rfs} (h : isMod R) : R 130 21 = some 145 := h.2.2.2.2.2.2.2.2.2.2.2.2.2.2.1
theorem iMod_r22 {R : Rfs} (h : isMod R) : R 130 22 = some 146 := h.2.2.2.2.2.2.2.2.2.2.2.2.2.2.2.1
theorem iMod_r23 {R : Rfs} (h : isMod R) : R 130 23 = some 147 := h.2.2.2.2.2.2.2.2.2.2.2.2.2.2.2.2
end
section
theorem vin_lt {i : Int32} {z : Nat} (h : vp_in i z) : ix i < z := Nat.not_le.mp fun q => h (Or.inr q)
theorem ne_ti {x : Int32} (v : Int32) (k : Int) (hv : v.toInt = k) (h : ¬ x = v) : x.toInt ≠ k := fun q => h (Int32.toInt_inj.mp (q.trans hv.symm))
def swp (R : Rfs) (pl dr : Nat) : Rfs := mr (mr R 0 1 dr) 0 2 pl
section V3
variable {p : Program} {l : Launch} {e : Env} {Rm : Room} {s : State} {m : MethodId} {args : Array Value} {below : List Frame} {meth : Method} {c : Code} {Q : State → Prop}
variable {cc : ByteArray} {own : String} {nL cells slots n pc : Nat} {S : XS} {M : Mem} {R : Rfs} {lv lv' : List (Nat × Value)} {st : List Value}
theorem v_tin (C : Cx p m meth c s args cc own nL S) {dflt lo hi : Int} {offs : Array Int} {len : Nat} {x : Int32} {off : Int} (tgt : Nat) (k : Int) (hx : x.toInt = k) (h1 : ¬ k < lo) (h2 : ¬ hi < k) (ho : offs[(k - lo).toNat]? = some off) (ht : (pc : Int) + off = (tgt : Int)) (hd : decode cc pc = .ok (.tableswitch dflt lo hi offs, len)) (kk : V p l e Rm s m args below meth c Q S nL cells slots n M R tgt lv st) : V p l e Rm s m args below meth c Q S nL cells slots n M R pc lv (.int x :: st) :=
  fun H locs ls hP hS h => lv_tableIn C.1.1 C.1.2.1 hd (by rw [hx]; exact h1) (by rw [hx]; exact h2) (by rw [hx]; exact ho) ht (kk H locs ls hP hS h)
theorem v_tout (C : Cx p m meth c s args cc own nL S) {dflt lo hi : Int} {offs : Array Int} {len : Nat} {x : Int32} (tgt : Nat) (hx : x.toInt < lo ∨ hi < x.toInt) (ht : (pc : Int) + dflt = (tgt : Int)) (hd : decode cc pc = .ok (.tableswitch dflt lo hi offs, len)) (kk : V p l e Rm s m args below meth c Q S nL cells slots n M R tgt lv st) : V p l e Rm s m args below meth c Q S nL cells slots n M R pc lv (.int x :: st) :=
  fun H locs ls hP hS h => lv_tableOut C.1.1 C.1.2.1 hd hx ht (kk H locs ls hP hS h)
theorem v_lkup (C : Cx p m meth c s args cc own nL S) {dflt : Int} {ps : Array (Int × Int)} {len : Nat} {x : Int32} {off : Int} (tgt : Nat) (hp : (ps.toList.zip (ps.toList.drop 1)).all (fun (a, next) => a.1 < next.1) = true) (ho : Op.lookupswitch.offset ps.toList dflt x.toInt = off) (ht : (pc : Int) + off = (tgt : Int)) (hd : decode cc pc = .ok (.lookupswitch dflt ps, len)) (kk : V p l e Rm s m args below meth c Q S nL cells slots n M R tgt lv st) : V p l e Rm s m args below meth c Q S nL cells slots n M R pc lv (.int x :: st) :=
  fun H locs ls hP hS h => lv_lookup C.1.1 C.1.2.1 hd hp ho ht (kk H locs ls hP hS h)
end V3
theorem isBand_mr {n b k v : Nat} {R : Rfs} (h : isBand n R b) (hb : 0 < b) : isBand n (mr R 0 k v) b := by
  have e : ∀ j, mr R 0 k v b j = R b j := fun j => congrFun (mr_ne (by omega)) j
  unfold isBand at *
  simp only [e]; exact h
theorem isClues_mr {n b k v : Nat} {R : Rfs} (h : isClues n R b) (hb : 0 < b) : isClues n (mr R 0 k v) b := by
  have e : ∀ j, mr R 0 k v b j = R b j := fun j => congrFun (mr_ne (by omega)) j
  unfold isClues at *
  simp only [e]; exact h
theorem isPlan_mr {n b k v : Nat} {R : Rfs} (h : isPlan n R b) (hb : 0 < b) : isPlan n (mr R 0 k v) b := by
  have e : ∀ j, mr R 0 k v b j = R b j := fun j => congrFun (mr_ne (by omega)) j
  unfold isPlan at *
  simp only [e]; exact h
theorem isText_mr {n b k v : Nat} {R : Rfs} (h : isText n R b) (hb : 0 < b) : isText n (mr R 0 k v) b := by
  have e : ∀ j, mr R 0 k v b j = R b j := fun j => congrFun (mr_ne (by omega)) j
  unfold isText at *
  simp only [e]; exact h
theorem isPress_mr {n b k v : Nat} {R : Rfs} (h : isPress n R b) (hb : 0 < b) : isPress n (mr R 0 k v) b := by
  have e : ∀ j, mr R 0 k v b j = R b j := fun j => congrFun (mr_ne (by omega)) j
  have hx := isBand_mr (k := k) (v := v) (iPress_x h) (by omega)
  unfold isPress at *
  simp only [e]
  obtain ⟨a1, a2, a3, a4, a5, a6, a7, a8, a9, a10, a11, -⟩ := h
  exact ⟨a1, a2, a3, a4, a5, a6, a7, a8, a9, a10, a11, hx⟩
theorem isHist_mr {n b k v : Nat} {R : Rfs} (h : isHist n R b) (hb : 0 < b) : isHist n (mr R 0 k v) b := by
  have e : ∀ j, mr R 0 k v b j = R b j := fun j => congrFun (mr_ne (by omega)) j
  have e1 : ∀ j, mr R 0 k v (b + 1) j = R (b + 1) j := fun j => congrFun (mr_ne (by omega)) j
  unfold isHist at *
  simp only [e, e1]
  obtain ⟨a1, a2, a3, a4, a5⟩ := h
  exact ⟨a1, a2, a3, a4, fun i hi => ⟨(a5 i hi).1, isPress_mr (a5 i hi).2 (by omega)⟩⟩
theorem isPlan_pos {R : Rfs} {b : Nat} (h : isPlan 148 R b) : 0 < b := by
  rcases Nat.eq_zero_or_pos b with rfl | h1
  · exact absurd ((iPlan_s0 h).symm.trans sh_0) (by decide)
  · exact h1
theorem isSW_swap {R R1 R2 : Rfs} {pl dr : Nat} (h : isSW R pl dr) (e1 : R1 = mr R 0 1 dr) (e2 : R2 = mr R1 0 2 pl) : isSW R2 dr pl := by
  subst e1; subst e2
  have f : ∀ c j, c ≠ 0 → mr (mr R 0 1 dr) 0 2 pl c j = R c j := fun c j hc => by rw [mr_ne hc, mr_ne hc]
  have g : ∀ j, j ≠ 1 → j ≠ 2 → mr (mr R 0 1 dr) 0 2 pl 0 j = R 0 j := fun j h1 h2 => by simp [mr, h1, h2]
  have hp := isPlan_pos (iSW_plan h)
  have hd := isPlan_pos (iSW_draft h)
  refine ⟨by rw [g 0 (by decide) (by decide)]; exact iSW_r0 h, by simp [mr], by simp [mr], by rw [g 3 (by decide) (by decide)]; exact iSW_r3 h, by rw [g 4 (by decide) (by decide)]; exact iSW_r4 h, by rw [g 5 (by decide) (by decide)]; exact iSW_r5 h, by rw [g 6 (by decide) (by decide)]; exact iSW_r6 h, by rw [g 7 (by decide) (by decide)]; exact iSW_r7 h, by rw [g 8 (by decide) (by decide)]; exact iSW_r8 h, ?_, ?_, ?_, ?_, ?_, ?_, ?_, ?_⟩
  · exact isText_mr (isText_mr (iSW_text h) (by decide)) (by decide)
  · exact isPlan_mr (isPlan_mr (iSW_draft h) hd) hd
  · exact isPlan_mr (isPlan_mr (iSW_plan h) hp) hp
  · exact isPress_mr (isPress_mr (iSW_press h) (by decide)) (by decide)
  · exact isPress_mr (isPress_mr (iSW_trial h) (by decide)) (by decide)
  · exact isHist_mr (isHist_mr (iSW_hist h) (by decide)) (by decide)
  · exact isClues_mr (isClues_mr (iSW_clues h) (by decide)) (by decide)
  · intro i hi
    rw [f 103 i (by decide)]
    exact ⟨(iSW_img h i hi).1, isPress_mr (isPress_mr (iSW_img h i hi).2 (by omega)) (by omega)⟩
end
