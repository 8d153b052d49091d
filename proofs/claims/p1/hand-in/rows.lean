section
-- ===== PART A: goes FIRST, ahead of the names: the tables' words, and 'selects' of the private methods out of them =====
/-- a private method of a class that the tables say can be made, by its rows of tables_1 -/
def lw_okq (q : MethodName × Nat) : Prop := (q.1.cls ≠ "java/lang/invoke/MethodHandle" ∧ q.1.cls ≠ "java/lang/invoke/VarHandle") ∧ Cond.instantiable q.1.cls q.2 ∈ tables_1 ∧ Cond.privateMethod q.1 ∈ tables_1 ∧ Cond.instanceMethod q.1 ∈ tables_1
theorem lw_p0 : lw_okq (⟨"Macrocosm", "settle", "()I"⟩, 11) := ⟨⟨by decide +kernel, by decide +kernel⟩, List.mem_of_getElem? (i := 39) (by decide +kernel), List.mem_of_getElem? (i := 455) (by decide +kernel), List.mem_of_getElem? (i := 456) (by decide +kernel)⟩
theorem lw_p1 : lw_okq (⟨"Macrocosm$Tokens", "isBegin", "(LMacrocosm$Sheet;I)Z"⟩, 4) := ⟨⟨by decide +kernel, by decide +kernel⟩, List.mem_of_getElem? (i := 78) (by decide +kernel), List.mem_of_getElem? (i := 468) (by decide +kernel), List.mem_of_getElem? (i := 469) (by decide +kernel)⟩
theorem lw_p2 : lw_okq (⟨"Macrocosm$Tokens", "readOne", "(LMacrocosm$Sheet;I)V"⟩, 4) := ⟨⟨by decide +kernel, by decide +kernel⟩, List.mem_of_getElem? (i := 78) (by decide +kernel), List.mem_of_getElem? (i := 482) (by decide +kernel), List.mem_of_getElem? (i := 483) (by decide +kernel)⟩
theorem lw_p3 : lw_okq (⟨"Macrocosm$Tokens", "readName", "(LMacrocosm$Sheet;I)V"⟩, 4) := ⟨⟨by decide +kernel, by decide +kernel⟩, List.mem_of_getElem? (i := 78) (by decide +kernel), List.mem_of_getElem? (i := 486) (by decide +kernel), List.mem_of_getElem? (i := 487) (by decide +kernel)⟩
theorem lw_p4 : lw_okq (⟨"Macrocosm$Tokens", "kindOfRow", "(I)I"⟩, 4) := ⟨⟨by decide +kernel, by decide +kernel⟩, List.mem_of_getElem? (i := 78) (by decide +kernel), List.mem_of_getElem? (i := 490) (by decide +kernel), List.mem_of_getElem? (i := 491) (by decide +kernel)⟩
theorem lw_p5 : lw_okq (⟨"Macrocosm$Tokens", "put", "(III)V"⟩, 4) := ⟨⟨by decide +kernel, by decide +kernel⟩, List.mem_of_getElem? (i := 78) (by decide +kernel), List.mem_of_getElem? (i := 494) (by decide +kernel), List.mem_of_getElem? (i := 495) (by decide +kernel)⟩
theorem lw_p6 : lw_okq (⟨"Macrocosm$Tokens", "readNumber", "(LMacrocosm$Sheet;I)V"⟩, 4) := ⟨⟨by decide +kernel, by decide +kernel⟩, List.mem_of_getElem? (i := 78) (by decide +kernel), List.mem_of_getElem? (i := 502) (by decide +kernel), List.mem_of_getElem? (i := 503) (by decide +kernel)⟩
theorem lw_p7 : lw_okq (⟨"Macrocosm$Tokens", "isAmong", "(Ljava/lang/String;I)Z"⟩, 4) := ⟨⟨by decide +kernel, by decide +kernel⟩, List.mem_of_getElem? (i := 78) (by decide +kernel), List.mem_of_getElem? (i := 507) (by decide +kernel), List.mem_of_getElem? (i := 508) (by decide +kernel)⟩
theorem lw_p8 : lw_okq (⟨"Macrocosm$Reader", "startAnew", "()V"⟩, 17) := ⟨⟨by decide +kernel, by decide +kernel⟩, List.mem_of_getElem? (i := 72) (by decide +kernel), List.mem_of_getElem? (i := 602) (by decide +kernel), List.mem_of_getElem? (i := 603) (by decide +kernel)⟩
theorem lw_p9 : lw_okq (⟨"Macrocosm$Makings", "addPlainSign", "(CI)V"⟩, 10) := ⟨⟨by decide +kernel, by decide +kernel⟩, List.mem_of_getElem? (i := 102) (by decide +kernel), List.mem_of_getElem? (i := 610) (by decide +kernel), List.mem_of_getElem? (i := 611) (by decide +kernel)⟩
theorem lw_p10 : lw_okq (⟨"Macrocosm$Reader", "readStatement", "()V"⟩, 17) := ⟨⟨by decide +kernel, by decide +kernel⟩, List.mem_of_getElem? (i := 72) (by decide +kernel), List.mem_of_getElem? (i := 661) (by decide +kernel), List.mem_of_getElem? (i := 662) (by decide +kernel)⟩
theorem lw_p11 : lw_okq (⟨"Macrocosm$Reader", "kind", "()I"⟩, 17) := ⟨⟨by decide +kernel, by decide +kernel⟩, List.mem_of_getElem? (i := 72) (by decide +kernel), List.mem_of_getElem? (i := 665) (by decide +kernel), List.mem_of_getElem? (i := 666) (by decide +kernel)⟩
theorem lw_p12 : lw_okq (⟨"Macrocosm$Reader", "accept", "()V"⟩, 17) := ⟨⟨by decide +kernel, by decide +kernel⟩, List.mem_of_getElem? (i := 72) (by decide +kernel), List.mem_of_getElem? (i := 670) (by decide +kernel), List.mem_of_getElem? (i := 671) (by decide +kernel)⟩
theorem lw_p13 : lw_okq (⟨"Macrocosm$Reader", "readLetHead", "()V"⟩, 17) := ⟨⟨by decide +kernel, by decide +kernel⟩, List.mem_of_getElem? (i := 72) (by decide +kernel), List.mem_of_getElem? (i := 674) (by decide +kernel), List.mem_of_getElem? (i := 675) (by decide +kernel)⟩
theorem lw_p14 : lw_okq (⟨"Macrocosm$Reader", "readMade", "(II)Z"⟩, 17) := ⟨⟨by decide +kernel, by decide +kernel⟩, List.mem_of_getElem? (i := 72) (by decide +kernel), List.mem_of_getElem? (i := 678) (by decide +kernel), List.mem_of_getElem? (i := 679) (by decide +kernel)⟩
theorem lw_p15 : lw_okq (⟨"Macrocosm$Reader", "fail", "(II)V"⟩, 17) := ⟨⟨by decide +kernel, by decide +kernel⟩, List.mem_of_getElem? (i := 72) (by decide +kernel), List.mem_of_getElem? (i := 682) (by decide +kernel), List.mem_of_getElem? (i := 683) (by decide +kernel)⟩
def lw_privs_1 : List (MethodName × Nat) := [(⟨"Macrocosm", "settle", "()I"⟩, 11), (⟨"Macrocosm$Tokens", "isBegin", "(LMacrocosm$Sheet;I)Z"⟩, 4), (⟨"Macrocosm$Tokens", "readOne", "(LMacrocosm$Sheet;I)V"⟩, 4), (⟨"Macrocosm$Tokens", "readName", "(LMacrocosm$Sheet;I)V"⟩, 4), (⟨"Macrocosm$Tokens", "kindOfRow", "(I)I"⟩, 4), (⟨"Macrocosm$Tokens", "put", "(III)V"⟩, 4), (⟨"Macrocosm$Tokens", "readNumber", "(LMacrocosm$Sheet;I)V"⟩, 4), (⟨"Macrocosm$Tokens", "isAmong", "(Ljava/lang/String;I)Z"⟩, 4), (⟨"Macrocosm$Reader", "startAnew", "()V"⟩, 17), (⟨"Macrocosm$Makings", "addPlainSign", "(CI)V"⟩, 10), (⟨"Macrocosm$Reader", "readStatement", "()V"⟩, 17), (⟨"Macrocosm$Reader", "kind", "()I"⟩, 17), (⟨"Macrocosm$Reader", "accept", "()V"⟩, 17), (⟨"Macrocosm$Reader", "readLetHead", "()V"⟩, 17), (⟨"Macrocosm$Reader", "readMade", "(II)Z"⟩, 17), (⟨"Macrocosm$Reader", "fail", "(II)V"⟩, 17)]
theorem lw_r1 : ∀ q ∈ lw_privs_1, lw_okq q := List.forall_mem_cons.mpr ⟨lw_p0, List.forall_mem_cons.mpr ⟨lw_p1, List.forall_mem_cons.mpr ⟨lw_p2, List.forall_mem_cons.mpr ⟨lw_p3, List.forall_mem_cons.mpr ⟨lw_p4, List.forall_mem_cons.mpr ⟨lw_p5, List.forall_mem_cons.mpr ⟨lw_p6, List.forall_mem_cons.mpr ⟨lw_p7, List.forall_mem_cons.mpr ⟨lw_p8, List.forall_mem_cons.mpr ⟨lw_p9, List.forall_mem_cons.mpr ⟨lw_p10, List.forall_mem_cons.mpr ⟨lw_p11, List.forall_mem_cons.mpr ⟨lw_p12, List.forall_mem_cons.mpr ⟨lw_p13, List.forall_mem_cons.mpr ⟨lw_p14, List.forall_mem_cons.mpr ⟨lw_p15, fun _ h => absurd h List.not_mem_nil⟩⟩⟩⟩⟩⟩⟩⟩⟩⟩⟩⟩⟩⟩⟩⟩
theorem lw_p16 : lw_okq (⟨"Macrocosm$Reader", "key", "()I"⟩, 17) := ⟨⟨by decide +kernel, by decide +kernel⟩, List.mem_of_getElem? (i := 72) (by decide +kernel), List.mem_of_getElem? (i := 691) (by decide +kernel), List.mem_of_getElem? (i := 692) (by decide +kernel)⟩
theorem lw_p17 : lw_okq (⟨"Macrocosm$Reader", "take", "(I)Z"⟩, 17) := ⟨⟨by decide +kernel, by decide +kernel⟩, List.mem_of_getElem? (i := 72) (by decide +kernel), List.mem_of_getElem? (i := 697) (by decide +kernel), List.mem_of_getElem? (i := 698) (by decide +kernel)⟩
theorem lw_p18 : lw_okq (⟨"Macrocosm$Reader", "readSignHead", "()V"⟩, 17) := ⟨⟨by decide +kernel, by decide +kernel⟩, List.mem_of_getElem? (i := 72) (by decide +kernel), List.mem_of_getElem? (i := 701) (by decide +kernel), List.mem_of_getElem? (i := 702) (by decide +kernel)⟩
theorem lw_p19 : lw_okq (⟨"Macrocosm$Reader", "readPrecedence", "()Z"⟩, 17) := ⟨⟨by decide +kernel, by decide +kernel⟩, List.mem_of_getElem? (i := 72) (by decide +kernel), List.mem_of_getElem? (i := 705) (by decide +kernel), List.mem_of_getElem? (i := 706) (by decide +kernel)⟩
theorem lw_p20 : lw_okq (⟨"Macrocosm$Reader", "readSide", "()Z"⟩, 17) := ⟨⟨by decide +kernel, by decide +kernel⟩, List.mem_of_getElem? (i := 72) (by decide +kernel), List.mem_of_getElem? (i := 709) (by decide +kernel), List.mem_of_getElem? (i := 710) (by decide +kernel)⟩
theorem lw_p21 : lw_okq (⟨"Macrocosm$Reader", "readMacroHead", "()V"⟩, 17) := ⟨⟨by decide +kernel, by decide +kernel⟩, List.mem_of_getElem? (i := 72) (by decide +kernel), List.mem_of_getElem? (i := 713) (by decide +kernel), List.mem_of_getElem? (i := 714) (by decide +kernel)⟩
theorem lw_p22 : lw_okq (⟨"Macrocosm$Reader", "readParameters", "()V"⟩, 17) := ⟨⟨by decide +kernel, by decide +kernel⟩, List.mem_of_getElem? (i := 72) (by decide +kernel), List.mem_of_getElem? (i := 717) (by decide +kernel), List.mem_of_getElem? (i := 718) (by decide +kernel)⟩
theorem lw_p23 : lw_okq (⟨"Macrocosm$Reader", "readParameter", "()Z"⟩, 17) := ⟨⟨by decide +kernel, by decide +kernel⟩, List.mem_of_getElem? (i := 72) (by decide +kernel), List.mem_of_getElem? (i := 721) (by decide +kernel), List.mem_of_getElem? (i := 722) (by decide +kernel)⟩
theorem lw_p24 : lw_okq (⟨"Macrocosm$Reader", "beginBody", "()V"⟩, 17) := ⟨⟨by decide +kernel, by decide +kernel⟩, List.mem_of_getElem? (i := 72) (by decide +kernel), List.mem_of_getElem? (i := 734) (by decide +kernel), List.mem_of_getElem? (i := 735) (by decide +kernel)⟩
theorem lw_p25 : lw_okq (⟨"Macrocosm$Reader", "readFirstPart", "()V"⟩, 17) := ⟨⟨by decide +kernel, by decide +kernel⟩, List.mem_of_getElem? (i := 72) (by decide +kernel), List.mem_of_getElem? (i := 739) (by decide +kernel), List.mem_of_getElem? (i := 740) (by decide +kernel)⟩
theorem lw_p26 : lw_okq (⟨"Macrocosm$Reader", "endPart", "(I)V"⟩, 17) := ⟨⟨by decide +kernel, by decide +kernel⟩, List.mem_of_getElem? (i := 72) (by decide +kernel), List.mem_of_getElem? (i := 743) (by decide +kernel), List.mem_of_getElem? (i := 744) (by decide +kernel)⟩
theorem lw_p27 : lw_okq (⟨"Macrocosm$Reader", "readMacroUse", "()V"⟩, 17) := ⟨⟨by decide +kernel, by decide +kernel⟩, List.mem_of_getElem? (i := 72) (by decide +kernel), List.mem_of_getElem? (i := 747) (by decide +kernel), List.mem_of_getElem? (i := 748) (by decide +kernel)⟩
theorem lw_p28 : lw_okq (⟨"Macrocosm$Reader", "readName", "()V"⟩, 17) := ⟨⟨by decide +kernel, by decide +kernel⟩, List.mem_of_getElem? (i := 72) (by decide +kernel), List.mem_of_getElem? (i := 751) (by decide +kernel), List.mem_of_getElem? (i := 752) (by decide +kernel)⟩
theorem lw_p29 : lw_okq (⟨"Macrocosm$Reader", "readSignAhead", "()V"⟩, 17) := ⟨⟨by decide +kernel, by decide +kernel⟩, List.mem_of_getElem? (i := 72) (by decide +kernel), List.mem_of_getElem? (i := 755) (by decide +kernel), List.mem_of_getElem? (i := 756) (by decide +kernel)⟩
theorem lw_p30 : lw_okq (⟨"Macrocosm$Reader", "readCaret", "()V"⟩, 17) := ⟨⟨by decide +kernel, by decide +kernel⟩, List.mem_of_getElem? (i := 72) (by decide +kernel), List.mem_of_getElem? (i := 759) (by decide +kernel), List.mem_of_getElem? (i := 760) (by decide +kernel)⟩
theorem lw_p31 : lw_okq (⟨"Macrocosm$Reader", "readNextSign", "()V"⟩, 17) := ⟨⟨by decide +kernel, by decide +kernel⟩, List.mem_of_getElem? (i := 72) (by decide +kernel), List.mem_of_getElem? (i := 767) (by decide +kernel), List.mem_of_getElem? (i := 768) (by decide +kernel)⟩
def lw_privs_2 : List (MethodName × Nat) := [(⟨"Macrocosm$Reader", "key", "()I"⟩, 17), (⟨"Macrocosm$Reader", "take", "(I)Z"⟩, 17), (⟨"Macrocosm$Reader", "readSignHead", "()V"⟩, 17), (⟨"Macrocosm$Reader", "readPrecedence", "()Z"⟩, 17), (⟨"Macrocosm$Reader", "readSide", "()Z"⟩, 17), (⟨"Macrocosm$Reader", "readMacroHead", "()V"⟩, 17), (⟨"Macrocosm$Reader", "readParameters", "()V"⟩, 17), (⟨"Macrocosm$Reader", "readParameter", "()Z"⟩, 17), (⟨"Macrocosm$Reader", "beginBody", "()V"⟩, 17), (⟨"Macrocosm$Reader", "readFirstPart", "()V"⟩, 17), (⟨"Macrocosm$Reader", "endPart", "(I)V"⟩, 17), (⟨"Macrocosm$Reader", "readMacroUse", "()V"⟩, 17), (⟨"Macrocosm$Reader", "readName", "()V"⟩, 17), (⟨"Macrocosm$Reader", "readSignAhead", "()V"⟩, 17), (⟨"Macrocosm$Reader", "readCaret", "()V"⟩, 17), (⟨"Macrocosm$Reader", "readNextSign", "()V"⟩, 17)]
theorem lw_r2 : ∀ q ∈ lw_privs_2, lw_okq q := List.forall_mem_cons.mpr ⟨lw_p16, List.forall_mem_cons.mpr ⟨lw_p17, List.forall_mem_cons.mpr ⟨lw_p18, List.forall_mem_cons.mpr ⟨lw_p19, List.forall_mem_cons.mpr ⟨lw_p20, List.forall_mem_cons.mpr ⟨lw_p21, List.forall_mem_cons.mpr ⟨lw_p22, List.forall_mem_cons.mpr ⟨lw_p23, List.forall_mem_cons.mpr ⟨lw_p24, List.forall_mem_cons.mpr ⟨lw_p25, List.forall_mem_cons.mpr ⟨lw_p26, List.forall_mem_cons.mpr ⟨lw_p27, List.forall_mem_cons.mpr ⟨lw_p28, List.forall_mem_cons.mpr ⟨lw_p29, List.forall_mem_cons.mpr ⟨lw_p30, List.forall_mem_cons.mpr ⟨lw_p31, fun _ h => absurd h List.not_mem_nil⟩⟩⟩⟩⟩⟩⟩⟩⟩⟩⟩⟩⟩⟩⟩⟩
theorem lw_p32 : lw_okq (⟨"Macrocosm$Reader", "signBetween", "()I"⟩, 17) := ⟨⟨by decide +kernel, by decide +kernel⟩, List.mem_of_getElem? (i := 72) (by decide +kernel), List.mem_of_getElem? (i := 771) (by decide +kernel), List.mem_of_getElem? (i := 772) (by decide +kernel)⟩
theorem lw_p33 : lw_okq (⟨"Macrocosm$Reader", "endExpression", "()V"⟩, 17) := ⟨⟨by decide +kernel, by decide +kernel⟩, List.mem_of_getElem? (i := 72) (by decide +kernel), List.mem_of_getElem? (i := 784) (by decide +kernel), List.mem_of_getElem? (i := 785) (by decide +kernel)⟩
theorem lw_p34 : lw_okq (⟨"Macrocosm$Reader", "endOperation", "()V"⟩, 17) := ⟨⟨by decide +kernel, by decide +kernel⟩, List.mem_of_getElem? (i := 72) (by decide +kernel), List.mem_of_getElem? (i := 792) (by decide +kernel), List.mem_of_getElem? (i := 793) (by decide +kernel)⟩
theorem lw_p35 : lw_okq (⟨"Macrocosm$Reader", "caretsMeanSomething", "()Z"⟩, 17) := ⟨⟨by decide +kernel, by decide +kernel⟩, List.mem_of_getElem? (i := 72) (by decide +kernel), List.mem_of_getElem? (i := 804) (by decide +kernel), List.mem_of_getElem? (i := 805) (by decide +kernel)⟩
theorem lw_p36 : lw_okq (⟨"Macrocosm$Reader", "endNode", "()V"⟩, 17) := ⟨⟨by decide +kernel, by decide +kernel⟩, List.mem_of_getElem? (i := 72) (by decide +kernel), List.mem_of_getElem? (i := 812) (by decide +kernel), List.mem_of_getElem? (i := 813) (by decide +kernel)⟩
theorem lw_p37 : lw_okq (⟨"Macrocosm$Reader", "endMaking", "()V"⟩, 17) := ⟨⟨by decide +kernel, by decide +kernel⟩, List.mem_of_getElem? (i := 72) (by decide +kernel), List.mem_of_getElem? (i := 824) (by decide +kernel), List.mem_of_getElem? (i := 825) (by decide +kernel)⟩
theorem lw_p38 : lw_okq (⟨"Macrocosm$Reader", "readPartEnd", "()V"⟩, 17) := ⟨⟨by decide +kernel, by decide +kernel⟩, List.mem_of_getElem? (i := 72) (by decide +kernel), List.mem_of_getElem? (i := 832) (by decide +kernel), List.mem_of_getElem? (i := 833) (by decide +kernel)⟩
theorem lw_p39 : lw_okq (⟨"Macrocosm$Reader", "readStatementEnd", "()V"⟩, 17) := ⟨⟨by decide +kernel, by decide +kernel⟩, List.mem_of_getElem? (i := 72) (by decide +kernel), List.mem_of_getElem? (i := 840) (by decide +kernel), List.mem_of_getElem? (i := 841) (by decide +kernel)⟩
theorem lw_p40 : lw_okq (⟨"Macrocosm$Expansion", "startAnew", "()V"⟩, 11) := ⟨⟨by decide +kernel, by decide +kernel⟩, List.mem_of_getElem? (i := 295) (by decide +kernel), List.mem_of_getElem? (i := 860) (by decide +kernel), List.mem_of_getElem? (i := 861) (by decide +kernel)⟩
theorem lw_p41 : lw_okq (⟨"Macrocosm$Expansion", "pushResult", "(J)V"⟩, 11) := ⟨⟨by decide +kernel, by decide +kernel⟩, List.mem_of_getElem? (i := 295) (by decide +kernel), List.mem_of_getElem? (i := 873) (by decide +kernel), List.mem_of_getElem? (i := 874) (by decide +kernel)⟩
theorem lw_p42 : lw_okq (⟨"Macrocosm$Expansion", "perform", "(III)V"⟩, 11) := ⟨⟨by decide +kernel, by decide +kernel⟩, List.mem_of_getElem? (i := 295) (by decide +kernel), List.mem_of_getElem? (i := 917) (by decide +kernel), List.mem_of_getElem? (i := 918) (by decide +kernel)⟩
theorem lw_p43 : lw_okq (⟨"Macrocosm$Expansion", "expandStatement", "(III)V"⟩, 11) := ⟨⟨by decide +kernel, by decide +kernel⟩, List.mem_of_getElem? (i := 295) (by decide +kernel), List.mem_of_getElem? (i := 921) (by decide +kernel), List.mem_of_getElem? (i := 922) (by decide +kernel)⟩
theorem lw_p44 : lw_okq (⟨"Macrocosm$Expansion", "popResult", "()J"⟩, 11) := ⟨⟨by decide +kernel, by decide +kernel⟩, List.mem_of_getElem? (i := 295) (by decide +kernel), List.mem_of_getElem? (i := 934) (by decide +kernel), List.mem_of_getElem? (i := 935) (by decide +kernel)⟩
theorem lw_p45 : lw_okq (⟨"Macrocosm$Expansion", "expandLet", "(II)V"⟩, 11) := ⟨⟨by decide +kernel, by decide +kernel⟩, List.mem_of_getElem? (i := 295) (by decide +kernel), List.mem_of_getElem? (i := 938) (by decide +kernel), List.mem_of_getElem? (i := 939) (by decide +kernel)⟩
theorem lw_p46 : lw_okq (⟨"Macrocosm$Expansion", "expandPart", "(II)V"⟩, 11) := ⟨⟨by decide +kernel, by decide +kernel⟩, List.mem_of_getElem? (i := 295) (by decide +kernel), List.mem_of_getElem? (i := 973) (by decide +kernel), List.mem_of_getElem? (i := 974) (by decide +kernel)⟩
theorem lw_p47 : lw_okq (⟨"Macrocosm$Expansion", "expandName", "(I)V"⟩, 11) := ⟨⟨by decide +kernel, by decide +kernel⟩, List.mem_of_getElem? (i := 295) (by decide +kernel), List.mem_of_getElem? (i := 987) (by decide +kernel), List.mem_of_getElem? (i := 988) (by decide +kernel)⟩
def lw_privs_3 : List (MethodName × Nat) := [(⟨"Macrocosm$Reader", "signBetween", "()I"⟩, 17), (⟨"Macrocosm$Reader", "endExpression", "()V"⟩, 17), (⟨"Macrocosm$Reader", "endOperation", "()V"⟩, 17), (⟨"Macrocosm$Reader", "caretsMeanSomething", "()Z"⟩, 17), (⟨"Macrocosm$Reader", "endNode", "()V"⟩, 17), (⟨"Macrocosm$Reader", "endMaking", "()V"⟩, 17), (⟨"Macrocosm$Reader", "readPartEnd", "()V"⟩, 17), (⟨"Macrocosm$Reader", "readStatementEnd", "()V"⟩, 17), (⟨"Macrocosm$Expansion", "startAnew", "()V"⟩, 11), (⟨"Macrocosm$Expansion", "pushResult", "(J)V"⟩, 11), (⟨"Macrocosm$Expansion", "perform", "(III)V"⟩, 11), (⟨"Macrocosm$Expansion", "expandStatement", "(III)V"⟩, 11), (⟨"Macrocosm$Expansion", "popResult", "()J"⟩, 11), (⟨"Macrocosm$Expansion", "expandLet", "(II)V"⟩, 11), (⟨"Macrocosm$Expansion", "expandPart", "(II)V"⟩, 11), (⟨"Macrocosm$Expansion", "expandName", "(I)V"⟩, 11)]
theorem lw_r3 : ∀ q ∈ lw_privs_3, lw_okq q := List.forall_mem_cons.mpr ⟨lw_p32, List.forall_mem_cons.mpr ⟨lw_p33, List.forall_mem_cons.mpr ⟨lw_p34, List.forall_mem_cons.mpr ⟨lw_p35, List.forall_mem_cons.mpr ⟨lw_p36, List.forall_mem_cons.mpr ⟨lw_p37, List.forall_mem_cons.mpr ⟨lw_p38, List.forall_mem_cons.mpr ⟨lw_p39, List.forall_mem_cons.mpr ⟨lw_p40, List.forall_mem_cons.mpr ⟨lw_p41, List.forall_mem_cons.mpr ⟨lw_p42, List.forall_mem_cons.mpr ⟨lw_p43, List.forall_mem_cons.mpr ⟨lw_p44, List.forall_mem_cons.mpr ⟨lw_p45, List.forall_mem_cons.mpr ⟨lw_p46, List.forall_mem_cons.mpr ⟨lw_p47, fun _ h => absurd h List.not_mem_nil⟩⟩⟩⟩⟩⟩⟩⟩⟩⟩⟩⟩⟩⟩⟩⟩
theorem lw_p48 : lw_okq (⟨"Macrocosm$Expansion", "expandPlainSign", "(II)V"⟩, 11) := ⟨⟨by decide +kernel, by decide +kernel⟩, List.mem_of_getElem? (i := 295) (by decide +kernel), List.mem_of_getElem? (i := 995) (by decide +kernel), List.mem_of_getElem? (i := 996) (by decide +kernel)⟩
theorem lw_p49 : lw_okq (⟨"Macrocosm$Expansion", "expandUse", "(II)V"⟩, 11) := ⟨⟨by decide +kernel, by decide +kernel⟩, List.mem_of_getElem? (i := 295) (by decide +kernel), List.mem_of_getElem? (i := 999) (by decide +kernel), List.mem_of_getElem? (i := 1000) (by decide +kernel)⟩
theorem lw_p50 : lw_okq (⟨"Macrocosm$Expansion", "expandBlock", "(II)V"⟩, 11) := ⟨⟨by decide +kernel, by decide +kernel⟩, List.mem_of_getElem? (i := 295) (by decide +kernel), List.mem_of_getElem? (i := 1003) (by decide +kernel), List.mem_of_getElem? (i := 1004) (by decide +kernel)⟩
theorem lw_p51 : lw_okq (⟨"Macrocosm$Expansion", "applySign", "(I)V"⟩, 11) := ⟨⟨by decide +kernel, by decide +kernel⟩, List.mem_of_getElem? (i := 295) (by decide +kernel), List.mem_of_getElem? (i := 1007) (by decide +kernel), List.mem_of_getElem? (i := 1008) (by decide +kernel)⟩
theorem lw_p52 : lw_okq (⟨"Macrocosm$Expansion", "storeLet", "(I)V"⟩, 11) := ⟨⟨by decide +kernel, by decide +kernel⟩, List.mem_of_getElem? (i := 295) (by decide +kernel), List.mem_of_getElem? (i := 1011) (by decide +kernel), List.mem_of_getElem? (i := 1012) (by decide +kernel)⟩
theorem lw_p53 : lw_okq (⟨"Macrocosm", "insertSafely", "(IC)I"⟩, 11) := ⟨⟨by decide +kernel, by decide +kernel⟩, List.mem_of_getElem? (i := 39) (by decide +kernel), List.mem_of_getElem? (i := 1037) (by decide +kernel), List.mem_of_getElem? (i := 1038) (by decide +kernel)⟩
theorem lw_p54 : lw_okq (⟨"java/lang/Throwable", "fillInStackTrace", "(I)Ljava/lang/Throwable;"⟩, 6) := ⟨⟨by decide +kernel, by decide +kernel⟩, List.mem_of_getElem? (i := 1079) (by decide +kernel), List.mem_of_getElem? (i := 1077) (by decide +kernel), List.mem_of_getElem? (i := 1078) (by decide +kernel)⟩
theorem lw_p55 : lw_okq (⟨"Macrocosm$Sheet", "put", "(IC)V"⟩, 2) := ⟨⟨by decide +kernel, by decide +kernel⟩, List.mem_of_getElem? (i := 47) (by decide +kernel), List.mem_of_getElem? (i := 1113) (by decide +kernel), List.mem_of_getElem? (i := 1114) (by decide +kernel)⟩
theorem lw_p56 : lw_okq (⟨"Macrocosm$Reader", "standsBehindCaret", "(I)Z"⟩, 17) := ⟨⟨by decide +kernel, by decide +kernel⟩, List.mem_of_getElem? (i := 72) (by decide +kernel), List.mem_of_getElem? (i := 1271) (by decide +kernel), List.mem_of_getElem? (i := 1272) (by decide +kernel)⟩
theorem lw_p57 : lw_okq (⟨"Macrocosm", "rememberMeanings", "()V"⟩, 11) := ⟨⟨by decide +kernel, by decide +kernel⟩, List.mem_of_getElem? (i := 39) (by decide +kernel), List.mem_of_getElem? (i := 1275) (by decide +kernel), List.mem_of_getElem? (i := 1276) (by decide +kernel)⟩
theorem lw_p58 : lw_okq (⟨"Macrocosm", "writeLetter", "(IC)V"⟩, 11) := ⟨⟨by decide +kernel, by decide +kernel⟩, List.mem_of_getElem? (i := 39) (by decide +kernel), List.mem_of_getElem? (i := 1284) (by decide +kernel), List.mem_of_getElem? (i := 1285) (by decide +kernel)⟩
theorem lw_p59 : lw_okq (⟨"Macrocosm", "meansAsBefore", "()Z"⟩, 11) := ⟨⟨by decide +kernel, by decide +kernel⟩, List.mem_of_getElem? (i := 39) (by decide +kernel), List.mem_of_getElem? (i := 1294) (by decide +kernel), List.mem_of_getElem? (i := 1295) (by decide +kernel)⟩
theorem lw_p60 : lw_okq (⟨"MacrocosmModel", "isFine", "(I)Z"⟩, 4) := ⟨⟨by decide +kernel, by decide +kernel⟩, List.mem_of_getElem? (i := 1315) (by decide +kernel), List.mem_of_getElem? (i := 1342) (by decide +kernel), List.mem_of_getElem? (i := 1343) (by decide +kernel)⟩
theorem lw_p61 : lw_okq (⟨"MacrocosmModel", "read", "()LMacrocosmModel$Reading;"⟩, 4) := ⟨⟨by decide +kernel, by decide +kernel⟩, List.mem_of_getElem? (i := 1315) (by decide +kernel), List.mem_of_getElem? (i := 1373) (by decide +kernel), List.mem_of_getElem? (i := 1374) (by decide +kernel)⟩
theorem lw_p62 : lw_okq (⟨"MacrocosmModel$Reading", "takesTokens", "()V"⟩, 20) := ⟨⟨by decide +kernel, by decide +kernel⟩, List.mem_of_getElem? (i := 1377) (by decide +kernel), List.mem_of_getElem? (i := 1414) (by decide +kernel), List.mem_of_getElem? (i := 1415) (by decide +kernel)⟩
theorem lw_p63 : lw_okq (⟨"MacrocosmModel$Reading", "token", "(IIJ)V"⟩, 20) := ⟨⟨by decide +kernel, by decide +kernel⟩, List.mem_of_getElem? (i := 1377) (by decide +kernel), List.mem_of_getElem? (i := 1418) (by decide +kernel), List.mem_of_getElem? (i := 1419) (by decide +kernel)⟩
def lw_privs_4 : List (MethodName × Nat) := [(⟨"Macrocosm$Expansion", "expandPlainSign", "(II)V"⟩, 11), (⟨"Macrocosm$Expansion", "expandUse", "(II)V"⟩, 11), (⟨"Macrocosm$Expansion", "expandBlock", "(II)V"⟩, 11), (⟨"Macrocosm$Expansion", "applySign", "(I)V"⟩, 11), (⟨"Macrocosm$Expansion", "storeLet", "(I)V"⟩, 11), (⟨"Macrocosm", "insertSafely", "(IC)I"⟩, 11), (⟨"java/lang/Throwable", "fillInStackTrace", "(I)Ljava/lang/Throwable;"⟩, 6), (⟨"Macrocosm$Sheet", "put", "(IC)V"⟩, 2), (⟨"Macrocosm$Reader", "standsBehindCaret", "(I)Z"⟩, 17), (⟨"Macrocosm", "rememberMeanings", "()V"⟩, 11), (⟨"Macrocosm", "writeLetter", "(IC)V"⟩, 11), (⟨"Macrocosm", "meansAsBefore", "()Z"⟩, 11), (⟨"MacrocosmModel", "isFine", "(I)Z"⟩, 4), (⟨"MacrocosmModel", "read", "()LMacrocosmModel$Reading;"⟩, 4), (⟨"MacrocosmModel$Reading", "takesTokens", "()V"⟩, 20), (⟨"MacrocosmModel$Reading", "token", "(IIJ)V"⟩, 20)]
theorem lw_r4 : ∀ q ∈ lw_privs_4, lw_okq q := List.forall_mem_cons.mpr ⟨lw_p48, List.forall_mem_cons.mpr ⟨lw_p49, List.forall_mem_cons.mpr ⟨lw_p50, List.forall_mem_cons.mpr ⟨lw_p51, List.forall_mem_cons.mpr ⟨lw_p52, List.forall_mem_cons.mpr ⟨lw_p53, List.forall_mem_cons.mpr ⟨lw_p54, List.forall_mem_cons.mpr ⟨lw_p55, List.forall_mem_cons.mpr ⟨lw_p56, List.forall_mem_cons.mpr ⟨lw_p57, List.forall_mem_cons.mpr ⟨lw_p58, List.forall_mem_cons.mpr ⟨lw_p59, List.forall_mem_cons.mpr ⟨lw_p60, List.forall_mem_cons.mpr ⟨lw_p61, List.forall_mem_cons.mpr ⟨lw_p62, List.forall_mem_cons.mpr ⟨lw_p63, fun _ h => absurd h List.not_mem_nil⟩⟩⟩⟩⟩⟩⟩⟩⟩⟩⟩⟩⟩⟩⟩⟩
theorem lw_p64 : lw_okq (⟨"MacrocosmModel$Reading", "statements", "(I)LMacrocosmModel$Node;"⟩, 20) := ⟨⟨by decide +kernel, by decide +kernel⟩, List.mem_of_getElem? (i := 1377) (by decide +kernel), List.mem_of_getElem? (i := 1447) (by decide +kernel), List.mem_of_getElem? (i := 1448) (by decide +kernel)⟩
theorem lw_p65 : lw_okq (⟨"MacrocosmModel$Reading", "isMarkHere", "(I)Z"⟩, 20) := ⟨⟨by decide +kernel, by decide +kernel⟩, List.mem_of_getElem? (i := 1377) (by decide +kernel), List.mem_of_getElem? (i := 1451) (by decide +kernel), List.mem_of_getElem? (i := 1452) (by decide +kernel)⟩
theorem lw_p66 : lw_okq (⟨"MacrocosmModel$Reading", "statement", "(LMacrocosmModel$Scope;)LMacrocosmModel$Node;"⟩, 20) := ⟨⟨by decide +kernel, by decide +kernel⟩, List.mem_of_getElem? (i := 1377) (by decide +kernel), List.mem_of_getElem? (i := 1455) (by decide +kernel), List.mem_of_getElem? (i := 1456) (by decide +kernel)⟩
theorem lw_p67 : lw_okq (⟨"MacrocosmModel$Reading", "let", "(LMacrocosmModel$Scope;)LMacrocosmModel$Node;"⟩, 20) := ⟨⟨by decide +kernel, by decide +kernel⟩, List.mem_of_getElem? (i := 1377) (by decide +kernel), List.mem_of_getElem? (i := 1459) (by decide +kernel), List.mem_of_getElem? (i := 1460) (by decide +kernel)⟩
theorem lw_p68 : lw_okq (⟨"MacrocosmModel$Reading", "takes", "(I)V"⟩, 20) := ⟨⟨by decide +kernel, by decide +kernel⟩, List.mem_of_getElem? (i := 1377) (by decide +kernel), List.mem_of_getElem? (i := 1463) (by decide +kernel), List.mem_of_getElem? (i := 1464) (by decide +kernel)⟩
theorem lw_p69 : lw_okq (⟨"MacrocosmModel$Reading", "makes", "(LMacrocosmModel$Scope;I)LMacrocosmModel$Made;"⟩, 20) := ⟨⟨by decide +kernel, by decide +kernel⟩, List.mem_of_getElem? (i := 1377) (by decide +kernel), List.mem_of_getElem? (i := 1499) (by decide +kernel), List.mem_of_getElem? (i := 1500) (by decide +kernel)⟩
theorem lw_p70 : lw_okq (⟨"MacrocosmModel$Reading", "faultHere", "()V"⟩, 20) := ⟨⟨by decide +kernel, by decide +kernel⟩, List.mem_of_getElem? (i := 1377) (by decide +kernel), List.mem_of_getElem? (i := 1503) (by decide +kernel), List.mem_of_getElem? (i := 1504) (by decide +kernel)⟩
theorem lw_p71 : lw_okq (⟨"MacrocosmModel$Reading", "faults", "(II)V"⟩, 20) := ⟨⟨by decide +kernel, by decide +kernel⟩, List.mem_of_getElem? (i := 1377) (by decide +kernel), List.mem_of_getElem? (i := 1507) (by decide +kernel), List.mem_of_getElem? (i := 1508) (by decide +kernel)⟩
theorem lw_p72 : lw_okq (⟨"MacrocosmModel$Reading", "isTwice", "(LMacrocosmModel$Scope;IJ)Z"⟩, 20) := ⟨⟨by decide +kernel, by decide +kernel⟩, List.mem_of_getElem? (i := 1377) (by decide +kernel), List.mem_of_getElem? (i := 1511) (by decide +kernel), List.mem_of_getElem? (i := 1512) (by decide +kernel)⟩
theorem lw_p73 : lw_okq (⟨"MacrocosmModel$Reading", "wants", "(I)V"⟩, 20) := ⟨⟨by decide +kernel, by decide +kernel⟩, List.mem_of_getElem? (i := 1377) (by decide +kernel), List.mem_of_getElem? (i := 1562) (by decide +kernel), List.mem_of_getElem? (i := 1563) (by decide +kernel)⟩
theorem lw_p74 : lw_okq (⟨"MacrocosmModel$Reading", "expression", "(I)LMacrocosmModel$Node;"⟩, 20) := ⟨⟨by decide +kernel, by decide +kernel⟩, List.mem_of_getElem? (i := 1377) (by decide +kernel), List.mem_of_getElem? (i := 1566) (by decide +kernel), List.mem_of_getElem? (i := 1567) (by decide +kernel)⟩
theorem lw_p75 : lw_okq (⟨"MacrocosmModel$Reading", "first", "()LMacrocosmModel$Node;"⟩, 20) := ⟨⟨by decide +kernel, by decide +kernel⟩, List.mem_of_getElem? (i := 1377) (by decide +kernel), List.mem_of_getElem? (i := 1570) (by decide +kernel), List.mem_of_getElem? (i := 1571) (by decide +kernel)⟩
theorem lw_p76 : lw_okq (⟨"MacrocosmModel$Reading", "use", "()LMacrocosmModel$Node;"⟩, 20) := ⟨⟨by decide +kernel, by decide +kernel⟩, List.mem_of_getElem? (i := 1377) (by decide +kernel), List.mem_of_getElem? (i := 1575) (by decide +kernel), List.mem_of_getElem? (i := 1576) (by decide +kernel)⟩
theorem lw_p77 : lw_okq (⟨"MacrocosmModel$Reading", "found", "(IJ)LMacrocosmModel$Made;"⟩, 20) := ⟨⟨by decide +kernel, by decide +kernel⟩, List.mem_of_getElem? (i := 1377) (by decide +kernel), List.mem_of_getElem? (i := 1579) (by decide +kernel), List.mem_of_getElem? (i := 1580) (by decide +kernel)⟩
theorem lw_p78 : lw_okq (⟨"MacrocosmModel$Reading", "meets", "(LMacrocosmModel$Node;I)V"⟩, 20) := ⟨⟨by decide +kernel, by decide +kernel⟩, List.mem_of_getElem? (i := 1377) (by decide +kernel), List.mem_of_getElem? (i := 1583) (by decide +kernel), List.mem_of_getElem? (i := 1584) (by decide +kernel)⟩
theorem lw_p79 : lw_okq (⟨"MacrocosmModel$Reading", "foundOutside", "(J)LMacrocosmModel$Made;"⟩, 20) := ⟨⟨by decide +kernel, by decide +kernel⟩, List.mem_of_getElem? (i := 1377) (by decide +kernel), List.mem_of_getElem? (i := 1587) (by decide +kernel), List.mem_of_getElem? (i := 1588) (by decide +kernel)⟩
def lw_privs_5 : List (MethodName × Nat) := [(⟨"MacrocosmModel$Reading", "statements", "(I)LMacrocosmModel$Node;"⟩, 20), (⟨"MacrocosmModel$Reading", "isMarkHere", "(I)Z"⟩, 20), (⟨"MacrocosmModel$Reading", "statement", "(LMacrocosmModel$Scope;)LMacrocosmModel$Node;"⟩, 20), (⟨"MacrocosmModel$Reading", "let", "(LMacrocosmModel$Scope;)LMacrocosmModel$Node;"⟩, 20), (⟨"MacrocosmModel$Reading", "takes", "(I)V"⟩, 20), (⟨"MacrocosmModel$Reading", "makes", "(LMacrocosmModel$Scope;I)LMacrocosmModel$Made;"⟩, 20), (⟨"MacrocosmModel$Reading", "faultHere", "()V"⟩, 20), (⟨"MacrocosmModel$Reading", "faults", "(II)V"⟩, 20), (⟨"MacrocosmModel$Reading", "isTwice", "(LMacrocosmModel$Scope;IJ)Z"⟩, 20), (⟨"MacrocosmModel$Reading", "wants", "(I)V"⟩, 20), (⟨"MacrocosmModel$Reading", "expression", "(I)LMacrocosmModel$Node;"⟩, 20), (⟨"MacrocosmModel$Reading", "first", "()LMacrocosmModel$Node;"⟩, 20), (⟨"MacrocosmModel$Reading", "use", "()LMacrocosmModel$Node;"⟩, 20), (⟨"MacrocosmModel$Reading", "found", "(IJ)LMacrocosmModel$Made;"⟩, 20), (⟨"MacrocosmModel$Reading", "meets", "(LMacrocosmModel$Node;I)V"⟩, 20), (⟨"MacrocosmModel$Reading", "foundOutside", "(J)LMacrocosmModel$Made;"⟩, 20)]
theorem lw_r5 : ∀ q ∈ lw_privs_5, lw_okq q := List.forall_mem_cons.mpr ⟨lw_p64, List.forall_mem_cons.mpr ⟨lw_p65, List.forall_mem_cons.mpr ⟨lw_p66, List.forall_mem_cons.mpr ⟨lw_p67, List.forall_mem_cons.mpr ⟨lw_p68, List.forall_mem_cons.mpr ⟨lw_p69, List.forall_mem_cons.mpr ⟨lw_p70, List.forall_mem_cons.mpr ⟨lw_p71, List.forall_mem_cons.mpr ⟨lw_p72, List.forall_mem_cons.mpr ⟨lw_p73, List.forall_mem_cons.mpr ⟨lw_p74, List.forall_mem_cons.mpr ⟨lw_p75, List.forall_mem_cons.mpr ⟨lw_p76, List.forall_mem_cons.mpr ⟨lw_p77, List.forall_mem_cons.mpr ⟨lw_p78, List.forall_mem_cons.mpr ⟨lw_p79, fun _ h => absurd h List.not_mem_nil⟩⟩⟩⟩⟩⟩⟩⟩⟩⟩⟩⟩⟩⟩⟩⟩
theorem lw_p80 : lw_okq (⟨"MacrocosmModel$Reading", "name", "()LMacrocosmModel$Node;"⟩, 20) := ⟨⟨by decide +kernel, by decide +kernel⟩, List.mem_of_getElem? (i := 1377) (by decide +kernel), List.mem_of_getElem? (i := 1591) (by decide +kernel), List.mem_of_getElem? (i := 1592) (by decide +kernel)⟩
theorem lw_p81 : lw_okq (⟨"MacrocosmModel$Reading", "ahead", "()LMacrocosmModel$Node;"⟩, 20) := ⟨⟨by decide +kernel, by decide +kernel⟩, List.mem_of_getElem? (i := 1377) (by decide +kernel), List.mem_of_getElem? (i := 1595) (by decide +kernel), List.mem_of_getElem? (i := 1596) (by decide +kernel)⟩
theorem lw_p82 : lw_okq (⟨"MacrocosmModel$Reading", "block", "()LMacrocosmModel$Node;"⟩, 20) := ⟨⟨by decide +kernel, by decide +kernel⟩, List.mem_of_getElem? (i := 1377) (by decide +kernel), List.mem_of_getElem? (i := 1599) (by decide +kernel), List.mem_of_getElem? (i := 1600) (by decide +kernel)⟩
theorem lw_p83 : lw_okq (⟨"MacrocosmModel$Reading", "outside", "()LMacrocosmModel$Node;"⟩, 20) := ⟨⟨by decide +kernel, by decide +kernel⟩, List.mem_of_getElem? (i := 1377) (by decide +kernel), List.mem_of_getElem? (i := 1603) (by decide +kernel), List.mem_of_getElem? (i := 1604) (by decide +kernel)⟩
theorem lw_p84 : lw_okq (⟨"MacrocosmModel$Reading", "precedenceHere", "()I"⟩, 20) := ⟨⟨by decide +kernel, by decide +kernel⟩, List.mem_of_getElem? (i := 1377) (by decide +kernel), List.mem_of_getElem? (i := 1607) (by decide +kernel), List.mem_of_getElem? (i := 1608) (by decide +kernel)⟩
theorem lw_p85 : lw_okq (⟨"MacrocosmModel$Reading", "operator", "(LMacrocosmModel$Scope;I)LMacrocosmModel$Node;"⟩, 20) := ⟨⟨by decide +kernel, by decide +kernel⟩, List.mem_of_getElem? (i := 1377) (by decide +kernel), List.mem_of_getElem? (i := 1631) (by decide +kernel), List.mem_of_getElem? (i := 1632) (by decide +kernel)⟩
theorem lw_p86 : lw_okq (⟨"MacrocosmModel$Reading", "parameter", "(LMacrocosmModel$Made;)V"⟩, 20) := ⟨⟨by decide +kernel, by decide +kernel⟩, List.mem_of_getElem? (i := 1377) (by decide +kernel), List.mem_of_getElem? (i := 1636) (by decide +kernel), List.mem_of_getElem? (i := 1637) (by decide +kernel)⟩
theorem lw_p87 : lw_okq (⟨"MacrocosmModel$Reading", "body", "(LMacrocosmModel$Made;)LMacrocosmModel$Node;"⟩, 20) := ⟨⟨by decide +kernel, by decide +kernel⟩, List.mem_of_getElem? (i := 1377) (by decide +kernel), List.mem_of_getElem? (i := 1640) (by decide +kernel), List.mem_of_getElem? (i := 1641) (by decide +kernel)⟩
theorem lw_p88 : lw_okq (⟨"MacrocosmModel$Reading", "macro", "(LMacrocosmModel$Scope;)LMacrocosmModel$Node;"⟩, 20) := ⟨⟨by decide +kernel, by decide +kernel⟩, List.mem_of_getElem? (i := 1377) (by decide +kernel), List.mem_of_getElem? (i := 1644) (by decide +kernel), List.mem_of_getElem? (i := 1645) (by decide +kernel)⟩
theorem lw_p89 : lw_okq (⟨"MacrocosmModel$Reading", "tellsAll", "(LMacrocosmModel$Node;LMacrocosmModel$Bound;)J"⟩, 20) := ⟨⟨by decide +kernel, by decide +kernel⟩, List.mem_of_getElem? (i := 1377) (by decide +kernel), List.mem_of_getElem? (i := 1648) (by decide +kernel), List.mem_of_getElem? (i := 1649) (by decide +kernel)⟩
theorem lw_p90 : lw_okq (⟨"MacrocosmModel$Reading", "isTooGreat", "()Z"⟩, 20) := ⟨⟨by decide +kernel, by decide +kernel⟩, List.mem_of_getElem? (i := 1377) (by decide +kernel), List.mem_of_getElem? (i := 1652) (by decide +kernel), List.mem_of_getElem? (i := 1653) (by decide +kernel)⟩
theorem lw_p91 : lw_okq (⟨"MacrocosmModel$Reading", "tells", "(LMacrocosmModel$Node;LMacrocosmModel$Bound;)J"⟩, 20) := ⟨⟨by decide +kernel, by decide +kernel⟩, List.mem_of_getElem? (i := 1377) (by decide +kernel), List.mem_of_getElem? (i := 1758) (by decide +kernel), List.mem_of_getElem? (i := 1759) (by decide +kernel)⟩
theorem lw_p92 : lw_okq (⟨"MacrocosmModel$Reading", "counts", "()Z"⟩, 20) := ⟨⟨by decide +kernel, by decide +kernel⟩, List.mem_of_getElem? (i := 1377) (by decide +kernel), List.mem_of_getElem? (i := 1762) (by decide +kernel), List.mem_of_getElem? (i := 1763) (by decide +kernel)⟩
theorem lw_p93 : lw_okq (⟨"MacrocosmModel$Reading", "tellsLet", "(LMacrocosmModel$Made;LMacrocosmModel$Bound;)J"⟩, 20) := ⟨⟨by decide +kernel, by decide +kernel⟩, List.mem_of_getElem? (i := 1377) (by decide +kernel), List.mem_of_getElem? (i := 1797) (by decide +kernel), List.mem_of_getElem? (i := 1798) (by decide +kernel)⟩
theorem lw_p94 : lw_okq (⟨"MacrocosmModel$Reading", "tellsName", "(I)V"⟩, 20) := ⟨⟨by decide +kernel, by decide +kernel⟩, List.mem_of_getElem? (i := 1377) (by decide +kernel), List.mem_of_getElem? (i := 1804) (by decide +kernel), List.mem_of_getElem? (i := 1805) (by decide +kernel)⟩
theorem lw_p95 : lw_okq (⟨"MacrocosmModel$Reading", "tellsSum", "(LMacrocosmModel$Node;LMacrocosmModel$Bound;)J"⟩, 20) := ⟨⟨by decide +kernel, by decide +kernel⟩, List.mem_of_getElem? (i := 1377) (by decide +kernel), List.mem_of_getElem? (i := 1808) (by decide +kernel), List.mem_of_getElem? (i := 1809) (by decide +kernel)⟩
def lw_privs_6 : List (MethodName × Nat) := [(⟨"MacrocosmModel$Reading", "name", "()LMacrocosmModel$Node;"⟩, 20), (⟨"MacrocosmModel$Reading", "ahead", "()LMacrocosmModel$Node;"⟩, 20), (⟨"MacrocosmModel$Reading", "block", "()LMacrocosmModel$Node;"⟩, 20), (⟨"MacrocosmModel$Reading", "outside", "()LMacrocosmModel$Node;"⟩, 20), (⟨"MacrocosmModel$Reading", "precedenceHere", "()I"⟩, 20), (⟨"MacrocosmModel$Reading", "operator", "(LMacrocosmModel$Scope;I)LMacrocosmModel$Node;"⟩, 20), (⟨"MacrocosmModel$Reading", "parameter", "(LMacrocosmModel$Made;)V"⟩, 20), (⟨"MacrocosmModel$Reading", "body", "(LMacrocosmModel$Made;)LMacrocosmModel$Node;"⟩, 20), (⟨"MacrocosmModel$Reading", "macro", "(LMacrocosmModel$Scope;)LMacrocosmModel$Node;"⟩, 20), (⟨"MacrocosmModel$Reading", "tellsAll", "(LMacrocosmModel$Node;LMacrocosmModel$Bound;)J"⟩, 20), (⟨"MacrocosmModel$Reading", "isTooGreat", "()Z"⟩, 20), (⟨"MacrocosmModel$Reading", "tells", "(LMacrocosmModel$Node;LMacrocosmModel$Bound;)J"⟩, 20), (⟨"MacrocosmModel$Reading", "counts", "()Z"⟩, 20), (⟨"MacrocosmModel$Reading", "tellsLet", "(LMacrocosmModel$Made;LMacrocosmModel$Bound;)J"⟩, 20), (⟨"MacrocosmModel$Reading", "tellsName", "(I)V"⟩, 20), (⟨"MacrocosmModel$Reading", "tellsSum", "(LMacrocosmModel$Node;LMacrocosmModel$Bound;)J"⟩, 20)]
theorem lw_r6 : ∀ q ∈ lw_privs_6, lw_okq q := List.forall_mem_cons.mpr ⟨lw_p80, List.forall_mem_cons.mpr ⟨lw_p81, List.forall_mem_cons.mpr ⟨lw_p82, List.forall_mem_cons.mpr ⟨lw_p83, List.forall_mem_cons.mpr ⟨lw_p84, List.forall_mem_cons.mpr ⟨lw_p85, List.forall_mem_cons.mpr ⟨lw_p86, List.forall_mem_cons.mpr ⟨lw_p87, List.forall_mem_cons.mpr ⟨lw_p88, List.forall_mem_cons.mpr ⟨lw_p89, List.forall_mem_cons.mpr ⟨lw_p90, List.forall_mem_cons.mpr ⟨lw_p91, List.forall_mem_cons.mpr ⟨lw_p92, List.forall_mem_cons.mpr ⟨lw_p93, List.forall_mem_cons.mpr ⟨lw_p94, List.forall_mem_cons.mpr ⟨lw_p95, fun _ h => absurd h List.not_mem_nil⟩⟩⟩⟩⟩⟩⟩⟩⟩⟩⟩⟩⟩⟩⟩⟩
theorem lw_p96 : lw_okq (⟨"MacrocosmModel$Reading", "tellsUse", "(LMacrocosmModel$Node;LMacrocosmModel$Bound;)J"⟩, 20) := ⟨⟨by decide +kernel, by decide +kernel⟩, List.mem_of_getElem? (i := 1377) (by decide +kernel), List.mem_of_getElem? (i := 1812) (by decide +kernel), List.mem_of_getElem? (i := 1813) (by decide +kernel)⟩
theorem lw_p97 : lw_okq (⟨"MacrocosmModel", "isRead", "()Z"⟩, 4) := ⟨⟨by decide +kernel, by decide +kernel⟩, List.mem_of_getElem? (i := 1315) (by decide +kernel), List.mem_of_getElem? (i := 1926) (by decide +kernel), List.mem_of_getElem? (i := 1927) (by decide +kernel)⟩
theorem lw_p98 : lw_okq (⟨"MacrocosmModel", "meaningAt", "(I)I"⟩, 4) := ⟨⟨by decide +kernel, by decide +kernel⟩, List.mem_of_getElem? (i := 1315) (by decide +kernel), List.mem_of_getElem? (i := 1971) (by decide +kernel), List.mem_of_getElem? (i := 1972) (by decide +kernel)⟩
theorem lw_p99 : lw_okq (⟨"MacrocosmModel", "isOutside", "(J)Z"⟩, 4) := ⟨⟨by decide +kernel, by decide +kernel⟩, List.mem_of_getElem? (i := 1315) (by decide +kernel), List.mem_of_getElem? (i := 1991) (by decide +kernel), List.mem_of_getElem? (i := 1992) (by decide +kernel)⟩
def lw_privs_7 : List (MethodName × Nat) := [(⟨"MacrocosmModel$Reading", "tellsUse", "(LMacrocosmModel$Node;LMacrocosmModel$Bound;)J"⟩, 20), (⟨"MacrocosmModel", "isRead", "()Z"⟩, 4), (⟨"MacrocosmModel", "meaningAt", "(I)I"⟩, 4), (⟨"MacrocosmModel", "isOutside", "(J)Z"⟩, 4)]
theorem lw_r7 : ∀ q ∈ lw_privs_7, lw_okq q := List.forall_mem_cons.mpr ⟨lw_p96, List.forall_mem_cons.mpr ⟨lw_p97, List.forall_mem_cons.mpr ⟨lw_p98, List.forall_mem_cons.mpr ⟨lw_p99, fun _ h => absurd h List.not_mem_nil⟩⟩⟩⟩
def lw_privs : List (MethodName × Nat) := lw_privs_1 ++ (lw_privs_2 ++ (lw_privs_3 ++ (lw_privs_4 ++ (lw_privs_5 ++ (lw_privs_6 ++ (lw_privs_7))))))
def lw_tbl : List Cond := k2_sels lw_privs ++ tables_1
theorem lw_privs_ok : ∀ q ∈ lw_privs, lw_okq q := by
  show ∀ q ∈ lw_privs_1 ++ (lw_privs_2 ++ (lw_privs_3 ++ (lw_privs_4 ++ (lw_privs_5 ++ (lw_privs_6 ++ (lw_privs_7)))))), lw_okq q
  exact List.forall_mem_append.mpr ⟨lw_r1, List.forall_mem_append.mpr ⟨lw_r2, List.forall_mem_append.mpr ⟨lw_r3, List.forall_mem_append.mpr ⟨lw_r4, List.forall_mem_append.mpr ⟨lw_r5, List.forall_mem_append.mpr ⟨lw_r6, lw_r7⟩⟩⟩⟩⟩⟩
/-! ===== BEGIN words of one list among another's, by their places ===== -/
theorem goodIn_r {big : List Cond} (ws : List Cond) (ps : List Nat) (hp : ws = ps.filterMap (fun i => big[i]?)) (h : ws.all goodWord = true) : GoodIn big ws := by
  intro w hw
  have h1 := List.all_eq_true.mp h w hw
  rw [hp] at hw
  obtain ⟨i, -, hi⟩ := List.mem_filterMap.mp hw
  have hm : w ∈ big := by first | exact List.mem_of_getElem? hi | exact List.getElem?_mem hi
  exact ⟨hm, good_of_word h1⟩
theorem goodIn_app {big a b : List Cond} (ha : GoodIn big a) (hb : GoodIn big b) : GoodIn big (a ++ b) := fun w h => (List.mem_append.mp h).elim (ha w) (hb w)
theorem goodIn_ca {big a b : List Cond} {c : Cond} (ha : GoodIn big (c :: a)) (hb : GoodIn big b) : GoodIn big (c :: (a ++ b)) := fun w h => (List.mem_cons.mp h).elim (fun e => ha w (List.mem_cons.mpr (Or.inl e))) (fun h => (List.mem_append.mp h).elim (fun h => ha w (List.mem_cons.mpr (Or.inr h))) (hb w))
theorem goodIn_sub {big ws : List Cond} (hm : ∀ w ∈ ws, w ∈ big) (h : ws.all goodWord = true) : GoodIn big ws := fun w hw => ⟨hm w hw, good_of_word (List.all_eq_true.mp h w hw)⟩
/-! ===== END ===== -/
/-! ===== BEGIN exceptions that leave a method, and their catching by the caller (launches without stack traces) ===== -/
section VXA
/-! The laws vx_back, vx_callV, vx_callS, vx_callSW, vx_throw0, vx_throwS follow proofs of the library, with one case more: JvmDerived/Free/Laws.lean (Back.of_free), Shelf42/LK1.lean (callV, callS), Shelf/KitTraced.lean (throwNew0V, throwNewS). -/
/-- where a method has thrown q: the class by its name, the cell, what was written, the world -/
def vx_T (XC : String → State → State → Prop) (st : State) (q : Addr) (t : State) (mc ms : Nat) (free : Addr → Prop) : Prop :=
  ∃ (E : String) (ce : Cell) (L : List Loc), XC E st t ∧ t.heap[q]? = some ce ∧ ce.vm = .none ∧ st.vm.findClass E = some ce.cls ∧ st.WarmedH t.vm ∧ st.sameButNew ({ t with vm := st.vm } : State) L mc ms ∧ ∀ z ∈ L, free z.base
def vx_Q (Qc : Array Value → State → Outcome → State → Prop) (XC : String → State → State → Prop) (mc ms : Nat) (free : Addr → Prop) : Array Value → State → Outcome → State → Prop := fun a st o t =>
  (Qc a st o t ∧ ∃ L, FrameEnd st o t L mc ms ∧ ∀ q ∈ L, free q.base) ∨ ∃ q, o = .threw q ∧ vx_T XC st q t mc ms free
/-- a callee that returns or throws -/
def vx_Met (l : Launch) (y : MethodName) (ws : List Cond) (rm : Room) (Pc : Array Value → State → Prop) (Qc : Array Value → State → Outcome → State → Prop) (XC : String → State → State → Prop) (mc ms : Nat) (free : Addr → Prop) : Prop :=
  MetFree l y (headSpec ws rm) Pc (fun _ _ _ _ _ => True) (vx_Q Qc XC mc ms free)
def vx_Post (XC : String → State → State → Prop) (mc ms : Nat) (free : Addr → Prop) : Pt → Array Value → Addr → Pt → Prop := fun A a q B =>
  ∃ (g : JFrame) (mk : MethodId) (t : State) (L : List Loc) (E : String) (ce : Cell), B.U.heap = t.heap ∧ B.U.vm = t.vm ∧ XC E (A.U.calling g mk a) t ∧ t.heap[q]? = some ce ∧ ce.vm = .none ∧ A.U.vm.findClass E = some ce.cls ∧ B.locs = A.locs ++ L ∧ (∀ z ∈ L, free z.base) ∧ B.cells = A.cells + mc ∧ B.slots = A.slots + ms
def vx_Back (l : Launch) (R : Room) (p : Program) (e : Env) (below : List Frame) (s : State) (sargs : Array Value) (y : MethodName) (len W9 : Nat)
    (Pre : Pt → Array Value → Prop) (Post : Pt → Array Value → Option Value → Pt → Prop) (PostX : Pt → Array Value → Addr → Pt → Prop) : Prop :=
  ∀ (m : MethodId) (meth : Method) (c : Code) (A : Pt) (g : JFrame) (ig : Instr) (mk : MethodId) (a : Array Value),
    Stand p l e R s m sargs below meth c A.U A.locs A.cells A.slots → g.method = m → g.locals.size = c.maxLocals → decode c.code g.pc = .ok (ig, len) →
    2 * g.monitorRoom + (g.stack.map fun v => v.category).sum ≤ W9 → A.U.methodNamed? y = some mk → Pre A a →
    (∃ (v : Option Value) (B : Pt), Stand p l e R s m sargs below meth c B.U B.locs B.cells B.slots ∧ Post A a v B ∧
      Steps p.tables e below (doInvoke e (A.U.setTop g) [] mk a).1 (B.U.setTop { g with pc := g.pc + len, stack := v.toList ++ g.stack })) ∨
    (∃ (q : Addr) (B : Pt), Stand p l e R s m sargs below meth c B.U B.locs B.cells B.slots ∧ PostX A a q B ∧
      Steps p.tables e below (doInvoke e (A.U.setTop g) [] mk a).1 ((B.U.setTop g).pushFrame (.throwing q)))
section Payer
variable {l : Launch} {R : Room} {p : Program} {e : Env} {below : List Frame} {s : State} {sargs : Array Value} {y : MethodName} {len W9 : Nat}
theorem vx_back {ws : List Cond} {rm : Room} {Pc : Array Value → State → Prop} {Qc : Array Value → State → Outcome → State → Prop} {XC : String → State → State → Prop} {mc ms : Nat} {free : Addr → Prop} {bytes : ByteArray} {maxL : Nat} {ret : Option FieldType}
    (hM : vx_Met l y ws rm Pc Qc XC mc ms free) (hblind : FrameBlind Pc) (hrc : rm.cells = mc) (hrs : rm.slots = ms)
    (hframes : rm.frames + 1 ≤ R.frames) (hlocals : W9 + (maxL + 11) + rm.locals ≤ R.locals)
    (hws : ∀ w ∈ ws, ∀ a' U, s.WarmedH U.vm → w.before a' U = true) (hcode : Cond.code y bytes maxL ret ∈ ws) (hinit : ∀ a' U, s.WarmedH U.vm → (Cond.initialized y.cls).before a' U = true) :
    vx_Back l R p e below s sargs y len W9 (PreOf R mc ms Pc) (PostOf Qc mc ms free) (vx_Post XC mc ms free) := by
  intro m meth c A g ig mk a X hg hsize hdg hW hn hp
  have h1 : (headSpec ws rm).pre.before a A.U = true := atoms_intro fun w hw => hws w hw _ _ X.warmed
  have h2 : (Cond.code y bytes maxL ret).before a A.U = true := hws _ hcode _ _ X.warmed
  have h3 : (Cond.initialized y.cls).before a A.U = true := hinit _ _ X.warmed
  have h4 : A.cells + (headSpec ws rm).room.cells ≤ R.cells := by rw [show (headSpec ws rm).room.cells = mc from hrc]; exact hp.1
  have h5 : A.slots + (headSpec ws rm).room.slots ≤ R.slots := by rw [show (headSpec ws rm).room.slots = ms from hrs]; exact hp.2.1
  have hPc : Pc a (A.U.calling g mk a) := hblind _ _ _ _ hp.2.2
  obtain ⟨U, Ls, c0, s0⟩ := A
  dsimp only [Pt.U, Pt.locs, Pt.cells, Pt.slots] at h1 h2 h3 h4 h5 X hn hPc ⊢
  obtain ⟨methY, cY, hmY, hcY, -, hlY, -, -, -, -⟩ := Cond.code_spec hn h2
  obtain ⟨kY, hkY, -⟩ := className_of_methodNamed hn
  have hinitY : kY.init = .initialized := Cond.initialized_spec (findClass_of_methodNamed hn) hkY h3
  have h : At U g.method c below := by rw [hg]; exact X.here
  have hlocals9 : W9 + (maxL + 11) + (headSpec ws rm).room.locals ≤ R.locals := hlocals
  have happ : (headSpec ws rm).appliesLoose y e.platform (U.calling g mk a) = true :=
    Spec.appliesLoose_calling (g := g) h hdg hn hkY hinitY
      (X.room_calling (g := g) (R' := (headSpec ws rm).room) hsize hmY hcY hframes (by rw [hlY]; omega) h4 h5) h1
  obtain ⟨mid, hmid⟩ := h.above
  have hfr : (U.setTop g).frames = (.java g :: mid) ++ below := by rw [State.frames_setTop' g h.top, hmid]; rfl
  obtain ⟨o, s₂, hsteps, -, hend, hq⟩ := Steps.callFree hM p X.admits X.cas X.clock (acts := []) hfr happ hPc trivial
  have hq' : vx_Q Qc XC mc ms free a (U.calling g mk a) o s₂ := hq
  rw [State.frames_setTop' g h.top] at hend
  obtain ⟨g₀, hg0⟩ := Option.isSome_iff_exists.mp h.top
  obtain ⟨r, hr⟩ := State.topJava?_eq_some.mp hg0
  have hr' : (({ U with heap := s₂.heap, slotsUsed := s₂.slotsUsed } : State).setVm s₂.vm).frames = .java g₀ :: r := hr
  rcases hq' with ⟨hqc, L, hfe, hL⟩ | ⟨q, rfl, E, ce, L, hx, hce, hcv, hcl, hW₂, hsm, hL⟩
  · obtain ⟨⟨v, rfl⟩, hW₂, e2, q2, q3, q4, q5, q6⟩ := id hfe
    have e3 : s₂ = ({ (U.calling g mk a).setFrames s₂.frames with heap := s₂.heap, slotsUsed := s₂.slotsUsed } : State).setVm s₂.vm := by
      have : s₂ = ({ s₂ with vm := (U.calling g mk a).vm } : State).setVm s₂.vm := rfl
      rw [e2] at this
      exact this
    obtain ⟨c₂, i₂, len₂, hc₂, hd₂, hf₂⟩ := hend
    have hW' : U.WarmedH s₂.vm := hW₂
    have hcc : c₂ = c := by
      have h1 : s₂.code? g.method = U.code? g.method := by
        rw [State.code?_eq, State.code?_eq, hW'.alike.method?]
      exact Option.some.inj (hc₂.symm.trans (h1.trans h.code))
    subst hcc
    have hlen : len₂ = len := by rw [hdg] at hd₂; cases hd₂; rfl
    subst hlen
    have hs₂ : s₂ = (({ U with heap := s₂.heap, slotsUsed := s₂.slotsUsed } : State).setVm s₂.vm).setTop { g with pc := g.pc + len₂, stack := v.toList ++ g.stack } := by
      refine e3.trans ?_
      rw [hf₂, State.calling_eq h.top, State.setFrames_setFrames, State.setTop_of_frames _ hr', hr]
      rfl
    have hsame : U.sameButNew ({ U with heap := s₂.heap, slotsUsed := s₂.slotsUsed } : State) L mc ms := by
      refine ⟨?_, q2, q3, q4, q5, q6⟩
      obtain ⟨t, ht, -⟩ := State.frames_cons hr
      show ({ U with heap := s₂.heap, slotsUsed := s₂.slotsUsed } : State) = { U.setFrames U.frames with heap := s₂.heap, slotsUsed := s₂.slotsUsed }
      rw [State.setFrames_self ht]
    subst hg
    refine Or.inl ⟨v, ⟨(({ U with heap := s₂.heap, slotsUsed := s₂.slotsUsed } : State).setVm s₂.vm), Ls ++ L, c0 + mc, s0 + ms⟩,
      ⟨X.admits, X.cas, X.clock, X.frames, X.room, X.hears, X.method, X.code, (X.here.setHeapUsed s₂.heap s₂.slotsUsed).setVm hW'.alike, X.tail, State.WarmedH.trans X.warmed hW', X.limits, X.bytes, X.same.trans (hsame.setVm s.vm)⟩,
      ⟨g, mk, s₂, L, rfl, rfl, hqc, rfl, hL, rfl, rfl⟩, ?_⟩
    show Steps p.tables e below _ ((({ U with heap := s₂.heap, slotsUsed := s₂.slotsUsed } : State).setVm s₂.vm).setTop { g with pc := g.pc + len₂, stack := v.toList ++ g.stack })
    rw [← hs₂]
    exact hsteps
  · obtain ⟨e2, q2, q3, q4, q5, q6⟩ := id hsm
    have e3 : s₂ = ({ (U.calling g mk a).setFrames s₂.frames with heap := s₂.heap, slotsUsed := s₂.slotsUsed } : State).setVm s₂.vm := by
      have : s₂ = ({ s₂ with vm := (U.calling g mk a).vm } : State).setVm s₂.vm := rfl
      rw [e2] at this
      exact this
    have hf₂ : s₂.frames = .throwing q :: .java g :: U.frames.tail := hend
    have hW' : U.WarmedH s₂.vm := hW₂
    have hs₂ : s₂ = ((({ U with heap := s₂.heap, slotsUsed := s₂.slotsUsed } : State).setVm s₂.vm).setTop g).pushFrame (.throwing q) := by
      refine e3.trans ?_
      rw [hf₂, State.calling_eq h.top, State.setFrames_setFrames, State.pushFrame, State.frames_setTop _ hr', State.setTop_of_frames _ hr', State.setFrames_setFrames, hr]
      rfl
    have hsame : U.sameButNew ({ U with heap := s₂.heap, slotsUsed := s₂.slotsUsed } : State) L mc ms := by
      refine ⟨?_, q2, q3, q4, q5, q6⟩
      obtain ⟨t, ht, -⟩ := State.frames_cons hr
      show ({ U with heap := s₂.heap, slotsUsed := s₂.slotsUsed } : State) = { U.setFrames U.frames with heap := s₂.heap, slotsUsed := s₂.slotsUsed }
      rw [State.setFrames_self ht]
    subst hg
    refine Or.inr ⟨q, ⟨(({ U with heap := s₂.heap, slotsUsed := s₂.slotsUsed } : State).setVm s₂.vm), Ls ++ L, c0 + mc, s0 + ms⟩,
      ⟨X.admits, X.cas, X.clock, X.frames, X.room, X.hears, X.method, X.code, (X.here.setHeapUsed s₂.heap s₂.slotsUsed).setVm hW'.alike, X.tail, State.WarmedH.trans X.warmed hW', X.limits, X.bytes, X.same.trans (hsame.setVm s.vm)⟩,
      ⟨g, mk, s₂, L, E, ce, rfl, rfl, hx, hce, hcv, hcl, rfl, hL, rfl, rfl⟩, ?_⟩
    show Steps p.tables e below _ (((({ U with heap := s₂.heap, slotsUsed := s₂.slotsUsed } : State).setVm s₂.vm).setTop g).pushFrame (.throwing q))
    rw [← hs₂]
    exact hsteps
end Payer
section Calls
variable {p : Program} {l : Launch} {e : Env} {R : Room} {s : State} {m : MethodId} {args : Array Value} {below : List Frame} {meth : Method} {c : Code} {T : State} {locs : List Loc} {cells slots : Nat}
theorem vx_callV (X : Stand p l e R s m args below meth c T locs cells slots) (hexec : p.tables.exec = Jvm.exec) {own C : String} {index : Nat} {y : MethodName} {bytes : ByteArray} {maxL : Nat} {ret : Option FieldType}
    (hown : s.vm.findClass own = some m.cls) (hlink : (Cond.methodLink own index y).before args s = true) (hinst : (Cond.instanceMethod y).before args s = true) (hsel : (Cond.selects C y y).before args s = true)
    (hcode : (Cond.code y bytes maxL ret).before args s = true) (hy : y.cls ≠ "java/lang/invoke/MethodHandle" ∧ y.cls ≠ "java/lang/invoke/VarHandle")
    {W9 : Nat} {Pre : Pt → Array Value → Prop} {Post : Pt → Array Value → Option Value → Pt → Prop} {PostX : Pt → Array Value → Addr → Pt → Prop} (hK : vx_Back l R p e below s args y 3 W9 Pre Post PostX)
    {b : Addr} {cellB : Cell} (hcell : T.heap[b]? = some cellB) (hobj : cellB.vm.isStatics = false) (hcls : s.vm.findClass C = some cellB.cls)
    {g : JFrame} (hg : g.method = m) (hsize : g.locals.size = c.maxLocals) {argsL rest : List Value} (hlen : ∀ sig, parseMethodDescriptor y.desc = some sig → argsL.length = sig.parameters.length)
    (hstack : g.stack = argsL.reverse ++ .ref b :: rest) (hW : 2 * g.monitorRoom + (rest.map fun v => v.category).sum ≤ W9) (hdg : decode c.code g.pc = .ok (.invokevirtual index, 3))
    (hpre : ∀ vm₁, s.WarmedH vm₁ → Pre ⟨T.setVm vm₁, locs, cells, slots⟩ (Value.ref b :: argsL).toArray) :
    (∃ (v : Option Value) (vm₁ : Vm) (B : Pt), s.WarmedH vm₁ ∧ Stand p l e R s m args below meth c B.U B.locs B.cells B.slots ∧ Post ⟨T.setVm vm₁, locs, cells, slots⟩ (Value.ref b :: argsL).toArray v B ∧
      ∀ target, Steps p.tables e below (B.U.setTop { g with pc := g.pc + 3, stack := v.toList ++ rest }) target → Steps p.tables e below (T.setTop g) target) ∨
    (∃ (q : Addr) (vm₁ : Vm) (B : Pt), s.WarmedH vm₁ ∧ Stand p l e R s m args below meth c B.U B.locs B.cells B.slots ∧ PostX ⟨T.setVm vm₁, locs, cells, slots⟩ (Value.ref b :: argsL).toArray q B ∧
      Steps p.tables e below (T.setTop g) ((B.U.setTop { g with stack := rest }).pushFrame (.throwing q))) := by
  obtain ⟨mk, methM, hnamed, hmethM, hstM, habM⟩ := Cond.instanceMethod_spec hinst
  obtain ⟨methM', cM, hmethM', -, -, -, -, -, -, hsigM⟩ := Cond.code_spec hnamed hcode
  cases hmethM.symm.trans hmethM'
  obtain ⟨c2, r2, m2, q1, q2, q3, q4, kP, hkP, hkPi⟩ := Cond.selects_spec hsel
  cases hcls.symm.trans q1
  cases (State.methodFound?_of_named hnamed hy).symm.trans q2
  cases hnamed.symm.trans q3
  have hselP : selectMethod e.platform s.vm cellB.cls mk = .method mk := by rw [Launch.admits_selectMethod X.admits]; exact q4
  obtain ⟨vm₁, X₁, hstep₁⟩ := X.invokevirtual hexec hown hlink hnamed hmethM hstM hkP hkPi hy (a := b) (cell := cellB) hcell
    (fun z h => by rw [h] at hobj; cases hobj) hselP hmethM habM hkP hkPi (g := g) hg (argsL := argsL) (rest := rest) (hlen _ hsigM) hstack hdg
  rcases hK m meth c ⟨T.setVm vm₁, locs, cells, slots⟩ { g with stack := rest } (.invokevirtual index) mk (Value.ref b :: argsL).toArray X₁ hg hsize hdg hW (X₁.named hnamed) (hpre vm₁ X₁.warmed) with ⟨v, B, X', hpost, hsteps⟩ | ⟨q, B, X', hpost, hsteps⟩
  · exact Or.inl ⟨v, vm₁, B, X₁.warmed, X', hpost, fun target h => hstep₁ _ fun acts => by rw [doInvoke_state]; exact hsteps.trans h⟩
  · exact Or.inr ⟨q, vm₁, B, X₁.warmed, X', hpost, hstep₁ _ fun acts => by rw [doInvoke_state]; exact hsteps⟩
theorem vx_callS (X : Stand p l e R s m args below meth c T locs cells slots) (hexec : p.tables.exec = Jvm.exec) {own : String} {index : Nat} {y : MethodName} {bytes : ByteArray} {maxL : Nat} {ret : Option FieldType}
    (hown : s.vm.findClass own = some m.cls) (hlink : (Cond.methodLink own index y).before args s = true) (hstat : (Cond.static y).before args s = true) (hinit : (Cond.initialized y.cls).before args s = true)
    (hcode : (Cond.code y bytes maxL ret).before args s = true) (hy : y.cls ≠ "java/lang/invoke/MethodHandle" ∧ y.cls ≠ "java/lang/invoke/VarHandle")
    {W9 : Nat} {Pre : Pt → Array Value → Prop} {Post : Pt → Array Value → Option Value → Pt → Prop} {PostX : Pt → Array Value → Addr → Pt → Prop} (hK : vx_Back l R p e below s args y 3 W9 Pre Post PostX)
    {g : JFrame} (hg : g.method = m) (hsize : g.locals.size = c.maxLocals) {argsL rest : List Value} (hlen : ∀ sig, parseMethodDescriptor y.desc = some sig → argsL.length = sig.parameters.length)
    (hstack : g.stack = argsL.reverse ++ rest) (hW : 2 * g.monitorRoom + (rest.map fun v => v.category).sum ≤ W9) (hdg : decode c.code g.pc = .ok (.invokestatic index, 3))
    (hpre : ∀ vm₁, s.WarmedH vm₁ → Pre ⟨T.setVm vm₁, locs, cells, slots⟩ argsL.toArray) :
    (∃ (v : Option Value) (vm₁ : Vm) (B : Pt), s.WarmedH vm₁ ∧ Stand p l e R s m args below meth c B.U B.locs B.cells B.slots ∧ Post ⟨T.setVm vm₁, locs, cells, slots⟩ argsL.toArray v B ∧
      ∀ target, Steps p.tables e below (B.U.setTop { g with pc := g.pc + 3, stack := v.toList ++ rest }) target → Steps p.tables e below (T.setTop g) target) ∨
    (∃ (q : Addr) (vm₁ : Vm) (B : Pt), s.WarmedH vm₁ ∧ Stand p l e R s m args below meth c B.U B.locs B.cells B.slots ∧ PostX ⟨T.setVm vm₁, locs, cells, slots⟩ argsL.toArray q B ∧
      Steps p.tables e below (T.setTop g) ((B.U.setTop { g with stack := rest }).pushFrame (.throwing q))) := by
  obtain ⟨mk, hnamed⟩ := Cond.code_named hcode
  obtain ⟨methM, cM, hmethM, -, -, -, -, -, -, hsigM⟩ := Cond.code_spec hnamed hcode
  have hstatic : methM.isStatic = true := Cond.static_spec hnamed hmethM hstat
  obtain ⟨kP, hkP, -⟩ := className_of_methodNamed hnamed
  have hinitP : kP.init = .initialized := Cond.initialized_spec (findClass_of_methodNamed hnamed) hkP hinit
  obtain ⟨vm₁, X₁, hstep₁⟩ := X.invokestatic hexec hown hlink hnamed hmethM hstatic hkP hinitP hy (g := g) hg (argsL := argsL) (rest := rest) (hlen _ hsigM) hstack hdg
  rcases hK m meth c ⟨T.setVm vm₁, locs, cells, slots⟩ { g with stack := rest } (.invokestatic index) mk argsL.toArray X₁ hg hsize hdg hW (X₁.named hnamed) (hpre vm₁ X₁.warmed) with ⟨v, B, X', hpost, hsteps⟩ | ⟨q, B, X', hpost, hsteps⟩
  · exact Or.inl ⟨v, vm₁, B, X₁.warmed, X', hpost, fun target h => hstep₁ _ fun acts => by rw [doInvoke_state]; exact hsteps.trans h⟩
  · exact Or.inr ⟨q, vm₁, B, X₁.warmed, X', hpost, hstep₁ _ fun acts => by rw [doInvoke_state]; exact hsteps⟩
end Calls
theorem vx_cls {s : State} {T : State} {vm₁ : Vm} {E : String} {k : ClassId} (hW : s.WarmedH vm₁) (h : (T.setVm vm₁).vm.findClass E = some k) : s.vm.findClass E = some k := by
  have h1 : vm₁.findClass E = some k := h
  rw [hW.alike.findClass] at h1
  exact h1
/-- the method's frame g, with q thrown over it -/
def vx_W (p : Program) (l : Launch) (e : Env) (R : Room) (s : State) (m : MethodId) (args : Array Value) (below : List Frame) (meth : Method) (c : Code) (H : Heap) (locs : List Loc) (cells slots : Nat) (Q : State → Prop) (g : JFrame) (q : Addr) : Prop :=
  ∀ T : State, T.heap = H → Stand p l e R s m args below meth c T locs cells slots → ∃ t, Steps p.tables e below ((T.setTop g).pushFrame (.throwing q)) t ∧ Q t
def vx_Run (p : Program) (l : Launch) (e : Env) (R : Room) (s : State) (m : MethodId) (args : Array Value) (below : List Frame) (meth : Method) (c : Code) (H : Heap) (locs : List Loc) (cells slots mc ms : Nat) (g : JFrame) (rest : List Value) (Qa : State → Outcome → State → Prop) (XC : String → State → State → Prop) (free : Addr → Prop) : Prop :=
  ∀ T : State, T.heap = H → Stand p l e R s m args below meth c T locs cells slots →
    (∃ (v : Option Value) (st₀ t T' : State) (L : List Loc), st₀.heap = H ∧ Stand p l e R s m args below meth c T' (locs ++ L) (cells + mc) (slots + ms) ∧ (∀ q ∈ L, free q.base) ∧ T'.heap = t.heap ∧ T'.vm = t.vm ∧ Qa st₀ (.returned v) t ∧
      Goes p e below T g T' { g with pc := g.pc + 3, stack := v.toList ++ rest }) ∨
    (∃ (q : Addr) (st₀ t T' : State) (L : List Loc) (E : String) (ce : Cell), st₀.heap = H ∧ Stand p l e R s m args below meth c T' (locs ++ L) (cells + mc) (slots + ms) ∧ (∀ z ∈ L, free z.base) ∧ T'.heap = t.heap ∧ T'.vm = t.vm ∧ XC E st₀ t ∧ t.heap[q]? = some ce ∧ ce.vm = .none ∧ s.vm.findClass E = some ce.cls ∧
      Steps p.tables e below (T.setTop g) ((T'.setTop { g with stack := rest }).pushFrame (.throwing q)))
def vx_X {S : Type} (px : S → Prop) (B : String → S → State → Prop) (A : Nat → Prop) : String → State → State → Prop := fun E st t => ∃ u : S, px u ∧ B E u t ∧ va_F A st t
section Runs
variable {p : Program} {l : Launch} {e : Env} {R : Room} {s : State} {m : MethodId} {args : Array Value} {below : List Frame} {meth : Method} {c : Code} {H : Heap} {locs : List Loc} {cells slots : Nat}
variable {y : MethodName} {bytes cc : ByteArray} {maxL nL mc ms n index : Nat} {ret : Option FieldType} {ws : List Cond} {rm : Room} {Pc : Array Value → State → Prop} {Qc : Array Value → State → Outcome → State → Prop} {XC : String → State → State → Prop} {free : Addr → Prop} {Ts : List Cond} {own C : String} {b : Addr} {As rest : List Value} {g : JFrame}
theorem vx_callBack (cb : CallB R s args own index y bytes maxL ret ws rm mc ms n) (hM : vx_Met l y ws rm Pc Qc XC mc ms free) (hbl : FrameBlind Pc) : vx_Back l R p e below s args y 3 8 (PreOf R mc ms Pc) (PostOf Qc mc ms free) (vx_Post XC mc ms free) := by
  obtain ⟨hrc, hrs, hfr, hlo, hws, hcw, -, hini, -⟩ := cb
  exact vx_back (bytes := bytes) (maxL := maxL) (ret := ret) hM hbl hrc hrs hfr hlo hws hcw (fun a' U hW => word_at hW (Or.inl (by first | rfl | simp [Cond.onTables, Cond.keeps, Cond.steady])) hini)
theorem vx_runV (S : CallFix p m c cc nL s args Ts own) (hM : vx_Met l y ws rm Pc Qc XC mc ms free) (cw : CallW R s args own C index y bytes maxL ret ws rm mc ms n) (hp : PreV s H C b Pc As)
    (hg : g.method = m) (hn : As.length = n) (hsize : g.locals.size = nL) (hstack : g.stack = As.reverse ++ .ref b :: rest) (hW : 2 * g.monitorRoom + (rest.map fun v => v.category).sum ≤ 8) (hdg : decode cc g.pc = .ok (.invokevirtual index, 3)) (hf : cells + mc ≤ R.cells ∧ slots + ms ≤ R.slots) :
    vx_Run p l e R s m args below meth c H locs cells slots mc ms g rest (Qc (Value.ref b :: As).toArray) XC free := by
  have hK : vx_Back l R p e below s args y 3 8 (PreOf R mc ms Pc) (PostOf Qc mc ms free) (vx_Post XC mc ms free) := vx_callBack cw.1 hM hp.1
  obtain ⟨⟨-, -, -, -, -, -, hcode, -, hy, hlen, hl⟩, hin, hse⟩ := cw
  obtain ⟨hx, hb, hml, ho, -⟩ := S
  obtain ⟨-, ⟨cellB, hcB, hoB, hclB⟩, hPc⟩ := hp
  intro T hT X
  rcases vx_callV X hx (C := C) (bytes := bytes) (maxL := maxL) (ret := ret) ho hl hin hse hcode hy hK (by rw [hT]; exact hcB) hoB hclB hg (hsize.trans hml.symm) (argsL := As) (rest := rest) (fun sig h => hn.trans (hlen sig h)) hstack hW (by rw [hb]; exact hdg)
    (fun vm₁ hW₁ => ⟨hf.1, hf.2, hPc (T.setVm vm₁) hT hW₁⟩) with ⟨v, vm₁, ⟨U', l2, c2, s2⟩, hW₁, X', ⟨g', mk, t, L, e1, e2, hq, h1, hL, h2, h3⟩, st⟩ | ⟨q, vm₁, ⟨U', l2, c2, s2⟩, hW₁, X', ⟨g', mk, t, L, E, ce, e1, e2, hq, hce, hcv, hcl, h1, hL, h2, h3⟩, st⟩
  · dsimp only [Pt.U, Pt.locs, Pt.cells, Pt.slots] at X' e1 e2 h1 h2 h3 st
    subst h1; subst h2; subst h3
    exact Or.inl ⟨v, (T.setVm vm₁).calling g' mk (Value.ref b :: As).toArray, t, U', L, hT, X', hL, e1, e2, hq, st⟩
  · dsimp only [Pt.U, Pt.locs, Pt.cells, Pt.slots] at X' e1 e2 h1 h2 h3 st hcl
    subst h1; subst h2; subst h3
    exact Or.inr ⟨q, (T.setVm vm₁).calling g' mk (Value.ref b :: As).toArray, t, U', L, E, ce, hT, X', hL, e1, e2, hq, hce, hcv, vx_cls hW₁ hcl, st⟩
theorem vx_runS (S : CallFix p m c cc nL s args Ts own) (hM : vx_Met l y ws rm Pc Qc XC mc ms free) (cw : CallB R s args own index y bytes maxL ret ws rm mc ms n ∧ (Cond.static y).before args s = true) (hp : PreS s H Pc As)
    (hg : g.method = m) (hn : As.length = n) (hsize : g.locals.size = nL) (hstack : g.stack = As.reverse ++ rest) (hW : 2 * g.monitorRoom + (rest.map fun v => v.category).sum ≤ 8) (hdg : decode cc g.pc = .ok (.invokestatic index, 3)) (hf : cells + mc ≤ R.cells ∧ slots + ms ≤ R.slots) :
    vx_Run p l e R s m args below meth c H locs cells slots mc ms g rest (Qc As.toArray) XC free := by
  have hK : vx_Back l R p e below s args y 3 8 (PreOf R mc ms Pc) (PostOf Qc mc ms free) (vx_Post XC mc ms free) := vx_callBack cw.1 hM hp.1
  obtain ⟨⟨-, -, -, -, -, -, hcode, hini, hy, hlen, hl⟩, hstt⟩ := cw
  obtain ⟨hx, hb, hml, ho, -⟩ := S
  intro T hT X
  rcases vx_callS X hx (bytes := bytes) (maxL := maxL) (ret := ret) ho hl hstt hini hcode hy hK hg (hsize.trans hml.symm) (argsL := As) (rest := rest) (fun sig h => hn.trans (hlen sig h)) hstack hW (by rw [hb]; exact hdg)
    (fun vm₁ hW₁ => ⟨hf.1, hf.2, hp.2 (T.setVm vm₁) hT hW₁⟩) with ⟨v, vm₁, ⟨U', l2, c2, s2⟩, hW₁, X', ⟨g', mk, t, L, e1, e2, hq, h1, hL, h2, h3⟩, st⟩ | ⟨q, vm₁, ⟨U', l2, c2, s2⟩, hW₁, X', ⟨g', mk, t, L, E, ce, e1, e2, hq, hce, hcv, hcl, h1, hL, h2, h3⟩, st⟩
  · dsimp only [Pt.U, Pt.locs, Pt.cells, Pt.slots] at X' e1 e2 h1 h2 h3 st
    subst h1; subst h2; subst h3
    exact Or.inl ⟨v, (T.setVm vm₁).calling g' mk As.toArray, t, U', L, hT, X', hL, e1, e2, hq, st⟩
  · dsimp only [Pt.U, Pt.locs, Pt.cells, Pt.slots] at X' e1 e2 h1 h2 h3 st hcl
    subst h1; subst h2; subst h3
    exact Or.inr ⟨q, (T.setVm vm₁).calling g' mk As.toArray, t, U', L, E, ce, hT, X', hL, e1, e2, hq, hce, hcv, vx_cls hW₁ hcl, st⟩
end Runs
section Rows
variable {p : Program} {l : Launch} {e : Env} {R : Room} {s : State} {m : MethodId} {args : Array Value} {below : List Frame} {meth : Method} {c : Code} {H : Heap} {locs : List Loc} {cells slots : Nat} {Q : State → Prop}
variable {mc ms : Nat} {free : Addr → Prop} {A0 A1 : Nat → Prop} {H0 : Heap} {a : Array Value} {pc : Nat} {ls : Array Slot} {st0 rest : List Value}
theorem vx_keep {st₀ t T' : State} {L : List Loc} (h0 : st₀.heap = H) (e1 : T'.heap = t.heap) (hS : va_S A0 H0 H locs) (hA : ∀ q, q < H.size → A1 q → A0 q) (hf : ∀ q, free q → A0 q) (hL : ∀ q ∈ L, free q.base) (hF : va_F A1 st₀ t) :
    H.size ≤ T'.heap.size ∧ (∀ q : Nat, q < H.size → ¬ A1 q → T'.heap[q]? = H[q]?) ∧ va_S A0 H0 T'.heap (locs ++ L) := by
  obtain ⟨hz, hk⟩ := hF
  rw [h0] at hz hk
  exact ⟨by rw [e1]; exact hz, fun q h1 h2 => by rw [e1]; exact hk q h1 h2,
    ⟨Nat.le_trans hS.1 (by rw [e1]; exact hz), fun q h1 h2 => by rw [e1, hk q (Nat.lt_of_lt_of_le h1 hS.1) (fun z => h2 (hA q (Nat.lt_of_lt_of_le h1 hS.1) z))]; exact hS.2.1 q h1 h2, fun q hq => by
      rcases List.mem_append.mp hq with h | h
      · exact hS.2.2 q h
      · exact hf _ (hL q h)⟩⟩
theorem vx_calli {S SX : Type} {post : Int32 → S → Prop} {px : SX → Prop} {B : S → State → Prop} {BX : String → SX → State → Prop} {AX : Nat → Prop} (hr : vx_Run p l e R s m args below meth c H locs cells slots mc ms (F0 m pc ls st0) rest (va_Qi post B A1 a) (vx_X px BX AX) free) (hS : va_S A0 H0 H locs) (hA : ∀ q, q < H.size → A1 q → A0 q) (hf : ∀ q, free q → A0 q) (hAX : ∀ q, q < H.size → AX q → A0 q)
    (kx : ∀ (E : String) (ce : Cell) (q9 : Addr) (u : SX) (t : State) (H1 : Heap) (locs1 : List Loc), t.heap = H1 → s.vm.Alike t.vm → px u → BX E u t → H.size ≤ H1.size → (∀ q : Nat, q < H.size → ¬ AX q → H1[q]? = H[q]?) → va_S A0 H0 H1 locs1 → H1[q9]? = some ce → ce.vm = .none → s.vm.findClass E = some ce.cls → vx_W p l e R s m args below meth c H1 locs1 (cells + mc) (slots + ms) Q (F0 m pc ls rest) q9)
    (kk : ∀ (r : Int32) (u : S) (t : State) (H1 : Heap) (locs1 : List Loc), t.heap = H1 → s.vm.Alike t.vm → post r u → B u t → H.size ≤ H1.size → (∀ q : Nat, q < H.size → ¬ A1 q → H1[q]? = H[q]?) → va_S A0 H0 H1 locs1 → W p l e R s m args below meth c H1 locs1 (cells + mc) (slots + ms) Q (F0 m (pc + 3) ls (.int r :: rest))) : W p l e R s m args below meth c H locs cells slots Q (F0 m pc ls st0) := by
  intro T hT X
  rcases hr T hT X with ⟨v, st₀, t, T', L, h0, X', hL, e1, e2, ⟨⟨r, u, hv, hp, hb⟩, hF⟩, st⟩ | ⟨q, st₀, t, T', L, E, ce, h0, X', hL, e1, e2, ⟨u, hp, hb, hF⟩, hce, hcv, hcl, st⟩
  · cases hv
    obtain ⟨k1, k2, k3⟩ := vx_keep h0 e1 hS hA hf hL hF
    obtain ⟨t2, a1, b1⟩ := kk r u t T'.heap (locs ++ L) e1.symm (by rw [← e2]; exact X'.warmed.alike) hp hb k1 k2 k3 T' rfl X'
    exact ⟨t2, st t2 a1, b1⟩
  · obtain ⟨k1, k2, k3⟩ := vx_keep h0 e1 hS hAX hf hL hF
    obtain ⟨t2, a1, b1⟩ := kx E ce q u t T'.heap (locs ++ L) e1.symm (by rw [← e2]; exact X'.warmed.alike) hp hb k1 k2 k3 (by rw [e1]; exact hce) hcv hcl T' rfl X'
    exact ⟨t2, st.trans a1, b1⟩
theorem vx_calll {S SX : Type} {post : Int64 → S → Prop} {px : SX → Prop} {B : S → State → Prop} {BX : String → SX → State → Prop} {AX : Nat → Prop} (hr : vx_Run p l e R s m args below meth c H locs cells slots mc ms (F0 m pc ls st0) rest (va_Ql post B A1 a) (vx_X px BX AX) free) (hS : va_S A0 H0 H locs) (hA : ∀ q, q < H.size → A1 q → A0 q) (hf : ∀ q, free q → A0 q) (hAX : ∀ q, q < H.size → AX q → A0 q)
    (kx : ∀ (E : String) (ce : Cell) (q9 : Addr) (u : SX) (t : State) (H1 : Heap) (locs1 : List Loc), t.heap = H1 → s.vm.Alike t.vm → px u → BX E u t → H.size ≤ H1.size → (∀ q : Nat, q < H.size → ¬ AX q → H1[q]? = H[q]?) → va_S A0 H0 H1 locs1 → H1[q9]? = some ce → ce.vm = .none → s.vm.findClass E = some ce.cls → vx_W p l e R s m args below meth c H1 locs1 (cells + mc) (slots + ms) Q (F0 m pc ls rest) q9)
    (kk : ∀ (r : Int64) (u : S) (t : State) (H1 : Heap) (locs1 : List Loc), t.heap = H1 → s.vm.Alike t.vm → post r u → B u t → H.size ≤ H1.size → (∀ q : Nat, q < H.size → ¬ A1 q → H1[q]? = H[q]?) → va_S A0 H0 H1 locs1 → W p l e R s m args below meth c H1 locs1 (cells + mc) (slots + ms) Q (F0 m (pc + 3) ls (.long r :: rest))) : W p l e R s m args below meth c H locs cells slots Q (F0 m pc ls st0) := by
  intro T hT X
  rcases hr T hT X with ⟨v, st₀, t, T', L, h0, X', hL, e1, e2, ⟨⟨r, u, hv, hp, hb⟩, hF⟩, st⟩ | ⟨q, st₀, t, T', L, E, ce, h0, X', hL, e1, e2, ⟨u, hp, hb, hF⟩, hce, hcv, hcl, st⟩
  · cases hv
    obtain ⟨k1, k2, k3⟩ := vx_keep h0 e1 hS hA hf hL hF
    obtain ⟨t2, a1, b1⟩ := kk r u t T'.heap (locs ++ L) e1.symm (by rw [← e2]; exact X'.warmed.alike) hp hb k1 k2 k3 T' rfl X'
    exact ⟨t2, st t2 a1, b1⟩
  · obtain ⟨k1, k2, k3⟩ := vx_keep h0 e1 hS hAX hf hL hF
    obtain ⟨t2, a1, b1⟩ := kx E ce q u t T'.heap (locs ++ L) e1.symm (by rw [← e2]; exact X'.warmed.alike) hp hb k1 k2 k3 (by rw [e1]; exact hce) hcv hcl T' rfl X'
    exact ⟨t2, st.trans a1, b1⟩
theorem vx_callf {S SX : Type} {post : UInt32 → S → Prop} {px : SX → Prop} {B : S → State → Prop} {BX : String → SX → State → Prop} {AX : Nat → Prop} (hr : vx_Run p l e R s m args below meth c H locs cells slots mc ms (F0 m pc ls st0) rest (va_Qf post B A1 a) (vx_X px BX AX) free) (hS : va_S A0 H0 H locs) (hA : ∀ q, q < H.size → A1 q → A0 q) (hf : ∀ q, free q → A0 q) (hAX : ∀ q, q < H.size → AX q → A0 q)
    (kx : ∀ (E : String) (ce : Cell) (q9 : Addr) (u : SX) (t : State) (H1 : Heap) (locs1 : List Loc), t.heap = H1 → s.vm.Alike t.vm → px u → BX E u t → H.size ≤ H1.size → (∀ q : Nat, q < H.size → ¬ AX q → H1[q]? = H[q]?) → va_S A0 H0 H1 locs1 → H1[q9]? = some ce → ce.vm = .none → s.vm.findClass E = some ce.cls → vx_W p l e R s m args below meth c H1 locs1 (cells + mc) (slots + ms) Q (F0 m pc ls rest) q9)
    (kk : ∀ (r : UInt32) (u : S) (t : State) (H1 : Heap) (locs1 : List Loc), t.heap = H1 → s.vm.Alike t.vm → post r u → B u t → H.size ≤ H1.size → (∀ q : Nat, q < H.size → ¬ A1 q → H1[q]? = H[q]?) → va_S A0 H0 H1 locs1 → W p l e R s m args below meth c H1 locs1 (cells + mc) (slots + ms) Q (F0 m (pc + 3) ls (.float r :: rest))) : W p l e R s m args below meth c H locs cells slots Q (F0 m pc ls st0) := by
  intro T hT X
  rcases hr T hT X with ⟨v, st₀, t, T', L, h0, X', hL, e1, e2, ⟨⟨r, u, hv, hp, hb⟩, hF⟩, st⟩ | ⟨q, st₀, t, T', L, E, ce, h0, X', hL, e1, e2, ⟨u, hp, hb, hF⟩, hce, hcv, hcl, st⟩
  · cases hv
    obtain ⟨k1, k2, k3⟩ := vx_keep h0 e1 hS hA hf hL hF
    obtain ⟨t2, a1, b1⟩ := kk r u t T'.heap (locs ++ L) e1.symm (by rw [← e2]; exact X'.warmed.alike) hp hb k1 k2 k3 T' rfl X'
    exact ⟨t2, st t2 a1, b1⟩
  · obtain ⟨k1, k2, k3⟩ := vx_keep h0 e1 hS hAX hf hL hF
    obtain ⟨t2, a1, b1⟩ := kx E ce q u t T'.heap (locs ++ L) e1.symm (by rw [← e2]; exact X'.warmed.alike) hp hb k1 k2 k3 (by rw [e1]; exact hce) hcv hcl T' rfl X'
    exact ⟨t2, st.trans a1, b1⟩
theorem vx_calld {S SX : Type} {post : UInt64 → S → Prop} {px : SX → Prop} {B : S → State → Prop} {BX : String → SX → State → Prop} {AX : Nat → Prop} (hr : vx_Run p l e R s m args below meth c H locs cells slots mc ms (F0 m pc ls st0) rest (va_Qd post B A1 a) (vx_X px BX AX) free) (hS : va_S A0 H0 H locs) (hA : ∀ q, q < H.size → A1 q → A0 q) (hf : ∀ q, free q → A0 q) (hAX : ∀ q, q < H.size → AX q → A0 q)
    (kx : ∀ (E : String) (ce : Cell) (q9 : Addr) (u : SX) (t : State) (H1 : Heap) (locs1 : List Loc), t.heap = H1 → s.vm.Alike t.vm → px u → BX E u t → H.size ≤ H1.size → (∀ q : Nat, q < H.size → ¬ AX q → H1[q]? = H[q]?) → va_S A0 H0 H1 locs1 → H1[q9]? = some ce → ce.vm = .none → s.vm.findClass E = some ce.cls → vx_W p l e R s m args below meth c H1 locs1 (cells + mc) (slots + ms) Q (F0 m pc ls rest) q9)
    (kk : ∀ (r : UInt64) (u : S) (t : State) (H1 : Heap) (locs1 : List Loc), t.heap = H1 → s.vm.Alike t.vm → post r u → B u t → H.size ≤ H1.size → (∀ q : Nat, q < H.size → ¬ A1 q → H1[q]? = H[q]?) → va_S A0 H0 H1 locs1 → W p l e R s m args below meth c H1 locs1 (cells + mc) (slots + ms) Q (F0 m (pc + 3) ls (.double r :: rest))) : W p l e R s m args below meth c H locs cells slots Q (F0 m pc ls st0) := by
  intro T hT X
  rcases hr T hT X with ⟨v, st₀, t, T', L, h0, X', hL, e1, e2, ⟨⟨r, u, hv, hp, hb⟩, hF⟩, st⟩ | ⟨q, st₀, t, T', L, E, ce, h0, X', hL, e1, e2, ⟨u, hp, hb, hF⟩, hce, hcv, hcl, st⟩
  · cases hv
    obtain ⟨k1, k2, k3⟩ := vx_keep h0 e1 hS hA hf hL hF
    obtain ⟨t2, a1, b1⟩ := kk r u t T'.heap (locs ++ L) e1.symm (by rw [← e2]; exact X'.warmed.alike) hp hb k1 k2 k3 T' rfl X'
    exact ⟨t2, st t2 a1, b1⟩
  · obtain ⟨k1, k2, k3⟩ := vx_keep h0 e1 hS hAX hf hL hF
    obtain ⟨t2, a1, b1⟩ := kx E ce q u t T'.heap (locs ++ L) e1.symm (by rw [← e2]; exact X'.warmed.alike) hp hb k1 k2 k3 (by rw [e1]; exact hce) hcv hcl T' rfl X'
    exact ⟨t2, st.trans a1, b1⟩
theorem vx_callv {S SX : Type} {post : S → Prop} {px : SX → Prop} {B : S → State → Prop} {BX : String → SX → State → Prop} {AX : Nat → Prop} (hr : vx_Run p l e R s m args below meth c H locs cells slots mc ms (F0 m pc ls st0) rest (va_Qv post B A1 a) (vx_X px BX AX) free) (hS : va_S A0 H0 H locs) (hA : ∀ q, q < H.size → A1 q → A0 q) (hf : ∀ q, free q → A0 q) (hAX : ∀ q, q < H.size → AX q → A0 q)
    (kx : ∀ (E : String) (ce : Cell) (q9 : Addr) (u : SX) (t : State) (H1 : Heap) (locs1 : List Loc), t.heap = H1 → s.vm.Alike t.vm → px u → BX E u t → H.size ≤ H1.size → (∀ q : Nat, q < H.size → ¬ AX q → H1[q]? = H[q]?) → va_S A0 H0 H1 locs1 → H1[q9]? = some ce → ce.vm = .none → s.vm.findClass E = some ce.cls → vx_W p l e R s m args below meth c H1 locs1 (cells + mc) (slots + ms) Q (F0 m pc ls rest) q9)
    (kk : ∀ (u : S) (t : State) (H1 : Heap) (locs1 : List Loc), t.heap = H1 → s.vm.Alike t.vm → post u → B u t → H.size ≤ H1.size → (∀ q : Nat, q < H.size → ¬ A1 q → H1[q]? = H[q]?) → va_S A0 H0 H1 locs1 → W p l e R s m args below meth c H1 locs1 (cells + mc) (slots + ms) Q (F0 m (pc + 3) ls (rest))) : W p l e R s m args below meth c H locs cells slots Q (F0 m pc ls st0) := by
  intro T hT X
  rcases hr T hT X with ⟨v, st₀, t, T', L, h0, X', hL, e1, e2, ⟨⟨u, hv, hp, hb⟩, hF⟩, st⟩ | ⟨q, st₀, t, T', L, E, ce, h0, X', hL, e1, e2, ⟨u, hp, hb, hF⟩, hce, hcv, hcl, st⟩
  · cases hv
    obtain ⟨k1, k2, k3⟩ := vx_keep h0 e1 hS hA hf hL hF
    obtain ⟨t2, a1, b1⟩ := kk u t T'.heap (locs ++ L) e1.symm (by rw [← e2]; exact X'.warmed.alike) hp hb k1 k2 k3 T' rfl X'
    exact ⟨t2, st t2 a1, b1⟩
  · obtain ⟨k1, k2, k3⟩ := vx_keep h0 e1 hS hAX hf hL hF
    obtain ⟨t2, a1, b1⟩ := kx E ce q u t T'.heap (locs ++ L) e1.symm (by rw [← e2]; exact X'.warmed.alike) hp hb k1 k2 k3 (by rw [e1]; exact hce) hcv hcl T' rfl X'
    exact ⟨t2, st.trans a1, b1⟩
/-- caught by the row x of this method's table; the rows ahead don't take it -/
theorem vx_catch {own name : String} {E : String} {ce : Cell} {q : Addr} (hown : s.vm.findClass own = some m.cls) (pre : List ExceptionTableEntry) (x : ExceptionTableEntry) (suf : List ExceptionTableEntry) (hsplit : c.exceptionTable.toList = pre ++ x :: suf)
    (hpass : ∀ z ∈ pre, covers z pc = false ∨ (z.catchType ≠ 0 ∧ ∃ nm : String, (Cond.classLink own z.catchType nm).before args s = true ∧ va_Nc E nm s)) (hx : covers x pc = true) (h0 : x.catchType ≠ 0)
    (hlink : (Cond.classLink own x.catchType name).before args s = true) (hcast : (Cond.castable E name).before args s = true) (hcell : H[q]? = some ce) (hv : ce.vm = .none) (hcl : s.vm.findClass E = some ce.cls)
    (kk : W p l e R s m args below meth c H locs cells slots Q (F0 m x.handlerPc ls [.ref q])) : vx_W p l e R s m args below meth c H locs cells slots Q (F0 m pc ls rest) q := by
  intro T hT X
  have hpl : e.platform.magicAccessors = ({} : Platform).magicAccessors := by rw [X.admits.platform]
  obtain ⟨c3, c4, hc3, hc4, hasg⟩ := Cond.castable_spec hcast
  cases Option.some.inj (hc3.symm.trans hcl)
  obtain ⟨c5, hc5, hcl5⟩ := Cond.classLink_spec hown hlink e.platform hpl
  cases Option.some.inj (hc4.symm.trans hc5)
  obtain ⟨vm', X', st⟩ := X.thenCaughtThrough q (g := F0 m pc ls rest) rfl (Steps.refl _) (by rw [hT]; exact hcell) (by rw [hv]; rfl) (by obtain ⟨k9, h9, -⟩ := Vm.findClass_spec hcl; exact ⟨k9, h9⟩) pre x suf hsplit
    (fun z hz => by
      rcases hpass z hz with h | ⟨hz0, nm, hl1, hn1⟩
      · exact Or.inl h
      · obtain ⟨c6, hc6, hcl6⟩ := Cond.classLink_spec hown hl1 e.platform hpl
        obtain ⟨a8, b8, h1, h2, h3⟩ := hn1
        cases Option.some.inj (h1.symm.trans hcl)
        cases Option.some.inj (h2.symm.trans hc6)
        exact Or.inr ⟨hz0, _, hcl6, h3⟩) hx (Or.inr ⟨h0, c4, hcl5, hasg⟩)
  obtain ⟨t, a1, b1⟩ := kk (T.setVm vm') hT X'
  exact ⟨t, st.trans a1, b1⟩
end Rows
section Ends
variable {p : Program} {l : Launch} {e : Env} {R : Room} {s : State} {m : MethodId} {args : Array Value} {below : List Frame} {meth : Method} {c : Code} {H : Heap} {locs : List Loc} {cells slots : Nat} {Q : State → Prop}
variable {mc ms : Nat} {free : Addr → Prop} {A0 A1 : Nat → Prop} {H0 : Heap} {a : Array Value} {ls : Array Slot} {st0 rest : List Value}
variable {Qc : Array Value → State → Outcome → State → Prop} {XC : String → State → State → Prop}
/-- what a body that may throw owes at its end -/
def vx_MQ (below : List Frame) (Qc : Array Value → State → Outcome → State → Prop) (XC : String → State → State → Prop) (a : Array Value) (s : State) (mc ms : Nat) (free : Addr → Prop) : State → Prop := fun t =>
  ∃ o, t.status = .running ∧ Ended t below o ∧ vx_Q Qc XC mc ms free a s o t
theorem vx_ret {g : JFrame} {mc ms : Nat} (k : W p l e R s m args below meth c H locs cells slots (MQ below Qc args s mc ms free) g) : W p l e R s m args below meth c H locs cells slots (vx_MQ below Qc XC args s mc ms free) g := by
  intro T hT X
  obtain ⟨t, a1, o, b1, b2, b3, b4⟩ := k T hT X
  exact ⟨t, a1, o, b1, b2, Or.inl ⟨b3, b4⟩⟩
/-- not caught here: it goes on to the caller -/
theorem vx_widen {g : JFrame} {q : Addr} {k n : Nat} (h1 : cells ≤ k) (h2 : slots ≤ n) (kk : vx_W p l e R s m args below meth c H locs k n Q g q) : vx_W p l e R s m args below meth c H locs cells slots Q g q := fun T hT X => kk T hT (stand_widen X h1 h2)
theorem vx_out {pc : Nat} {E : String} {ce : Cell} {q : Addr} {mc ms : Nat} (hout : ∀ x ∈ c.exceptionTable.toList, covers x pc = false) (hlocks : meth.locks = false) (hcell : H[q]? = some ce) (hv : ce.vm = .none) (hcl : s.vm.findClass E = some ce.cls)
    (hx : ∀ t : State, t.heap = H → s.vm.Alike t.vm → XC E s t) (hf : ∀ z ∈ locs, free z.base) (hc : cells ≤ mc) (hs : slots ≤ ms) :
    vx_W p l e R s m args below meth c H locs cells slots (vx_MQ below Qc XC args s mc ms free) (F0 m pc ls rest) q := by
  intro T hT X
  obtain ⟨st1, hrun, hend, hW, hsm⟩ := X.leaveThrown q (g := F0 m pc ls rest) rfl rfl rfl hout hlocks
  have hcell9 : (T.setFrames (.throwing q :: below)).heap[q]? = some ce := by
    show T.heap[q]? = some ce
    rw [hT]; exact hcell
  exact ⟨_, st1, .threw q, hrun, hend, Or.inr ⟨q, rfl, E, ce, locs, hx _ hT hW.alike, hcell9, hv, hcl, hW, hsm.mono hc hs, hf⟩⟩
theorem vx_frame {U : State} {k n : Nat} (h : s.sameButNew ({ U with vm := s.vm } : State) locs k n) : s.heap.size ≤ U.heap.size ∧ ∀ q : Nat, q < s.heap.size → (∀ z ∈ locs, z.base ≠ q) → U.heap[q]? = s.heap[q]? := by
  obtain ⟨-, h2, -, -, -, h6⟩ := h
  refine ⟨h2, fun q hq hz => ?_⟩
  obtain ⟨c9, e1, e2, e3, e4⟩ := h6 q _ (Array.getElem?_eq_getElem hq)
  have hs : c9.slots = (s.heap[q]).slots := Array.ext_getElem? fun i => e4 i fun hm => hz _ hm rfl
  have h9 : c9 = s.heap[q] := by
    rw [hs] at e2
    exact e2
  have e5 : U.heap[q]? = some c9 := e1
  rw [e5, h9, Array.getElem?_eq_getElem hq]
/-- the words of a throw but the four that speak of the heap -/
def vx_no (w : Cond) : Bool := decide (w ≠ .isRef (.static Bundle.tN "UNASSIGNED_STACK" Bundle.steD)) && decide (w ≠ .isRef (.static Bundle.tN "SUPPRESSED_SENTINEL" Bundle.listD)) && decide (w ≠ .laysStatic Bundle.tN "UNASSIGNED_STACK" Bundle.steD) && decide (w ≠ .laysStatic Bundle.tN "SUPPRESSED_SENTINEL" Bundle.listD)
def vx_at0 (own : String) (ic : Nat) (X : String) (names : List String) : List Cond := (Bundle.ownAtoms0 own ic X names).filter vx_no
def vx_atS (own : String) (ic : Nat) (X : String) (names : List String) : List Cond := (Bundle.ownAtoms own ic X names).filter vx_no
/-- a word that the tables alone decide, or a good one -/
def vx_ot (w : Cond) : Bool := w.onTables || goodWord w
theorem vx_ot_at {args a' : Array Value} {s U : State} {w : Cond} (hW : s.WarmedH U.vm) (hvm : s.vm = U.vm) (hg : vx_ot w = true) (h : w.before args s = true) : w.before a' U = true := by
  simp only [vx_ot, Bool.or_eq_true] at hg
  rcases hg with hg | hg
  · exact va_tabs hg hvm h
  · exact word_at hW (good_of_word hg) h
/-- a list's words: the good ones out of the method's own list, the others by premises of their own -/
theorem vx_hat {args : Array Value} {s : State} {L B : List Cond} (h1 : ∀ w ∈ L.filter goodWord, w.before args s = true) (h2 : ∀ w ∈ L.filter (fun w => !goodWord w), w ∈ B) (h3 : ∀ w ∈ B, w.before args s = true) : ∀ w ∈ L, w.before args s = true := by
  intro w hw
  by_cases g : goodWord w = true
  · exact h1 w (List.mem_filter.mpr ⟨hw, g⟩)
  · refine h3 w (h2 w (List.mem_filter.mpr ⟨hw, ?_⟩))
    show (!goodWord w) = true
    cases hgw : goodWord w
    · rfl
    · exact absurd hgw g
theorem vx_c {args : Array Value} {s : State} {w : Cond} {B : List Cond} (h : w.before args s = true) (t : ∀ w ∈ B, w.before args s = true) : ∀ w' ∈ w :: B, w'.before args s = true := fun w' h' => (List.mem_cons.mp h').elim (fun e => by rw [e]; exact h) (t w')
theorem vx_n {args : Array Value} {s : State} : ∀ w ∈ ([] : List Cond), w.before args s = true := fun _ h => nomatch h
theorem vx_own {args : Array Value} {s : State} {L : List Cond} (h1 : ∀ w ∈ L.filter vx_no, w.before args s = true)
    (hU : (Cond.isRef (.static Bundle.tN "UNASSIGNED_STACK" Bundle.steD)).before args s = true) (hN : (Cond.isRef (.static Bundle.tN "SUPPRESSED_SENTINEL" Bundle.listD)).before args s = true)
    (lU : (Cond.laysStatic Bundle.tN "UNASSIGNED_STACK" Bundle.steD).before args s = true) (lN : (Cond.laysStatic Bundle.tN "SUPPRESSED_SENTINEL" Bundle.listD).before args s = true) : ∀ w ∈ L, w.before args s = true := by
  intro w hw
  by_cases e1 : w = .isRef (.static Bundle.tN "UNASSIGNED_STACK" Bundle.steD)
  · rw [e1]; exact hU
  · by_cases e2 : w = .isRef (.static Bundle.tN "SUPPRESSED_SENTINEL" Bundle.listD)
    · rw [e2]; exact hN
    · by_cases e3 : w = .laysStatic Bundle.tN "UNASSIGNED_STACK" Bundle.steD
      · rw [e3]; exact lU
      · by_cases e4 : w = .laysStatic Bundle.tN "SUPPRESSED_SENTINEL" Bundle.listD
        · rw [e4]; exact lN
        · exact h1 w (List.mem_filter.mpr ⟨hw, by unfold vx_no; rw [decide_eq_true e1, decide_eq_true e2, decide_eq_true e3, decide_eq_true e4]; rfl⟩)
/-- where a static field lies, its class's statics cell in H -/
def vx_L (C n d : String) (A : Nat → Prop) (U : State) (H : Heap) : Prop := ∃ (c : ClassId) (k : Class) (i : Nat) (f : Field) (a : Nat) (cell : Cell), U.vm.findClass C = some c ∧ U.fieldFound? C n d = some (c, k, i, f) ∧ f.isStatic = true ∧ k.statics = some a ∧ H[a]? = some cell ∧ cell.vm.isStatics = true ∧ cell.cls = c ∧ f.slot < cell.slots.size ∧ k.staticTypes[f.slot]? = some f.type ∧ ¬ A a
theorem vx_L.moved {C n d : String} {A : Nat → Prop} {u U : State} {H : Heap} (hvm : u.vm.Alike U.vm) (h : vx_L C n d A u H) : vx_L C n d A U H := by
  obtain ⟨c, k, i, f, a, cell, h1, h2, h3, h4, h5, h6, h7, h8, h9, h10⟩ := h
  obtain ⟨k', hi', he⟩ := State.fieldFound?_setVm hvm h2
  exact ⟨c, k', i, f, a, cell, by rw [hvm.findClass]; exact h1, hi', h3, by rw [he]; exact h4, h5, h6, h7, h8, by rw [he]; exact h9, h10⟩
theorem vx_L.kept {C n d : String} {A : Nat → Prop} {U : State} {H H1 : Heap} (h : vx_L C n d A U H) (hq : ∀ a : Nat, a < H.size → ¬ A a → H1[a]? = H[a]?) : vx_L C n d A U H1 := by
  obtain ⟨c, k, i, f, a, cell, h1, h2, h3, h4, h5, h6, h7, h8, h9, h10⟩ := h
  exact ⟨c, k, i, f, a, cell, h1, h2, h3, h4, by rw [hq a (Array.getElem?_eq_some_iff.mp h5).1 h10]; exact h5, h6, h7, h8, h9, h10⟩
theorem vx_L.narrow {C n d : String} {A B : Nat → Prop} {U : State} {H : Heap} (h : vx_L C n d A U H) (hAB : ∀ q, B q → A q) : vx_L C n d B U H := by
  obtain ⟨c, k, i, f, a, cell, h1, h2, h3, h4, h5, h6, h7, h8, h9, h10⟩ := h
  exact ⟨c, k, i, f, a, cell, h1, h2, h3, h4, h5, h6, h7, h8, h9, fun z => h10 (hAB _ z)⟩
theorem vx_L.word {C n d : String} {A : Nat → Prop} {s : State} {args : Array Value} (h : vx_L C n d A s s.heap) : (Cond.laysStatic C n d).before args s = true := by
  obtain ⟨c, k, i, f, a, cell, h1, h2, h3, h4, h5, h6, h7, h8, h9, -⟩ := h
  show (Cond.laysStatic C n d).holds args s none s [] = true
  exact Cond.laysStatic_of h1 h2 h3 h4 h5 h6 h7 h8 h9
/-- .. and what it holds: null or some reference -/
def vx_Zq (C n d : String) (A : Nat → Prop) (U : State) (H : Heap) : Prop := va_Zq C n d A U H ∧ vx_L C n d A U H
theorem vx_Zq.moved {C n d : String} {A : Nat → Prop} {u U : State} {H : Heap} (hvm : u.vm.Alike U.vm) (h : vx_Zq C n d A u H) : vx_Zq C n d A U H := ⟨va_Zq.moved hvm h.1, vx_L.moved hvm h.2⟩
theorem vx_Zq.kept {C n d : String} {A : Nat → Prop} {U : State} {H H1 : Heap} (h : vx_Zq C n d A U H) (hq : ∀ a : Nat, a < H.size → ¬ A a → H1[a]? = H[a]?) : vx_Zq C n d A U H1 := ⟨va_Zq.kept h.1 hq, vx_L.kept h.2 hq⟩
theorem vx_Zq.narrow {C n d : String} {A B : Nat → Prop} {U : State} {H : Heap} (h : vx_Zq C n d A U H) (hAB : ∀ q, B q → A q) : vx_Zq C n d B U H := ⟨va_Zq.narrow h.1 hAB, vx_L.narrow h.2 hAB⟩
theorem vx_Zqof {args : Array Value} {s : State} {C n d : String} {A : Nat → Prop} (hl : (Cond.laysStatic C n d).before args s = true) (hini : (Cond.initialized C).before args s = true) (h : (Cond.isRef (.static C n d)).before args s = true) (hA : ∀ a : Nat, a < s.heap.size → ¬ A a) : vx_Zq C n d A s s.heap := by
  refine ⟨va_Zqof hl hini h hA, ?_⟩
  obtain ⟨c, k, i, f, a, cell, h1, h2, h3, h4, h5, h6, h7, h8, h9⟩ := Cond.laysStatic_spec hl
  exact ⟨c, k, i, f, a, cell, h1, h2, h3, h4, h5, h6, h7, h8, h9, hA a (Array.getElem?_eq_some_iff.mp h5).1⟩
theorem vx_isRef {C n d : String} {v : Value} {A : Nat → Prop} {s : State} {args : Array Value} (h : va_Z C n d v A s s.heap) (hv : v.isRef = true) : (Cond.isRef (.static C n d)).before args s = true := by
  obtain ⟨cf, kf, fi, f, a, cell, h1, h2, h3, h4, h5, h6, h7, -⟩ := h
  have he : (Term.static C n d).eval args s none [] s = some v := by
    simp [Term.eval, State.fieldNamed?, h1, h2, h4, h5, h6, h7]
  simp only [Cond.before, Cond.holds, Cond.value, he]
  cases v <;> simp_all [Value.isRef]
theorem vx_isRefq {C n d : String} {A : Nat → Prop} {s : State} {args : Array Value} (h : va_Zq C n d A s s.heap) : (Cond.isRef (.static C n d)).before args s = true := by
  rcases h with h | ⟨t, h⟩
  · exact vx_isRef h rfl
  · exact vx_isRef h rfl
/-- the same frame, seen from here: as if the method were called anew in this heap -/
theorem vx_rebase {T : State} (X : Stand p l e R s m args below meth c T locs cells slots) {R' : Room} (hf : R'.frames ≤ R.frames) (hl : R'.locals ≤ R.locals) (hc : cells + R'.cells ≤ R.cells) (hs : slots + R'.slots ≤ R.slots) :
    Stand p l e R' ((T.setVm s.vm).setFrames (.invoking m args :: below)) m args below meth c T [] 0 0 := by
  have htop : (T.setVm s.vm).topJava?.isSome := X.here.top
  have hF : ((T.setVm s.vm).setFrames (.invoking m args :: below)).frames = .invoking m args :: below := State.frames_setFrames _ (State.cur_lt_of_top htop)
  obtain ⟨g₀, hg0⟩ := Option.isSome_iff_exists.mp htop
  obtain ⟨r, hr⟩ := State.topJava?_eq_some.mp hg0
  have hl9 : e.platform.stackLimits (T.setVm s.vm).me = e.platform.stackLimits s.me := X.limits
  have hb9 : (T.setVm s.vm).me.stackBytes = s.me.stackBytes := X.bytes
  refine ⟨X.admits, X.cas, X.clock, hF, ?_, X.hears, X.method, X.code, X.here, X.tail, X.warmed, ?_, ?_, ?_⟩
  · have h := X.room
    have hU : ((T.setVm s.vm).setFrames (.invoking m args :: below)).localsInUse = s.localsInUse := by
      rw [State.localsInUse_invoking hF (meth := meth) (c := c) X.method X.code, State.localsInUse_invoking X.frames X.method X.code]
    simp only [State.hasRoom, Bool.and_eq_true, decide_eq_true_eq] at h ⊢
    obtain ⟨⟨⟨⟨h1, h2, h3, h4, h5, h6⟩, h7⟩, h8⟩, h9⟩ := h
    rw [X.frames, List.length_cons] at h2 h3
    have q1 := X.heapSize
    have q2 := X.used
    simp only [hF, hU, List.length_cons, State.stackLimits_setFrames, State.stackBytes_setFrames, hl9, hb9]
    refine ⟨⟨⟨⟨by omega, by omega, by omega, by omega, by omega, h6⟩, ?_⟩, ?_⟩, X.book⟩
    · show T.heap.size + R'.cells ≤ e.platform.maxCells
      omega
    · show T.slotsUsed + R'.slots ≤ e.platform.maxSlots
      omega
  · rw [State.stackLimits_setFrames]; rfl
  · rw [State.stackBytes_setFrames]; rfl
  · refine ⟨?_, Nat.le_refl _, Nat.le_refl _, ?_, ?_, fun a c9 h9 => ⟨c9, h9, rfl, rfl, fun _ _ => rfl⟩⟩
    · obtain ⟨t, ht, -⟩ := State.frames_cons hr
      show T.setVm s.vm = { ((T.setVm s.vm).setFrames (.invoking m args :: below)).setFrames (T.setVm s.vm).frames with heap := T.heap, slotsUsed := T.slotsUsed }
      rw [State.setFrames_setFrames, State.setFrames_self ht]
      rfl
    · show T.slotsUsed = T.slotsUsed + ((T.heap.toList.drop T.heap.size).map (·.slots.size)).sum
      rw [List.drop_eq_nil_of_le (Nat.le_of_eq Array.length_toList)]
      rfl
    · show ((T.heap.toList.drop T.heap.size).map (·.slots.size)).sum ≤ 0
      rw [List.drop_eq_nil_of_le (Nat.le_of_eq Array.length_toList)]
      exact Nat.le_refl _
/-- 'throw new E()': new; dup; invokespecial; athrow -/
theorem vx_throw0 {cc : ByteArray} {pc : Nat} (hexec : p.tables.exec = Jvm.exec) (hb : c.code = cc) (hl : l.stackTraces = false) {own cls : String} {names : List String} {ik ic mc ms : Nat} {A : Nat → Prop}
    (hown : s.vm.findClass own = some m.cls) (hcls : Bundle.fit cls = true) (hnames : ∀ n ∈ names, Bundle.fit n = true)
    (hk : (Cond.classLink own ik cls).before args s = true) (hini : (Cond.initialized cls).before args s = true) (hat : ∀ w ∈ vx_at0 own ic cls names, w.before args s = true)
    (hgood : ∀ w ∈ Cond.classLink own ik cls :: Cond.initialized cls :: vx_at0 own ic cls names, vx_ot w = true)
    (hU : vx_Zq Bundle.tN "UNASSIGNED_STACK" Bundle.steD A s s.heap) (hN : vx_Zq Bundle.tN "SUPPRESSED_SENTINEL" Bundle.listD A s s.heap) (hS : va_S A s.heap H locs) (hsize : ls.size = c.maxLocals)
    (d0 : decode cc pc = .ok (.new ik, 3)) (d3 : decode cc (pc + 3) = .ok (.dup, 1)) (d4 : decode cc (pc + 4) = .ok (.invokespecial ic, 3)) (d7 : decode cc (pc + 7) = .ok (.athrow, 1))
    (hout : ∀ x ∈ c.exceptionTable.toList, covers x (pc + 7) = false)
    (hRframes : names.length + 3 < R.frames) (hRlocals : (rest.map fun v => v.category).sum + (13 * (names.length + 1) + 42) ≤ R.locals) (hRcells : cells + 1 ≤ R.cells) (hRslots : slots + 6 ≤ R.slots) (hlocks : meth.locks = false)
    (hx : ∀ t : State, s.vm.Alike t.vm → H.size ≤ t.heap.size → (∀ q : Nat, q < H.size → t.heap[q]? = H[q]?) → XC cls s t)
    (hf : ∀ z ∈ locs, free z.base) (hc : cells + 1 ≤ mc) (hs : slots + 6 ≤ ms) :
    W p l e R s m args below meth c H locs cells slots (vx_MQ below Qc XC args s mc ms free) (F0 m pc ls rest) := by
  intro T hT X
  have htr : e.platform.stackTraces = false := (show e.platform.stackTraces = l.stackTraces by rw [X.admits.platform]).trans hl
  have Y := vx_rebase X (R' := { frames := R.frames, locals := R.locals, cells := 1, slots := 6 }) (Nat.le_refl _) (Nat.le_refl _) hRcells hRslots
  obtain ⟨s', hA⟩ : ∃ z, z = (T.setVm s.vm).setFrames (.invoking m args :: below) := ⟨_, rfl⟩
  rw [← hA] at Y
  have hvm : s'.vm = s.vm := by rw [hA]; rfl
  have hhp : s'.heap = H := by rw [hA]; exact hT
  have hW0 : s.WarmedH s'.vm := by rw [hvm]; exact State.WarmedH.refl s
  have hat' : ∀ w ∈ vx_at0 own ic cls names, w.before args s' = true := fun w hw => vx_ot_at hW0 hvm.symm (hgood w (List.mem_cons_of_mem _ (List.mem_cons_of_mem _ hw))) (hat w hw)
  have hk' : (Cond.classLink own ik cls).before args s' = true := vx_ot_at hW0 hvm.symm (hgood _ List.mem_cons_self) hk
  have hini' : (Cond.initialized cls).before args s' = true := vx_ot_at hW0 hvm.symm (hgood _ (List.mem_cons_of_mem _ List.mem_cons_self)) hini
  have hU' : vx_Zq Bundle.tN "UNASSIGNED_STACK" Bundle.steD A s' s'.heap := by rw [hhp]; exact vx_Zq.moved hW0.alike (hU.kept hS.2.1)
  have hN' : vx_Zq Bundle.tN "SUPPRESSED_SENTINEL" Bundle.listD A s' s'.heap := by rw [hhp]; exact vx_Zq.moved hW0.alike (hN.kept hS.2.1)
  have h : ∀ w ∈ Bundle.ownAtoms0 own ic cls names, w.before args s' = true := vx_own hat' (vx_isRefq hU'.1) (vx_isRefq hN'.1) hU'.2.word hN'.2.word
  have hown' : s'.vm.findClass own = some m.cls := by rw [hvm]; exact hown
  have hins : (Cond.instantiable cls 6).before args s' = true := h _ (by simp [Bundle.ownAtoms0])
  obtain ⟨vm₁, cX, kX, hfX, hkX, -, -, X₁, st1⟩ := Y.newCold hexec (own := own) (C := cls) (index := ik) (n := 6) hown' hk' hins hini'
    (g := F0 m pc ls rest) rfl (by rw [hb]; exact d0) (Nat.le_refl _) (Nat.le_refl _)
  generalize hT1 : (T.setVm vm₁).pushCell { cls := cX, slots := kX.instanceTypes.map defaultValue, vm := .none } = T1 at X₁ st1
  have hcat : (Value.ref T.heap.size).category = 1 := rfl
  have hcellA : T1.heap[T.heap.size]? = some (freshCell cX kX) := by rw [← hT1]; exact State.heap_pushCell_size _ _
  have d3' : decode c.code (pc + 3) = .ok (.dup, 1) := by rw [hb]; exact d3
  obtain ⟨U, hsteps, hrun, hend, hW, hsame, ce, hce, hO⟩ := X₁.ctorThrow0 hexec htr (own := own) (cls := cls) (names := names) (ic := ic) hown' hcls hnames h (fun x hx => nomatch hx) hfX hkX hcellA (by rw [hhp, hT]; exact Nat.le_refl _)
    (g := { method := m, pc := pc + 4, locals := ls, stack := .ref T.heap.size :: .ref T.heap.size :: rest, locked := none }) rfl hsize rfl rfl (rest := rest) rfl
    (by rw [hb]; exact d4) (by rw [hb]; exact d7) hout hRframes (by simp only [List.map_cons, List.sum_cons, hcat]; omega) hlocks
  obtain ⟨f1, f2⟩ := vx_frame hsame
  rw [hhp] at f1 f2
  have hWs : s.WarmedH U.vm := State.WarmedH.trans hW0 hW
  have hcl : s.vm.findClass cls = some ce.cls := by
    have h9 := hO.cls
    rw [hvm] at h9
    exact h9
  have hall : s.sameButNew ({ U with vm := s.vm } : State) locs mc ms := by
    subst hA
    obtain ⟨e1, e2⟩ := hsame
    rw [State.setFrames_setFrames] at e1
    have h2 : (T.setVm s.vm).sameButNew ({ U with vm := s.vm } : State) [] (0 + 1) (0 + 6) := ⟨e1, e2⟩
    have h3 := X.same.trans h2
    rw [List.append_nil] at h3
    exact h3.mono hc hs
  refine ⟨U, ?_, .threw T.heap.size, hrun, hend, Or.inr ⟨T.heap.size, rfl, cls, ce, locs, hx U hWs.alike f1 (fun q hq => f2 q hq (fun z hz => nomatch hz)), hce, hO.vm, hcl, hWs, hall, hf⟩⟩
  refine st1 _ ?_
  show Steps p.tables e below (T1.setTop { method := m, pc := pc + 3, locals := ls, stack := .ref T.heap.size :: rest, locked := none }) _
  jvm_step X₁.here [X₁.here.top, hexec, d3', Value.category]
  exact hsteps
/-- 'throw new E("text")': new; dup; ldc; invokespecial; athrow -/
theorem vx_throwS {cc : ByteArray} {pc : Nat} (hexec : p.tables.exec = Jvm.exec) (hb : c.code = cc) (hl : l.stackTraces = false) {own cls text : String} {names : List String} {ik is ic mc ms sa : Nat} {A : Nat → Prop}
    (hown : s.vm.findClass own = some m.cls) (hcls : Bundle.fit cls = true) (hnames : ∀ n ∈ names, Bundle.fit n = true)
    (hk : (Cond.classLink own ik cls).before args s = true) (hini : (Cond.initialized cls).before args s = true) (hstr : vk_R own is text sa s) (hat : ∀ w ∈ vx_atS own ic cls names, w.before args s = true)
    (hgood : ∀ w ∈ Cond.classLink own ik cls :: Cond.initialized cls :: vx_atS own ic cls names, vx_ot w = true)
    (hU : vx_Zq Bundle.tN "UNASSIGNED_STACK" Bundle.steD A s s.heap) (hN : vx_Zq Bundle.tN "SUPPRESSED_SENTINEL" Bundle.listD A s s.heap) (hS : va_S A s.heap H locs) (hsize : ls.size = c.maxLocals)
    (d0 : decode cc pc = .ok (.new ik, 3)) (d3 : decode cc (pc + 3) = .ok (.dup, 1)) (d4 : decode cc (pc + 4) = .ok (.ldc is, 2)) (d6 : decode cc (pc + 6) = .ok (.invokespecial ic, 3)) (d9 : decode cc (pc + 9) = .ok (.athrow, 1))
    (hout : ∀ x ∈ c.exceptionTable.toList, covers x (pc + 9) = false)
    (hRframes : names.length + 3 < R.frames) (hRlocals : (rest.map fun v => v.category).sum + (13 * (names.length + 1) + 43) ≤ R.locals) (hRcells : cells + 1 ≤ R.cells) (hRslots : slots + 6 ≤ R.slots) (hlocks : meth.locks = false)
    (hx : ∀ t : State, s.vm.Alike t.vm → H.size ≤ t.heap.size → (∀ q : Nat, q < H.size → t.heap[q]? = H[q]?) → XC cls s t)
    (hf : ∀ z ∈ locs, free z.base) (hc : cells + 1 ≤ mc) (hs : slots + 6 ≤ ms) :
    W p l e R s m args below meth c H locs cells slots (vx_MQ below Qc XC args s mc ms free) (F0 m pc ls rest) := by
  intro T hT X
  have htr : e.platform.stackTraces = false := (show e.platform.stackTraces = l.stackTraces by rw [X.admits.platform]).trans hl
  have Y := vx_rebase X (R' := { frames := R.frames, locals := R.locals, cells := 1, slots := 6 }) (Nat.le_refl _) (Nat.le_refl _) hRcells hRslots
  obtain ⟨s', hA⟩ : ∃ z, z = (T.setVm s.vm).setFrames (.invoking m args :: below) := ⟨_, rfl⟩
  rw [← hA] at Y
  have hvm : s'.vm = s.vm := by rw [hA]; rfl
  have hhp : s'.heap = H := by rw [hA]; exact hT
  have hW0 : s.WarmedH s'.vm := by rw [hvm]; exact State.WarmedH.refl s
  have hat' : ∀ w ∈ vx_atS own ic cls names, w.before args s' = true := fun w hw => vx_ot_at hW0 hvm.symm (hgood w (List.mem_cons_of_mem _ (List.mem_cons_of_mem _ hw))) (hat w hw)
  have hk' : (Cond.classLink own ik cls).before args s' = true := vx_ot_at hW0 hvm.symm (hgood _ List.mem_cons_self) hk
  have hini' : (Cond.initialized cls).before args s' = true := vx_ot_at hW0 hvm.symm (hgood _ (List.mem_cons_of_mem _ List.mem_cons_self)) hini
  have hU' : vx_Zq Bundle.tN "UNASSIGNED_STACK" Bundle.steD A s' s'.heap := by rw [hhp]; exact vx_Zq.moved hW0.alike (hU.kept hS.2.1)
  have hN' : vx_Zq Bundle.tN "SUPPRESSED_SENTINEL" Bundle.listD A s' s'.heap := by rw [hhp]; exact vx_Zq.moved hW0.alike (hN.kept hS.2.1)
  have h : ∀ w ∈ Bundle.ownAtoms own ic cls names, w.before args s' = true := vx_own hat' (vx_isRefq hU'.1) (vx_isRefq hN'.1) hU'.2.word hN'.2.word
  have hown' : s'.vm.findClass own = some m.cls := by rw [hvm]; exact hown
  have hins : (Cond.instantiable cls 6).before args s' = true := h _ (by simp [Bundle.ownAtoms])
  obtain ⟨vm₁, cX, kX, hfX, hkX, -, -, X₁, st1⟩ := Y.newCold hexec (own := own) (C := cls) (index := ik) (n := 6) hown' hk' hins hini'
    (g := F0 m pc ls rest) rfl (by rw [hb]; exact d0) (Nat.le_refl _) (Nat.le_refl _)
  generalize hT1 : (T.setVm vm₁).pushCell { cls := cX, slots := kX.instanceTypes.map defaultValue, vm := .none } = T1 at X₁ st1
  have hcat : (Value.ref T.heap.size).category = 1 := rfl
  have hcellA : T1.heap[T.heap.size]? = some (freshCell cX kX) := by rw [← hT1]; exact State.heap_pushCell_size _ _
  have d3' : decode c.code (pc + 3) = .ok (.dup, 1) := by rw [hb]; exact d3
  have d4' : decode c.code (pc + 4) = .ok (.ldc is, 2) := by rw [hb]; exact d4
  have hstr' : vk_R own is text sa s' := vk_R.warm hW0 hstr
  obtain ⟨U, hsteps, hrun, hend, hW, hsame, ce, hce, hO⟩ := X₁.ctorThrowS hexec htr (own := own) (cls := cls) (names := names) (ic := ic) hown' hcls hnames h (fun x hx => nomatch hx) hfX hkX hcellA (by rw [hhp, hT]; exact Nat.le_refl _) (msg := .ref sa) rfl
    (g := { method := m, pc := pc + 6, locals := ls, stack := .ref sa :: .ref T.heap.size :: .ref T.heap.size :: rest, locked := none }) rfl hsize rfl rfl (rest := rest) rfl
    (by rw [hb]; exact d6) (by rw [hb]; exact d9) hout hRframes (by simp only [List.map_cons, List.sum_cons, hcat]; omega) hlocks
  obtain ⟨f1, f2⟩ := vx_frame hsame
  rw [hhp] at f1 f2
  have hWs : s.WarmedH U.vm := State.WarmedH.trans hW0 hW
  have hcl : s.vm.findClass cls = some ce.cls := by
    have h9 := hO.cls
    rw [hvm] at h9
    exact h9
  have hall : s.sameButNew ({ U with vm := s.vm } : State) locs mc ms := by
    subst hA
    obtain ⟨e1, e2⟩ := hsame
    rw [State.setFrames_setFrames] at e1
    have h2 : (T.setVm s.vm).sameButNew ({ U with vm := s.vm } : State) [] (0 + 1) (0 + 6) := ⟨e1, e2⟩
    have h3 := X.same.trans h2
    rw [List.append_nil] at h3
    exact h3.mono hc hs
  refine ⟨U, ?_, .threw T.heap.size, hrun, hend, Or.inr ⟨T.heap.size, rfl, cls, ce, locs, hx U hWs.alike f1 (fun q hq => f2 q hq (fun z hz => nomatch hz)), hce, hO.vm, hcl, hWs, hall, hf⟩⟩
  refine st1 _ ?_
  show Steps p.tables e below (T1.setTop { method := m, pc := pc + 3, locals := ls, stack := .ref T.heap.size :: rest, locked := none }) _
  jvm_step X₁.here [X₁.here.top, hexec, d3', Value.category]
  exact X₁.ldcString hexec (own := own) (text := text) (index := is) (a := sa) hown' hstr'.1 hstr'.2
    (g := { method := m, pc := pc + 4, locals := ls, stack := .ref T.heap.size :: .ref T.heap.size :: rest, locked := none }) rfl d4' _ hsteps
/-- 'throw new E("text")', the text by a wide index -/
theorem vx_throwSW {cc : ByteArray} {pc : Nat} (hexec : p.tables.exec = Jvm.exec) (hb : c.code = cc) (hl : l.stackTraces = false) {own cls text : String} {names : List String} {ik is ic mc ms sa : Nat} {A : Nat → Prop}
    (hown : s.vm.findClass own = some m.cls) (hcls : Bundle.fit cls = true) (hnames : ∀ n ∈ names, Bundle.fit n = true)
    (hk : (Cond.classLink own ik cls).before args s = true) (hini : (Cond.initialized cls).before args s = true) (hstr : vk_R own is text sa s) (hat : ∀ w ∈ vx_atS own ic cls names, w.before args s = true)
    (hgood : ∀ w ∈ Cond.classLink own ik cls :: Cond.initialized cls :: vx_atS own ic cls names, vx_ot w = true)
    (hU : vx_Zq Bundle.tN "UNASSIGNED_STACK" Bundle.steD A s s.heap) (hN : vx_Zq Bundle.tN "SUPPRESSED_SENTINEL" Bundle.listD A s s.heap) (hS : va_S A s.heap H locs) (hsize : ls.size = c.maxLocals)
    (d0 : decode cc pc = .ok (.new ik, 3)) (d3 : decode cc (pc + 3) = .ok (.dup, 1)) (d4 : decode cc (pc + 4) = .ok (.ldc_w is, 3)) (d7 : decode cc (pc + 7) = .ok (.invokespecial ic, 3)) (d10 : decode cc (pc + 10) = .ok (.athrow, 1))
    (hout : ∀ x ∈ c.exceptionTable.toList, covers x (pc + 10) = false)
    (hRframes : names.length + 3 < R.frames) (hRlocals : (rest.map fun v => v.category).sum + (13 * (names.length + 1) + 43) ≤ R.locals) (hRcells : cells + 1 ≤ R.cells) (hRslots : slots + 6 ≤ R.slots) (hlocks : meth.locks = false)
    (hx : ∀ t : State, s.vm.Alike t.vm → H.size ≤ t.heap.size → (∀ q : Nat, q < H.size → t.heap[q]? = H[q]?) → XC cls s t)
    (hf : ∀ z ∈ locs, free z.base) (hc : cells + 1 ≤ mc) (hs : slots + 6 ≤ ms) :
    W p l e R s m args below meth c H locs cells slots (vx_MQ below Qc XC args s mc ms free) (F0 m pc ls rest) := by
  intro T hT X
  have htr : e.platform.stackTraces = false := (show e.platform.stackTraces = l.stackTraces by rw [X.admits.platform]).trans hl
  have Y := vx_rebase X (R' := { frames := R.frames, locals := R.locals, cells := 1, slots := 6 }) (Nat.le_refl _) (Nat.le_refl _) hRcells hRslots
  obtain ⟨s', hA⟩ : ∃ z, z = (T.setVm s.vm).setFrames (.invoking m args :: below) := ⟨_, rfl⟩
  rw [← hA] at Y
  have hvm : s'.vm = s.vm := by rw [hA]; rfl
  have hhp : s'.heap = H := by rw [hA]; exact hT
  have hW0 : s.WarmedH s'.vm := by rw [hvm]; exact State.WarmedH.refl s
  have hat' : ∀ w ∈ vx_atS own ic cls names, w.before args s' = true := fun w hw => vx_ot_at hW0 hvm.symm (hgood w (List.mem_cons_of_mem _ (List.mem_cons_of_mem _ hw))) (hat w hw)
  have hk' : (Cond.classLink own ik cls).before args s' = true := vx_ot_at hW0 hvm.symm (hgood _ List.mem_cons_self) hk
  have hini' : (Cond.initialized cls).before args s' = true := vx_ot_at hW0 hvm.symm (hgood _ (List.mem_cons_of_mem _ List.mem_cons_self)) hini
  have hU' : vx_Zq Bundle.tN "UNASSIGNED_STACK" Bundle.steD A s' s'.heap := by rw [hhp]; exact vx_Zq.moved hW0.alike (hU.kept hS.2.1)
  have hN' : vx_Zq Bundle.tN "SUPPRESSED_SENTINEL" Bundle.listD A s' s'.heap := by rw [hhp]; exact vx_Zq.moved hW0.alike (hN.kept hS.2.1)
  have h : ∀ w ∈ Bundle.ownAtoms own ic cls names, w.before args s' = true := vx_own hat' (vx_isRefq hU'.1) (vx_isRefq hN'.1) hU'.2.word hN'.2.word
  have hown' : s'.vm.findClass own = some m.cls := by rw [hvm]; exact hown
  have hins : (Cond.instantiable cls 6).before args s' = true := h _ (by simp [Bundle.ownAtoms])
  obtain ⟨vm₁, cX, kX, hfX, hkX, -, -, X₁, st1⟩ := Y.newCold hexec (own := own) (C := cls) (index := ik) (n := 6) hown' hk' hins hini'
    (g := F0 m pc ls rest) rfl (by rw [hb]; exact d0) (Nat.le_refl _) (Nat.le_refl _)
  generalize hT1 : (T.setVm vm₁).pushCell { cls := cX, slots := kX.instanceTypes.map defaultValue, vm := .none } = T1 at X₁ st1
  have hcat : (Value.ref T.heap.size).category = 1 := rfl
  have hcellA : T1.heap[T.heap.size]? = some (freshCell cX kX) := by rw [← hT1]; exact State.heap_pushCell_size _ _
  have d3' : decode c.code (pc + 3) = .ok (.dup, 1) := by rw [hb]; exact d3
  have d4' : decode c.code (pc + 4) = .ok (.ldc_w is, 3) := by rw [hb]; exact d4
  have hstr' : vk_R own is text sa s' := vk_R.warm hW0 hstr
  obtain ⟨U, hsteps, hrun, hend, hW, hsame, ce, hce, hO⟩ := X₁.ctorThrowS hexec htr (own := own) (cls := cls) (names := names) (ic := ic) hown' hcls hnames h (fun x hx => nomatch hx) hfX hkX hcellA (by rw [hhp, hT]; exact Nat.le_refl _) (msg := .ref sa) rfl
    (g := { method := m, pc := pc + 7, locals := ls, stack := .ref sa :: .ref T.heap.size :: .ref T.heap.size :: rest, locked := none }) rfl hsize rfl rfl (rest := rest) rfl
    (by rw [hb]; exact d7) (by rw [hb]; exact d10) hout hRframes (by simp only [List.map_cons, List.sum_cons, hcat]; omega) hlocks
  obtain ⟨f1, f2⟩ := vx_frame hsame
  rw [hhp] at f1 f2
  have hWs : s.WarmedH U.vm := State.WarmedH.trans hW0 hW
  have hcl : s.vm.findClass cls = some ce.cls := by
    have h9 := hO.cls
    rw [hvm] at h9
    exact h9
  have hall : s.sameButNew ({ U with vm := s.vm } : State) locs mc ms := by
    subst hA
    obtain ⟨e1, e2⟩ := hsame
    rw [State.setFrames_setFrames] at e1
    have h2 : (T.setVm s.vm).sameButNew ({ U with vm := s.vm } : State) [] (0 + 1) (0 + 6) := ⟨e1, e2⟩
    have h3 := X.same.trans h2
    rw [List.append_nil] at h3
    exact h3.mono hc hs
  refine ⟨U, ?_, .threw T.heap.size, hrun, hend, Or.inr ⟨T.heap.size, rfl, cls, ce, locs, hx U hWs.alike f1 (fun q hq => f2 q hq (fun z hz => nomatch hz)), hce, hO.vm, hcl, hWs, hall, hf⟩⟩
  refine st1 _ ?_
  show Steps p.tables e below (T1.setTop { method := m, pc := pc + 3, locals := ls, stack := .ref T.heap.size :: rest, locked := none }) _
  jvm_step X₁.here [X₁.here.top, hexec, d3', Value.category]
  exact X₁.ldcStringW hexec (own := own) (text := text) (index := is) (a := sa) hown' hstr'.1 hstr'.2
    (g := { method := m, pc := pc + 4, locals := ls, stack := .ref T.heap.size :: .ref T.heap.size :: rest, locked := none }) rfl d4' _ hsteps
end Ends
section Bodies
variable {l : Launch}
theorem vx_ofW {y : MethodName} {ws ws' : List Cond} {rm : Room} {Pc : Array Value → State → Prop} {Qc : Array Value → State → Outcome → State → Prop} {XC : String → State → State → Prop} {mc ms : Nat} {free : Addr → Prop} {cc : ByteArray} {maxL : Nat} {ret : Option FieldType}
    (hy : plainName y.cls = true) (hw : ws = Cond.code y cc maxL ret :: ws')
    (body : ∀ p e s m args below meth c s₁, BodyLoose p l y (headSpec ws rm) cc maxL ret e s m args below meth c s₁ → c.maxLocals = maxL → (∀ x ∈ c.exceptionTable.toList, False) → Pc args s →
      W p l e (headSpec ws rm).room s m args below meth c s.heap [] 0 0 (vx_MQ below Qc XC args s mc ms free) (entryFrame m args maxL)) : vx_Met l y ws rm Pc Qc XC mc ms free := by
  refine MetFree.of_bodyS (code := cc) (maxLocals := maxL) (ret := ret) hy ?_ ?_
  · intro args s m h hn
    obtain ⟨meth, c, h1, h2, h3, h4, h5, h6, -, -⟩ := Cond.code_spec hn (atoms_spec (ws := ws) h _ (by rw [hw]; exact List.mem_cons_self))
    exact ⟨meth, c, h1, h2, h3, h4, h5, h6⟩
  · intro p e s m args below meth c s₁ B hml hP _
    have hh0 : s₁.heap = s.heap := by rw [B.state]; rfl
    have ht : ∀ x ∈ c.exceptionTable.toList, False := by
      obtain ⟨meth9, c9, h1, h2, -, -, -, -, h7, -⟩ := Cond.code_spec B.named (atoms_spec (ws := ws) B.pre _ (by rw [hw]; exact List.mem_cons_self))
      cases Option.some.inj (h1.symm.trans B.method)
      cases Option.some.inj (h2.symm.trans (Stand.of_body B).code)
      intro x hx
      rw [Array.isEmpty_iff.mp h7] at hx
      cases hx
    obtain ⟨t, a1, o, b1, b2, b3⟩ := body p e s m args below meth c s₁ B hml ht hP s₁ hh0 (Stand.of_body B)
    exact ⟨t, o, a1, b1, b2, b3⟩
/-- the table of a body with handlers -/
theorem vx_table {p : Program} {x y : MethodName} {S : Spec} {cc bytes : ByteArray} {maxL maxL' : Nat} {ret ret' : Option FieldType} {e : Env} {s s₁ : State} {m : MethodId} {args : Array Value} {below : List Frame} {meth : Method} {c : Code} {hh : List (Nat × Nat × Nat × Nat)}
    (B : BodyLoose p l y S cc maxL ret e s m args below meth c s₁) (h : (Cond.codeWith y bytes maxL' ret' hh).before args s = true) : c.exceptionTable.toList = tableOf hh := by
  obtain ⟨m9, meth9, c9, hn9, h1, h2, -, -, h6, -⟩ := Cond.codeWith_spec h
  cases Option.some.inj (hn9.symm.trans B.named)
  cases Option.some.inj (h1.symm.trans B.method)
  cases Option.some.inj (h2.symm.trans (Stand.of_body B).code)
  rw [← h6, table_eq]
end Bodies
end VXA
/-! ===== END ===== -/
/-! ===== BEGIN a static call of a method with an exception table ===== -/
section VXS
variable {p : Program} {l : Launch} {e : Env} {R : Room} {s : State} {m : MethodId} {args : Array Value} {below : List Frame} {meth : Method} {c : Code} {T : State} {H : Heap} {locs : List Loc} {cells slots : Nat}
abbrev vx_CSW (R : Room) (s : State) (args : Array Value) (own : String) (index : Nat) (y : MethodName) (bytes : ByteArray) (maxL : Nat) (ret : Option FieldType) (hh : List (Nat × Nat × Nat × Nat)) (ws : List Cond) (rm : Room) (mc ms n : Nat) : Prop :=
  (rm.cells = mc ∧ rm.slots = ms ∧ rm.frames + 1 ≤ R.frames ∧ 8 + (maxL + 11) + rm.locals ≤ R.locals ∧ (∀ w ∈ ws, ∀ (a' : Array Value) (U : State), s.WarmedH U.vm → w.before a' U = true) ∧ Cond.codeWith y bytes maxL ret hh ∈ ws) ∧
  (Cond.codeWith y bytes maxL ret hh).before args s = true ∧ (Cond.initialized y.cls).before args s = true ∧ (y.cls ≠ "java/lang/invoke/MethodHandle" ∧ y.cls ≠ "java/lang/invoke/VarHandle") ∧
  (∀ sig, parseMethodDescriptor y.desc = some sig → n = sig.parameters.length) ∧ (Cond.methodLink own index y).before args s = true ∧ (Cond.static y).before args s = true
theorem vx_cwSW {own : String} {index maxL mc ms : Nat} {y : MethodName} {bytes : ByteArray} {ret : Option FieldType} {hh : List (Nat × Nat × Nat × Nat)} {Ts ws ws' : List Cond} {rm : Room} (n : Nat) (ht : ∀ w ∈ Ts, w.before args s = true) (hT : GoodIn Ts (va_wsS own index y ws)) (hw : ws = Cond.codeWith y bytes maxL ret hh :: ws') (hrc : rm.cells = mc) (hrs : rm.slots = ms)
    (hd : y.cls ≠ "java/lang/invoke/MethodHandle" ∧ y.cls ≠ "java/lang/invoke/VarHandle" ∧ (parseMethodDescriptor y.desc).map (fun d => d.parameters.length) = some n) (hR : rm.frames + 1 ≤ R.frames ∧ 8 + (maxL + 11) + rm.locals ≤ R.locals) :
    vx_CSW R s args own index y bytes maxL ret hh ws rm mc ms n := by
  have ok : ∀ w ∈ va_wsS own index y ws, w.before args s = true := fun w h => ht w (hT w h).1
  have hG : GoodIn Ts ws := fun w h => hT w (by unfold va_wsS; exact List.mem_append_right _ h)
  have hc : Cond.codeWith y bytes maxL ret hh ∈ ws := by rw [hw]; exact List.mem_cons_self
  refine ⟨⟨hrc, hrs, hR.1, hR.2, pay_in ht hG, hc⟩, ht _ (hG _ hc).1, ok _ (by simp [va_wsS]), ⟨hd.1, hd.2.1⟩, fun sig h => ?_, ok _ (by simp [va_wsS]), ok _ (by simp [va_wsS])⟩
  have h2 := hd.2.2
  rw [h] at h2
  exact (Option.some.inj h2).symm
theorem vx_callSW (X : Stand p l e R s m args below meth c T locs cells slots) (hexec : p.tables.exec = Jvm.exec) {own : String} {index : Nat} {y : MethodName} {bytes : ByteArray} {maxL : Nat} {ret : Option FieldType} {hh : List (Nat × Nat × Nat × Nat)}
    (hown : s.vm.findClass own = some m.cls) (hlink : (Cond.methodLink own index y).before args s = true) (hstat : (Cond.static y).before args s = true) (hinit : (Cond.initialized y.cls).before args s = true)
    (hcode : (Cond.codeWith y bytes maxL ret hh).before args s = true) (hy : y.cls ≠ "java/lang/invoke/MethodHandle" ∧ y.cls ≠ "java/lang/invoke/VarHandle")
    {W9 : Nat} {Pre : Pt → Array Value → Prop} {Post : Pt → Array Value → Option Value → Pt → Prop} (hK : Back l R p e below s args y 3 W9 Pre Post)
    {g : JFrame} (hg : g.method = m) (hsize : g.locals.size = c.maxLocals) {argsL rest : List Value} (hlen : ∀ sig, parseMethodDescriptor y.desc = some sig → argsL.length = sig.parameters.length)
    (hstack : g.stack = argsL.reverse ++ rest) (hW : 2 * g.monitorRoom + (rest.map fun v => v.category).sum ≤ W9) (hdg : decode c.code g.pc = .ok (.invokestatic index, 3))
    (hpre : ∀ vm₁, s.WarmedH vm₁ → Pre ⟨T.setVm vm₁, locs, cells, slots⟩ argsL.toArray) :
    ∃ (v : Option Value) (vm₁ : Vm) (B : Pt), s.WarmedH vm₁ ∧ Stand p l e R s m args below meth c B.U B.locs B.cells B.slots ∧ Post ⟨T.setVm vm₁, locs, cells, slots⟩ argsL.toArray v B ∧
      ∀ target, Steps p.tables e below (B.U.setTop { g with pc := g.pc + 3, stack := v.toList ++ rest }) target → Steps p.tables e below (T.setTop g) target := by
  obtain ⟨mk, methM, cM, hnamed, hmethM, -, -, -, -, -, -, hsigM⟩ := Cond.codeWith_spec hcode
  have hstatic : methM.isStatic = true := Cond.static_spec hnamed hmethM hstat
  obtain ⟨kP, hkP, -⟩ := className_of_methodNamed hnamed
  have hinitP : kP.init = .initialized := Cond.initialized_spec (findClass_of_methodNamed hnamed) hkP hinit
  obtain ⟨vm₁, X₁, hstep₁⟩ := X.invokestatic hexec hown hlink hnamed hmethM hstatic hkP hinitP hy (g := g) hg (argsL := argsL) (rest := rest) (hlen _ hsigM) hstack hdg
  obtain ⟨v, B, X', hpost, hsteps⟩ := hK m meth c ⟨T.setVm vm₁, locs, cells, slots⟩ { g with stack := rest } (.invokestatic index) mk argsL.toArray X₁ hg hsize hdg hW (X₁.named hnamed) (hpre vm₁ X₁.warmed)
  exact ⟨v, vm₁, B, X₁.warmed, X', hpost, fun target h => hstep₁ _ fun acts => by rw [doInvoke_state]; exact hsteps.trans h⟩
theorem vx_runSW {y : MethodName} {bytes cc : ByteArray} {maxL nL mc ms n index : Nat} {ret : Option FieldType} {hh : List (Nat × Nat × Nat × Nat)} {ws : List Cond} {rm : Room} {Pc : Array Value → State → Prop} {Qc : Array Value → State → Outcome → State → Prop} {free : Addr → Prop} {Ts : List Cond} {own : String} {As rest : List Value} {g : JFrame}
    (S : CallFix p m c cc nL s args Ts own) (hM : Met l y ws rm Pc Qc mc ms free) (cw : vx_CSW R s args own index y bytes maxL ret hh ws rm mc ms n) (hp : PreS s H Pc As)
    (hg : g.method = m) (hn : As.length = n) (hsize : g.locals.size = nL) (hstack : g.stack = As.reverse ++ rest) (hW : 2 * g.monitorRoom + (rest.map fun v => v.category).sum ≤ 8) (hdg : decode cc g.pc = .ok (.invokestatic index, 3)) (hf : cells + mc ≤ R.cells ∧ slots + ms ≤ R.slots) :
    va_Run p l e R s m args below meth c H locs cells slots mc ms g rest (Qc As.toArray) (free) := by
  obtain ⟨⟨hrc, hrs, hfr, hlo, hws, hcw⟩, hcode, hini, hy, hlen, hl, hstt⟩ := cw
  have hK : Back l R p e below s args y 3 8 (PreOf R mc ms Pc) (PostOf Qc mc ms free) := va_backW (hh := hh) (bytes := bytes) (maxL := maxL) (ret := ret) hM hp.1 hrc hrs hfr hlo hws hcw (fun a' U hW => word_at hW (Or.inl (by first | rfl | simp [Cond.onTables, Cond.keeps, Cond.steady])) hini)
  obtain ⟨hx, hb, hml, ho, -⟩ := S
  intro T hT X
  obtain ⟨v, vm₁, ⟨U', l2, c2, s2⟩, hW₁, X', ⟨g', mk, t, L, e1, e2, hq, h1, hL, h2, h3⟩, st⟩ := vx_callSW X hx (hh := hh) (bytes := bytes) (maxL := maxL) (ret := ret) ho hl hstt hini hcode hy hK hg (hsize.trans hml.symm) (argsL := As) (rest := rest) (fun sig h => hn.trans (hlen sig h)) hstack hW (by rw [hb]; exact hdg)
    (fun vm₁ hW₁ => ⟨hf.1, hf.2, hp.2 (T.setVm vm₁) hT hW₁⟩)
  dsimp only [Pt.U, Pt.locs, Pt.cells, Pt.slots] at X' e1 e2 h1 h2 h3 st
  subst h1; subst h2; subst h3
  exact ⟨v, (T.setVm vm₁).calling g' mk As.toArray, t, U', L, hT, X', hL, e1, e2, hq, st⟩
/-- not caught here, past rows that name other classes: it goes on to the caller -/
theorem vx_outP {p : Program} {l : Launch} {e : Env} {R : Room} {s : State} {m : MethodId} {args : Array Value} {below : List Frame} {meth : Method} {c : Code} {H : Heap} {locs : List Loc} {cells slots : Nat} {free : Addr → Prop} {ls : Array Slot} {rest : List Value} {Qc : Array Value → State → Outcome → State → Prop} {XC : String → State → State → Prop}
    {pc : Nat} {own E : String} {ce : Cell} {q : Addr} {mc ms : Nat} (hown : s.vm.findClass own = some m.cls) (hlocks : meth.locks = false)
    (hpass : ∀ z ∈ c.exceptionTable.toList, covers z pc = false ∨ (z.catchType ≠ 0 ∧ ∃ nm : String, (Cond.classLink own z.catchType nm).before args s = true ∧ va_Nc E nm s)) (hcell : H[q]? = some ce) (hv : ce.vm = .none) (hcl : s.vm.findClass E = some ce.cls)
    (hx : ∀ t : State, t.heap = H → s.vm.Alike t.vm → XC E s t) (hf : ∀ z ∈ locs, free z.base) (hc : cells ≤ mc) (hs : slots ≤ ms) :
    vx_W p l e R s m args below meth c H locs cells slots (vx_MQ below Qc XC args s mc ms free) (F0 m pc ls rest) q := by
  intro T hT X
  have hpl : e.platform.magicAccessors = ({} : Platform).magicAccessors := by rw [X.admits.platform]
  obtain ⟨vm', hW', X', st⟩ := X.outThrough hlocks q (g := F0 m pc ls rest) rfl rfl rfl (cell := ce) (by rw [hT]; exact hcell) (by rw [hv]; rfl)
    (by obtain ⟨k9, h9, -⟩ := Vm.findClass_spec hcl; exact ⟨k9, h9⟩) (fun z hz => by
      rcases hpass z hz with h | ⟨hz0, nm, hl1, hn1⟩
      · exact Or.inl h
      · obtain ⟨c6, hc6, hcl6⟩ := Cond.classLink_spec hown hl1 e.platform hpl
        obtain ⟨a8, b8, h1, h2, h3⟩ := hn1
        cases Option.some.inj (h1.symm.trans hcl)
        cases Option.some.inj (h2.symm.trans hc6)
        exact Or.inr ⟨hz0, _, hcl6, h3⟩)
  obtain ⟨g₀, hfr⟩ := X'.frames_eq
  have hcell9 : ((T.setVm vm').setFrames (.throwing q :: below)).heap[q]? = some ce := by
    show T.heap[q]? = some ce
    rw [hT]; exact hcell
  have hend : Ended ((T.setVm vm').setFrames (.throwing q :: below)) below (.threw q) := State.frames_setFrames _ (State.cur_lt_of_frames hfr)
  refine ⟨(T.setVm vm').setFrames (.throwing q :: below), ?_, .threw q, X'.here.running, hend, Or.inr ⟨q, rfl, E, ce, locs, hx _ hT (X'.ends _).1.alike, hcell9, hv, hcl, (X'.ends _).1, (X'.ends _).2.mono hc hs, hf⟩⟩
  rw [X.pushThrowing_eq]
  exact st
/-- a thing of a world lies in the heap -/
theorem vx_lt {D : va_G} {cl : List vw_C} {ws : va_W} {H1 : Heap} (h : va_P D cl ws H1) {k : Nat} {q : Nat × va_E} (hk : ws[k]? = some q) : q.1 < H1.size := (h k q hk).lt
end VXS
/-! ===== END ===== -/
/-! ===== BEGIN methods with a table of their own: called by a name, returning or throwing ===== -/
section VXH
/-! vx_backW, vx_callVX, vx_callSX, vx_callVW, vx_runVW, vx_runVX, vx_runSX, vx_ofWH follow the same proofs as their sisters above (Free/Laws.lean, Shelf42/LK1.lean); vx_outP calls Shelf42/NT130.lean (outThrough). -/
section
variable {l : Launch} {R : Room} {p : Program} {e : Env} {below : List Frame} {s : State} {sargs : Array Value} {y : MethodName} {len W9 : Nat}
theorem vx_backW {ws : List Cond} {rm : Room} {Pc : Array Value → State → Prop} {Qc : Array Value → State → Outcome → State → Prop} {XC : String → State → State → Prop} {mc ms : Nat} {free : Addr → Prop} {bytes : ByteArray} {maxL : Nat} {ret : Option FieldType} {hh : List (Nat × Nat × Nat × Nat)}
    (hM : vx_Met l y ws rm Pc Qc XC mc ms free) (hblind : FrameBlind Pc) (hrc : rm.cells = mc) (hrs : rm.slots = ms)
    (hframes : rm.frames + 1 ≤ R.frames) (hlocals : W9 + (maxL + 11) + rm.locals ≤ R.locals)
    (hws : ∀ w ∈ ws, ∀ a' U, s.WarmedH U.vm → w.before a' U = true) (hcode : Cond.codeWith y bytes maxL ret hh ∈ ws) (hinit : ∀ a' U, s.WarmedH U.vm → (Cond.initialized y.cls).before a' U = true) :
    vx_Back l R p e below s sargs y len W9 (PreOf R mc ms Pc) (PostOf Qc mc ms free) (vx_Post XC mc ms free) := by
  intro m meth c A g ig mk a X hg hsize hdg hW hn hp
  have h1 : (headSpec ws rm).pre.before a A.U = true := atoms_intro fun w hw => hws w hw _ _ X.warmed
  have h2 : (Cond.codeWith y bytes maxL ret hh).before a A.U = true := hws _ hcode _ _ X.warmed
  have h3 : (Cond.initialized y.cls).before a A.U = true := hinit _ _ X.warmed
  have h4 : A.cells + (headSpec ws rm).room.cells ≤ R.cells := by rw [show (headSpec ws rm).room.cells = mc from hrc]; exact hp.1
  have h5 : A.slots + (headSpec ws rm).room.slots ≤ R.slots := by rw [show (headSpec ws rm).room.slots = ms from hrs]; exact hp.2.1
  have hPc : Pc a (A.U.calling g mk a) := hblind _ _ _ _ hp.2.2
  obtain ⟨U, Ls, c0, s0⟩ := A
  dsimp only [Pt.U, Pt.locs, Pt.cells, Pt.slots] at h1 h2 h3 h4 h5 X hn hPc ⊢
  obtain ⟨m9, methY, cY, hn9, hmY, hcY, -, hlY, -⟩ := Cond.codeWith_spec h2
  cases Option.some.inj (hn9.symm.trans hn)
  obtain ⟨kY, hkY, -⟩ := className_of_methodNamed hn
  have hinitY : kY.init = .initialized := Cond.initialized_spec (findClass_of_methodNamed hn) hkY h3
  have h : At U g.method c below := by rw [hg]; exact X.here
  have hlocals9 : W9 + (maxL + 11) + (headSpec ws rm).room.locals ≤ R.locals := hlocals
  have happ : (headSpec ws rm).appliesLoose y e.platform (U.calling g mk a) = true :=
    Spec.appliesLoose_calling (g := g) h hdg hn hkY hinitY
      (X.room_calling (g := g) (R' := (headSpec ws rm).room) hsize hmY hcY hframes (by rw [hlY]; omega) h4 h5) h1
  obtain ⟨mid, hmid⟩ := h.above
  have hfr : (U.setTop g).frames = (.java g :: mid) ++ below := by rw [State.frames_setTop' g h.top, hmid]; rfl
  obtain ⟨o, s₂, hsteps, -, hend, hq⟩ := Steps.callFree hM p X.admits X.cas X.clock (acts := []) hfr happ hPc trivial
  have hq' : vx_Q Qc XC mc ms free a (U.calling g mk a) o s₂ := hq
  rw [State.frames_setTop' g h.top] at hend
  obtain ⟨g₀, hg0⟩ := Option.isSome_iff_exists.mp h.top
  obtain ⟨r, hr⟩ := State.topJava?_eq_some.mp hg0
  have hr' : (({ U with heap := s₂.heap, slotsUsed := s₂.slotsUsed } : State).setVm s₂.vm).frames = .java g₀ :: r := hr
  rcases hq' with ⟨hqc, L, hfe, hL⟩ | ⟨q, rfl, E, ce, L, hx, hce, hcv, hcl, hW₂, hsm, hL⟩
  · obtain ⟨⟨v, rfl⟩, hW₂, e2, q2, q3, q4, q5, q6⟩ := id hfe
    have e3 : s₂ = ({ (U.calling g mk a).setFrames s₂.frames with heap := s₂.heap, slotsUsed := s₂.slotsUsed } : State).setVm s₂.vm := by
      have : s₂ = ({ s₂ with vm := (U.calling g mk a).vm } : State).setVm s₂.vm := rfl
      rw [e2] at this
      exact this
    obtain ⟨c₂, i₂, len₂, hc₂, hd₂, hf₂⟩ := hend
    have hW' : U.WarmedH s₂.vm := hW₂
    have hcc : c₂ = c := by
      have h1 : s₂.code? g.method = U.code? g.method := by
        rw [State.code?_eq, State.code?_eq, hW'.alike.method?]
      exact Option.some.inj (hc₂.symm.trans (h1.trans h.code))
    subst hcc
    have hlen : len₂ = len := by rw [hdg] at hd₂; cases hd₂; rfl
    subst hlen
    have hs₂ : s₂ = (({ U with heap := s₂.heap, slotsUsed := s₂.slotsUsed } : State).setVm s₂.vm).setTop { g with pc := g.pc + len₂, stack := v.toList ++ g.stack } := by
      refine e3.trans ?_
      rw [hf₂, State.calling_eq h.top, State.setFrames_setFrames, State.setTop_of_frames _ hr', hr]
      rfl
    have hsame : U.sameButNew ({ U with heap := s₂.heap, slotsUsed := s₂.slotsUsed } : State) L mc ms := by
      refine ⟨?_, q2, q3, q4, q5, q6⟩
      obtain ⟨t, ht, -⟩ := State.frames_cons hr
      show ({ U with heap := s₂.heap, slotsUsed := s₂.slotsUsed } : State) = { U.setFrames U.frames with heap := s₂.heap, slotsUsed := s₂.slotsUsed }
      rw [State.setFrames_self ht]
    subst hg
    refine Or.inl ⟨v, ⟨(({ U with heap := s₂.heap, slotsUsed := s₂.slotsUsed } : State).setVm s₂.vm), Ls ++ L, c0 + mc, s0 + ms⟩,
      ⟨X.admits, X.cas, X.clock, X.frames, X.room, X.hears, X.method, X.code, (X.here.setHeapUsed s₂.heap s₂.slotsUsed).setVm hW'.alike, X.tail, State.WarmedH.trans X.warmed hW', X.limits, X.bytes, X.same.trans (hsame.setVm s.vm)⟩,
      ⟨g, mk, s₂, L, rfl, rfl, hqc, rfl, hL, rfl, rfl⟩, ?_⟩
    show Steps p.tables e below _ ((({ U with heap := s₂.heap, slotsUsed := s₂.slotsUsed } : State).setVm s₂.vm).setTop { g with pc := g.pc + len₂, stack := v.toList ++ g.stack })
    rw [← hs₂]
    exact hsteps
  · obtain ⟨e2, q2, q3, q4, q5, q6⟩ := id hsm
    have e3 : s₂ = ({ (U.calling g mk a).setFrames s₂.frames with heap := s₂.heap, slotsUsed := s₂.slotsUsed } : State).setVm s₂.vm := by
      have : s₂ = ({ s₂ with vm := (U.calling g mk a).vm } : State).setVm s₂.vm := rfl
      rw [e2] at this
      exact this
    have hf₂ : s₂.frames = .throwing q :: .java g :: U.frames.tail := hend
    have hW' : U.WarmedH s₂.vm := hW₂
    have hs₂ : s₂ = ((({ U with heap := s₂.heap, slotsUsed := s₂.slotsUsed } : State).setVm s₂.vm).setTop g).pushFrame (.throwing q) := by
      refine e3.trans ?_
      rw [hf₂, State.calling_eq h.top, State.setFrames_setFrames, State.pushFrame, State.frames_setTop _ hr', State.setTop_of_frames _ hr', State.setFrames_setFrames, hr]
      rfl
    have hsame : U.sameButNew ({ U with heap := s₂.heap, slotsUsed := s₂.slotsUsed } : State) L mc ms := by
      refine ⟨?_, q2, q3, q4, q5, q6⟩
      obtain ⟨t, ht, -⟩ := State.frames_cons hr
      show ({ U with heap := s₂.heap, slotsUsed := s₂.slotsUsed } : State) = { U.setFrames U.frames with heap := s₂.heap, slotsUsed := s₂.slotsUsed }
      rw [State.setFrames_self ht]
    subst hg
    refine Or.inr ⟨q, ⟨(({ U with heap := s₂.heap, slotsUsed := s₂.slotsUsed } : State).setVm s₂.vm), Ls ++ L, c0 + mc, s0 + ms⟩,
      ⟨X.admits, X.cas, X.clock, X.frames, X.room, X.hears, X.method, X.code, (X.here.setHeapUsed s₂.heap s₂.slotsUsed).setVm hW'.alike, X.tail, State.WarmedH.trans X.warmed hW', X.limits, X.bytes, X.same.trans (hsame.setVm s.vm)⟩,
      ⟨g, mk, s₂, L, E, ce, rfl, rfl, hx, hce, hcv, hcl, rfl, hL, rfl, rfl⟩, ?_⟩
    show Steps p.tables e below _ (((({ U with heap := s₂.heap, slotsUsed := s₂.slotsUsed } : State).setVm s₂.vm).setTop g).pushFrame (.throwing q))
    rw [← hs₂]
    exact hsteps
end
variable {p : Program} {l : Launch} {e : Env} {R : Room} {s : State} {m : MethodId} {args : Array Value} {below : List Frame} {meth : Method} {c : Code} {T : State} {H : Heap} {locs : List Loc} {cells slots : Nat}
theorem vx_callVX (X : Stand p l e R s m args below meth c T locs cells slots) (hexec : p.tables.exec = Jvm.exec) {own C : String} {index : Nat} {y : MethodName} {bytes : ByteArray} {maxL : Nat} {ret : Option FieldType} {hh : List (Nat × Nat × Nat × Nat)}
    (hown : s.vm.findClass own = some m.cls) (hlink : (Cond.methodLink own index y).before args s = true) (hinst : (Cond.instanceMethod y).before args s = true) (hsel : (Cond.selects C y y).before args s = true)
    (hcode : (Cond.codeWith y bytes maxL ret hh).before args s = true) (hy : y.cls ≠ "java/lang/invoke/MethodHandle" ∧ y.cls ≠ "java/lang/invoke/VarHandle")
    {W9 : Nat} {Pre : Pt → Array Value → Prop} {Post : Pt → Array Value → Option Value → Pt → Prop} {PostX : Pt → Array Value → Addr → Pt → Prop} (hK : vx_Back l R p e below s args y 3 W9 Pre Post PostX)
    {b : Addr} {cellB : Cell} (hcell : T.heap[b]? = some cellB) (hobj : cellB.vm.isStatics = false) (hcls : s.vm.findClass C = some cellB.cls)
    {g : JFrame} (hg : g.method = m) (hsize : g.locals.size = c.maxLocals) {argsL rest : List Value} (hlen : ∀ sig, parseMethodDescriptor y.desc = some sig → argsL.length = sig.parameters.length)
    (hstack : g.stack = argsL.reverse ++ .ref b :: rest) (hW : 2 * g.monitorRoom + (rest.map fun v => v.category).sum ≤ W9) (hdg : decode c.code g.pc = .ok (.invokevirtual index, 3))
    (hpre : ∀ vm₁, s.WarmedH vm₁ → Pre ⟨T.setVm vm₁, locs, cells, slots⟩ (Value.ref b :: argsL).toArray) :
    (∃ (v : Option Value) (vm₁ : Vm) (B : Pt), s.WarmedH vm₁ ∧ Stand p l e R s m args below meth c B.U B.locs B.cells B.slots ∧ Post ⟨T.setVm vm₁, locs, cells, slots⟩ (Value.ref b :: argsL).toArray v B ∧
      ∀ target, Steps p.tables e below (B.U.setTop { g with pc := g.pc + 3, stack := v.toList ++ rest }) target → Steps p.tables e below (T.setTop g) target) ∨
    (∃ (q : Addr) (vm₁ : Vm) (B : Pt), s.WarmedH vm₁ ∧ Stand p l e R s m args below meth c B.U B.locs B.cells B.slots ∧ PostX ⟨T.setVm vm₁, locs, cells, slots⟩ (Value.ref b :: argsL).toArray q B ∧
      Steps p.tables e below (T.setTop g) ((B.U.setTop { g with stack := rest }).pushFrame (.throwing q))) := by
  obtain ⟨mk, methM, hnamed, hmethM, hstM, habM⟩ := Cond.instanceMethod_spec hinst
  obtain ⟨m8, methM', cM, hn8, hmethM', -, -, -, -, -, -, hsigM⟩ := Cond.codeWith_spec hcode
  cases Option.some.inj (hn8.symm.trans hnamed)
  cases hmethM.symm.trans hmethM'
  obtain ⟨c2, r2, m2, q1, q2, q3, q4, kP, hkP, hkPi⟩ := Cond.selects_spec hsel
  cases hcls.symm.trans q1
  cases (State.methodFound?_of_named hnamed hy).symm.trans q2
  cases hnamed.symm.trans q3
  have hselP : selectMethod e.platform s.vm cellB.cls mk = .method mk := by rw [Launch.admits_selectMethod X.admits]; exact q4
  obtain ⟨vm₁, X₁, hstep₁⟩ := X.invokevirtual hexec hown hlink hnamed hmethM hstM hkP hkPi hy (a := b) (cell := cellB) hcell
    (fun z h => by rw [h] at hobj; cases hobj) hselP hmethM habM hkP hkPi (g := g) hg (argsL := argsL) (rest := rest) (hlen _ hsigM) hstack hdg
  rcases hK m meth c ⟨T.setVm vm₁, locs, cells, slots⟩ { g with stack := rest } (.invokevirtual index) mk (Value.ref b :: argsL).toArray X₁ hg hsize hdg hW (X₁.named hnamed) (hpre vm₁ X₁.warmed) with ⟨v, B, X', hpost, hsteps⟩ | ⟨q, B, X', hpost, hsteps⟩
  · exact Or.inl ⟨v, vm₁, B, X₁.warmed, X', hpost, fun target h => hstep₁ _ fun acts => by rw [doInvoke_state]; exact hsteps.trans h⟩
  · exact Or.inr ⟨q, vm₁, B, X₁.warmed, X', hpost, hstep₁ _ fun acts => by rw [doInvoke_state]; exact hsteps⟩
theorem vx_callSX (X : Stand p l e R s m args below meth c T locs cells slots) (hexec : p.tables.exec = Jvm.exec) {own : String} {index : Nat} {y : MethodName} {bytes : ByteArray} {maxL : Nat} {ret : Option FieldType} {hh : List (Nat × Nat × Nat × Nat)}
    (hown : s.vm.findClass own = some m.cls) (hlink : (Cond.methodLink own index y).before args s = true) (hstat : (Cond.static y).before args s = true) (hinit : (Cond.initialized y.cls).before args s = true)
    (hcode : (Cond.codeWith y bytes maxL ret hh).before args s = true) (hy : y.cls ≠ "java/lang/invoke/MethodHandle" ∧ y.cls ≠ "java/lang/invoke/VarHandle")
    {W9 : Nat} {Pre : Pt → Array Value → Prop} {Post : Pt → Array Value → Option Value → Pt → Prop} {PostX : Pt → Array Value → Addr → Pt → Prop} (hK : vx_Back l R p e below s args y 3 W9 Pre Post PostX)
    {g : JFrame} (hg : g.method = m) (hsize : g.locals.size = c.maxLocals) {argsL rest : List Value} (hlen : ∀ sig, parseMethodDescriptor y.desc = some sig → argsL.length = sig.parameters.length)
    (hstack : g.stack = argsL.reverse ++ rest) (hW : 2 * g.monitorRoom + (rest.map fun v => v.category).sum ≤ W9) (hdg : decode c.code g.pc = .ok (.invokestatic index, 3))
    (hpre : ∀ vm₁, s.WarmedH vm₁ → Pre ⟨T.setVm vm₁, locs, cells, slots⟩ argsL.toArray) :
    (∃ (v : Option Value) (vm₁ : Vm) (B : Pt), s.WarmedH vm₁ ∧ Stand p l e R s m args below meth c B.U B.locs B.cells B.slots ∧ Post ⟨T.setVm vm₁, locs, cells, slots⟩ argsL.toArray v B ∧
      ∀ target, Steps p.tables e below (B.U.setTop { g with pc := g.pc + 3, stack := v.toList ++ rest }) target → Steps p.tables e below (T.setTop g) target) ∨
    (∃ (q : Addr) (vm₁ : Vm) (B : Pt), s.WarmedH vm₁ ∧ Stand p l e R s m args below meth c B.U B.locs B.cells B.slots ∧ PostX ⟨T.setVm vm₁, locs, cells, slots⟩ argsL.toArray q B ∧
      Steps p.tables e below (T.setTop g) ((B.U.setTop { g with stack := rest }).pushFrame (.throwing q))) := by
  obtain ⟨mk, methM, cM, hnamed, hmethM, -, -, -, -, -, -, hsigM⟩ := Cond.codeWith_spec hcode
  have hstatic : methM.isStatic = true := Cond.static_spec hnamed hmethM hstat
  obtain ⟨kP, hkP, -⟩ := className_of_methodNamed hnamed
  have hinitP : kP.init = .initialized := Cond.initialized_spec (findClass_of_methodNamed hnamed) hkP hinit
  obtain ⟨vm₁, X₁, hstep₁⟩ := X.invokestatic hexec hown hlink hnamed hmethM hstatic hkP hinitP hy (g := g) hg (argsL := argsL) (rest := rest) (hlen _ hsigM) hstack hdg
  rcases hK m meth c ⟨T.setVm vm₁, locs, cells, slots⟩ { g with stack := rest } (.invokestatic index) mk argsL.toArray X₁ hg hsize hdg hW (X₁.named hnamed) (hpre vm₁ X₁.warmed) with ⟨v, B, X', hpost, hsteps⟩ | ⟨q, B, X', hpost, hsteps⟩
  · exact Or.inl ⟨v, vm₁, B, X₁.warmed, X', hpost, fun target h => hstep₁ _ fun acts => by rw [doInvoke_state]; exact hsteps.trans h⟩
  · exact Or.inr ⟨q, vm₁, B, X₁.warmed, X', hpost, hstep₁ _ fun acts => by rw [doInvoke_state]; exact hsteps⟩
theorem vx_callVW (X : Stand p l e R s m args below meth c T locs cells slots) (hexec : p.tables.exec = Jvm.exec) {own C : String} {index : Nat} {y : MethodName} {bytes : ByteArray} {maxL : Nat} {ret : Option FieldType} {hh : List (Nat × Nat × Nat × Nat)}
    (hown : s.vm.findClass own = some m.cls) (hlink : (Cond.methodLink own index y).before args s = true) (hinst : (Cond.instanceMethod y).before args s = true) (hsel : (Cond.selects C y y).before args s = true)
    (hcode : (Cond.codeWith y bytes maxL ret hh).before args s = true) (hy : y.cls ≠ "java/lang/invoke/MethodHandle" ∧ y.cls ≠ "java/lang/invoke/VarHandle")
    {W9 : Nat} {Pre : Pt → Array Value → Prop} {Post : Pt → Array Value → Option Value → Pt → Prop} (hK : Back l R p e below s args y 3 W9 Pre Post)
    {b : Addr} {cellB : Cell} (hcell : T.heap[b]? = some cellB) (hobj : cellB.vm.isStatics = false) (hcls : s.vm.findClass C = some cellB.cls)
    {g : JFrame} (hg : g.method = m) (hsize : g.locals.size = c.maxLocals) {argsL rest : List Value} (hlen : ∀ sig, parseMethodDescriptor y.desc = some sig → argsL.length = sig.parameters.length)
    (hstack : g.stack = argsL.reverse ++ .ref b :: rest) (hW : 2 * g.monitorRoom + (rest.map fun v => v.category).sum ≤ W9) (hdg : decode c.code g.pc = .ok (.invokevirtual index, 3))
    (hpre : ∀ vm₁, s.WarmedH vm₁ → Pre ⟨T.setVm vm₁, locs, cells, slots⟩ (Value.ref b :: argsL).toArray) :
    ∃ (v : Option Value) (vm₁ : Vm) (B : Pt), s.WarmedH vm₁ ∧ Stand p l e R s m args below meth c B.U B.locs B.cells B.slots ∧ Post ⟨T.setVm vm₁, locs, cells, slots⟩ (Value.ref b :: argsL).toArray v B ∧
      ∀ target, Steps p.tables e below (B.U.setTop { g with pc := g.pc + 3, stack := v.toList ++ rest }) target → Steps p.tables e below (T.setTop g) target := by
  obtain ⟨mk, methM, hnamed, hmethM, hstM, habM⟩ := Cond.instanceMethod_spec hinst
  obtain ⟨m8, methM', cM, hn8, hmethM', -, -, -, -, -, -, hsigM⟩ := Cond.codeWith_spec hcode
  cases Option.some.inj (hn8.symm.trans hnamed)
  cases hmethM.symm.trans hmethM'
  obtain ⟨c2, r2, m2, q1, q2, q3, q4, kP, hkP, hkPi⟩ := Cond.selects_spec hsel
  cases hcls.symm.trans q1
  cases (State.methodFound?_of_named hnamed hy).symm.trans q2
  cases hnamed.symm.trans q3
  have hselP : selectMethod e.platform s.vm cellB.cls mk = .method mk := by rw [Launch.admits_selectMethod X.admits]; exact q4
  obtain ⟨vm₁, X₁, hstep₁⟩ := X.invokevirtual hexec hown hlink hnamed hmethM hstM hkP hkPi hy (a := b) (cell := cellB) hcell
    (fun z h => by rw [h] at hobj; cases hobj) hselP hmethM habM hkP hkPi (g := g) hg (argsL := argsL) (rest := rest) (hlen _ hsigM) hstack hdg
  obtain ⟨v, B, X', hpost, hsteps⟩ := hK m meth c ⟨T.setVm vm₁, locs, cells, slots⟩ { g with stack := rest } (.invokevirtual index) mk (Value.ref b :: argsL).toArray X₁ hg hsize hdg hW (X₁.named hnamed) (hpre vm₁ X₁.warmed)
  exact ⟨v, vm₁, B, X₁.warmed, X', hpost, fun target h => hstep₁ _ fun acts => by rw [doInvoke_state]; exact hsteps.trans h⟩
abbrev vx_CVW (R : Room) (s : State) (args : Array Value) (own C : String) (index : Nat) (y : MethodName) (bytes : ByteArray) (maxL : Nat) (ret : Option FieldType) (hh : List (Nat × Nat × Nat × Nat)) (ws : List Cond) (rm : Room) (mc ms n : Nat) : Prop :=
  (rm.cells = mc ∧ rm.slots = ms ∧ rm.frames + 1 ≤ R.frames ∧ 8 + (maxL + 11) + rm.locals ≤ R.locals ∧ (∀ w ∈ ws, ∀ (a' : Array Value) (U : State), s.WarmedH U.vm → w.before a' U = true) ∧ Cond.codeWith y bytes maxL ret hh ∈ ws) ∧
  (Cond.codeWith y bytes maxL ret hh).before args s = true ∧ (Cond.initialized y.cls).before args s = true ∧ (y.cls ≠ "java/lang/invoke/MethodHandle" ∧ y.cls ≠ "java/lang/invoke/VarHandle") ∧
  (∀ sig, parseMethodDescriptor y.desc = some sig → n = sig.parameters.length) ∧ (Cond.methodLink own index y).before args s = true ∧ (Cond.instanceMethod y).before args s = true ∧ (Cond.selects C y y).before args s = true
theorem vx_cwVW {own C : String} {index maxL mc ms : Nat} {y : MethodName} {bytes : ByteArray} {ret : Option FieldType} {hh : List (Nat × Nat × Nat × Nat)} {Ts ws ws' : List Cond} {rm : Room} (n : Nat) (ht : ∀ w ∈ Ts, w.before args s = true) (hT : GoodIn Ts (wsV own index C y ws)) (hw : ws = Cond.codeWith y bytes maxL ret hh :: ws') (hrc : rm.cells = mc) (hrs : rm.slots = ms)
    (hd : y.cls = C ∧ y.cls ≠ "java/lang/invoke/MethodHandle" ∧ y.cls ≠ "java/lang/invoke/VarHandle" ∧ (parseMethodDescriptor y.desc).map (fun d => d.parameters.length) = some n) (hR : rm.frames + 1 ≤ R.frames ∧ 8 + (maxL + 11) + rm.locals ≤ R.locals) :
    vx_CVW R s args own C index y bytes maxL ret hh ws rm mc ms n := by
  obtain ⟨hC, hd⟩ := hd
  subst hC
  have ok : ∀ w ∈ wsV own index y.cls y ws, w.before args s = true := fun w h => ht w (hT w h).1
  have hG : GoodIn Ts ws := fun w h => hT w (by unfold wsV; exact List.mem_append_right _ h)
  have hc : Cond.codeWith y bytes maxL ret hh ∈ ws := by rw [hw]; exact List.mem_cons_self
  refine ⟨⟨hrc, hrs, hR.1, hR.2, pay_in ht hG, hc⟩, ht _ (hG _ hc).1, ok _ (by simp [wsV]), ⟨hd.1, hd.2.1⟩, fun sig h => ?_, ok _ (by simp [wsV]), ok _ (by simp [wsV]), ok _ (by simp [wsV])⟩
  have h2 := hd.2.2
  rw [h] at h2
  exact (Option.some.inj h2).symm
theorem vx_runVW {y : MethodName} {bytes cc : ByteArray} {maxL nL mc ms n index : Nat} {ret : Option FieldType} {hh : List (Nat × Nat × Nat × Nat)} {ws : List Cond} {rm : Room} {Pc : Array Value → State → Prop} {Qc : Array Value → State → Outcome → State → Prop} {free : Addr → Prop} {Ts : List Cond} {own C : String} {b : Addr} {As rest : List Value} {g : JFrame}
    (S : CallFix p m c cc nL s args Ts own) (hM : Met l y ws rm Pc Qc mc ms free) (cw : vx_CVW R s args own C index y bytes maxL ret hh ws rm mc ms n) (hp : PreV s H C b Pc As)
    (hg : g.method = m) (hn : As.length = n) (hsize : g.locals.size = nL) (hstack : g.stack = As.reverse ++ .ref b :: rest) (hW : 2 * g.monitorRoom + (rest.map fun v => v.category).sum ≤ 8) (hdg : decode cc g.pc = .ok (.invokevirtual index, 3)) (hf : cells + mc ≤ R.cells ∧ slots + ms ≤ R.slots) :
    va_Run p l e R s m args below meth c H locs cells slots mc ms g rest (Qc (Value.ref b :: As).toArray) free := by
  obtain ⟨⟨hrc, hrs, hfr, hlo, hws, hcw⟩, hcode, hini, hy, hlen, hl, hin, hse⟩ := cw
  have hK : Back l R p e below s args y 3 8 (PreOf R mc ms Pc) (PostOf Qc mc ms free) := va_backW (hh := hh) (bytes := bytes) (maxL := maxL) (ret := ret) hM hp.1 hrc hrs hfr hlo hws hcw (fun a' U hW => word_at hW (Or.inl (by first | rfl | simp [Cond.onTables, Cond.keeps, Cond.steady])) hini)
  obtain ⟨hx, hb, hml, ho, -⟩ := S
  obtain ⟨-, ⟨cellB, hcB, hoB, hclB⟩, hPc⟩ := hp
  intro T hT X
  obtain ⟨v, vm₁, ⟨U', l2, c2, s2⟩, hW₁, X', ⟨g', mk, t, L, e1, e2, hq, h1, hL, h2, h3⟩, st⟩ := vx_callVW X hx (C := C) (hh := hh) (bytes := bytes) (maxL := maxL) (ret := ret) ho hl hin hse hcode hy hK (by rw [hT]; exact hcB) hoB hclB hg (hsize.trans hml.symm) (argsL := As) (rest := rest) (fun sig h => hn.trans (hlen sig h)) hstack hW (by rw [hb]; exact hdg)
    (fun vm₁ hW₁ => ⟨hf.1, hf.2, hPc (T.setVm vm₁) hT hW₁⟩)
  dsimp only [Pt.U, Pt.locs, Pt.cells, Pt.slots] at X' e1 e2 h1 h2 h3 st
  subst h1; subst h2; subst h3
  exact ⟨v, (T.setVm vm₁).calling g' mk (Value.ref b :: As).toArray, t, U', L, hT, X', hL, e1, e2, hq, st⟩
section
variable {y : MethodName} {bytes cc : ByteArray} {maxL nL mc ms n index : Nat} {ret : Option FieldType} {ws : List Cond} {rm : Room} {Pc : Array Value → State → Prop} {Qc : Array Value → State → Outcome → State → Prop} {XC : String → State → State → Prop} {free : Addr → Prop} {Ts : List Cond} {own C : String} {b : Addr} {As rest : List Value} {g : JFrame}
theorem vx_runVX {hh : List (Nat × Nat × Nat × Nat)} (S : CallFix p m c cc nL s args Ts own) (hM : vx_Met l y ws rm Pc Qc XC mc ms free) (cw : vx_CVW R s args own C index y bytes maxL ret hh ws rm mc ms n) (hp : PreV s H C b Pc As)
    (hg : g.method = m) (hn : As.length = n) (hsize : g.locals.size = nL) (hstack : g.stack = As.reverse ++ .ref b :: rest) (hW : 2 * g.monitorRoom + (rest.map fun v => v.category).sum ≤ 8) (hdg : decode cc g.pc = .ok (.invokevirtual index, 3)) (hf : cells + mc ≤ R.cells ∧ slots + ms ≤ R.slots) :
    vx_Run p l e R s m args below meth c H locs cells slots mc ms g rest (Qc (Value.ref b :: As).toArray) XC free := by
  obtain ⟨⟨hrc, hrs, hfr, hlo, hws, hcw⟩, hcode, hini, hy, hlen, hl, hin, hse⟩ := cw
  have hK : vx_Back l R p e below s args y 3 8 (PreOf R mc ms Pc) (PostOf Qc mc ms free) (vx_Post XC mc ms free) := vx_backW (hh := hh) (bytes := bytes) (maxL := maxL) (ret := ret) hM hp.1 hrc hrs hfr hlo hws hcw (fun a' U hW => word_at hW (Or.inl (by first | rfl | simp [Cond.onTables, Cond.keeps, Cond.steady])) hini)
  obtain ⟨hx, hb, hml, ho, -⟩ := S
  obtain ⟨-, ⟨cellB, hcB, hoB, hclB⟩, hPc⟩ := hp
  intro T hT X
  rcases vx_callVX X hx (C := C) (hh := hh) (bytes := bytes) (maxL := maxL) (ret := ret) ho hl hin hse hcode hy hK (by rw [hT]; exact hcB) hoB hclB hg (hsize.trans hml.symm) (argsL := As) (rest := rest) (fun sig h => hn.trans (hlen sig h)) hstack hW (by rw [hb]; exact hdg)
    (fun vm₁ hW₁ => ⟨hf.1, hf.2, hPc (T.setVm vm₁) hT hW₁⟩) with ⟨v, vm₁, ⟨U', l2, c2, s2⟩, hW₁, X', ⟨g', mk, t, L, e1, e2, hq, h1, hL, h2, h3⟩, st⟩ | ⟨q, vm₁, ⟨U', l2, c2, s2⟩, hW₁, X', ⟨g', mk, t, L, E, ce, e1, e2, hq, hce, hcv, hcl, h1, hL, h2, h3⟩, st⟩
  · dsimp only [Pt.U, Pt.locs, Pt.cells, Pt.slots] at X' e1 e2 h1 h2 h3 st
    subst h1; subst h2; subst h3
    exact Or.inl ⟨v, (T.setVm vm₁).calling g' mk (Value.ref b :: As).toArray, t, U', L, hT, X', hL, e1, e2, hq, st⟩
  · dsimp only [Pt.U, Pt.locs, Pt.cells, Pt.slots] at X' e1 e2 h1 h2 h3 st hcl
    subst h1; subst h2; subst h3
    exact Or.inr ⟨q, (T.setVm vm₁).calling g' mk (Value.ref b :: As).toArray, t, U', L, E, ce, hT, X', hL, e1, e2, hq, hce, hcv, vx_cls hW₁ hcl, st⟩
theorem vx_runSX {hh : List (Nat × Nat × Nat × Nat)} (S : CallFix p m c cc nL s args Ts own) (hM : vx_Met l y ws rm Pc Qc XC mc ms free) (cw : vx_CSW R s args own index y bytes maxL ret hh ws rm mc ms n) (hp : PreS s H Pc As)
    (hg : g.method = m) (hn : As.length = n) (hsize : g.locals.size = nL) (hstack : g.stack = As.reverse ++ rest) (hW : 2 * g.monitorRoom + (rest.map fun v => v.category).sum ≤ 8) (hdg : decode cc g.pc = .ok (.invokestatic index, 3)) (hf : cells + mc ≤ R.cells ∧ slots + ms ≤ R.slots) :
    vx_Run p l e R s m args below meth c H locs cells slots mc ms g rest (Qc As.toArray) XC free := by
  obtain ⟨⟨hrc, hrs, hfr, hlo, hws, hcw⟩, hcode, hini, hy, hlen, hl, hstt⟩ := cw
  have hK : vx_Back l R p e below s args y 3 8 (PreOf R mc ms Pc) (PostOf Qc mc ms free) (vx_Post XC mc ms free) := vx_backW (hh := hh) (bytes := bytes) (maxL := maxL) (ret := ret) hM hp.1 hrc hrs hfr hlo hws hcw (fun a' U hW => word_at hW (Or.inl (by first | rfl | simp [Cond.onTables, Cond.keeps, Cond.steady])) hini)
  obtain ⟨hx, hb, hml, ho, -⟩ := S
  intro T hT X
  rcases vx_callSX X hx (hh := hh) (bytes := bytes) (maxL := maxL) (ret := ret) ho hl hstt hini hcode hy hK hg (hsize.trans hml.symm) (argsL := As) (rest := rest) (fun sig h => hn.trans (hlen sig h)) hstack hW (by rw [hb]; exact hdg)
    (fun vm₁ hW₁ => ⟨hf.1, hf.2, hp.2 (T.setVm vm₁) hT hW₁⟩) with ⟨v, vm₁, ⟨U', l2, c2, s2⟩, hW₁, X', ⟨g', mk, t, L, e1, e2, hq, h1, hL, h2, h3⟩, st⟩ | ⟨q, vm₁, ⟨U', l2, c2, s2⟩, hW₁, X', ⟨g', mk, t, L, E, ce, e1, e2, hq, hce, hcv, hcl, h1, hL, h2, h3⟩, st⟩
  · dsimp only [Pt.U, Pt.locs, Pt.cells, Pt.slots] at X' e1 e2 h1 h2 h3 st
    subst h1; subst h2; subst h3
    exact Or.inl ⟨v, (T.setVm vm₁).calling g' mk As.toArray, t, U', L, hT, X', hL, e1, e2, hq, st⟩
  · dsimp only [Pt.U, Pt.locs, Pt.cells, Pt.slots] at X' e1 e2 h1 h2 h3 st hcl
    subst h1; subst h2; subst h3
    exact Or.inr ⟨q, (T.setVm vm₁).calling g' mk As.toArray, t, U', L, E, ce, hT, X', hL, e1, e2, hq, hce, hcv, vx_cls hW₁ hcl, st⟩
end
end VXH
theorem vx_ofWH {l : Launch} {y : MethodName} {ws ws' : List Cond} {rm : Room} {Pc : Array Value → State → Prop} {Qc : Array Value → State → Outcome → State → Prop} {XC : String → State → State → Prop} {mc ms : Nat} {free : Addr → Prop} {cc : ByteArray} {maxL : Nat} {ret : Option FieldType} {hh : List (Nat × Nat × Nat × Nat)}
    (hy : plainName y.cls = true) (hw : ws = Cond.codeWith y cc maxL ret hh :: ws')
    (body : ∀ p e s m args below meth c s₁, BodyLoose p l y (headSpec ws rm) cc maxL ret e s m args below meth c s₁ → c.maxLocals = maxL → Pc args s →
      W p l e (headSpec ws rm).room s m args below meth c s.heap [] 0 0 (vx_MQ below Qc XC args s mc ms free) (entryFrame m args maxL)) : vx_Met l y ws rm Pc Qc XC mc ms free := by
  refine MetFree.of_bodyS (code := cc) (maxLocals := maxL) (ret := ret) hy ?_ ?_
  · intro args s m h hn
    obtain ⟨m9, meth, c, hn9, h1, h2, h3, h4, -, h5, h6, -⟩ := Cond.codeWith_spec (atoms_spec (ws := ws) h _ (by rw [hw]; exact List.mem_cons_self))
    cases hn.symm.trans hn9
    exact ⟨meth, c, h1, h2, h3, h4, h5, h6⟩
  · intro p e s m args below meth c s₁ B hml hP _
    have hh0 : s₁.heap = s.heap := by rw [B.state]; rfl
    obtain ⟨t, a1, o, b1, b2, b3⟩ := body p e s m args below meth c s₁ B hml hP s₁ hh0 (Stand.of_body B)
    exact ⟨t, o, a1, b1, b2, b3⟩
/-! ===== END ===== -/
end
section
/-! DATA, by wip/p1/gen.py out of the statement: the classes, the program (the instructions that these runs reach), the words -/
abbrev zI : Type := Instr × Nat × Nat × List Nat
abbrev zM : Type := MethodName × ByteArray × Nat × Option FieldType × List (Nat × Nat × Nat × Nat) × Nat × Nat × Nat × List Nat × List zI
def zT (l : List (String × String × String × Bool)) : u_T := fun k => l.getD k ("", "", "", false)
def zT_0 : List (String × String × String × Bool) := [("Macrocosm$Row", "cells", "[I", true)]
def zT_1 : List (String × String × String × Bool) := [("Macrocosm$Sheet", "characters", "[C", true), ("Macrocosm$Sheet", "size", "I", false)]
def zT_2 : List (String × String × String × Bool) := [("Macrocosm$Tokens", "kind", "LMacrocosm$Row;", true), ("Macrocosm$Tokens", "key", "LMacrocosm$Row;", true), ("Macrocosm$Tokens", "begin", "LMacrocosm$Row;", true), ("Macrocosm$Tokens", "count", "I", false)]
def zT_3 : List (String × String × String × Bool) := [("Macrocosm$Makings", "sort", "LMacrocosm$Row;", true), ("Macrocosm$Makings", "key", "LMacrocosm$Row;", true), ("Macrocosm$Makings", "token", "LMacrocosm$Row;", true), ("Macrocosm$Makings", "letName", "LMacrocosm$Row;", true), ("Macrocosm$Makings", "isParameter", "LMacrocosm$Row;", true), ("Macrocosm$Makings", "parameters", "LMacrocosm$Row;", true), ("Macrocosm$Makings", "precedence", "LMacrocosm$Row;", true), ("Macrocosm$Makings", "side", "LMacrocosm$Row;", true), ("Macrocosm$Makings", "body", "LMacrocosm$Row;", true), ("Macrocosm$Makings", "count", "I", false)]
def zT_4 : List (String × String × String × Bool) := [("Macrocosm$Scope", "makings", "LMacrocosm$Makings;", true), ("Macrocosm$Scope", "entry", "LMacrocosm$Row;", true), ("Macrocosm$Scope", "hidesOther", "LMacrocosm$Row;", true), ("Macrocosm$Scope", "size", "I", false), ("Macrocosm$Scope", "held", "LMacrocosm$Row;", true)]
def zT_5 : List (String × String × String × Bool) := [("Macrocosm$Tree", "kind", "LMacrocosm$Row;", true), ("Macrocosm$Tree", "subject", "LMacrocosm$Row;", true), ("Macrocosm$Tree", "first", "LMacrocosm$Row;", true), ("Macrocosm$Tree", "next", "LMacrocosm$Row;", true), ("Macrocosm$Tree", "last", "LMacrocosm$Row;", true), ("Macrocosm$Tree", "count", "I", false)]
def zT_6 : List (String × String × String × Bool) := [("Macrocosm$Frames", "sort", "LMacrocosm$Row;", true), ("Macrocosm$Frames", "least", "LMacrocosm$Row;", true), ("Macrocosm$Frames", "making", "LMacrocosm$Row;", true), ("Macrocosm$Frames", "node", "LMacrocosm$Row;", true), ("Macrocosm$Frames", "mark", "LMacrocosm$Row;", true), ("Macrocosm$Frames", "read", "LMacrocosm$Row;", true), ("Macrocosm$Frames", "top", "I", false)]
def zT_7 : List (String × String × String × Bool) := [("Macrocosm$Reader", "tokens", "LMacrocosm$Tokens;", true), ("Macrocosm$Reader", "makings", "LMacrocosm$Makings;", true), ("Macrocosm$Reader", "scope", "LMacrocosm$Scope;", true), ("Macrocosm$Reader", "tree", "LMacrocosm$Tree;", true), ("Macrocosm$Reader", "frames", "LMacrocosm$Frames;", true), ("Macrocosm$Reader", "meanings", "LMacrocosm$Row;", true), ("Macrocosm$Reader", "held", "LMacrocosm$Row;", true), ("Macrocosm$Reader", "caretNames", "LMacrocosm$Row;", true), ("Macrocosm$Reader", "caretOwners", "LMacrocosm$Row;", true), ("Macrocosm$Reader", "caretCount", "I", false), ("Macrocosm$Reader", "here", "I", false), ("Macrocosm$Reader", "mode", "I", false), ("Macrocosm$Reader", "headed", "I", false), ("Macrocosm$Reader", "operand", "I", false), ("Macrocosm$Reader", "fault", "I", false), ("Macrocosm$Reader", "faultPlace", "I", false), ("Macrocosm$Reader", "root", "I", false)]
def zT_8 : List (String × String × String × Bool) := [("Macrocosm$Bindings", "content", "LMacrocosm$Row;", true), ("Macrocosm$Bindings", "site", "LMacrocosm$Row;", true), ("Macrocosm$Bindings", "next", "LMacrocosm$Row;", true), ("Macrocosm$Bindings", "makings", "LMacrocosm$Makings;", true), ("Macrocosm$Bindings", "made", "LMacrocosm$Row;", true), ("Macrocosm$Bindings", "most", "I", true), ("Macrocosm$Bindings", "count", "I", false)]
def zT_9 : List (String × String × String × Bool) := [("Macrocosm$Work", "task", "LMacrocosm$Row;", true), ("Macrocosm$Work", "subject", "LMacrocosm$Row;", true), ("Macrocosm$Work", "binding", "LMacrocosm$Row;", true), ("Macrocosm$Work", "most", "I", true), ("Macrocosm$Work", "size", "I", false)]
def zT_10 : List (String × String × String × Bool) := [("Macrocosm$Expansion", "makings", "LMacrocosm$Makings;", true), ("Macrocosm$Expansion", "tree", "LMacrocosm$Tree;", true), ("Macrocosm$Expansion", "written", "LMacrocosm$Sheet;", true), ("Macrocosm$Expansion", "bindings", "LMacrocosm$Bindings;", true), ("Macrocosm$Expansion", "work", "LMacrocosm$Work;", true), ("Macrocosm$Expansion", "results", "[J", true), ("Macrocosm$Expansion", "letValues", "[J", true), ("Macrocosm$Expansion", "resultCount", "I", false), ("Macrocosm$Expansion", "partCount", "I", false), ("Macrocosm$Expansion", "useCount", "I", false), ("Macrocosm$Expansion", "letCount", "I", false)]
def zT_11 : List (String × String × String × Bool) := [("Macrocosm", "text", "LMacrocosm$Sheet;", true), ("Macrocosm", "textBefore", "LMacrocosm$Sheet;", true), ("Macrocosm", "madeBefore", "LMacrocosm$Row;", true), ("Macrocosm", "expandedText", "LMacrocosm$Sheet;", true), ("Macrocosm", "reader", "LMacrocosm$Reader;", true), ("Macrocosm", "expansion", "LMacrocosm$Expansion;", true), ("Macrocosm", "plainReader", "LMacrocosm$Reader;", true), ("Macrocosm", "plainExpansion", "LMacrocosm$Expansion;", true), ("Macrocosm", "settled", "Z", false), ("Macrocosm", "foundFault", "I", false), ("Macrocosm", "foundPlace", "I", false)]
def zT_12 : List (String × String × String × Bool) := [("MacrocosmModel", "thrown", "I", false), ("MacrocosmModel", "text", "[I", true), ("MacrocosmModel", "length", "I", false), ("MacrocosmModel", "reading", "LMacrocosmModel$Reading;", false)]
def zT_13 : List (String × String × String × Bool) := [("MacrocosmModel$Reading", "text", "[I", true), ("MacrocosmModel$Reading", "length", "I", true), ("MacrocosmModel$Reading", "sort", "[I", true), ("MacrocosmModel$Reading", "begin", "[I", true), ("MacrocosmModel$Reading", "its", "[J", true), ("MacrocosmModel$Reading", "means", "[I", true), ("MacrocosmModel$Reading", "holds", "[LMacrocosmModel$Scope;", true), ("MacrocosmModel$Reading", "tokens", "I", false), ("MacrocosmModel$Reading", "at", "I", false), ("MacrocosmModel$Reading", "fault", "I", false), ("MacrocosmModel$Reading", "faultPlace", "I", false), ("MacrocosmModel$Reading", "scope", "LMacrocosmModel$Scope;", false), ("MacrocosmModel$Reading", "around", "LMacrocosmModel$Made;", false), ("MacrocosmModel$Reading", "all", "LMacrocosmModel$Node;", false), ("MacrocosmModel$Reading", "parts", "I", false), ("MacrocosmModel$Reading", "uses", "I", false), ("MacrocosmModel$Reading", "lets", "I", false), ("MacrocosmModel$Reading", "values", "[J", true), ("MacrocosmModel$Reading", "expanded", "Ljava/lang/StringBuilder;", true), ("MacrocosmModel$Reading", "value", "J", false)]
def zT_14 : List (String × String × String × Bool) := [("java/lang/AbstractStringBuilder", "value", "[B", false), ("java/lang/AbstractStringBuilder", "coder", "B", false), ("java/lang/AbstractStringBuilder", "maybeLatin1", "Z", false), ("java/lang/AbstractStringBuilder", "count", "I", false)]
def zcl : List vw_C := [("Macrocosm$Row", zT zT_0, 1), ("Macrocosm$Sheet", zT zT_1, 2), ("Macrocosm$Tokens", zT zT_2, 4), ("Macrocosm$Makings", zT zT_3, 10), ("Macrocosm$Scope", zT zT_4, 5), ("Macrocosm$Tree", zT zT_5, 6), ("Macrocosm$Frames", zT zT_6, 7), ("Macrocosm$Reader", zT zT_7, 17), ("Macrocosm$Bindings", zT zT_8, 7), ("Macrocosm$Work", zT zT_9, 5), ("Macrocosm$Expansion", zT zT_10, 11), ("Macrocosm", zT zT_11, 11), ("MacrocosmModel", zT zT_12, 4), ("MacrocosmModel$Reading", zT zT_13, 20), ("java/lang/StringBuilder", zT zT_14, 4)]
def zexn : List String := ["java/lang/IllegalStateException", "java/lang/IndexOutOfBoundsException", "java/lang/IllegalArgumentException"]
/-- Macrocosm$Row.put(II)V -/
def zM_0 : zM := (⟨"Macrocosm$Row", "put", "(II)V"⟩, prog_7_method_3_code, 3, none, [], 0, 2, 0, [600, 103, 598], [(.iload_n 1, 0, 1, []),
    (.ifCond .lt (19), 1, 3, [12]),
    (.iload_n 1, 4, 1, []),
    (.aload_n 0, 5, 1, []),
    (.getfield 7, 6, 3, [0, 0, 166]),
    (.arraylength, 9, 1, []),
    (.if_icmp .ge (10), 10, 3, [12]),
    (.aload_n 0, 13, 1, []),
    (.getfield 7, 14, 3, [0, 0, 166]),
    (.iload_n 1, 17, 1, []),
    (.iload_n 2, 18, 1, []),
    (.iastore, 19, 1, []),
    (.return_, 20, 1, [])])
/-- Macrocosm$Row.<init>(I)V -/
def zM_1 : zM := (⟨"Macrocosm$Row", "<init>", "(I)V"⟩, prog_7_method_1_code, 2, none, [], 2, 1, 0, [164, 103, 163], [(.aload_n 0, 0, 1, []),
    (.invokespecial 1, 1, 3, [165]),
    (.aload_n 0, 4, 1, []),
    (.iload_n 1, 5, 1, []),
    (.ifCond .le (7), 6, 3, [7]),
    (.iload_n 1, 9, 1, []),
    (.goto (4), 10, 3, [8]),
    (.iconst 0, 13, 1, []),
    (.newarray .int, 14, 2, [0, 170]),
    (.putfield 7, 16, 3, [0, 0, 166]),
    (.return_, 19, 1, [])])
/-- Macrocosm$Row.get(I)I -/
def zM_2 : zM := (⟨"Macrocosm$Row", "get", "(I)I"⟩, prog_7_method_2_code, 2, some (.int), [], 0, 1, 0, [700, 103, 698], [(.iload_n 1, 0, 1, []),
    (.ifCond .lt (21), 1, 3, [12]),
    (.iload_n 1, 4, 1, []),
    (.aload_n 0, 5, 1, []),
    (.getfield 7, 6, 3, [0, 0, 166]),
    (.arraylength, 9, 1, []),
    (.if_icmp .ge (12), 10, 3, [12]),
    (.aload_n 0, 13, 1, []),
    (.getfield 7, 14, 3, [0, 0, 166]),
    (.iload_n 1, 17, 1, []),
    (.iaload, 18, 1, []),
    (.goto (4), 19, 3, [13]),
    (.iconst 0, 22, 1, []),
    (.ireturn, 23, 1, [])])
/-- Macrocosm.<init>()V -/
def zM_3 : zM := (⟨"Macrocosm", "<init>", "()V"⟩, prog_1_method_1_code, 1, none, [], 2, 0, 11, [142, 101, 141], [(.aload_n 0, 0, 1, []),
    (.invokespecial 3, 1, 3, [143]),
    (.aload_n 0, 4, 1, []),
    (.new 9, 5, 3, [1, 146]),
    (.dup, 8, 1, []),
    (.bipush (120), 9, 2, []),
    (.invokespecial 13, 11, 3, [67, 148, 0]),
    (.putfield 16, 14, 3, [11, 0, 500]),
    (.aload_n 0, 17, 1, []),
    (.new 9, 18, 3, [1, 146]),
    (.dup, 21, 1, []),
    (.bipush (120), 22, 2, []),
    (.invokespecial 13, 24, 3, [67, 148, 0]),
    (.putfield 20, 27, 3, [11, 1, 501]),
    (.aload_n 0, 30, 1, []),
    (.new 23, 31, 3, [0, 160]),
    (.dup, 34, 1, []),
    (.bipush (120), 35, 2, []),
    (.invokespecial 25, 37, 3, [1, 162, 0]),
    (.putfield 26, 40, 3, [11, 2, 502]),
    (.aload_n 0, 43, 1, []),
    (.new 9, 44, 3, [1, 146]),
    (.dup, 47, 1, []),
    (.sipush (3010), 48, 3, []),
    (.invokespecial 13, 51, 3, [67, 148, 0]),
    (.putfield 30, 54, 3, [11, 3, 503]),
    (.aload_n 0, 57, 1, []),
    (.new 33, 58, 3, [7, 171]),
    (.dup, 61, 1, []),
    (.bipush (120), 62, 2, []),
    (.sipush (128), 64, 3, []),
    (.bipush (120), 67, 2, []),
    (.invokespecial 35, 69, 3, [44, 173, 0]),
    (.putfield 38, 72, 3, [11, 4, 504]),
    (.aload_n 0, 75, 1, []),
    (.new 1, 76, 3, [10, 394]),
    (.dup, 79, 1, []),
    (.aload_n 0, 80, 1, []),
    (.getfield 38, 81, 3, [11, 4, 504]),
    (.aload_n 0, 84, 1, []),
    (.getfield 30, 85, 3, [11, 3, 503]),
    (.sipush (4000), 88, 3, []),
    (.invokespecial 42, 91, 3, [27, 396, 0]),
    (.putfield 45, 94, 3, [11, 5, 505]),
    (.aload_n 0, 97, 1, []),
    (.new 33, 98, 3, [7, 171]),
    (.dup, 101, 1, []),
    (.sipush (1204), 102, 3, []),
    (.sipush (310), 105, 3, []),
    (.iconst 0, 108, 1, []),
    (.invokespecial 35, 109, 3, [44, 173, 0]),
    (.putfield 49, 112, 3, [11, 6, 506]),
    (.aload_n 0, 115, 1, []),
    (.new 1, 116, 3, [10, 394]),
    (.dup, 119, 1, []),
    (.aload_n 0, 120, 1, []),
    (.getfield 49, 121, 3, [11, 6, 506]),
    (.new 9, 124, 3, [1, 146]),
    (.dup, 127, 1, []),
    (.iconst 0, 128, 1, []),
    (.invokespecial 13, 129, 3, [67, 148, 0]),
    (.sipush (310), 132, 3, []),
    (.invokespecial 42, 135, 3, [27, 396, 0]),
    (.putfield 52, 138, 3, [11, 7, 507]),
    (.aload_n 0, 141, 1, []),
    (.iconst 0, 142, 1, []),
    (.putfield 55, 143, 3, [11, 8, 508]),
    (.aload_n 0, 146, 1, []),
    (.iconst 0, 147, 1, []),
    (.putfield 59, 148, 3, [11, 9, 509]),
    (.aload_n 0, 151, 1, []),
    (.iconst (-1), 152, 1, []),
    (.putfield 63, 153, 3, [11, 10, 510]),
    (.return_, 156, 1, [])])
/-- Macrocosm.at(I)I -/
def zM_4 : zM := (⟨"Macrocosm", "at", "(I)I"⟩, prog_1_method_7_code, 3, some (.int), [], 0, 1, 11, [1259, 101, 1257], [(.aload_n 0, 0, 1, []),
    (.getfield 16, 1, 3, [11, 0, 500]),
    (.iload_n 1, 4, 1, []),
    (.invokevirtual 81, 5, 3, [69, 1247, 573]),
    (.istore_n 2, 8, 1, []),
    (.iload_n 2, 9, 1, []),
    (.ifCond .ge (13), 10, 3, [12]),
    (.new 74, 13, 3, [1, 1224, 85, 78, 0]),
    (.nop, 16, 0, []),
    (.nop, 17, 0, []),
    (.nop, 19, 0, []),
    (.nop, 22, 0, []),
    (.nop, 23, 0, []),
    (.nop, 24, 0, [])])
/-- Macrocosm.clear()I -/
def zM_5 : zM := (⟨"Macrocosm", "clear", "()I"⟩, prog_1_method_5_code, 2, some (.int), [], 0, 0, 11, [537, 101, 535], [(.aload_n 0, 0, 1, []),
    (.getfield 16, 1, 3, [11, 0, 500]),
    (.invokevirtual 66, 4, 3, [71, 538, 540]),
    (.istore_n 1, 7, 1, []),
    (.aload_n 0, 8, 1, []),
    (.getfield 16, 9, 3, [11, 0, 500]),
    (.invokevirtual 90, 12, 3, [73, 542, 544]),
    (.aload_n 0, 15, 1, []),
    (.iconst 0, 16, 1, []),
    (.putfield 55, 17, 3, [11, 8, 508]),
    (.iload_n 1, 20, 1, []),
    (.ireturn, 21, 1, [])])
/-- Macrocosm.erase(I)I -/
def zM_6 : zM := (⟨"Macrocosm", "erase", "(I)I"⟩, prog_1_method_4_code, 3, some (.int), [], 0, 1, 11, [1246, 101, 1244], [(.aload_n 0, 0, 1, []),
    (.getfield 16, 1, 3, [11, 0, 500]),
    (.iload_n 1, 4, 1, []),
    (.invokevirtual 81, 5, 3, [69, 1247, 573]),
    (.istore_n 2, 8, 1, []),
    (.iload_n 2, 9, 1, []),
    (.ifCond .ge (13), 10, 3, [12]),
    (.new 74, 13, 3, [1, 1224, 85, 78, 0]),
    (.nop, 16, 0, []),
    (.nop, 17, 0, []),
    (.nop, 19, 0, []),
    (.nop, 22, 0, []),
    (.nop, 23, 0, []),
    (.nop, 24, 0, []),
    (.nop, 27, 0, []),
    (.nop, 28, 0, []),
    (.nop, 31, 0, []),
    (.nop, 32, 0, []),
    (.nop, 33, 0, []),
    (.nop, 36, 0, []),
    (.nop, 37, 0, [])])
/-- Macrocosm.expanded()I -/
def zM_7 : zM := (⟨"Macrocosm", "expanded", "()I"⟩, prog_1_method_13_code, 1, some (.int), [], 0, 0, 11, [1296, 101, 1294], [(.aload_n 0, 0, 1, []),
    (.invokevirtual 93, 1, 3, [18, 554, 0]),
    (.ifCond .eq (13), 4, 3, [8]),
    (.nop, 7, 0, []),
    (.nop, 10, 0, []),
    (.nop, 11, 0, []),
    (.nop, 13, 0, []),
    (.nop, 16, 0, []),
    (.aload_n 0, 17, 1, []),
    (.getfield 30, 18, 3, [11, 3, 503]),
    (.invokevirtual 66, 21, 3, [71, 538, 540]),
    (.ireturn, 24, 1, [])])
/-- Macrocosm.expandedAt(I)I -/
def zM_8 : zM := (⟨"Macrocosm", "expandedAt", "(I)I"⟩, prog_1_method_14_code, 3, some (.int), [], 0, 1, 11, [1303, 101, 1301], [(.aload_n 0, 0, 1, []),
    (.invokevirtual 93, 1, 3, [18, 554, 0]),
    (.ifCond .eq (13), 4, 3, [8]),
    (.nop, 7, 0, []),
    (.nop, 10, 0, []),
    (.nop, 11, 0, []),
    (.nop, 13, 0, []),
    (.nop, 16, 0, []),
    (.aload_n 0, 17, 1, []),
    (.getfield 30, 18, 3, [11, 3, 503]),
    (.iload_n 1, 21, 1, []),
    (.invokevirtual 81, 22, 3, [69, 1247, 573]),
    (.istore_n 2, 25, 1, []),
    (.iload_n 2, 26, 1, []),
    (.ifCond .ge (13), 27, 3, [20]),
    (.new 74, 30, 3, [1, 1224, 85, 78, 0]),
    (.nop, 33, 0, []),
    (.nop, 34, 0, []),
    (.nop, 36, 0, []),
    (.nop, 39, 0, []),
    (.nop, 40, 0, []),
    (.nop, 41, 0, [])])
/-- Macrocosm.fault()I -/
def zM_9 : zM := (⟨"Macrocosm", "fault", "()I"⟩, prog_1_method_8_code, 1, some (.int), [], 0, 0, 11, [553, 101, 551], [(.aload_n 0, 0, 1, []),
    (.invokevirtual 93, 1, 3, [18, 554, 0]),
    (.pop, 4, 1, []),
    (.aload_n 0, 5, 1, []),
    (.getfield 59, 6, 3, [11, 9, 509]),
    (.ireturn, 9, 1, [])])
/-- Macrocosm.faultPlace()I -/
def zM_10 : zM := (⟨"Macrocosm", "faultPlace", "()I"⟩, prog_1_method_9_code, 1, some (.int), [], 0, 0, 11, [1119, 101, 1117], [(.aload_n 0, 0, 1, []),
    (.invokevirtual 93, 1, 3, [18, 554, 0]),
    (.pop, 4, 1, []),
    (.aload_n 0, 5, 1, []),
    (.getfield 63, 6, 3, [11, 10, 510]),
    (.ireturn, 9, 1, [])])
/-- Macrocosm.holds(II)I -/
def zM_11 : zM := (⟨"Macrocosm", "holds", "(II)I"⟩, prog_1_method_19_code, 3, some (.int), [], 0, 2, 11, [1404, 101, 1402], [(.iload_n 1, 0, 1, []),
    (.ifCond .lt (14), 1, 3, [7]),
    (.iload_n 1, 4, 1, []),
    (.aload_n 0, 5, 1, []),
    (.getfield 16, 6, 3, [11, 0, 500]),
    (.invokevirtual 66, 9, 3, [71, 538, 540]),
    (.if_icmp .le (13), 12, 3, [12]),
    (.new 74, 15, 3, [1, 1224, 76, 78, 1]),
    (.nop, 18, 0, []),
    (.nop, 19, 0, []),
    (.nop, 21, 0, []),
    (.nop, 24, 0, []),
    (.iload_n 2, 25, 1, []),
    (.ifCond .lt (8), 26, 3, [17]),
    (.iload_n 2, 29, 1, []),
    (.iconst 4, 30, 1, []),
    (.if_icmp .lt (13), 31, 3, [22]),
    (.new 136, 34, 3, [2, 1350, 161, 140, 2]),
    (.nop, 37, 0, []),
    (.nop, 38, 0, []),
    (.nop, 40, 0, []),
    (.nop, 43, 0, []),
    (.aload_n 0, 44, 1, []),
    (.invokevirtual 93, 45, 3, [18, 554, 0]),
    (.ifCond .eq (13), 48, 3, [30]),
    (.nop, 51, 0, []),
    (.nop, 54, 0, []),
    (.nop, 55, 0, []),
    (.nop, 57, 0, []),
    (.nop, 60, 0, []),
    (.aload_n 0, 61, 1, []),
    (.getfield 38, 62, 3, [11, 4, 504]),
    (.iload_n 1, 65, 1, []),
    (.iload_n 2, 66, 1, []),
    (.invokevirtual 163, 67, 3, [48, 1406, 1408]),
    (.ireturn, 70, 1, [])])
/-- Macrocosm.insert(IC)I -/
def zM_12 : zM := (⟨"Macrocosm", "insert", "(IC)I"⟩, prog_1_method_3_code, 3, some (.int), [], 0, 2, 11, [1223, 101, 1221], [(.iload_n 1, 0, 1, []),
    (.ifCond .lt (14), 1, 3, [7]),
    (.iload_n 1, 4, 1, []),
    (.aload_n 0, 5, 1, []),
    (.getfield 16, 6, 3, [11, 0, 500]),
    (.invokevirtual 66, 9, 3, [71, 538, 540]),
    (.if_icmp .le (13), 12, 3, [12]),
    (.new 74, 15, 3, [1, 1224, 76, 78, 1]),
    (.nop, 18, 0, []),
    (.nop, 19, 0, []),
    (.nop, 21, 0, []),
    (.nop, 24, 0, []),
    (.aload_n 0, 25, 1, []),
    (.iload_n 1, 26, 1, []),
    (.iload_n 2, 27, 1, []),
    (.invokevirtual 70, 28, 3, [13, 1136, 53]),
    (.ireturn, 31, 1, [])])
/-- Macrocosm.insertSafely(IC)I -/
def zM_13 : zM := (⟨"Macrocosm", "insertSafely", "(IC)I"⟩, prog_1_method_20_code, 3, some (.int), [], 0, 2, 11, [1139, 101, 1138], [(.aload_n 0, 0, 1, []),
    (.getfield 16, 1, 3, [11, 0, 500]),
    (.invokevirtual 66, 4, 3, [71, 538, 540]),
    (.bipush (120), 7, 2, []),
    (.if_icmp .lt (13), 9, 3, [10]),
    (.nop, 12, 0, []),
    (.nop, 15, 0, []),
    (.nop, 16, 0, []),
    (.nop, 18, 0, []),
    (.nop, 21, 0, []),
    (.aload_n 0, 22, 1, []),
    (.getfield 16, 23, 3, [11, 0, 500]),
    (.iload_n 1, 26, 1, []),
    (.iload_n 2, 27, 1, []),
    (.invokevirtual 169, 28, 3, [72, 1207, 1209]),
    (.aload_n 0, 31, 1, []),
    (.iconst 0, 32, 1, []),
    (.putfield 55, 33, 3, [11, 8, 508]),
    (.aload_n 0, 36, 1, []),
    (.getfield 16, 37, 3, [11, 0, 500]),
    (.invokevirtual 66, 40, 3, [71, 538, 540]),
    (.ireturn, 43, 1, [])])
/-- Macrocosm.length()I -/
def zM_14 : zM := (⟨"Macrocosm", "length", "()I"⟩, prog_1_method_6_code, 1, some (.int), [], 0, 0, 11, [549, 101, 547], [(.aload_n 0, 0, 1, []),
    (.getfield 16, 1, 3, [11, 0, 500]),
    (.invokevirtual 66, 4, 3, [71, 538, 540]),
    (.ireturn, 7, 1, [])])
/-- Macrocosm.made(I)I -/
def zM_15 : zM := (⟨"Macrocosm", "made", "(I)I"⟩, prog_1_method_16_code, 2, some (.int), [], 0, 1, 11, [1310, 101, 1308], [(.aload_n 0, 0, 1, []),
    (.invokevirtual 93, 1, 3, [18, 554, 0]),
    (.ifCond .eq (13), 4, 3, [8]),
    (.nop, 7, 0, []),
    (.nop, 10, 0, []),
    (.nop, 11, 0, []),
    (.nop, 13, 0, []),
    (.nop, 16, 0, []),
    (.aload_n 0, 17, 1, []),
    (.getfield 38, 18, 3, [11, 4, 504]),
    (.aload_n 0, 21, 1, []),
    (.getfield 38, 22, 3, [11, 4, 504]),
    (.aload_n 0, 25, 1, []),
    (.getfield 38, 26, 3, [11, 4, 504]),
    (.iload_n 1, 29, 1, []),
    (.invokevirtual 121, 30, 3, [59, 1311, 1313]),
    (.invokevirtual 124, 33, 3, [50, 1319, 1321]),
    (.invokevirtual 127, 36, 3, [45, 1323, 1325]),
    (.ireturn, 39, 1, [])])
/-- Macrocosm.parts()I -/
def zM_16 : zM := (⟨"Macrocosm", "parts", "()I"⟩, prog_1_method_12_code, 1, some (.int), [], 0, 0, 11, [1285, 101, 1283], [(.aload_n 0, 0, 1, []),
    (.invokevirtual 93, 1, 3, [18, 554, 0]),
    (.ifCond .eq (13), 4, 3, [8]),
    (.nop, 7, 0, []),
    (.nop, 10, 0, []),
    (.nop, 11, 0, []),
    (.nop, 13, 0, []),
    (.nop, 16, 0, []),
    (.aload_n 0, 17, 1, []),
    (.getfield 45, 18, 3, [11, 5, 505]),
    (.invokevirtual 115, 21, 3, [31, 1286, 1288]),
    (.ireturn, 24, 1, [])])
/-- Macrocosm.rename(II)Z -/
def zM_17 : zM := (⟨"Macrocosm", "rename", "(II)Z"⟩, prog_1_method_18_code, 4, some (.boolean), [], 0, 2, 11, [1349, 101, 1347], [(.iload_n 2, 0, 1, []),
    (.ifCond .lt (9), 1, 3, [5]),
    (.iload_n 2, 4, 1, []),
    (.bipush (26), 5, 2, []),
    (.if_icmp .lt (13), 7, 3, [10]),
    (.new 136, 10, 3, [2, 1350, 138, 140, 3]),
    (.nop, 13, 0, []),
    (.nop, 14, 0, []),
    (.nop, 16, 0, []),
    (.nop, 19, 0, []),
    (.aload_n 0, 20, 1, []),
    (.invokevirtual 93, 21, 3, [18, 554, 0]),
    (.ifCond .eq (13), 24, 3, [18]),
    (.nop, 27, 0, []),
    (.nop, 30, 0, []),
    (.nop, 31, 0, []),
    (.nop, 33, 0, []),
    (.nop, 36, 0, []),
    (.aload_n 0, 37, 1, []),
    (.getfield 38, 38, 3, [11, 4, 504]),
    (.aload_n 0, 41, 1, []),
    (.getfield 38, 42, 3, [11, 4, 504]),
    (.iload_n 1, 45, 1, []),
    (.invokevirtual 121, 46, 3, [59, 1311, 1313]),
    (.invokevirtual 130, 49, 3, [53, 1334, 1336]),
    (.istore_n 3, 52, 1, []),
    (.aload_n 0, 53, 1, []),
    (.getfield 38, 54, 3, [11, 4, 504]),
    (.iload_n 3, 57, 1, []),
    (.iload_n 2, 58, 1, []),
    (.iconst 1, 59, 1, []),
    (.iadd, 60, 1, []),
    (.invokevirtual 141, 61, 3, [52, 1366, 1368]),
    (.ifCond .ne (5), 64, 3, [36]),
    (.iconst 0, 67, 1, []),
    (.ireturn, 68, 1, []),
    (.nop, 69, 0, []),
    (.nop, 70, 0, []),
    (.nop, 73, 0, []),
    (.nop, 74, 0, []),
    (.nop, 75, 0, []),
    (.nop, 77, 0, []),
    (.nop, 78, 0, []),
    (.nop, 79, 0, []),
    (.nop, 80, 0, []),
    (.nop, 83, 0, []),
    (.nop, 84, 0, []),
    (.nop, 87, 0, []),
    (.nop, 90, 0, []),
    (.nop, 91, 0, []),
    (.nop, 94, 0, []),
    (.nop, 97, 0, []),
    (.nop, 98, 0, []),
    (.nop, 99, 0, []),
    (.nop, 100, 0, []),
    (.nop, 103, 0, []),
    (.nop, 104, 0, []),
    (.nop, 107, 0, []),
    (.nop, 110, 0, []),
    (.nop, 111, 0, []),
    (.nop, 112, 0, []),
    (.nop, 115, 0, []),
    (.nop, 116, 0, [])])
/-- Macrocosm.settle()I -/
def zM_18 : zM := (⟨"Macrocosm", "settle", "()I"⟩, prog_1_method_21_code, 1, some (.int), [], 0, 0, 11, [557, 101, 556], [(.aload_n 0, 0, 1, []),
    (.getfield 55, 1, 3, [11, 8, 508]),
    (.ifCond .ne (82), 4, 3, [40]),
    (.aload_n 0, 7, 1, []),
    (.iconst 1, 8, 1, []),
    (.putfield 55, 9, 3, [11, 8, 508]),
    (.aload_n 0, 12, 1, []),
    (.getfield 38, 13, 3, [11, 4, 504]),
    (.aload_n 0, 16, 1, []),
    (.getfield 16, 17, 3, [11, 0, 500]),
    (.invokevirtual 105, 20, 3, [54, 558, 560]),
    (.aload_n 0, 23, 1, []),
    (.aload_n 0, 24, 1, []),
    (.getfield 38, 25, 3, [11, 4, 504]),
    (.invokevirtual 172, 28, 3, [46, 943, 945]),
    (.putfield 59, 31, 3, [11, 9, 509]),
    (.aload_n 0, 34, 1, []),
    (.aload_n 0, 35, 1, []),
    (.getfield 38, 36, 3, [11, 4, 504]),
    (.invokevirtual 174, 39, 3, [47, 947, 949]),
    (.putfield 63, 42, 3, [11, 10, 510]),
    (.aload_n 0, 45, 1, []),
    (.getfield 59, 46, 3, [11, 9, 509]),
    (.ifCond .ne (37), 49, 3, [40]),
    (.aload_n 0, 52, 1, []),
    (.getfield 45, 53, 3, [11, 5, 505]),
    (.aload_n 0, 56, 1, []),
    (.getfield 38, 57, 3, [11, 4, 504]),
    (.invokevirtual 109, 60, 3, [57, 951, 953]),
    (.invokevirtual 112, 63, 3, [28, 955, 957]),
    (.aload_n 0, 66, 1, []),
    (.getfield 45, 67, 3, [11, 5, 505]),
    (.invokevirtual 176, 70, 3, [30, 1114, 989]),
    (.ifCond .eq (13), 73, 3, [40]),
    (.nop, 76, 0, []),
    (.nop, 77, 0, []),
    (.nop, 78, 0, []),
    (.nop, 81, 0, []),
    (.nop, 82, 0, []),
    (.nop, 83, 0, []),
    (.aload_n 0, 86, 1, []),
    (.getfield 59, 87, 3, [11, 9, 509]),
    (.ireturn, 90, 1, [])])
/-- Macrocosm.tokens()I -/
def zM_19 : zM := (⟨"Macrocosm", "tokens", "()I"⟩, prog_1_method_15_code, 1, some (.int), [], 0, 0, 11, [1123, 101, 1121], [(.aload_n 0, 0, 1, []),
    (.invokevirtual 93, 1, 3, [18, 554, 0]),
    (.pop, 4, 1, []),
    (.aload_n 0, 5, 1, []),
    (.getfield 38, 6, 3, [11, 4, 504]),
    (.invokevirtual 118, 9, 3, [60, 1124, 1126]),
    (.ireturn, 12, 1, [])])
/-- Macrocosm.type(C)I -/
def zM_20 : zM := (⟨"Macrocosm", "type", "(C)I"⟩, prog_1_method_2_code, 2, some (.int), [], 0, 1, 11, [1135, 101, 1133], [(.aload_n 0, 0, 1, []),
    (.aload_n 0, 1, 1, []),
    (.getfield 16, 2, 3, [11, 0, 500]),
    (.invokevirtual 66, 5, 3, [71, 538, 540]),
    (.iload_n 1, 8, 1, []),
    (.invokevirtual 70, 9, 3, [13, 1136, 53]),
    (.ireturn, 12, 1, [])])
/-- Macrocosm.uses(I)I -/
def zM_21 : zM := (⟨"Macrocosm", "uses", "(I)I"⟩, prog_1_method_17_code, 3, some (.int), [], 0, 1, 11, [1333, 101, 1331], [(.aload_n 0, 0, 1, []),
    (.invokevirtual 93, 1, 3, [18, 554, 0]),
    (.ifCond .eq (13), 4, 3, [8]),
    (.nop, 7, 0, []),
    (.nop, 10, 0, []),
    (.nop, 11, 0, []),
    (.nop, 13, 0, []),
    (.nop, 16, 0, []),
    (.aload_n 0, 17, 1, []),
    (.getfield 38, 18, 3, [11, 4, 504]),
    (.iload_n 1, 21, 1, []),
    (.invokevirtual 121, 22, 3, [59, 1311, 1313]),
    (.istore_n 2, 25, 1, []),
    (.aload_n 0, 26, 1, []),
    (.getfield 38, 27, 3, [11, 4, 504]),
    (.iload_n 2, 30, 1, []),
    (.invokevirtual 124, 31, 3, [50, 1319, 1321]),
    (.ifCond .ge (7), 34, 3, [20]),
    (.iconst 0, 37, 1, []),
    (.goto (18), 38, 3, [27]),
    (.nop, 41, 0, []),
    (.nop, 42, 0, []),
    (.nop, 45, 0, []),
    (.nop, 46, 0, []),
    (.nop, 49, 0, []),
    (.nop, 50, 0, []),
    (.nop, 53, 0, []),
    (.ireturn, 56, 1, [])])
/-- Macrocosm.value()J -/
def zM_22 : zM := (⟨"Macrocosm", "value", "()J"⟩, prog_1_method_10_code, 1, some (.long), [], 0, 0, 11, [1266, 101, 1264], [(.aload_n 0, 0, 1, []),
    (.invokevirtual 93, 1, 3, [18, 554, 0]),
    (.ifCond .eq (13), 4, 3, [8]),
    (.nop, 7, 0, []),
    (.nop, 10, 0, []),
    (.nop, 11, 0, []),
    (.nop, 13, 0, []),
    (.nop, 16, 0, []),
    (.aload_n 0, 17, 1, []),
    (.getfield 45, 18, 3, [11, 5, 505]),
    (.invokevirtual 101, 21, 3, [34, 1268, 1270]),
    (.lreturn, 24, 1, [])])
/-- Macrocosm.valueByText()J -/
def zM_23 : zM := (⟨"Macrocosm", "valueByText", "()J"⟩, prog_1_method_11_code, 1, some (.long), [], 0, 0, 11, [1278, 101, 1276], [(.aload_n 0, 0, 1, []),
    (.invokevirtual 93, 1, 3, [18, 554, 0]),
    (.ifCond .eq (13), 4, 3, [8]),
    (.nop, 7, 0, []),
    (.nop, 10, 0, []),
    (.nop, 11, 0, []),
    (.nop, 13, 0, []),
    (.nop, 16, 0, []),
    (.aload_n 0, 17, 1, []),
    (.getfield 49, 18, 3, [11, 6, 506]),
    (.aload_n 0, 21, 1, []),
    (.getfield 30, 22, 3, [11, 3, 503]),
    (.invokevirtual 105, 25, 3, [54, 558, 560]),
    (.aload_n 0, 28, 1, []),
    (.getfield 52, 29, 3, [11, 7, 507]),
    (.aload_n 0, 32, 1, []),
    (.getfield 49, 33, 3, [11, 6, 506]),
    (.invokevirtual 109, 36, 3, [57, 951, 953]),
    (.invokevirtual 112, 39, 3, [28, 955, 957]),
    (.aload_n 0, 42, 1, []),
    (.getfield 52, 43, 3, [11, 7, 507]),
    (.invokevirtual 101, 46, 3, [34, 1268, 1270]),
    (.lreturn, 49, 1, [])])
/-- Macrocosm$Bindings.<init>(LMacrocosm$Makings;I)V -/
def zM_24 : zM := (⟨"Macrocosm$Bindings", "<init>", "(LMacrocosm$Makings;I)V"⟩, prog_2_method_1_code, 3, none, [], 2, 2, 8, [412, 111, 411], [(.aload_n 0, 0, 1, []),
    (.invokespecial 1, 1, 3, [413]),
    (.aload_n 0, 4, 1, []),
    (.aload_n 1, 5, 1, []),
    (.putfield 7, 6, 3, [8, 3, 422]),
    (.aload_n 0, 9, 1, []),
    (.iload_n 2, 10, 1, []),
    (.putfield 13, 11, 3, [8, 5, 424]),
    (.aload_n 0, 14, 1, []),
    (.new 17, 15, 3, [0, 414]),
    (.dup, 18, 1, []),
    (.iload_n 2, 19, 1, []),
    (.iconst 1, 20, 1, []),
    (.iadd, 21, 1, []),
    (.invokespecial 19, 22, 3, [1, 415, 0]),
    (.putfield 22, 25, 3, [8, 4, 423]),
    (.aload_n 0, 28, 1, []),
    (.new 17, 29, 3, [0, 414]),
    (.dup, 32, 1, []),
    (.iload_n 2, 33, 1, []),
    (.iconst 1, 34, 1, []),
    (.iadd, 35, 1, []),
    (.invokespecial 19, 36, 3, [1, 415, 0]),
    (.putfield 26, 39, 3, [8, 0, 416]),
    (.aload_n 0, 42, 1, []),
    (.new 17, 43, 3, [0, 414]),
    (.dup, 46, 1, []),
    (.iload_n 2, 47, 1, []),
    (.iconst 1, 48, 1, []),
    (.iadd, 49, 1, []),
    (.invokespecial 19, 50, 3, [1, 415, 0]),
    (.putfield 29, 53, 3, [8, 1, 418]),
    (.aload_n 0, 56, 1, []),
    (.new 17, 57, 3, [0, 414]),
    (.dup, 60, 1, []),
    (.iload_n 2, 61, 1, []),
    (.iconst 1, 62, 1, []),
    (.iadd, 63, 1, []),
    (.invokespecial 19, 64, 3, [1, 415, 0]),
    (.putfield 32, 67, 3, [8, 2, 420]),
    (.aload_n 0, 70, 1, []),
    (.iconst 0, 71, 1, []),
    (.putfield 35, 72, 3, [8, 6, 425]),
    (.return_, 75, 1, [])])
/-- Macrocosm$Bindings.isFull()Z -/
def zM_25 : zM := (⟨"Macrocosm$Bindings", "isFull", "()Z"⟩, prog_2_method_3_code, 1, some (.boolean), [], 0, 0, 8, [994, 111, 992], [(.aload_n 0, 0, 1, []),
    (.getfield 35, 1, 3, [8, 6, 425]),
    (.aload_n 0, 4, 1, []),
    (.getfield 13, 5, 3, [8, 5, 424]),
    (.if_icmp .lt (7), 8, 3, [7]),
    (.nop, 11, 0, []),
    (.nop, 12, 0, []),
    (.iconst 0, 15, 1, []),
    (.ireturn, 16, 1, [])])
/-- Macrocosm$Bindings.startAnew()V -/
def zM_26 : zM := (⟨"Macrocosm$Bindings", "startAnew", "()V"⟩, prog_2_method_2_code, 1, none, [], 0, 0, 8, [967, 111, 965], [(.aload_n 0, 0, 1, []),
    (.iconst 0, 1, 1, []),
    (.putfield 35, 2, 3, [8, 6, 425]),
    (.return_, 5, 1, [])])
/-- Macrocosm$Expansion.<init>(LMacrocosm$Reader;LMacrocosm$Sheet;I)V -/
def zM_27 : zM := (⟨"Macrocosm$Expansion", "<init>", "(LMacrocosm$Reader;LMacrocosm$Sheet;I)V"⟩, prog_3_method_1_code, 4, none, [], 2, 3, 10, [398, 110, 397], [(.aload_n 0, 0, 1, []),
    (.invokespecial 1, 1, 3, [399]),
    (.aload_n 0, 4, 1, []),
    (.aload_n 1, 5, 1, []),
    (.invokevirtual 7, 6, 3, [51, 400, 402]),
    (.putfield 13, 9, 3, [10, 0, 465]),
    (.aload_n 0, 12, 1, []),
    (.aload_n 1, 13, 1, []),
    (.invokevirtual 18, 14, 3, [61, 404, 406]),
    (.putfield 22, 17, 3, [10, 1, 466]),
    (.aload_n 0, 20, 1, []),
    (.aload_n 2, 21, 1, []),
    (.putfield 25, 22, 3, [10, 2, 467]),
    (.aload_n 0, 25, 1, []),
    (.new 29, 26, 3, [8, 408]),
    (.dup, 29, 1, []),
    (.aload_n 0, 30, 1, []),
    (.getfield 13, 31, 3, [10, 0, 465]),
    (.iload_n 3, 34, 1, []),
    (.invokespecial 31, 35, 3, [24, 410, 0]),
    (.putfield 34, 38, 3, [10, 3, 468]),
    (.aload_n 0, 41, 1, []),
    (.new 38, 42, 3, [9, 441]),
    (.dup, 45, 1, []),
    (.sipush (1550), 46, 3, []),
    (.invokespecial 40, 49, 3, [83, 443, 0]),
    (.putfield 43, 52, 3, [10, 4, 469]),
    (.aload_n 0, 55, 1, []),
    (.sipush (310), 56, 3, []),
    (.newarray .long, 59, 2, [2, 499]),
    (.putfield 47, 61, 3, [10, 5, 470]),
    (.aload_n 0, 64, 1, []),
    (.sipush (310), 65, 3, []),
    (.newarray .long, 68, 2, [2, 499]),
    (.putfield 51, 70, 3, [10, 6, 471]),
    (.return_, 73, 1, [])])
/-- Macrocosm$Expansion.expand(I)V -/
def zM_28 : zM := (⟨"Macrocosm$Expansion", "expand", "(I)V"⟩, prog_3_method_5_code, 3, none, [], 0, 1, 10, [958, 110, 956], [(.aload_n 0, 0, 1, []),
    (.invokevirtual 66, 1, 3, [35, 959, 40]),
    (.aload_n 0, 4, 1, []),
    (.lconst 0, 5, 1, []),
    (.invokevirtual 69, 6, 3, [33, 972, 41]),
    (.aload_n 0, 9, 1, []),
    (.getfield 43, 10, 3, [10, 4, 469]),
    (.iconst 0, 13, 1, []),
    (.aload_n 0, 14, 1, []),
    (.getfield 22, 15, 3, [10, 1, 466]),
    (.getfield 73, 18, 3, [5, 2, 292]),
    (.iload_n 1, 21, 1, []),
    (.invokevirtual 79, 22, 3, [2, 976, 699]),
    (.iconst 0, 25, 1, []),
    (.invokevirtual 85, 26, 3, [86, 977, 979]),
    (.iconst 0, 29, 1, []),
    (.istore_n 2, 30, 1, []),
    (.iload_n 2, 31, 1, []),
    (.ldc 89, 32, 2, [982, 1000000]),
    (.if_icmp .ge (58), 34, 3, [43]),
    (.aload_n 0, 37, 1, []),
    (.getfield 43, 38, 3, [10, 4, 469]),
    (.invokevirtual 90, 41, 3, [84, 983, 985]),
    (.ifCond .ne (48), 44, 3, [43]),
    (.aload_n 0, 47, 1, []),
    (.invokevirtual 93, 48, 3, [30, 987, 989]),
    (.ifCond .ne (41), 51, 3, [43]),
    (.aload_n 0, 54, 1, []),
    (.getfield 43, 55, 3, [10, 4, 469]),
    (.invokevirtual 96, 58, 3, [88, 999, 1001]),
    (.aload_n 0, 61, 1, []),
    (.aload_n 0, 62, 1, []),
    (.getfield 43, 63, 3, [10, 4, 469]),
    (.invokevirtual 99, 66, 3, [91, 1003, 1005]),
    (.aload_n 0, 69, 1, []),
    (.getfield 43, 70, 3, [10, 4, 469]),
    (.invokevirtual 103, 73, 3, [90, 1008, 1010]),
    (.aload_n 0, 76, 1, []),
    (.getfield 43, 77, 3, [10, 4, 469]),
    (.invokevirtual 106, 80, 3, [89, 1012, 1014]),
    (.invokevirtual 109, 83, 3, [32, 1016, 42]),
    (.iinc 2 (1), 86, 3, []),
    (.goto (-58), 89, 3, [17]),
    (.return_, 92, 1, [])])
/-- Macrocosm$Expansion.expandStatement(III)V -/
def zM_29 : zM := (⟨"Macrocosm$Expansion", "expandStatement", "(III)V"⟩, prog_3_method_10_code, 5, none, [], 0, 3, 10, [1023, 110, 1022], [(.iload_n 2, 0, 1, []),
    (.ifCond .ne (4), 1, 3, [3]),
    (.return_, 4, 1, []),
    (.nop, 5, 0, []),
    (.nop, 6, 0, []),
    (.nop, 9, 0, []),
    (.nop, 12, 0, []),
    (.nop, 13, 0, []),
    (.nop, 16, 0, []),
    (.nop, 18, 0, []),
    (.nop, 19, 0, []),
    (.nop, 22, 0, []),
    (.nop, 25, 0, []),
    (.nop, 26, 0, []),
    (.nop, 29, 0, []),
    (.nop, 31, 0, []),
    (.nop, 34, 0, []),
    (.nop, 35, 0, []),
    (.nop, 38, 0, []),
    (.nop, 39, 0, []),
    (.nop, 41, 0, []),
    (.nop, 42, 0, []),
    (.nop, 45, 0, []),
    (.nop, 46, 0, []),
    (.nop, 47, 0, []),
    (.nop, 50, 0, []),
    (.nop, 53, 0, []),
    (.nop, 54, 0, []),
    (.nop, 57, 0, []),
    (.nop, 58, 0, []),
    (.nop, 59, 0, []),
    (.nop, 62, 0, []),
    (.nop, 65, 0, []),
    (.nop, 66, 0, []),
    (.nop, 67, 0, []),
    (.nop, 68, 0, []),
    (.nop, 71, 0, []),
    (.nop, 72, 0, []),
    (.nop, 75, 0, []),
    (.nop, 77, 0, []),
    (.nop, 80, 0, []),
    (.nop, 81, 0, []),
    (.nop, 84, 0, []),
    (.nop, 85, 0, []),
    (.nop, 86, 0, []),
    (.nop, 89, 0, []),
    (.nop, 92, 0, []),
    (.nop, 93, 0, []),
    (.nop, 96, 0, []),
    (.nop, 98, 0, []),
    (.nop, 101, 0, []),
    (.nop, 102, 0, []),
    (.nop, 103, 0, []),
    (.nop, 104, 0, []),
    (.nop, 107, 0, []),
    (.nop, 110, 0, []),
    (.nop, 111, 0, []),
    (.nop, 114, 0, []),
    (.nop, 115, 0, []),
    (.nop, 117, 0, []),
    (.nop, 118, 0, []),
    (.nop, 121, 0, []),
    (.nop, 122, 0, []),
    (.nop, 125, 0, []),
    (.nop, 126, 0, []),
    (.nop, 127, 0, []),
    (.nop, 128, 0, []),
    (.nop, 131, 0, [])])
/-- Macrocosm$Expansion.isTooGreat()Z -/
def zM_30 : zM := (⟨"Macrocosm$Expansion", "isTooGreat", "()Z"⟩, prog_3_method_4_code, 1, some (.boolean), [], 0, 0, 10, [990, 110, 988], [(.aload_n 0, 0, 1, []),
    (.getfield 54, 1, 3, [10, 8, 473]),
    (.sipush (300), 4, 3, []),
    (.if_icmp .gt (33), 7, 3, [16]),
    (.aload_n 0, 10, 1, []),
    (.getfield 58, 11, 3, [10, 9, 474]),
    (.sipush (200), 14, 3, []),
    (.if_icmp .gt (23), 17, 3, [16]),
    (.aload_n 0, 20, 1, []),
    (.getfield 34, 21, 3, [10, 3, 468]),
    (.invokevirtual 61, 24, 3, [25, 991, 993]),
    (.ifCond .ne (13), 27, 3, [16]),
    (.aload_n 0, 30, 1, []),
    (.getfield 43, 31, 3, [10, 4, 469]),
    (.invokevirtual 65, 34, 3, [85, 995, 997]),
    (.ifCond .eq (7), 37, 3, [18]),
    (.nop, 40, 0, []),
    (.nop, 41, 0, []),
    (.iconst 0, 44, 1, []),
    (.ireturn, 45, 1, [])])
/-- Macrocosm$Expansion.partCount()I -/
def zM_31 : zM := (⟨"Macrocosm$Expansion", "partCount", "()I"⟩, prog_3_method_2_code, 1, some (.int), [], 0, 0, 10, [1289, 110, 1287], [(.aload_n 0, 0, 1, []),
    (.getfield 54, 1, 3, [10, 8, 473]),
    (.ireturn, 4, 1, [])])
/-- Macrocosm$Expansion.perform(III)V -/
def zM_32 : zM := (⟨"Macrocosm$Expansion", "perform", "(III)V"⟩, prog_3_method_9_code, 4, none, [], 0, 3, 10, [1019, 110, 1018], [(.iload_n 1, 0, 1, []),
    (.tableswitch (74) (0) (4) #[35, 35, 45, 54, 66], 1, 35, [23, 2, 2, 8, 13, 19]),
    (.aload_n 0, 36, 1, []),
    (.iload_n 1, 37, 1, []),
    (.iload_n 2, 38, 1, []),
    (.iload_n 3, 39, 1, []),
    (.invokevirtual 125, 40, 3, [29, 1020, 43]),
    (.goto (37), 43, 3, [26]),
    (.nop, 46, 0, []),
    (.nop, 47, 0, []),
    (.nop, 48, 0, []),
    (.nop, 49, 0, []),
    (.nop, 52, 0, []),
    (.nop, 55, 0, []),
    (.nop, 56, 0, []),
    (.nop, 59, 0, []),
    (.nop, 60, 0, []),
    (.nop, 61, 0, []),
    (.nop, 64, 0, []),
    (.nop, 67, 0, []),
    (.nop, 68, 0, []),
    (.nop, 69, 0, []),
    (.nop, 72, 0, []),
    (.nop, 75, 0, []),
    (.nop, 76, 0, []),
    (.nop, 77, 0, []),
    (.return_, 80, 1, [])])
/-- Macrocosm$Expansion.pushResult(J)V -/
def zM_33 : zM := (⟨"Macrocosm$Expansion", "pushResult", "(J)V"⟩, prog_3_method_7_code, 3, none, [], 0, 1, 10, [975, 110, 974], [(.aload_n 0, 0, 1, []),
    (.getfield 119, 1, 3, [10, 7, 472]),
    (.ifCond .lt (35), 4, 3, [21]),
    (.aload_n 0, 7, 1, []),
    (.getfield 119, 8, 3, [10, 7, 472]),
    (.aload_n 0, 11, 1, []),
    (.getfield 47, 12, 3, [10, 5, 470]),
    (.arraylength, 15, 1, []),
    (.if_icmp .ge (23), 16, 3, [21]),
    (.aload_n 0, 19, 1, []),
    (.getfield 47, 20, 3, [10, 5, 470]),
    (.aload_n 0, 23, 1, []),
    (.getfield 119, 24, 3, [10, 7, 472]),
    (.lload_n 1, 27, 1, []),
    (.lastore, 28, 1, []),
    (.aload_n 0, 29, 1, []),
    (.dup, 30, 1, []),
    (.getfield 119, 31, 3, [10, 7, 472]),
    (.iconst 1, 34, 1, []),
    (.iadd, 35, 1, []),
    (.putfield 119, 36, 3, [10, 7, 472]),
    (.return_, 39, 1, [])])
/-- Macrocosm$Expansion.result()J -/
def zM_34 : zM := (⟨"Macrocosm$Expansion", "result", "()J"⟩, prog_3_method_3_code, 1, some (.long), [], 0, 0, 10, [1271, 110, 1269], [(.aload_n 0, 0, 1, []),
    (.getfield 47, 1, 3, [10, 5, 470]),
    (.arraylength, 4, 1, []),
    (.ifCond .le (12), 5, 3, [9]),
    (.aload_n 0, 8, 1, []),
    (.getfield 47, 9, 3, [10, 5, 470]),
    (.iconst 0, 12, 1, []),
    (.laload, 13, 1, []),
    (.goto (4), 14, 3, [10]),
    (.nop, 17, 0, []),
    (.lreturn, 18, 1, [])])
/-- Macrocosm$Expansion.startAnew()V -/
def zM_35 : zM := (⟨"Macrocosm$Expansion", "startAnew", "()V"⟩, prog_3_method_6_code, 1, none, [], 0, 0, 10, [962, 110, 961], [(.aload_n 0, 0, 1, []),
    (.getfield 25, 1, 3, [10, 2, 467]),
    (.invokevirtual 112, 4, 3, [73, 963, 544]),
    (.aload_n 0, 7, 1, []),
    (.getfield 34, 8, 3, [10, 3, 468]),
    (.invokevirtual 117, 11, 3, [26, 964, 966]),
    (.aload_n 0, 14, 1, []),
    (.getfield 43, 15, 3, [10, 4, 469]),
    (.invokevirtual 118, 18, 3, [87, 968, 970]),
    (.aload_n 0, 21, 1, []),
    (.iconst 0, 22, 1, []),
    (.putfield 119, 23, 3, [10, 7, 472]),
    (.aload_n 0, 26, 1, []),
    (.iconst 0, 27, 1, []),
    (.putfield 54, 28, 3, [10, 8, 473]),
    (.aload_n 0, 31, 1, []),
    (.iconst 0, 32, 1, []),
    (.putfield 58, 33, 3, [10, 9, 474]),
    (.aload_n 0, 36, 1, []),
    (.iconst 0, 37, 1, []),
    (.putfield 122, 38, 3, [10, 10, 475]),
    (.return_, 41, 1, [])])
/-- Macrocosm$Frames.<init>(I)V -/
def zM_36 : zM := (⟨"Macrocosm$Frames", "<init>", "(I)V"⟩, prog_4_method_1_code, 2, none, [], 2, 1, 6, [314, 109, 313], [(.aload_n 0, 0, 1, []),
    (.invokespecial 1, 1, 3, [315]),
    (.aload_n 0, 4, 1, []),
    (.new 7, 5, 3, [0, 316]),
    (.dup, 8, 1, []),
    (.iload_n 1, 9, 1, []),
    (.invokespecial 9, 10, 3, [1, 317, 0]),
    (.putfield 12, 13, 3, [6, 0, 318]),
    (.aload_n 0, 16, 1, []),
    (.new 7, 17, 3, [0, 316]),
    (.dup, 20, 1, []),
    (.iload_n 1, 21, 1, []),
    (.invokespecial 9, 22, 3, [1, 317, 0]),
    (.putfield 18, 25, 3, [6, 1, 319]),
    (.aload_n 0, 28, 1, []),
    (.new 7, 29, 3, [0, 316]),
    (.dup, 32, 1, []),
    (.iload_n 1, 33, 1, []),
    (.invokespecial 9, 34, 3, [1, 317, 0]),
    (.putfield 21, 37, 3, [6, 2, 320]),
    (.aload_n 0, 40, 1, []),
    (.new 7, 41, 3, [0, 316]),
    (.dup, 44, 1, []),
    (.iload_n 1, 45, 1, []),
    (.invokespecial 9, 46, 3, [1, 317, 0]),
    (.putfield 24, 49, 3, [6, 3, 321]),
    (.aload_n 0, 52, 1, []),
    (.new 7, 53, 3, [0, 316]),
    (.dup, 56, 1, []),
    (.iload_n 1, 57, 1, []),
    (.invokespecial 9, 58, 3, [1, 317, 0]),
    (.putfield 27, 61, 3, [6, 4, 322]),
    (.aload_n 0, 64, 1, []),
    (.new 7, 65, 3, [0, 316]),
    (.dup, 68, 1, []),
    (.iload_n 1, 69, 1, []),
    (.invokespecial 9, 70, 3, [1, 317, 0]),
    (.putfield 30, 73, 3, [6, 5, 323]),
    (.aload_n 0, 76, 1, []),
    (.iconst (-1), 77, 1, []),
    (.putfield 33, 78, 3, [6, 6, 324]),
    (.return_, 81, 1, [])])
/-- Macrocosm$Frames.push(IIIII)V -/
def zM_37 : zM := (⟨"Macrocosm$Frames", "push", "(IIIII)V"⟩, prog_4_method_3_code, 6, none, [], 0, 5, 6, [757, 109, 755], [(.aload_n 0, 0, 1, []),
    (.dup, 1, 1, []),
    (.getfield 33, 2, 3, [6, 6, 324]),
    (.iconst 1, 5, 1, []),
    (.iadd, 6, 1, []),
    (.putfield 33, 7, 3, [6, 6, 324]),
    (.aload_n 0, 10, 1, []),
    (.getfield 12, 11, 3, [6, 0, 318]),
    (.aload_n 0, 14, 1, []),
    (.getfield 33, 15, 3, [6, 6, 324]),
    (.iload_n 1, 18, 1, []),
    (.invokevirtual 37, 19, 3, [0, 758, 599]),
    (.aload_n 0, 22, 1, []),
    (.getfield 18, 23, 3, [6, 1, 319]),
    (.aload_n 0, 26, 1, []),
    (.getfield 33, 27, 3, [6, 6, 324]),
    (.iload_n 2, 30, 1, []),
    (.invokevirtual 37, 31, 3, [0, 758, 599]),
    (.aload_n 0, 34, 1, []),
    (.getfield 21, 35, 3, [6, 2, 320]),
    (.aload_n 0, 38, 1, []),
    (.getfield 33, 39, 3, [6, 6, 324]),
    (.iload_n 3, 42, 1, []),
    (.invokevirtual 37, 43, 3, [0, 758, 599]),
    (.aload_n 0, 46, 1, []),
    (.getfield 24, 47, 3, [6, 3, 321]),
    (.aload_n 0, 50, 1, []),
    (.getfield 33, 51, 3, [6, 6, 324]),
    (.iload 4, 54, 2, []),
    (.invokevirtual 37, 56, 3, [0, 758, 599]),
    (.aload_n 0, 59, 1, []),
    (.getfield 27, 60, 3, [6, 4, 322]),
    (.aload_n 0, 63, 1, []),
    (.getfield 33, 64, 3, [6, 6, 324]),
    (.iload 5, 67, 2, []),
    (.invokevirtual 37, 69, 3, [0, 758, 599]),
    (.aload_n 0, 72, 1, []),
    (.getfield 30, 73, 3, [6, 5, 323]),
    (.aload_n 0, 76, 1, []),
    (.getfield 33, 77, 3, [6, 6, 324]),
    (.iconst 0, 80, 1, []),
    (.invokevirtual 37, 81, 3, [0, 758, 599]),
    (.return_, 84, 1, [])])
/-- Macrocosm$Frames.sort()I -/
def zM_38 : zM := (⟨"Macrocosm$Frames", "sort", "()I"⟩, prog_4_method_5_code, 1, some (.int), [], 0, 0, 6, [890, 109, 888], [(.aload_n 0, 0, 1, []),
    (.getfield 12, 1, 3, [6, 0, 318]),
    (.aload_n 0, 4, 1, []),
    (.getfield 33, 5, 3, [6, 6, 324]),
    (.invokevirtual 41, 8, 3, [2, 789, 699]),
    (.ireturn, 11, 1, [])])
/-- Macrocosm$Frames.startAnew()V -/
def zM_39 : zM := (⟨"Macrocosm$Frames", "startAnew", "()V"⟩, prog_4_method_2_code, 1, none, [], 0, 0, 6, [739, 109, 737], [(.aload_n 0, 0, 1, []),
    (.iconst (-1), 1, 1, []),
    (.putfield 33, 2, 3, [6, 6, 324]),
    (.return_, 5, 1, [])])
/-- Macrocosm$Makings.<init>(I)V -/
def zM_40 : zM := (⟨"Macrocosm$Makings", "<init>", "(I)V"⟩, prog_5_method_1_code, 2, none, [], 2, 1, 3, [205, 106, 204], [(.aload_n 0, 0, 1, []),
    (.invokespecial 1, 1, 3, [206]),
    (.aload_n 0, 4, 1, []),
    (.new 7, 5, 3, [0, 207]),
    (.dup, 8, 1, []),
    (.iload_n 1, 9, 1, []),
    (.invokespecial 9, 10, 3, [1, 208, 0]),
    (.putfield 12, 13, 3, [3, 0, 209]),
    (.aload_n 0, 16, 1, []),
    (.new 7, 17, 3, [0, 207]),
    (.dup, 20, 1, []),
    (.iload_n 1, 21, 1, []),
    (.invokespecial 9, 22, 3, [1, 208, 0]),
    (.putfield 18, 25, 3, [3, 1, 212]),
    (.aload_n 0, 28, 1, []),
    (.new 7, 29, 3, [0, 207]),
    (.dup, 32, 1, []),
    (.iload_n 1, 33, 1, []),
    (.invokespecial 9, 34, 3, [1, 208, 0]),
    (.putfield 21, 37, 3, [3, 2, 215]),
    (.aload_n 0, 40, 1, []),
    (.new 7, 41, 3, [0, 207]),
    (.dup, 44, 1, []),
    (.iload_n 1, 45, 1, []),
    (.invokespecial 9, 46, 3, [1, 208, 0]),
    (.putfield 24, 49, 3, [3, 3, 217]),
    (.aload_n 0, 52, 1, []),
    (.new 7, 53, 3, [0, 207]),
    (.dup, 56, 1, []),
    (.iload_n 1, 57, 1, []),
    (.invokespecial 9, 58, 3, [1, 208, 0]),
    (.putfield 27, 61, 3, [3, 4, 220]),
    (.aload_n 0, 64, 1, []),
    (.new 7, 65, 3, [0, 207]),
    (.dup, 68, 1, []),
    (.iload_n 1, 69, 1, []),
    (.invokespecial 9, 70, 3, [1, 208, 0]),
    (.putfield 30, 73, 3, [3, 5, 222]),
    (.aload_n 0, 76, 1, []),
    (.new 7, 77, 3, [0, 207]),
    (.dup, 80, 1, []),
    (.iload_n 1, 81, 1, []),
    (.invokespecial 9, 82, 3, [1, 208, 0]),
    (.putfield 33, 85, 3, [3, 6, 225]),
    (.aload_n 0, 88, 1, []),
    (.new 7, 89, 3, [0, 207]),
    (.dup, 92, 1, []),
    (.iload_n 1, 93, 1, []),
    (.invokespecial 9, 94, 3, [1, 208, 0]),
    (.putfield 36, 97, 3, [3, 7, 227]),
    (.aload_n 0, 100, 1, []),
    (.new 7, 101, 3, [0, 207]),
    (.dup, 104, 1, []),
    (.iload_n 1, 105, 1, []),
    (.invokespecial 9, 106, 3, [1, 208, 0]),
    (.putfield 39, 109, 3, [3, 8, 229]),
    (.aload_n 0, 112, 1, []),
    (.iconst 0, 113, 1, []),
    (.putfield 42, 114, 3, [3, 9, 232]),
    (.return_, 117, 1, [])])
/-- Macrocosm$Makings.add(III)I -/
def zM_41 : zM := (⟨"Macrocosm$Makings", "add", "(III)I"⟩, prog_5_method_3_code, 4, some (.int), [], 0, 3, 3, [716, 106, 714], [(.aload_n 0, 0, 1, []),
    (.dup, 1, 1, []),
    (.getfield 42, 2, 3, [3, 9, 232]),
    (.iconst 1, 5, 1, []),
    (.iadd, 6, 1, []),
    (.putfield 42, 7, 3, [3, 9, 232]),
    (.aload_n 0, 10, 1, []),
    (.getfield 12, 11, 3, [3, 0, 209]),
    (.aload_n 0, 14, 1, []),
    (.getfield 42, 15, 3, [3, 9, 232]),
    (.iload_n 1, 18, 1, []),
    (.invokevirtual 50, 19, 3, [0, 717, 599]),
    (.aload_n 0, 22, 1, []),
    (.getfield 18, 23, 3, [3, 1, 212]),
    (.aload_n 0, 26, 1, []),
    (.getfield 42, 27, 3, [3, 9, 232]),
    (.iload_n 2, 30, 1, []),
    (.invokevirtual 50, 31, 3, [0, 717, 599]),
    (.aload_n 0, 34, 1, []),
    (.getfield 21, 35, 3, [3, 2, 215]),
    (.aload_n 0, 38, 1, []),
    (.getfield 42, 39, 3, [3, 9, 232]),
    (.iload_n 3, 42, 1, []),
    (.invokevirtual 50, 43, 3, [0, 717, 599]),
    (.aload_n 0, 46, 1, []),
    (.getfield 24, 47, 3, [3, 3, 217]),
    (.aload_n 0, 50, 1, []),
    (.getfield 42, 51, 3, [3, 9, 232]),
    (.iload_n 1, 54, 1, []),
    (.ifCond .ne (7), 55, 3, [32]),
    (.nop, 58, 0, []),
    (.nop, 59, 0, []),
    (.iconst 0, 62, 1, []),
    (.invokevirtual 50, 63, 3, [0, 717, 599]),
    (.aload_n 0, 66, 1, []),
    (.getfield 27, 67, 3, [3, 4, 220]),
    (.aload_n 0, 70, 1, []),
    (.getfield 42, 71, 3, [3, 9, 232]),
    (.iconst 0, 74, 1, []),
    (.invokevirtual 50, 75, 3, [0, 717, 599]),
    (.aload_n 0, 78, 1, []),
    (.getfield 30, 79, 3, [3, 5, 222]),
    (.aload_n 0, 82, 1, []),
    (.getfield 42, 83, 3, [3, 9, 232]),
    (.iconst 0, 86, 1, []),
    (.invokevirtual 50, 87, 3, [0, 717, 599]),
    (.aload_n 0, 90, 1, []),
    (.getfield 33, 91, 3, [3, 6, 225]),
    (.aload_n 0, 94, 1, []),
    (.getfield 42, 95, 3, [3, 9, 232]),
    (.iconst 0, 98, 1, []),
    (.invokevirtual 50, 99, 3, [0, 717, 599]),
    (.aload_n 0, 102, 1, []),
    (.getfield 36, 103, 3, [3, 7, 227]),
    (.aload_n 0, 106, 1, []),
    (.getfield 42, 107, 3, [3, 9, 232]),
    (.iconst 0, 110, 1, []),
    (.invokevirtual 50, 111, 3, [0, 717, 599]),
    (.aload_n 0, 114, 1, []),
    (.getfield 39, 115, 3, [3, 8, 229]),
    (.aload_n 0, 118, 1, []),
    (.getfield 42, 119, 3, [3, 9, 232]),
    (.iconst 0, 122, 1, []),
    (.invokevirtual 50, 123, 3, [0, 717, 599]),
    (.aload_n 0, 126, 1, []),
    (.getfield 42, 127, 3, [3, 9, 232]),
    (.ireturn, 130, 1, [])])
/-- Macrocosm$Makings.addPlainSign(CI)V -/
def zM_42 : zM := (⟨"Macrocosm$Makings", "addPlainSign", "(CI)V"⟩, prog_5_method_6_code, 4, none, [], 0, 2, 3, [712, 106, 711], [(.aload_n 0, 0, 1, []),
    (.iconst 2, 1, 1, []),
    (.iload_n 1, 2, 1, []),
    (.iconst (-1), 3, 1, []),
    (.invokevirtual 54, 4, 3, [41, 713, 715]),
    (.istore_n 3, 7, 1, []),
    (.aload_n 0, 8, 1, []),
    (.getfield 33, 9, 3, [3, 6, 225]),
    (.iload_n 3, 12, 1, []),
    (.iload_n 2, 13, 1, []),
    (.invokevirtual 50, 14, 3, [0, 717, 599]),
    (.aload_n 0, 17, 1, []),
    (.getfield 36, 18, 3, [3, 7, 227]),
    (.iload_n 3, 21, 1, []),
    (.bipush (12), 22, 2, []),
    (.invokevirtual 50, 24, 3, [0, 717, 599]),
    (.return_, 27, 1, [])])
/-- Macrocosm$Makings.startAnew()V -/
def zM_43 : zM := (⟨"Macrocosm$Makings", "startAnew", "()V"⟩, prog_5_method_2_code, 1, none, [], 0, 0, 3, [708, 106, 706], [(.aload_n 0, 0, 1, []),
    (.iconst 0, 1, 1, []),
    (.putfield 42, 2, 3, [3, 9, 232]),
    (.aload_n 0, 5, 1, []),
    (.bipush (43), 6, 2, []),
    (.iconst 5, 8, 1, []),
    (.invokevirtual 46, 9, 3, [42, 709, 9]),
    (.aload_n 0, 12, 1, []),
    (.bipush (45), 13, 2, []),
    (.iconst 5, 15, 1, []),
    (.invokevirtual 46, 16, 3, [42, 709, 9]),
    (.aload_n 0, 19, 1, []),
    (.bipush (42), 20, 2, []),
    (.bipush (6), 22, 2, []),
    (.invokevirtual 46, 24, 3, [42, 709, 9]),
    (.return_, 27, 1, [])])
/-- Macrocosm$Reader.<init>(III)V -/
def zM_44 : zM := (⟨"Macrocosm$Reader", "<init>", "(III)V"⟩, prog_6_method_1_code, 4, none, [], 2, 3, 7, [175, 104, 174], [(.aload_n 0, 0, 1, []),
    (.invokespecial 1, 1, 3, [176]),
    (.aload_n 0, 4, 1, []),
    (.new 7, 5, 3, [2, 177]),
    (.dup, 8, 1, []),
    (.iload_n 1, 9, 1, []),
    (.invokespecial 9, 10, 3, [74, 179, 0]),
    (.putfield 12, 13, 3, [7, 0, 342]),
    (.aload_n 0, 16, 1, []),
    (.new 18, 17, 3, [3, 201]),
    (.dup, 20, 1, []),
    (.iload_n 2, 21, 1, []),
    (.invokespecial 20, 22, 3, [40, 203, 0]),
    (.putfield 21, 25, 3, [7, 1, 343]),
    (.aload_n 0, 28, 1, []),
    (.new 25, 29, 3, [4, 254]),
    (.dup, 32, 1, []),
    (.aload_n 0, 33, 1, []),
    (.getfield 21, 34, 3, [7, 1, 343]),
    (.iload_n 2, 37, 1, []),
    (.invokespecial 27, 38, 3, [62, 256, 0]),
    (.putfield 30, 41, 3, [7, 2, 344]),
    (.aload_n 0, 44, 1, []),
    (.new 34, 45, 3, [5, 279]),
    (.dup, 48, 1, []),
    (.iload_n 2, 49, 1, []),
    (.invokespecial 36, 50, 3, [80, 281, 0]),
    (.putfield 37, 53, 3, [7, 3, 345]),
    (.aload_n 0, 56, 1, []),
    (.new 41, 57, 3, [6, 310]),
    (.dup, 60, 1, []),
    (.iconst 2, 61, 1, []),
    (.iload_n 2, 62, 1, []),
    (.imul, 63, 1, []),
    (.invokespecial 43, 64, 3, [36, 312, 0]),
    (.putfield 44, 67, 3, [7, 4, 346]),
    (.aload_n 0, 70, 1, []),
    (.new 48, 71, 3, [0, 340]),
    (.dup, 74, 1, []),
    (.iload_n 3, 75, 1, []),
    (.invokespecial 50, 76, 3, [1, 341, 0]),
    (.putfield 51, 79, 3, [7, 5, 347]),
    (.aload_n 0, 82, 1, []),
    (.new 48, 83, 3, [0, 340]),
    (.dup, 86, 1, []),
    (.iconst 4, 87, 1, []),
    (.iload_n 3, 88, 1, []),
    (.imul, 89, 1, []),
    (.invokespecial 50, 90, 3, [1, 341, 0]),
    (.putfield 55, 93, 3, [7, 6, 348]),
    (.aload_n 0, 96, 1, []),
    (.new 48, 97, 3, [0, 340]),
    (.dup, 100, 1, []),
    (.iload_n 3, 101, 1, []),
    (.invokespecial 50, 102, 3, [1, 341, 0]),
    (.putfield 58, 105, 3, [7, 7, 349]),
    (.aload_n 0, 108, 1, []),
    (.new 48, 109, 3, [0, 340]),
    (.dup, 112, 1, []),
    (.iload_n 3, 113, 1, []),
    (.invokespecial 50, 114, 3, [1, 341, 0]),
    (.putfield 61, 117, 3, [7, 8, 350]),
    (.aload_n 0, 120, 1, []),
    (.bipush (10), 121, 2, []),
    (.putfield 64, 123, 3, [7, 11, 353]),
    (.aload_n 0, 126, 1, []),
    (.iconst (-1), 127, 1, []),
    (.putfield 68, 128, 3, [7, 15, 357]),
    (.return_, 131, 1, [])])
/-- Macrocosm$Reader.beginOf(I)I -/
def zM_45 : zM := (⟨"Macrocosm$Reader", "beginOf", "(I)I"⟩, prog_6_method_9_code, 2, some (.int), [], 0, 1, 7, [1326, 104, 1324], [(.iload_n 1, 0, 1, []),
    (.ifCond .ge (7), 1, 3, [4]),
    (.iconst (-1), 4, 1, []),
    (.goto (14), 5, 3, [9]),
    (.nop, 8, 0, []),
    (.nop, 9, 0, []),
    (.nop, 12, 0, []),
    (.nop, 15, 0, []),
    (.nop, 16, 0, []),
    (.ireturn, 19, 1, [])])
/-- Macrocosm$Reader.foundFault()I -/
def zM_46 : zM := (⟨"Macrocosm$Reader", "foundFault", "()I"⟩, prog_6_method_5_code, 1, some (.int), [], 0, 0, 7, [946, 104, 944], [(.aload_n 0, 0, 1, []),
    (.getfield 74, 1, 3, [7, 14, 356]),
    (.ireturn, 4, 1, [])])
/-- Macrocosm$Reader.foundPlace()I -/
def zM_47 : zM := (⟨"Macrocosm$Reader", "foundPlace", "()I"⟩, prog_6_method_6_code, 1, some (.int), [], 0, 0, 7, [950, 104, 948], [(.aload_n 0, 0, 1, []),
    (.getfield 68, 1, 3, [7, 15, 357]),
    (.ireturn, 4, 1, [])])
/-- Macrocosm$Reader.heldAt(II)I -/
def zM_48 : zM := (⟨"Macrocosm$Reader", "heldAt", "(II)I"⟩, prog_6_method_13_code, 4, some (.int), [], 0, 2, 7, [1409, 104, 1407], [(.aload_n 0, 0, 1, []),
    (.getfield 12, 1, 3, [7, 0, 342]),
    (.iload_n 1, 4, 1, []),
    (.invokevirtual 94, 5, 3, [76, 1410, 1412]),
    (.istore_n 3, 8, 1, []),
    (.iload_n 3, 9, 1, []),
    (.ifCond .ge (14), 10, 3, [14]),
    (.iload_n 2, 13, 1, []),
    (.iconst 2, 14, 1, []),
    (.if_icmp .ne (7), 15, 3, [12]),
    (.iconst 3, 18, 1, []),
    (.goto (4), 19, 3, [13]),
    (.iconst 0, 22, 1, []),
    (.ireturn, 23, 1, []),
    (.nop, 24, 0, []),
    (.nop, 25, 0, []),
    (.nop, 28, 0, []),
    (.nop, 29, 0, []),
    (.nop, 30, 0, []),
    (.nop, 31, 0, []),
    (.nop, 32, 0, []),
    (.nop, 33, 0, []),
    (.nop, 36, 0, [])])
/-- Macrocosm$Reader.kind()I -/
def zM_49 : zM := (⟨"Macrocosm$Reader", "kind", "()I"⟩, prog_6_method_18_code, 1, some (.int), [], 0, 0, 7, [767, 104, 766], [(.aload_n 0, 0, 1, []),
    (.getfield 12, 1, 3, [7, 0, 342]),
    (.getfield 176, 4, 3, [2, 0, 186]),
    (.aload_n 0, 7, 1, []),
    (.getfield 156, 8, 3, [7, 10, 352]),
    (.invokevirtual 88, 11, 3, [2, 768, 699]),
    (.ireturn, 14, 1, [])])
/-- Macrocosm$Reader.madeAt(I)I -/
def zM_50 : zM := (⟨"Macrocosm$Reader", "madeAt", "(I)I"⟩, prog_6_method_11_code, 3, some (.int), [], 0, 1, 7, [1322, 104, 1320], [(.aload_n 0, 0, 1, []),
    (.getfield 51, 1, 3, [7, 5, 347]),
    (.iload_n 1, 4, 1, []),
    (.invokevirtual 88, 5, 3, [2, 768, 699]),
    (.istore_n 2, 8, 1, []),
    (.iload_n 2, 9, 1, []),
    (.ifCond .ne (7), 10, 3, [9]),
    (.iconst (-1), 13, 1, []),
    (.goto (14), 14, 3, [14]),
    (.nop, 17, 0, []),
    (.nop, 18, 0, []),
    (.nop, 21, 0, []),
    (.nop, 24, 0, []),
    (.nop, 25, 0, []),
    (.ireturn, 28, 1, [])])
/-- Macrocosm$Reader.makings()LMacrocosm$Makings; -/
def zM_51 : zM := (⟨"Macrocosm$Reader", "makings", "()LMacrocosm$Makings;"⟩, prog_6_method_2_code, 1, some (.object "Macrocosm$Makings"), [], 0, 0, 7, [403, 104, 401], [(.aload_n 0, 0, 1, []),
    (.getfield 21, 1, 3, [7, 1, 343]),
    (.areturn, 4, 1, [])])
/-- Macrocosm$Reader.mayRename(II)Z -/
def zM_52 : zM := (⟨"Macrocosm$Reader", "mayRename", "(II)Z"⟩, prog_6_method_14_code, 5, some (.boolean), [], 0, 2, 7, [1369, 104, 1367], [(.aload_n 0, 0, 1, []),
    (.getfield 21, 1, 3, [7, 1, 343]),
    (.getfield 97, 4, 3, [3, 0, 211]),
    (.iload_n 1, 7, 1, []),
    (.invokevirtual 88, 8, 3, [2, 768, 699]),
    (.istore_n 3, 11, 1, []),
    (.aload_n 0, 12, 1, []),
    (.getfield 21, 13, 3, [7, 1, 343]),
    (.getfield 100, 16, 3, [3, 1, 214]),
    (.iload_n 1, 19, 1, []),
    (.invokevirtual 88, 20, 3, [2, 768, 699]),
    (.istore 4, 23, 2, []),
    (.iload_n 1, 25, 1, []),
    (.iconst 3, 26, 1, []),
    (.if_icmp .le (18), 27, 3, [23]),
    (.nop, 30, 0, []),
    (.nop, 32, 0, []),
    (.nop, 33, 0, []),
    (.nop, 36, 0, []),
    (.nop, 37, 0, []),
    (.nop, 40, 0, []),
    (.nop, 41, 0, []),
    (.nop, 42, 0, []),
    (.iconst 0, 45, 1, []),
    (.ireturn, 46, 1, []),
    (.nop, 47, 0, []),
    (.nop, 48, 0, []),
    (.nop, 49, 0, []),
    (.nop, 52, 0, []),
    (.nop, 55, 0, []),
    (.nop, 56, 0, []),
    (.nop, 58, 0, []),
    (.nop, 61, 0, []),
    (.nop, 64, 0, []),
    (.nop, 65, 0, []),
    (.nop, 68, 0, []),
    (.nop, 69, 0, [])])
/-- Macrocosm$Reader.meaning(I)I -/
def zM_53 : zM := (⟨"Macrocosm$Reader", "meaning", "(I)I"⟩, prog_6_method_10_code, 2, some (.int), [], 0, 1, 7, [1337, 104, 1335], [(.aload_n 0, 0, 1, []),
    (.getfield 51, 1, 3, [7, 5, 347]),
    (.iload_n 1, 4, 1, []),
    (.invokevirtual 88, 5, 3, [2, 768, 699]),
    (.ireturn, 8, 1, [])])
/-- Macrocosm$Reader.read(LMacrocosm$Sheet;)V -/
def zM_54 : zM := (⟨"Macrocosm$Reader", "read", "(LMacrocosm$Sheet;)V"⟩, prog_6_method_16_code, 3, none, [], 0, 1, 7, [561, 104, 559], [(.aload_n 0, 0, 1, []),
    (.getfield 12, 1, 3, [7, 0, 342]),
    (.aload_n 1, 4, 1, []),
    (.invokevirtual 110, 5, 3, [78, 562, 564]),
    (.aload_n 0, 8, 1, []),
    (.invokevirtual 114, 9, 3, [58, 701, 8]),
    (.iconst 0, 12, 1, []),
    (.istore_n 2, 13, 1, []),
    (.iload_n 2, 14, 1, []),
    (.ldc 117, 15, 2, [759, 1000000]),
    (.if_icmp .ge (140), 17, 3, [49]),
    (.aload_n 0, 20, 1, []),
    (.getfield 64, 21, 3, [7, 11, 353]),
    (.bipush (10), 24, 2, []),
    (.if_icmp .eq (131), 26, 3, [49]),
    (.aload_n 0, 29, 1, []),
    (.getfield 64, 30, 3, [7, 11, 353]),
    (.tableswitch (114) (0) (8) #[51, 58, 65, 72, 79, 86, 93, 100, 107], 33, 51, [45, 18, 21, 24, 27, 30, 33, 36, 39, 42]),
    (.aload_n 0, 84, 1, []),
    (.invokevirtual 118, 85, 3, [55, 760, 10]),
    (.goto (63), 88, 3, [47]),
    (.nop, 91, 0, []),
    (.nop, 92, 0, []),
    (.nop, 95, 0, []),
    (.nop, 98, 0, []),
    (.nop, 99, 0, []),
    (.nop, 102, 0, []),
    (.nop, 105, 0, []),
    (.nop, 106, 0, []),
    (.nop, 109, 0, []),
    (.nop, 112, 0, []),
    (.nop, 113, 0, []),
    (.nop, 116, 0, []),
    (.nop, 119, 0, []),
    (.nop, 120, 0, []),
    (.nop, 123, 0, []),
    (.nop, 126, 0, []),
    (.nop, 127, 0, []),
    (.nop, 130, 0, []),
    (.nop, 133, 0, []),
    (.nop, 134, 0, []),
    (.nop, 137, 0, []),
    (.nop, 140, 0, []),
    (.nop, 141, 0, []),
    (.nop, 144, 0, []),
    (.aload_n 0, 147, 1, []),
    (.invokevirtual 145, 148, 3, [56, 939, 39]),
    (.iinc 2 (1), 151, 3, []),
    (.goto (-140), 154, 3, [8]),
    (.return_, 157, 1, [])])
/-- Macrocosm$Reader.readStatement()V -/
def zM_55 : zM := (⟨"Macrocosm$Reader", "readStatement", "()V"⟩, prog_6_method_23_code, 1, none, [], 0, 0, 7, [763, 104, 762], [(.aload_n 0, 0, 1, []),
    (.invokevirtual 181, 1, 3, [49, 764, 11]),
    (.lookupswitch (109) #[(0, 100), (5, 68), (6, 80), (7, 80), (8, 88), (59, 100), (125, 100)], 4, 68, [23, 19, 3, 9, 9, 13, 19, 19]),
    (.nop, 72, 0, []),
    (.nop, 73, 0, []),
    (.nop, 76, 0, []),
    (.nop, 77, 0, []),
    (.nop, 78, 0, []),
    (.nop, 81, 0, []),
    (.nop, 84, 0, []),
    (.nop, 85, 0, []),
    (.nop, 86, 0, []),
    (.nop, 89, 0, []),
    (.nop, 92, 0, []),
    (.nop, 93, 0, []),
    (.nop, 96, 0, []),
    (.nop, 97, 0, []),
    (.nop, 98, 0, []),
    (.nop, 101, 0, []),
    (.aload_n 0, 104, 1, []),
    (.bipush (9), 105, 2, []),
    (.putfield 64, 107, 3, [7, 11, 353]),
    (.goto (8), 110, 3, [26]),
    (.nop, 113, 0, []),
    (.nop, 114, 0, []),
    (.nop, 115, 0, []),
    (.return_, 118, 1, [])])
/-- Macrocosm$Reader.readStatementEnd()V -/
def zM_56 : zM := (⟨"Macrocosm$Reader", "readStatementEnd", "()V"⟩, prog_6_method_47_code, 2, none, [], 0, 0, 7, [942, 104, 941], [(.aload_n 0, 0, 1, []),
    (.getfield 44, 1, 3, [7, 4, 346]),
    (.invokevirtual 267, 4, 3, [38, 887, 889]),
    (.iconst 1, 7, 1, []),
    (.if_icmp .ne (7), 8, 3, [7]),
    (.nop, 11, 0, []),
    (.nop, 12, 0, []),
    (.iconst 0, 15, 1, []),
    (.istore_n 1, 16, 1, []),
    (.aload_n 0, 17, 1, []),
    (.invokevirtual 181, 18, 3, [49, 764, 11]),
    (.bipush (59), 21, 2, []),
    (.if_icmp .ne (15), 23, 3, [19]),
    (.nop, 26, 0, []),
    (.nop, 27, 0, []),
    (.nop, 30, 0, []),
    (.nop, 31, 0, []),
    (.nop, 32, 0, []),
    (.nop, 35, 0, []),
    (.aload_n 0, 38, 1, []),
    (.invokevirtual 181, 39, 3, [49, 764, 11]),
    (.bipush (125), 42, 2, []),
    (.if_icmp .ne (32), 44, 3, [36]),
    (.nop, 47, 0, []),
    (.nop, 48, 0, []),
    (.nop, 51, 0, []),
    (.nop, 52, 0, []),
    (.nop, 55, 0, []),
    (.nop, 56, 0, []),
    (.nop, 59, 0, []),
    (.nop, 60, 0, []),
    (.nop, 63, 0, []),
    (.nop, 66, 0, []),
    (.nop, 69, 0, []),
    (.nop, 70, 0, []),
    (.nop, 73, 0, []),
    (.aload_n 0, 76, 1, []),
    (.invokevirtual 181, 77, 3, [49, 764, 11]),
    (.ifCond .ne (16), 80, 3, [45]),
    (.iload_n 1, 83, 1, []),
    (.ifCond .ne (12), 84, 3, [45]),
    (.aload_n 0, 87, 1, []),
    (.bipush (10), 88, 2, []),
    (.putfield 64, 90, 3, [7, 11, 353]),
    (.goto (12), 93, 3, [50]),
    (.nop, 96, 0, []),
    (.nop, 97, 0, []),
    (.nop, 98, 0, []),
    (.nop, 99, 0, []),
    (.nop, 102, 0, []),
    (.return_, 105, 1, [])])
/-- Macrocosm$Reader.root()I -/
def zM_57 : zM := (⟨"Macrocosm$Reader", "root", "()I"⟩, prog_6_method_4_code, 1, some (.int), [], 0, 0, 7, [954, 104, 952], [(.aload_n 0, 0, 1, []),
    (.getfield 71, 1, 3, [7, 16, 358]),
    (.ireturn, 4, 1, [])])
/-- Macrocosm$Reader.startAnew()V -/
def zM_58 : zM := (⟨"Macrocosm$Reader", "startAnew", "()V"⟩, prog_6_method_17_code, 2, none, [], 0, 0, 7, [704, 104, 703], [(.aload_n 0, 0, 1, []),
    (.getfield 21, 1, 3, [7, 1, 343]),
    (.invokevirtual 148, 4, 3, [43, 705, 707]),
    (.aload_n 0, 7, 1, []),
    (.getfield 30, 8, 3, [7, 2, 344]),
    (.invokevirtual 149, 11, 3, [66, 718, 720]),
    (.aload_n 0, 14, 1, []),
    (.getfield 37, 15, 3, [7, 3, 345]),
    (.invokevirtual 150, 18, 3, [82, 732, 734]),
    (.aload_n 0, 21, 1, []),
    (.getfield 44, 22, 3, [7, 4, 346]),
    (.invokevirtual 151, 25, 3, [39, 736, 738]),
    (.iconst 0, 28, 1, []),
    (.istore_n 1, 29, 1, []),
    (.iload_n 1, 30, 1, []),
    (.aload_n 0, 31, 1, []),
    (.getfield 12, 32, 3, [7, 0, 342]),
    (.invokevirtual 77, 35, 3, [75, 740, 742]),
    (.if_icmp .ge (18), 38, 3, [26]),
    (.nop, 41, 0, []),
    (.nop, 42, 0, []),
    (.nop, 45, 0, []),
    (.nop, 46, 0, []),
    (.nop, 47, 0, []),
    (.nop, 50, 0, []),
    (.nop, 53, 0, []),
    (.aload_n 0, 56, 1, []),
    (.iconst 0, 57, 1, []),
    (.putfield 107, 58, 3, [7, 9, 351]),
    (.aload_n 0, 61, 1, []),
    (.iconst 0, 62, 1, []),
    (.putfield 156, 63, 3, [7, 10, 352]),
    (.aload_n 0, 66, 1, []),
    (.iconst 0, 67, 1, []),
    (.putfield 159, 68, 3, [7, 12, 354]),
    (.aload_n 0, 71, 1, []),
    (.iconst 0, 72, 1, []),
    (.putfield 162, 73, 3, [7, 13, 355]),
    (.aload_n 0, 76, 1, []),
    (.iconst 0, 77, 1, []),
    (.putfield 74, 78, 3, [7, 14, 356]),
    (.aload_n 0, 81, 1, []),
    (.iconst (-1), 82, 1, []),
    (.putfield 68, 83, 3, [7, 15, 357]),
    (.aload_n 0, 86, 1, []),
    (.aload_n 0, 87, 1, []),
    (.getfield 37, 88, 3, [7, 3, 345]),
    (.bipush (7), 91, 2, []),
    (.iconst 0, 93, 1, []),
    (.invokevirtual 165, 94, 3, [81, 745, 747]),
    (.putfield 71, 97, 3, [7, 16, 358]),
    (.aload_n 0, 100, 1, []),
    (.getfield 44, 101, 3, [7, 4, 346]),
    (.iconst 0, 104, 1, []),
    (.iconst 1, 105, 1, []),
    (.iconst 0, 106, 1, []),
    (.aload_n 0, 107, 1, []),
    (.getfield 71, 108, 3, [7, 16, 358]),
    (.aload_n 0, 111, 1, []),
    (.getfield 30, 112, 3, [7, 2, 344]),
    (.invokevirtual 169, 115, 3, [65, 750, 752]),
    (.invokevirtual 172, 118, 3, [37, 754, 756]),
    (.aload_n 0, 121, 1, []),
    (.iconst 0, 122, 1, []),
    (.putfield 64, 123, 3, [7, 11, 353]),
    (.return_, 126, 1, [])])
/-- Macrocosm$Reader.tokenAt(I)I -/
def zM_59 : zM := (⟨"Macrocosm$Reader", "tokenAt", "(I)I"⟩, prog_6_method_8_code, 2, some (.int), [], 0, 1, 7, [1314, 104, 1312], [(.aload_n 0, 0, 1, []),
    (.getfield 12, 1, 3, [7, 0, 342]),
    (.iload_n 1, 4, 1, []),
    (.invokevirtual 81, 5, 3, [79, 1315, 1317]),
    (.ireturn, 8, 1, [])])
/-- Macrocosm$Reader.tokenCount()I -/
def zM_60 : zM := (⟨"Macrocosm$Reader", "tokenCount", "()I"⟩, prog_6_method_7_code, 1, some (.int), [], 0, 0, 7, [1127, 104, 1125], [(.aload_n 0, 0, 1, []),
    (.getfield 12, 1, 3, [7, 0, 342]),
    (.invokevirtual 77, 4, 3, [75, 740, 742]),
    (.ireturn, 7, 1, [])])
/-- Macrocosm$Reader.tree()LMacrocosm$Tree; -/
def zM_61 : zM := (⟨"Macrocosm$Reader", "tree", "()LMacrocosm$Tree;"⟩, prog_6_method_3_code, 1, some (.object "Macrocosm$Tree"), [], 0, 0, 7, [407, 104, 405], [(.aload_n 0, 0, 1, []),
    (.getfield 37, 1, 3, [7, 3, 345]),
    (.areturn, 4, 1, [])])
/-- Macrocosm$Scope.<init>(LMacrocosm$Makings;I)V -/
def zM_62 : zM := (⟨"Macrocosm$Scope", "<init>", "(LMacrocosm$Makings;I)V"⟩, prog_8_method_1_code, 3, none, [], 2, 2, 4, [258, 107, 257], [(.aload_n 0, 0, 1, []),
    (.invokespecial 1, 1, 3, [259]),
    (.aload_n 0, 4, 1, []),
    (.aload_n 1, 5, 1, []),
    (.putfield 7, 6, 3, [4, 0, 262]),
    (.aload_n 0, 9, 1, []),
    (.new 13, 10, 3, [0, 260]),
    (.dup, 13, 1, []),
    (.iload_n 2, 14, 1, []),
    (.invokespecial 15, 15, 3, [1, 261, 0]),
    (.putfield 18, 18, 3, [4, 1, 263]),
    (.aload_n 0, 21, 1, []),
    (.new 13, 22, 3, [0, 260]),
    (.dup, 25, 1, []),
    (.iload_n 2, 26, 1, []),
    (.invokespecial 15, 27, 3, [1, 261, 0]),
    (.putfield 22, 30, 3, [4, 2, 264]),
    (.aload_n 0, 33, 1, []),
    (.new 13, 34, 3, [0, 260]),
    (.dup, 37, 1, []),
    (.iconst 4, 38, 1, []),
    (.invokespecial 15, 39, 3, [1, 261, 0]),
    (.putfield 27, 42, 3, [4, 4, 266]),
    (.aload_n 0, 45, 1, []),
    (.iconst 0, 46, 1, []),
    (.putfield 30, 47, 3, [4, 3, 265]),
    (.return_, 50, 1, [])])
/-- Macrocosm$Scope.find(III)I -/
def zM_63 : zM := (⟨"Macrocosm$Scope", "find", "(III)I"⟩, prog_8_method_4_code, 6, some (.int), [], 0, 3, 4, [731, 107, 729], [(.aload_n 0, 0, 1, []),
    (.getfield 30, 1, 3, [4, 3, 265]),
    (.iconst 1, 4, 1, []),
    (.isub, 5, 1, []),
    (.istore 4, 6, 2, []),
    (.iload 4, 8, 2, []),
    (.iload_n 1, 10, 1, []),
    (.if_icmp .lt (55), 11, 3, [31]),
    (.aload_n 0, 14, 1, []),
    (.getfield 18, 15, 3, [4, 1, 263]),
    (.iload 4, 18, 2, []),
    (.invokevirtual 41, 20, 3, [2, 727, 699]),
    (.istore 5, 23, 2, []),
    (.aload_n 0, 25, 1, []),
    (.getfield 7, 26, 3, [4, 0, 262]),
    (.getfield 45, 29, 3, [3, 0, 210]),
    (.iload 5, 32, 2, []),
    (.invokevirtual 41, 34, 3, [2, 727, 699]),
    (.iload_n 2, 37, 1, []),
    (.if_icmp .ne (22), 38, 3, [29]),
    (.aload_n 0, 41, 1, []),
    (.getfield 7, 42, 3, [4, 0, 262]),
    (.getfield 48, 45, 3, [3, 1, 213]),
    (.iload 5, 48, 2, []),
    (.invokevirtual 41, 50, 3, [2, 727, 699]),
    (.iload_n 3, 53, 1, []),
    (.if_icmp .ne (6), 54, 3, [29]),
    (.nop, 57, 0, []),
    (.nop, 59, 0, []),
    (.iinc 4 (-1), 60, 3, []),
    (.goto (-55), 63, 3, [5]),
    (.iconst 0, 66, 1, []),
    (.ireturn, 67, 1, [])])
/-- Macrocosm$Scope.push(I)V -/
def zM_64 : zM := (⟨"Macrocosm$Scope", "push", "(I)V"⟩, prog_8_method_6_code, 4, none, [], 0, 1, 4, [726, 107, 724], [(.aload_n 0, 0, 1, []),
    (.getfield 7, 1, 3, [4, 0, 262]),
    (.getfield 45, 4, 3, [3, 0, 210]),
    (.iload_n 1, 7, 1, []),
    (.invokevirtual 41, 8, 3, [2, 727, 699]),
    (.istore_n 2, 11, 1, []),
    (.aload_n 0, 12, 1, []),
    (.iconst 0, 13, 1, []),
    (.iload_n 2, 14, 1, []),
    (.aload_n 0, 15, 1, []),
    (.getfield 7, 16, 3, [4, 0, 262]),
    (.getfield 48, 19, 3, [3, 1, 213]),
    (.iload_n 1, 22, 1, []),
    (.invokevirtual 41, 23, 3, [2, 727, 699]),
    (.invokevirtual 54, 26, 3, [63, 728, 730]),
    (.ifCond .eq (7), 29, 3, [18]),
    (.nop, 32, 0, []),
    (.nop, 33, 0, []),
    (.iconst 0, 36, 1, []),
    (.istore_n 3, 37, 1, []),
    (.aload_n 0, 38, 1, []),
    (.getfield 18, 39, 3, [4, 1, 263]),
    (.aload_n 0, 42, 1, []),
    (.getfield 30, 43, 3, [4, 3, 265]),
    (.iload_n 1, 46, 1, []),
    (.invokevirtual 34, 47, 3, [0, 722, 599]),
    (.aload_n 0, 50, 1, []),
    (.getfield 22, 51, 3, [4, 2, 264]),
    (.aload_n 0, 54, 1, []),
    (.getfield 30, 55, 3, [4, 3, 265]),
    (.iload_n 3, 58, 1, []),
    (.ifCond .eq (7), 59, 3, [34]),
    (.nop, 62, 0, []),
    (.nop, 63, 0, []),
    (.iconst 0, 66, 1, []),
    (.invokevirtual 34, 67, 3, [0, 722, 599]),
    (.iload_n 3, 70, 1, []),
    (.ifCond .ne (21), 71, 3, [48]),
    (.aload_n 0, 74, 1, []),
    (.getfield 27, 75, 3, [4, 4, 266]),
    (.iload_n 2, 78, 1, []),
    (.aload_n 0, 79, 1, []),
    (.getfield 27, 80, 3, [4, 4, 266]),
    (.iload_n 2, 83, 1, []),
    (.invokevirtual 41, 84, 3, [2, 727, 699]),
    (.iconst 1, 87, 1, []),
    (.iadd, 88, 1, []),
    (.invokevirtual 34, 89, 3, [0, 722, 599]),
    (.aload_n 0, 92, 1, []),
    (.dup, 93, 1, []),
    (.getfield 30, 94, 3, [4, 3, 265]),
    (.iconst 1, 97, 1, []),
    (.iadd, 98, 1, []),
    (.putfield 30, 99, 3, [4, 3, 265]),
    (.return_, 102, 1, [])])
/-- Macrocosm$Scope.size()I -/
def zM_65 : zM := (⟨"Macrocosm$Scope", "size", "()I"⟩, prog_8_method_3_code, 1, some (.int), [], 0, 0, 4, [753, 107, 751], [(.aload_n 0, 0, 1, []),
    (.getfield 30, 1, 3, [4, 3, 265]),
    (.ireturn, 4, 1, [])])
/-- Macrocosm$Scope.startAnew()V -/
def zM_66 : zM := (⟨"Macrocosm$Scope", "startAnew", "()V"⟩, prog_8_method_2_code, 2, none, [], 0, 0, 4, [721, 107, 719], [(.aload_n 0, 0, 1, []),
    (.iconst 0, 1, 1, []),
    (.putfield 30, 2, 3, [4, 3, 265]),
    (.iconst 0, 5, 1, []),
    (.istore_n 1, 6, 1, []),
    (.iload_n 1, 7, 1, []),
    (.iconst 4, 8, 1, []),
    (.if_icmp .ge (18), 9, 3, [15]),
    (.aload_n 0, 12, 1, []),
    (.getfield 27, 13, 3, [4, 4, 266]),
    (.iload_n 1, 16, 1, []),
    (.iconst 0, 17, 1, []),
    (.invokevirtual 34, 18, 3, [0, 722, 599]),
    (.iinc 1 (1), 21, 3, []),
    (.goto (-17), 24, 3, [5]),
    (.iconst 1, 27, 1, []),
    (.istore_n 1, 28, 1, []),
    (.iload_n 1, 29, 1, []),
    (.iconst 3, 30, 1, []),
    (.if_icmp .gt (14), 31, 3, [25]),
    (.aload_n 0, 34, 1, []),
    (.iload_n 1, 35, 1, []),
    (.invokevirtual 38, 36, 3, [64, 723, 725]),
    (.iinc 1 (1), 39, 3, []),
    (.goto (-13), 42, 3, [17]),
    (.return_, 45, 1, [])])
/-- Macrocosm$Sheet.<init>(I)V -/
def zM_67 : zM := (⟨"Macrocosm$Sheet", "<init>", "(I)V"⟩, prog_9_method_1_code, 2, none, [], 2, 1, 1, [150, 102, 149], [(.aload_n 0, 0, 1, []),
    (.invokespecial 3, 1, 3, [151]),
    (.aload_n 0, 4, 1, []),
    (.iload_n 1, 5, 1, []),
    (.ifCond .le (7), 6, 3, [7]),
    (.iload_n 1, 9, 1, []),
    (.goto (4), 10, 3, [8]),
    (.iconst 0, 13, 1, []),
    (.newarray .char, 14, 2, [1, 159]),
    (.putfield 9, 16, 3, [1, 0, 152]),
    (.aload_n 0, 19, 1, []),
    (.iconst 0, 20, 1, []),
    (.putfield 15, 21, 3, [1, 1, 153]),
    (.return_, 24, 1, [])])
/-- Macrocosm$Sheet.add(C)V -/
def zM_68 : zM := (⟨"Macrocosm$Sheet", "add", "(C)V"⟩, prog_9_method_6_code, 2, none, [], 0, 1, 1, [1032, 102, 1030], [(.aload_n 0, 0, 1, []),
    (.getfield 15, 1, 3, [1, 1, 153]),
    (.ifCond .lt (35), 4, 3, [21]),
    (.aload_n 0, 7, 1, []),
    (.getfield 15, 8, 3, [1, 1, 153]),
    (.aload_n 0, 11, 1, []),
    (.getfield 9, 12, 3, [1, 0, 152]),
    (.arraylength, 15, 1, []),
    (.if_icmp .ge (23), 16, 3, [21]),
    (.aload_n 0, 19, 1, []),
    (.getfield 9, 20, 3, [1, 0, 152]),
    (.aload_n 0, 23, 1, []),
    (.getfield 15, 24, 3, [1, 1, 153]),
    (.iload_n 1, 27, 1, []),
    (.castore, 28, 1, []),
    (.aload_n 0, 29, 1, []),
    (.dup, 30, 1, []),
    (.getfield 15, 31, 3, [1, 1, 153]),
    (.iconst 1, 34, 1, []),
    (.iadd, 35, 1, []),
    (.putfield 15, 36, 3, [1, 1, 153]),
    (.return_, 39, 1, [])])
/-- Macrocosm$Sheet.get(I)I -/
def zM_69 : zM := (⟨"Macrocosm$Sheet", "get", "(I)I"⟩, prog_9_method_3_code, 2, some (.int), [], 0, 1, 1, [574, 102, 572], [(.iload_n 1, 0, 1, []),
    (.ifCond .lt (29), 1, 3, [16]),
    (.iload_n 1, 4, 1, []),
    (.aload_n 0, 5, 1, []),
    (.getfield 15, 6, 3, [1, 1, 153]),
    (.if_icmp .ge (21), 9, 3, [16]),
    (.nop, 12, 0, []),
    (.nop, 13, 0, []),
    (.nop, 14, 0, []),
    (.nop, 17, 0, []),
    (.nop, 18, 0, []),
    (.nop, 21, 0, []),
    (.nop, 22, 0, []),
    (.nop, 25, 0, []),
    (.nop, 26, 0, []),
    (.nop, 27, 0, []),
    (.iconst (-1), 30, 1, []),
    (.ireturn, 31, 1, [])])
/-- Macrocosm$Sheet.put(IC)V -/
def zM_70 : zM := (⟨"Macrocosm$Sheet", "put", "(IC)V"⟩, prog_9_method_13_code, 3, none, [], 0, 2, 1, [1215, 102, 1214], [(.iload_n 1, 0, 1, []),
    (.ifCond .lt (27), 1, 3, [16]),
    (.iload_n 1, 4, 1, []),
    (.aload_n 0, 5, 1, []),
    (.getfield 15, 6, 3, [1, 1, 153]),
    (.if_icmp .ge (19), 9, 3, [16]),
    (.iload_n 1, 12, 1, []),
    (.aload_n 0, 13, 1, []),
    (.getfield 9, 14, 3, [1, 0, 152]),
    (.arraylength, 17, 1, []),
    (.if_icmp .ge (10), 18, 3, [16]),
    (.aload_n 0, 21, 1, []),
    (.getfield 9, 22, 3, [1, 0, 152]),
    (.iload_n 1, 25, 1, []),
    (.iload_n 2, 26, 1, []),
    (.castore, 27, 1, []),
    (.return_, 28, 1, [])])
/-- Macrocosm$Sheet.size()I -/
def zM_71 : zM := (⟨"Macrocosm$Sheet", "size", "()I"⟩, prog_9_method_2_code, 1, some (.int), [], 0, 0, 1, [541, 102, 539], [(.aload_n 0, 0, 1, []),
    (.getfield 15, 1, 3, [1, 1, 153]),
    (.ireturn, 4, 1, [])])
/-- Macrocosm$Sheet.squeezeIn(IC)V -/
def zM_72 : zM := (⟨"Macrocosm$Sheet", "squeezeIn", "(IC)V"⟩, prog_9_method_10_code, 4, none, [], 0, 2, 1, [1210, 102, 1208], [(.aload_n 0, 0, 1, []),
    (.iload_n 2, 1, 1, []),
    (.invokevirtual 23, 2, 3, [68, 1067, 1031]),
    (.aload_n 0, 5, 1, []),
    (.getfield 15, 6, 3, [1, 1, 153]),
    (.iconst 1, 9, 1, []),
    (.isub, 10, 1, []),
    (.istore_n 3, 11, 1, []),
    (.iload_n 3, 12, 1, []),
    (.iload_n 1, 13, 1, []),
    (.if_icmp .le (22), 14, 3, [22]),
    (.nop, 17, 0, []),
    (.nop, 18, 0, []),
    (.nop, 19, 0, []),
    (.nop, 20, 0, []),
    (.nop, 21, 0, []),
    (.nop, 22, 0, []),
    (.nop, 23, 0, []),
    (.nop, 26, 0, []),
    (.nop, 27, 0, []),
    (.nop, 30, 0, []),
    (.nop, 33, 0, []),
    (.aload_n 0, 36, 1, []),
    (.iload_n 1, 37, 1, []),
    (.iload_n 2, 38, 1, []),
    (.invokevirtual 38, 39, 3, [70, 1212, 55]),
    (.return_, 42, 1, [])])
/-- Macrocosm$Sheet.wipe()V -/
def zM_73 : zM := (⟨"Macrocosm$Sheet", "wipe", "()V"⟩, prog_9_method_4_code, 1, none, [], 0, 0, 1, [545, 102, 543], [(.aload_n 0, 0, 1, []),
    (.iconst 0, 1, 1, []),
    (.putfield 15, 2, 3, [1, 1, 153]),
    (.return_, 5, 1, [])])
/-- Macrocosm$Tokens.<init>(I)V -/
def zM_74 : zM := (⟨"Macrocosm$Tokens", "<init>", "(I)V"⟩, prog_10_method_1_code, 2, none, [], 2, 1, 2, [181, 105, 180], [(.aload_n 0, 0, 1, []),
    (.invokespecial 3, 1, 3, [182]),
    (.aload_n 0, 4, 1, []),
    (.new 9, 5, 3, [0, 183]),
    (.dup, 8, 1, []),
    (.iload_n 1, 9, 1, []),
    (.iconst 1, 10, 1, []),
    (.iadd, 11, 1, []),
    (.invokespecial 11, 12, 3, [1, 184, 0]),
    (.putfield 14, 15, 3, [2, 0, 185]),
    (.aload_n 0, 18, 1, []),
    (.new 9, 19, 3, [0, 183]),
    (.dup, 22, 1, []),
    (.iload_n 1, 23, 1, []),
    (.iconst 1, 24, 1, []),
    (.iadd, 25, 1, []),
    (.invokespecial 11, 26, 3, [1, 184, 0]),
    (.putfield 18, 29, 3, [2, 1, 187]),
    (.aload_n 0, 32, 1, []),
    (.new 9, 33, 3, [0, 183]),
    (.dup, 36, 1, []),
    (.iload_n 1, 37, 1, []),
    (.iconst 1, 38, 1, []),
    (.iadd, 39, 1, []),
    (.invokespecial 11, 40, 3, [1, 184, 0]),
    (.putfield 21, 43, 3, [2, 2, 189]),
    (.aload_n 0, 46, 1, []),
    (.iconst 0, 47, 1, []),
    (.putfield 24, 48, 3, [2, 3, 191]),
    (.return_, 51, 1, [])])
/-- Macrocosm$Tokens.count()I -/
def zM_75 : zM := (⟨"Macrocosm$Tokens", "count", "()I"⟩, prog_10_method_2_code, 1, some (.int), [], 0, 0, 2, [743, 105, 741], [(.aload_n 0, 0, 1, []),
    (.getfield 24, 1, 3, [2, 3, 191]),
    (.ireturn, 4, 1, [])])
/-- Macrocosm$Tokens.lastUpTo(I)I -/
def zM_76 : zM := (⟨"Macrocosm$Tokens", "lastUpTo", "(I)I"⟩, prog_10_method_4_code, 4, some (.int), [], 0, 1, 2, [1413, 105, 1411], [(.iconst (-1), 0, 1, []),
    (.istore_n 2, 1, 1, []),
    (.iconst 0, 2, 1, []),
    (.istore_n 3, 3, 1, []),
    (.iload_n 3, 4, 1, []),
    (.aload_n 0, 5, 1, []),
    (.getfield 24, 6, 3, [2, 3, 191]),
    (.if_icmp .ge (23), 9, 3, [18]),
    (.nop, 12, 0, []),
    (.nop, 13, 0, []),
    (.nop, 16, 0, []),
    (.nop, 17, 0, []),
    (.nop, 20, 0, []),
    (.nop, 21, 0, []),
    (.nop, 24, 0, []),
    (.nop, 25, 0, []),
    (.nop, 26, 0, []),
    (.nop, 29, 0, []),
    (.iload_n 2, 32, 1, []),
    (.ireturn, 33, 1, [])])
/-- Macrocosm$Tokens.put(III)V -/
def zM_77 : zM := (⟨"Macrocosm$Tokens", "put", "(III)V"⟩, prog_10_method_12_code, 4, none, [], 0, 3, 2, [596, 105, 595], [(.aload_n 0, 0, 1, []),
    (.getfield 14, 1, 3, [2, 0, 185]),
    (.aload_n 0, 4, 1, []),
    (.getfield 24, 5, 3, [2, 3, 191]),
    (.iload_n 1, 8, 1, []),
    (.invokevirtual 80, 9, 3, [0, 597, 599]),
    (.aload_n 0, 12, 1, []),
    (.getfield 18, 13, 3, [2, 1, 187]),
    (.aload_n 0, 16, 1, []),
    (.getfield 24, 17, 3, [2, 3, 191]),
    (.iload_n 2, 20, 1, []),
    (.invokevirtual 80, 21, 3, [0, 597, 599]),
    (.aload_n 0, 24, 1, []),
    (.getfield 21, 25, 3, [2, 2, 189]),
    (.aload_n 0, 28, 1, []),
    (.getfield 24, 29, 3, [2, 3, 191]),
    (.iload_n 3, 32, 1, []),
    (.invokevirtual 80, 33, 3, [0, 597, 599]),
    (.return_, 36, 1, [])])
/-- Macrocosm$Tokens.readAll(LMacrocosm$Sheet;)V -/
def zM_78 : zM := (⟨"Macrocosm$Tokens", "readAll", "(LMacrocosm$Sheet;)V"⟩, prog_10_method_5_code, 3, none, [], 0, 1, 2, [565, 105, 563], [(.aload_n 0, 0, 1, []),
    (.iconst 0, 1, 1, []),
    (.putfield 24, 2, 3, [2, 3, 191]),
    (.iconst 0, 5, 1, []),
    (.istore_n 2, 6, 1, []),
    (.iload_n 2, 7, 1, []),
    (.aload_n 1, 8, 1, []),
    (.invokevirtual 32, 9, 3, [71, 566, 540]),
    (.if_icmp .ge (53), 12, 3, [35]),
    (.nop, 15, 0, []),
    (.nop, 16, 0, []),
    (.nop, 17, 0, []),
    (.nop, 18, 0, []),
    (.nop, 21, 0, []),
    (.nop, 24, 0, []),
    (.nop, 27, 0, []),
    (.nop, 28, 0, []),
    (.nop, 29, 0, []),
    (.nop, 30, 0, []),
    (.nop, 33, 0, []),
    (.nop, 34, 0, []),
    (.nop, 37, 0, []),
    (.nop, 38, 0, []),
    (.nop, 41, 0, []),
    (.nop, 44, 0, []),
    (.nop, 45, 0, []),
    (.nop, 48, 0, []),
    (.nop, 49, 0, []),
    (.nop, 50, 0, []),
    (.nop, 51, 0, []),
    (.nop, 54, 0, []),
    (.nop, 55, 0, []),
    (.nop, 56, 0, []),
    (.nop, 59, 0, []),
    (.nop, 62, 0, []),
    (.aload_n 0, 65, 1, []),
    (.iconst 0, 66, 1, []),
    (.iconst 0, 67, 1, []),
    (.aload_n 1, 68, 1, []),
    (.invokevirtual 32, 69, 3, [71, 566, 540]),
    (.invokevirtual 46, 72, 3, [77, 593, 5]),
    (.return_, 75, 1, [])])
/-- Macrocosm$Tokens.tokenAt(I)I -/
def zM_79 : zM := (⟨"Macrocosm$Tokens", "tokenAt", "(I)I"⟩, prog_10_method_3_code, 3, some (.int), [], 0, 1, 2, [1318, 105, 1316], [(.iconst 0, 0, 1, []),
    (.istore_n 2, 1, 1, []),
    (.iload_n 2, 2, 1, []),
    (.aload_n 0, 3, 1, []),
    (.getfield 24, 4, 3, [2, 3, 191]),
    (.if_icmp .ge (23), 7, 3, [16]),
    (.nop, 10, 0, []),
    (.nop, 11, 0, []),
    (.nop, 14, 0, []),
    (.nop, 15, 0, []),
    (.nop, 18, 0, []),
    (.nop, 19, 0, []),
    (.nop, 22, 0, []),
    (.nop, 23, 0, []),
    (.nop, 24, 0, []),
    (.nop, 27, 0, []),
    (.iconst (-1), 30, 1, []),
    (.ireturn, 31, 1, [])])
/-- Macrocosm$Tree.<init>(I)V -/
def zM_80 : zM := (⟨"Macrocosm$Tree", "<init>", "(I)V"⟩, prog_11_method_1_code, 2, none, [], 2, 1, 5, [283, 108, 282], [(.aload_n 0, 0, 1, []),
    (.invokespecial 1, 1, 3, [284]),
    (.aload_n 0, 4, 1, []),
    (.new 7, 5, 3, [0, 285]),
    (.dup, 8, 1, []),
    (.iload_n 1, 9, 1, []),
    (.invokespecial 9, 10, 3, [1, 286, 0]),
    (.putfield 12, 13, 3, [5, 0, 287]),
    (.aload_n 0, 16, 1, []),
    (.new 7, 17, 3, [0, 285]),
    (.dup, 20, 1, []),
    (.iload_n 1, 21, 1, []),
    (.invokespecial 9, 22, 3, [1, 286, 0]),
    (.putfield 18, 25, 3, [5, 1, 289]),
    (.aload_n 0, 28, 1, []),
    (.new 7, 29, 3, [0, 285]),
    (.dup, 32, 1, []),
    (.iload_n 1, 33, 1, []),
    (.invokespecial 9, 34, 3, [1, 286, 0]),
    (.putfield 21, 37, 3, [5, 2, 291]),
    (.aload_n 0, 40, 1, []),
    (.new 7, 41, 3, [0, 285]),
    (.dup, 44, 1, []),
    (.iload_n 1, 45, 1, []),
    (.invokespecial 9, 46, 3, [1, 286, 0]),
    (.putfield 24, 49, 3, [5, 3, 293]),
    (.aload_n 0, 52, 1, []),
    (.new 7, 53, 3, [0, 285]),
    (.dup, 56, 1, []),
    (.iload_n 1, 57, 1, []),
    (.invokespecial 9, 58, 3, [1, 286, 0]),
    (.putfield 27, 61, 3, [5, 4, 295]),
    (.aload_n 0, 64, 1, []),
    (.iconst 0, 65, 1, []),
    (.putfield 30, 66, 3, [5, 5, 296]),
    (.return_, 69, 1, [])])
/-- Macrocosm$Tree.add(II)I -/
def zM_81 : zM := (⟨"Macrocosm$Tree", "add", "(II)I"⟩, prog_11_method_3_code, 3, some (.int), [], 0, 2, 5, [748, 108, 746], [(.aload_n 0, 0, 1, []),
    (.dup, 1, 1, []),
    (.getfield 30, 2, 3, [5, 5, 296]),
    (.iconst 1, 5, 1, []),
    (.iadd, 6, 1, []),
    (.putfield 30, 7, 3, [5, 5, 296]),
    (.aload_n 0, 10, 1, []),
    (.getfield 12, 11, 3, [5, 0, 287]),
    (.aload_n 0, 14, 1, []),
    (.getfield 30, 15, 3, [5, 5, 296]),
    (.iload_n 1, 18, 1, []),
    (.invokevirtual 34, 19, 3, [0, 749, 599]),
    (.aload_n 0, 22, 1, []),
    (.getfield 18, 23, 3, [5, 1, 289]),
    (.aload_n 0, 26, 1, []),
    (.getfield 30, 27, 3, [5, 5, 296]),
    (.iload_n 2, 30, 1, []),
    (.invokevirtual 34, 31, 3, [0, 749, 599]),
    (.aload_n 0, 34, 1, []),
    (.getfield 21, 35, 3, [5, 2, 291]),
    (.aload_n 0, 38, 1, []),
    (.getfield 30, 39, 3, [5, 5, 296]),
    (.iconst 0, 42, 1, []),
    (.invokevirtual 34, 43, 3, [0, 749, 599]),
    (.aload_n 0, 46, 1, []),
    (.getfield 24, 47, 3, [5, 3, 293]),
    (.aload_n 0, 50, 1, []),
    (.getfield 30, 51, 3, [5, 5, 296]),
    (.iconst 0, 54, 1, []),
    (.invokevirtual 34, 55, 3, [0, 749, 599]),
    (.aload_n 0, 58, 1, []),
    (.getfield 27, 59, 3, [5, 4, 295]),
    (.aload_n 0, 62, 1, []),
    (.getfield 30, 63, 3, [5, 5, 296]),
    (.iconst 0, 66, 1, []),
    (.invokevirtual 34, 67, 3, [0, 749, 599]),
    (.aload_n 0, 70, 1, []),
    (.getfield 30, 71, 3, [5, 5, 296]),
    (.ireturn, 74, 1, [])])
/-- Macrocosm$Tree.startAnew()V -/
def zM_82 : zM := (⟨"Macrocosm$Tree", "startAnew", "()V"⟩, prog_11_method_2_code, 1, none, [], 0, 0, 5, [735, 108, 733], [(.aload_n 0, 0, 1, []),
    (.iconst 0, 1, 1, []),
    (.putfield 30, 2, 3, [5, 5, 296]),
    (.return_, 5, 1, [])])
/-- Macrocosm$Work.<init>(I)V -/
def zM_83 : zM := (⟨"Macrocosm$Work", "<init>", "(I)V"⟩, prog_12_method_1_code, 2, none, [], 2, 1, 9, [445, 112, 444], [(.aload_n 0, 0, 1, []),
    (.invokespecial 1, 1, 3, [446]),
    (.aload_n 0, 4, 1, []),
    (.iload_n 1, 5, 1, []),
    (.putfield 7, 6, 3, [9, 3, 452]),
    (.aload_n 0, 9, 1, []),
    (.new 13, 10, 3, [0, 447]),
    (.dup, 13, 1, []),
    (.iload_n 1, 14, 1, []),
    (.invokespecial 15, 15, 3, [1, 448, 0]),
    (.putfield 18, 18, 3, [9, 0, 449]),
    (.aload_n 0, 21, 1, []),
    (.new 13, 22, 3, [0, 447]),
    (.dup, 25, 1, []),
    (.iload_n 1, 26, 1, []),
    (.invokespecial 15, 27, 3, [1, 448, 0]),
    (.putfield 22, 30, 3, [9, 1, 450]),
    (.aload_n 0, 33, 1, []),
    (.new 13, 34, 3, [0, 447]),
    (.dup, 37, 1, []),
    (.iload_n 1, 38, 1, []),
    (.invokespecial 15, 39, 3, [1, 448, 0]),
    (.putfield 25, 42, 3, [9, 2, 451]),
    (.aload_n 0, 45, 1, []),
    (.iconst 0, 46, 1, []),
    (.putfield 28, 47, 3, [9, 4, 453]),
    (.return_, 50, 1, [])])
/-- Macrocosm$Work.isEmpty()Z -/
def zM_84 : zM := (⟨"Macrocosm$Work", "isEmpty", "()Z"⟩, prog_12_method_3_code, 1, some (.boolean), [], 0, 0, 9, [986, 112, 984], [(.aload_n 0, 0, 1, []),
    (.getfield 28, 1, 3, [9, 4, 453]),
    (.ifCond .ne (7), 4, 3, [5]),
    (.iconst 1, 7, 1, []),
    (.goto (4), 8, 3, [6]),
    (.iconst 0, 11, 1, []),
    (.ireturn, 12, 1, [])])
/-- Macrocosm$Work.isFull()Z -/
def zM_85 : zM := (⟨"Macrocosm$Work", "isFull", "()Z"⟩, prog_12_method_4_code, 1, some (.boolean), [], 0, 0, 9, [998, 112, 996], [(.aload_n 0, 0, 1, []),
    (.getfield 28, 1, 3, [9, 4, 453]),
    (.aload_n 0, 4, 1, []),
    (.getfield 7, 5, 3, [9, 3, 452]),
    (.if_icmp .lt (7), 8, 3, [7]),
    (.nop, 11, 0, []),
    (.nop, 12, 0, []),
    (.iconst 0, 15, 1, []),
    (.ireturn, 16, 1, [])])
/-- Macrocosm$Work.push(III)V -/
def zM_86 : zM := (⟨"Macrocosm$Work", "push", "(III)V"⟩, prog_12_method_5_code, 4, none, [], 0, 3, 9, [980, 112, 978], [(.aload_n 0, 0, 1, []),
    (.getfield 28, 1, 3, [9, 4, 453]),
    (.aload_n 0, 4, 1, []),
    (.getfield 7, 5, 3, [9, 3, 452]),
    (.if_icmp .ge (49), 8, 3, [29]),
    (.aload_n 0, 11, 1, []),
    (.getfield 18, 12, 3, [9, 0, 449]),
    (.aload_n 0, 15, 1, []),
    (.getfield 28, 16, 3, [9, 4, 453]),
    (.iload_n 1, 19, 1, []),
    (.invokevirtual 31, 20, 3, [0, 981, 599]),
    (.aload_n 0, 23, 1, []),
    (.getfield 22, 24, 3, [9, 1, 450]),
    (.aload_n 0, 27, 1, []),
    (.getfield 28, 28, 3, [9, 4, 453]),
    (.iload_n 2, 31, 1, []),
    (.invokevirtual 31, 32, 3, [0, 981, 599]),
    (.aload_n 0, 35, 1, []),
    (.getfield 25, 36, 3, [9, 2, 451]),
    (.aload_n 0, 39, 1, []),
    (.getfield 28, 40, 3, [9, 4, 453]),
    (.iload_n 3, 43, 1, []),
    (.invokevirtual 31, 44, 3, [0, 981, 599]),
    (.aload_n 0, 47, 1, []),
    (.dup, 48, 1, []),
    (.getfield 28, 49, 3, [9, 4, 453]),
    (.iconst 1, 52, 1, []),
    (.iadd, 53, 1, []),
    (.putfield 28, 54, 3, [9, 4, 453]),
    (.return_, 57, 1, [])])
/-- Macrocosm$Work.startAnew()V -/
def zM_87 : zM := (⟨"Macrocosm$Work", "startAnew", "()V"⟩, prog_12_method_2_code, 1, none, [], 0, 0, 9, [971, 112, 969], [(.aload_n 0, 0, 1, []),
    (.iconst 0, 1, 1, []),
    (.putfield 28, 2, 3, [9, 4, 453]),
    (.return_, 5, 1, [])])
/-- Macrocosm$Work.takeLast()V -/
def zM_88 : zM := (⟨"Macrocosm$Work", "takeLast", "()V"⟩, prog_12_method_6_code, 1, none, [], 0, 0, 9, [1002, 112, 1000], [(.aload_n 0, 0, 1, []),
    (.getfield 28, 1, 3, [9, 4, 453]),
    (.ifCond .le (13), 4, 3, [9]),
    (.aload_n 0, 7, 1, []),
    (.dup, 8, 1, []),
    (.getfield 28, 9, 3, [9, 4, 453]),
    (.iconst 1, 12, 1, []),
    (.isub, 13, 1, []),
    (.putfield 28, 14, 3, [9, 4, 453]),
    (.return_, 17, 1, [])])
/-- Macrocosm$Work.takenBinding()I -/
def zM_89 : zM := (⟨"Macrocosm$Work", "takenBinding", "()I"⟩, prog_12_method_9_code, 1, some (.int), [], 0, 0, 9, [1015, 112, 1013], [(.aload_n 0, 0, 1, []),
    (.getfield 25, 1, 3, [9, 2, 451]),
    (.aload_n 0, 4, 1, []),
    (.getfield 28, 5, 3, [9, 4, 453]),
    (.invokevirtual 35, 8, 3, [2, 1007, 699]),
    (.ireturn, 11, 1, [])])
/-- Macrocosm$Work.takenSubject()I -/
def zM_90 : zM := (⟨"Macrocosm$Work", "takenSubject", "()I"⟩, prog_12_method_8_code, 1, some (.int), [], 0, 0, 9, [1011, 112, 1009], [(.aload_n 0, 0, 1, []),
    (.getfield 22, 1, 3, [9, 1, 450]),
    (.aload_n 0, 4, 1, []),
    (.getfield 28, 5, 3, [9, 4, 453]),
    (.invokevirtual 35, 8, 3, [2, 1007, 699]),
    (.ireturn, 11, 1, [])])
/-- Macrocosm$Work.takenTask()I -/
def zM_91 : zM := (⟨"Macrocosm$Work", "takenTask", "()I"⟩, prog_12_method_7_code, 1, some (.int), [], 0, 0, 9, [1006, 112, 1004], [(.aload_n 0, 0, 1, []),
    (.getfield 18, 1, 3, [9, 0, 449]),
    (.aload_n 0, 4, 1, []),
    (.getfield 28, 5, 3, [9, 4, 453]),
    (.invokevirtual 35, 8, 3, [2, 1007, 699]),
    (.ireturn, 11, 1, [])])
/-- MacrocosmLaw.at(LMacrocosm;I[J)I -/
def zM_92 : zM := (⟨"MacrocosmLaw", "at", "(LMacrocosm;I[J)I"⟩, method_6_code, 4, some (.int), [(0, 9, 12, 19)], 1, 3, 99, [1255, 100, 1254], [(.aload_n 2, 0, 1, []),
    (.iconst 0, 1, 1, []),
    (.aload_n 0, 2, 1, []),
    (.iload_n 1, 3, 1, []),
    (.invokevirtual 25, 4, 3, [4, 1256, 1258, 1, 8]),
    (.nop, 7, 0, []),
    (.nop, 8, 0, []),
    (.nop, 9, 0, []),
    (.astore_n 3, 12, 1, []),
    (.iconst 1, 13, 1, []),
    (.ireturn, 14, 1, []),
    (.nop, 15, 0, []),
    (.nop, 16, 0, [])])
/-- MacrocosmLaw.erase(LMacrocosm;I[J)I -/
def zM_93 : zM := (⟨"MacrocosmLaw", "erase", "(LMacrocosm;I[J)I"⟩, method_5_code, 4, some (.int), [(0, 9, 12, 19)], 1, 3, 99, [1242, 100, 1241], [(.aload_n 2, 0, 1, []),
    (.iconst 0, 1, 1, []),
    (.aload_n 0, 2, 1, []),
    (.iload_n 1, 3, 1, []),
    (.invokevirtual 21, 4, 3, [6, 1243, 1245, 1, 8]),
    (.nop, 7, 0, []),
    (.nop, 8, 0, []),
    (.nop, 9, 0, []),
    (.astore_n 3, 12, 1, []),
    (.iconst 1, 13, 1, []),
    (.ireturn, 14, 1, []),
    (.nop, 15, 0, []),
    (.nop, 16, 0, [])])
/-- MacrocosmLaw.expanded(LMacrocosm;[J)I -/
def zM_94 : zM := (⟨"MacrocosmLaw", "expanded", "(LMacrocosm;[J)I"⟩, method_10_code, 3, some (.int), [(0, 8, 11, 13)], 1, 2, 99, [1292, 100, 1291], [(.aload_n 1, 0, 1, []),
    (.iconst 0, 1, 1, []),
    (.aload_n 0, 2, 1, []),
    (.invokevirtual 39, 3, 3, [7, 1293, 1295]),
    (.i2l, 6, 1, []),
    (.lastore, 7, 1, []),
    (.goto (6), 8, 3, [10]),
    (.nop, 11, 0, []),
    (.nop, 12, 0, []),
    (.nop, 13, 0, []),
    (.iconst 0, 14, 1, []),
    (.ireturn, 15, 1, [])])
/-- MacrocosmLaw.expandedAt(LMacrocosm;I[J)I -/
def zM_95 : zM := (⟨"MacrocosmLaw", "expandedAt", "(LMacrocosm;I[J)I"⟩, method_11_code, 4, some (.int), [(0, 9, 12, 13), (0, 9, 15, 19)], 1, 3, 99, [1299, 100, 1298], [(.aload_n 2, 0, 1, []),
    (.iconst 0, 1, 1, []),
    (.aload_n 0, 2, 1, []),
    (.iload_n 1, 3, 1, []),
    (.invokevirtual 42, 4, 3, [8, 1300, 1302, 1, 11]),
    (.nop, 7, 0, []),
    (.nop, 8, 0, []),
    (.nop, 9, 0, []),
    (.nop, 12, 0, []),
    (.nop, 13, 0, []),
    (.nop, 14, 0, []),
    (.astore_n 3, 15, 1, []),
    (.iconst 2, 16, 1, []),
    (.ireturn, 17, 1, []),
    (.nop, 18, 0, []),
    (.nop, 19, 0, [])])
/-- MacrocosmLaw.holds(LMacrocosm;II[J)I -/
def zM_96 : zM := (⟨"MacrocosmLaw", "holds", "(LMacrocosm;II[J)I"⟩, method_15_code, 5, some (.int), [(0, 10, 13, 19), (0, 10, 17, 55), (0, 10, 21, 13)], 1, 4, 99, [1400, 100, 1399], [(.aload_n 3, 0, 1, []),
    (.iconst 0, 1, 1, []),
    (.aload_n 0, 2, 1, []),
    (.iload_n 1, 3, 1, []),
    (.iload_n 2, 4, 1, []),
    (.invokevirtual 57, 5, 3, [11, 1401, 1403, 1, 9, 2, 12]),
    (.i2l, 8, 1, []),
    (.lastore, 9, 1, []),
    (.goto (15), 10, 3, [18]),
    (.astore 4, 13, 2, []),
    (.iconst 1, 15, 1, []),
    (.ireturn, 16, 1, []),
    (.astore 4, 17, 2, []),
    (.iconst 2, 19, 1, []),
    (.ireturn, 20, 1, []),
    (.nop, 21, 0, []),
    (.nop, 23, 0, []),
    (.nop, 24, 0, []),
    (.iconst 0, 25, 1, []),
    (.ireturn, 26, 1, [])])
/-- MacrocosmLaw.insert(LMacrocosm;IC[J)I -/
def zM_97 : zM := (⟨"MacrocosmLaw", "insert", "(LMacrocosm;IC[J)I"⟩, method_4_code, 5, some (.int), [(0, 10, 13, 19), (0, 10, 17, 13)], 1, 4, 99, [1218, 100, 1217], [(.aload_n 3, 0, 1, []),
    (.iconst 0, 1, 1, []),
    (.aload_n 0, 2, 1, []),
    (.iload_n 1, 3, 1, []),
    (.iload_n 2, 4, 1, []),
    (.invokevirtual 15, 5, 3, [12, 1220, 1222, 1, 9]),
    (.i2l, 8, 1, []),
    (.lastore, 9, 1, []),
    (.goto (11), 10, 3, [15]),
    (.astore 4, 13, 2, []),
    (.iconst 1, 15, 1, []),
    (.ireturn, 16, 1, []),
    (.nop, 17, 0, []),
    (.nop, 19, 0, []),
    (.nop, 20, 0, []),
    (.iconst 0, 21, 1, []),
    (.ireturn, 22, 1, [])])
/-- MacrocosmLaw.made(LMacrocosm;I[J)I -/
def zM_98 : zM := (⟨"MacrocosmLaw", "made", "(LMacrocosm;I[J)I"⟩, method_12_code, 4, some (.int), [(0, 9, 12, 13)], 1, 3, 99, [1306, 100, 1305], [(.aload_n 2, 0, 1, []),
    (.iconst 0, 1, 1, []),
    (.aload_n 0, 2, 1, []),
    (.iload_n 1, 3, 1, []),
    (.invokevirtual 45, 4, 3, [15, 1307, 1309]),
    (.i2l, 7, 1, []),
    (.lastore, 8, 1, []),
    (.goto (6), 9, 3, [11]),
    (.nop, 12, 0, []),
    (.nop, 13, 0, []),
    (.nop, 14, 0, []),
    (.iconst 0, 15, 1, []),
    (.ireturn, 16, 1, [])])
/-- MacrocosmLaw.parts(LMacrocosm;[J)I -/
def zM_99 : zM := (⟨"MacrocosmLaw", "parts", "(LMacrocosm;[J)I"⟩, method_9_code, 3, some (.int), [(0, 8, 11, 13)], 1, 2, 99, [1281, 100, 1280], [(.aload_n 1, 0, 1, []),
    (.iconst 0, 1, 1, []),
    (.aload_n 0, 2, 1, []),
    (.invokevirtual 35, 3, 3, [16, 1282, 1284]),
    (.i2l, 6, 1, []),
    (.lastore, 7, 1, []),
    (.goto (6), 8, 3, [10]),
    (.nop, 11, 0, []),
    (.nop, 12, 0, []),
    (.nop, 13, 0, []),
    (.iconst 0, 14, 1, []),
    (.ireturn, 15, 1, [])])
/-- MacrocosmLaw.rename(LMacrocosm;II[J)I -/
def zM_100 : zM := (⟨"MacrocosmLaw", "rename", "(LMacrocosm;II[J)I"⟩, method_14_code, 5, some (.int), [(0, 17, 20, 55), (0, 17, 24, 13)], 1, 4, 99, [1344, 100, 1343], [(.aload_n 3, 0, 1, []),
    (.iconst 0, 1, 1, []),
    (.aload_n 0, 2, 1, []),
    (.iload_n 1, 3, 1, []),
    (.iload_n 2, 4, 1, []),
    (.invokevirtual 51, 5, 3, [17, 1346, 1348, 2, 12]),
    (.ifCond .eq (7), 8, 3, [9]),
    (.nop, 11, 0, []),
    (.nop, 12, 0, []),
    (.lconst 0, 15, 1, []),
    (.lastore, 16, 1, []),
    (.goto (11), 17, 3, [18]),
    (.astore 4, 20, 2, []),
    (.iconst 1, 22, 1, []),
    (.ireturn, 23, 1, []),
    (.nop, 24, 0, []),
    (.nop, 26, 0, []),
    (.nop, 27, 0, []),
    (.iconst 0, 28, 1, []),
    (.ireturn, 29, 1, [])])
/-- MacrocosmLaw.type(LMacrocosm;C[J)I -/
def zM_101 : zM := (⟨"MacrocosmLaw", "type", "(LMacrocosm;C[J)I"⟩, method_3_code, 4, some (.int), [(0, 9, 12, 13)], 1, 3, 99, [1130, 100, 1129], [(.aload_n 2, 0, 1, []),
    (.iconst 0, 1, 1, []),
    (.aload_n 0, 2, 1, []),
    (.iload_n 1, 3, 1, []),
    (.invokevirtual 7, 4, 3, [20, 1132, 1134]),
    (.i2l, 7, 1, []),
    (.lastore, 8, 1, []),
    (.goto (6), 9, 3, [11]),
    (.nop, 12, 0, []),
    (.nop, 13, 0, []),
    (.nop, 14, 0, []),
    (.iconst 0, 15, 1, []),
    (.ireturn, 16, 1, [])])
/-- MacrocosmLaw.uses(LMacrocosm;I[J)I -/
def zM_102 : zM := (⟨"MacrocosmLaw", "uses", "(LMacrocosm;I[J)I"⟩, method_13_code, 4, some (.int), [(0, 9, 12, 13)], 1, 3, 99, [1329, 100, 1328], [(.aload_n 2, 0, 1, []),
    (.iconst 0, 1, 1, []),
    (.aload_n 0, 2, 1, []),
    (.iload_n 1, 3, 1, []),
    (.invokevirtual 48, 4, 3, [21, 1330, 1332]),
    (.i2l, 7, 1, []),
    (.lastore, 8, 1, []),
    (.goto (6), 9, 3, [11]),
    (.nop, 12, 0, []),
    (.nop, 13, 0, []),
    (.nop, 14, 0, []),
    (.iconst 0, 15, 1, []),
    (.ireturn, 16, 1, [])])
/-- MacrocosmLaw.value(LMacrocosm;[J)I -/
def zM_103 : zM := (⟨"MacrocosmLaw", "value", "(LMacrocosm;[J)I"⟩, method_7_code, 3, some (.int), [(0, 7, 10, 13)], 1, 2, 99, [1262, 100, 1261], [(.aload_n 1, 0, 1, []),
    (.iconst 0, 1, 1, []),
    (.aload_n 0, 2, 1, []),
    (.invokevirtual 28, 3, 3, [22, 1263, 1265]),
    (.lastore, 6, 1, []),
    (.goto (6), 7, 3, [9]),
    (.nop, 10, 0, []),
    (.nop, 11, 0, []),
    (.nop, 12, 0, []),
    (.iconst 0, 13, 1, []),
    (.ireturn, 14, 1, [])])
/-- MacrocosmLaw.valueByText(LMacrocosm;[J)I -/
def zM_104 : zM := (⟨"MacrocosmLaw", "valueByText", "(LMacrocosm;[J)I"⟩, method_8_code, 3, some (.int), [(0, 7, 10, 13)], 1, 2, 99, [1274, 100, 1273], [(.aload_n 1, 0, 1, []),
    (.iconst 0, 1, 1, []),
    (.aload_n 0, 2, 1, []),
    (.invokevirtual 32, 3, 3, [23, 1275, 1277]),
    (.lastore, 6, 1, []),
    (.goto (6), 7, 3, [9]),
    (.nop, 10, 0, []),
    (.nop, 11, 0, []),
    (.nop, 12, 0, []),
    (.iconst 0, 13, 1, []),
    (.ireturn, 14, 1, [])])
/-- MacrocosmModel.<init>()V -/
def zM_105 : zM := (⟨"MacrocosmModel", "<init>", "()V"⟩, prog_14_method_1_code, 1, none, [], 2, 0, 12, [1418, 113, 1417], [(.aload_n 0, 0, 1, []),
    (.invokespecial 1, 1, 3, [1419]),
    (.aload_n 0, 4, 1, []),
    (.bipush (120), 5, 2, []),
    (.newarray .int, 7, 2, [0, 170]),
    (.putfield 9, 9, 3, [12, 1, 1421]),
    (.return_, 12, 1, [])])
/-- MacrocosmModel.at(I)I -/
def zM_106 : zM := (⟨"MacrocosmModel", "at", "(I)I"⟩, prog_14_method_11_code, 2, some (.int), [], 0, 1, 12, [1467, 113, 1465], [(.aload_n 0, 0, 1, []),
    (.iload_n 1, 1, 1, []),
    (.iconst 0, 2, 1, []),
    (.aload_n 0, 3, 1, []),
    (.getfield 23, 4, 3, [12, 2, 1422]),
    (.iconst 1, 7, 1, []),
    (.isub, 8, 1, []),
    (.invokestatic 33, 9, 3, [116, 1449, 0]),
    (.ifCond .eq (7), 12, 3, [11]),
    (.nop, 15, 0, []),
    (.nop, 16, 0, []),
    (.iconst 1, 19, 1, []),
    (.invokevirtual 29, 20, 3, [115, 1441, 60]),
    (.ifCond .eq (12), 23, 3, [19]),
    (.nop, 26, 0, []),
    (.nop, 27, 0, []),
    (.nop, 30, 0, []),
    (.nop, 31, 0, []),
    (.nop, 32, 0, []),
    (.iconst 0, 35, 1, []),
    (.ireturn, 36, 1, [])])
/-- MacrocosmModel.clear()I -/
def zM_107 : zM := (⟨"MacrocosmModel", "clear", "()I"⟩, prog_14_method_9_code, 2, some (.int), [], 0, 0, 12, [1459, 113, 1457], [(.aload_n 0, 0, 1, []),
    (.iconst 0, 1, 1, []),
    (.putfield 13, 2, 3, [12, 0, 1420]),
    (.aload_n 0, 5, 1, []),
    (.getfield 23, 6, 3, [12, 2, 1422]),
    (.istore_n 1, 9, 1, []),
    (.aload_n 0, 10, 1, []),
    (.iconst 0, 11, 1, []),
    (.putfield 23, 12, 3, [12, 2, 1422]),
    (.aload_n 0, 15, 1, []),
    (.aconst_null, 16, 1, []),
    (.putfield 17, 17, 3, [12, 3, 1423]),
    (.iload_n 1, 20, 1, []),
    (.ireturn, 21, 1, [])])
/-- MacrocosmModel.erase(I)I -/
def zM_108 : zM := (⟨"MacrocosmModel", "erase", "(I)I"⟩, prog_14_method_8_code, 4, some (.int), [], 0, 1, 12, [1455, 113, 1453], [(.aload_n 0, 0, 1, []),
    (.iload_n 1, 1, 1, []),
    (.iconst 0, 2, 1, []),
    (.aload_n 0, 3, 1, []),
    (.getfield 23, 4, 3, [12, 2, 1422]),
    (.iconst 1, 7, 1, []),
    (.isub, 8, 1, []),
    (.invokestatic 33, 9, 3, [116, 1449, 0]),
    (.ifCond .eq (7), 12, 3, [11]),
    (.nop, 15, 0, []),
    (.nop, 16, 0, []),
    (.iconst 1, 19, 1, []),
    (.invokevirtual 29, 20, 3, [115, 1441, 60]),
    (.ifCond .ne (5), 23, 3, [16]),
    (.iconst 0, 26, 1, []),
    (.ireturn, 27, 1, []),
    (.nop, 28, 0, []),
    (.nop, 29, 0, []),
    (.nop, 32, 0, []),
    (.nop, 33, 0, []),
    (.nop, 34, 0, []),
    (.nop, 35, 0, []),
    (.nop, 36, 0, []),
    (.nop, 37, 0, []),
    (.nop, 40, 0, []),
    (.nop, 41, 0, []),
    (.nop, 42, 0, []),
    (.nop, 45, 0, []),
    (.nop, 46, 0, []),
    (.nop, 47, 0, []),
    (.nop, 48, 0, []),
    (.nop, 49, 0, []),
    (.nop, 52, 0, []),
    (.nop, 55, 0, []),
    (.nop, 56, 0, []),
    (.nop, 59, 0, []),
    (.nop, 60, 0, []),
    (.nop, 61, 0, []),
    (.nop, 64, 0, []),
    (.nop, 65, 0, []),
    (.nop, 66, 0, []),
    (.nop, 67, 0, []),
    (.nop, 68, 0, []),
    (.nop, 69, 0, []),
    (.nop, 72, 0, []),
    (.nop, 75, 0, []),
    (.nop, 76, 0, []),
    (.nop, 77, 0, []),
    (.nop, 80, 0, []),
    (.nop, 81, 0, [])])
/-- MacrocosmModel.expanded()I -/
def zM_109 : zM := (⟨"MacrocosmModel", "expanded", "()I"⟩, prog_14_method_18_code, 1, some (.int), [], 0, 0, 12, [2057, 113, 2055], [(.aload_n 0, 0, 1, []),
    (.invokevirtual 47, 1, 3, [117, 2025, 97]),
    (.ifCond .eq (16), 4, 3, [8]),
    (.aload_n 0, 7, 1, []),
    (.getfield 17, 8, 3, [12, 3, 1423]),
    (.getfield 55, 11, 3, [13, 18, 9, 1]),
    (.invokevirtual 59, 14, 3, [142, 2033, 2035]),
    (.goto (4), 17, 3, [9]),
    (.nop, 20, 0, []),
    (.ireturn, 21, 1, [])])
/-- MacrocosmModel.expandedAt(I)I -/
def zM_110 : zM := (⟨"MacrocosmModel", "expandedAt", "(I)I"⟩, prog_14_method_19_code, 3, some (.int), [], 0, 1, 12, [2061, 113, 2059], [(.aload_n 0, 0, 1, []),
    (.invokevirtual 37, 1, 3, [122, 1472, 61]),
    (.getfield 41, 4, 3, [13, 9, 10, 1]),
    (.ifCond .ne (7), 7, 3, [6]),
    (.iconst 1, 10, 1, []),
    (.goto (4), 11, 3, [7]),
    (.nop, 14, 0, []),
    (.istore_n 2, 15, 1, []),
    (.aload_n 0, 16, 1, []),
    (.iload_n 2, 17, 1, []),
    (.ifCond .ne (7), 18, 3, [13]),
    (.nop, 21, 0, []),
    (.nop, 22, 0, []),
    (.iload_n 1, 25, 1, []),
    (.iconst 0, 26, 1, []),
    (.aload_n 0, 27, 1, []),
    (.getfield 17, 28, 3, [12, 3, 1423]),
    (.getfield 55, 31, 3, [13, 18, 9, 1]),
    (.invokevirtual 59, 34, 3, [142, 2033, 2035]),
    (.iconst 1, 37, 1, []),
    (.isub, 38, 1, []),
    (.invokestatic 33, 39, 3, [116, 1449, 0]),
    (.ifCond .ne (7), 42, 3, [25]),
    (.iconst 2, 45, 1, []),
    (.goto (4), 46, 3, [26]),
    (.nop, 49, 0, []),
    (.invokevirtual 29, 50, 3, [115, 1441, 60]),
    (.ifCond .ne (5), 53, 3, [30]),
    (.iconst 0, 56, 1, []),
    (.ireturn, 57, 1, []),
    (.nop, 58, 0, []),
    (.nop, 59, 0, []),
    (.nop, 62, 0, []),
    (.nop, 65, 0, []),
    (.nop, 66, 0, []),
    (.nop, 69, 0, [])])
/-- MacrocosmModel.fault()I -/
def zM_111 : zM := (⟨"MacrocosmModel", "fault", "()I"⟩, prog_14_method_12_code, 1, some (.int), [], 0, 0, 12, [1471, 113, 1469], [(.aload_n 0, 0, 1, []),
    (.iconst 0, 1, 1, []),
    (.putfield 13, 2, 3, [12, 0, 1420]),
    (.aload_n 0, 5, 1, []),
    (.invokevirtual 37, 6, 3, [122, 1472, 61]),
    (.getfield 41, 9, 3, [13, 9, 10, 1]),
    (.ireturn, 12, 1, [])])
/-- MacrocosmModel.faultPlace()I -/
def zM_112 : zM := (⟨"MacrocosmModel", "faultPlace", "()I"⟩, prog_14_method_13_code, 1, some (.int), [], 0, 0, 12, [2020, 113, 2018], [(.aload_n 0, 0, 1, []),
    (.iconst 0, 1, 1, []),
    (.putfield 13, 2, 3, [12, 0, 1420]),
    (.aload_n 0, 5, 1, []),
    (.invokevirtual 37, 6, 3, [122, 1472, 61]),
    (.getfield 44, 9, 3, [13, 10, 11, 1]),
    (.ireturn, 12, 1, [])])
/-- MacrocosmModel.holds(II)I -/
def zM_113 : zM := (⟨"MacrocosmModel", "holds", "(II)I"⟩, prog_14_method_26_code, 4, some (.int), [], 0, 2, 12, [2098, 113, 2096], [(.iload_n 1, 0, 1, []),
    (.iconst 0, 1, 1, []),
    (.aload_n 0, 2, 1, []),
    (.getfield 23, 3, 3, [12, 2, 1422]),
    (.invokestatic 33, 6, 3, [116, 1449, 0]),
    (.istore_n 3, 9, 1, []),
    (.aload_n 0, 10, 1, []),
    (.iload_n 3, 11, 1, []),
    (.ifCond .ne (7), 12, 3, [11]),
    (.iconst 1, 15, 1, []),
    (.goto (31), 16, 3, [25]),
    (.iload_n 2, 19, 1, []),
    (.iconst 0, 20, 1, []),
    (.iconst 3, 21, 1, []),
    (.invokestatic 33, 22, 3, [116, 1449, 0]),
    (.ifCond .ne (7), 25, 3, [18]),
    (.iconst 2, 28, 1, []),
    (.goto (18), 29, 3, [25]),
    (.aload_n 0, 32, 1, []),
    (.invokevirtual 37, 33, 3, [122, 1472, 61]),
    (.getfield 41, 36, 3, [13, 9, 10, 1]),
    (.ifCond .eq (7), 39, 3, [24]),
    (.nop, 42, 0, []),
    (.nop, 43, 0, []),
    (.iconst 0, 46, 1, []),
    (.invokevirtual 29, 47, 3, [115, 1441, 60]),
    (.ifCond .ne (5), 50, 3, [29]),
    (.iconst 0, 53, 1, []),
    (.ireturn, 54, 1, []),
    (.aload_n 0, 55, 1, []),
    (.getfield 17, 56, 3, [12, 3, 1423]),
    (.iload_n 1, 59, 1, []),
    (.iload_n 2, 60, 1, []),
    (.invokevirtual 103, 61, 3, [131, 2099, 2101]),
    (.ireturn, 64, 1, [])])
/-- MacrocosmModel.insert(IC)I -/
def zM_114 : zM := (⟨"MacrocosmModel", "insert", "(IC)I"⟩, prog_14_method_7_code, 4, some (.int), [], 0, 2, 12, [1448, 113, 1446], [(.aload_n 0, 0, 1, []),
    (.iload_n 1, 1, 1, []),
    (.iconst 0, 2, 1, []),
    (.aload_n 0, 3, 1, []),
    (.getfield 23, 4, 3, [12, 2, 1422]),
    (.invokestatic 33, 7, 3, [116, 1449, 0]),
    (.ifCond .ne (7), 10, 3, [9]),
    (.iconst 1, 13, 1, []),
    (.goto (17), 14, 3, [16]),
    (.aload_n 0, 17, 1, []),
    (.getfield 23, 18, 3, [12, 2, 1422]),
    (.bipush (120), 21, 2, []),
    (.if_icmp .ne (7), 23, 3, [15]),
    (.nop, 26, 0, []),
    (.nop, 27, 0, []),
    (.iconst 0, 30, 1, []),
    (.invokevirtual 29, 31, 3, [115, 1441, 60]),
    (.ifCond .ne (5), 34, 3, [20]),
    (.iconst 0, 37, 1, []),
    (.ireturn, 38, 1, []),
    (.aload_n 0, 39, 1, []),
    (.getfield 23, 40, 3, [12, 2, 1422]),
    (.istore_n 3, 43, 1, []),
    (.iload_n 3, 44, 1, []),
    (.iload_n 1, 45, 1, []),
    (.if_icmp .le (23), 46, 3, [38]),
    (.nop, 49, 0, []),
    (.nop, 50, 0, []),
    (.nop, 53, 0, []),
    (.nop, 54, 0, []),
    (.nop, 55, 0, []),
    (.nop, 58, 0, []),
    (.nop, 59, 0, []),
    (.nop, 60, 0, []),
    (.nop, 61, 0, []),
    (.nop, 62, 0, []),
    (.nop, 63, 0, []),
    (.nop, 66, 0, []),
    (.aload_n 0, 69, 1, []),
    (.getfield 9, 70, 3, [12, 1, 1421]),
    (.iload_n 1, 73, 1, []),
    (.iload_n 2, 74, 1, []),
    (.iastore, 75, 1, []),
    (.aload_n 0, 76, 1, []),
    (.dup, 77, 1, []),
    (.getfield 23, 78, 3, [12, 2, 1422]),
    (.iconst 1, 81, 1, []),
    (.iadd, 82, 1, []),
    (.putfield 23, 83, 3, [12, 2, 1422]),
    (.aload_n 0, 86, 1, []),
    (.aconst_null, 87, 1, []),
    (.putfield 17, 88, 3, [12, 3, 1423]),
    (.aload_n 0, 91, 1, []),
    (.getfield 23, 92, 3, [12, 2, 1422]),
    (.ireturn, 95, 1, [])])
/-- MacrocosmModel.isFine(I)Z -/
def zM_115 : zM := (⟨"MacrocosmModel", "isFine", "(I)Z"⟩, prog_14_method_3_code, 2, some (.boolean), [], 0, 1, 12, [1444, 113, 1443], [(.aload_n 0, 0, 1, []),
    (.iload_n 1, 1, 1, []),
    (.putfield 13, 2, 3, [12, 0, 1420]),
    (.iload_n 1, 5, 1, []),
    (.ifCond .ne (7), 6, 3, [7]),
    (.iconst 1, 9, 1, []),
    (.goto (4), 10, 3, [8]),
    (.iconst 0, 13, 1, []),
    (.ireturn, 14, 1, [])])
/-- MacrocosmModel.isIn(III)Z -/
def zM_116 : zM := (⟨"MacrocosmModel", "isIn", "(III)Z"⟩, prog_14_method_4_code, 3, some (.boolean), [], 1, 3, 12, [1451, 113, 1450], [(.iload_n 0, 0, 1, []),
    (.iload_n 1, 1, 1, []),
    (.if_icmp .lt (12), 2, 3, [8]),
    (.iload_n 0, 5, 1, []),
    (.iload_n 2, 6, 1, []),
    (.if_icmp .gt (7), 7, 3, [8]),
    (.iconst 1, 10, 1, []),
    (.goto (4), 11, 3, [9]),
    (.iconst 0, 14, 1, []),
    (.ireturn, 15, 1, [])])
/-- MacrocosmModel.isRead()Z -/
def zM_117 : zM := (⟨"MacrocosmModel", "isRead", "()Z"⟩, prog_14_method_14_code, 1, some (.boolean), [], 0, 0, 12, [2028, 113, 2027], [(.aload_n 0, 0, 1, []),
    (.aload_n 0, 1, 1, []),
    (.invokevirtual 37, 2, 3, [122, 1472, 61]),
    (.getfield 41, 5, 3, [13, 9, 10, 1]),
    (.ifCond .ne (7), 8, 3, [7]),
    (.iconst 0, 11, 1, []),
    (.goto (4), 12, 3, [8]),
    (.nop, 15, 0, []),
    (.invokevirtual 29, 16, 3, [115, 1441, 60]),
    (.ireturn, 19, 1, [])])
/-- MacrocosmModel.length()I -/
def zM_118 : zM := (⟨"MacrocosmModel", "length", "()I"⟩, prog_14_method_10_code, 1, some (.int), [], 0, 0, 12, [1463, 113, 1461], [(.aload_n 0, 0, 1, []),
    (.iconst 0, 1, 1, []),
    (.putfield 13, 2, 3, [12, 0, 1420]),
    (.aload_n 0, 5, 1, []),
    (.getfield 23, 6, 3, [12, 2, 1422]),
    (.ireturn, 9, 1, [])])
/-- MacrocosmModel.made(I)I -/
def zM_119 : zM := (⟨"MacrocosmModel", "made", "(I)I"⟩, prog_14_method_22_code, 3, some (.int), [], 0, 1, 12, [2069, 113, 2067], [(.aload_n 0, 0, 1, []),
    (.invokevirtual 47, 1, 3, [117, 2025, 97]),
    (.ifCond .eq (11), 4, 3, [7]),
    (.aload_n 0, 7, 1, []),
    (.iload_n 1, 8, 1, []),
    (.invokevirtual 81, 9, 3, [120, 2070, 98]),
    (.goto (4), 12, 3, [8]),
    (.nop, 15, 0, []),
    (.istore_n 2, 16, 1, []),
    (.aload_n 0, 17, 1, []),
    (.getfield 13, 18, 3, [12, 0, 1420]),
    (.ifCond .le (7), 21, 3, [14]),
    (.nop, 24, 0, []),
    (.nop, 25, 0, []),
    (.iload_n 2, 28, 1, []),
    (.iconst (-1), 29, 1, []),
    (.if_icmp .ne (7), 30, 3, [19]),
    (.iconst (-1), 33, 1, []),
    (.goto (12), 34, 3, [24]),
    (.nop, 37, 0, []),
    (.nop, 38, 0, []),
    (.nop, 41, 0, []),
    (.nop, 44, 0, []),
    (.nop, 45, 0, []),
    (.ireturn, 46, 1, [])])
/-- MacrocosmModel.meaningAt(I)I -/
def zM_120 : zM := (⟨"MacrocosmModel", "meaningAt", "(I)I"⟩, prog_14_method_21_code, 3, some (.int), [], 0, 1, 12, [2073, 113, 2072], [(.aload_n 0, 0, 1, []),
    (.getfield 17, 1, 3, [12, 3, 1423]),
    (.iload_n 1, 4, 1, []),
    (.invokevirtual 74, 5, 3, [137, 2074, 2076]),
    (.istore_n 2, 8, 1, []),
    (.iload_n 2, 9, 1, []),
    (.iconst (-1), 10, 1, []),
    (.if_icmp .ne (7), 11, 3, [10]),
    (.iconst (-1), 14, 1, []),
    (.goto (12), 15, 3, [15]),
    (.nop, 18, 0, []),
    (.nop, 19, 0, []),
    (.nop, 22, 0, []),
    (.nop, 25, 0, []),
    (.nop, 26, 0, []),
    (.ireturn, 27, 1, [])])
/-- MacrocosmModel.parts()I -/
def zM_121 : zM := (⟨"MacrocosmModel", "parts", "()I"⟩, prog_14_method_17_code, 1, some (.int), [], 0, 0, 12, [2053, 113, 2051], [(.aload_n 0, 0, 1, []),
    (.invokevirtual 47, 1, 3, [117, 2025, 97]),
    (.ifCond .eq (13), 4, 3, [7]),
    (.aload_n 0, 7, 1, []),
    (.getfield 17, 8, 3, [12, 3, 1423]),
    (.getfield 68, 11, 3, [13, 14, 12, 1]),
    (.goto (4), 14, 3, [8]),
    (.nop, 17, 0, []),
    (.ireturn, 18, 1, [])])
/-- MacrocosmModel.read()LMacrocosmModel$Reading; -/
def zM_122 : zM := (⟨"MacrocosmModel", "read", "()LMacrocosmModel$Reading;"⟩, prog_14_method_5_code, 1, some (.object "MacrocosmModel$Reading"), [], 0, 0, 12, [1475, 113, 1474], [(.aload_n 0, 0, 1, []),
    (.getfield 17, 1, 3, [12, 3, 1423]),
    (.ifnonnull (22), 4, 3, [12]),
    (.aload_n 0, 7, 1, []),
    (.new 21, 8, 3, [13, 1476]),
    (.dup, 11, 1, []),
    (.aload_n 0, 12, 1, []),
    (.getfield 9, 13, 3, [12, 1, 1421]),
    (.aload_n 0, 16, 1, []),
    (.getfield 23, 17, 3, [12, 2, 1422]),
    (.invokespecial 26, 20, 3, [130, 1478, 0]),
    (.putfield 17, 23, 3, [12, 3, 1423]),
    (.aload_n 0, 26, 1, []),
    (.getfield 17, 27, 3, [12, 3, 1423]),
    (.areturn, 30, 1, [])])
/-- MacrocosmModel.rename(II)Z -/
def zM_123 : zM := (⟨"MacrocosmModel", "rename", "(II)Z"⟩, prog_14_method_25_code, 14, some (.boolean), [], 0, 2, 12, [2089, 113, 2087], [(.aload_n 0, 0, 1, []),
    (.iload_n 2, 1, 1, []),
    (.iconst 0, 2, 1, []),
    (.bipush (25), 3, 2, []),
    (.invokestatic 33, 5, 3, [116, 1449, 0]),
    (.ifCond .ne (7), 8, 3, [8]),
    (.iconst 1, 11, 1, []),
    (.goto (18), 12, 3, [15]),
    (.aload_n 0, 15, 1, []),
    (.invokevirtual 37, 16, 3, [122, 1472, 61]),
    (.getfield 41, 19, 3, [13, 9, 10, 1]),
    (.ifCond .eq (7), 22, 3, [14]),
    (.nop, 25, 0, []),
    (.nop, 26, 0, []),
    (.iconst 0, 29, 1, []),
    (.invokevirtual 29, 30, 3, [115, 1441, 60]),
    (.ifCond .ne (5), 33, 3, [19]),
    (.iconst 0, 36, 1, []),
    (.ireturn, 37, 1, []),
    (.aload_n 0, 38, 1, []),
    (.iload_n 1, 39, 1, []),
    (.invokevirtual 81, 40, 3, [120, 2070, 98]),
    (.istore_n 3, 43, 1, []),
    (.iload_n 3, 44, 1, []),
    (.iconst (-1), 45, 1, []),
    (.if_icmp .eq (16), 46, 3, [33]),
    (.nop, 49, 0, []),
    (.nop, 50, 0, []),
    (.nop, 53, 0, []),
    (.nop, 56, 0, []),
    (.nop, 57, 0, []),
    (.nop, 58, 0, []),
    (.nop, 59, 0, []),
    (.iconst 0, 62, 1, []),
    (.ireturn, 63, 1, []),
    (.nop, 64, 0, []),
    (.nop, 65, 0, []),
    (.nop, 68, 0, []),
    (.nop, 71, 0, []),
    (.nop, 72, 0, []),
    (.nop, 73, 0, []),
    (.nop, 75, 0, []),
    (.nop, 76, 0, []),
    (.nop, 77, 0, []),
    (.nop, 78, 0, []),
    (.nop, 79, 0, []),
    (.nop, 81, 0, []),
    (.nop, 83, 0, []),
    (.nop, 85, 0, []),
    (.nop, 86, 0, []),
    (.nop, 89, 0, []),
    (.nop, 90, 0, []),
    (.nop, 92, 0, []),
    (.nop, 95, 0, []),
    (.nop, 98, 0, []),
    (.nop, 99, 0, []),
    (.nop, 101, 0, []),
    (.nop, 104, 0, []),
    (.nop, 107, 0, []),
    (.nop, 108, 0, []),
    (.nop, 109, 0, []),
    (.nop, 111, 0, []),
    (.nop, 113, 0, []),
    (.nop, 115, 0, []),
    (.nop, 116, 0, []),
    (.nop, 118, 0, []),
    (.nop, 119, 0, []),
    (.nop, 121, 0, []),
    (.nop, 122, 0, []),
    (.nop, 124, 0, []),
    (.nop, 126, 0, []),
    (.nop, 127, 0, []),
    (.nop, 130, 0, []),
    (.nop, 133, 0, []),
    (.nop, 135, 0, []),
    (.nop, 136, 0, []),
    (.nop, 139, 0, []),
    (.nop, 142, 0, []),
    (.nop, 145, 0, []),
    (.nop, 146, 0, []),
    (.nop, 149, 0, []),
    (.nop, 152, 0, []),
    (.nop, 154, 0, []),
    (.nop, 155, 0, []),
    (.nop, 157, 0, []),
    (.nop, 160, 0, []),
    (.nop, 163, 0, []),
    (.nop, 166, 0, []),
    (.nop, 168, 0, []),
    (.nop, 169, 0, []),
    (.nop, 172, 0, []),
    (.nop, 175, 0, []),
    (.nop, 178, 0, []),
    (.nop, 179, 0, []),
    (.nop, 182, 0, []),
    (.nop, 185, 0, []),
    (.nop, 187, 0, []),
    (.nop, 188, 0, []),
    (.nop, 190, 0, []),
    (.nop, 193, 0, []),
    (.nop, 194, 0, []),
    (.nop, 197, 0, []),
    (.nop, 200, 0, []),
    (.nop, 202, 0, []),
    (.nop, 203, 0, []),
    (.nop, 204, 0, []),
    (.nop, 207, 0, []),
    (.nop, 208, 0, []),
    (.nop, 211, 0, []),
    (.nop, 212, 0, []),
    (.nop, 214, 0, []),
    (.nop, 216, 0, []),
    (.nop, 218, 0, []),
    (.nop, 220, 0, []),
    (.nop, 223, 0, []),
    (.nop, 225, 0, []),
    (.nop, 226, 0, []),
    (.nop, 227, 0, []),
    (.nop, 230, 0, []),
    (.nop, 231, 0, []),
    (.nop, 234, 0, []),
    (.nop, 236, 0, []),
    (.nop, 237, 0, []),
    (.nop, 238, 0, []),
    (.nop, 241, 0, []),
    (.nop, 243, 0, []),
    (.nop, 246, 0, []),
    (.nop, 248, 0, []),
    (.nop, 249, 0, []),
    (.nop, 250, 0, []),
    (.nop, 251, 0, []),
    (.nop, 254, 0, []),
    (.nop, 257, 0, []),
    (.nop, 258, 0, []),
    (.nop, 261, 0, []),
    (.nop, 263, 0, []),
    (.nop, 264, 0, []),
    (.nop, 265, 0, []),
    (.nop, 266, 0, []),
    (.nop, 268, 0, []),
    (.nop, 271, 0, []),
    (.nop, 272, 0, []),
    (.nop, 275, 0, []),
    (.nop, 277, 0, []),
    (.nop, 278, 0, []),
    (.nop, 279, 0, []),
    (.nop, 280, 0, []),
    (.nop, 282, 0, []),
    (.nop, 285, 0, []),
    (.nop, 288, 0, []),
    (.nop, 291, 0, []),
    (.nop, 294, 0, []),
    (.nop, 297, 0, []),
    (.nop, 300, 0, []),
    (.nop, 301, 0, []),
    (.nop, 303, 0, []),
    (.nop, 305, 0, []),
    (.nop, 308, 0, []),
    (.nop, 310, 0, []),
    (.nop, 312, 0, []),
    (.nop, 315, 0, []),
    (.nop, 318, 0, []),
    (.nop, 320, 0, []),
    (.nop, 323, 0, []),
    (.nop, 324, 0, []),
    (.nop, 327, 0, []),
    (.nop, 330, 0, []),
    (.nop, 333, 0, []),
    (.nop, 334, 0, []),
    (.nop, 337, 0, []),
    (.nop, 338, 0, []),
    (.nop, 340, 0, []),
    (.nop, 341, 0, []),
    (.nop, 343, 0, []),
    (.nop, 345, 0, []),
    (.nop, 346, 0, []),
    (.nop, 349, 0, []),
    (.nop, 352, 0, []),
    (.nop, 355, 0, []),
    (.nop, 357, 0, []),
    (.nop, 360, 0, []),
    (.nop, 362, 0, []),
    (.nop, 365, 0, []),
    (.nop, 367, 0, []),
    (.nop, 368, 0, []),
    (.nop, 369, 0, []),
    (.nop, 372, 0, []),
    (.nop, 375, 0, []),
    (.nop, 377, 0, []),
    (.nop, 378, 0, []),
    (.nop, 381, 0, []),
    (.nop, 382, 0, []),
    (.nop, 385, 0, []),
    (.nop, 386, 0, []),
    (.nop, 388, 0, []),
    (.nop, 391, 0, []),
    (.nop, 394, 0, []),
    (.nop, 396, 0, []),
    (.nop, 399, 0, []),
    (.nop, 400, 0, []),
    (.nop, 402, 0, []),
    (.nop, 404, 0, []),
    (.nop, 406, 0, []),
    (.nop, 409, 0, []),
    (.nop, 410, 0, []),
    (.nop, 413, 0, []),
    (.nop, 415, 0, []),
    (.nop, 417, 0, []),
    (.nop, 419, 0, []),
    (.nop, 420, 0, []),
    (.nop, 421, 0, []),
    (.nop, 424, 0, []),
    (.nop, 427, 0, []),
    (.nop, 428, 0, []),
    (.nop, 430, 0, []),
    (.nop, 433, 0, []),
    (.nop, 434, 0, []),
    (.nop, 435, 0, []),
    (.nop, 438, 0, []),
    (.nop, 440, 0, [])])
/-- MacrocosmModel.thrown()I -/
def zM_124 : zM := (⟨"MacrocosmModel", "thrown", "()I"⟩, prog_14_method_2_code, 1, some (.int), [], 0, 0, 12, [1436, 113, 1434], [(.aload_n 0, 0, 1, []),
    (.getfield 13, 1, 3, [12, 0, 1420]),
    (.ireturn, 4, 1, [])])
/-- MacrocosmModel.tokens()I -/
def zM_125 : zM := (⟨"MacrocosmModel", "tokens", "()I"⟩, prog_14_method_20_code, 1, some (.int), [], 0, 0, 12, [2065, 113, 2063], [(.aload_n 0, 0, 1, []),
    (.iconst 0, 1, 1, []),
    (.putfield 13, 2, 3, [12, 0, 1420]),
    (.aload_n 0, 5, 1, []),
    (.invokevirtual 37, 6, 3, [122, 1472, 61]),
    (.getfield 71, 9, 3, [13, 7, 13, 1]),
    (.ireturn, 12, 1, [])])
/-- MacrocosmModel.type(C)I -/
def zM_126 : zM := (⟨"MacrocosmModel", "type", "(C)I"⟩, prog_14_method_6_code, 2, some (.int), [], 0, 1, 12, [1440, 113, 1438], [(.aload_n 0, 0, 1, []),
    (.aload_n 0, 1, 1, []),
    (.getfield 23, 2, 3, [12, 2, 1422]),
    (.bipush (120), 5, 2, []),
    (.if_icmp .ne (7), 7, 3, [7]),
    (.nop, 10, 0, []),
    (.nop, 11, 0, []),
    (.iconst 0, 14, 1, []),
    (.invokevirtual 29, 15, 3, [115, 1441, 60]),
    (.ifCond .ne (5), 18, 3, [12]),
    (.nop, 21, 0, []),
    (.nop, 22, 0, []),
    (.aload_n 0, 23, 1, []),
    (.getfield 9, 24, 3, [12, 1, 1421]),
    (.aload_n 0, 27, 1, []),
    (.getfield 23, 28, 3, [12, 2, 1422]),
    (.iload_n 1, 31, 1, []),
    (.iastore, 32, 1, []),
    (.aload_n 0, 33, 1, []),
    (.dup, 34, 1, []),
    (.getfield 23, 35, 3, [12, 2, 1422]),
    (.iconst 1, 38, 1, []),
    (.iadd, 39, 1, []),
    (.putfield 23, 40, 3, [12, 2, 1422]),
    (.aload_n 0, 43, 1, []),
    (.aconst_null, 44, 1, []),
    (.putfield 17, 45, 3, [12, 3, 1423]),
    (.aload_n 0, 48, 1, []),
    (.getfield 23, 49, 3, [12, 2, 1422]),
    (.ireturn, 52, 1, [])])
/-- MacrocosmModel.uses(I)I -/
def zM_127 : zM := (⟨"MacrocosmModel", "uses", "(I)I"⟩, prog_14_method_23_code, 2, some (.int), [], 0, 1, 12, [2081, 113, 2079], [(.aload_n 0, 0, 1, []),
    (.invokevirtual 47, 1, 3, [117, 2025, 97]),
    (.ifCond .eq (18), 4, 3, [10]),
    (.aload_n 0, 7, 1, []),
    (.getfield 17, 8, 3, [12, 3, 1423]),
    (.aload_n 0, 11, 1, []),
    (.iload_n 1, 12, 1, []),
    (.invokevirtual 81, 13, 3, [120, 2070, 98]),
    (.invokevirtual 87, 16, 3, [138, 2082, 2084]),
    (.goto (4), 19, 3, [11]),
    (.nop, 22, 0, []),
    (.ireturn, 23, 1, [])])
/-- MacrocosmModel.value()J -/
def zM_128 : zM := (⟨"MacrocosmModel", "value", "()J"⟩, prog_14_method_15_code, 1, some (.long), [], 0, 0, 12, [2024, 113, 2022], [(.aload_n 0, 0, 1, []),
    (.invokevirtual 47, 1, 3, [117, 2025, 97]),
    (.ifCond .eq (13), 4, 3, [7]),
    (.aload_n 0, 7, 1, []),
    (.getfield 17, 8, 3, [12, 3, 1423]),
    (.getfield 51, 11, 3, [13, 19, 14, 1]),
    (.goto (4), 14, 3, [8]),
    (.nop, 17, 0, []),
    (.lreturn, 18, 1, [])])
/-- MacrocosmModel.valueByText()J -/
def zM_129 : zM := (⟨"MacrocosmModel", "valueByText", "()J"⟩, prog_14_method_16_code, 4, some (.long), [], 0, 0, 12, [2032, 113, 2030], [(.aload_n 0, 0, 1, []),
    (.invokevirtual 47, 1, 3, [117, 2025, 97]),
    (.ifCond .ne (5), 4, 3, [5]),
    (.nop, 7, 0, []),
    (.nop, 8, 0, []),
    (.aload_n 0, 9, 1, []),
    (.getfield 17, 10, 3, [12, 3, 1423]),
    (.getfield 55, 13, 3, [13, 18, 9, 1]),
    (.invokevirtual 59, 16, 3, [142, 2033, 2035]),
    (.istore_n 1, 19, 1, []),
    (.iload_n 1, 20, 1, []),
    (.newarray .int, 21, 2, [0, 170]),
    (.astore_n 2, 23, 1, []),
    (.iconst 0, 24, 1, []),
    (.istore_n 3, 25, 1, []),
    (.iload_n 3, 26, 1, []),
    (.iload_n 1, 27, 1, []),
    (.if_icmp .ge (23), 28, 3, [28]),
    (.nop, 31, 0, []),
    (.nop, 32, 0, []),
    (.nop, 33, 0, []),
    (.nop, 34, 0, []),
    (.nop, 37, 0, []),
    (.nop, 40, 0, []),
    (.nop, 41, 0, []),
    (.nop, 44, 0, []),
    (.nop, 45, 0, []),
    (.nop, 48, 0, []),
    (.new 21, 51, 3, [13, 1476]),
    (.dup, 54, 1, []),
    (.aload_n 2, 55, 1, []),
    (.iload_n 1, 56, 1, []),
    (.invokespecial 26, 57, 3, [130, 1478, 0]),
    (.getfield 51, 60, 3, [13, 19, 14, 1]),
    (.lreturn, 63, 1, [])])
/-- MacrocosmModel$Reading.<init>([II)V -/
def zM_130 : zM := (⟨"MacrocosmModel$Reading", "<init>", "([II)V"⟩, prog_18_method_1_code, 3, none, [], 2, 2, 13, [1480, 125, 1479], [(.aload_n 0, 0, 1, []),
    (.invokespecial 3, 1, 3, [1481]),
    (.aload_n 0, 4, 1, []),
    (.iconst (-1), 5, 1, []),
    (.putfield 9, 6, 3, [13, 10, 1962]),
    (.aload_n 0, 9, 1, []),
    (.sipush (301), 10, 3, []),
    (.newarray .long, 13, 2, [2, 499]),
    (.putfield 15, 15, 3, [13, 17, 1971]),
    (.aload_n 0, 18, 1, []),
    (.new 19, 19, 3, [14, 1482]),
    (.dup, 22, 1, []),
    (.invokespecial 21, 23, 3, [141, 1484, 0]),
    (.putfield 22, 26, 3, [13, 18, 1972]),
    (.aload_n 0, 29, 1, []),
    (.aload_n 1, 30, 1, []),
    (.putfield 26, 31, 3, [13, 0, 1946]),
    (.aload_n 0, 34, 1, []),
    (.iload_n 2, 35, 1, []),
    (.putfield 30, 36, 3, [13, 1, 1947]),
    (.aload_n 0, 39, 1, []),
    (.iload_n 2, 40, 1, []),
    (.iconst 1, 41, 1, []),
    (.iadd, 42, 1, []),
    (.newarray .int, 43, 2, [0, 170]),
    (.putfield 33, 45, 3, [13, 2, 1948]),
    (.aload_n 0, 48, 1, []),
    (.iload_n 2, 49, 1, []),
    (.iconst 1, 50, 1, []),
    (.iadd, 51, 1, []),
    (.newarray .int, 52, 2, [0, 170]),
    (.putfield 36, 54, 3, [13, 3, 1950]),
    (.aload_n 0, 57, 1, []),
    (.iload_n 2, 58, 1, []),
    (.iconst 1, 59, 1, []),
    (.iadd, 60, 1, []),
    (.newarray .long, 61, 2, [2, 499]),
    (.putfield 39, 63, 3, [13, 4, 1952]),
    (.aload_n 0, 66, 1, []),
    (.iload_n 2, 67, 1, []),
    (.iconst 1, 68, 1, []),
    (.iadd, 69, 1, []),
    (.newarray .int, 70, 2, [0, 170]),
    (.putfield 42, 72, 3, [13, 5, 1954]),
    (.aload_n 0, 75, 1, []),
    (.iload_n 2, 76, 1, []),
    (.iconst 1, 77, 1, []),
    (.iadd, 78, 1, []),
    (.anewarray 45, 79, 3, [4, 1511]),
    (.putfield 47, 82, 3, [13, 6, 1956]),
    (.aload_n 0, 85, 1, []),
    (.invokevirtual 51, 86, 3, [134, 1513, 62]),
    (.aload_n 0, 89, 1, []),
    (.aload_n 0, 90, 1, []),
    (.iconst 0, 91, 1, []),
    (.invokevirtual 54, 92, 3, [133, 1546, 64]),
    (.putfield 58, 95, 3, [13, 13, 1966]),
    (.aload_n 0, 98, 1, []),
    (.getfield 62, 99, 3, [13, 9, 1960]),
    (.ifCond .ne (29), 102, 3, [74]),
    (.aload_n 0, 105, 1, []),
    (.aload_n 0, 106, 1, []),
    (.aload_n 0, 107, 1, []),
    (.getfield 58, 108, 3, [13, 13, 1966]),
    (.aconst_null, 111, 1, []),
    (.invokevirtual 65, 112, 3, [135, 1747, 89]),
    (.putfield 69, 115, 3, [13, 19, 1974]),
    (.aload_n 0, 118, 1, []),
    (.invokevirtual 73, 119, 3, [132, 1751, 90]),
    (.ifCond .eq (9), 122, 3, [74]),
    (.nop, 125, 0, []),
    (.nop, 126, 0, []),
    (.nop, 127, 0, []),
    (.nop, 128, 0, []),
    (.return_, 131, 1, [])])
/-- MacrocosmModel$Reading.holdsAt(II)I -/
def zM_131 : zM := (⟨"MacrocosmModel$Reading", "holdsAt", "(II)I"⟩, prog_18_method_49_code, 7, some (.int), [], 0, 2, 13, [2102, 125, 2100], [(.aconst_null, 0, 1, []),
    (.astore_n 3, 1, 1, []),
    (.iconst 0, 2, 1, []),
    (.istore 4, 3, 2, []),
    (.iload 4, 5, 2, []),
    (.aload_n 0, 7, 1, []),
    (.getfield 85, 8, 3, [13, 7, 1957]),
    (.if_icmp .ge (32), 11, 3, [23]),
    (.nop, 14, 0, []),
    (.nop, 15, 0, []),
    (.nop, 18, 0, []),
    (.nop, 20, 0, []),
    (.nop, 21, 0, []),
    (.nop, 22, 0, []),
    (.nop, 25, 0, []),
    (.nop, 26, 0, []),
    (.nop, 29, 0, []),
    (.nop, 31, 0, []),
    (.nop, 32, 0, []),
    (.nop, 35, 0, []),
    (.nop, 36, 0, []),
    (.nop, 37, 0, []),
    (.nop, 40, 0, []),
    (.iload_n 2, 43, 1, []),
    (.iconst 2, 44, 1, []),
    (.if_icmp .ne (7), 45, 3, [28]),
    (.iconst 3, 48, 1, []),
    (.goto (4), 49, 3, [29]),
    (.iconst 0, 52, 1, []),
    (.istore 4, 53, 2, []),
    (.aload_n 3, 55, 1, []),
    (.astore 5, 56, 2, []),
    (.aload 5, 58, 2, []),
    (.ifnull (75), 60, 3, [67]),
    (.nop, 63, 0, []),
    (.nop, 65, 0, []),
    (.nop, 68, 0, []),
    (.nop, 71, 0, []),
    (.nop, 72, 0, []),
    (.nop, 75, 0, []),
    (.nop, 76, 0, []),
    (.nop, 78, 0, []),
    (.nop, 81, 0, []),
    (.nop, 84, 0, []),
    (.nop, 85, 0, []),
    (.nop, 88, 0, []),
    (.nop, 89, 0, []),
    (.nop, 91, 0, []),
    (.nop, 93, 0, []),
    (.nop, 95, 0, []),
    (.nop, 98, 0, []),
    (.nop, 99, 0, []),
    (.nop, 100, 0, []),
    (.nop, 103, 0, []),
    (.nop, 105, 0, []),
    (.nop, 108, 0, []),
    (.nop, 111, 0, []),
    (.nop, 114, 0, []),
    (.nop, 117, 0, []),
    (.nop, 118, 0, []),
    (.nop, 121, 0, []),
    (.nop, 122, 0, []),
    (.nop, 123, 0, []),
    (.nop, 125, 0, []),
    (.nop, 127, 0, []),
    (.nop, 130, 0, []),
    (.nop, 132, 0, []),
    (.iload 4, 135, 2, []),
    (.ireturn, 137, 1, [])])
/-- MacrocosmModel$Reading.isTooGreat()Z -/
def zM_132 : zM := (⟨"MacrocosmModel$Reading", "isTooGreat", "()Z"⟩, prog_18_method_37_code, 1, some (.boolean), [], 0, 0, 13, [1754, 125, 1753], [(.aload_n 0, 0, 1, []),
    (.getfield 290, 1, 3, [13, 14, 1968]),
    (.sipush (300), 4, 3, []),
    (.if_icmp .gt (13), 7, 3, [8]),
    (.aload_n 0, 10, 1, []),
    (.getfield 293, 11, 3, [13, 15, 1969]),
    (.sipush (200), 14, 3, []),
    (.if_icmp .le (7), 17, 3, [10]),
    (.nop, 20, 0, []),
    (.nop, 21, 0, []),
    (.iconst 0, 24, 1, []),
    (.ireturn, 25, 1, [])])
/-- MacrocosmModel$Reading.statements(I)LMacrocosmModel$Node; -/
def zM_133 : zM := (⟨"MacrocosmModel$Reading", "statements", "(I)LMacrocosmModel$Node;"⟩, prog_18_method_19_code, 8, some (.object "MacrocosmModel$Node"), [], 0, 1, 13, [1549, 125, 1548], [(.aload_n 0, 0, 1, []),
    (.getfield 124, 1, 3, [13, 11, 1964]),
    (.astore_n 2, 4, 1, []),
    (.aconst_null, 5, 1, []),
    (.astore_n 3, 6, 1, []),
    (.aconst_null, 7, 1, []),
    (.astore 4, 8, 2, []),
    (.aload_n 0, 10, 1, []),
    (.getfield 62, 11, 3, [13, 9, 1960]),
    (.ifCond .ne (7), 14, 3, [12]),
    (.iconst 1, 17, 1, []),
    (.goto (4), 18, 3, [13]),
    (.nop, 21, 0, []),
    (.istore 5, 22, 2, []),
    (.iload 5, 24, 2, []),
    (.ifCond .eq (147), 26, 3, [86]),
    (.iload_n 1, 29, 1, []),
    (.ifCond .ne (23), 30, 3, [28]),
    (.aload_n 0, 33, 1, []),
    (.getfield 33, 34, 3, [13, 2, 1948]),
    (.aload_n 0, 37, 1, []),
    (.getfield 121, 38, 3, [13, 8, 1959]),
    (.iaload, 41, 1, []),
    (.ifCond .ne (7), 42, 3, [26]),
    (.iconst 1, 45, 1, []),
    (.goto (12), 46, 3, [31]),
    (.nop, 49, 0, []),
    (.nop, 50, 0, []),
    (.nop, 53, 0, []),
    (.nop, 54, 0, []),
    (.nop, 55, 0, []),
    (.istore 6, 58, 2, []),
    (.iload 6, 60, 2, []),
    (.ifCond .ne (40), 62, 3, [52]),
    (.nop, 65, 0, []),
    (.nop, 66, 0, []),
    (.nop, 68, 0, []),
    (.nop, 71, 0, []),
    (.nop, 74, 0, []),
    (.nop, 75, 0, []),
    (.nop, 76, 0, []),
    (.nop, 79, 0, []),
    (.nop, 81, 0, []),
    (.nop, 82, 0, []),
    (.nop, 85, 0, []),
    (.nop, 87, 0, []),
    (.nop, 88, 0, []),
    (.nop, 91, 0, []),
    (.nop, 93, 0, []),
    (.nop, 95, 0, []),
    (.nop, 98, 0, []),
    (.nop, 100, 0, []),
    (.iload_n 1, 102, 1, []),
    (.ifCond .ne (23), 103, 3, [64]),
    (.aload_n 0, 106, 1, []),
    (.getfield 33, 107, 3, [13, 2, 1948]),
    (.aload_n 0, 110, 1, []),
    (.getfield 121, 111, 3, [13, 8, 1959]),
    (.iaload, 114, 1, []),
    (.ifCond .ne (7), 115, 3, [62]),
    (.iconst 1, 118, 1, []),
    (.goto (12), 119, 3, [67]),
    (.nop, 122, 0, []),
    (.nop, 123, 0, []),
    (.nop, 126, 0, []),
    (.nop, 127, 0, []),
    (.nop, 128, 0, []),
    (.istore 7, 131, 2, []),
    (.aload_n 0, 133, 1, []),
    (.getfield 62, 134, 3, [13, 9, 1960]),
    (.ifCond .ne (14), 137, 3, [76]),
    (.iload 7, 140, 2, []),
    (.ifCond .ne (9), 142, 3, [76]),
    (.nop, 145, 0, []),
    (.nop, 146, 0, []),
    (.nop, 148, 0, []),
    (.aload_n 0, 151, 1, []),
    (.getfield 62, 152, 3, [13, 9, 1960]),
    (.ifCond .ne (12), 155, 3, [83]),
    (.iload 7, 158, 2, []),
    (.ifCond .ne (7), 160, 3, [83]),
    (.nop, 163, 0, []),
    (.nop, 164, 0, []),
    (.iconst 0, 167, 1, []),
    (.istore 5, 168, 2, []),
    (.goto (-146), 170, 3, [14]),
    (.aload_n 3, 173, 1, []),
    (.areturn, 174, 1, [])])
/-- MacrocosmModel$Reading.takesTokens()V -/
def zM_134 : zM := (⟨"MacrocosmModel$Reading", "takesTokens", "()V"⟩, prog_18_method_8_code, 6, none, [], 0, 0, 13, [1516, 125, 1515], [(.iconst 0, 0, 1, []),
    (.istore_n 1, 1, 1, []),
    (.iconst 1, 2, 1, []),
    (.istore_n 2, 3, 1, []),
    (.iload_n 2, 4, 1, []),
    (.ifCond .eq (360), 5, 3, [197]),
    (.iload_n 1, 8, 1, []),
    (.aload_n 0, 9, 1, []),
    (.getfield 30, 10, 3, [13, 1, 1947]),
    (.if_icmp .ge (31), 13, 3, [24]),
    (.nop, 16, 0, []),
    (.nop, 17, 0, []),
    (.nop, 20, 0, []),
    (.nop, 21, 0, []),
    (.nop, 22, 0, []),
    (.nop, 24, 0, []),
    (.nop, 27, 0, []),
    (.nop, 28, 0, []),
    (.nop, 31, 0, []),
    (.nop, 32, 0, []),
    (.nop, 33, 0, []),
    (.nop, 35, 0, []),
    (.nop, 38, 0, []),
    (.nop, 41, 0, []),
    (.iload_n 1, 44, 1, []),
    (.istore_n 3, 45, 1, []),
    (.iload_n 1, 46, 1, []),
    (.aload_n 0, 47, 1, []),
    (.getfield 30, 48, 3, [13, 1, 1947]),
    (.if_icmp .ne (18), 51, 3, [39]),
    (.aload_n 0, 54, 1, []),
    (.iconst 0, 55, 1, []),
    (.aload_n 0, 56, 1, []),
    (.getfield 30, 57, 3, [13, 1, 1947]),
    (.lconst 0, 60, 1, []),
    (.invokevirtual 88, 61, 3, [136, 1517, 63]),
    (.iconst 0, 64, 1, []),
    (.istore_n 2, 65, 1, []),
    (.goto (296), 66, 3, [196]),
    (.nop, 69, 0, []),
    (.nop, 70, 0, []),
    (.nop, 73, 0, []),
    (.nop, 74, 0, []),
    (.nop, 75, 0, []),
    (.nop, 78, 0, []),
    (.nop, 81, 0, []),
    (.nop, 82, 0, []),
    (.nop, 84, 0, []),
    (.nop, 85, 0, []),
    (.nop, 86, 0, []),
    (.nop, 89, 0, []),
    (.nop, 92, 0, []),
    (.nop, 93, 0, []),
    (.nop, 96, 0, []),
    (.nop, 97, 0, []),
    (.nop, 98, 0, []),
    (.nop, 101, 0, []),
    (.nop, 104, 0, []),
    (.nop, 105, 0, []),
    (.nop, 106, 0, []),
    (.nop, 107, 0, []),
    (.nop, 109, 0, []),
    (.nop, 112, 0, []),
    (.nop, 115, 0, []),
    (.nop, 117, 0, []),
    (.nop, 118, 0, []),
    (.nop, 119, 0, []),
    (.nop, 122, 0, []),
    (.nop, 123, 0, []),
    (.nop, 124, 0, []),
    (.nop, 125, 0, []),
    (.nop, 126, 0, []),
    (.nop, 129, 0, []),
    (.nop, 130, 0, []),
    (.nop, 131, 0, []),
    (.nop, 132, 0, []),
    (.nop, 135, 0, []),
    (.nop, 137, 0, []),
    (.nop, 139, 0, []),
    (.nop, 142, 0, []),
    (.nop, 145, 0, []),
    (.nop, 146, 0, []),
    (.nop, 147, 0, []),
    (.nop, 148, 0, []),
    (.nop, 150, 0, []),
    (.nop, 153, 0, []),
    (.nop, 154, 0, []),
    (.nop, 157, 0, []),
    (.nop, 158, 0, []),
    (.nop, 159, 0, []),
    (.nop, 160, 0, []),
    (.nop, 161, 0, []),
    (.nop, 164, 0, []),
    (.nop, 166, 0, []),
    (.nop, 169, 0, []),
    (.nop, 172, 0, []),
    (.nop, 173, 0, []),
    (.nop, 174, 0, []),
    (.nop, 176, 0, []),
    (.nop, 179, 0, []),
    (.nop, 182, 0, []),
    (.nop, 183, 0, []),
    (.nop, 186, 0, []),
    (.nop, 187, 0, []),
    (.nop, 188, 0, []),
    (.nop, 191, 0, []),
    (.nop, 194, 0, []),
    (.nop, 195, 0, []),
    (.nop, 197, 0, []),
    (.nop, 198, 0, []),
    (.nop, 199, 0, []),
    (.nop, 202, 0, []),
    (.nop, 205, 0, []),
    (.nop, 206, 0, []),
    (.nop, 209, 0, []),
    (.nop, 210, 0, []),
    (.nop, 211, 0, []),
    (.nop, 214, 0, []),
    (.nop, 217, 0, []),
    (.nop, 218, 0, []),
    (.nop, 219, 0, []),
    (.nop, 220, 0, []),
    (.nop, 222, 0, []),
    (.nop, 225, 0, []),
    (.nop, 228, 0, []),
    (.nop, 230, 0, []),
    (.nop, 231, 0, []),
    (.nop, 232, 0, []),
    (.nop, 235, 0, []),
    (.nop, 236, 0, []),
    (.nop, 237, 0, []),
    (.nop, 238, 0, []),
    (.nop, 239, 0, []),
    (.nop, 242, 0, []),
    (.nop, 243, 0, []),
    (.nop, 246, 0, []),
    (.nop, 248, 0, []),
    (.nop, 250, 0, []),
    (.nop, 253, 0, []),
    (.nop, 256, 0, []),
    (.nop, 257, 0, []),
    (.nop, 258, 0, []),
    (.nop, 259, 0, []),
    (.nop, 261, 0, []),
    (.nop, 264, 0, []),
    (.nop, 265, 0, []),
    (.nop, 268, 0, []),
    (.nop, 269, 0, []),
    (.nop, 270, 0, []),
    (.nop, 271, 0, []),
    (.nop, 272, 0, []),
    (.nop, 275, 0, []),
    (.nop, 277, 0, []),
    (.nop, 280, 0, []),
    (.nop, 281, 0, []),
    (.nop, 282, 0, []),
    (.nop, 284, 0, []),
    (.nop, 287, 0, []),
    (.nop, 290, 0, []),
    (.nop, 291, 0, []),
    (.nop, 294, 0, []),
    (.nop, 295, 0, []),
    (.nop, 296, 0, []),
    (.nop, 299, 0, []),
    (.nop, 302, 0, []),
    (.nop, 303, 0, []),
    (.nop, 306, 0, []),
    (.nop, 307, 0, []),
    (.nop, 308, 0, []),
    (.nop, 311, 0, []),
    (.nop, 314, 0, []),
    (.nop, 315, 0, []),
    (.nop, 318, 0, []),
    (.nop, 319, 0, []),
    (.nop, 320, 0, []),
    (.nop, 321, 0, []),
    (.nop, 322, 0, []),
    (.nop, 325, 0, []),
    (.nop, 326, 0, []),
    (.nop, 329, 0, []),
    (.nop, 330, 0, []),
    (.nop, 333, 0, []),
    (.nop, 334, 0, []),
    (.nop, 335, 0, []),
    (.nop, 338, 0, []),
    (.nop, 341, 0, []),
    (.nop, 343, 0, []),
    (.nop, 346, 0, []),
    (.nop, 348, 0, []),
    (.nop, 349, 0, []),
    (.nop, 350, 0, []),
    (.nop, 353, 0, []),
    (.nop, 354, 0, []),
    (.nop, 355, 0, []),
    (.nop, 356, 0, []),
    (.nop, 359, 0, []),
    (.goto (-358), 362, 3, [4]),
    (.return_, 365, 1, [])])
/-- MacrocosmModel$Reading.tellsAll(LMacrocosmModel$Node;LMacrocosmModel$Bound;)J -/
def zM_135 : zM := (⟨"MacrocosmModel$Reading", "tellsAll", "(LMacrocosmModel$Node;LMacrocosmModel$Bound;)J"⟩, prog_18_method_42_code, 9, some (.long), [], 0, 2, 13, [1750, 125, 1749], [(.aload_n 2, 0, 1, []),
    (.astore_n 3, 1, 1, []),
    (.lconst 0, 2, 1, []),
    (.lstore 4, 3, 2, []),
    (.iconst 1, 5, 1, []),
    (.istore 6, 6, 2, []),
    (.aload_n 1, 8, 1, []),
    (.astore 7, 9, 2, []),
    (.aload 7, 11, 2, []),
    (.ifnull (180), 13, 3, [99]),
    (.nop, 16, 0, []),
    (.nop, 17, 0, []),
    (.nop, 20, 0, []),
    (.nop, 23, 0, []),
    (.nop, 25, 0, []),
    (.nop, 28, 0, []),
    (.nop, 30, 0, []),
    (.nop, 33, 0, []),
    (.nop, 36, 0, []),
    (.nop, 37, 0, []),
    (.nop, 38, 0, []),
    (.nop, 40, 0, []),
    (.nop, 43, 0, []),
    (.nop, 44, 0, []),
    (.nop, 45, 0, []),
    (.nop, 46, 0, []),
    (.nop, 47, 0, []),
    (.nop, 50, 0, []),
    (.nop, 51, 0, []),
    (.nop, 54, 0, []),
    (.nop, 56, 0, []),
    (.nop, 59, 0, []),
    (.nop, 60, 0, []),
    (.nop, 63, 0, []),
    (.nop, 65, 0, []),
    (.nop, 68, 0, []),
    (.nop, 69, 0, []),
    (.nop, 70, 0, []),
    (.nop, 72, 0, []),
    (.nop, 73, 0, []),
    (.nop, 75, 0, []),
    (.nop, 77, 0, []),
    (.nop, 80, 0, []),
    (.nop, 82, 0, []),
    (.nop, 85, 0, []),
    (.nop, 86, 0, []),
    (.nop, 88, 0, []),
    (.nop, 89, 0, []),
    (.nop, 92, 0, []),
    (.nop, 94, 0, []),
    (.nop, 97, 0, []),
    (.nop, 98, 0, []),
    (.nop, 101, 0, []),
    (.nop, 104, 0, []),
    (.nop, 105, 0, []),
    (.nop, 108, 0, []),
    (.nop, 110, 0, []),
    (.nop, 111, 0, []),
    (.nop, 112, 0, []),
    (.nop, 115, 0, []),
    (.nop, 116, 0, []),
    (.nop, 117, 0, []),
    (.nop, 120, 0, []),
    (.nop, 121, 0, []),
    (.nop, 124, 0, []),
    (.nop, 127, 0, []),
    (.nop, 130, 0, []),
    (.nop, 131, 0, []),
    (.nop, 132, 0, []),
    (.nop, 134, 0, []),
    (.nop, 137, 0, []),
    (.nop, 138, 0, []),
    (.nop, 141, 0, []),
    (.nop, 143, 0, []),
    (.nop, 146, 0, []),
    (.nop, 147, 0, []),
    (.nop, 148, 0, []),
    (.nop, 151, 0, []),
    (.nop, 153, 0, []),
    (.nop, 154, 0, []),
    (.nop, 156, 0, []),
    (.nop, 159, 0, []),
    (.nop, 160, 0, []),
    (.nop, 163, 0, []),
    (.nop, 164, 0, []),
    (.nop, 167, 0, []),
    (.nop, 168, 0, []),
    (.nop, 169, 0, []),
    (.nop, 171, 0, []),
    (.nop, 174, 0, []),
    (.nop, 175, 0, []),
    (.nop, 177, 0, []),
    (.nop, 178, 0, []),
    (.nop, 179, 0, []),
    (.nop, 182, 0, []),
    (.nop, 183, 0, []),
    (.nop, 185, 0, []),
    (.nop, 188, 0, []),
    (.nop, 190, 0, []),
    (.lload 4, 193, 2, []),
    (.lreturn, 195, 1, [])])
/-- MacrocosmModel$Reading.token(IIJ)V -/
def zM_136 : zM := (⟨"MacrocosmModel$Reading", "token", "(IIJ)V"⟩, prog_18_method_7_code, 5, none, [], 0, 3, 13, [1520, 125, 1519], [(.aload_n 0, 0, 1, []),
    (.getfield 33, 1, 3, [13, 2, 1948]),
    (.aload_n 0, 4, 1, []),
    (.getfield 85, 5, 3, [13, 7, 1957]),
    (.iload_n 1, 8, 1, []),
    (.iastore, 9, 1, []),
    (.aload_n 0, 10, 1, []),
    (.getfield 36, 11, 3, [13, 3, 1950]),
    (.aload_n 0, 14, 1, []),
    (.getfield 85, 15, 3, [13, 7, 1957]),
    (.iload_n 2, 18, 1, []),
    (.iastore, 19, 1, []),
    (.aload_n 0, 20, 1, []),
    (.getfield 39, 21, 3, [13, 4, 1952]),
    (.aload_n 0, 24, 1, []),
    (.getfield 85, 25, 3, [13, 7, 1957]),
    (.lload_n 3, 28, 1, []),
    (.lastore, 29, 1, []),
    (.aload_n 0, 30, 1, []),
    (.getfield 42, 31, 3, [13, 5, 1954]),
    (.aload_n 0, 34, 1, []),
    (.getfield 85, 35, 3, [13, 7, 1957]),
    (.iconst (-1), 38, 1, []),
    (.iastore, 39, 1, []),
    (.iload_n 1, 40, 1, []),
    (.iconst 1, 41, 1, []),
    (.if_icmp .le (13), 42, 3, [33]),
    (.nop, 45, 0, []),
    (.nop, 46, 0, []),
    (.nop, 47, 0, []),
    (.nop, 50, 0, []),
    (.nop, 51, 0, []),
    (.nop, 52, 0, []),
    (.return_, 55, 1, [])])
/-- MacrocosmModel$Reading.tokenAt(I)I -/
def zM_137 : zM := (⟨"MacrocosmModel$Reading", "tokenAt", "(I)I"⟩, prog_18_method_46_code, 3, some (.int), [], 0, 1, 13, [2077, 125, 2075], [(.iconst 0, 0, 1, []),
    (.istore_n 2, 1, 1, []),
    (.iload_n 2, 2, 1, []),
    (.aload_n 0, 3, 1, []),
    (.getfield 85, 4, 3, [13, 7, 1957]),
    (.if_icmp .ge (21), 7, 3, [16]),
    (.nop, 10, 0, []),
    (.nop, 11, 0, []),
    (.nop, 14, 0, []),
    (.nop, 15, 0, []),
    (.nop, 16, 0, []),
    (.nop, 17, 0, []),
    (.nop, 20, 0, []),
    (.nop, 21, 0, []),
    (.nop, 22, 0, []),
    (.nop, 25, 0, []),
    (.iconst (-1), 28, 1, []),
    (.ireturn, 29, 1, [])])
/-- MacrocosmModel$Reading.usesOf(I)I -/
def zM_138 : zM := (⟨"MacrocosmModel$Reading", "usesOf", "(I)I"⟩, prog_18_method_47_code, 4, some (.int), [], 0, 1, 13, [2085, 125, 2083], [(.iconst 0, 0, 1, []),
    (.istore_n 2, 1, 1, []),
    (.iconst 0, 2, 1, []),
    (.istore_n 3, 3, 1, []),
    (.iload_n 3, 4, 1, []),
    (.aload_n 0, 5, 1, []),
    (.getfield 85, 6, 3, [13, 7, 1957]),
    (.if_icmp .ge (32), 9, 3, [25]),
    (.nop, 12, 0, []),
    (.nop, 13, 0, []),
    (.nop, 14, 0, []),
    (.nop, 17, 0, []),
    (.nop, 18, 0, []),
    (.nop, 19, 0, []),
    (.nop, 22, 0, []),
    (.nop, 23, 0, []),
    (.nop, 24, 0, []),
    (.nop, 25, 0, []),
    (.nop, 28, 0, []),
    (.nop, 29, 0, []),
    (.nop, 32, 0, []),
    (.nop, 33, 0, []),
    (.nop, 34, 0, []),
    (.nop, 35, 0, []),
    (.nop, 38, 0, []),
    (.iload_n 2, 41, 1, []),
    (.ireturn, 42, 1, [])])
/-- java/lang/AbstractStringBuilder.<init>(I)V -/
def zM_139 : zM := (⟨"java/lang/AbstractStringBuilder", "<init>", "(I)V"⟩, prog_20_method_2_code, 2, none, [], 2, 1, 99, [1489, 126, 1488], [(.aload_n 0, 0, 1, []),
    (.invokespecial 3, 1, 3, [1490]),
    (.getstatic 18, 4, 3, [1491]),
    (.ifCond .eq (18), 7, 3, [12]),
    (.aload_n 0, 10, 1, []),
    (.iload_n 1, 11, 1, []),
    (.newarray .byte, 12, 2, [3, 1115]),
    (.putfield 15, 14, 3, [14, 0, 1499]),
    (.aload_n 0, 17, 1, []),
    (.iconst 0, 18, 1, []),
    (.putfield 22, 19, 3, [14, 1, 1500]),
    (.goto (16), 22, 3, [19]),
    (.nop, 25, 0, []),
    (.nop, 26, 0, []),
    (.nop, 27, 0, []),
    (.nop, 30, 0, []),
    (.nop, 33, 0, []),
    (.nop, 34, 0, []),
    (.nop, 35, 0, []),
    (.return_, 38, 1, [])])
/-- java/lang/AbstractStringBuilder.length()I -/
def zM_140 : zM := (⟨"java/lang/AbstractStringBuilder", "length", "()I"⟩, prog_20_method_6_code, 1, some (.int), [], 0, 0, 99, [2039, 126, 2038, 2116, 1510], [(.aload_n 0, 0, 1, []),
    (.getfield 79, 1, 3, [14, 3, 1501]),
    (.ireturn, 4, 1, [])])
/-- java/lang/StringBuilder.<init>()V -/
def zM_141 : zM := (⟨"java/lang/StringBuilder", "<init>", "()V"⟩, prog_32_method_1_code, 1, none, [], 2, 0, 14, [1486, 127, 1485], [(.aload_n 0, 0, 1, []),
    (.bipush (16), 1, 2, []),
    (.invokespecial 1, 3, 3, [139, 1487, 0]),
    (.return_, 6, 1, [])])
/-- java/lang/StringBuilder.length()I -/
def zM_142 : zM := (⟨"java/lang/StringBuilder", "length", "()I"⟩, prog_32_method_93_code, 1, some (.int), [], 0, 0, 14, [2036, 127, 2034], [(.aload_n 0, 0, 1, []),
    (.invokespecial 343, 1, 3, [140, 2037, 0]),
    (.ireturn, 4, 1, [])])
def zM_law : zM := (⟨"MacrocosmLaw", "law", "([I)Z"⟩, code, 8, some .boolean, [], 1, 1, 99, [], [(.new 8, 0, 3, [11, 138]),
    (.dup, 3, 1, []),
    (.invokespecial 61, 4, 3, [3, 140, 0]),
    (.astore_n 1, 7, 1, []),
    (.new 62, 8, 3, [12, 1414]),
    (.dup, 11, 1, []),
    (.invokespecial 64, 12, 3, [105, 1416, 0]),
    (.astore_n 2, 15, 1, []),
    (.iconst 1, 16, 1, []),
    (.newarray .long, 17, 2, [2, 499]),
    (.astore_n 3, 19, 1, []),
    (.iconst 0, 20, 1, []),
    (.istore 4, 21, 2, []),
    (.iload 4, 23, 2, []),
    (.aload_n 0, 25, 1, []),
    (.arraylength, 26, 1, []),
    (.iconst 3, 27, 1, []),
    (.isub, 28, 1, []),
    (.if_icmp .gt (891), 29, 3, [512]),
    (.aload_n 0, 32, 1, []),
    (.iload 4, 33, 2, []),
    (.iaload, 35, 1, []),
    (.bipush (31), 36, 2, []),
    (.iand, 38, 1, []),
    (.tableswitch (875) (0) (17) #[85, 143, 213, 269, 282, 295, 351, 364, 377, 420, 463, 507, 551, 607, 620, 676, 732, 807], 39, 85, [510, 25, 62, 109, 144, 151, 158, 193, 200, 207, 231, 255, 280, 305, 340, 347, 382, 417, 465]),
    (.aload_n 1, 124, 1, []),
    (.aload_n 0, 125, 1, []),
    (.iload 4, 126, 2, []),
    (.iconst 1, 128, 1, []),
    (.iadd, 129, 1, []),
    (.iaload, 130, 1, []),
    (.i2c, 131, 1, []),
    (.aload_n 3, 132, 1, []),
    (.invokestatic 65, 133, 3, [101, 1128, 0]),
    (.istore 5, 136, 2, []),
    (.aload_n 2, 138, 1, []),
    (.aload_n 0, 139, 1, []),
    (.iload 4, 140, 2, []),
    (.iconst 1, 142, 1, []),
    (.iadd, 143, 1, []),
    (.iaload, 144, 1, []),
    (.i2c, 145, 1, []),
    (.invokevirtual 70, 146, 3, [126, 1437, 1439]),
    (.istore 6, 149, 2, []),
    (.aload_n 2, 151, 1, []),
    (.invokevirtual 71, 152, 3, [124, 1433, 1435]),
    (.iload 5, 155, 2, []),
    (.if_icmp .eq (5), 157, 3, [50]),
    (.nop, 160, 0, []),
    (.nop, 161, 0, []),
    (.iload 5, 162, 2, []),
    (.ifCond .ne (15), 164, 3, [61]),
    (.aload_n 3, 167, 1, []),
    (.iconst 0, 168, 1, []),
    (.laload, 169, 1, []),
    (.iload 6, 170, 2, []),
    (.i2l, 172, 1, []),
    (.lcmp, 173, 1, []),
    (.ifCond .eq (5), 174, 3, [61]),
    (.nop, 177, 0, []),
    (.nop, 178, 0, []),
    (.goto (735), 179, 3, [510]),
    (.aload_n 1, 182, 1, []),
    (.aload_n 0, 183, 1, []),
    (.iload 4, 184, 2, []),
    (.iconst 1, 186, 1, []),
    (.iadd, 187, 1, []),
    (.iaload, 188, 1, []),
    (.aload_n 0, 189, 1, []),
    (.iload 4, 190, 2, []),
    (.iconst 2, 192, 1, []),
    (.iadd, 193, 1, []),
    (.iaload, 194, 1, []),
    (.i2c, 195, 1, []),
    (.aload_n 3, 196, 1, []),
    (.invokestatic 74, 197, 3, [97, 1216, 0]),
    (.istore 5, 200, 2, []),
    (.aload_n 2, 202, 1, []),
    (.aload_n 0, 203, 1, []),
    (.iload 4, 204, 2, []),
    (.iconst 1, 206, 1, []),
    (.iadd, 207, 1, []),
    (.iaload, 208, 1, []),
    (.aload_n 0, 209, 1, []),
    (.iload 4, 210, 2, []),
    (.iconst 2, 212, 1, []),
    (.iadd, 213, 1, []),
    (.iaload, 214, 1, []),
    (.i2c, 215, 1, []),
    (.invokevirtual 77, 216, 3, [114, 1445, 1447]),
    (.istore 6, 219, 2, []),
    (.aload_n 2, 221, 1, []),
    (.invokevirtual 71, 222, 3, [124, 1433, 1435]),
    (.iload 5, 225, 2, []),
    (.if_icmp .eq (5), 227, 3, [97]),
    (.nop, 230, 0, []),
    (.nop, 231, 0, []),
    (.iload 5, 232, 2, []),
    (.ifCond .ne (15), 234, 3, [108]),
    (.aload_n 3, 237, 1, []),
    (.iconst 0, 238, 1, []),
    (.laload, 239, 1, []),
    (.iload 6, 240, 2, []),
    (.i2l, 242, 1, []),
    (.lcmp, 243, 1, []),
    (.ifCond .eq (5), 244, 3, [108]),
    (.nop, 247, 0, []),
    (.nop, 248, 0, []),
    (.goto (665), 249, 3, [510]),
    (.aload_n 1, 252, 1, []),
    (.aload_n 0, 253, 1, []),
    (.iload 4, 254, 2, []),
    (.iconst 1, 256, 1, []),
    (.iadd, 257, 1, []),
    (.iaload, 258, 1, []),
    (.aload_n 3, 259, 1, []),
    (.invokestatic 78, 260, 3, [93, 1240, 0]),
    (.istore 5, 263, 2, []),
    (.aload_n 2, 265, 1, []),
    (.aload_n 0, 266, 1, []),
    (.iload 4, 267, 2, []),
    (.iconst 1, 269, 1, []),
    (.iadd, 270, 1, []),
    (.iaload, 271, 1, []),
    (.invokevirtual 81, 272, 3, [108, 1452, 1454]),
    (.istore 6, 275, 2, []),
    (.aload_n 2, 277, 1, []),
    (.invokevirtual 71, 278, 3, [124, 1433, 1435]),
    (.iload 5, 281, 2, []),
    (.if_icmp .eq (5), 283, 3, [132]),
    (.nop, 286, 0, []),
    (.nop, 287, 0, []),
    (.iload 5, 288, 2, []),
    (.ifCond .ne (15), 290, 3, [143]),
    (.nop, 293, 0, []),
    (.nop, 294, 0, []),
    (.nop, 295, 0, []),
    (.nop, 296, 0, []),
    (.nop, 298, 0, []),
    (.nop, 299, 0, []),
    (.nop, 300, 0, []),
    (.nop, 303, 0, []),
    (.nop, 304, 0, []),
    (.goto (609), 305, 3, [510]),
    (.aload_n 1, 308, 1, []),
    (.invokevirtual 82, 309, 3, [5, 534, 536]),
    (.aload_n 2, 312, 1, []),
    (.invokevirtual 85, 313, 3, [107, 1456, 1458]),
    (.if_icmp .eq (598), 316, 3, [510]),
    (.nop, 319, 0, []),
    (.nop, 320, 0, []),
    (.aload_n 1, 321, 1, []),
    (.invokevirtual 86, 322, 3, [14, 546, 548]),
    (.aload_n 2, 325, 1, []),
    (.invokevirtual 89, 326, 3, [118, 1460, 1462]),
    (.if_icmp .eq (585), 329, 3, [510]),
    (.nop, 332, 0, []),
    (.nop, 333, 0, []),
    (.aload_n 1, 334, 1, []),
    (.aload_n 0, 335, 1, []),
    (.iload 4, 336, 2, []),
    (.iconst 1, 338, 1, []),
    (.iadd, 339, 1, []),
    (.iaload, 340, 1, []),
    (.aload_n 3, 341, 1, []),
    (.invokestatic 90, 342, 3, [92, 1253, 0]),
    (.istore 5, 345, 2, []),
    (.aload_n 2, 347, 1, []),
    (.aload_n 0, 348, 1, []),
    (.iload 4, 349, 2, []),
    (.iconst 1, 351, 1, []),
    (.iadd, 352, 1, []),
    (.iaload, 353, 1, []),
    (.invokevirtual 92, 354, 3, [106, 1464, 1466]),
    (.istore 6, 357, 2, []),
    (.aload_n 2, 359, 1, []),
    (.invokevirtual 71, 360, 3, [124, 1433, 1435]),
    (.iload 5, 363, 2, []),
    (.if_icmp .eq (5), 365, 3, [181]),
    (.nop, 368, 0, []),
    (.nop, 369, 0, []),
    (.iload 5, 370, 2, []),
    (.ifCond .ne (15), 372, 3, [192]),
    (.nop, 375, 0, []),
    (.nop, 376, 0, []),
    (.nop, 377, 0, []),
    (.nop, 378, 0, []),
    (.nop, 380, 0, []),
    (.nop, 381, 0, []),
    (.nop, 382, 0, []),
    (.nop, 385, 0, []),
    (.nop, 386, 0, []),
    (.goto (527), 387, 3, [510]),
    (.aload_n 1, 390, 1, []),
    (.invokevirtual 93, 391, 3, [9, 550, 552]),
    (.aload_n 2, 394, 1, []),
    (.invokevirtual 96, 395, 3, [111, 1468, 1470]),
    (.if_icmp .eq (516), 398, 3, [510]),
    (.nop, 401, 0, []),
    (.nop, 402, 0, []),
    (.aload_n 1, 403, 1, []),
    (.invokevirtual 97, 404, 3, [10, 1116, 1118]),
    (.aload_n 2, 407, 1, []),
    (.invokevirtual 100, 408, 3, [112, 2017, 2019]),
    (.if_icmp .eq (503), 411, 3, [510]),
    (.nop, 414, 0, []),
    (.nop, 415, 0, []),
    (.aload_n 1, 416, 1, []),
    (.aload_n 3, 417, 1, []),
    (.invokestatic 101, 418, 3, [103, 1260, 0]),
    (.istore 5, 421, 2, []),
    (.aload_n 2, 423, 1, []),
    (.invokevirtual 104, 424, 3, [128, 2021, 2023]),
    (.lstore 6, 427, 2, []),
    (.aload_n 2, 429, 1, []),
    (.invokevirtual 71, 430, 3, [124, 1433, 1435]),
    (.iload 5, 433, 2, []),
    (.if_icmp .eq (5), 435, 3, [220]),
    (.nop, 438, 0, []),
    (.nop, 439, 0, []),
    (.iload 5, 440, 2, []),
    (.ifCond .ne (14), 442, 3, [230]),
    (.aload_n 3, 445, 1, []),
    (.iconst 0, 446, 1, []),
    (.laload, 447, 1, []),
    (.lload 6, 448, 2, []),
    (.lcmp, 450, 1, []),
    (.ifCond .eq (5), 451, 3, [230]),
    (.nop, 454, 0, []),
    (.nop, 455, 0, []),
    (.goto (458), 456, 3, [510]),
    (.aload_n 1, 459, 1, []),
    (.aload_n 3, 460, 1, []),
    (.invokestatic 105, 461, 3, [104, 1272, 0]),
    (.istore 5, 464, 2, []),
    (.aload_n 2, 466, 1, []),
    (.invokevirtual 107, 467, 3, [129, 2029, 2031]),
    (.lstore 6, 470, 2, []),
    (.aload_n 2, 472, 1, []),
    (.invokevirtual 71, 473, 3, [124, 1433, 1435]),
    (.iload 5, 476, 2, []),
    (.if_icmp .eq (5), 478, 3, [244]),
    (.nop, 481, 0, []),
    (.nop, 482, 0, []),
    (.iload 5, 483, 2, []),
    (.ifCond .ne (14), 485, 3, [254]),
    (.aload_n 3, 488, 1, []),
    (.iconst 0, 489, 1, []),
    (.laload, 490, 1, []),
    (.lload 6, 491, 2, []),
    (.lcmp, 493, 1, []),
    (.ifCond .eq (5), 494, 3, [254]),
    (.nop, 497, 0, []),
    (.nop, 498, 0, []),
    (.goto (415), 499, 3, [510]),
    (.aload_n 1, 502, 1, []),
    (.aload_n 3, 503, 1, []),
    (.invokestatic 108, 504, 3, [99, 1279, 0]),
    (.istore 5, 507, 2, []),
    (.aload_n 2, 509, 1, []),
    (.invokevirtual 110, 510, 3, [121, 2050, 2052]),
    (.istore 6, 513, 2, []),
    (.aload_n 2, 515, 1, []),
    (.invokevirtual 71, 516, 3, [124, 1433, 1435]),
    (.iload 5, 519, 2, []),
    (.if_icmp .eq (5), 521, 3, [268]),
    (.nop, 524, 0, []),
    (.nop, 525, 0, []),
    (.iload 5, 526, 2, []),
    (.ifCond .ne (15), 528, 3, [279]),
    (.aload_n 3, 531, 1, []),
    (.iconst 0, 532, 1, []),
    (.laload, 533, 1, []),
    (.iload 6, 534, 2, []),
    (.i2l, 536, 1, []),
    (.lcmp, 537, 1, []),
    (.ifCond .eq (5), 538, 3, [279]),
    (.nop, 541, 0, []),
    (.nop, 542, 0, []),
    (.goto (371), 543, 3, [510]),
    (.aload_n 1, 546, 1, []),
    (.aload_n 3, 547, 1, []),
    (.invokestatic 111, 548, 3, [94, 1290, 0]),
    (.istore 5, 551, 2, []),
    (.aload_n 2, 553, 1, []),
    (.invokevirtual 113, 554, 3, [109, 2054, 2056]),
    (.istore 6, 557, 2, []),
    (.aload_n 2, 559, 1, []),
    (.invokevirtual 71, 560, 3, [124, 1433, 1435]),
    (.iload 5, 563, 2, []),
    (.if_icmp .eq (5), 565, 3, [293]),
    (.nop, 568, 0, []),
    (.nop, 569, 0, []),
    (.iload 5, 570, 2, []),
    (.ifCond .ne (15), 572, 3, [304]),
    (.aload_n 3, 575, 1, []),
    (.iconst 0, 576, 1, []),
    (.laload, 577, 1, []),
    (.iload 6, 578, 2, []),
    (.i2l, 580, 1, []),
    (.lcmp, 581, 1, []),
    (.ifCond .eq (5), 582, 3, [304]),
    (.nop, 585, 0, []),
    (.nop, 586, 0, []),
    (.goto (327), 587, 3, [510]),
    (.aload_n 1, 590, 1, []),
    (.aload_n 0, 591, 1, []),
    (.iload 4, 592, 2, []),
    (.iconst 1, 594, 1, []),
    (.iadd, 595, 1, []),
    (.iaload, 596, 1, []),
    (.aload_n 3, 597, 1, []),
    (.invokestatic 114, 598, 3, [95, 1297, 0]),
    (.istore 5, 601, 2, []),
    (.aload_n 2, 603, 1, []),
    (.aload_n 0, 604, 1, []),
    (.iload 4, 605, 2, []),
    (.iconst 1, 607, 1, []),
    (.iadd, 608, 1, []),
    (.iaload, 609, 1, []),
    (.invokevirtual 116, 610, 3, [110, 2058, 2060]),
    (.istore 6, 613, 2, []),
    (.aload_n 2, 615, 1, []),
    (.invokevirtual 71, 616, 3, [124, 1433, 1435]),
    (.iload 5, 619, 2, []),
    (.if_icmp .eq (5), 621, 3, [328]),
    (.nop, 624, 0, []),
    (.nop, 625, 0, []),
    (.iload 5, 626, 2, []),
    (.ifCond .ne (15), 628, 3, [339]),
    (.nop, 631, 0, []),
    (.nop, 632, 0, []),
    (.nop, 633, 0, []),
    (.nop, 634, 0, []),
    (.nop, 636, 0, []),
    (.nop, 637, 0, []),
    (.nop, 638, 0, []),
    (.nop, 641, 0, []),
    (.nop, 642, 0, []),
    (.goto (271), 643, 3, [510]),
    (.aload_n 1, 646, 1, []),
    (.invokevirtual 117, 647, 3, [19, 1120, 1122]),
    (.aload_n 2, 650, 1, []),
    (.invokevirtual 120, 651, 3, [125, 2062, 2064]),
    (.if_icmp .eq (260), 654, 3, [510]),
    (.nop, 657, 0, []),
    (.nop, 658, 0, []),
    (.aload_n 1, 659, 1, []),
    (.aload_n 0, 660, 1, []),
    (.iload 4, 661, 2, []),
    (.iconst 1, 663, 1, []),
    (.iadd, 664, 1, []),
    (.iaload, 665, 1, []),
    (.aload_n 3, 666, 1, []),
    (.invokestatic 121, 667, 3, [98, 1304, 0]),
    (.istore 5, 670, 2, []),
    (.aload_n 2, 672, 1, []),
    (.aload_n 0, 673, 1, []),
    (.iload 4, 674, 2, []),
    (.iconst 1, 676, 1, []),
    (.iadd, 677, 1, []),
    (.iaload, 678, 1, []),
    (.invokevirtual 123, 679, 3, [119, 2066, 2068]),
    (.istore 6, 682, 2, []),
    (.aload_n 2, 684, 1, []),
    (.invokevirtual 71, 685, 3, [124, 1433, 1435]),
    (.iload 5, 688, 2, []),
    (.if_icmp .eq (5), 690, 3, [370]),
    (.nop, 693, 0, []),
    (.nop, 694, 0, []),
    (.iload 5, 695, 2, []),
    (.ifCond .ne (15), 697, 3, [381]),
    (.aload_n 3, 700, 1, []),
    (.iconst 0, 701, 1, []),
    (.laload, 702, 1, []),
    (.iload 6, 703, 2, []),
    (.i2l, 705, 1, []),
    (.lcmp, 706, 1, []),
    (.ifCond .eq (5), 707, 3, [381]),
    (.nop, 710, 0, []),
    (.nop, 711, 0, []),
    (.goto (202), 712, 3, [510]),
    (.aload_n 1, 715, 1, []),
    (.aload_n 0, 716, 1, []),
    (.iload 4, 717, 2, []),
    (.iconst 1, 719, 1, []),
    (.iadd, 720, 1, []),
    (.iaload, 721, 1, []),
    (.aload_n 3, 722, 1, []),
    (.invokestatic 124, 723, 3, [102, 1327, 0]),
    (.istore 5, 726, 2, []),
    (.aload_n 2, 728, 1, []),
    (.aload_n 0, 729, 1, []),
    (.iload 4, 730, 2, []),
    (.iconst 1, 732, 1, []),
    (.iadd, 733, 1, []),
    (.iaload, 734, 1, []),
    (.invokevirtual 126, 735, 3, [127, 2078, 2080]),
    (.istore 6, 738, 2, []),
    (.aload_n 2, 740, 1, []),
    (.invokevirtual 71, 741, 3, [124, 1433, 1435]),
    (.iload 5, 744, 2, []),
    (.if_icmp .eq (5), 746, 3, [405]),
    (.nop, 749, 0, []),
    (.nop, 750, 0, []),
    (.iload 5, 751, 2, []),
    (.ifCond .ne (15), 753, 3, [416]),
    (.aload_n 3, 756, 1, []),
    (.iconst 0, 757, 1, []),
    (.laload, 758, 1, []),
    (.iload 6, 759, 2, []),
    (.i2l, 761, 1, []),
    (.lcmp, 762, 1, []),
    (.ifCond .eq (5), 763, 3, [416]),
    (.nop, 766, 0, []),
    (.nop, 767, 0, []),
    (.goto (146), 768, 3, [510]),
    (.aload_n 1, 771, 1, []),
    (.aload_n 0, 772, 1, []),
    (.iload 4, 773, 2, []),
    (.iconst 1, 775, 1, []),
    (.iadd, 776, 1, []),
    (.iaload, 777, 1, []),
    (.aload_n 0, 778, 1, []),
    (.iload 4, 779, 2, []),
    (.iconst 2, 781, 1, []),
    (.iadd, 782, 1, []),
    (.iaload, 783, 1, []),
    (.aload_n 3, 784, 1, []),
    (.invokestatic 127, 785, 3, [100, 1342, 0]),
    (.istore 5, 788, 2, []),
    (.aload_n 2, 790, 1, []),
    (.aload_n 0, 791, 1, []),
    (.iload 4, 792, 2, []),
    (.iconst 1, 794, 1, []),
    (.iadd, 795, 1, []),
    (.iaload, 796, 1, []),
    (.aload_n 0, 797, 1, []),
    (.iload 4, 798, 2, []),
    (.iconst 2, 800, 1, []),
    (.iadd, 801, 1, []),
    (.iaload, 802, 1, []),
    (.invokevirtual 130, 803, 3, [123, 2086, 2088]),
    (.istore 6, 806, 2, []),
    (.aload_n 2, 808, 1, []),
    (.invokevirtual 71, 809, 3, [124, 1433, 1435]),
    (.iload 5, 812, 2, []),
    (.if_icmp .eq (5), 814, 3, [450]),
    (.nop, 817, 0, []),
    (.nop, 818, 0, []),
    (.iload 5, 819, 2, []),
    (.ifCond .ne (22), 821, 3, [464]),
    (.aload_n 3, 824, 1, []),
    (.iconst 0, 825, 1, []),
    (.laload, 826, 1, []),
    (.iload 6, 827, 2, []),
    (.ifCond .eq (7), 829, 3, [459]),
    (.nop, 832, 0, []),
    (.nop, 833, 0, []),
    (.lconst 0, 836, 1, []),
    (.lcmp, 837, 1, []),
    (.ifCond .eq (5), 838, 3, [464]),
    (.nop, 841, 0, []),
    (.nop, 842, 0, []),
    (.goto (71), 843, 3, [510]),
    (.aload_n 1, 846, 1, []),
    (.aload_n 0, 847, 1, []),
    (.iload 4, 848, 2, []),
    (.iconst 1, 850, 1, []),
    (.iadd, 851, 1, []),
    (.iaload, 852, 1, []),
    (.aload_n 0, 853, 1, []),
    (.iload 4, 854, 2, []),
    (.iconst 2, 856, 1, []),
    (.iadd, 857, 1, []),
    (.iaload, 858, 1, []),
    (.aload_n 3, 859, 1, []),
    (.invokestatic 131, 860, 3, [96, 1398, 0]),
    (.istore 5, 863, 2, []),
    (.aload_n 2, 865, 1, []),
    (.aload_n 0, 866, 1, []),
    (.iload 4, 867, 2, []),
    (.iconst 1, 869, 1, []),
    (.iadd, 870, 1, []),
    (.iaload, 871, 1, []),
    (.aload_n 0, 872, 1, []),
    (.iload 4, 873, 2, []),
    (.iconst 2, 875, 1, []),
    (.iadd, 876, 1, []),
    (.iaload, 877, 1, []),
    (.invokevirtual 133, 878, 3, [113, 2095, 2097]),
    (.istore 6, 881, 2, []),
    (.aload_n 2, 883, 1, []),
    (.invokevirtual 71, 884, 3, [124, 1433, 1435]),
    (.iload 5, 887, 2, []),
    (.if_icmp .eq (5), 889, 3, [498]),
    (.nop, 892, 0, []),
    (.nop, 893, 0, []),
    (.iload 5, 894, 2, []),
    (.ifCond .ne (15), 896, 3, [509]),
    (.aload_n 3, 899, 1, []),
    (.iconst 0, 900, 1, []),
    (.laload, 901, 1, []),
    (.iload 6, 902, 2, []),
    (.i2l, 904, 1, []),
    (.lcmp, 905, 1, []),
    (.ifCond .eq (5), 906, 3, [509]),
    (.nop, 909, 0, []),
    (.nop, 910, 0, []),
    (.goto (3), 911, 3, [510]),
    (.iinc 4 (3), 914, 3, []),
    (.goto (-894), 917, 3, [13]),
    (.iconst 1, 920, 1, []),
    (.ireturn, 921, 1, [])])
def zp : List zM := [zM_0, zM_1, zM_2, zM_3, zM_4, zM_5, zM_6, zM_7, zM_8, zM_9, zM_10, zM_11, zM_12, zM_13, zM_14, zM_15, zM_16, zM_17, zM_18, zM_19, zM_20, zM_21, zM_22, zM_23, zM_24, zM_25, zM_26, zM_27, zM_28, zM_29, zM_30, zM_31, zM_32, zM_33, zM_34, zM_35, zM_36, zM_37, zM_38, zM_39, zM_40, zM_41, zM_42, zM_43, zM_44, zM_45, zM_46, zM_47, zM_48, zM_49, zM_50, zM_51, zM_52, zM_53, zM_54, zM_55, zM_56, zM_57, zM_58, zM_59, zM_60, zM_61, zM_62, zM_63, zM_64, zM_65, zM_66, zM_67, zM_68, zM_69, zM_70, zM_71, zM_72, zM_73, zM_74, zM_75, zM_76, zM_77, zM_78, zM_79, zM_80, zM_81, zM_82, zM_83, zM_84, zM_85, zM_86, zM_87, zM_88, zM_89, zM_90, zM_91, zM_92, zM_93, zM_94, zM_95, zM_96, zM_97, zM_98, zM_99, zM_100, zM_101, zM_102, zM_103, zM_104, zM_105, zM_106, zM_107, zM_108, zM_109, zM_110, zM_111, zM_112, zM_113, zM_114, zM_115, zM_116, zM_117, zM_118, zM_119, zM_120, zM_121, zM_122, zM_123, zM_124, zM_125, zM_126, zM_127, zM_128, zM_129, zM_130, zM_131, zM_132, zM_133, zM_134, zM_135, zM_136, zM_137, zM_138, zM_139, zM_140, zM_141, zM_142]
def zFw : List Jvm.Cond := [.castable "java/lang/IllegalStateException" "java/lang/IllegalStateException", .declares ⟨"java/lang/RuntimeException", "<init>", "()V"⟩, .declares ⟨"java/lang/RuntimeException", "<init>", "(Ljava/lang/String;)V"⟩, .declares ⟨"java/lang/Exception", "<init>", "()V"⟩, .declares ⟨"java/lang/Exception", "<init>", "(Ljava/lang/String;)V"⟩, .declares ⟨"java/lang/Throwable", "<init>", "()V"⟩, .declares ⟨"java/lang/Throwable", "<init>", "(Ljava/lang/String;)V"⟩, .castable "java/lang/IndexOutOfBoundsException" "java/lang/IndexOutOfBoundsException", .castable "java/lang/IllegalArgumentException" "java/lang/IllegalArgumentException", .fieldLinkNest "MacrocosmModel" 55 "MacrocosmModel$Reading" "expanded" "Ljava/lang/StringBuilder;" "MacrocosmModel", .fieldLinkNest "MacrocosmModel" 41 "MacrocosmModel$Reading" "fault" "I" "MacrocosmModel", .fieldLinkNest "MacrocosmModel" 44 "MacrocosmModel$Reading" "faultPlace" "I" "MacrocosmModel", .fieldLinkNest "MacrocosmModel" 68 "MacrocosmModel$Reading" "parts" "I" "MacrocosmModel", .fieldLinkNest "MacrocosmModel" 71 "MacrocosmModel$Reading" "tokens" "I" "MacrocosmModel", .fieldLinkNest "MacrocosmModel" 51 "MacrocosmModel$Reading" "value" "J" "MacrocosmModel"]
def zFwi : List Nat := [1142, 1143, 1144, 1145, 1146, 1147, 1148, 1226, 1352, 1973, 1961, 1963, 1967, 1958, 1975]
def zStr : List (String × Nat × String) := [("Macrocosm", 85, "no such character"), ("Macrocosm", 76, "no such place"), ("Macrocosm", 161, "nothing of that kind holds"), ("Macrocosm", 138, "no such letter")]
def zStri : List Nat := [1248, 1233, 1405, 1359]
end
section
/-! A RUN OF THE BYTECODE IN LISTS: a value '.ref k' is the k-th cell of the list, '.float u' the u-th unknown int, '.double u' an address that is no cell of the list -/
abbrev zE : Type := (Nat × Nat × List (Nat × Value)) ⊕ (Nat × List Value)
abbrev zL : Type := List (Nat × Value)
abbrev zN : Type := Nat × zL × List Value × List zE × Nat × Nat
abbrev zO : Type := Nat × Option Value × List zE × Nat × Nat
abbrev zF : Type := Option Int32 × List (Int × Int) × Nat × List (Option Int32)
def zcat : Value → Nat
  | .long _ => 2
  | _ => 1
def zisI : Value → Bool
  | .int _ => true
  | .float _ => true
  | _ => false
def zisR : Value → Bool
  | .ref _ => true
  | .null => true
  | .double _ => true
  | _ => false
def zisL : Value → Bool
  | .long _ => true
  | _ => false
def zdbl : Value → Bool
  | .double _ => true
  | _ => false
def zget : zL → Nat → Option Value
  | [], _ => none
  | q :: r, k => match Nat.beq q.1 k with
    | true => some q.2
    | false => zget r k
def zset (i : Nat) (v : Value) (ls : zL) : zL := (i, v) :: ls.filter (fun q => !(q.1 == i) && !(q.1 + 1 == i && zcat q.2 == 2))
def zset2 (i : Nat) (v : Value) (ls : zL) : zL := (i, v) :: ls.filter (fun q => !(q.1 == i) && (!(q.1 == i + 1) && !(q.1 + 1 == i && zcat q.2 == 2)))
def zload (f : Value → Bool) (k ip : Nat) (ls : zL) (st : List Value) (w : List zE) : Option zN := match zget ls k with
  | none => none
  | some v => match f v with
    | true => some (ip + 1, ls, v :: st, w, 0, 0)
    | false => none
def zstore (f : Value → Bool) (nL k ip : Nat) (ls : zL) (st : List Value) (w : List zE) : Option zN := match st with
  | v :: r => match f v && Nat.ble (k + 1) nL with
    | true => some (ip + 1, zset k v ls, r, w, 0, 0)
    | false => none
  | [] => none
def zstore2 (nL k ip : Nat) (ls : zL) (st : List Value) (w : List zE) : Option zN := match st with
  | v :: r => match zisL v && Nat.ble (k + 2) nL with
    | true => some (ip + 1, zset2 k v ls, r, w, 0, 0)
    | false => none
  | [] => none
def zpush (v : Value) (ip : Nat) (ls : zL) (st : List Value) (w : List zE) : Option zN := some (ip + 1, ls, v :: st, w, 0, 0)
/-- bounds of an int -/
def ziv (cf : zF) : Value → Option (Int × Int)
  | .int x => some (x.toInt, x.toInt)
  | .float u => cf.2.1[u.toNat]?
  | _ => none
def zcmpb (c : ClassFile.Cond) (l1 h1 l2 h2 : Int) : Option Bool := match c with
  | .lt => match decide (h1 < l2), decide (h2 ≤ l1) with
    | true, _ => some true
    | false, true => some false
    | _, _ => none
  | .ge => match decide (h2 ≤ l1), decide (h1 < l2) with
    | true, _ => some true
    | false, true => some false
    | _, _ => none
  | .gt => match decide (h2 < l1), decide (h1 ≤ l2) with
    | true, _ => some true
    | false, true => some false
    | _, _ => none
  | .le => match decide (h1 ≤ l2), decide (h2 < l1) with
    | true, _ => some true
    | false, true => some false
    | _, _ => none
  | .eq => match decide (l1 = h1) && (decide (h1 = l2) && decide (l2 = h2)), decide (h1 < l2) || decide (h2 < l1) with
    | true, _ => some true
    | false, true => some false
    | _, _ => none
  | .ne => match decide (l1 = h1) && (decide (h1 = l2) && decide (l2 = h2)), decide (h1 < l2) || decide (h2 < l1) with
    | true, _ => some false
    | false, true => some true
    | _, _ => none
def zcmp (cf : zF) (c : ClassFile.Cond) (a b : Value) : Option Bool := match ziv cf a, ziv cf b with
  | some p, some q => zcmpb c p.1 p.2 q.1 q.2
  | _, _ => none
def zbr (b : Option Bool) (ex : List Nat) (ip : Nat) (ls : zL) (st : List Value) (w : List zE) : Option zN := match b, ex with
  | some true, [t] => some (t, ls, st, w, 0, 0)
  | some false, _ => some (ip + 1, ls, st, w, 0, 0)
  | _, _ => none
def zpc (code : List zI) (ip : Nat) : Nat := match code[ip]? with
  | some e => e.2.1
  | none => 0
def zbin (f : Int32 → Int32 → Int32) (ip : Nat) (ls : zL) (st : List Value) (w : List zE) : Option zN := match st with
  | .int y :: .int x :: r => some (ip + 1, ls, .int (f x y) :: r, w, 0, 0)
  | _ => none
def zjump (b : Bool) (t : Option Nat) (off : Int) (code : List zI) (pc : Nat) (ls : zL) (st : List Value) (w : List zE) : Option zN := match t with
  | none => none
  | some t => match b && decide ((pc : Int) + off = (zpc code t : Int)) with
    | true => some (t, ls, st, w, 0, 0)
    | false => none
def zfty (T : u_T) (k : Nat) : FieldType := (parseFieldDescriptor (T k).2.2.1).getD .int
def zfit (ty : FieldType) : Value → Bool
  | .ref _ => match ty with
    | .object _ => true
    | .array _ => true
    | _ => false
  | .null => match ty with
    | .object _ => true
    | .array _ => true
    | _ => false
  | .long _ => match ty with
    | .long => true
    | _ => false
  | .int x => decide (narrow ty (.int x) = .int x) && fits ty (.int x)
  | _ => false
/-- a field of the object on the stack: its class, its fields -/
def zobj (w : List zE) (a ci : Nat) : Option (List Value) := match w[a]? with
  | some (.inr o) => match Nat.beq o.1 ci with
    | true => some o.2
    | false => none
  | _ => none
def zarr (w : List zE) (a ti : Nat) : Option (Nat × List (Nat × Value)) := match w[a]? with
  | some (.inl o) => match Nat.beq o.1 ti with
    | true => some o.2
    | false => none
  | _ => none
def zrd (d : Value) : List (Nat × Value) → Nat → Value
  | [], _ => d
  | q :: r, k => match Nat.beq q.1 k with
    | true => q.2
    | false => zrd d r k
def zdef (T : u_T) (N : Nat) : List Value := (List.range N).map (fun k => defaultValue (zfty T k))
def zplain : Value → Bool
  | .int _ => true
  | .long _ => true
  | .null => true
  | _ => false
/-- an index of a row of n -/
def zin (i : Int32) (n : Nat) : Bool := decide (0 ≤ i.toInt) && decide (i.toInt < (n : Int))
def zast (ti : Nat) (ip : Nat) (ls : zL) (st : List Value) (w : List zE) : Option zN := match st with
  | v :: .int i :: .ref a :: r => match zarr w a ti with
    | some o => match (if ti = 2 then zisL v else zisI v) && zin i o.1 with
      | true => some (ip + 1, ls, r, w.set a (.inl (ti, o.1, (i.toNatClampNeg, v) :: o.2)), 0, 0)
      | false => none
    | none => none
  | _ => none
def zsum : List Value → Nat
  | [] => 0
  | v :: r => zcat v + zsum r
def z_ldc (ex : List Nat) (ip : Nat) (ls : zL) (st : List Value) (w : List zE) : Option zN := match ex with
  | [_, v] => zpush (.int (Int32.ofNat v)) ip ls st w
  | _ => none
def z_dup (ip : Nat) (ls : zL) (st : List Value) (w : List zE) : Option zN := match st with
  | v :: r => match Nat.beq (zcat v) 1 with
    | true => some (ip + 1, ls, v :: v :: r, w, 0, 0)
    | false => none
  | [] => none
def z_pop (ip : Nat) (ls : zL) (st : List Value) (w : List zE) : Option zN := match st with
  | v :: r => match Nat.beq (zcat v) 1 with
    | true => some (ip + 1, ls, r, w, 0, 0)
    | false => none
  | [] => none
def z_iadd (ip : Nat) (ls : zL) (st : List Value) (w : List zE) : Option zN := match st with
  | .int y :: .int x :: r => some (ip + 1, ls, .int (x + y) :: r, w, 0, 0)
  | .int y :: .float u :: r => match decide (y = 1) && decide (u = 2) with
    | true => some (ip + 1, ls, .float 5 :: r, w, 0, 0)
    | false => none
  | _ => none
def z_iand (cf : zF) (ip : Nat) (ls : zL) (st : List Value) (w : List zE) : Option zN := match st with
  | .int y :: .int x :: r => some (ip + 1, ls, .int (x &&& y) :: r, w, 0, 0)
  | .int y :: .float u :: r => match decide (y = 31) && decide (u = 0) with
    | true => match cf.1 with
      | some v => some (ip + 1, ls, .int v :: r, w, 0, 0)
      | none => some (ip + 1, ls, .float 6 :: r, w, 0, 0)
    | false => none
  | _ => none
def z_iinc (nL i : Nat) (n : Int) (ip : Nat) (ls : zL) (st : List Value) (w : List zE) : Option zN := match zget ls i with
  | some (.int x) => match Nat.ble (i + 1) nL with
    | true => some (ip + 1, zset i (.int (x + Int32.ofInt n)) ls, st, w, 0, 0)
    | false => none
  | _ => none
def z_i2l (ip : Nat) (ls : zL) (st : List Value) (w : List zE) : Option zN := match st with
  | .int x :: r => some (ip + 1, ls, .long x.toInt64 :: r, w, 0, 0)
  | _ => none
def z_i2c (ip : Nat) (ls : zL) (st : List Value) (w : List zE) : Option zN := match st with
  | .int x :: r => some (ip + 1, ls, .int (x.toUInt32 % 65536).toInt32 :: r, w, 0, 0)
  | .float u :: r => match decide (u = 1) with
    | true => some (ip + 1, ls, .float 3 :: r, w, 0, 0)
    | false => match decide (u = 2) with
      | true => some (ip + 1, ls, .float 4 :: r, w, 0, 0)
      | false => none
  | _ => none
def z_lcmp (ip : Nat) (ls : zL) (st : List Value) (w : List zE) : Option zN := match st with
  | .long y :: .long x :: r => some (ip + 1, ls, .int (lg_cmp x y) :: r, w, 0, 0)
  | _ => none
def z_goto (ex : List Nat) (ls : zL) (st : List Value) (w : List zE) : Option zN := match ex with
  | [t] => some (t, ls, st, w, 0, 0)
  | _ => none
def z_icmp (cf : zF) (c : ClassFile.Cond) (ex : List Nat) (ip : Nat) (ls : zL) (st : List Value) (w : List zE) : Option zN := match st with
  | b :: a :: r => zbr (zcmp cf c a b) ex ip ls r w
  | _ => none
def z_if (cf : zF) (c : ClassFile.Cond) (ex : List Nat) (ip : Nat) (ls : zL) (st : List Value) (w : List zE) : Option zN := match st with
  | a :: r => zbr (zcmp cf c a (.int 0)) ex ip ls r w
  | _ => none
def z_ifnull (ex : List Nat) (ip : Nat) (ls : zL) (st : List Value) (w : List zE) : Option zN := match st with
  | .null :: r => zbr (some true) ex ip ls r w
  | .ref _ :: r => zbr (some false) ex ip ls r w
  | _ => none
def z_ifnonnull (ex : List Nat) (ip : Nat) (ls : zL) (st : List Value) (w : List zE) : Option zN := match st with
  | .null :: r => zbr (some false) ex ip ls r w
  | .ref _ :: r => zbr (some true) ex ip ls r w
  | _ => none
def z_tsw (cf : zF) (d lo hi : Int) (offs : Array Int) (code : List zI) (pc : Nat) (ex : List Nat) (ls : zL) (st : List Value) (w : List zE) : Option zN := match st with
  | .int x :: r => match decide (x.toInt < lo) || decide (hi < x.toInt) with
    | true => zjump true (ex[0]?) d code pc ls r w
    | false => match offs[(x.toInt - lo).toNat]? with
      | some off => zjump true (ex[(x.toInt - lo).toNat + 1]?) off code pc ls r w
      | none => none
  | .float u :: r => match cf.2.1[u.toNat]? with
    | some q => match decide (hi < q.1) with
      | true => zjump true (ex[0]?) d code pc ls r w
      | false => none
    | none => none
  | _ => none
def z_lsw (d : Int) (ps : Array (Int × Int)) (code : List zI) (pc : Nat) (ex : List Nat) (ls : zL) (st : List Value) (w : List zE) : Option zN := match st with
  | .int x :: r => zjump ((ps.toList.zip (ps.toList.drop 1)).all (fun (a, next) => a.1 < next.1)) (ex.find? (fun t => decide ((pc : Int) + Op.lookupswitch.offset ps.toList d x.toInt = (zpc code t : Int)))) (Op.lookupswitch.offset ps.toList d x.toInt) code pc ls r w
  | _ => none
def z_getf (ex : List Nat) (ip : Nat) (ls : zL) (st : List Value) (w : List zE) : Option zN := match ex, st with
  | ci :: k :: _, .ref a :: r => match zobj w a ci with
    | none => none
    | some fs => match fs[k]? with
      | some v => match zdbl v with
        | true => none
        | false => some (ip + 1, ls, v :: r, w, 0, 0)
      | none => none
  | _, _ => none
def z_putf (ex : List Nat) (ip : Nat) (ls : zL) (st : List Value) (w : List zE) : Option zN := match ex, st with
  | ci :: k :: _, v :: .ref a :: r => match zobj w a ci, zcl[ci]? with
    | some fs, some q => match zfit (zfty q.2.1 k) v && Nat.ble (k + 1) fs.length with
      | true => some (ip + 1, ls, r, w.set a (.inr (ci, fs.set k v)), 0, 0)
      | false => none
    | _, _ => none
  | _, _ => none
def z_new (ex : List Nat) (ip : Nat) (ls : zL) (st : List Value) (w : List zE) : Option zN := match ex with
  | [ci, _] => match zcl[ci]? with
    | some q => some (ip + 1, ls, .ref w.length :: st, w ++ [.inr (ci, zdef q.2.1 q.2.2)], 1, q.2.2)
    | none => none
  | _ => none
def z_newa (ti : Nat) (ip : Nat) (ls : zL) (st : List Value) (w : List zE) : Option zN := match st with
  | .int n :: r => match decide (0 ≤ n.toInt) && decide (n.toInt ≤ 60000) with
    | true => some (ip + 1, ls, .ref w.length :: r, w ++ [.inl (ti, n.toNatClampNeg, [])], 1, n.toNatClampNeg)
    | false => none
  | _ => none
def z_newai (ex : List Nat) (ip : Nat) (ls : zL) (st : List Value) (w : List zE) : Option zN := match ex with
  | [ti, _] => z_newa ti ip ls st w
  | _ => none
def z_alen (isL : Bool) (cf : zF) (ip : Nat) (ls : zL) (st : List Value) (w : List zE) : Option zN := match st with
  | .ref a :: r => match w[a]? with
    | some (.inl o) => match Nat.ble o.1 3 with
      | true => some (ip + 1, ls, .int (Int32.ofNat o.2.1) :: r, w, 0, 0)
      | false => none
    | _ => none
  | .double u :: r => match isL && decide (u = 0) with
    | true => some (ip + 1, ls, .int (Int32.ofNat cf.2.2.1) :: r, w, 0, 0)
    | false => none
  | _ => none
def z_iald (isL : Bool) (cf : zF) (ip : Nat) (ls : zL) (st : List Value) (w : List zE) : Option zN := match st with
  | .int i :: .ref a :: r => match zarr w a 0 with
    | some o => match zin i o.1, zrd (.int 0) o.2 i.toNatClampNeg with
      | true, .int x => some (ip + 1, ls, .int x :: r, w, 0, 0)
      | _, _ => none
    | none => none
  | .int i :: .double u :: r => match isL && (decide (u = 0) && (zin i cf.2.2.1 && decide (i.toInt < 3))) with
    | true => match cf.2.2.2[i.toNatClampNeg]? with
      | some (some v) => some (ip + 1, ls, .int v :: r, w, 0, 0)
      | _ => some (ip + 1, ls, .float (UInt32.ofNat i.toNatClampNeg) :: r, w, 0, 0)
    | false => none
  | _ => none
def z_lald (ip : Nat) (ls : zL) (st : List Value) (w : List zE) : Option zN := match st with
  | .int i :: .ref a :: r => match zarr w a 2 with
    | some o => match zin i o.1, zrd (.long 0) o.2 i.toNatClampNeg with
      | true, .long x => some (ip + 1, ls, .long x :: r, w, 0, 0)
      | _, _ => none
    | none => none
  | _ => none
def z_objI (ip : Nat) (ls : zL) (st : List Value) (w : List zE) : Option zN := match st with
  | .ref _ :: r => match Nat.ble (zsum r) 8 with
    | true => some (ip + 1, ls, r, w, 0, 0)
    | false => none
  | _ => none
def zstep (isL : Bool) (cf : zF) (nL : Nat) (code : List zI) (e : zI) (ip : Nat) (ls : zL) (st : List Value) (w : List zE) : Option zN := match e.1 with
  | .iload_n k => zload zisI k.val ip ls st w
  | .iload k => zload zisI k ip ls st w
  | .aload_n k => zload zisR k.val ip ls st w
  | .aload k => zload zisR k ip ls st w
  | .lload_n k => zload zisL k.val ip ls st w
  | .lload k => zload zisL k ip ls st w
  | .istore_n k => zstore zisI nL k.val ip ls st w
  | .istore k => zstore zisI nL k ip ls st w
  | .astore_n k => zstore zisR nL k.val ip ls st w
  | .astore k => zstore zisR nL k ip ls st w
  | .lstore_n k => zstore2 nL k.val ip ls st w
  | .lstore k => zstore2 nL k ip ls st w
  | .iconst n => zpush (.int (Int32.ofInt n)) ip ls st w
  | .lconst n => zpush (.long (Int64.ofNat n.val)) ip ls st w
  | .bipush n => zpush (.int (Int8.ofInt n).toInt32) ip ls st w
  | .sipush n => zpush (.int (Int16.ofInt n).toInt32) ip ls st w
  | .aconst_null => zpush .null ip ls st w
  | .ldc _ => z_ldc e.2.2.2 ip ls st w
  | .getstatic _ => zpush (.int 1) ip ls st w
  | .dup => z_dup ip ls st w
  | .pop => z_pop ip ls st w
  | .iadd => z_iadd ip ls st w
  | .isub => zbin (· - ·) ip ls st w
  | .imul => zbin (· * ·) ip ls st w
  | .iand => z_iand cf ip ls st w
  | .iinc i n => z_iinc nL i n ip ls st w
  | .i2l => z_i2l ip ls st w
  | .i2c => z_i2c ip ls st w
  | .lcmp => z_lcmp ip ls st w
  | .goto _ => z_goto e.2.2.2 ls st w
  | .if_icmp c _ => z_icmp cf c e.2.2.2 ip ls st w
  | .ifCond c _ => z_if cf c e.2.2.2 ip ls st w
  | .ifnull _ => z_ifnull e.2.2.2 ip ls st w
  | .ifnonnull _ => z_ifnonnull e.2.2.2 ip ls st w
  | .tableswitch d lo hi offs => z_tsw cf d lo hi offs code e.2.1 e.2.2.2 ls st w
  | .lookupswitch d ps => z_lsw d ps code e.2.1 e.2.2.2 ls st w
  | .getfield _ => z_getf e.2.2.2 ip ls st w
  | .putfield _ => z_putf e.2.2.2 ip ls st w
  | .new _ => z_new e.2.2.2 ip ls st w
  | .newarray _ => z_newai e.2.2.2 ip ls st w
  | .anewarray _ => z_newa 4 ip ls st w
  | .arraylength => z_alen isL cf ip ls st w
  | .iaload => z_iald isL cf ip ls st w
  | .laload => z_lald ip ls st w
  | .iastore => zast 0 ip ls st w
  | .castore => zast 1 ip ls st w
  | .lastore => zast 2 ip ls st w
  | .invokespecial _ => z_objI ip ls st w
  | _ => none
/-- 0: an end; 1: a call; else a step -/
def zkind (i : Instr) (ex : List Nat) : Nat := match i with
  | .ireturn => 0
  | .lreturn => 0
  | .areturn => 0
  | .return_ => 0
  | .new _ => match ex with
    | [_, _] => 2
    | _ => 0
  | .invokevirtual _ => 1
  | .invokestatic _ => 1
  | .invokespecial _ => match ex with
    | [_] => 2
    | _ => 1
  | _ => 2
def zhnd (E : Nat) : List Nat → Option Nat
  | a :: b :: r => match Nat.beq a E with
    | true => some b
    | false => zhnd E r
  | _ => none
/-- the arguments of a call, the deepest first, and what stays -/
def zcut (n : Nat) (st : List Value) : List Value × List Value := ((st.take n).reverse, st.drop n)
/-- the receiver is an object of the list, of the method's class -/
def zrecv (kind ci : Nat) (av : List Value) (w : List zE) : Bool := match kind with
  | 1 => true
  | 2 => match av with
    | .ref _ :: _ => true
    | _ => false
  | _ => match av with
    | .ref b :: _ => match w[b]? with
      | some (.inr o) => Nat.beq o.1 ci || Nat.beq ci 99
      | _ => false
    | _ => false
def znarg (kind n : Nat) : Nat := match kind with
  | 1 => n
  | _ => n + 1
def zcall (call : Nat → List Value → List zE → Option zO) (e : zI) (ip : Nat) (ls : zL) (st : List Value) (w : List zE) : Option zN := match e.2.2.2 with
  | mi :: _ :: _ :: hs => match zp[mi]? with
    | none => none
    | some M => match zcut (znarg M.2.2.2.2.2.1 M.2.2.2.2.2.2.1) st with
      | (av, rest) => match Nat.ble (zsum rest) 8 && (!(av.any zdbl) && (Nat.beq av.length (znarg M.2.2.2.2.2.1 M.2.2.2.2.2.2.1) && zrecv M.2.2.2.2.2.1 M.2.2.2.2.2.2.2.1 av w)) with
        | false => none
        | true => match call mi av w with
          | none => none
          | some o => match Nat.ble w.length o.2.2.1.length with
            | false => none
            | true => match o.1 with
              | 0 => some (ip + 1, ls, o.2.1.toList ++ rest, o.2.2.1, o.2.2.2.1, o.2.2.2.2)
              | E + 1 => match zhnd E hs, ls.any (fun q => zdbl q.2) with
                | some t, false => some (t, ls, [.double 1], o.2.2.1, o.2.2.2.1, o.2.2.2.2)
                | _, _ => none
  | _ => none
def zloop (call : Nat → List Value → List zE → Option zO) (isL : Bool) (cf : zF) (nL : Nat) (code : List zI) : Nat → Nat → zL → List Value → List zE → Nat → Nat → Option zN
  | 0, _, _, _, _, _, _ => none
  | n + 1, ip, ls, st, w, dc, ds => match code[ip]? with
    | none => none
    | some e => match zkind e.1 e.2.2.2 with
      | 0 => some (ip, ls, st, w, dc, ds)
      | 1 => match zcall call e ip ls st w with
        | none => none
        | some q => zloop call isL cf nL code n q.1 q.2.1 q.2.2.1 q.2.2.2.1 (dc + q.2.2.2.2.1) (ds + q.2.2.2.2.2)
      | _ => match zstep isL cf nL code e ip ls st w with
        | none => none
        | some q => zloop call isL cf nL code n q.1 q.2.1 q.2.2.1 q.2.2.2.1 (dc + q.2.2.2.2.1) (ds + q.2.2.2.2.2)
def zargs : Nat → List Value → zL
  | _, [] => []
  | i, v :: r => (i, v) :: zargs (i + zcat v) r
def zout (ret : Option FieldType) (code : List zI) (q : zN) : Option zO := match code[q.1]? with
  | none => none
  | some e => match e.1, q.2.2.1 with
    | .ireturn, [.int x] => match ret with
      | some ty => match decide (narrow ty (.int x) = .int x) with
        | true => some (0, some (.int x), q.2.2.2.1, q.2.2.2.2.1, q.2.2.2.2.2)
        | false => none
      | none => none
    | .lreturn, [.long x] => match decide (ret = some .long) with
      | true => some (0, some (.long x), q.2.2.2.1, q.2.2.2.2.1, q.2.2.2.2.2)
      | false => none
    | .areturn, [v] => match ret, v with
      | some (.object _), .ref a => some (0, some (.ref a), q.2.2.2.1, q.2.2.2.2.1, q.2.2.2.2.2)
      | some (.object _), .null => some (0, some .null, q.2.2.2.1, q.2.2.2.2.1, q.2.2.2.2.2)
      | _, _ => none
    | .return_, [] => match decide (ret = none) with
      | true => some (0, none, q.2.2.2.1, q.2.2.2.2.1, q.2.2.2.2.2)
      | false => none
    | .new _, st => match e.2.2.2, Nat.ble (zsum st) 8 with
      | E :: _ :: _ :: _ :: _, true => some (E + 1, none, q.2.2.2.1, q.2.2.2.2.1 + 1, q.2.2.2.2.2 + 6)
      | _, _ => none
    | _, _ => none
def zrun (cf : zF) : Nat → Nat → List Value → List zE → Option zO
  | 0, _, _, _ => none
  | d + 1, mi, av, w => match zp[mi]? with
    | none => none
    | some M => match Nat.ble (zsum av) M.2.2.1 with
      | false => none
      | true => match zloop (zrun cf d) false cf M.2.2.1 M.2.2.2.2.2.2.2.2.2 3000 0 (zargs 0 av) [] w 0 0 with
        | none => none
        | some q => zout M.2.2.2.1 M.2.2.2.2.2.2.2.2.2 q
/-- the law: the script's length L, what is known of its ints; it must end with 1 -/
def zlaw (cf : zF) : Bool := match zloop (zrun cf 20) true cf 8 zM_law.2.2.2.2.2.2.2.2.2 3000 0 [(0, .double 0)] [] [] 0 0 with
  | none => false
  | some q => match zM_law.2.2.2.2.2.2.2.2.2[q.1]?, q.2.2.1 with
    | some e, [.int x] => decide (e.1 = .ireturn) && (decide (x = 1) && (decide (q.2.2.2.2.1 ≤ 600000) && decide (q.2.2.2.2.2 ≤ 7300000)))
    | _, _ => false
end
section
/-! WHAT THE LISTS STAND FOR -/
section ZB
variable {tc : Nat → ClassId} {ad ad' sp sp' : Nat → Nat} {rh : Nat → Int32}
def zv (ad sp : Nat → Nat) (rh : Nat → Int32) : Value → Value
  | .int x => .int x
  | .long x => .long x
  | .float u => .int (rh u.toNat)
  | .double u => .ref (sp u.toNat)
  | .null => .null
  | .ref k => .ref (ad k)
  | .retAddr k => .retAddr k
def zz : Nat → Nat := fun _ => 0
theorem zv_cat (v : Value) : (zv ad sp rh v).category = zcat v := by cases v <;> rfl
def zint (rh : Nat → Int32) : Value → Int32
  | .int x => x
  | .float u => rh u.toNat
  | _ => 0
def zlong : Value → Int64
  | .long x => x
  | _ => 0
def zci (g : Int32 → Int32) (rh : Nat → Int32) : List (Nat × Value) → Nat → Int32
  | [] => fun _ => 0
  | q :: r => upd (zci g rh r) q.1 (g (zint rh q.2))
def zcj : List (Nat × Value) → Nat → Int64
  | [] => fun _ => 0
  | q :: r => vp_updL (zcj r) q.1 (zlong q.2)
def zct (rh : Nat → Int32) (t : Nat) (l : List (Nat × Value)) : (Nat → Int32) ⊕ (Nat → Int64) ⊕ (Nat → UInt32) ⊕ (Nat → UInt64) ⊕ (Nat → Option Nat) := match t with
  | 0 => .inl (zci id rh l)
  | 1 => .inl (zci (vp_nar .char) rh l)
  | 2 => .inr (.inl (zcj l))
  | 3 => .inl (zci (vp_nar .byte) rh l)
  | _ => .inr (.inr (.inr (.inr (fun _ => none))))
def ze (tc : Nat → ClassId) (ad : Nat → Nat) (rh : Nat → Int32) : zE → va_E
  | .inl o => .inl (tc o.1, o.2.1, zct rh o.1 o.2.2)
  | .inr o => .inr (o.1, o.2.map (zv ad zz rh))
def zw (tc : Nat → ClassId) (ad : Nat → Nat) (rh : Nat → Int32) (w : List zE) : va_W := w.mapIdx (fun k e => (ad k, ze tc ad rh e))
def zls (ad sp : Nat → Nat) (rh : Nat → Int32) (ls : zL) : List (Nat × Value) := ls.map (fun q => (q.1, zv ad sp rh q.2))
def zst (ad sp : Nat → Nat) (rh : Nat → Int32) (st : List Value) : List Value := st.map (zv ad sp rh)
def zwv (n : Nat) : Value → Bool
  | .ref k => decide (k < n)
  | _ => true
def zwe (n : Nat) : zE → Bool
  | .inl _ => true
  | .inr o => o.2.all (zwv n)
def zwl (n : Nat) (ls : zL) : Bool := ls.all (fun q => zwv n q.2)
def zwf (ls : zL) (st : List Value) (w : List zE) : Bool := w.all (zwe w.length) && (zwl w.length ls && st.all (zwv w.length))
theorem zv_ext {n : Nat} (h : ∀ k, k < n → ad' k = ad k) {v : Value} (hv : zwv n v = true) : zv ad' sp rh v = zv ad sp rh v := by
  cases v with
  | ref k => show Value.ref _ = Value.ref _; rw [h k (of_decide_eq_true hv)]
  | _ => rfl
theorem zst_ext {n : Nat} (h : ∀ k, k < n → ad' k = ad k) {st : List Value} (hv : st.all (zwv n) = true) : zst ad' sp rh st = zst ad sp rh st := by
  refine List.map_congr_left fun v hm => zv_ext h (List.all_eq_true.mp hv v hm)
theorem zls_ext {n : Nat} (h : ∀ k, k < n → ad' k = ad k) {ls : zL} (hv : zwl n ls = true) : zls ad' sp rh ls = zls ad sp rh ls := by
  refine List.map_congr_left fun q hm => ?_
  rw [zv_ext h (List.all_eq_true.mp hv q hm)]
theorem ze_ext {n : Nat} (h : ∀ k, k < n → ad' k = ad k) {x : zE} (hv : zwe n x = true) : ze tc ad' rh x = ze tc ad rh x := by
  cases x with
  | inl o => rfl
  | inr o => show Sum.inr (o.1, o.2.map _) = Sum.inr (o.1, o.2.map _); rw [show o.2.map (zv ad' zz rh) = o.2.map (zv ad zz rh) from zst_ext h hv]
theorem zw_get (w : List zE) (k : Nat) : (zw tc ad rh w)[k]? = (w[k]?).map (fun x => (ad k, ze tc ad rh x)) := by simp [zw, List.getElem?_mapIdx]
theorem zw_len (w : List zE) : (zw tc ad rh w).length = w.length := by simp [zw]
theorem zw_at {w : List zE} {k : Nat} {x : zE} (h : w[k]? = some x) : (zw tc ad rh w)[k]? = some (ad k, ze tc ad rh x) := by rw [zw_get, h]; rfl
theorem zw_ext {w : List zE} (h : ∀ k, k < w.length → ad' k = ad k) (hv : w.all (zwe w.length) = true) : zw tc ad' rh w = zw tc ad rh w := by
  refine List.ext_getElem? fun k => ?_
  rw [zw_get, zw_get]
  cases hk : w[k]? with
  | none => rfl
  | some x =>
    have hl : k < w.length := (List.getElem?_eq_some_iff.mp hk).1
    show some (ad' k, ze tc ad' rh x) = some (ad k, ze tc ad rh x)
    rw [h k hl, ze_ext h (List.all_eq_true.mp hv x (List.mem_of_getElem? hk))]
theorem zw_set (w : List zE) (k : Nat) (x : zE) : zw tc ad rh (w.set k x) = (zw tc ad rh w).set k (ad k, ze tc ad rh x) := by
  refine List.ext_getElem? fun j => ?_
  rw [zw_get, List.getElem?_set, List.getElem?_set, zw_len]
  by_cases hj : k = j
  · subst hj
    by_cases hl : k < w.length <;> simp [hl]
  · simp [hj, zw_get]
theorem zw_app (w : List zE) (x : zE) : zw tc ad rh (w ++ [x]) = zw tc ad rh w ++ [(ad w.length, ze tc ad rh x)] := by
  simp [zw, List.mapIdx_append]
theorem zget_mem {ls : zL} {k : Nat} {v : Value} (h : zget ls k = some v) : (k, v) ∈ ls := by
  induction ls with
  | nil => cases h
  | cons q r ih =>
    obtain ⟨a, b⟩ := q
    unfold zget at h
    cases hb : Nat.beq a k with
    | true =>
      rw [hb] at h
      have e1 : a = k := Nat.eq_of_beq_eq_true hb
      have e2 : b = v := Option.some.inj h
      rw [← e1, ← e2]
      exact List.mem_cons_self
    | false =>
      rw [hb] at h
      exact List.mem_cons_of_mem _ (ih h)
theorem zl_at {lsC : Array Slot} {nL : Nat} {ls : zL} (hl : lv_has lsC nL (zls ad sp rh ls)) {k : Nat} {v : Value} (h : zget ls k = some v) : lsC[k]? = some (.val (zv ad sp rh v)) :=
  hl.2.2 (k, zv ad sp rh v) (List.mem_map.mpr ⟨(k, v), zget_mem h, rfl⟩)
theorem zl_ix {ls : zL} {k : Nat} {v : Value} (h : zget ls k = some v) : ∃ j : Nat, (zls ad sp rh ls)[j]? = some (k, zv ad sp rh v) := by
  have hm : (k, zv ad sp rh v) ∈ zls ad sp rh ls := List.mem_map.mpr ⟨(k, v), zget_mem h, rfl⟩
  exact List.getElem?_of_mem hm
theorem zls_set {i : Nat} {v : Value} {ls : zL} : (i, zv ad sp rh v) :: (zls ad sp rh ls).filter (fun q => !(q.1 == i) && !(q.1 + 1 == i && q.2.category == 2)) = zls ad sp rh (zset i v ls) := by
  unfold zls zset
  rw [List.filter_map, List.map_cons]
  congr 2
  refine List.filter_congr fun q _ => ?_
  simp [Function.comp, zv_cat]
theorem zls_set2 {i : Nat} {v : Value} {ls : zL} : (i, zv ad sp rh v) :: (zls ad sp rh ls).filter (fun q => !(q.1 == i) && (!(q.1 == i + 1) && !(q.1 + 1 == i && q.2.category == 2))) = zls ad sp rh (zset2 i v ls) := by
  unfold zls zset2
  rw [List.filter_map, List.map_cons]
  congr 2
  refine List.filter_congr fun q _ => ?_
  simp [Function.comp, zv_cat]
theorem zwl_set {n i : Nat} {v : Value} {ls : zL} (h : zwl n ls = true) (hv : zwv n v = true) : zwl n (zset i v ls) = true := by
  refine List.all_eq_true.mpr fun q hq => ?_
  rcases List.mem_cons.mp hq with rfl | hq
  · exact hv
  · exact List.all_eq_true.mp h q (List.mem_filter.mp hq).1
theorem zwl_set2 {n i : Nat} {v : Value} {ls : zL} (h : zwl n ls = true) (hv : zwv n v = true) : zwl n (zset2 i v ls) = true := by
  refine List.all_eq_true.mpr fun q hq => ?_
  rcases List.mem_cons.mp hq with rfl | hq
  · exact hv
  · exact List.all_eq_true.mp h q (List.mem_filter.mp hq).1
theorem zwl_get {n : Nat} {ls : zL} {k : Nat} {v : Value} (h : zwl n ls = true) (hv : zget ls k = some v) : zwv n v = true := List.all_eq_true.mp h _ (zget_mem hv)
theorem zwv_le {n n' : Nat} (h : n ≤ n') {v : Value} (hv : zwv n v = true) : zwv n' v = true := by
  cases v with
  | ref k => exact decide_eq_true (Nat.lt_of_lt_of_le (of_decide_eq_true hv) h)
  | _ => rfl
theorem zst_le {n n' : Nat} (h : n ≤ n') {st : List Value} (hv : st.all (zwv n) = true) : st.all (zwv n') = true := List.all_eq_true.mpr fun v hm => zwv_le h (List.all_eq_true.mp hv v hm)
theorem zwl_le {n n' : Nat} (h : n ≤ n') {ls : zL} (hv : zwl n ls = true) : zwl n' ls = true := List.all_eq_true.mpr fun v hm => zwv_le h (List.all_eq_true.mp hv v hm)
theorem zwe_le {n n' : Nat} (h : n ≤ n') {x : zE} (hv : zwe n x = true) : zwe n' x = true := by
  cases x with
  | inl o => rfl
  | inr o => exact zst_le h hv
theorem zww_le {n n' : Nat} (h : n ≤ n') {w : List zE} (hv : w.all (zwe n) = true) : w.all (zwe n') = true := List.all_eq_true.mpr fun v hm => zwe_le h (List.all_eq_true.mp hv v hm)
theorem zwf_of {ls : zL} {st : List Value} {w : List zE} (h1 : w.all (zwe w.length) = true) (h2 : zwl w.length ls = true) (h3 : st.all (zwv w.length) = true) : zwf ls st w = true := by
  unfold zwf
  rw [h1, h2, h3]
  rfl
theorem zwf_to {ls : zL} {st : List Value} {w : List zE} (h : zwf ls st w = true) : w.all (zwe w.length) = true ∧ zwl w.length ls = true ∧ st.all (zwv w.length) = true := by
  unfold zwf at h
  rw [Bool.and_eq_true, Bool.and_eq_true] at h
  exact h
theorem zisI_to {v : Value} (h : zisI v = true) : ∃ x : Int32, zv ad sp rh v = .int x := by
  cases v <;> first | exact ⟨_, rfl⟩ | simp [zisI] at h
theorem zisL_to {v : Value} (h : zisL v = true) : ∃ x : Int64, v = .long x := by
  cases v <;> first | exact ⟨_, rfl⟩ | simp [zisL] at h
theorem zisR_to {v : Value} (h : zisR v = true) : zv ad sp rh v = .null ∨ ∃ x : Nat, zv ad sp rh v = .ref x := by
  cases v <;> first | exact Or.inl rfl | exact Or.inr ⟨_, rfl⟩ | simp [zisR] at h
theorem zload_to {f : Value → Bool} {k ip : Nat} {ls : zL} {st : List Value} {w : List zE} {q : zN} (h : zload f k ip ls st w = some q) : ∃ v, zget ls k = some v ∧ f v = true ∧ q = (ip + 1, ls, v :: st, w, 0, 0) := by
  unfold zload at h
  split at h
  · cases h
  · rename_i v hv
    split at h
    · rename_i hf
      exact ⟨v, hv, hf, (Option.some.inj h).symm⟩
    · cases h
theorem zstore_to {f : Value → Bool} {nL k ip : Nat} {ls : zL} {st : List Value} {w : List zE} {q : zN} (h : zstore f nL k ip ls st w = some q) : ∃ v r, st = v :: r ∧ f v = true ∧ k < nL ∧ q = (ip + 1, zset k v ls, r, w, 0, 0) := by
  unfold zstore at h
  split at h
  · rename_i v r
    split at h
    · rename_i hf
      rw [Bool.and_eq_true] at hf
      exact ⟨v, r, rfl, hf.1, Nat.le_of_ble_eq_true hf.2, (Option.some.inj h).symm⟩
    · cases h
  · cases h
theorem zstore2_to {nL k ip : Nat} {ls : zL} {st : List Value} {w : List zE} {q : zN} (h : zstore2 nL k ip ls st w = some q) : ∃ v r, st = v :: r ∧ zisL v = true ∧ k + 1 < nL ∧ q = (ip + 1, zset2 k v ls, r, w, 0, 0) := by
  unfold zstore2 at h
  split at h
  · rename_i v r
    split at h
    · rename_i hf
      rw [Bool.and_eq_true] at hf
      exact ⟨v, r, rfl, hf.1, Nat.le_of_ble_eq_true hf.2, (Option.some.inj h).symm⟩
    · cases h
  · cases h
theorem zobj_to {w : List zE} {a ci : Nat} {fs : List Value} (h : zobj w a ci = some fs) : w[a]? = some (.inr (ci, fs)) := by
  unfold zobj at h
  split at h
  · rename_i o ho
    obtain ⟨o1, o2⟩ := o
    split at h
    · rename_i hb
      have e1 : o1 = ci := Nat.eq_of_beq_eq_true hb
      have e2 : o2 = fs := Option.some.inj h
      rw [ho, e1, e2]
    · cases h
  · cases h
theorem zarr_to {w : List zE} {a ti : Nat} {o : Nat × List (Nat × Value)} (h : zarr w a ti = some o) : w[a]? = some (.inl (ti, o)) := by
  unfold zarr at h
  split at h
  · rename_i o9 ho
    obtain ⟨o1, o2⟩ := o9
    split at h
    · rename_i hb
      have e1 : o1 = ti := Nat.eq_of_beq_eq_true hb
      have e2 : o2 = o := Option.some.inj h
      rw [ho, e1, e2]
    · cases h
  · cases h
theorem zin_to {i : Int32} {n : Nat} (h : zin i n = true) : vp_in i n := by
  unfold zin at h
  rw [Bool.and_eq_true, decide_eq_true_eq, decide_eq_true_eq] at h
  exact vp_in_iff.mpr h
theorem zrd_int (rh : Nat → Int32) (l : List (Nat × Value)) (k : Nat) {x : Int32} (h : zrd (.int 0) l k = .int x) : zci id rh l k = x := by
  induction l with
  | nil => exact Value.int.inj h
  | cons q r ih =>
    unfold zrd at h
    unfold zci upd
    cases hb : Nat.beq q.1 k with
    | true =>
      rw [hb] at h
      rw [if_pos (Nat.eq_of_beq_eq_true hb).symm]
      show zint rh q.2 = x
      rw [show q.2 = .int x from h]
      rfl
    | false =>
      rw [hb] at h
      rw [if_neg (fun e9 => by rw [e9] at hb; simp at hb)]
      exact ih h
theorem zrd_long (l : List (Nat × Value)) (k : Nat) {x : Int64} (h : zrd (.long 0) l k = .long x) : zcj l k = x := by
  induction l with
  | nil => exact Value.long.inj h
  | cons q r ih =>
    unfold zrd at h
    unfold zcj vp_updL
    cases hb : Nat.beq q.1 k with
    | true =>
      rw [hb] at h
      rw [if_pos (Nat.eq_of_beq_eq_true hb).symm]
      show zlong q.2 = x
      rw [show q.2 = .long x from h]
      rfl
    | false =>
      rw [hb] at h
      rw [if_neg (fun e9 => by rw [e9] at hb; simp at hb)]
      exact ih h
def zcfok (cf : zF) (rh : Nat → Int32) : Prop := (∀ v, cf.1 = some v → rh 0 &&& 31 = v) ∧ (∀ (u : Nat) (q : Int × Int), cf.2.1[u]? = some q → q.1 ≤ (rh u).toInt ∧ (rh u).toInt ≤ q.2) ∧ rh 3 = ((rh 1).toUInt32 % 65536).toInt32 ∧ rh 4 = ((rh 2).toUInt32 % 65536).toInt32 ∧ rh 5 = rh 2 + 1 ∧ rh 6 = rh 0 &&& 31 ∧ ∀ (k : Nat) (v : Int32), cf.2.2.2[k]? = some (some v) → rh k = v
theorem ziv_to {cf : zF} (hc : zcfok cf rh) {v : Value} {q : Int × Int} (h : ziv cf v = some q) : ∃ x : Int32, zv ad sp rh v = .int x ∧ q.1 ≤ x.toInt ∧ x.toInt ≤ q.2 := by
  cases v with
  | int x => refine ⟨x, rfl, ?_⟩; cases h; exact ⟨Int.le_refl _, Int.le_refl _⟩
  | float u => exact ⟨rh u.toNat, rfl, hc.2.1 _ _ h⟩
  | _ => cases h
def zrel (c : ClassFile.Cond) (x y : Int32) : Prop := match c with
  | .eq => x = y
  | .ne => ¬ x = y
  | .lt => x < y
  | .ge => y ≤ x
  | .gt => y < x
  | .le => x ≤ y
theorem zcmpb_to {c : ClassFile.Cond} {l1 h1 l2 h2 : Int} {x y : Int32} (a1 : l1 ≤ x.toInt) (a2 : x.toInt ≤ h1) (b1 : l2 ≤ y.toInt) (b2 : y.toInt ≤ h2) {r : Bool} (h : zcmpb c l1 h1 l2 h2 = some r) : (r = true → zrel c x y) ∧ (r = false → ¬ zrel c x y) := by
  cases c <;> simp only [zcmpb] at h <;> split at h <;> simp only [Option.some.injEq, reduceCtorEq] at h <;> subst h <;> simp only [decide_eq_true_eq, decide_eq_false_iff_not, Bool.and_eq_true, Bool.or_eq_true, Bool.and_eq_false_iff, Bool.or_eq_false_iff] at * <;> refine ⟨fun h9 => ?_, fun h9 => ?_⟩ <;> first | exact absurd h9 (by decide) | (simp only [zrel, Int32.lt_iff_toInt_lt, Int32.le_iff_toInt_le, ← Int32.toInt_inj] at *; omega)
theorem zcmp_to {cf : zF} (hc : zcfok cf rh) {c : ClassFile.Cond} {a b : Value} {r : Bool} (h : zcmp cf c a b = some r) : ∃ x y : Int32, zv ad sp rh a = .int x ∧ zv ad sp rh b = .int y ∧ (r = true → zrel c x y) ∧ (r = false → ¬ zrel c x y) := by
  unfold zcmp at h
  split at h
  · rename_i p q hp hq
    obtain ⟨x, hx, x1, x2⟩ := ziv_to (ad := ad) (sp := sp) hc hp
    obtain ⟨y, hy, y1, y2⟩ := ziv_to (ad := ad) (sp := sp) hc hq
    exact ⟨x, y, hx, hy, zcmpb_to x1 x2 y1 y2 h⟩
  · cases h
theorem zbr_to {b : Option Bool} {ex : List Nat} {ip : Nat} {ls : zL} {st : List Value} {w : List zE} {q : zN} (h : zbr b ex ip ls st w = some q) : (∃ t, b = some true ∧ ex = [t] ∧ q = (t, ls, st, w, 0, 0)) ∨ (b = some false ∧ q = (ip + 1, ls, st, w, 0, 0)) := by
  unfold zbr at h
  split at h
  · exact Or.inl ⟨_, rfl, rfl, (Option.some.inj h).symm⟩
  · exact Or.inr ⟨rfl, (Option.some.inj h).symm⟩
  · cases h
theorem zfit_to {ty : FieldType} {v : Value} (h : zfit ty v = true) : narrow ty (zv ad zz rh v) = zv ad zz rh v ∧ fits ty (zv ad zz rh v) = true ∧ zv ad sp rh v = zv ad zz rh v ∧ zdbl v = false := by
  cases v with
  | int x =>
    simp only [zfit, Bool.and_eq_true, decide_eq_true_eq] at h
    exact ⟨h.1, h.2, rfl, rfl⟩
  | ref a => cases ty <;> first | exact ⟨rfl, rfl, rfl, rfl⟩ | simp [zfit] at h
  | null => cases ty <;> first | exact ⟨rfl, rfl, rfl, rfl⟩ | simp [zfit] at h
  | long x => cases ty <;> first | exact ⟨rfl, rfl, rfl, rfl⟩ | simp [zfit] at h
  | _ => simp [zfit] at h
theorem zv_nd {v : Value} (h : zdbl v = false) : zv ad sp rh v = zv ad sp' rh v := by
  cases v <;> first | rfl | simp [zdbl] at h
end ZB
end
section
/-! WHAT THE PROGRAM'S DATA MUST KEEP, and that a step of the lists is a step of the machine -/
def zwd (j : Nat) (w : Jvm.Cond) : Bool := decide (lw_tbl[j]? = some w) && goodWord w
def ztbl : List Jvm.Cond := lw_tbl.filter goodWord
theorem zwd_to {j : Nat} {w : Jvm.Cond} (h : zwd j w = true) : w ∈ ztbl := by
  unfold zwd at h
  rw [Bool.and_eq_true, decide_eq_true_eq] at h
  exact List.mem_filter.mpr ⟨List.mem_of_getElem? h.1, h.2⟩
def zlen (i : Instr) : Nat := match i with
  | .iload _ => 2
  | .aload _ => 2
  | .lload _ => 2
  | .istore _ => 2
  | .astore _ => 2
  | .lstore _ => 2
  | .bipush _ => 2
  | .ldc _ => 2
  | .newarray _ => 2
  | .sipush _ => 3
  | .iinc _ _ => 3
  | .goto _ => 3
  | .if_icmp _ _ => 3
  | .ifCond _ _ => 3
  | .ifnull _ => 3
  | .ifnonnull _ => 3
  | .getfield _ => 3
  | .putfield _ => 3
  | .getstatic _ => 3
  | .new _ => 3
  | .anewarray _ => 3
  | .invokespecial _ => 3
  | .invokevirtual _ => 3
  | .invokestatic _ => 3
  | _ => 1
def zft (code : List zI) (ip : Nat) (e : zI) : Bool := decide (zpc code (ip + 1) = e.2.1 + zlen e.1)
def zln (e : zI) : Bool := decide (e.2.2.1 = zlen e.1)
def ztg (code : List zI) (e : zI) (off : Int) : Bool := match e.2.2.2 with
  | [t] => decide ((e.2.1 : Int) + off = (zpc code t : Int))
  | _ => false
def zati (a : ArrayType) : Nat := match a with
  | .int => 0
  | .char => 1
  | .long => 2
  | .byte => 3
  | _ => 9
def zic (E : Nat) : Nat := match E with
  | 0 => 100
  | 1 => 78
  | _ => 140
def zchn : List String := ["java/lang/RuntimeException", "java/lang/Exception"]
def zchk2 (own nm : String) (cc : ByteArray) (code : List zI) (ip : Nat) (e : zI) : Bool := match e.1 with
  | .goto off => zln e && ztg code e off
  | .if_icmp _ off => zln e && (zft code ip e && ztg code e off)
  | .ifCond _ off => zln e && (zft code ip e && ztg code e off)
  | .ifnull off => zln e && (zft code ip e && ztg code e off)
  | .ifnonnull off => zln e && (zft code ip e && ztg code e off)
  | .tableswitch _ _ _ _ => true
  | .lookupswitch _ _ => true
  | .ireturn => zln e
  | .lreturn => zln e
  | .areturn => zln e
  | .return_ => zln e
  | .getfield idx => zln e && (zft code ip e && match e.2.2.2 with
    | [ci, k, j] => match zcl[ci]? with
      | some q => decide (k < q.2.2) && zwd j (.fieldLink own idx (q.2.1 k).1 (q.2.1 k).2.1 (q.2.1 k).2.2.1)
      | none => false
    | [ci, k, f, _] => match zcl[ci]? with
      | some q => decide (k < q.2.2) && decide (zFw[f]? = some (.fieldLinkNest own idx (q.2.1 k).1 (q.2.1 k).2.1 (q.2.1 k).2.2.1 "MacrocosmModel"))
      | none => false
    | _ => false)
  | .putfield idx => zln e && (zft code ip e && match e.2.2.2 with
    | [ci, k, j] => match zcl[ci]? with
      | some q => decide (k < q.2.2) && (zwd j (.fieldLink own idx (q.2.1 k).1 (q.2.1 k).2.1 (q.2.1 k).2.2.1) && match (q.2.1 k).2.2.2 with
        | true => decide (nm = "<init>") && decide ((q.2.1 k).1 = own)
        | false => true)
      | none => false
    | _ => false)
  | .new idx => zln e && match e.2.2.2 with
    | [ci, j] => zft code ip e && match zcl[ci]? with
      | some q => zwd j (.classLink own idx q.1)
      | none => false
    | [E, j, si, ic, sx] => decide (own = "Macrocosm") && (decide (ic = zic E) && (decide (E < 3) && (match zexn[E]?, zStr[sx]? with
      | some cls, some q => zwd j (.classLink own idx cls) && (decide (q.1 = own) && decide (q.2.1 = si))
      | _, _ => false) && (decide (decode cc (e.2.1 + 3) = .ok (.dup, 1)) && (decide (decode cc (e.2.1 + 4) = .ok (.ldc si, 2)) && (decide (decode cc (e.2.1 + 6) = .ok (.invokespecial ic, 3)) && decide (decode cc (e.2.1 + 9) = .ok (.athrow, 1)))))))
    | _ => false
  | .newarray a => zln e && (zft code ip e && match e.2.2.2 with
    | [ti, j] => decide (ti = zati a) && (decide (ti < 4) && zwd j (.arrayClass (newarray.typeOf a)))
    | _ => false)
  | .anewarray idx => zln e && (zft code ip e && match e.2.2.2 with
    | [_, j] => zwd j (.classLink own idx "MacrocosmModel$Scope")
    | _ => false)
  | .ldc idx => zln e && (zft code ip e && match e.2.2.2 with
    | [j, v] => zwd j (.constant own idx (Int32.ofNat v))
    | _ => false)
  | .getstatic idx => zln e && (zft code ip e && match e.2.2.2 with
    | [j] => zwd j (.fieldLink own idx "java/lang/String" "COMPACT_STRINGS" "Z")
    | _ => false)
  | .invokespecial idx => zln e && (zft code ip e && match e.2.2.2 with
    | [j] => zwd j (.methodLink own idx objectInit)
    | mi :: j :: _ => match zp[mi]? with
      | some M => zwd j (.methodLink own idx M.1)
      | none => false
    | _ => false)
  | .invokevirtual idx => zln e && (zft code ip e && match e.2.2.2 with
    | mi :: j :: j2 :: _ => match zp[mi]? with
      | some M => zwd j (.methodLink own idx M.1) && zwd j2 (.selects M.1.cls M.1 M.1)
      | none => false
    | _ => false)
  | .invokestatic idx => zln e && (zft code ip e && match e.2.2.2 with
    | mi :: j :: _ => match zp[mi]? with
      | some M => zwd j (.methodLink own idx M.1)
      | none => false
    | _ => false)
  | _ => zln e && zft code ip e
def zchk (own nm : String) (cc : ByteArray) (code : List zI) (ip : Nat) (e : zI) : Bool := decide (decode cc e.2.1 = .ok (e.1, e.2.2.1)) && zchk2 own nm cc code ip e
/-- a class: its words are there, its fields' types are types, its fields' names differ -/
def zclchk (q : vw_C) : Bool := (u_ws q.1 q.2.1 q.2.2).all (fun w => decide (w ∈ lw_tbl) && goodWord w) && ((List.range q.2.2).all (fun k => (parseFieldDescriptor (q.2.1 k).2.2.1).isSome) && (((List.range q.2.2).all fun a => (List.range q.2.2).all fun b => decide (a = b) || decide ((q.2.1 a).2.1 ≠ (q.2.1 b).2.1)) && (decide (Jvm.Cond.instantiable q.1 q.2.2 ∈ lw_tbl) && (goodWord (Jvm.Cond.instantiable q.1 q.2.2) && (decide (Jvm.Cond.initialized q.1 ∈ lw_tbl) && (goodWord (Jvm.Cond.initialized q.1) && (zdef q.2.1 q.2.2).all zplain))))))
set_option maxRecDepth 100000 in
theorem zcl_all : zcl.all zclchk = true := by decide +kernel
theorem zcl_to {ci : Nat} {q : vw_C} (h : zcl[ci]? = some q) : (∀ w ∈ u_ws q.1 q.2.1 q.2.2, w ∈ ztbl) ∧ (∀ k, k < q.2.2 → parseFieldDescriptor (q.2.1 k).2.2.1 = some (zfty q.2.1 k)) ∧ (∀ a, a < q.2.2 → ∀ b, b < q.2.2 → a ≠ b → (q.2.1 a).2.1 ≠ (q.2.1 b).2.1) ∧ Jvm.Cond.instantiable q.1 q.2.2 ∈ ztbl ∧ Jvm.Cond.initialized q.1 ∈ ztbl ∧ (zdef q.2.1 q.2.2).all zplain = true := by
  have h1 := List.all_eq_true.mp zcl_all q (List.mem_of_getElem? h)
  unfold zclchk at h1
  simp only [Bool.and_eq_true, decide_eq_true_eq] at h1
  obtain ⟨a1, a2, a3, a4, a5, a6, a7, a8⟩ := h1
  refine ⟨fun w hw => ?_, fun k hk => ?_, fun a ha b hb hne => ?_, List.mem_filter.mpr ⟨a4, a5⟩, List.mem_filter.mpr ⟨a6, a7⟩, a8⟩
  · have := List.all_eq_true.mp a1 w hw
    rw [Bool.and_eq_true, decide_eq_true_eq] at this
    exact List.mem_filter.mpr this
  · have := List.all_eq_true.mp a2 k (List.mem_range.mpr hk)
    obtain ⟨t, ht⟩ := Option.isSome_iff_exists.mp this
    rw [ht]
    unfold zfty
    rw [ht]
    rfl
  · have := List.all_eq_true.mp (List.all_eq_true.mp a3 a (List.mem_range.mpr ha)) b (List.mem_range.mpr hb)
    rw [Bool.or_eq_true, decide_eq_true_eq, decide_eq_true_eq] at this
    exact this.resolve_left hne
def ztys (tc : Nat → ClassId) : List (ClassId × FieldType) := [(tc 0, .int), (tc 1, .char), (tc 2, .long), (tc 3, .byte), (tc 4, .object "MacrocosmModel$Scope")]
/-! the facts that every method is given -/
def zNcs : List (String × String) := [("java/lang/IndexOutOfBoundsException", "java/lang/IllegalStateException"), ("java/lang/IllegalArgumentException", "java/lang/IndexOutOfBoundsException")]
def zZ (A : Nat → Prop) (U : State) (H : Heap) : Prop := (∀ w ∈ zFw, va_Nw w U) ∧ (∀ q ∈ zNcs, va_Nc q.1 q.2 U) ∧ (∀ q ∈ zStr, ∃ a, vk_R q.1 q.2.1 q.2.2 a U) ∧ va_AO "MacrocosmModel$Scope" U ∧ vx_Zq Bundle.tN "UNASSIGNED_STACK" Bundle.steD A U H ∧ vx_Zq Bundle.tN "SUPPRESSED_SENTINEL" Bundle.listD A U H ∧ va_Z "java/lang/String" "COMPACT_STRINGS" "Z" (.int 1) A U H
theorem zZ_kept {A : Nat → Prop} {U : State} {H H1 : Heap} (h : zZ A U H) (hq : ∀ a : Nat, a < H.size → ¬ A a → H1[a]? = H[a]?) : zZ A U H1 := ⟨h.1, h.2.1, h.2.2.1, h.2.2.2.1, h.2.2.2.2.1.kept hq, h.2.2.2.2.2.1.kept hq, h.2.2.2.2.2.2.kept hq⟩
theorem zZ_narrow {A B : Nat → Prop} {U : State} {H : Heap} (h : zZ A U H) (hAB : ∀ q, B q → A q) : zZ B U H := ⟨h.1, h.2.1, h.2.2.1, h.2.2.2.1, h.2.2.2.2.1.narrow hAB, h.2.2.2.2.2.1.narrow hAB, h.2.2.2.2.2.2.narrow hAB⟩
def zkw : Jvm.Cond → Bool
  | .castable _ _ => true
  | .declares _ => true
  | .fieldLinkNest _ _ _ _ _ _ => true
  | _ => false
theorem zkw_all : zFw.all zkw = true := by decide +kernel
theorem zkw_warm {w : Jvm.Cond} {s U : State} (hW : s.WarmedH U.vm) (hk : zkw w = true) (h : va_Nw w s) : va_Nw w U := by
  cases w <;> first | exact va_Nw.warmC hW h | exact va_Nw.warmD hW h | exact va_Nw.warmF hW h | simp [zkw] at hk
theorem zZ_warm {A : Nat → Prop} {s U : State} {H : Heap} (hW : s.WarmedH U.vm) (h : zZ A s H) : zZ A U H :=
  ⟨fun w hw => zkw_warm hW (List.all_eq_true.mp zkw_all w hw) (h.1 w hw), fun q hq => (h.2.1 q hq).moved hW.alike, fun q hq => (h.2.2.1 q hq).elim fun a ha => ⟨a, ha.warm hW⟩, h.2.2.2.1.moved hW.alike, h.2.2.2.2.1.moved hW.alike, h.2.2.2.2.2.1.moved hW.alike, h.2.2.2.2.2.2.moved hW.alike⟩
def zC0 (p : Program) (s : State) (m : MethodId) (args : Array Value) (meth : Method) (c : Code) (cc : ByteArray) (own nm : String) (nL : Nat) (D : va_G) (tc : Nat → ClassId) (A : Nat → Prop) : Prop :=
  p.tables.exec = Jvm.exec ∧ c.code = cc ∧ s.vm.findClass own = some m.cls ∧ va_K D zcl (ztys tc) s ∧ (∀ w ∈ ztbl, w.before args s = true) ∧ zZ A s s.heap ∧ (∀ q, s.heap.size ≤ q → A q) ∧ (nm = "<init>" → meth.name = "<init>") ∧ c.maxLocals = nL
/-- what comes next, for every continuation of the lists' addresses -/
def zK (G : Heap → List Loc → Nat → Nat → JFrame → Prop) (m : MethodId) (D : va_G) (tc : Nat → ClassId) (rh : Nat → Int32) (A : Nat → Prop) (H0 : Heap) (nL : Nat) (code : List zI) (ad sp : Nat → Nat) (n : Nat) (q : zN) (kc ks : Nat) : Prop :=
  ∀ (ad' sp' : Nat → Nat) (H' : Heap) (locs' : List Loc) (lsC' : Array Slot), (∀ k, k < n → ad' k = ad k) → sp' 0 = sp 0 → va_P D zcl (zw tc ad' rh q.2.2.2.1) H' → va_D A (zw tc ad' rh q.2.2.2.1) → va_S A H0 H' locs' → lv_has lsC' nL (zls ad' sp' rh q.2.1) → zwf q.2.1 q.2.2.1 q.2.2.2.1 = true → n ≤ q.2.2.2.1.length → G H' locs' kc ks (F0 m (zpc code q.1) lsC' (zst ad' sp' rh q.2.2.1))
theorem zarrA {D : va_G} {tc : Nat → ClassId} {s : State} {cA : ClassId} {ty : FieldType} {ti : Nat} (hK : va_K D zcl (ztys tc ++ [(cA, ty)]) s) (h : (ztys tc)[ti]? = some (tc ti, ty)) : cA = tc ti := by
  have h1 : (ztys tc ++ [(cA, ty)])[5]? = some (cA, ty) := rfl
  have hlt : ti < (ztys tc).length := (List.getElem?_eq_some_iff.mp h).1
  have h2 : (ztys tc ++ [(cA, ty)])[ti]? = some (tc ti, ty) := by rw [List.getElem?_append_left hlt]; exact h
  have a1 := (hK.2 5 _ h1).2
  have a2 := (hK.2 ti _ h2).2
  cases ty with
  | object C =>
    obtain ⟨_, _, _, _, _, a1⟩ := a1
    obtain ⟨_, _, _, _, _, a2⟩ := a2
    exact Option.some.inj (a1.symm.trans a2)
  | _ => exact Option.some.inj ((show s.vm.findClass _ = some cA from a1).symm.trans (show s.vm.findClass _ = some (tc ti) from a2))
end
section
/-! A STEP OF THE LISTS IS A STEP OF THE MACHINE -/
theorem zobj_w : Jvm.Cond.instanceMethod objectInit ∈ ztbl ∧ Jvm.Cond.code objectInit ⟨#[0xb1]⟩ 1 none ∈ ztbl := ⟨zwd_to (j := 144) (by decide +kernel), zwd_to (j := 145) (by decide +kernel)⟩
theorem zdf {code : List zI} {ip : Nat} {i : Instr} {pc len : Nat} {ex : List Nat} {n : Nat} (h : (zln (i, pc, len, ex) && zft code ip (i, pc, len, ex)) = true) (hn : zlen i = n) : len = n ∧ zpc code (ip + 1) = pc + n := by
  rw [Bool.and_eq_true] at h
  subst hn
  exact ⟨of_decide_eq_true h.1, of_decide_eq_true h.2⟩
theorem zdx {code : List zI} {ip : Nat} {i : Instr} {pc len : Nat} {ex : List Nat} {n : Nat} {b : Bool} (h : (zln (i, pc, len, ex) && (zft code ip (i, pc, len, ex) && b)) = true) (hn : zlen i = n) : len = n ∧ zpc code (ip + 1) = pc + n ∧ b = true := by
  rw [Bool.and_eq_true, Bool.and_eq_true] at h
  subst hn
  exact ⟨of_decide_eq_true h.1, of_decide_eq_true h.2.1, h.2.2⟩
theorem ztg_to {code : List zI} {i : Instr} {pc len : Nat} {ex : List Nat} {off : Int} (h : ztg code (i, pc, len, ex) off = true) {t : Nat} (ht : ex = [t]) : (pc : Int) + off = (zpc code t : Int) := by
  subst ht
  exact of_decide_eq_true h
theorem zst_cons {ad sp : Nat → Nat} {rh : Nat → Int32} {v : Value} {st : List Value} : zst ad sp rh (v :: st) = zv ad sp rh v :: zst ad sp rh st := rfl
theorem zsum_eq {ad sp : Nat → Nat} {rh : Nat → Int32} (st : List Value) : ((zst ad sp rh st).map fun v => v.category).sum = zsum st := by
  induction st with
  | nil => rfl
  | cons v r ih =>
    rw [zst_cons, List.map_cons, List.sum_cons, ih, zv_cat]
    rfl
theorem zjump_to {b : Bool} {t : Option Nat} {off : Int} {code : List zI} {pc : Nat} {ls : zL} {st : List Value} {w : List zE} {q : zN} (h : zjump b t off code pc ls st w = some q) : ∃ t', t = some t' ∧ b = true ∧ (pc : Int) + off = (zpc code t' : Int) ∧ q = (t', ls, st, w, 0, 0) := by
  unfold zjump at h
  split at h
  · cases h
  · rename_i t'
    split at h
    · rename_i hb
      rw [Bool.and_eq_true, decide_eq_true_eq] at hb
      exact ⟨t', rfl, hb.1, hb.2, (Option.some.inj h).symm⟩
    · cases h
theorem zclamp {n : Int32} (h0 : 0 ≤ n.toInt) (h1 : n.toInt ≤ 60000) : n.toNatClampNeg ≤ 60000 := by
  have : n.toNatClampNeg = n.toInt.toNat := rfl
  omega
theorem znneg {n : Int32} (h0 : 0 ≤ n.toInt) : ¬ n < 0 := by
  rw [Int32.lt_iff_toInt_lt]
  have : (0 : Int32).toInt = 0 := by decide
  omega
theorem zdef_cv {ad : Nat → Nat} {rh : Nat → Int32} {l : List Value} (h : l.all zplain = true) : l.map (zv ad zz rh) = l := by
  induction l with
  | nil => rfl
  | cons v r ih =>
    rw [List.all_cons, Bool.and_eq_true] at h
    rw [List.map_cons, ih h.2]
    cases v <;> first | rfl | simp [zplain] at h
theorem zdef_wf {n : Nat} {l : List Value} (h : l.all zplain = true) : l.all (zwv n) = true := by
  refine List.all_eq_true.mpr fun v hv => ?_
  have h1 := List.all_eq_true.mp h v hv
  cases v <;> first | rfl | simp [zplain] at h1
theorem zww_app {w : List zE} {x : zE} (h : w.all (zwe w.length) = true) (hx : zwe (w.length + 1) x = true) : (w ++ [x]).all (zwe (w ++ [x]).length) = true := by
  rw [List.length_append, List.length_singleton, List.all_append, zww_le (Nat.le_succ _) h, List.all_cons, hx]
  rfl
theorem zww_set {w : List zE} {x : zE} {k : Nat} (h : w.all (zwe w.length) = true) (hx : zwe w.length x = true) : (w.set k x).all (zwe (w.set k x).length) = true := by
  rw [List.length_set]
  refine List.all_eq_true.mpr fun v hv => ?_
  rcases List.mem_or_eq_of_mem_set hv with hv | rfl
  · exact List.all_eq_true.mp h v hv
  · exact hx
theorem zast_to {ti ip : Nat} {ls : zL} {st : List Value} {w : List zE} {q : zN} (h : zast ti ip ls st w = some q) : ∃ (v : Value) (i : Int32) (a : Nat) (r : List Value) (n : Nat) (l : List (Nat × Value)), st = v :: .int i :: .ref a :: r ∧ w[a]? = some (.inl (ti, n, l)) ∧ (if ti = 2 then zisL v else zisI v) = true ∧ zin i n = true ∧ q = (ip + 1, ls, r, w.set a (.inl (ti, n, (i.toNatClampNeg, v) :: l)), 0, 0) := by
  unfold zast at h
  split at h
  · rename_i v i a r
    split at h
    · rename_i o ho
      obtain ⟨n, l⟩ := o
      split at h
      · rename_i hb
        rw [Bool.and_eq_true] at hb
        exact ⟨v, i, a, r, n, l, rfl, zarr_to ho, hb.1, hb.2, (Option.some.inj h).symm⟩
      · cases h
    · cases h
  · cases h
theorem zint_of {ad sp : Nat → Nat} {rh : Nat → Int32} {v : Value} {x : Int32} (h : zv ad sp rh v = .int x) : zint rh v = x := by
  cases v with
  | int y => exact Value.int.inj h
  | float u => exact Value.int.inj h
  | _ => cases h
section ZW
variable {p : Program} {l : Launch} {en : Env} {R : Room} {s : State} {m : MethodId} {args : Array Value} {below : List Frame} {meth : Method} {c : Code} {H : Heap} {locs : List Loc} {cells slots : Nat} {Q : State → Prop} {cc : ByteArray} {pc : Nat} {ls : Array Slot} {rest : List Value}
theorem zicmp (hx : p.tables.exec = Jvm.exec) (hb : c.code = cc) {co : ClassFile.Cond} {x y : Int32} {off : Int} {tgt : Nat} (hdg : decode cc pc = .ok (.if_icmp co off, 3)) (ht : (pc : Int) + off = (tgt : Int))
    (kt : zrel co x y → W p l en R s m args below meth c H locs cells slots Q (F0 m tgt ls rest)) (kf : ¬ zrel co x y → W p l en R s m args below meth c H locs cells slots Q (F0 m (pc + 3) ls rest)) : W p l en R s m args below meth c H locs cells slots Q (F0 m pc ls (.int y :: .int x :: rest)) := by
  cases co with
  | eq => exact lv_icmp_eq hx hb hdg ht kt kf
  | ne => exact lv_icmp_ne hx hb hdg ht kt (fun h => kf (fun h9 => h9 h))
  | lt => exact lv_icmp_lt hx hb hdg ht kt kf
  | ge => exact lv_icmp_ge hx hb hdg ht kt kf
  | gt => exact lv_icmp_gt hx hb hdg ht kt kf
  | le => exact lv_icmp_le hx hb hdg ht kt kf
theorem zifc (hx : p.tables.exec = Jvm.exec) (hb : c.code = cc) {co : ClassFile.Cond} {x : Int32} {off : Int} {tgt : Nat} (hdg : decode cc pc = .ok (.ifCond co off, 3)) (ht : (pc : Int) + off = (tgt : Int))
    (kt : zrel co x 0 → W p l en R s m args below meth c H locs cells slots Q (F0 m tgt ls rest)) (kf : ¬ zrel co x 0 → W p l en R s m args below meth c H locs cells slots Q (F0 m (pc + 3) ls rest)) : W p l en R s m args below meth c H locs cells slots Q (F0 m pc ls (.int x :: rest)) := by
  cases co with
  | eq => exact lv_if_eq hx hb hdg ht kt kf
  | ne => exact lv_if_ne hx hb hdg ht kt (fun h => kf (fun h9 => h9 h))
  | lt => exact lv_if_lt hx hb hdg ht kt kf
  | ge => exact lv_if_ge hx hb hdg ht kt kf
  | gt => exact lv_if_gt hx hb hdg ht kt kf
  | le => exact lv_if_le hx hb hdg ht kt kf
end ZW
set_option maxHeartbeats 4000000 in
theorem zstep_ok {p : Program} {l : Launch} {en : Env} {R : Room} {s : State} {m : MethodId} {args : Array Value} {below : List Frame} {meth : Method} {c : Code} {H : Heap} {locs : List Loc} {cells slots : Nat} {Q : State → Prop}
    {cc : ByteArray} {own nm : String} {nL : Nat} {D : va_G} {tc : Nat → ClassId} {A : Nat → Prop} {rh : Nat → Int32} {ad sp : Nat → Nat} {cf : zF} {isL : Bool} {code : List zI} {ip : Nat} {ei : zI} {ls : zL} {st : List Value} {w : List zE} {q : zN} {lsC : Array Slot}
    (C : zC0 p s m args meth c cc own nm nL D tc A) (hcf : zcfok cf rh) (hscr : isL = true → va_X (sp 0) cf.2.2.1 rh s s.heap ∧ sp 0 < s.heap.size ∧ ¬ A (sp 0)) (hR : 1 ≤ R.frames ∧ 20 ≤ R.locals)
    (he : code[ip]? = some ei) (hck : zchk own nm cc code ip ei = true) (hkind : zkind ei.1 ei.2.2.2 = 2) (hst : zstep isL cf nL code ei ip ls st w = some q)
    (hP : va_P D zcl (zw tc ad rh w) H) (hD : va_D A (zw tc ad rh w)) (hS : va_S A s.heap H locs) (hl : lv_has lsC nL (zls ad sp rh ls)) (hw : zwf ls st w = true)
    (hrc : cells + q.2.2.2.2.1 ≤ R.cells) (hrs : slots + q.2.2.2.2.2 ≤ R.slots)
    (hk : zK (fun H locs k n g => W p l en R s m args below meth c H locs k n Q g) m D tc rh A s.heap nL code ad sp w.length q (cells + q.2.2.2.2.1) (slots + q.2.2.2.2.2)) :
    W p l en R s m args below meth c H locs cells slots Q (F0 m (zpc code ip) lsC (zst ad sp rh st)) := by
  obtain ⟨i, pc, len, ex⟩ := ei
  obtain ⟨hx, hb, hown, hK, hts, hZ, hA, hnm, hmL⟩ := C
  obtain ⟨hw1, hw2, hw3⟩ := zwf_to hw
  have hpc : zpc code ip = pc := by simp [zpc, he]
  rw [hpc]
  unfold zchk at hck
  rw [Bool.and_eq_true, decide_eq_true_eq] at hck
  obtain ⟨hdec, hck⟩ := hck
  replace hdec : decode cc pc = .ok (i, len) := hdec
  have hgo : ∀ (ip' : Nat) (ls' : zL) (st' : List Value) (lsC' : Array Slot), q = (ip', ls', st', w, 0, 0) → lv_has lsC' nL (zls ad sp rh ls') → zwl w.length ls' = true → st'.all (zwv w.length) = true → W p l en R s m args below meth c H locs cells slots Q (F0 m (zpc code ip') lsC' (zst ad sp rh st')) := by
    intro ip' ls' st' lsC' hq h1 h2 h3
    subst hq
    exact hk ad sp H locs lsC' (fun _ _ => rfl) rfl hP hD hS h1 (zwf_of hw1 h2 h3) (Nat.le_refl _)
  have hgp : ∀ (v : Value), q = (ip + 1, ls, v :: st, w, 0, 0) → zwv w.length v = true → W p l en R s m args below meth c H locs cells slots Q (F0 m (zpc code (ip + 1)) lsC (zv ad sp rh v :: zst ad sp rh st)) := fun v hq hv => hgo _ _ (v :: st) lsC hq hl hw2 (by rw [List.all_cons, hv, hw3]; rfl)
  cases i with
  | iload_n k =>
    obtain ⟨rfl, hft⟩ := zdf (n := 1) hck rfl
    obtain ⟨v, hv, hf, hq⟩ := zload_to (show zload zisI k.val ip ls st w = some q from hst)
    obtain ⟨x9, hx9⟩ := zisI_to (ad := ad) (sp := sp) (rh := rh) hf
    have g := hgp v hq (zwl_get hw2 hv)
    rw [hft, hx9] at g
    exact lv_iload_n hx hb hdec rfl (by rw [zl_at hl hv, hx9]) g
  | iload k =>
    obtain ⟨rfl, hft⟩ := zdf (n := 2) hck rfl
    obtain ⟨v, hv, hf, hq⟩ := zload_to (show zload zisI k ip ls st w = some q from hst)
    obtain ⟨x9, hx9⟩ := zisI_to (ad := ad) (sp := sp) (rh := rh) hf
    have g := hgp v hq (zwl_get hw2 hv)
    rw [hft, hx9] at g
    exact lv_iload hx hb hdec (by rw [zl_at hl hv, hx9]) g
  | aload_n k =>
    obtain ⟨rfl, hft⟩ := zdf (n := 1) hck rfl
    obtain ⟨v, hv, hf, hq⟩ := zload_to (show zload zisR k.val ip ls st w = some q from hst)
    have g := hgp v hq (zwl_get hw2 hv)
    rcases zisR_to (ad := ad) (sp := sp) (rh := rh) hf with hx9 | ⟨x9, hx9⟩
    · rw [hft, hx9] at g
      exact lv_aload_nN hx hb hdec rfl (by rw [zl_at hl hv, hx9]) g
    · rw [hft, hx9] at g
      exact lv_aload_n hx hb hdec rfl (by rw [zl_at hl hv, hx9]) g
  | aload k =>
    obtain ⟨rfl, hft⟩ := zdf (n := 2) hck rfl
    obtain ⟨v, hv, hf, hq⟩ := zload_to (show zload zisR k ip ls st w = some q from hst)
    have g := hgp v hq (zwl_get hw2 hv)
    rcases zisR_to (ad := ad) (sp := sp) (rh := rh) hf with hx9 | ⟨x9, hx9⟩
    · rw [hft, hx9] at g
      exact lv_aloadN hx hb hdec (by rw [zl_at hl hv, hx9]) g
    · rw [hft, hx9] at g
      exact lv_aload hx hb hdec (by rw [zl_at hl hv, hx9]) g
  | lload_n k =>
    obtain ⟨rfl, hft⟩ := zdf (n := 1) hck rfl
    obtain ⟨v, hv, hf, hq⟩ := zload_to (show zload zisL k.val ip ls st w = some q from hst)
    have g := hgp v hq (zwl_get hw2 hv)
    obtain ⟨x9, rfl⟩ := zisL_to hf
    rw [hft] at g
    exact lv_lload_n hx hb hdec rfl (zl_at hl hv) g
  | lload k =>
    obtain ⟨rfl, hft⟩ := zdf (n := 2) hck rfl
    obtain ⟨v, hv, hf, hq⟩ := zload_to (show zload zisL k ip ls st w = some q from hst)
    have g := hgp v hq (zwl_get hw2 hv)
    obtain ⟨x9, rfl⟩ := zisL_to hf
    rw [hft] at g
    exact lv_lload hx hb hdec (zl_at hl hv) g
  | istore_n k =>
    obtain ⟨rfl, hft⟩ := zdf (n := 1) hck rfl
    obtain ⟨v, r, rfl, hf, hn, hq⟩ := zstore_to (show zstore zisI nL k.val ip ls st w = some q from hst)
    obtain ⟨x9, hx9⟩ := zisI_to (ad := ad) (sp := sp) (rh := rh) hf
    rw [List.all_cons, Bool.and_eq_true] at hw3
    rw [zst_cons, hx9]
    refine lv_istore_n (lv' := zls ad sp rh (zset k.val v ls)) hx hb hdec rfl hl hn (by rw [← hx9]; exact zls_set) (fun ls' hl' => ?_)
    have g := hgo _ _ r ls' hq hl' (zwl_set hw2 hw3.1) hw3.2
    rw [hft] at g
    exact g
  | istore k =>
    obtain ⟨rfl, hft⟩ := zdf (n := 2) hck rfl
    obtain ⟨v, r, rfl, hf, hn, hq⟩ := zstore_to (show zstore zisI nL k ip ls st w = some q from hst)
    obtain ⟨x9, hx9⟩ := zisI_to (ad := ad) (sp := sp) (rh := rh) hf
    rw [List.all_cons, Bool.and_eq_true] at hw3
    rw [zst_cons, hx9]
    refine lv_istore (lv' := zls ad sp rh (zset k v ls)) hx hb hdec hl hn (by rw [← hx9]; exact zls_set) (fun ls' hl' => ?_)
    have g := hgo _ _ r ls' hq hl' (zwl_set hw2 hw3.1) hw3.2
    rw [hft] at g
    exact g
  | astore_n k =>
    obtain ⟨rfl, hft⟩ := zdf (n := 1) hck rfl
    obtain ⟨v, r, rfl, hf, hn, hq⟩ := zstore_to (show zstore zisR nL k.val ip ls st w = some q from hst)
    rw [List.all_cons, Bool.and_eq_true] at hw3
    rw [zst_cons]
    rcases zisR_to (ad := ad) (sp := sp) (rh := rh) hf with hx9 | ⟨x9, hx9⟩
    · rw [hx9]
      refine lv_astore_nN (lv' := zls ad sp rh (zset k.val v ls)) hx hb hdec rfl hl hn (by rw [← hx9]; exact zls_set) (fun ls' hl' => ?_)
      have g := hgo _ _ r ls' hq hl' (zwl_set hw2 hw3.1) hw3.2
      rw [hft] at g
      exact g
    · rw [hx9]
      refine lv_astore_n (lv' := zls ad sp rh (zset k.val v ls)) hx hb hdec rfl hl hn (by rw [← hx9]; exact zls_set) (fun ls' hl' => ?_)
      have g := hgo _ _ r ls' hq hl' (zwl_set hw2 hw3.1) hw3.2
      rw [hft] at g
      exact g
  | astore k =>
    obtain ⟨rfl, hft⟩ := zdf (n := 2) hck rfl
    obtain ⟨v, r, rfl, hf, hn, hq⟩ := zstore_to (show zstore zisR nL k ip ls st w = some q from hst)
    rw [List.all_cons, Bool.and_eq_true] at hw3
    rw [zst_cons]
    rcases zisR_to (ad := ad) (sp := sp) (rh := rh) hf with hx9 | ⟨x9, hx9⟩
    · rw [hx9]
      refine lv_astoreN (lv' := zls ad sp rh (zset k v ls)) hx hb hdec hl hn (by rw [← hx9]; exact zls_set) (fun ls' hl' => ?_)
      have g := hgo _ _ r ls' hq hl' (zwl_set hw2 hw3.1) hw3.2
      rw [hft] at g
      exact g
    · rw [hx9]
      refine lv_astore (lv' := zls ad sp rh (zset k v ls)) hx hb hdec hl hn (by rw [← hx9]; exact zls_set) (fun ls' hl' => ?_)
      have g := hgo _ _ r ls' hq hl' (zwl_set hw2 hw3.1) hw3.2
      rw [hft] at g
      exact g
  | lstore_n k =>
    obtain ⟨rfl, hft⟩ := zdf (n := 1) hck rfl
    obtain ⟨v, r, rfl, hf, hn, hq⟩ := zstore2_to (show zstore2 nL k.val ip ls st w = some q from hst)
    obtain ⟨x9, rfl⟩ := zisL_to hf
    rw [List.all_cons, Bool.and_eq_true] at hw3
    refine lv_lstore_n (lv' := zls ad sp rh (zset2 k.val (.long x9) ls)) hx hb hdec rfl hl hn (zls_set2 (ad := ad) (sp := sp) (rh := rh) (v := .long x9)) (fun ls' hl' => ?_)
    have g := hgo _ _ r ls' hq hl' (zwl_set2 hw2 hw3.1) hw3.2
    rw [hft] at g
    exact g
  | lstore k =>
    obtain ⟨rfl, hft⟩ := zdf (n := 2) hck rfl
    obtain ⟨v, r, rfl, hf, hn, hq⟩ := zstore2_to (show zstore2 nL k ip ls st w = some q from hst)
    obtain ⟨x9, rfl⟩ := zisL_to hf
    rw [List.all_cons, Bool.and_eq_true] at hw3
    refine lv_lstore (lv' := zls ad sp rh (zset2 k (.long x9) ls)) hx hb hdec hl hn (zls_set2 (ad := ad) (sp := sp) (rh := rh) (v := .long x9)) (fun ls' hl' => ?_)
    have g := hgo _ _ r ls' hq hl' (zwl_set2 hw2 hw3.1) hw3.2
    rw [hft] at g
    exact g
  | iconst n =>
    obtain ⟨rfl, hft⟩ := zdf (n := 1) hck rfl
    have g := hgp _ (Option.some.inj (show some (ip + 1, ls, Value.int (Int32.ofInt n) :: st, w, 0, 0) = some q from hst)).symm rfl
    rw [hft] at g
    exact lv_iconst hx hb hdec rfl g
  | lconst n =>
    obtain ⟨rfl, hft⟩ := zdf (n := 1) hck rfl
    have g := hgp _ (Option.some.inj (show some (ip + 1, ls, Value.long (Int64.ofNat n.val) :: st, w, 0, 0) = some q from hst)).symm rfl
    rw [hft] at g
    exact lv_lconst hx hb hdec rfl g
  | bipush n =>
    obtain ⟨rfl, hft⟩ := zdf (n := 2) hck rfl
    have g := hgp _ (Option.some.inj (show some (ip + 1, ls, Value.int (Int8.ofInt n).toInt32 :: st, w, 0, 0) = some q from hst)).symm rfl
    rw [hft] at g
    exact lv_bipush hx hb hdec rfl g
  | sipush n =>
    obtain ⟨rfl, hft⟩ := zdf (n := 3) hck rfl
    have g := hgp _ (Option.some.inj (show some (ip + 1, ls, Value.int (Int16.ofInt n).toInt32 :: st, w, 0, 0) = some q from hst)).symm rfl
    rw [hft] at g
    exact lv_sipush hx hb hdec rfl g
  | aconst_null =>
    obtain ⟨rfl, hft⟩ := zdf (n := 1) hck rfl
    have g := hgp _ (Option.some.inj (show some (ip + 1, ls, Value.null :: st, w, 0, 0) = some q from hst)).symm rfl
    rw [hft] at g
    exact lv_null hx hb hdec g
  | ldc idx =>
    obtain ⟨rfl, hft, hwd⟩ := zdx (n := 2) hck rfl
    replace hst : z_ldc ex ip ls st w = some q := hst
    unfold z_ldc at hst
    split at hst
    · rename_i j v
      have g := hgp _ (Option.some.inj (show some (ip + 1, ls, Value.int (Int32.ofNat v) :: st, w, 0, 0) = some q from hst)).symm rfl
      rw [hft] at g
      exact lv_ldc hx hb hown (hts _ (zwd_to hwd)) hdec g
    · cases hst
  | getstatic idx =>
    obtain ⟨rfl, hft, hwd⟩ := zdx (n := 3) hck rfl
    have g := hgp _ (Option.some.inj (show some (ip + 1, ls, Value.int 1 :: st, w, 0, 0) = some q from hst)).symm rfl
    rw [hft] at g
    dsimp only at hwd
    split at hwd
    · exact va_gets hx hb hZ.2.2.2.2.2.2 hS hown (hts _ (zwd_to hwd)) (fun _ h9 => h9) hdec g
    · cases hwd
  | dup =>
    obtain ⟨rfl, hft⟩ := zdf (n := 1) hck rfl
    replace hst : z_dup ip ls st w = some q := hst
    unfold z_dup at hst
    split at hst
    · rename_i v r
      split at hst
      · rename_i hb9
        rw [List.all_cons, Bool.and_eq_true] at hw3
        have g := hgo _ _ (v :: v :: r) lsC (Option.some.inj hst).symm hl hw2 (by rw [List.all_cons, List.all_cons, hw3.1, hw3.2]; rfl)
        rw [hft] at g
        exact lv_dup hx hb hdec ((zv_cat v).trans (Nat.eq_of_beq_eq_true hb9)) g
      · cases hst
    · cases hst
  | pop =>
    obtain ⟨rfl, hft⟩ := zdf (n := 1) hck rfl
    replace hst : z_pop ip ls st w = some q := hst
    unfold z_pop at hst
    split at hst
    · rename_i v r
      split at hst
      · rename_i hb9
        rw [List.all_cons, Bool.and_eq_true] at hw3
        have g := hgo _ _ r lsC (Option.some.inj hst).symm hl hw2 hw3.2
        rw [hft] at g
        exact lv_pop hx hb hdec ((zv_cat v).trans (Nat.eq_of_beq_eq_true hb9)) g
      · cases hst
    · cases hst
  | iadd =>
    obtain ⟨rfl, hft⟩ := zdf (n := 1) hck rfl
    replace hst : z_iadd ip ls st w = some q := hst
    unfold z_iadd at hst
    split at hst
    · rename_i y x r
      rw [List.all_cons, List.all_cons, Bool.and_eq_true, Bool.and_eq_true] at hw3
      have g := hgo _ _ (.int (x + y) :: r) lsC (Option.some.inj hst).symm hl hw2 (by rw [List.all_cons, hw3.2.2]; rfl)
      rw [hft] at g
      exact lv_iadd hx hb hdec g
    · rename_i y u r
      split at hst
      · rename_i hb9
        rw [Bool.and_eq_true, decide_eq_true_eq, decide_eq_true_eq] at hb9
        obtain ⟨rfl, rfl⟩ := hb9
        rw [List.all_cons, List.all_cons, Bool.and_eq_true, Bool.and_eq_true] at hw3
        have g := hgo _ _ (.float 5 :: r) lsC (Option.some.inj hst).symm hl hw2 (by rw [List.all_cons, hw3.2.2]; rfl)
        rw [hft, zst_cons, show zv ad sp rh (.float 5) = .int (rh 2 + 1) from by rw [← hcf.2.2.2.2.1]; rfl] at g
        exact lv_iadd hx hb hdec g
      · cases hst
    · cases hst
  | isub =>
    obtain ⟨rfl, hft⟩ := zdf (n := 1) hck rfl
    replace hst : zbin (· - ·) ip ls st w = some q := hst
    unfold zbin at hst
    split at hst
    · rename_i y x r
      rw [List.all_cons, List.all_cons, Bool.and_eq_true, Bool.and_eq_true] at hw3
      have g := hgo _ _ (.int (x - y) :: r) lsC (Option.some.inj hst).symm hl hw2 (by rw [List.all_cons, hw3.2.2]; rfl)
      rw [hft] at g
      exact lv_isub hx hb hdec g
    · cases hst
  | imul =>
    obtain ⟨rfl, hft⟩ := zdf (n := 1) hck rfl
    replace hst : zbin (· * ·) ip ls st w = some q := hst
    unfold zbin at hst
    split at hst
    · rename_i y x r
      rw [List.all_cons, List.all_cons, Bool.and_eq_true, Bool.and_eq_true] at hw3
      have g := hgo _ _ (.int (x * y) :: r) lsC (Option.some.inj hst).symm hl hw2 (by rw [List.all_cons, hw3.2.2]; rfl)
      rw [hft] at g
      exact lv_imul hx hb hdec g
    · cases hst
  | iand =>
    obtain ⟨rfl, hft⟩ := zdf (n := 1) hck rfl
    replace hst : z_iand cf ip ls st w = some q := hst
    unfold z_iand at hst
    split at hst
    · rename_i y x r
      rw [List.all_cons, List.all_cons, Bool.and_eq_true, Bool.and_eq_true] at hw3
      have g := hgo _ _ (.int (x &&& y) :: r) lsC (Option.some.inj hst).symm hl hw2 (by rw [List.all_cons, hw3.2.2]; rfl)
      rw [hft] at g
      exact lv_iand hx hb hdec g
    · rename_i y u r
      split at hst
      · rename_i hb9
        rw [Bool.and_eq_true, decide_eq_true_eq, decide_eq_true_eq] at hb9
        obtain ⟨rfl, rfl⟩ := hb9
        rw [List.all_cons, List.all_cons, Bool.and_eq_true, Bool.and_eq_true] at hw3
        split at hst
        · rename_i v9 hv9
          have g := hgo _ _ (.int v9 :: r) lsC (Option.some.inj hst).symm hl hw2 (by rw [List.all_cons, hw3.2.2]; rfl)
          rw [hft, zst_cons, show zv ad sp rh (.int v9) = .int (rh 0 &&& 31) from by rw [hcf.1 v9 hv9]; rfl] at g
          exact lv_iand hx hb hdec g
        · have g := hgo _ _ (.float 6 :: r) lsC (Option.some.inj hst).symm hl hw2 (by rw [List.all_cons, hw3.2.2]; rfl)
          rw [hft, zst_cons, show zv ad sp rh (.float 6) = .int (rh 0 &&& 31) from by rw [← hcf.2.2.2.2.2.1]; rfl] at g
          exact lv_iand hx hb hdec g
      · cases hst
    · cases hst
  | iinc i9 n9 =>
    obtain ⟨rfl, hft⟩ := zdf (n := 3) hck rfl
    replace hst : z_iinc nL i9 n9 ip ls st w = some q := hst
    unfold z_iinc at hst
    split at hst
    · rename_i x hx9
      split at hst
      · rename_i hb9
        obtain ⟨j, hj⟩ := zl_ix (ad := ad) (sp := sp) (rh := rh) hx9
        refine lv_iinc (v := x + Int32.ofInt n9) (lv' := zls ad sp rh (zset i9 (.int (x + Int32.ofInt n9)) ls)) hx hb hdec hl (k := j) hj rfl (Nat.le_of_ble_eq_true hb9) (zls_set (ad := ad) (sp := sp) (rh := rh) (v := .int (x + Int32.ofInt n9))) (fun ls' hl' => ?_)
        have g := hgo _ _ st ls' (Option.some.inj hst).symm hl' (zwl_set hw2 rfl) hw3
        rw [hft] at g
        exact g
      · cases hst
    · cases hst
  | i2l =>
    obtain ⟨rfl, hft⟩ := zdf (n := 1) hck rfl
    replace hst : z_i2l ip ls st w = some q := hst
    unfold z_i2l at hst
    split at hst
    · rename_i x r
      rw [List.all_cons, Bool.and_eq_true] at hw3
      have g := hgo _ _ (.long x.toInt64 :: r) lsC (Option.some.inj hst).symm hl hw2 (by rw [List.all_cons, hw3.2]; rfl)
      rw [hft] at g
      exact lv_i2l hx hb hdec rfl g
    · cases hst
  | i2c =>
    obtain ⟨rfl, hft⟩ := zdf (n := 1) hck rfl
    replace hst : z_i2c ip ls st w = some q := hst
    unfold z_i2c at hst
    split at hst
    · rename_i x r
      rw [List.all_cons, Bool.and_eq_true] at hw3
      have g := hgo _ _ (.int (x.toUInt32 % 65536).toInt32 :: r) lsC (Option.some.inj hst).symm hl hw2 (by rw [List.all_cons, hw3.2]; rfl)
      rw [hft] at g
      exact lv_i2c hx hb hdec rfl g
    · rename_i u r
      rw [List.all_cons, Bool.and_eq_true] at hw3
      split at hst
      · rename_i hb9
        rw [decide_eq_true_eq] at hb9
        subst hb9
        have g := hgo _ _ (.float 3 :: r) lsC (Option.some.inj hst).symm hl hw2 (by rw [List.all_cons, hw3.2]; rfl)
        rw [hft, zst_cons] at g
        exact lv_i2c hx hb hdec (show ((rh 1).toUInt32 % 65536).toInt32 = rh 3 from hcf.2.2.1.symm) g
      · split at hst
        · rename_i hb9
          rw [decide_eq_true_eq] at hb9
          subst hb9
          have g := hgo _ _ (.float 4 :: r) lsC (Option.some.inj hst).symm hl hw2 (by rw [List.all_cons, hw3.2]; rfl)
          rw [hft, zst_cons] at g
          exact lv_i2c hx hb hdec (show ((rh 2).toUInt32 % 65536).toInt32 = rh 4 from hcf.2.2.2.1.symm) g
        · cases hst
    · cases hst
  | lcmp =>
    obtain ⟨rfl, hft⟩ := zdf (n := 1) hck rfl
    replace hst : z_lcmp ip ls st w = some q := hst
    unfold z_lcmp at hst
    split at hst
    · rename_i y x r
      rw [List.all_cons, List.all_cons, Bool.and_eq_true, Bool.and_eq_true] at hw3
      have g := hgo _ _ (.int (lg_cmp x y) :: r) lsC (Option.some.inj hst).symm hl hw2 (by rw [List.all_cons, hw3.2.2]; rfl)
      rw [hft] at g
      exact W.lcmp hx hb hdec g
    · cases hst
  | goto off =>
    replace hck : (zln (Instr.goto off, pc, len, ex) && ztg code (Instr.goto off, pc, len, ex) off) = true := hck
    rw [Bool.and_eq_true] at hck
    obtain rfl : len = 3 := of_decide_eq_true hck.1
    replace hst : z_goto ex ls st w = some q := hst
    unfold z_goto at hst
    split at hst
    · rename_i t
      exact lv_goto hx hb hdec (ztg_to hck.2 rfl) (hgo _ _ st lsC (Option.some.inj hst).symm hl hw2 hw3)
    · cases hst
  | if_icmp co off =>
    obtain ⟨rfl, hft, htg⟩ := zdx (n := 3) hck rfl
    replace hst : z_icmp cf co ex ip ls st w = some q := hst
    unfold z_icmp at hst
    split at hst
    · rename_i b9 a9 r
      rw [List.all_cons, List.all_cons, Bool.and_eq_true, Bool.and_eq_true] at hw3
      rcases zbr_to hst with ⟨t, hr, hex, hq⟩ | ⟨hr, hq⟩
      · obtain ⟨x, y, h1, h2, h3, h4⟩ := zcmp_to (ad := ad) (sp := sp) hcf hr
        rw [zst_cons, zst_cons, h1, h2]
        exact zicmp hx hb hdec (ztg_to htg hex) (fun _ => hgo _ _ r lsC hq hl hw2 hw3.2.2) (fun h9 => absurd (h3 rfl) h9)
      · obtain ⟨x, y, h1, h2, h3, h4⟩ := zcmp_to (ad := ad) (sp := sp) hcf hr
        have g := hgo _ _ r lsC hq hl hw2 hw3.2.2
        rw [hft] at g
        rw [zst_cons, zst_cons, h1, h2]
        obtain ⟨t, hex⟩ : ∃ t, ex = [t] := by
          unfold ztg at htg
          dsimp only at htg
          split at htg
          · exact ⟨_, rfl⟩
          · cases htg
        exact zicmp hx hb hdec (ztg_to htg hex) (fun h9 => absurd h9 (h4 rfl)) (fun _ => g)
    · cases hst
  | ifCond co off =>
    obtain ⟨rfl, hft, htg⟩ := zdx (n := 3) hck rfl
    replace hst : z_if cf co ex ip ls st w = some q := hst
    unfold z_if at hst
    split at hst
    · rename_i a9 r
      rw [List.all_cons, Bool.and_eq_true] at hw3
      rcases zbr_to hst with ⟨t, hr, hex, hq⟩ | ⟨hr, hq⟩
      · obtain ⟨x, y, h1, h2, h3, h4⟩ := zcmp_to (ad := ad) (sp := sp) hcf hr
        obtain rfl : 0 = y := Value.int.inj h2
        rw [zst_cons, h1]
        exact zifc hx hb hdec (ztg_to htg hex) (fun _ => hgo _ _ r lsC hq hl hw2 hw3.2) (fun h9 => absurd (h3 rfl) h9)
      · obtain ⟨x, y, h1, h2, h3, h4⟩ := zcmp_to (ad := ad) (sp := sp) hcf hr
        obtain rfl : 0 = y := Value.int.inj h2
        have g := hgo _ _ r lsC hq hl hw2 hw3.2
        rw [hft] at g
        rw [zst_cons, h1]
        obtain ⟨t, hex⟩ : ∃ t, ex = [t] := by
          unfold ztg at htg
          dsimp only at htg
          split at htg
          · exact ⟨_, rfl⟩
          · cases htg
        exact zifc hx hb hdec (ztg_to htg hex) (fun h9 => absurd h9 (h4 rfl)) (fun _ => g)
    · cases hst
  | ifnull off =>
    obtain ⟨rfl, hft, htg⟩ := zdx (n := 3) hck rfl
    replace hst : z_ifnull ex ip ls st w = some q := hst
    unfold z_ifnull at hst
    split at hst
    · rename_i r
      rw [List.all_cons, Bool.and_eq_true] at hw3
      rcases zbr_to hst with ⟨t, hr, hex, hq⟩ | ⟨hr, hq⟩
      · exact lv_ifnullN hx hb hdec (ztg_to htg hex) (hgo _ _ r lsC hq hl hw2 hw3.2)
      · cases hr
    · rename_i a9 r
      rw [List.all_cons, Bool.and_eq_true] at hw3
      rcases zbr_to hst with ⟨t, hr, hex, hq⟩ | ⟨hr, hq⟩
      · cases hr
      · have g := hgo _ _ r lsC hq hl hw2 hw3.2
        rw [hft] at g
        exact lv_ifnull hx hb hdec g
    · cases hst
  | ifnonnull off =>
    obtain ⟨rfl, hft, htg⟩ := zdx (n := 3) hck rfl
    replace hst : z_ifnonnull ex ip ls st w = some q := hst
    unfold z_ifnonnull at hst
    split at hst
    · rename_i r
      rw [List.all_cons, Bool.and_eq_true] at hw3
      rcases zbr_to hst with ⟨t, hr, hex, hq⟩ | ⟨hr, hq⟩
      · cases hr
      · have g := hgo _ _ r lsC hq hl hw2 hw3.2
        rw [hft] at g
        exact lv_ifnonnullN hx hb hdec g
    · rename_i a9 r
      rw [List.all_cons, Bool.and_eq_true] at hw3
      rcases zbr_to hst with ⟨t, hr, hex, hq⟩ | ⟨hr, hq⟩
      · exact lv_ifnonnull hx hb hdec (ztg_to htg hex) (hgo _ _ r lsC hq hl hw2 hw3.2)
      · cases hr
    · cases hst
  | tableswitch d lo hi offs =>
    replace hst : z_tsw cf d lo hi offs code pc ex ls st w = some q := hst
    unfold z_tsw at hst
    split at hst
    · rename_i x r
      rw [List.all_cons, Bool.and_eq_true] at hw3
      split at hst
      · rename_i hb9
        obtain ⟨t, ht, -, hoff, hq⟩ := zjump_to hst
        rw [Bool.or_eq_true, decide_eq_true_eq, decide_eq_true_eq] at hb9
        exact lv_tableOut hx hb hdec hb9 hoff (hgo _ _ r lsC hq hl hw2 hw3.2)
      · rename_i hb9
        rw [Bool.or_eq_false_iff, decide_eq_false_iff_not, decide_eq_false_iff_not] at hb9
        split at hst
        · rename_i off ho
          obtain ⟨t, ht, -, hoff, hq⟩ := zjump_to hst
          exact lv_tableIn hx hb hdec hb9.1 hb9.2 ho hoff (hgo _ _ r lsC hq hl hw2 hw3.2)
        · cases hst
    · rename_i u r
      rw [List.all_cons, Bool.and_eq_true] at hw3
      split at hst
      · rename_i q9 hq9
        split at hst
        · rename_i hb9
          rw [decide_eq_true_eq] at hb9
          obtain ⟨t, ht, -, hoff, hq⟩ := zjump_to hst
          have h2 := (hcf.2.1 _ _ hq9).1
          exact lv_tableOut hx hb hdec (Or.inr (by omega)) hoff (hgo _ _ r lsC hq hl hw2 hw3.2)
        · cases hst
      · cases hst
    · cases hst
  | lookupswitch d ps =>
    replace hst : z_lsw d ps code pc ex ls st w = some q := hst
    unfold z_lsw at hst
    split at hst
    · rename_i x r
      rw [List.all_cons, Bool.and_eq_true] at hw3
      obtain ⟨t, ht, hb9, hoff, hq⟩ := zjump_to hst
      exact lv_lookup hx hb hdec hb9 rfl hoff (hgo _ _ r lsC hq hl hw2 hw3.2)
    · cases hst
  | getfield idx =>
    obtain ⟨rfl, hft, hwd⟩ := zdx (n := 3) hck rfl
    replace hst : z_getf ex ip ls st w = some q := hst
    unfold z_getf at hst
    split at hst
    · rename_i ci k ex9 a r
      rw [List.all_cons, Bool.and_eq_true] at hw3
      split at hst
      · cases hst
      · rename_i fs hfs
        split at hst
        · rename_i v hv
          split at hst
          · cases hst
          · rename_i hnd
            have hob := zobj_to hfs
            have hww := List.all_eq_true.mp hw1 _ (List.mem_of_getElem? hob)
            have g := hgo _ _ (v :: r) lsC (Option.some.inj hst).symm hl hw2 (by rw [List.all_cons, List.all_eq_true.mp hww v (List.mem_of_getElem? hv), hw3.2]; rfl)
            rw [hft, zst_cons, zv_nd (sp' := zz) hnd] at g
            have hv' : (fs.map (zv ad zz rh))[k]? = some (zv ad zz rh v) := by rw [List.getElem?_map, hv]; rfl
            dsimp only at hwd
            split at hwd
            · rename_i ci' k' j' heq
              obtain ⟨rfl, rfl, -⟩ : ci = ci' ∧ k = k' ∧ ex9 = [j'] := by simpa using heq
              split at hwd
              · rename_i cq hcq
                obtain ⟨cC, cT, cN⟩ := cq
                rw [Bool.and_eq_true, decide_eq_true_eq] at hwd
                exact va_get (Ts := ztbl) (C := cC) (T := cT) (N := cN) hx hb hts (zcl_to hcq).1 hown hK hP a (zw_at hob) hcq k hwd.1 (hts _ (zwd_to hwd.2)) (fun _ h9 => h9) hv' hdec g
              · cases hwd
            · rename_i ci' k' f' y' heq
              obtain ⟨rfl, rfl, -⟩ : ci = ci' ∧ k = k' ∧ ex9 = [f', y'] := by simpa using heq
              split at hwd
              · rename_i cq hcq
                obtain ⟨cC, cT, cN⟩ := cq
                rw [Bool.and_eq_true, decide_eq_true_eq, decide_eq_true_eq] at hwd
                exact va_getN (Ts := ztbl) (C := cC) (T := cT) (N := cN) hx hb hts (zcl_to hcq).1 hown hK hP a (zw_at hob) hcq k hwd.1 (va_Nw.use rfl (hZ.1 _ (List.mem_of_getElem? hwd.2))) (fun _ h9 => h9) hv' hdec g
              · cases hwd
            · cases hwd
        · cases hst
    · cases hst
  | putfield idx =>
    obtain ⟨rfl, hft, hwd⟩ := zdx (n := 3) hck rfl
    replace hst : z_putf ex ip ls st w = some q := hst
    unfold z_putf at hst
    split at hst
    · rename_i ci k ex9 v a r
      rw [List.all_cons, List.all_cons, Bool.and_eq_true, Bool.and_eq_true] at hw3
      split at hst
      · rename_i fs cq hfs hcq
        obtain ⟨cC, cT, cN⟩ := cq
        split at hst
        · rename_i hb9
          rw [Bool.and_eq_true] at hb9
          have hob := zobj_to hfs
          have hww := List.all_eq_true.mp hw1 _ (List.mem_of_getElem? hob)
          obtain ⟨hn1, hf1, hv1, hnd⟩ := zfit_to (ad := ad) (sp := sp) (rh := rh) hb9.1
          have hkl : k < (fs.map (zv ad zz rh)).length := by rw [List.length_map]; exact Nat.le_of_ble_eq_true hb9.2
          have hq := (Option.some.inj hst).symm
          have hset : zw tc ad rh (w.set a (.inr (ci, fs.set k v))) = (zw tc ad rh w).set a (ad a, .inr (ci, (fs.map (zv ad zz rh)).set k (zv ad zz rh v))) := by
            rw [zw_set]
            show _ = (zw tc ad rh w).set a (ad a, .inr (ci, (fs.map (zv ad zz rh)).set k (zv ad zz rh v)))
            rw [← List.map_set]
            rfl
          have hwn : (w.set a (.inr (ci, fs.set k v))).all (zwe (w.set a (.inr (ci, fs.set k v))).length) = true := by
            refine zww_set hw1 ?_
            refine List.all_eq_true.mpr fun z hz => ?_
            rcases List.mem_or_eq_of_mem_set hz with hz | rfl
            · exact List.all_eq_true.mp hww z hz
            · exact hw3.1
          have hgn : ∀ (H1 : Heap) (locs1 : List Loc), va_P D zcl ((zw tc ad rh w).set a (ad a, .inr (ci, (fs.map (zv ad zz rh)).set k (zv ad zz rh v)))) H1 → va_D A ((zw tc ad rh w).set a (ad a, .inr (ci, (fs.map (zv ad zz rh)).set k (zv ad zz rh v)))) → va_S A s.heap H1 locs1 → W p l en R s m args below meth c H1 locs1 cells slots Q (F0 m (pc + 3) lsC (zst ad sp rh r)) := by
            intro H1 locs1 hP1 hD1 hS1
            rw [← hset] at hP1 hD1
            subst hq
            have g := hk ad sp H1 locs1 lsC (fun _ _ => rfl) rfl hP1 hD1 hS1 hl (zwf_of hwn (by rw [List.length_set]; exact hw2) (by rw [List.length_set]; exact hw3.2.2)) (by rw [List.length_set]; exact Nat.le_refl _)
            rw [hft] at g
            exact g
          dsimp only at hwd
          split at hwd
          · rename_i ci' k' j' heq
            obtain ⟨rfl, rfl, -⟩ : ci = ci' ∧ k = k' ∧ ex9 = [j'] := by simpa using heq
            rw [hcq] at hwd
            dsimp only at hwd
            rw [Bool.and_eq_true, Bool.and_eq_true, decide_eq_true_eq] at hwd
            obtain ⟨hkN, hwl, hfin⟩ := hwd
            rw [zst_cons, zst_cons, hv1]
            obtain ⟨hu1, hu2, hu3, -⟩ := zcl_to hcq
            split at hfin
            · rename_i hfl
              rw [Bool.and_eq_true, decide_eq_true_eq, decide_eq_true_eq] at hfin
              exact va_putF (Ts := ztbl) (C := cC) (T := cT) (N := cN) (ty := zfty cT k) hx hb hts hu1 (zfty cT) hu2 hu3 hown hK hP hD hS a (zw_at hob) hcq k hkN (hts _ (zwd_to hwl)) (fun _ h9 => h9) hfl (hnm hfin.1) hfin.2 (hu2 k hkN) hn1 hf1 hkl hdec hgn
            · rename_i hfl
              exact va_put (Ts := ztbl) (C := cC) (T := cT) (N := cN) (ty := zfty cT k) hx hb hts hu1 (zfty cT) hu2 hu3 hown hK hP hD hS a (zw_at hob) hcq k hkN (hts _ (zwd_to hwl)) (fun _ h9 => h9) hfl (hu2 k hkN) hn1 hf1 hkl hdec hgn
          · cases hwd
        · cases hst
      · cases hst
    · cases hst
  | new idx =>
    replace hst : z_new ex ip ls st w = some q := hst
    unfold z_new at hst
    split at hst
    · rename_i ci j
      split at hst
      · rename_i cq hcq
        obtain ⟨cC, cT, cN⟩ := cq
        replace hck : (zln (Instr.new idx, pc, len, [ci, j]) && (zft code ip (Instr.new idx, pc, len, [ci, j]) && match zcl[ci]? with
          | some q => zwd j (.classLink own idx q.1)
          | none => false)) = true := hck
        rw [hcq] at hck
        obtain ⟨rfl, hft, hwd⟩ := zdx (n := 3) hck rfl
        have hq := (Option.some.inj hst).symm
        obtain ⟨hu1, hu2, hu3, hu4, hu5, hu6⟩ := zcl_to hcq
        subst hq
        refine va_new (Ts := ztbl) (ci := ci) (fs := zdef cT cN) (C := cC) (T := cT) (N := cN) hx hb hts hu1 (zfty cT) hu2 hown (hts _ (zwd_to hwd)) (hts _ hu4) (hts _ hu5) hK hP hD hS hA hcq (fun j9 hj9 => ?_) hrc hrs hdec (fun a9 H1 hP1 hD1 hS1 => ?_)
        · simp [vp_V, zdef, hj9]
        · have hext : ∀ k9, k9 < w.length → vf_upd ad w.length a9 k9 = ad k9 := fun k9 hk9 => if_neg (Nat.ne_of_lt hk9)
          have hself : vf_upd ad w.length a9 w.length = a9 := if_pos rfl
          have hwq : zw tc (vf_upd ad w.length a9) rh (w ++ [.inr (ci, zdef cT cN)]) = zw tc ad rh w ++ [(a9, .inr (ci, zdef cT cN))] := by
            rw [zw_app, zw_ext hext hw1, hself]
            show _ ++ [(a9, Sum.inr (ci, (zdef cT cN).map (zv _ zz rh)))] = _
            rw [zdef_cv hu6]
          have g := hk (vf_upd ad w.length a9) sp H1 locs lsC hext rfl (by rw [hwq]; exact hP1) (by rw [hwq]; exact hD1) hS1 (by rw [zls_ext hext hw2]; exact hl)
            (zwf_of (zww_app hw1 (zdef_wf hu6)) (by rw [List.length_append]; exact zwl_le (Nat.le_succ _) hw2) (by rw [List.length_append, List.length_singleton, List.all_cons, zst_le (Nat.le_add_right w.length 1) hw3, Bool.and_true]; exact decide_eq_true (Nat.lt_succ_self _))) (by rw [List.length_append]; exact Nat.le_succ _)
          dsimp only at g
          rw [hft, zst_cons, zst_ext hext hw3, show zv (vf_upd ad w.length a9) sp rh (.ref w.length) = .ref a9 from congrArg Value.ref hself] at g
          exact g
      · cases hst
    · cases hst
  | newarray at9 =>
    obtain ⟨rfl, hft, hwd⟩ := zdx (n := 2) hck rfl
    replace hst : z_newai ex ip ls st w = some q := hst
    unfold z_newai at hst
    split at hst
    · rename_i ti j
      unfold z_newa at hst
      split at hst
      · rename_i n r
        rw [List.all_cons, Bool.and_eq_true] at hw3
        split at hst
        · rename_i hb9
          rw [Bool.and_eq_true, decide_eq_true_eq, decide_eq_true_eq] at hb9
          have hq := (Option.some.inj hst).symm
          replace hwd : (decide (ti = zati at9) && (decide (ti < 4) && zwd j (.arrayClass (newarray.typeOf at9)))) = true := hwd
          rw [Bool.and_eq_true, Bool.and_eq_true, decide_eq_true_eq, decide_eq_true_eq] at hwd
          obtain ⟨hti, hti4, hwl⟩ := hwd
          subst hq
          have hN6 := zclamp hb9.1 hb9.2
          have hgn : ∀ (ty : FieldType), newarray.typeOf at9 = ty → (ztys tc)[ti]? = some (tc ti, ty) → componentBytes ty ≤ 8 → (∀ cA : ClassId, vp_cell cA (n.toNatClampNeg, zct rh ti []) = arrV cA n.toNatClampNeg (fun _ => defaultValue ty)) → W p l en R s m args below meth c H locs cells slots Q (F0 m pc lsC (.int n :: zst ad sp rh r)) := by
            intro ty h1 h2 h3 h4
            refine va_newa (atype := at9) hx hb (hts _ (zwd_to hwl)) h1 hK hP hD hS hA (a0 := (n.toNatClampNeg, zct rh ti [])) h4 (znneg hb9.1) rfl (Nat.le_trans (Nat.mul_le_mul hN6 h3) (by decide)) hrc hrs hdec (fun a9 cA H1 hK1 hP1 hD1 hS1 => ?_)
            obtain rfl := zarrA hK1 h2
            have hext : ∀ k9, k9 < w.length → vf_upd ad w.length a9 k9 = ad k9 := fun k9 hk9 => if_neg (Nat.ne_of_lt hk9)
            have hself : vf_upd ad w.length a9 w.length = a9 := if_pos rfl
            have hwq : zw tc (vf_upd ad w.length a9) rh (w ++ [.inl (ti, n.toNatClampNeg, [])]) = zw tc ad rh w ++ [(a9, .inl (tc ti, n.toNatClampNeg, zct rh ti []))] := by
              rw [zw_app, zw_ext hext hw1, hself]
              rfl
            have g := hk (vf_upd ad w.length a9) sp H1 locs lsC hext rfl (by rw [hwq]; exact hP1) (by rw [hwq]; exact hD1) hS1 (by rw [zls_ext hext hw2]; exact hl)
              (zwf_of (zww_app hw1 rfl) (by rw [List.length_append]; exact zwl_le (Nat.le_succ _) hw2) (by rw [List.length_append, List.length_singleton, List.all_cons, zst_le (Nat.le_add_right w.length 1) hw3.2, Bool.and_true]; exact decide_eq_true (Nat.lt_succ_self _))) (by rw [List.length_append]; exact Nat.le_succ _)
            dsimp only at g
            rw [hft, zst_cons, zst_ext hext hw3.2, show zv (vf_upd ad w.length a9) sp rh (.ref w.length) = .ref a9 from congrArg Value.ref hself] at g
            exact g
          cases at9 <;> first | exact absurd hti4 (by rw [hti]; decide) | (subst hti; exact hgn _ rfl rfl (by decide) (fun _ => rfl))
        · cases hst
      · cases hst
    · cases hst
  | anewarray idx =>
    obtain ⟨rfl, hft, hwd⟩ := zdx (n := 3) hck rfl
    replace hst : z_newa 4 ip ls st w = some q := hst
    unfold z_newa at hst
    split at hst
    · rename_i n r
      rw [List.all_cons, Bool.and_eq_true] at hw3
      split at hst
      · rename_i hb9
        rw [Bool.and_eq_true, decide_eq_true_eq, decide_eq_true_eq] at hb9
        have hq := (Option.some.inj hst).symm
        dsimp only at hwd
        split at hwd
        · subst hq
          have hN6 := zclamp hb9.1 hb9.2
          refine va_newq hx hb hown (hts _ (zwd_to hwd)) hZ.2.2.2.1 hK hP hD hS hA (znneg hb9.1) rfl (by omega) hrc hrs hdec (fun a9 cA H1 hK1 hP1 hD1 hS1 => ?_)
          obtain rfl := zarrA (ti := 4) hK1 rfl
          have hext : ∀ k9, k9 < w.length → vf_upd ad w.length a9 k9 = ad k9 := fun k9 hk9 => if_neg (Nat.ne_of_lt hk9)
          have hself : vf_upd ad w.length a9 w.length = a9 := if_pos rfl
          have hwq : zw tc (vf_upd ad w.length a9) rh (w ++ [.inl (4, n.toNatClampNeg, [])]) = zw tc ad rh w ++ [(a9, .inl (tc 4, n.toNatClampNeg, .inr (.inr (.inr (.inr (fun _ => none))))))] := by
            rw [zw_app, zw_ext hext hw1, hself]
            rfl
          have g := hk (vf_upd ad w.length a9) sp H1 locs lsC hext rfl (by rw [hwq]; exact hP1) (by rw [hwq]; exact hD1) hS1 (by rw [zls_ext hext hw2]; exact hl)
            (zwf_of (zww_app hw1 rfl) (by rw [List.length_append]; exact zwl_le (Nat.le_succ _) hw2) (by rw [List.length_append, List.length_singleton, List.all_cons, zst_le (Nat.le_add_right w.length 1) hw3.2, Bool.and_true]; exact decide_eq_true (Nat.lt_succ_self _))) (by rw [List.length_append]; exact Nat.le_succ _)
          dsimp only at g
          rw [hft, zst_cons, zst_ext hext hw3.2, show zv (vf_upd ad w.length a9) sp rh (.ref w.length) = .ref a9 from congrArg Value.ref hself] at g
          exact g
        · cases hwd
      · cases hst
    · cases hst
  | arraylength =>
    obtain ⟨rfl, hft⟩ := zdf (n := 1) hck rfl
    replace hst : z_alen isL cf ip ls st w = some q := hst
    unfold z_alen at hst
    split at hst
    · rename_i a r
      rw [List.all_cons, Bool.and_eq_true] at hw3
      split at hst
      · rename_i o ho
        obtain ⟨t9, n9, l9⟩ := o
        split at hst
        · rename_i hb9
          have g := hgo _ _ (.int (Int32.ofNat n9) :: r) lsC (Option.some.inj hst).symm hl hw2 (by rw [List.all_cons, hw3.2]; rfl)
          rw [hft] at g
          obtain ⟨ty, hty⟩ : ∃ ty, (ztys tc)[t9]? = some (tc t9, ty) := by
            match t9, Nat.le_of_ble_eq_true hb9 with
            | 0, _ => exact ⟨_, rfl⟩
            | 1, _ => exact ⟨_, rfl⟩
            | 2, _ => exact ⟨_, rfl⟩
            | 3, _ => exact ⟨_, rfl⟩
          exact va_alen hx hb hK hP a t9 (zw_at ho) hty rfl hdec g
        · cases hst
      · cases hst
    · rename_i u r
      rw [List.all_cons, Bool.and_eq_true] at hw3
      split at hst
      · rename_i hb9
        rw [Bool.and_eq_true, decide_eq_true_eq] at hb9
        obtain ⟨hL9, rfl⟩ := hb9
        obtain ⟨hX, hbl, hbA⟩ := hscr hL9
        have g := hgo _ _ (.int (Int32.ofNat cf.2.2.1) :: r) lsC (Option.some.inj hst).symm hl hw2 (by rw [List.all_cons, hw3.2]; rfl)
        rw [hft] at g
        exact va_slen hx hb hX hbl hbA hS hdec g
      · cases hst
    · cases hst
  | iaload =>
    obtain ⟨rfl, hft⟩ := zdf (n := 1) hck rfl
    replace hst : z_iald isL cf ip ls st w = some q := hst
    unfold z_iald at hst
    split at hst
    · rename_i i9 a r
      rw [List.all_cons, List.all_cons, Bool.and_eq_true, Bool.and_eq_true] at hw3
      split at hst
      · rename_i o ho
        obtain ⟨n9, l9⟩ := o
        split at hst
        · rename_i x hin9 hrd
          have g := hgo _ _ (.int x :: r) lsC (Option.some.inj hst).symm hl hw2 (by rw [List.all_cons, hw3.2.2]; rfl)
          rw [hft, zst_cons, show zv ad sp rh (.int x) = .int (zci id rh l9 i9.toNatClampNeg) from by rw [zrd_int rh l9 _ hrd]; rfl] at g
          exact va_iald hx hb hK hP a 0 (f := zci id rh l9) (zw_at (zarr_to ho)) rfl (zin_to hin9) hdec g
        · cases hst
      · cases hst
    · rename_i i9 u r
      rw [List.all_cons, List.all_cons, Bool.and_eq_true, Bool.and_eq_true] at hw3
      split at hst
      · rename_i hb9
        rw [Bool.and_eq_true, Bool.and_eq_true, Bool.and_eq_true, decide_eq_true_eq, decide_eq_true_eq] at hb9
        obtain ⟨hL9, rfl, hin9, h39⟩ := hb9
        obtain ⟨hX, hbl, hbA⟩ := hscr hL9
        have hge : 0 ≤ i9.toInt := by
          unfold zin at hin9
          rw [Bool.and_eq_true, decide_eq_true_eq] at hin9
          exact hin9.1
        have h3 : i9.toNatClampNeg < 3 := by
          have : i9.toNatClampNeg = i9.toInt.toNat := rfl
          omega
        split at hst
        · rename_i v9 hv9
          have g := hgo _ _ (.int v9 :: r) lsC (Option.some.inj hst).symm hl hw2 (by rw [List.all_cons, hw3.2.2]; rfl)
          rw [hft, zst_cons, show zv ad sp rh (.int v9) = .int (rh i9.toNatClampNeg) from by rw [hcf.2.2.2.2.2.2 _ _ hv9]; rfl] at g
          exact va_sld hx hb hX hbl hbA hS (zin_to hin9) hdec g
        · have g := hgo _ _ (.float (UInt32.ofNat i9.toNatClampNeg) :: r) lsC (Option.some.inj hst).symm hl hw2 (by rw [List.all_cons, hw3.2.2]; rfl)
          have e9 : (UInt32.ofNat i9.toNatClampNeg).toNat = i9.toNatClampNeg := by
            generalize i9.toNatClampNeg = k9 at h3
            match k9, h3 with
            | 0, _ => rfl
            | 1, _ => rfl
            | 2, _ => rfl
          rw [hft, zst_cons, show zv ad sp rh (.float (UInt32.ofNat i9.toNatClampNeg)) = .int (rh i9.toNatClampNeg) from by show Value.int (rh (UInt32.ofNat i9.toNatClampNeg).toNat) = _; rw [e9]] at g
          exact va_sld hx hb hX hbl hbA hS (zin_to hin9) hdec g
      · cases hst
    · cases hst
  | laload =>
    obtain ⟨rfl, hft⟩ := zdf (n := 1) hck rfl
    replace hst : z_lald ip ls st w = some q := hst
    unfold z_lald at hst
    split at hst
    · rename_i i9 a r
      rw [List.all_cons, List.all_cons, Bool.and_eq_true, Bool.and_eq_true] at hw3
      split at hst
      · rename_i o ho
        obtain ⟨n9, l9⟩ := o
        split at hst
        · rename_i x hin9 hrd
          have g := hgo _ _ (.long x :: r) lsC (Option.some.inj hst).symm hl hw2 (by rw [List.all_cons, hw3.2.2]; rfl)
          rw [hft, zst_cons, show zv ad sp rh (.long x) = .long (zcj l9 i9.toNatClampNeg) from by rw [zrd_long l9 _ hrd]; rfl] at g
          exact va_lald hx hb hK hP a 2 (f := zcj l9) (zw_at (zarr_to ho)) rfl (zin_to hin9) hdec g
        · cases hst
      · cases hst
    · cases hst
  | iastore =>
    obtain ⟨rfl, hft⟩ := zdf (n := 1) hck rfl
    obtain ⟨v, i9, a, r, n9, l9, rfl, ho, hv, hin9, hq⟩ := zast_to (show zast 0 ip ls st w = some q from hst)
    obtain ⟨x9, hx9⟩ := zisI_to (ad := ad) (sp := sp) (rh := rh) hv
    rw [List.all_cons, List.all_cons, List.all_cons, Bool.and_eq_true, Bool.and_eq_true, Bool.and_eq_true] at hw3
    have hset : zw tc ad rh (w.set a (.inl (0, n9, (i9.toNatClampNeg, v) :: l9))) = (zw tc ad rh w).set a (ad a, .inl (tc 0, n9, .inl (upd (zci id rh l9) i9.toNatClampNeg x9))) := by
      rw [zw_set]
      show _ = (zw tc ad rh w).set a (ad a, .inl (tc 0, n9, .inl (upd (zci id rh l9) i9.toNatClampNeg x9)))
      rw [← zint_of (ad := ad) (sp := sp) hx9]
      rfl
    rw [zst_cons, hx9]
    refine va_iast hx hb hK hP hD hS a 0 (f := zci id rh l9) (zw_at ho) rfl (zin_to hin9) hdec (fun H1 locs1 hP1 hD1 hS1 => ?_)
    rw [← hset] at hP1 hD1
    subst hq
    have g := hk ad sp H1 locs1 lsC (fun _ _ => rfl) rfl hP1 hD1 hS1 hl (zwf_of (zww_set hw1 rfl) (by rw [List.length_set]; exact hw2) (by rw [List.length_set]; exact hw3.2.2.2)) (by rw [List.length_set]; exact Nat.le_refl _)
    rw [hft] at g
    exact g
  | castore =>
    obtain ⟨rfl, hft⟩ := zdf (n := 1) hck rfl
    obtain ⟨v, i9, a, r, n9, l9, rfl, ho, hv, hin9, hq⟩ := zast_to (show zast 1 ip ls st w = some q from hst)
    obtain ⟨x9, hx9⟩ := zisI_to (ad := ad) (sp := sp) (rh := rh) hv
    rw [List.all_cons, List.all_cons, List.all_cons, Bool.and_eq_true, Bool.and_eq_true, Bool.and_eq_true] at hw3
    have hset : zw tc ad rh (w.set a (.inl (1, n9, (i9.toNatClampNeg, v) :: l9))) = (zw tc ad rh w).set a (ad a, .inl (tc 1, n9, .inl (upd (zci (vp_nar .char) rh l9) i9.toNatClampNeg (vp_nar .char x9)))) := by
      rw [zw_set]
      show _ = (zw tc ad rh w).set a (ad a, .inl (tc 1, n9, .inl (upd (zci (vp_nar .char) rh l9) i9.toNatClampNeg (vp_nar .char x9))))
      rw [← zint_of (ad := ad) (sp := sp) hx9]
      rfl
    rw [zst_cons, hx9]
    refine va_cast hx hb hK hP hD hS a 1 (f := zci (vp_nar .char) rh l9) (zw_at ho) rfl (zin_to hin9) hdec (fun H1 locs1 hP1 hD1 hS1 => ?_)
    rw [← hset] at hP1 hD1
    subst hq
    have g := hk ad sp H1 locs1 lsC (fun _ _ => rfl) rfl hP1 hD1 hS1 hl (zwf_of (zww_set hw1 rfl) (by rw [List.length_set]; exact hw2) (by rw [List.length_set]; exact hw3.2.2.2)) (by rw [List.length_set]; exact Nat.le_refl _)
    rw [hft] at g
    exact g
  | lastore =>
    obtain ⟨rfl, hft⟩ := zdf (n := 1) hck rfl
    obtain ⟨v, i9, a, r, n9, l9, rfl, ho, hv, hin9, hq⟩ := zast_to (show zast 2 ip ls st w = some q from hst)
    obtain ⟨x9, rfl⟩ := zisL_to hv
    rw [List.all_cons, List.all_cons, List.all_cons, Bool.and_eq_true, Bool.and_eq_true, Bool.and_eq_true] at hw3
    have hset : zw tc ad rh (w.set a (.inl (2, n9, (i9.toNatClampNeg, .long x9) :: l9))) = (zw tc ad rh w).set a (ad a, .inl (tc 2, n9, .inr (.inl (vp_updL (zcj l9) i9.toNatClampNeg x9)))) := by
      rw [zw_set]
      rfl
    refine va_last hx hb hK hP hD hS a 2 (f := zcj l9) (zw_at ho) rfl (zin_to hin9) hdec (fun H1 locs1 hP1 hD1 hS1 => ?_)
    rw [← hset] at hP1 hD1
    subst hq
    have g := hk ad sp H1 locs1 lsC (fun _ _ => rfl) rfl hP1 hD1 hS1 hl (zwf_of (zww_set hw1 rfl) (by rw [List.length_set]; exact hw2) (by rw [List.length_set]; exact hw3.2.2.2)) (by rw [List.length_set]; exact Nat.le_refl _)
    rw [hft] at g
    exact g
  | invokespecial idx =>
    obtain ⟨rfl, hft, hwd⟩ := zdx (n := 3) hck rfl
    replace hst : z_objI ip ls st w = some q := hst
    unfold z_objI at hst
    split at hst
    · rename_i a r
      rw [List.all_cons, Bool.and_eq_true] at hw3
      split at hst
      · rename_i hb9
        have g := hgo _ _ r lsC (Option.some.inj hst).symm hl hw2 hw3.2
        rw [hft] at g
        obtain ⟨j, rfl⟩ : ∃ j, ex = [j] := by
          replace hkind : zkind (Instr.invokespecial idx) ex = 2 := hkind
          unfold zkind at hkind
          dsimp only at hkind
          split at hkind
          · exact ⟨_, rfl⟩
          · cases hkind
        have hsum := lv_room (pc := pc) (ls := lsC) (m := m) (rest := zst ad sp rh (.ref a :: r)) (st := zst ad sp rh r) (by rw [zsum_eq]; exact Nat.le_of_ble_eq_true hb9)
        exact W.objInit hx hb hown (hts _ (zwd_to hwd)) (hts _ zobj_w.1) (hts _ zobj_w.2) rfl (hl.1.trans hmL.symm) rfl hdec hR.1 (Nat.le_trans (Nat.add_le_add_right hsum 12) hR.2) g
      · cases hst
    · cases hst
  | _ => exact absurd (show none = some q from hst) (fun h9 => nomatch h9)
end
section
/-! METHODS BY CONTRACT, at a bound on their depth -/
def zws (M : zM) : List Jvm.Cond := (match M.2.2.2.2.1 with
  | [] => Jvm.Cond.code M.1 M.2.1 M.2.2.1 M.2.2.2.1
  | hh => Jvm.Cond.codeWith M.1 M.2.1 M.2.2.1 M.2.2.2.1 hh) :: ztbl
def zcdchk (own nm : String) (cc : ByteArray) (code : List zI) : Bool := code.zipIdx.all (fun q => decide (q.1.1 = .nop) || zchk own nm cc code q.2 q.1)
def zctl : List (Nat × String × Nat) := [(13, "java/lang/IllegalStateException", 1131), (19, "java/lang/IndexOutOfBoundsException", 1219), (55, "java/lang/IllegalArgumentException", 1345)]
def zctok (ct : Nat) (nm : String) : Bool := zctl.any (fun r => decide (r.1 = ct) && (decide (r.2.1 = nm) && zwd r.2.2 (.classLink "MacrocosmLaw" ct nm)))
/-- the i-th row takes what is thrown at pc; those ahead don't -/
def zhrow (hh : List (Nat × Nat × Nat × Nat)) (pc E t i : Nat) : Bool := match zexn[E]?, (tableOf hh)[i]? with
  | some nm, some x => (covers x pc && (decide (x.catchType ≠ 0) && (decide (x.handlerPc = t) && (zctok x.catchType nm && decide (Jvm.Cond.castable nm nm ∈ zFw))))) && ((tableOf hh).take i).all (fun z => decide (covers z pc = false) || (decide (z.catchType ≠ 0) && zNcs.any (fun r => decide (r.1 = nm) && zctok z.catchType r.2)))
  | _, _ => false
def zhps (hh : List (Nat × Nat × Nat × Nat)) (code : List zI) (pc : Nat) : List Nat → Bool
  | a :: b :: r => (List.range hh.length).any (fun i => zhrow hh pc a (zpc code b) i) && zhps hh code pc r
  | _ => true
def zhchk (hh : List (Nat × Nat × Nat × Nat)) (own : String) (code : List zI) : Bool := code.all (fun e => match e.2.2.2 with
  | _ :: _ :: _ :: hs => (match e.1 with
    | .invokevirtual _ => zhps hh code e.2.1 hs && (decide (hs = []) || decide (own = "MacrocosmLaw"))
    | .invokestatic _ => decide (hs = [])
    | .invokespecial _ => decide (hs = [])
    | _ => true)
  | _ => true)
/-- how an invocation names its method -/
def zikchk (own : String) (code : List zI) : Bool := code.all (fun e => match e.1, e.2.2.2 with
  | .invokevirtual _, mi :: _ => (match zp[mi]? with
    | some M => decide (M.2.2.2.2.2.1 = 0) && (decide (M.2.2.2.2.1 = []) && (decide ((zcl[M.2.2.2.2.2.2.2.1]?).map (·.1) = some M.1.cls) && decide (M.2.2.2.2.2.2.2.1 ≠ 99)))
    | none => false)
  | .invokestatic _, mi :: _ => (match zp[mi]? with
    | some M => decide (M.2.2.2.2.2.1 = 1) && decide (M.1.cls = own)
    | none => false)
  | .invokespecial _, mi :: _ :: _ => (match zp[mi]? with
    | some M => decide (M.2.2.2.2.1 = []) && match M.2.2.2.2.2.1 with
      | 2 => decide (M.1.name = "<init>") && decide (M.2.2.2.1 = none)
      | 0 => decide (M.1.name ≠ "<init>") && match M.2.2.2.2.2.2.2.2.1 with
        | [_, _, _, j4, j5] => zwd j4 (.sameMethod M.1.cls M.1.cls M.1.name M.1.desc) && zwd j5 (.superclass own M.1.cls)
        | _ => false
      | _ => false
    | none => false)
  | _, _ => true)
def zmchk (M : zM) : Bool := match M.2.2.2.2.2.2.2.2.1 with
  | jc :: ji :: jk :: _ => zwd jc (match M.2.2.2.2.1 with
    | [] => .code M.1 M.2.1 M.2.2.1 M.2.2.2.1
    | hh => .codeWith M.1 M.2.1 M.2.2.1 M.2.2.2.1 hh) && (zwd ji (.initialized M.1.cls) && (zwd jk (match M.2.2.2.2.2.1 with
    | 1 => .static M.1
    | _ => .instanceMethod M.1) && (decide (M.1.cls ≠ "java/lang/invoke/MethodHandle") && (decide (M.1.cls ≠ "java/lang/invoke/VarHandle") && (decide ((parseMethodDescriptor M.1.desc).map (fun d => d.parameters.length) = some M.2.2.2.2.2.2.1) && (plainName M.1.cls && (decide (M.2.2.1 ≤ 60) && (decide (M.2.2.2.2.2.1 < 3) && (zcdchk M.1.cls M.1.name M.2.1 M.2.2.2.2.2.2.2.2.2 && (zhchk M.2.2.2.2.1 M.1.cls M.2.2.2.2.2.2.2.2.2 && zikchk M.1.cls M.2.2.2.2.2.2.2.2.2))))))))))
  | _ => false
end
section
set_option maxRecDepth 100000 in
theorem zc_0 : zmchk zM_0 = true := by decide +kernel
set_option maxRecDepth 100000 in
theorem zc_1 : zmchk zM_1 = true := by decide +kernel
set_option maxRecDepth 100000 in
theorem zc_2 : zmchk zM_2 = true := by decide +kernel
set_option maxRecDepth 100000 in
theorem zc_3 : zmchk zM_3 = true := by decide +kernel
set_option maxRecDepth 100000 in
theorem zc_4 : zmchk zM_4 = true := by decide +kernel
set_option maxRecDepth 100000 in
theorem zc_5 : zmchk zM_5 = true := by decide +kernel
set_option maxRecDepth 100000 in
theorem zc_6 : zmchk zM_6 = true := by decide +kernel
set_option maxRecDepth 100000 in
theorem zc_7 : zmchk zM_7 = true := by decide +kernel
set_option maxRecDepth 100000 in
theorem zc_8 : zmchk zM_8 = true := by decide +kernel
set_option maxRecDepth 100000 in
theorem zc_9 : zmchk zM_9 = true := by decide +kernel
set_option maxRecDepth 100000 in
theorem zc_10 : zmchk zM_10 = true := by decide +kernel
set_option maxRecDepth 100000 in
theorem zc_11 : zmchk zM_11 = true := by decide +kernel
set_option maxRecDepth 100000 in
theorem zc_12 : zmchk zM_12 = true := by decide +kernel
set_option maxRecDepth 100000 in
theorem zc_13 : zmchk zM_13 = true := by decide +kernel
set_option maxRecDepth 100000 in
theorem zc_14 : zmchk zM_14 = true := by decide +kernel
set_option maxRecDepth 100000 in
theorem zc_15 : zmchk zM_15 = true := by decide +kernel
set_option maxRecDepth 100000 in
theorem zc_16 : zmchk zM_16 = true := by decide +kernel
set_option maxRecDepth 100000 in
theorem zc_17 : zmchk zM_17 = true := by decide +kernel
set_option maxRecDepth 100000 in
theorem zc_18 : zmchk zM_18 = true := by decide +kernel
set_option maxRecDepth 100000 in
theorem zc_19 : zmchk zM_19 = true := by decide +kernel
set_option maxRecDepth 100000 in
theorem zc_20 : zmchk zM_20 = true := by decide +kernel
set_option maxRecDepth 100000 in
theorem zc_21 : zmchk zM_21 = true := by decide +kernel
set_option maxRecDepth 100000 in
theorem zc_22 : zmchk zM_22 = true := by decide +kernel
set_option maxRecDepth 100000 in
theorem zc_23 : zmchk zM_23 = true := by decide +kernel
set_option maxRecDepth 100000 in
theorem zc_24 : zmchk zM_24 = true := by decide +kernel
set_option maxRecDepth 100000 in
theorem zc_25 : zmchk zM_25 = true := by decide +kernel
set_option maxRecDepth 100000 in
theorem zc_26 : zmchk zM_26 = true := by decide +kernel
set_option maxRecDepth 100000 in
theorem zc_27 : zmchk zM_27 = true := by decide +kernel
set_option maxRecDepth 100000 in
theorem zc_28 : zmchk zM_28 = true := by decide +kernel
set_option maxRecDepth 100000 in
theorem zc_29 : zmchk zM_29 = true := by decide +kernel
set_option maxRecDepth 100000 in
theorem zc_30 : zmchk zM_30 = true := by decide +kernel
set_option maxRecDepth 100000 in
theorem zc_31 : zmchk zM_31 = true := by decide +kernel
set_option maxRecDepth 100000 in
theorem zc_32 : zmchk zM_32 = true := by decide +kernel
set_option maxRecDepth 100000 in
theorem zc_33 : zmchk zM_33 = true := by decide +kernel
set_option maxRecDepth 100000 in
theorem zc_34 : zmchk zM_34 = true := by decide +kernel
set_option maxRecDepth 100000 in
theorem zc_35 : zmchk zM_35 = true := by decide +kernel
end
section
set_option maxRecDepth 100000 in
theorem zc_36 : zmchk zM_36 = true := by decide +kernel
set_option maxRecDepth 100000 in
theorem zc_37 : zmchk zM_37 = true := by decide +kernel
set_option maxRecDepth 100000 in
theorem zc_38 : zmchk zM_38 = true := by decide +kernel
set_option maxRecDepth 100000 in
theorem zc_39 : zmchk zM_39 = true := by decide +kernel
set_option maxRecDepth 100000 in
theorem zc_40 : zmchk zM_40 = true := by decide +kernel
set_option maxRecDepth 100000 in
theorem zc_41 : zmchk zM_41 = true := by decide +kernel
set_option maxRecDepth 100000 in
theorem zc_42 : zmchk zM_42 = true := by decide +kernel
set_option maxRecDepth 100000 in
theorem zc_43 : zmchk zM_43 = true := by decide +kernel
set_option maxRecDepth 100000 in
theorem zc_44 : zmchk zM_44 = true := by decide +kernel
set_option maxRecDepth 100000 in
theorem zc_45 : zmchk zM_45 = true := by decide +kernel
set_option maxRecDepth 100000 in
theorem zc_46 : zmchk zM_46 = true := by decide +kernel
set_option maxRecDepth 100000 in
theorem zc_47 : zmchk zM_47 = true := by decide +kernel
set_option maxRecDepth 100000 in
theorem zc_48 : zmchk zM_48 = true := by decide +kernel
set_option maxRecDepth 100000 in
theorem zc_49 : zmchk zM_49 = true := by decide +kernel
set_option maxRecDepth 100000 in
theorem zc_50 : zmchk zM_50 = true := by decide +kernel
set_option maxRecDepth 100000 in
theorem zc_51 : zmchk zM_51 = true := by decide +kernel
set_option maxRecDepth 100000 in
theorem zc_52 : zmchk zM_52 = true := by decide +kernel
set_option maxRecDepth 100000 in
theorem zc_53 : zmchk zM_53 = true := by decide +kernel
set_option maxRecDepth 100000 in
theorem zc_54 : zmchk zM_54 = true := by decide +kernel
set_option maxRecDepth 100000 in
theorem zc_55 : zmchk zM_55 = true := by decide +kernel
set_option maxRecDepth 100000 in
theorem zc_56 : zmchk zM_56 = true := by decide +kernel
set_option maxRecDepth 100000 in
theorem zc_57 : zmchk zM_57 = true := by decide +kernel
set_option maxRecDepth 100000 in
theorem zc_58 : zmchk zM_58 = true := by decide +kernel
set_option maxRecDepth 100000 in
theorem zc_59 : zmchk zM_59 = true := by decide +kernel
set_option maxRecDepth 100000 in
theorem zc_60 : zmchk zM_60 = true := by decide +kernel
set_option maxRecDepth 100000 in
theorem zc_61 : zmchk zM_61 = true := by decide +kernel
set_option maxRecDepth 100000 in
theorem zc_62 : zmchk zM_62 = true := by decide +kernel
set_option maxRecDepth 100000 in
theorem zc_63 : zmchk zM_63 = true := by decide +kernel
set_option maxRecDepth 100000 in
theorem zc_64 : zmchk zM_64 = true := by decide +kernel
set_option maxRecDepth 100000 in
theorem zc_65 : zmchk zM_65 = true := by decide +kernel
set_option maxRecDepth 100000 in
theorem zc_66 : zmchk zM_66 = true := by decide +kernel
set_option maxRecDepth 100000 in
theorem zc_67 : zmchk zM_67 = true := by decide +kernel
set_option maxRecDepth 100000 in
theorem zc_68 : zmchk zM_68 = true := by decide +kernel
set_option maxRecDepth 100000 in
theorem zc_69 : zmchk zM_69 = true := by decide +kernel
set_option maxRecDepth 100000 in
theorem zc_70 : zmchk zM_70 = true := by decide +kernel
set_option maxRecDepth 100000 in
theorem zc_71 : zmchk zM_71 = true := by decide +kernel
end
section
set_option maxRecDepth 100000 in
theorem zc_72 : zmchk zM_72 = true := by decide +kernel
set_option maxRecDepth 100000 in
theorem zc_73 : zmchk zM_73 = true := by decide +kernel
set_option maxRecDepth 100000 in
theorem zc_74 : zmchk zM_74 = true := by decide +kernel
set_option maxRecDepth 100000 in
theorem zc_75 : zmchk zM_75 = true := by decide +kernel
set_option maxRecDepth 100000 in
theorem zc_76 : zmchk zM_76 = true := by decide +kernel
set_option maxRecDepth 100000 in
theorem zc_77 : zmchk zM_77 = true := by decide +kernel
set_option maxRecDepth 100000 in
theorem zc_78 : zmchk zM_78 = true := by decide +kernel
set_option maxRecDepth 100000 in
theorem zc_79 : zmchk zM_79 = true := by decide +kernel
set_option maxRecDepth 100000 in
theorem zc_80 : zmchk zM_80 = true := by decide +kernel
set_option maxRecDepth 100000 in
theorem zc_81 : zmchk zM_81 = true := by decide +kernel
set_option maxRecDepth 100000 in
theorem zc_82 : zmchk zM_82 = true := by decide +kernel
set_option maxRecDepth 100000 in
theorem zc_83 : zmchk zM_83 = true := by decide +kernel
set_option maxRecDepth 100000 in
theorem zc_84 : zmchk zM_84 = true := by decide +kernel
set_option maxRecDepth 100000 in
theorem zc_85 : zmchk zM_85 = true := by decide +kernel
set_option maxRecDepth 100000 in
theorem zc_86 : zmchk zM_86 = true := by decide +kernel
set_option maxRecDepth 100000 in
theorem zc_87 : zmchk zM_87 = true := by decide +kernel
set_option maxRecDepth 100000 in
theorem zc_88 : zmchk zM_88 = true := by decide +kernel
set_option maxRecDepth 100000 in
theorem zc_89 : zmchk zM_89 = true := by decide +kernel
set_option maxRecDepth 100000 in
theorem zc_90 : zmchk zM_90 = true := by decide +kernel
set_option maxRecDepth 100000 in
theorem zc_91 : zmchk zM_91 = true := by decide +kernel
set_option maxRecDepth 100000 in
theorem zc_92 : zmchk zM_92 = true := by decide +kernel
set_option maxRecDepth 100000 in
theorem zc_93 : zmchk zM_93 = true := by decide +kernel
set_option maxRecDepth 100000 in
theorem zc_94 : zmchk zM_94 = true := by decide +kernel
set_option maxRecDepth 100000 in
theorem zc_95 : zmchk zM_95 = true := by decide +kernel
set_option maxRecDepth 100000 in
theorem zc_96 : zmchk zM_96 = true := by decide +kernel
set_option maxRecDepth 100000 in
theorem zc_97 : zmchk zM_97 = true := by decide +kernel
set_option maxRecDepth 100000 in
theorem zc_98 : zmchk zM_98 = true := by decide +kernel
set_option maxRecDepth 100000 in
theorem zc_99 : zmchk zM_99 = true := by decide +kernel
set_option maxRecDepth 100000 in
theorem zc_100 : zmchk zM_100 = true := by decide +kernel
set_option maxRecDepth 100000 in
theorem zc_101 : zmchk zM_101 = true := by decide +kernel
set_option maxRecDepth 100000 in
theorem zc_102 : zmchk zM_102 = true := by decide +kernel
set_option maxRecDepth 100000 in
theorem zc_103 : zmchk zM_103 = true := by decide +kernel
set_option maxRecDepth 100000 in
theorem zc_104 : zmchk zM_104 = true := by decide +kernel
set_option maxRecDepth 100000 in
theorem zc_105 : zmchk zM_105 = true := by decide +kernel
set_option maxRecDepth 100000 in
theorem zc_106 : zmchk zM_106 = true := by decide +kernel
set_option maxRecDepth 100000 in
theorem zc_107 : zmchk zM_107 = true := by decide +kernel
end
section
set_option maxRecDepth 100000 in
theorem zc_108 : zmchk zM_108 = true := by decide +kernel
set_option maxRecDepth 100000 in
theorem zc_109 : zmchk zM_109 = true := by decide +kernel
set_option maxRecDepth 100000 in
theorem zc_110 : zmchk zM_110 = true := by decide +kernel
set_option maxRecDepth 100000 in
theorem zc_111 : zmchk zM_111 = true := by decide +kernel
set_option maxRecDepth 100000 in
theorem zc_112 : zmchk zM_112 = true := by decide +kernel
set_option maxRecDepth 100000 in
theorem zc_113 : zmchk zM_113 = true := by decide +kernel
set_option maxRecDepth 100000 in
theorem zc_114 : zmchk zM_114 = true := by decide +kernel
set_option maxRecDepth 100000 in
theorem zc_115 : zmchk zM_115 = true := by decide +kernel
set_option maxRecDepth 100000 in
theorem zc_116 : zmchk zM_116 = true := by decide +kernel
set_option maxRecDepth 100000 in
theorem zc_117 : zmchk zM_117 = true := by decide +kernel
set_option maxRecDepth 100000 in
theorem zc_118 : zmchk zM_118 = true := by decide +kernel
set_option maxRecDepth 100000 in
theorem zc_119 : zmchk zM_119 = true := by decide +kernel
set_option maxRecDepth 100000 in
theorem zc_120 : zmchk zM_120 = true := by decide +kernel
set_option maxRecDepth 100000 in
theorem zc_121 : zmchk zM_121 = true := by decide +kernel
set_option maxRecDepth 100000 in
theorem zc_122 : zmchk zM_122 = true := by decide +kernel
set_option maxRecDepth 100000 in
theorem zc_123 : zmchk zM_123 = true := by decide +kernel
set_option maxRecDepth 100000 in
theorem zc_124 : zmchk zM_124 = true := by decide +kernel
set_option maxRecDepth 100000 in
theorem zc_125 : zmchk zM_125 = true := by decide +kernel
set_option maxRecDepth 100000 in
theorem zc_126 : zmchk zM_126 = true := by decide +kernel
set_option maxRecDepth 100000 in
theorem zc_127 : zmchk zM_127 = true := by decide +kernel
set_option maxRecDepth 100000 in
theorem zc_128 : zmchk zM_128 = true := by decide +kernel
set_option maxRecDepth 100000 in
theorem zc_129 : zmchk zM_129 = true := by decide +kernel
set_option maxRecDepth 100000 in
theorem zc_130 : zmchk zM_130 = true := by decide +kernel
set_option maxRecDepth 100000 in
theorem zc_131 : zmchk zM_131 = true := by decide +kernel
set_option maxRecDepth 100000 in
theorem zc_132 : zmchk zM_132 = true := by decide +kernel
set_option maxRecDepth 100000 in
theorem zc_133 : zmchk zM_133 = true := by decide +kernel
set_option maxRecDepth 100000 in
theorem zc_134 : zmchk zM_134 = true := by decide +kernel
set_option maxRecDepth 100000 in
theorem zc_135 : zmchk zM_135 = true := by decide +kernel
set_option maxRecDepth 100000 in
theorem zc_136 : zmchk zM_136 = true := by decide +kernel
set_option maxRecDepth 100000 in
theorem zc_137 : zmchk zM_137 = true := by decide +kernel
set_option maxRecDepth 100000 in
theorem zc_138 : zmchk zM_138 = true := by decide +kernel
set_option maxRecDepth 100000 in
theorem zc_139 : zmchk zM_139 = true := by decide +kernel
set_option maxRecDepth 100000 in
theorem zc_140 : zmchk zM_140 = true := by decide +kernel
set_option maxRecDepth 100000 in
theorem zc_141 : zmchk zM_141 = true := by decide +kernel
set_option maxRecDepth 100000 in
theorem zc_142 : zmchk zM_142 = true := by decide +kernel
end
section
theorem zp_all : ∀ M ∈ zp, zmchk M = true := by
  unfold zp
  exact List.forall_mem_cons.mpr ⟨zc_0, List.forall_mem_cons.mpr ⟨zc_1, List.forall_mem_cons.mpr ⟨zc_2, List.forall_mem_cons.mpr ⟨zc_3, List.forall_mem_cons.mpr ⟨zc_4, List.forall_mem_cons.mpr ⟨zc_5, List.forall_mem_cons.mpr ⟨zc_6, List.forall_mem_cons.mpr ⟨zc_7, List.forall_mem_cons.mpr ⟨zc_8, List.forall_mem_cons.mpr ⟨zc_9, List.forall_mem_cons.mpr ⟨zc_10, List.forall_mem_cons.mpr ⟨zc_11, List.forall_mem_cons.mpr ⟨zc_12, List.forall_mem_cons.mpr ⟨zc_13, List.forall_mem_cons.mpr ⟨zc_14, List.forall_mem_cons.mpr ⟨zc_15, List.forall_mem_cons.mpr ⟨zc_16, List.forall_mem_cons.mpr ⟨zc_17, List.forall_mem_cons.mpr ⟨zc_18, List.forall_mem_cons.mpr ⟨zc_19, List.forall_mem_cons.mpr ⟨zc_20, List.forall_mem_cons.mpr ⟨zc_21, List.forall_mem_cons.mpr ⟨zc_22, List.forall_mem_cons.mpr ⟨zc_23, List.forall_mem_cons.mpr ⟨zc_24, List.forall_mem_cons.mpr ⟨zc_25, List.forall_mem_cons.mpr ⟨zc_26, List.forall_mem_cons.mpr ⟨zc_27, List.forall_mem_cons.mpr ⟨zc_28, List.forall_mem_cons.mpr ⟨zc_29, List.forall_mem_cons.mpr ⟨zc_30, List.forall_mem_cons.mpr ⟨zc_31, List.forall_mem_cons.mpr ⟨zc_32, List.forall_mem_cons.mpr ⟨zc_33, List.forall_mem_cons.mpr ⟨zc_34, List.forall_mem_cons.mpr ⟨zc_35, List.forall_mem_cons.mpr ⟨zc_36, List.forall_mem_cons.mpr ⟨zc_37, List.forall_mem_cons.mpr ⟨zc_38, List.forall_mem_cons.mpr ⟨zc_39, List.forall_mem_cons.mpr ⟨zc_40, List.forall_mem_cons.mpr ⟨zc_41, List.forall_mem_cons.mpr ⟨zc_42, List.forall_mem_cons.mpr ⟨zc_43, List.forall_mem_cons.mpr ⟨zc_44, List.forall_mem_cons.mpr ⟨zc_45, List.forall_mem_cons.mpr ⟨zc_46, List.forall_mem_cons.mpr ⟨zc_47, List.forall_mem_cons.mpr ⟨zc_48, List.forall_mem_cons.mpr ⟨zc_49, List.forall_mem_cons.mpr ⟨zc_50, List.forall_mem_cons.mpr ⟨zc_51, List.forall_mem_cons.mpr ⟨zc_52, List.forall_mem_cons.mpr ⟨zc_53, List.forall_mem_cons.mpr ⟨zc_54, List.forall_mem_cons.mpr ⟨zc_55, List.forall_mem_cons.mpr ⟨zc_56, List.forall_mem_cons.mpr ⟨zc_57, List.forall_mem_cons.mpr ⟨zc_58, List.forall_mem_cons.mpr ⟨zc_59, List.forall_mem_cons.mpr ⟨zc_60, List.forall_mem_cons.mpr ⟨zc_61, List.forall_mem_cons.mpr ⟨zc_62, List.forall_mem_cons.mpr ⟨zc_63, List.forall_mem_cons.mpr ⟨zc_64, List.forall_mem_cons.mpr ⟨zc_65, List.forall_mem_cons.mpr ⟨zc_66, List.forall_mem_cons.mpr ⟨zc_67, List.forall_mem_cons.mpr ⟨zc_68, List.forall_mem_cons.mpr ⟨zc_69, List.forall_mem_cons.mpr ⟨zc_70, List.forall_mem_cons.mpr ⟨zc_71, List.forall_mem_cons.mpr ⟨zc_72, List.forall_mem_cons.mpr ⟨zc_73, List.forall_mem_cons.mpr ⟨zc_74, List.forall_mem_cons.mpr ⟨zc_75, List.forall_mem_cons.mpr ⟨zc_76, List.forall_mem_cons.mpr ⟨zc_77, List.forall_mem_cons.mpr ⟨zc_78, List.forall_mem_cons.mpr ⟨zc_79, List.forall_mem_cons.mpr ⟨zc_80, List.forall_mem_cons.mpr ⟨zc_81, List.forall_mem_cons.mpr ⟨zc_82, List.forall_mem_cons.mpr ⟨zc_83, List.forall_mem_cons.mpr ⟨zc_84, List.forall_mem_cons.mpr ⟨zc_85, List.forall_mem_cons.mpr ⟨zc_86, List.forall_mem_cons.mpr ⟨zc_87, List.forall_mem_cons.mpr ⟨zc_88, List.forall_mem_cons.mpr ⟨zc_89, List.forall_mem_cons.mpr ⟨zc_90, List.forall_mem_cons.mpr ⟨zc_91, List.forall_mem_cons.mpr ⟨zc_92, List.forall_mem_cons.mpr ⟨zc_93, List.forall_mem_cons.mpr ⟨zc_94, List.forall_mem_cons.mpr ⟨zc_95, List.forall_mem_cons.mpr ⟨zc_96, List.forall_mem_cons.mpr ⟨zc_97, List.forall_mem_cons.mpr ⟨zc_98, List.forall_mem_cons.mpr ⟨zc_99, List.forall_mem_cons.mpr ⟨zc_100, List.forall_mem_cons.mpr ⟨zc_101, List.forall_mem_cons.mpr ⟨zc_102, List.forall_mem_cons.mpr ⟨zc_103, List.forall_mem_cons.mpr ⟨zc_104, List.forall_mem_cons.mpr ⟨zc_105, List.forall_mem_cons.mpr ⟨zc_106, List.forall_mem_cons.mpr ⟨zc_107, List.forall_mem_cons.mpr ⟨zc_108, List.forall_mem_cons.mpr ⟨zc_109, List.forall_mem_cons.mpr ⟨zc_110, List.forall_mem_cons.mpr ⟨zc_111, List.forall_mem_cons.mpr ⟨zc_112, List.forall_mem_cons.mpr ⟨zc_113, List.forall_mem_cons.mpr ⟨zc_114, List.forall_mem_cons.mpr ⟨zc_115, List.forall_mem_cons.mpr ⟨zc_116, List.forall_mem_cons.mpr ⟨zc_117, List.forall_mem_cons.mpr ⟨zc_118, List.forall_mem_cons.mpr ⟨zc_119, List.forall_mem_cons.mpr ⟨zc_120, List.forall_mem_cons.mpr ⟨zc_121, List.forall_mem_cons.mpr ⟨zc_122, List.forall_mem_cons.mpr ⟨zc_123, List.forall_mem_cons.mpr ⟨zc_124, List.forall_mem_cons.mpr ⟨zc_125, List.forall_mem_cons.mpr ⟨zc_126, List.forall_mem_cons.mpr ⟨zc_127, List.forall_mem_cons.mpr ⟨zc_128, List.forall_mem_cons.mpr ⟨zc_129, List.forall_mem_cons.mpr ⟨zc_130, List.forall_mem_cons.mpr ⟨zc_131, List.forall_mem_cons.mpr ⟨zc_132, List.forall_mem_cons.mpr ⟨zc_133, List.forall_mem_cons.mpr ⟨zc_134, List.forall_mem_cons.mpr ⟨zc_135, List.forall_mem_cons.mpr ⟨zc_136, List.forall_mem_cons.mpr ⟨zc_137, List.forall_mem_cons.mpr ⟨zc_138, List.forall_mem_cons.mpr ⟨zc_139, List.forall_mem_cons.mpr ⟨zc_140, List.forall_mem_cons.mpr ⟨zc_141, List.forall_mem_cons.mpr ⟨zc_142, fun _ h => absurd h List.not_mem_nil⟩⟩⟩⟩⟩⟩⟩⟩⟩⟩⟩⟩⟩⟩⟩⟩⟩⟩⟩⟩⟩⟩⟩⟩⟩⟩⟩⟩⟩⟩⟩⟩⟩⟩⟩⟩⟩⟩⟩⟩⟩⟩⟩⟩⟩⟩⟩⟩⟩⟩⟩⟩⟩⟩⟩⟩⟩⟩⟩⟩⟩⟩⟩⟩⟩⟩⟩⟩⟩⟩⟩⟩⟩⟩⟩⟩⟩⟩⟩⟩⟩⟩⟩⟩⟩⟩⟩⟩⟩⟩⟩⟩⟩⟩⟩⟩⟩⟩⟩⟩⟩⟩⟩⟩⟩⟩⟩⟩⟩⟩⟩⟩⟩⟩⟩⟩⟩⟩⟩⟩⟩⟩⟩⟩⟩⟩⟩⟩⟩⟩⟩⟩⟩⟩⟩⟩⟩⟩⟩⟩⟩⟩⟩
end
section
/-! THE LAW'S OWN CODE -/
def zLC : List zI := zM_law.2.2.2.2.2.2.2.2.2
theorem zchunk {α : Type} (P : α → Bool) (n : Nat) : ∀ (k : Nat) (l : List α), (∀ i, i < k → ((l.drop (n * i)).take n).all P = true) → l.length ≤ n * k → l.all P = true := by
  intro k
  induction k with
  | zero =>
    intro l _ h
    rw [Nat.mul_zero] at h
    rw [List.length_eq_zero_iff.mp (Nat.le_zero.mp h)]
    rfl
  | succ k ih =>
    intro l h hl
    have h0 : (l.take n).all P = true := by
      have := h 0 (Nat.succ_pos k)
      rw [Nat.mul_zero, List.drop_zero] at this
      exact this
    have h1 : (l.drop n).all P = true := by
      refine ih (l.drop n) (fun i hi => ?_) ?_
      · have := h (i + 1) (Nat.succ_lt_succ hi)
        rw [Nat.mul_succ, Nat.add_comm, ← List.drop_drop] at this
        exact this
      · rw [List.length_drop]
        rw [Nat.mul_succ] at hl
        omega
    rw [← List.take_append_drop n l, List.all_append, h0, h1]
    rfl
def zLP (q : zI × Nat) : Bool := decide (q.1.1 = .nop) || zchk "MacrocosmLaw" "law" code zLC q.2 q.1
set_option maxRecDepth 100000 in
theorem zlc_0 : ((zLC.zipIdx.drop (40 * 0)).take 40).all zLP = true := by decide +kernel
set_option maxRecDepth 100000 in
theorem zlc_1 : ((zLC.zipIdx.drop (40 * 1)).take 40).all zLP = true := by decide +kernel
set_option maxRecDepth 100000 in
theorem zlc_2 : ((zLC.zipIdx.drop (40 * 2)).take 40).all zLP = true := by decide +kernel
set_option maxRecDepth 100000 in
theorem zlc_3 : ((zLC.zipIdx.drop (40 * 3)).take 40).all zLP = true := by decide +kernel
set_option maxRecDepth 100000 in
theorem zlc_4 : ((zLC.zipIdx.drop (40 * 4)).take 40).all zLP = true := by decide +kernel
set_option maxRecDepth 100000 in
theorem zlc_5 : ((zLC.zipIdx.drop (40 * 5)).take 40).all zLP = true := by decide +kernel
set_option maxRecDepth 100000 in
theorem zlc_6 : ((zLC.zipIdx.drop (40 * 6)).take 40).all zLP = true := by decide +kernel
set_option maxRecDepth 100000 in
theorem zlc_7 : ((zLC.zipIdx.drop (40 * 7)).take 40).all zLP = true := by decide +kernel
set_option maxRecDepth 100000 in
theorem zlc_8 : ((zLC.zipIdx.drop (40 * 8)).take 40).all zLP = true := by decide +kernel
set_option maxRecDepth 100000 in
theorem zlc_9 : ((zLC.zipIdx.drop (40 * 9)).take 40).all zLP = true := by decide +kernel
set_option maxRecDepth 100000 in
theorem zlc_10 : ((zLC.zipIdx.drop (40 * 10)).take 40).all zLP = true := by decide +kernel
set_option maxRecDepth 100000 in
theorem zlc_11 : ((zLC.zipIdx.drop (40 * 11)).take 40).all zLP = true := by decide +kernel
set_option maxRecDepth 100000 in
theorem zlc_12 : ((zLC.zipIdx.drop (40 * 12)).take 40).all zLP = true := by decide +kernel
theorem zlc_all : zLC.zipIdx.all zLP = true := by
  refine zchunk zLP 40 13 _ (fun i hi => ?_) (Nat.le_of_ble_eq_true (by decide +kernel))
  match i, hi with
  | 0, _ => exact zlc_0
  | 1, _ => exact zlc_1
  | 2, _ => exact zlc_2
  | 3, _ => exact zlc_3
  | 4, _ => exact zlc_4
  | 5, _ => exact zlc_5
  | 6, _ => exact zlc_6
  | 7, _ => exact zlc_7
  | 8, _ => exact zlc_8
  | 9, _ => exact zlc_9
  | 10, _ => exact zlc_10
  | 11, _ => exact zlc_11
  | 12, _ => exact zlc_12
set_option maxRecDepth 100000 in
theorem zlc_h : zhchk [] "MacrocosmLaw" zLC = true := by decide +kernel
set_option maxRecDepth 100000 in
theorem zlc_i : zikchk "MacrocosmLaw" zLC = true := by decide +kernel
end
section
/-! A METHOD BY CONTRACT, out of its run in lists; a call of it -/
def zPc (D : va_G) (tc : Nat → ClassId) (rh : Nat → Int32) (ad : Nat → Nat) (sz : Nat) (av : List Value) (w : List zE) : Array Value → State → Prop := va_Pc (zst ad zz rh av) (fun U => U.heap.size = sz ∧ va_P D zcl (zw tc ad rh w) U.heap ∧ va_K D zcl (ztys tc) U ∧ va_D (va_A (zw tc ad rh w) sz) (zw tc ad rh w) ∧ zZ (va_A (zw tc ad rh w) sz) U U.heap)
def zB (D : va_G) (tc : Nat → ClassId) (rh : Nat → Int32) (ad : Nat → Nat) (sz : Nat) (w : List zE) (o : zO) (ad' : Nat → Nat) (st t : State) : Prop := (∀ k, k < w.length → ad' k = ad k) ∧ va_P D zcl (zw tc ad' rh o.2.2.1) t.heap ∧ va_D (va_A (zw tc ad rh w) sz) (zw tc ad' rh o.2.2.1) ∧ zwf [] o.2.1.toList o.2.2.1 = true ∧ va_F (va_A (zw tc ad rh w) sz) st t
def zQc (D : va_G) (tc : Nat → ClassId) (rh : Nat → Int32) (ad : Nat → Nat) (sz : Nat) (w : List zE) (o : zO) : Array Value → State → Outcome → State → Prop := fun _ st oc t => o.1 = 0 ∧ ∃ ad', zB D tc rh ad sz w o ad' st t ∧ ∀ sp, oc = .returned (o.2.1.map (zv ad' sp rh))
def zXC (D : va_G) (tc : Nat → ClassId) (rh : Nat → Int32) (ad : Nat → Nat) (sz : Nat) (w : List zE) (o : zO) : String → State → State → Prop := fun E st t => ∃ k ad', o.1 = k + 1 ∧ zexn[k]? = some E ∧ zB D tc rh ad sz w o ad' st t
def zrm (d : Nat) (o : zO) : Room := { frames := 8 + d, cells := o.2.2.2.1, slots := o.2.2.2.2, locals := 200 + 100 * d }
def zOK (l : Launch) (cf : zF) (d : Nat) (call : Nat → List Value → List zE → Option zO) : Prop := ∀ (mi : Nat) (av : List Value) (w : List zE) (o : zO) (M : zM), zp[mi]? = some M → call mi av w = some o → ∀ (D : va_G) (tc : Nat → ClassId) (rh : Nat → Int32) (ad : Nat → Nat) (sz : Nat), zcfok cf rh → zwf [] av w = true → av.any zdbl = false →
  vx_Met l M.1 (zws M) (zrm d o) (zPc D tc rh ad sz av w) (zQc D tc rh ad sz w o) (zXC D tc rh ad sz w o) o.2.2.2.1 o.2.2.2.2 (va_A (zw tc ad rh w) sz)
theorem zPc_blind {D : va_G} {tc : Nat → ClassId} {rh : Nat → Int32} {ad : Nat → Nat} {sz : Nat} {av : List Value} {w : List zE} : FrameBlind (zPc D tc rh ad sz av w) := by
  intro a U g mk h
  obtain ⟨h0, h1, h2, h3, h4, h5⟩ := h
  have hW : U.WarmedH (U.calling g mk a).vm := State.WarmedH.refl U
  exact ⟨h0, h1, h2, va_K.moved hW.alike h3, h4, zZ_warm hW h5⟩
theorem zMet_of {l : Launch} {y : MethodName} {ws : List Cond} {rm : Room} {Pc : Array Value → State → Prop} {Qc : Array Value → State → Outcome → State → Prop} {XC : String → State → State → Prop} {mc ms : Nat} {free : Addr → Prop} (h : vx_Met l y ws rm Pc Qc XC mc ms free) (hx : ∀ E st t, ¬ XC E st t) : Met l y ws rm Pc Qc mc ms free := by
  unfold Met
  unfold vx_Met at h
  refine MetFree.mono h (fun _ _ h => h) (fun _ _ _ _ _ h => h) (fun a st o t _ hq => ?_)
  rcases hq with hq | ⟨q, -, E, ce, L, h1, -⟩
  · exact hq
  · exact absurd h1 (hx _ _ _)
theorem ztbl_good {w : Jvm.Cond} (h : w ∈ ztbl) : goodWord w = true := (List.mem_filter.mp h).2
theorem zgood {ws : List Jvm.Cond} (h : ∀ w ∈ ws, w ∈ ztbl) : GoodIn ztbl ws := fun w hw => ⟨h w hw, good_of_word (ztbl_good (h w hw))⟩
theorem zst_nd {ad sp : Nat → Nat} {rh : Nat → Int32} {av : List Value} (h : av.any zdbl = false) : zst ad sp rh av = zst ad zz rh av := by
  refine List.map_congr_left fun v hv => zv_nd ?_
  cases hd : zdbl v with
  | false => rfl
  | true => rw [List.any_eq_true.mpr ⟨v, hv, hd⟩] at h; cases h
theorem zm_to {M : zM} (h : zmchk M = true) : (∀ w ∈ zws M, w ∈ ztbl) ∧ Jvm.Cond.initialized M.1.cls ∈ ztbl ∧ (match M.2.2.2.2.2.1 with
    | 1 => Jvm.Cond.static M.1
    | _ => Jvm.Cond.instanceMethod M.1) ∈ ztbl ∧ M.1.cls ≠ "java/lang/invoke/MethodHandle" ∧ M.1.cls ≠ "java/lang/invoke/VarHandle" ∧ (parseMethodDescriptor M.1.desc).map (fun d => d.parameters.length) = some M.2.2.2.2.2.2.1 ∧ plainName M.1.cls = true ∧ M.2.2.1 ≤ 60 ∧ M.2.2.2.2.2.1 < 3 ∧ zcdchk M.1.cls M.1.name M.2.1 M.2.2.2.2.2.2.2.2.2 = true ∧ zhchk M.2.2.2.2.1 M.1.cls M.2.2.2.2.2.2.2.2.2 = true ∧ zikchk M.1.cls M.2.2.2.2.2.2.2.2.2 = true := by
  unfold zmchk at h
  split at h
  · simp only [Bool.and_eq_true, decide_eq_true_eq] at h
    obtain ⟨a1, a2, a3, a4, a5, a6, a7, a8, a9, a10, a11, a12⟩ := h
    refine ⟨fun w hw => ?_, zwd_to a2, zwd_to a3, a4, a5, a6, a7, a8, a9, a10, a11, a12⟩
    rcases List.mem_cons.mp hw with rfl | hw
    · exact zwd_to a1
    · exact hw
  · cases h
theorem zhps_to {hh : List (Nat × Nat × Nat × Nat)} {code : List zI} {pc E t : Nat} : ∀ hs : List Nat, zhps hh code pc hs = true → zhnd E hs = some t → ∃ i, i < hh.length ∧ zhrow hh pc E (zpc code t) i = true
  | [], _, h => nomatch h
  | [_], _, h => nomatch h
  | a :: b :: r, h1, h2 => by
    unfold zhps at h1
    rw [Bool.and_eq_true] at h1
    unfold zhnd at h2
    cases hb : Nat.beq a E with
    | true =>
      rw [hb] at h2
      obtain rfl := Option.some.inj h2
      obtain rfl := Nat.eq_of_beq_eq_true hb
      obtain ⟨i, hi, h3⟩ := List.any_eq_true.mp h1.1
      exact ⟨i, List.mem_range.mp hi, h3⟩
    | false =>
      rw [hb] at h2
      exact zhps_to r h1.2 h2
theorem zcall_to {call : Nat → List Value → List zE → Option zO} {e : zI} {ip : Nat} {ls : zL} {st : List Value} {w : List zE} {q : zN} (h : zcall call e ip ls st w = some q) : ∃ (mi j j2 : Nat) (hs : List Nat) (M : zM) (av rest : List Value) (o : zO), e.2.2.2 = mi :: j :: j2 :: hs ∧ zp[mi]? = some M ∧ st = av.reverse ++ rest ∧ zsum rest ≤ 8 ∧ av.any zdbl = false ∧ av.length = znarg M.2.2.2.2.2.1 M.2.2.2.2.2.2.1 ∧ zrecv M.2.2.2.2.2.1 M.2.2.2.2.2.2.2.1 av w = true ∧ call mi av w = some o ∧ w.length ≤ o.2.2.1.length ∧
    ((o.1 = 0 ∧ q = (ip + 1, ls, o.2.1.toList ++ rest, o.2.2.1, o.2.2.2.1, o.2.2.2.2)) ∨ ∃ E t, o.1 = E + 1 ∧ zhnd E hs = some t ∧ ls.any (fun q => zdbl q.2) = false ∧ q = (t, ls, [.double 1], o.2.2.1, o.2.2.2.1, o.2.2.2.2)) := by
  unfold zcall at h
  split at h
  · rename_i mi j j2 hs hex
    split at h
    · cases h
    · rename_i M hM
      split at h
      rename_i av rest hcut
      split at h
      · cases h
      · rename_i hb
        simp only [Bool.and_eq_true, Bool.not_eq_true'] at hb
        obtain ⟨b1, b2, b3, b4⟩ := hb
        split at h
        · cases h
        · rename_i o ho
          split at h
          · cases h
          · rename_i hwl
            have hav : av = (st.take (znarg M.2.2.2.2.2.1 M.2.2.2.2.2.2.1)).reverse := (congrArg Prod.fst hcut).symm
            have hre : rest = st.drop (znarg M.2.2.2.2.2.1 M.2.2.2.2.2.2.1) := (congrArg Prod.snd hcut).symm
            refine ⟨mi, j, j2, hs, M, av, rest, o, hex, hM, ?_, Nat.le_of_ble_eq_true b1, b2, Nat.eq_of_beq_eq_true b3, b4, ho, Nat.le_of_ble_eq_true hwl, ?_⟩
            · rw [hav, hre, List.reverse_reverse, List.take_append_drop]
            · split at h
              · rename_i h0
                exact Or.inl ⟨h0, (Option.some.inj h).symm⟩
              · rename_i E hE
                split at h
                · rename_i t ht hl
                  exact Or.inr ⟨E, t, hE, ht, hl, (Option.some.inj h).symm⟩
                · cases h
  · cases h
theorem zkind_1 {i : Instr} {ex : List Nat} (h : zkind i ex = 1) : (∃ k, i = .invokevirtual k) ∨ (∃ k, i = .invokestatic k) ∨ (∃ k, i = .invokespecial k) := by
  unfold zkind at h
  split at h
  all_goals first | (cases h; done) | exact Or.inl ⟨_, rfl⟩ | exact Or.inr (Or.inl ⟨_, rfl⟩) | exact Or.inr (Or.inr ⟨_, rfl⟩) | (split at h <;> cases h)
theorem zrecv_0 {ci : Nat} {av : List Value} {w : List zE} (h : zrecv 0 ci av w = true) : ∃ (b : Nat) (as : List Value) (o : Nat × List Value), av = .ref b :: as ∧ w[b]? = some (.inr o) ∧ (o.1 = ci ∨ ci = 99) := by
  cases av with
  | nil => exact absurd (show false = true from h) (by decide)
  | cons v as =>
    cases v with
    | ref b =>
      replace h : (match w[b]? with
        | some (.inr o) => Nat.beq o.1 ci || Nat.beq ci 99
        | _ => false) = true := h
      split at h
      · rename_i o ho
        rw [Bool.or_eq_true] at h
        exact ⟨b, as, o, rfl, ho, h.imp Nat.eq_of_beq_eq_true Nat.eq_of_beq_eq_true⟩
      · cases h
    | _ => exact absurd (show false = true from h) (by decide)
theorem zrecv_2 {ci : Nat} {av : List Value} {w : List zE} (h : zrecv 2 ci av w = true) : ∃ (b : Nat) (as : List Value), av = .ref b :: as := by
  cases av with
  | nil => exact absurd (show false = true from h) (by decide)
  | cons v as =>
    cases v with
    | ref b => exact ⟨b, as, rfl⟩
    | _ => exact absurd (show false = true from h) (by decide)
theorem zws_code {M : zM} (h : M.2.2.2.2.1 = []) : Jvm.Cond.code M.1 M.2.1 M.2.2.1 M.2.2.2.1 ∈ zws M := by
  unfold zws
  rw [h]
  exact List.mem_cons_self
theorem zws_codeW {M : zM} {z : Nat × Nat × Nat × Nat} {zs : List (Nat × Nat × Nat × Nat)} (h : M.2.2.2.2.1 = z :: zs) : Jvm.Cond.codeWith M.1 M.2.1 M.2.2.1 M.2.2.2.1 (z :: zs) ∈ zws M := by
  unfold zws
  rw [h]
  exact List.mem_cons_self
theorem zstk1 {a : Value} {l r : List Value} : (a :: l).reverse ++ r = l.reverse ++ a :: r := by simp
section ZC
variable {p : Program} {l : Launch} {en : Env} {R : Room} {s : State} {m : MethodId} {args : Array Value} {below : List Frame} {meth : Method} {c : Code} {H : Heap} {locs : List Loc} {cells slots : Nat} {Q : State → Prop}
theorem zrun_of {mc ms : Nat} {g : JFrame} {rest : List Value} {Qa : State → Outcome → State → Prop} {XC : String → State → State → Prop} {free : Addr → Prop} (h : va_Run p l en R s m args below meth c H locs cells slots mc ms g rest Qa free) : vx_Run p l en R s m args below meth c H locs cells slots mc ms g rest Qa XC free := fun T hT X => Or.inl (h T hT X)
/-- behind a call -/
theorem zgo {D : va_G} {tc : Nat → ClassId} {rh : Nat → Int32} {ad : Nat → Nat} {w : List zE} {o : zO} {A : Nat → Prop} {a : Array Value} {mc ms pc : Nat} {lsC : Array Slot} {st0 rest : List Value}
    (hr : vx_Run p l en R s m args below meth c H locs cells slots mc ms (F0 m pc lsC st0) rest (zQc D tc rh ad H.size w o a) (zXC D tc rh ad H.size w o) (va_A (zw tc ad rh w) H.size))
    (hD : va_D A (zw tc ad rh w)) (hS : va_S A s.heap H locs) (hA : ∀ q, s.heap.size ≤ q → A q)
    (kx : ∀ (E : String) (k : Nat) (ce : Cell) (q9 : Addr) (ad' : Nat → Nat) (H1 : Heap) (locs1 : List Loc), o.1 = k + 1 → zexn[k]? = some E → (∀ k, k < w.length → ad' k = ad k) → va_P D zcl (zw tc ad' rh o.2.2.1) H1 → va_D A (zw tc ad' rh o.2.2.1) → zwf [] o.2.1.toList o.2.2.1 = true → va_S A s.heap H1 locs1 → H1[q9]? = some ce → ce.vm = .none → s.vm.findClass E = some ce.cls → vx_W p l en R s m args below meth c H1 locs1 (cells + mc) (slots + ms) Q (F0 m pc lsC rest) q9)
    (kk : ∀ (v : Option Value) (ad' : Nat → Nat) (H1 : Heap) (locs1 : List Loc), o.1 = 0 → (∀ k, k < w.length → ad' k = ad k) → va_P D zcl (zw tc ad' rh o.2.2.1) H1 → va_D A (zw tc ad' rh o.2.2.1) → zwf [] o.2.1.toList o.2.2.1 = true → va_S A s.heap H1 locs1 → (∀ sp, v = o.2.1.map (zv ad' sp rh)) → W p l en R s m args below meth c H1 locs1 (cells + mc) (slots + ms) Q (F0 m (pc + 3) lsC (v.toList ++ rest))) :
    W p l en R s m args below meth c H locs cells slots Q (F0 m pc lsC st0) := by
  intro T hT X
  have hF0 : ∀ q9, va_A (zw tc ad rh w) H.size q9 → A q9 := by
    intro q9 h
    rcases h with ⟨k, e, h⟩ | h
    · exact hD.2 k (q9, e) h
    · exact hA q9 (Nat.le_trans hS.1 h)
  rcases hr T hT X with ⟨v, st₀, t, T', L, h0, X', hL, e1, e2, ⟨ho, ad', ⟨b1, b2, b3, b4, b5⟩, hv⟩, st⟩ | ⟨q9, st₀, t, T', L, E, ce, h0, X', hL, e1, e2, ⟨k, ad', ho, hE, b1, b2, b3, b4, b5⟩, hce, hcv, hcl, st⟩
  · obtain ⟨k1, k2, k3⟩ := vx_keep h0 e1 hS (fun q9 _ h => hF0 q9 h) hF0 hL b5
    obtain ⟨t2, a1, a2⟩ := kk v ad' T'.heap (locs ++ L) ho b1 (by rw [e1]; exact b2) (b3.weaken (fun _ _ _ h => hF0 _ h)) b4 k3 (fun sp => Outcome.returned.inj (hv sp)) T' rfl X'
    exact ⟨t2, st t2 a1, a2⟩
  · obtain ⟨k1, k2, k3⟩ := vx_keep h0 e1 hS (fun q9 _ h => hF0 q9 h) hF0 hL b5
    obtain ⟨t2, a1, a2⟩ := kx E k ce q9 ad' T'.heap (locs ++ L) ho hE b1 (by rw [e1]; exact b2) (b3.weaken (fun _ _ _ h => hF0 _ h)) b4 k3 (by rw [e1]; exact hce) hcv hcl T' rfl X'
    exact ⟨t2, st.trans a1, a2⟩
end ZC
set_option maxHeartbeats 4000000 in
theorem zcall_ok {p : Program} {l : Launch} {en : Env} {R : Room} {s : State} {m : MethodId} {args : Array Value} {below : List Frame} {meth : Method} {c : Code} {H : Heap} {locs : List Loc} {cells slots : Nat} {Q : State → Prop}
    {cc : ByteArray} {own nm : String} {nL : Nat} {D : va_G} {tc : Nat → ClassId} {A : Nat → Prop} {rh : Nat → Int32} {ad sp : Nat → Nat} {cf : zF} {code : List zI} {ip : Nat} {ei : zI} {ls : zL} {st : List Value} {w : List zE} {q : zN} {lsC : Array Slot} {call : Nat → List Value → List zE → Option zO} {d : Nat} {hh : List (Nat × Nat × Nat × Nat)}
    (C : zC0 p s m args meth c cc own nm nL D tc A) (hcf : zcfok cf rh) (hcall : zOK l cf d call) (hT : hh ≠ [] → c.exceptionTable.toList = tableOf hh) (hzh : zhchk hh own code = true) (hzi : zikchk own code = true) (hRf : 9 + d ≤ R.frames) (hRl : 300 + 100 * d ≤ R.locals)
    (he : code[ip]? = some ei) (hck : zchk own nm cc code ip ei = true) (hkind : zkind ei.1 ei.2.2.2 = 1) (hst : zcall call ei ip ls st w = some q)
    (hP : va_P D zcl (zw tc ad rh w) H) (hD : va_D A (zw tc ad rh w)) (hS : va_S A s.heap H locs) (hl : lv_has lsC nL (zls ad sp rh ls)) (hw : zwf ls st w = true)
    (hrc : cells + q.2.2.2.2.1 ≤ R.cells) (hrs : slots + q.2.2.2.2.2 ≤ R.slots)
    (hk : zK (fun H locs k n g => W p l en R s m args below meth c H locs k n Q g) m D tc rh A s.heap nL code ad sp w.length q (cells + q.2.2.2.2.1) (slots + q.2.2.2.2.2)) :
    W p l en R s m args below meth c H locs cells slots Q (F0 m (zpc code ip) lsC (zst ad sp rh st)) := by
  obtain ⟨mi, j, j2, hs, M, av, rest, o, hex, hM, rfl, hsum, hnd, hlen, hrecv, hco, hwl, hq⟩ := zcall_to hst
  obtain ⟨m1, m2, m3, m4, m5, m6, m7, m8, m9, -, -, -⟩ := zm_to (zp_all M (List.mem_of_getElem? hM))
  have hC := C
  obtain ⟨hx, hb, hown, hK, hts, hZ, hA, hnm, hmL⟩ := C
  obtain ⟨hw1, hw2, hw3⟩ := zwf_to hw
  rw [List.all_append, Bool.and_eq_true, List.all_reverse] at hw3
  have hmet := hcall mi av w o M hM hco D tc rh ad H.size hcf (zwf_of hw1 rfl hw3.1) hnd
  have hdq : q.2.2.2.2.1 = o.2.2.2.1 ∧ q.2.2.2.2.2 = o.2.2.2.2 := by
    rcases hq with ⟨-, rfl⟩ | ⟨_, _, -, -, -, rfl⟩ <;> exact ⟨rfl, rfl⟩
  have hfr : cells + o.2.2.2.1 ≤ R.cells ∧ slots + o.2.2.2.2 ≤ R.slots := by
    rw [← hdq.1, ← hdq.2]
    exact ⟨hrc, hrs⟩
  have hFc : ∀ q9, va_A (zw tc ad rh w) H.size q9 → A q9 := by
    intro q9 h
    rcases h with ⟨k, e, h⟩ | h
    · exact hD.2 k (q9, e) h
    · exact hA q9 (Nat.le_trans hS.1 h)
  have hPc : ∀ U : State, U.heap = H → s.WarmedH U.vm → zPc D tc rh ad H.size av w (zst ad zz rh av).toArray U := fun U hU hW => ⟨rfl, by rw [hU], by rw [hU]; exact hP, va_K.moved hW.alike hK, hD.self, by rw [hU]; exact zZ_narrow (zZ_warm hW (zZ_kept hZ hS.2.1)) hFc⟩
  have hpay : ∀ w9 ∈ zws M, ∀ (a' : Array Value) (U : State), s.WarmedH U.vm → w9.before a' U = true := pay_in hts (zgood m1)
  have hav : zst ad sp rh av = zst ad zz rh av := zst_nd hnd
  have hstk : zst ad sp rh (av.reverse ++ rest) = (zst ad zz rh av).reverse ++ zst ad sp rh rest := by
    rw [← hav]
    unfold zst
    rw [List.map_append, List.map_reverse]
  have hroom : (zrm d o).frames + 1 ≤ R.frames ∧ 8 + (M.2.2.1 + 11) + (zrm d o).locals ≤ R.locals := by
    show 8 + d + 1 ≤ R.frames ∧ 8 + (M.2.2.1 + 11) + (200 + 100 * d) ≤ R.locals
    omega
  have hpl : ∀ sig, parseMethodDescriptor M.1.desc = some sig → M.2.2.2.2.2.2.1 = sig.parameters.length := by
    intro sig h
    rw [h] at m6
    exact (Option.some.inj m6).symm
  have hCF : CallFix p m c cc nL s args ztbl own := ⟨hx, hb, hmL, hown, hts⟩
  have hsm8 : 2 * (F0 m (zpc code ip) lsC (zst ad sp rh (av.reverse ++ rest))).monitorRoom + ((zst ad sp rh rest).map fun v => v.category).sum ≤ 8 := lv_room (by rw [zsum_eq]; exact hsum)
  obtain ⟨i, pc, len, ex⟩ := ei
  have hpc : zpc code ip = pc := by simp [zpc, he]
  rw [hpc] at hsm8 ⊢
  unfold zchk at hck
  rw [Bool.and_eq_true, decide_eq_true_eq] at hck
  obtain ⟨hdec, hck⟩ := hck
  replace hdec : decode cc pc = .ok (i, len) := hdec
  replace hex : ex = mi :: j :: j2 :: hs := hex
  subst hex
  have hzie := List.all_eq_true.mp hzi _ (List.mem_of_getElem? he)
  have hzhe := List.all_eq_true.mp hzh _ (List.mem_of_getElem? he)
  have hmain : len = 3 ∧ zpc code (ip + 1) = pc + 3 ∧ vx_Run p l en R s m args below meth c H locs cells slots o.2.2.2.1 o.2.2.2.2 (F0 m pc lsC (zst ad sp rh (av.reverse ++ rest))) (zst ad sp rh rest) (zQc D tc rh ad H.size w o #[]) (zXC D tc rh ad H.size w o) (va_A (zw tc ad rh w) H.size) := by
    rcases zkind_1 hkind with ⟨idx, rfl⟩ | ⟨idx, rfl⟩ | ⟨idx, rfl⟩
    · obtain ⟨rfl, hft, hwd⟩ := zdx (n := 3) hck rfl
      refine ⟨rfl, hft, ?_⟩
      dsimp only at hwd hzie
      rw [hM] at hwd hzie
      dsimp only at hwd hzie
      simp only [Bool.and_eq_true, decide_eq_true_eq] at hwd hzie
      obtain ⟨w1, w2⟩ := hwd
      obtain ⟨z1, z2, z3, z4⟩ := hzie
      rw [z1] at hlen hrecv m3
      obtain ⟨b, as, o9, rfl, hob, hci⟩ := zrecv_0 hrecv
      have hci : o9.1 = M.2.2.2.2.2.2.2.1 := hci.resolve_right z4
      have hcw := zws_code z2
      obtain ⟨cq, hcq, hcn⟩ := Option.map_eq_some_iff.mp z3
      have hal : (zst ad zz rh as).length = M.2.2.2.2.2.2.1 := by
        rw [zst, List.length_map]
        exact Nat.succ.inj hlen
      have hre : ∃ cellB : Cell, H[ad b]? = some cellB ∧ cellB.vm.isStatics = false ∧ s.vm.findClass M.1.cls = some cellB.cls := by
        have := va_recv hK hP (ci := o9.1) (q0 := b) (by rw [hci]; exact hcq) (zw_at hob)
        rw [hcn] at this
        exact this
      exact vx_runV (n := M.2.2.2.2.2.2.1) (C := M.1.cls) (b := ad b) (As := zst ad zz rh as) (maxL := M.2.2.1) (bytes := M.2.1) (ret := M.2.2.2.1) hCF hmet ⟨⟨rfl, rfl, hroom.1, hroom.2, hpay, hcw, hts _ (m1 _ hcw), hts _ m2, ⟨m4, m5⟩, hpl, hts _ (zwd_to w1)⟩, hts _ m3, hts _ (zwd_to w2)⟩
        ⟨zPc_blind, hre, hPc⟩ rfl hal hl.1 (hstk.trans zstk1) hsm8 hdec hfr
    · obtain ⟨rfl, hft, hwd⟩ := zdx (n := 3) hck rfl
      refine ⟨rfl, hft, ?_⟩
      dsimp only at hwd hzie
      rw [hM] at hwd hzie
      dsimp only at hwd hzie
      simp only [Bool.and_eq_true, decide_eq_true_eq] at hwd hzie
      obtain ⟨z1, z2⟩ := hzie
      rw [z1] at hlen hrecv m3
      have hal : (zst ad zz rh av).length = M.2.2.2.2.2.2.1 := by
        rw [zst, List.length_map]
        exact hlen
      cases hh9 : M.2.2.2.2.1 with
      | nil =>
        have hcw := zws_code hh9
        exact vx_runS (n := M.2.2.2.2.2.2.1) (As := zst ad zz rh av) (maxL := M.2.2.1) (bytes := M.2.1) (ret := M.2.2.2.1) hCF hmet ⟨⟨rfl, rfl, hroom.1, hroom.2, hpay, hcw, hts _ (m1 _ hcw), hts _ m2, ⟨m4, m5⟩, hpl, hts _ (zwd_to hwd)⟩, hts _ m3⟩
          ⟨zPc_blind, hPc⟩ rfl hal hl.1 hstk hsm8 hdec hfr
      | cons z zs =>
        have hcw := zws_codeW hh9
        exact vx_runSX (n := M.2.2.2.2.2.2.1) (As := zst ad zz rh av) (maxL := M.2.2.1) (bytes := M.2.1) (ret := M.2.2.2.1) (hh := z :: zs) hCF hmet ⟨⟨rfl, rfl, hroom.1, hroom.2, hpay, hcw⟩, hts _ (m1 _ hcw), hts _ m2, ⟨m4, m5⟩, hpl, hts _ (zwd_to hwd), hts _ m3⟩
          ⟨zPc_blind, hPc⟩ rfl hal hl.1 hstk hsm8 hdec hfr
    · obtain ⟨rfl, hft, hwd⟩ := zdx (n := 3) hck rfl
      refine ⟨rfl, hft, ?_⟩
      dsimp only at hwd hzie hzhe
      rw [hM] at hwd hzie
      dsimp only at hwd hzie
      simp only [Bool.and_eq_true, decide_eq_true_eq] at hwd hzie hzhe
      subst hzhe
      have ho : o.1 = 0 := by
        rcases hq with ⟨h9, -⟩ | ⟨_, _, -, h9, -, -⟩
        · exact h9
        · cases h9
      have hmet' := zMet_of hmet (fun E st t h => by
        obtain ⟨k, _, h9, -⟩ := h
        rw [ho] at h9
        cases h9)
      obtain ⟨z1, z2⟩ := hzie
      have hcw := zws_code z1
      have hk3 : M.2.2.2.2.2.1 = 0 ∨ M.2.2.2.2.2.1 = 1 ∨ M.2.2.2.2.2.1 = 2 := by omega
      rcases hk3 with hk3 | hk3 | hk3
      · rw [hk3] at hlen hrecv m3 z2
        replace z2 : (decide (M.1.name ≠ "<init>") && (match M.2.2.2.2.2.2.2.2.1 with
          | [_, _, _, j4, j5] => zwd j4 (.sameMethod M.1.cls M.1.cls M.1.name M.1.desc) && zwd j5 (.superclass own M.1.cls)
          | _ => false)) = true := z2
        rw [Bool.and_eq_true, decide_eq_true_eq] at z2
        obtain ⟨y1, y2⟩ := z2
        obtain ⟨b, as, o9, rfl, hob, hci⟩ := zrecv_0 hrecv
        split at y2
        · rename_i j4 j5 _
          simp only [Bool.and_eq_true] at y2
          obtain ⟨r9, hr9, -⟩ := hP b _ (zw_at hob)
          have hat : ClassAt s r9.1 (D.1 o9.1) := (hK.1 o9.1 r9 hr9).2
          have hal : (zst ad zz rh as).length = M.2.2.2.2.2.2.1 := by
            rw [zst, List.length_map]
            exact Nat.succ.inj hlen
          exact zrun_of (va_runSU (n := M.2.2.2.2.2.2.1) (C := r9.1) (b := ad b) (As := zst ad zz rh as) (maxL := M.2.2.1) (bytes := M.2.1) (ret := M.2.2.2.1) hat hCF hmet' ⟨⟨rfl, rfl, hroom.1, hroom.2, hpay, hcw⟩, hts _ (zwd_to hwd), hts _ (zwd_to y2.1), hts _ (zwd_to y2.2), hts _ m3, hts _ m2, hts _ (m1 _ hcw), y1, hpl⟩
            ⟨zPc_blind, va_recv hK hP hr9 (zw_at hob), hPc⟩ rfl hal hl.1 (hstk.trans zstk1) hsm8 hdec hfr)
        · cases y2
      · rw [hk3] at z2
        cases z2
      · rw [hk3] at hlen hrecv m3 z2
        replace z2 : (decide (M.1.name = "<init>") && decide (M.2.2.2.1 = none)) = true := z2
        rw [Bool.and_eq_true, decide_eq_true_eq, decide_eq_true_eq] at z2
        obtain ⟨b, as, rfl⟩ := zrecv_2 hrecv
        rw [z2.2] at hcw
        have hal : (zst ad zz rh as).length = M.2.2.2.2.2.2.1 := by
          rw [zst, List.length_map]
          exact Nat.succ.inj hlen
        exact zrun_of (va_runI (n := M.2.2.2.2.2.2.1) (b := ad b) (As := zst ad zz rh as) (maxL := M.2.2.1) (bytes := M.2.1) hCF hmet' ⟨⟨rfl, rfl, hroom.1, hroom.2, hpay, hcw, hts _ (m1 _ hcw), hts _ m2, ⟨m4, m5⟩, hpl, hts _ (zwd_to hwd)⟩, z2.1, hts _ m3⟩
          ⟨zPc_blind, hPc⟩ rfl hal hl.1 (hstk.trans zstk1) hsm8 hdec hfr)
  obtain ⟨rfl, hft, hrun⟩ := hmain
  refine zgo hrun hD hS hA ?_ ?_
  · intro E k ce q9 ad' H1 locs1 ho hE hext hP1 hD1 hwf1 hS1 hce hcv hcl
    rcases hq with ⟨h9, -⟩ | ⟨E9, t, h9, hn9, hld, rfl⟩
    · rw [ho] at h9
      cases h9
    · obtain rfl : E9 = k := Nat.succ.inj (h9.symm.trans ho)
      have hhs : zhps hh code pc hs = true ∧ (hs = [] ∨ own = "MacrocosmLaw") := by
        dsimp only at hzhe
        rcases zkind_1 hkind with ⟨idx, rfl⟩ | ⟨idx, rfl⟩ | ⟨idx, rfl⟩
        · dsimp only at hzhe
          simp only [Bool.and_eq_true, Bool.or_eq_true, decide_eq_true_eq] at hzhe
          exact hzhe
        · dsimp only at hzhe
          simp only [decide_eq_true_eq] at hzhe
          subst hzhe
          cases hn9
        · dsimp only at hzhe
          simp only [decide_eq_true_eq] at hzhe
          subst hzhe
          cases hn9
      obtain ⟨hps, hso⟩ := hhs
      have hso : own = "MacrocosmLaw" := by
        rcases hso with h | h
        · subst h
          cases hn9
        · exact h
      obtain ⟨i9, hi9, hrow⟩ := zhps_to hs hps hn9
      unfold zhrow at hrow
      split at hrow
      · rename_i nm9 x9 hnm9 hx9
        cases hE.symm.trans hnm9
        simp only [Bool.and_eq_true, decide_eq_true_eq] at hrow
        obtain ⟨⟨r1, r2, r3, r4, r5⟩, r6⟩ := hrow
        have hctok : ∀ (ct : Nat) (n9 : String), zctok ct n9 = true → (Jvm.Cond.classLink own ct n9).before args s = true := by
          intro ct n9 h
          unfold zctok at h
          obtain ⟨r, -, h⟩ := List.any_eq_true.mp h
          simp only [Bool.and_eq_true, decide_eq_true_eq] at h
          rw [hso]
          exact hts _ (zwd_to h.2.2)
        have hsp : tableOf hh = (tableOf hh).take i9 ++ x9 :: (tableOf hh).drop (i9 + 1) := by
          obtain ⟨hlt, hg⟩ := List.getElem?_eq_some_iff.mp hx9
          rw [← hg, ← List.drop_eq_getElem_cons hlt, List.take_append_drop]
        have g := hk ad' (fun j => if j = 1 then q9 else sp j) H1 locs1 lsC hext rfl hP1 hD1 hS1 (by
          have e9 : zls ad' (fun j => if j = 1 then q9 else sp j) rh ls = zls ad sp rh ls := by
            rw [zls_ext hext hw2]
            refine List.map_congr_left fun q hq => ?_
            rw [zv_nd (sp' := sp)]
            cases hd : zdbl q.2 with
            | false => rfl
            | true => rw [List.any_eq_true.mpr ⟨q, hq, hd⟩] at hld; cases hld
          rw [e9]
          exact hl) (zwf_of (zwf_to hwf1).1 (zwl_le hwl hw2) rfl) hwl
        dsimp only at g
        rw [← r3] at g
        exact vx_catch (E := E) (name := E) hown _ x9 _ ((hT (fun h => by rw [h] at hi9; exact absurd hi9 (Nat.not_lt_zero _))).trans hsp) (fun z hz => by
          have h9 := List.all_eq_true.mp r6 z hz
          simp only [Bool.or_eq_true, Bool.and_eq_true, decide_eq_true_eq] at h9
          rcases h9 with h9 | ⟨h9, h10⟩
          · exact Or.inl h9
          · obtain ⟨r, hr, h11⟩ := List.any_eq_true.mp h10
            simp only [Bool.and_eq_true, decide_eq_true_eq] at h11
            refine Or.inr ⟨h9, r.2, hctok _ _ h11.2, ?_⟩
            have := hZ.2.1 r hr
            rw [h11.1] at this
            exact this) (by simpa [covers] using r1) r2 (hctok _ _ r4) (va_Nw.use rfl (hZ.1 _ r5)) hce hcv hcl g
      · cases hrow
  · intro v ad' H1 locs1 ho hext hP1 hD1 hwf1 hS1 hv
    rcases hq with ⟨-, rfl⟩ | ⟨_, _, h9, -, -, -⟩
    · obtain ⟨f1, -, f3⟩ := zwf_to hwf1
      have g := hk ad' sp H1 locs1 lsC hext rfl hP1 hD1 hS1 (by rw [zls_ext hext hw2]; exact hl) (zwf_of f1 (zwl_le hwl hw2) (by rw [List.all_append, f3, zst_le hwl hw3.2]; rfl)) hwl
      dsimp only at g
      rw [hft] at g
      have e9 : zst ad' sp rh (o.2.1.toList ++ rest) = v.toList ++ zst ad sp rh rest := by
        rw [← zst_ext hext hw3.2, hv sp]
        unfold zst
        rw [List.map_append]
        cases o.2.1 <;> rfl
      rw [e9] at g
      exact g
    · rw [ho] at h9
      cases h9
end
section
/-! A WHOLE METHOD -/
def zxchk (M : zM) : Bool := decide (zpc M.2.2.2.2.2.2.2.2.2 0 = 0) && (decide (M.2.2.2.2.1 = []) || decide (M.1.cls = "MacrocosmLaw"))
set_option maxRecDepth 100000 in
theorem zx_all : zp.all zxchk = true := by decide +kernel
theorem zkind_le (i : Instr) (ex : List Nat) : zkind i ex ≤ 2 := by
  unfold zkind
  split
  all_goals first | decide | (split <;> decide)
theorem zkind_2 {i : Instr} {ex : List Nat} (h0 : zkind i ex = 0 → False) (h1 : zkind i ex = 1 → False) : zkind i ex = 2 := by
  have h2 := zkind_le i ex
  generalize zkind i ex = k at h0 h1 h2 ⊢
  match k, h0, h1, h2 with
  | 0, h0, _, _ => exact (h0 rfl).elim
  | 1, _, h1, _ => exact (h1 rfl).elim
  | 2, _, _, _ => rfl
  | k + 3, _, _, h2 => exact absurd h2 (by omega)
theorem zcd_to {own nm : String} {cc : ByteArray} {code : List zI} (h : zcdchk own nm cc code = true) {ip : Nat} {e : zI} (he : code[ip]? = some e) (hn : e.1 ≠ .nop) : zchk own nm cc code ip e = true := by
  have hm : (e, ip) ∈ code.zipIdx := List.mem_of_getElem? (i := ip) (by rw [List.getElem?_zipIdx, he]; simp)
  have := List.all_eq_true.mp h _ hm
  rw [Bool.or_eq_true, decide_eq_true_eq] at this
  exact this.resolve_left hn
theorem zloop_le {call : Nat → List Value → List zE → Option zO} {isL : Bool} {cf : zF} {nL : Nat} {code : List zI} : ∀ (n ip : Nat) (ls : zL) (st : List Value) (w : List zE) (dc ds : Nat) (q : zN), zloop call isL cf nL code n ip ls st w dc ds = some q → dc ≤ q.2.2.2.2.1 ∧ ds ≤ q.2.2.2.2.2 := by
  intro n
  induction n with
  | zero =>
    intro ip ls st w dc ds q h
    unfold zloop at h
    cases h
  | succ n ih =>
    intro ip ls st w dc ds q h
    unfold zloop at h
    split at h
    · cases h
    · split at h
      · obtain rfl := Option.some.inj h
        exact ⟨Nat.le_refl _, Nat.le_refl _⟩
      · split at h
        · cases h
        · have := ih _ _ _ _ _ _ _ h
          exact ⟨Nat.le_trans (Nat.le_add_right _ _) this.1, Nat.le_trans (Nat.le_add_right _ _) this.2⟩
      · split at h
        · cases h
        · have := ih _ _ _ _ _ _ _ h
          exact ⟨Nat.le_trans (Nat.le_add_right _ _) this.1, Nat.le_trans (Nat.le_add_right _ _) this.2⟩
set_option maxHeartbeats 4000000 in
theorem zloop_ok {p : Program} {l : Launch} {en : Env} {R : Room} {s : State} {m : MethodId} {args : Array Value} {below : List Frame} {meth : Method} {c : Code} {Q : State → Prop}
    {cc : ByteArray} {own nm : String} {nL : Nat} {D : va_G} {tc : Nat → ClassId} {A : Nat → Prop} {rh : Nat → Int32} {sp0 : Nat} {cf : zF} {isL : Bool} {code : List zI} {call : Nat → List Value → List zE → Option zO} {d : Nat} {hh : List (Nat × Nat × Nat × Nat)}
    (C : zC0 p s m args meth c cc own nm nL D tc A) (hcf : zcfok cf rh) (hscr : isL = true → va_X sp0 cf.2.2.1 rh s s.heap ∧ sp0 < s.heap.size ∧ ¬ A sp0) (hcall : zOK l cf d call) (hT : hh ≠ [] → c.exceptionTable.toList = tableOf hh) (hzh : zhchk hh own code = true) (hzi : zikchk own code = true) (hRf : 9 + d ≤ R.frames) (hRl : 300 + 100 * d ≤ R.locals) (hcd : zcdchk own nm cc code = true) :
    ∀ (n ip : Nat) (ls : zL) (st : List Value) (w : List zE) (dc ds : Nat) (q : zN) (ad sp : Nat → Nat) (H : Heap) (locs : List Loc) (lsC : Array Slot), zloop call isL cf nL code n ip ls st w dc ds = some q → q.2.2.2.2.1 ≤ R.cells → q.2.2.2.2.2 ≤ R.slots →
      va_P D zcl (zw tc ad rh w) H → va_D A (zw tc ad rh w) → va_S A s.heap H locs → lv_has lsC nL (zls ad sp rh ls) → zwf ls st w = true → sp 0 = sp0 →
      zK (fun H locs k n g => W p l en R s m args below meth c H locs k n Q g) m D tc rh A s.heap nL code ad sp w.length q q.2.2.2.2.1 q.2.2.2.2.2 →
      W p l en R s m args below meth c H locs dc ds Q (F0 m (zpc code ip) lsC (zst ad sp rh st)) := by
  intro n
  induction n with
  | zero =>
    intro ip ls st w dc ds q ad sp H locs lsC h
    unfold zloop at h
    cases h
  | succ n ih =>
    intro ip ls st w dc ds q ad sp H locs lsC h hrc hrs hP hD hS hl hw hsp hk
    unfold zloop at h
    split at h
    · cases h
    · rename_i e he
      split at h
      · obtain rfl := Option.some.inj h
        exact hk ad sp H locs lsC (fun _ _ => rfl) rfl hP hD hS hl hw (Nat.le_refl _)
      · rename_i hk1
        split at h
        · cases h
        · rename_i q1 hq1
          have hle := zloop_le _ _ _ _ _ _ _ _ h
          have hne : e.1 ≠ .nop := by
            intro h9
            rw [h9] at hk1
            cases hk1
          refine zcall_ok C hcf hcall hT hzh hzi hRf hRl he (zcd_to hcd he hne) hk1 hq1 hP hD hS hl hw (Nat.le_trans hle.1 hrc) (Nat.le_trans hle.2 hrs) ?_
          intro ad1 sp1 H1 locs1 lsC1 e1 e2 hP1 hD1 hS1 hl1 hw1 hn1
          refine ih _ _ _ _ _ _ _ ad1 sp1 H1 locs1 lsC1 h hrc hrs hP1 hD1 hS1 hl1 hw1 (e2.trans hsp) ?_
          intro ad2 sp2 H2 locs2 lsC2 f1 f2 hP2 hD2 hS2 hl2 hw2 hn2
          exact hk ad2 sp2 H2 locs2 lsC2 (fun k hk => (f1 k (Nat.lt_of_lt_of_le hk hn1)).trans (e1 k hk)) (f2.trans e2) hP2 hD2 hS2 hl2 hw2 (Nat.le_trans hn1 hn2)
      · rename_i hk2a hk2b
        split at h
        · cases h
        · rename_i q1 hq1
          have hle := zloop_le _ _ _ _ _ _ _ _ h
          have hne : e.1 ≠ .nop := by
            intro h9
            obtain ⟨i9, r9⟩ := e
            replace h9 : i9 = .nop := h9
            subst h9
            cases (show (none : Option zN) = some q1 from hq1)
          refine zstep_ok C hcf (fun h9 => by rw [hsp]; exact hscr h9) ⟨by omega, by omega⟩ he (zcd_to hcd he hne) (zkind_2 hk2a hk2b) hq1 hP hD hS hl hw (Nat.le_trans hle.1 hrc) (Nat.le_trans hle.2 hrs) ?_
          intro ad1 sp1 H1 locs1 lsC1 e1 e2 hP1 hD1 hS1 hl1 hw1 hn1
          refine ih _ _ _ _ _ _ _ ad1 sp1 H1 locs1 lsC1 h hrc hrs hP1 hD1 hS1 hl1 hw1 (e2.trans hsp) ?_
          intro ad2 sp2 H2 locs2 lsC2 f1 f2 hP2 hD2 hS2 hl2 hw2 hn2
          exact hk ad2 sp2 H2 locs2 lsC2 (fun k hk => (f1 k (Nat.lt_of_lt_of_le hk hn1)).trans (e1 k hk)) (f2.trans e2) hP2 hD2 hS2 hl2 hw2 (Nat.le_trans hn1 hn2)
theorem zsl_len {ad sp : Nat → Nat} {rh : Nat → Int32} (av : List Value) : (lg_sl (zst ad sp rh av)).length = zsum av := by
  induction av with
  | nil => rfl
  | cons v r ih =>
    unfold lg_sl at ih ⊢
    rw [zst_cons, List.flatMap_cons, List.length_append, ih]
    show _ = zcat v + zsum r
    congr 1
    cases v <;> rfl
theorem zargs_eq {ad sp : Nat → Nat} {rh : Nat → Int32} (av : List Value) : ∀ i : Nat, lv_args i (zst ad sp rh av) = zls ad sp rh (zargs i av) := by
  induction av with
  | nil => intro i; rfl
  | cons v r ih =>
    intro i
    rw [zst_cons]
    unfold lv_args zargs
    show _ = (i, zv ad sp rh v) :: zls ad sp rh (zargs (i + zcat v) r)
    rw [← ih]
    cases v <;> rfl
theorem zargs_wf {n : Nat} {av : List Value} (h : av.all (zwv n) = true) : ∀ i : Nat, zwl n (zargs i av) = true := by
  induction av with
  | nil => intro i; rfl
  | cons v r ih =>
    intro i
    rw [List.all_cons, Bool.and_eq_true] at h
    unfold zargs zwl
    rw [List.all_cons, h.1]
    exact ih h.2 _
theorem zout_to {ret : Option FieldType} {code : List zI} {q : zN} {o : zO} (h : zout ret code q = some o) : ∃ e, code[q.1]? = some e ∧ (
    (∃ x ty, e.1 = .ireturn ∧ q.2.2.1 = [.int x] ∧ ret = some ty ∧ narrow ty (.int x) = .int x ∧ o = (0, some (.int x), q.2.2.2.1, q.2.2.2.2.1, q.2.2.2.2.2)) ∨
    (∃ x, e.1 = .lreturn ∧ q.2.2.1 = [.long x] ∧ ret = some .long ∧ o = (0, some (.long x), q.2.2.2.1, q.2.2.2.2.1, q.2.2.2.2.2)) ∨
    (∃ v n, e.1 = .areturn ∧ q.2.2.1 = [v] ∧ ret = some (.object n) ∧ (v = .null ∨ ∃ a, v = .ref a) ∧ o = (0, some v, q.2.2.2.1, q.2.2.2.2.1, q.2.2.2.2.2)) ∨
    (e.1 = .return_ ∧ q.2.2.1 = [] ∧ ret = none ∧ o = (0, none, q.2.2.2.1, q.2.2.2.2.1, q.2.2.2.2.2)) ∨
    (∃ idx E a b c r, e.1 = .new idx ∧ e.2.2.2 = E :: a :: b :: c :: r ∧ zsum q.2.2.1 ≤ 8 ∧ o = (E + 1, none, q.2.2.2.1, q.2.2.2.2.1 + 1, q.2.2.2.2.2 + 6))) := by
  unfold zout at h
  split at h
  · cases h
  · rename_i e he
    refine ⟨e, he, ?_⟩
    split at h
    · rename_i x h1 h2
      split at h
      · rename_i ty
        split at h
        · rename_i hn
          exact Or.inl ⟨x, ty, h1, h2, rfl, of_decide_eq_true hn, (Option.some.inj h).symm⟩
        · cases h
      · cases h
    · rename_i x h1 h2
      split at h
      · rename_i hn
        exact Or.inr (Or.inl ⟨x, h1, h2, of_decide_eq_true hn, (Option.some.inj h).symm⟩)
      · cases h
    · rename_i v h1 h2
      split at h
      · exact Or.inr (Or.inr (Or.inl ⟨_, _, h1, h2, rfl, Or.inr ⟨_, rfl⟩, (Option.some.inj h).symm⟩))
      · exact Or.inr (Or.inr (Or.inl ⟨_, _, h1, h2, rfl, Or.inl rfl, (Option.some.inj h).symm⟩))
      · cases h
    · rename_i h1 h2
      split at h
      · rename_i hn
        exact Or.inr (Or.inr (Or.inr (Or.inl ⟨h1, h2, of_decide_eq_true hn, (Option.some.inj h).symm⟩)))
      · cases h
    · rename_i idx h1
      split at h
      · rename_i E a b c r hex hs
        exact Or.inr (Or.inr (Or.inr (Or.inr ⟨idx, E, a, b, c, r, h1, hex, Nat.le_of_ble_eq_true hs, (Option.some.inj h).symm⟩)))
      · cases h
    · cases h
end
section
/-! THE THROWS' WORDS -/
def zcls : List (Nat × String) := [(100, "java/lang/IllegalStateException"), (78, "java/lang/IndexOutOfBoundsException"), (140, "java/lang/IllegalArgumentException")]
def zthr (ic : Nat) (cls : String) : List Jvm.Cond := vx_atS "Macrocosm" ic cls zchn
def zthrchk (r : Nat × String) : Bool := Bundle.fit r.2 && ((zthr r.1 r.2).all (fun w => vx_ot w && (if goodWord w then decide (w ∈ lw_tbl) else decide (w ∈ zFw))) && (decide (Jvm.Cond.initialized r.2 ∈ lw_tbl) && goodWord (Jvm.Cond.initialized r.2)))
set_option maxRecDepth 100000 in
theorem zthr_0 : zthrchk (100, "java/lang/IllegalStateException") = true := by decide +kernel
set_option maxRecDepth 100000 in
theorem zthr_1 : zthrchk (78, "java/lang/IndexOutOfBoundsException") = true := by decide +kernel
set_option maxRecDepth 100000 in
theorem zthr_2 : zthrchk (140, "java/lang/IllegalArgumentException") = true := by decide +kernel
theorem zchn_fit : ∀ n ∈ zchn, Bundle.fit n = true := by decide +kernel
end
section
/-! A METHOD'S CONTRACT, by the bound on its depth -/
theorem zthr_E {E : Nat} {cls : String} (h : zexn[E]? = some cls) : zthrchk (zic E, cls) = true := by
  match E, h with
  | 0, h => obtain rfl := Option.some.inj h; exact zthr_0
  | 1, h => obtain rfl := Option.some.inj h; exact zthr_1
  | 2, h => obtain rfl := Option.some.inj h; exact zthr_2
theorem zthr_ok {args : Array Value} {s : State} {ic : Nat} {cls : String} (hts : ∀ w ∈ ztbl, w.before args s = true) (hF : ∀ w ∈ zFw, va_Nw w s) (h : zthrchk (ic, cls) = true) : Bundle.fit cls = true ∧ (∀ w ∈ vx_atS "Macrocosm" ic cls zchn, w.before args s = true ∧ vx_ot w = true) ∧ (Jvm.Cond.initialized cls).before args s = true ∧ vx_ot (Jvm.Cond.initialized cls) = true := by
  unfold zthrchk at h
  simp only [Bool.and_eq_true, decide_eq_true_eq] at h
  obtain ⟨h1, h2, h3, h4⟩ := h
  refine ⟨h1, fun w hw => ?_, hts _ (List.mem_filter.mpr ⟨h3, h4⟩), ?_⟩
  · have h5 := List.all_eq_true.mp h2 w hw
    rw [Bool.and_eq_true] at h5
    refine ⟨?_, h5.1⟩
    have h6 := h5.2
    split at h6
    · rename_i hg
      exact hts _ (List.mem_filter.mpr ⟨of_decide_eq_true h6, hg⟩)
    · rename_i hg
      have h7 := h5.1
      unfold vx_ot at h7
      rw [Bool.or_eq_true] at h7
      exact va_Nw.use (h7.resolve_right hg) (hF w (of_decide_eq_true h6))
  · unfold vx_ot
    rw [h4, Bool.or_true]
set_option maxHeartbeats 4000000 in
theorem zmeth {l : Launch} {cf : zF} {d : Nat} (hfl : l.stackTraces = false) (hc : zOK l cf d (zrun cf d)) : zOK l cf (d + 1) (zrun cf (d + 1)) := by
  intro mi av w o M hM hrun D tc rh ad sz hcf hwf hnd
  unfold zrun at hrun
  rw [hM] at hrun
  dsimp only at hrun
  split at hrun
  · cases hrun
  · rename_i hble
    split at hrun
    · cases hrun
    · rename_i q hq
      have hble := Nat.le_of_ble_eq_true hble
      obtain ⟨m1, m2, m3, m4, m5, m6, m7, m8, m9, m10, m11, m12⟩ := zm_to (zp_all M (List.mem_of_getElem? hM))
      have hxc := List.all_eq_true.mp zx_all M (List.mem_of_getElem? hM)
      unfold zxchk at hxc
      rw [Bool.and_eq_true, decide_eq_true_eq, Bool.or_eq_true, decide_eq_true_eq, decide_eq_true_eq] at hxc
      obtain ⟨e9, he9, hcase⟩ := zout_to hrun
      have hdq : q.2.2.2.2.1 ≤ o.2.2.2.1 ∧ q.2.2.2.2.2 ≤ o.2.2.2.2 := by
        rcases hcase with ⟨_, _, -, -, -, -, rfl⟩ | ⟨_, -, -, -, rfl⟩ | ⟨_, _, -, -, -, -, rfl⟩ | ⟨-, -, -, rfl⟩ | ⟨_, _, _, _, _, _, -, -, -, rfl⟩
        · exact ⟨Nat.le_refl _, Nat.le_refl _⟩
        · exact ⟨Nat.le_refl _, Nat.le_refl _⟩
        · exact ⟨Nat.le_refl _, Nat.le_refl _⟩
        · exact ⟨Nat.le_refl _, Nat.le_refl _⟩
        · exact ⟨Nat.le_add_right _ _, Nat.le_add_right _ _⟩
      have body : ∀ (p : Program) (e : Env) (s : State) (m : MethodId) (args : Array Value) (below : List Frame) (meth : Method) (c : Code) (s₁ : State), BodyLoose p l M.1 (headSpec (zws M) (zrm (d + 1) o)) M.2.1 M.2.2.1 M.2.2.2.1 e s m args below meth c s₁ → c.maxLocals = M.2.2.1 → c.exceptionTable.toList = tableOf M.2.2.2.2.1 → zPc D tc rh ad sz av w args s →
          W p l e (zrm (d + 1) o) s m args below meth c s.heap [] 0 0 (vx_MQ below (zQc D tc rh ad sz w o) (zXC D tc rh ad sz w o) args s o.2.2.2.1 o.2.2.2.2 (va_A (zw tc ad rh w) sz)) (entryFrame m args M.2.2.1) := by
        intro p e s m args below meth c s₁ B hml hT hv
        obtain ⟨rfl, hsz, hP, hK, hD, hZ⟩ := hv
        subst hsz
        have hts := atoms_spec (ws := zws M) B.pre
        have htb : ∀ w ∈ ztbl, w.before (zst ad zz rh av).toArray s = true := fun w hw => hts w (List.mem_cons_of_mem _ hw)
        have hown : s.vm.findClass M.1.cls = some m.cls := findClass_of_methodNamed B.named
        have hx := B.exec
        have hb := B.bytes
        have hr := B.returns
        have hlocks : meth.locks = false := B.notSynchronized
        obtain ⟨hw1, -, hw3⟩ := zwf_to hwf
        have hl := lv_entry (zst ad zz rh av) (n := M.2.2.1) (by rw [zsl_len]; exact hble)
        rw [zargs_eq] at hl
        rw [lg_entry_eq]
        generalize (lg_sl (zst ad zz rh av) ++ List.replicate (M.2.2.1 - (lg_sl (zst ad zz rh av)).length) Slot.unset).toArray = lsC at hl ⊢
        have C0 : zC0 p s m (zst ad zz rh av).toArray meth c M.2.1 M.1.cls M.1.name M.2.2.1 D tc (va_A (zw tc ad rh w) s.heap.size) := ⟨hx, hb, hown, hK, htb, hZ, fun q h => Or.inr h, fun h => (name_of_methodNamed B.named B.method).1.trans h, hml⟩
        have g := zloop_ok (Q := vx_MQ below (zQc D tc rh ad s.heap.size w o) (zXC D tc rh ad s.heap.size w o) (zst ad zz rh av).toArray s o.2.2.2.1 o.2.2.2.2 (va_A (zw tc ad rh w) s.heap.size)) (l := l) (en := e) (R := zrm (d + 1) o) (below := below) (sp0 := 0) (isL := false) (d := d) C0 hcf (fun h => by cases h) hc (fun _ => hT) m11 m12 (by show 9 + d ≤ 8 + (d + 1); omega) (by show 300 + 100 * d ≤ 200 + 100 * (d + 1); omega) m10 3000 0 (zargs 0 av) [] w 0 0 q ad zz s.heap [] lsC hq hdq.1 hdq.2 hP hD va_S.rf hl (zwf_of hw1 (zargs_wf hw3 0) rfl) rfl ?_
        · rw [hxc.1] at g
          exact g
        · intro ad' sp' H' locs' lsC' hext hsp hP' hD' hS' hl' hw' hn'
          obtain ⟨i, pc, len, ex⟩ := e9
          have hpc : zpc M.2.2.2.2.2.2.2.2.2 q.1 = pc := by simp [zpc, he9]
          rw [hpc]
          obtain ⟨f1, f2, f3⟩ := zwf_to hw'
          rcases hcase with ⟨x, ty, h1, h2, h3, h4, rfl⟩ | ⟨x, h1, h2, h3, rfl⟩ | ⟨v, n, h1, h2, h3, h4, rfl⟩ | ⟨h1, h2, h3, rfl⟩ | ⟨idx, E, j, si, ic, r, h1, h2, h3, rfl⟩
          · replace h1 : i = .ireturn := h1
            subst h1
            have hck := zcd_to m10 he9 (fun h => by cases h)
            unfold zchk at hck
            rw [Bool.and_eq_true, decide_eq_true_eq] at hck
            obtain ⟨hdec, hck⟩ := hck
            obtain rfl : len = 1 := of_decide_eq_true hck
            rw [h2]
            exact vx_ret (W.zret hx hb (hr.trans h3) h4 (fun t ht hW => ⟨rfl, ad', ⟨hext, by rw [ht]; exact hP', hD', zwf_of f1 rfl rfl, hS'.F ht⟩, fun sp => rfl⟩) (fun z hz => hS'.2.2 z hz) hdec hlocks)
          · replace h1 : i = .lreturn := h1
            subst h1
            have hck := zcd_to m10 he9 (fun h => by cases h)
            unfold zchk at hck
            rw [Bool.and_eq_true, decide_eq_true_eq] at hck
            obtain ⟨hdec, hck⟩ := hck
            obtain rfl : len = 1 := of_decide_eq_true hck
            rw [h2]
            exact vx_ret (W.lret hx hb (hr.trans h3) (fun t ht hW => ⟨rfl, ad', ⟨hext, by rw [ht]; exact hP', hD', zwf_of f1 rfl rfl, hS'.F ht⟩, fun sp => rfl⟩) (fun z hz => hS'.2.2 z hz) hdec hlocks)
          · replace h1 : i = .areturn := h1
            subst h1
            have hck := zcd_to m10 he9 (fun h => by cases h)
            unfold zchk at hck
            rw [Bool.and_eq_true, decide_eq_true_eq] at hck
            obtain ⟨hdec, hck⟩ := hck
            obtain rfl : len = 1 := of_decide_eq_true hck
            rw [h2] at f3 ⊢
            exact vx_ret (W.aret hx hb (hr.trans h3) (Or.inl ⟨n, rfl⟩) (by
              rcases h4 with rfl | ⟨a, rfl⟩
              · exact Or.inl rfl
              · exact Or.inr ⟨_, rfl⟩) (fun t ht hW => ⟨rfl, ad', ⟨hext, by rw [ht]; exact hP', hD', zwf_of f1 rfl f3, hS'.F ht⟩, fun sp => by
              rcases h4 with rfl | ⟨a, rfl⟩
              · rfl
              · rfl⟩) (fun z hz => hS'.2.2 z hz) hdec hlocks)
          · replace h1 : i = .return_ := h1
            subst h1
            have hck := zcd_to m10 he9 (fun h => by cases h)
            unfold zchk at hck
            rw [Bool.and_eq_true, decide_eq_true_eq] at hck
            obtain ⟨hdec, hck⟩ := hck
            obtain rfl : len = 1 := of_decide_eq_true hck
            rw [h2]
            exact vx_ret (W.vret hx hb (hr.trans h3) (fun t ht hW => ⟨rfl, ad', ⟨hext, by rw [ht]; exact hP', hD', zwf_of f1 rfl rfl, hS'.F ht⟩, fun sp => rfl⟩) (fun z hz => hS'.2.2 z hz) hdec hlocks)
          · replace h1 : i = .new idx := h1
            subst h1
            replace h2 : ex = E :: j :: si :: ic :: r := h2
            subst h2
            have hck := zcd_to m10 he9 (fun h => by cases h)
            unfold zchk at hck
            rw [Bool.and_eq_true, decide_eq_true_eq] at hck
            obtain ⟨hdec, hck⟩ := hck
            match r, hck with
            | [], hck =>
              replace hck : (zln _ && false) = true := hck
              rw [Bool.and_false] at hck
              cases hck
            | _ :: _ :: _, hck =>
              replace hck : (zln _ && false) = true := hck
              rw [Bool.and_false] at hck
              cases hck
            | [sx], hck =>
              replace hck : (zln (Instr.new idx, pc, len, [E, j, si, ic, sx]) && (decide (M.1.cls = "Macrocosm") && (decide (ic = zic E) && (decide (E < 3) && (match zexn[E]?, zStr[sx]? with
                | some cls, some q => zwd j (.classLink M.1.cls idx cls) && (decide (q.1 = M.1.cls) && decide (q.2.1 = si))
                | _, _ => false) && (decide (decode M.2.1 (pc + 3) = .ok (.dup, 1)) && (decide (decode M.2.1 (pc + 4) = .ok (.ldc si, 2)) && (decide (decode M.2.1 (pc + 6) = .ok (.invokespecial ic, 3)) && decide (decode M.2.1 (pc + 9) = .ok (.athrow, 1))))))))) = true := hck
              simp only [Bool.and_eq_true, decide_eq_true_eq] at hck
              obtain ⟨c1, c2, c3, ⟨c4, c5⟩, c6, c7, c8, c9⟩ := hck
              obtain rfl : len = 3 := of_decide_eq_true c1
              split at c5
              · rename_i cls q9 hcls hq9
                simp only [Bool.and_eq_true, decide_eq_true_eq] at c5
                obtain ⟨d1, d2, d3⟩ := c5
                subst c3
                rw [c2] at hown d1 d2
                obtain ⟨t1, t2, t3, t4⟩ := zthr_ok htb hZ.1 (zthr_E hcls)
                obtain ⟨sa, hsa⟩ := hZ.2.2.1 q9 (List.mem_of_getElem? hq9)
                rw [d2, d3] at hsa
                have hnil : M.2.2.2.2.1 = [] := hxc.2.resolve_right (fun h => by rw [c2] at h; exact absurd h (by decide))
                refine vx_throwS hx hb hfl (own := "Macrocosm") (names := zchn) (A := va_A (zw tc ad rh w) s.heap.size) hown t1 zchn_fit (htb _ (zwd_to d1)) t3 hsa (fun w hw => (t2 w hw).1) ?_ hZ.2.2.2.2.1 hZ.2.2.2.2.2.1 hS' (hl'.1.trans hml.symm) hdec c6 c7 c8 c9 ?_ ?_ ?_ (Nat.le_refl _) (Nat.le_refl _) hlocks ?_ (fun z hz => hS'.2.2 z hz) (Nat.le_refl _) (Nat.le_refl _)
                · intro w hw
                  rcases List.mem_cons.mp hw with rfl | hw
                  · unfold vx_ot
                    rw [ztbl_good (zwd_to d1), Bool.or_true]
                  · rcases List.mem_cons.mp hw with rfl | hw
                    · exact t4
                    · exact (t2 w hw).2
                · intro x9 hx9
                  rw [hT, hnil] at hx9
                  cases hx9
                · show 2 + 3 < 8 + (d + 1)
                  omega
                · rw [zsum_eq]
                  show zsum q.2.2.1 + (13 * (2 + 1) + 43) ≤ 200 + 100 * (d + 1)
                  omega
                · intro t hvm hsz hq8
                  refine ⟨E, ad', rfl, hcls, hext, fun k q7 h7 => (hP' k q7 h7).kept (hq8 _ (hP' k q7 h7).lt), hD', zwf_of f1 rfl rfl, Nat.le_trans hS'.1 hsz, fun q7 h7 h8 => ?_⟩
                  rw [hq8 q7 (Nat.lt_of_lt_of_le h7 hS'.1)]
                  exact hS'.2.1 q7 h7 h8
              · cases c5
      cases hh9 : M.2.2.2.2.1 with
      | nil =>
        exact vx_ofW (cc := M.2.1) (maxL := M.2.2.1) (ret := M.2.2.2.1) (ws' := ztbl) m7 (by unfold zws; rw [hh9]) (fun p e s m args below meth c s₁ B hml ht hv => body p e s m args below meth c s₁ B hml (by rw [hh9]; exact List.eq_nil_iff_forall_not_mem.mpr ht) hv)
      | cons z zs =>
        have hcw := zws_codeW hh9
        exact vx_ofWH (cc := M.2.1) (maxL := M.2.2.1) (ret := M.2.2.2.1) (ws' := ztbl) (hh := z :: zs) m7 (by unfold zws; rw [hh9]) (fun p e s m args below meth c s₁ B hml hv => body p e s m args below meth c s₁ B hml (by rw [hh9]; exact vx_table (x := M.1) B (atoms_spec (ws := zws M) B.pre _ hcw)) hv)
theorem zOK_all {l : Launch} {cf : zF} (hfl : l.stackTraces = false) : ∀ d, zOK l cf d (zrun cf d) := by
  intro d
  induction d with
  | zero =>
    intro mi av w o M hM hrun
    unfold zrun at hrun
    cases hrun
  | succ d ih => exact zmeth hfl ih
end
section
/-! THE CLAIM OUT OF ONE WALK OF THE LAW'S BODY. Your part is whole_start (and what it stands on); all else here is the same for every law, but numbers. -/
def R_law : String := "MacrocosmLaw"
def lw_P (b : Addr) (xs : List Int32) (args : Array Value) (s : State) : Prop := args = #[.ref b] ∧ s.IntsAt b xs ∧ xs.length ≤ 3 ∧ (Jvm.Cond.and given_1 narrow_1).before args s = true
def lw_Q (_ : Array Value) (s : State) (o : Outcome) (t : State) : Prop := o = .returned (some (.int 1)) ∧ Framed s o t [] 600002 7302232
def lw_Z (below : List Frame) (a : Array Value) (s : State) : State → Prop := fun t => ∃ o, t.status = .running ∧ Ended t below o ∧ lw_Q a s o t
/-- the law's own end, with 1 on the stack, nothing written that was there before, its room as the claim has it -/
theorem lw_ret {p : Program} {l : Launch} {e : Env} {s : State} {m : MethodId} {below : List Frame} {meth : Method} {c : Code} {b : Nat} (hx : p.tables.exec = Jvm.exec) (hb : c.code = code) (hr : meth.sig.returnType = ret) (hlocks : meth.locks = false) {pc : Nat} {H : Heap} {ls : Array Slot} (hdg : decode code pc = .ok (.ireturn, 1)) : W p l e room_1 s m #[Value.ref b] below meth c H [] 600002 7302232 (lw_Z below #[Value.ref b] s) (F0 m pc ls [.int 1]) := by
  intro T hT X
  obtain ⟨fs, hret, hrun, hended, hW, hframe⟩ := X.leave (v := some (.int 1)) (hlocks := hlocks) (fun h => by rw [hr] at h; cases h)
  have hmeth' : T.vm.method? m = some meth := X.method'
  refine ⟨T.setFrames fs, ?_, .returned (some (.int 1)), hrun, hended, rfl, ⟨_, rfl⟩, hW, hframe⟩
  jvm_step X.here [X.here.top, hx, hb, hdg, hmeth', hr, ret, narrow_b1]
  (try refine ⟨rfl, ?_⟩); (try refine ⟨rfl, ?_⟩)
  first | (intro acts; rw [hret _ acts rfl rfl rfl]) | rw [hret _ _ rfl rfl rfl]
  exact Steps.refl _
/-- what holds at the law's entry: the machine, the code, the tables' words (any of lw_tbl by 'hts w (by decide +kernel)'), the script of L ints xs at the cell b, what the Statement gives of the start (any of its parts by flat_of_before) -/
def lw_At (p : Program) (s : State) (m : MethodId) (meth : Method) (c : Code) (b L : Nat) (xs : Nat → Int32) : Prop :=
  p.tables.exec = Jvm.exec ∧ c.code = code ∧ meth.sig.returnType = ret ∧ c.maxLocals = 8 ∧ s.vm.findClass R_law = some m.cls ∧ (∀ w ∈ lw_tbl, w.before #[Value.ref b] s = true) ∧ va_X b L xs s s.heap ∧ b < s.heap.size ∧ meth.locks = false ∧ (Jvm.Cond.and given_1 narrow_1).before #[Value.ref b] s = true
set_option maxRecDepth 100000 in
theorem zFw_all : zFw.all (fun w => decide (w ∈ lw_tbl) && w.onTables) = true := by decide +kernel
set_option maxRecDepth 100000 in
theorem zStr_all : zStr.all (fun q => decide (q.1 = "Macrocosm") && decide (Jvm.Cond.stringRef q.1 q.2.1 q.2.2 ∈ lw_tbl)) = true := by decide +kernel
def ztyl : List FieldType := [.int, .char, .long, .byte, .object "MacrocosmModel$Scope"]
theorem zarr_of {args : Array Value} {s : State} (ty : FieldType) (h : (Jvm.Cond.arrayClass ty).before args s = true) : ∃ c : ClassId, ArrOfT s c ty ∧ s.vm.findClass ("[" ++ ty.toString) = some c := by
  obtain ⟨c, k, comp, h1, h2, h3⟩ := Cond.arrayClass_spec h
  exact ⟨c, fun n z => ⟨fun k9 h9 => (by cases h9), k, h2, comp, h3⟩, h1⟩
theorem zty_known {args : Array Value} {s : State} (hts : ∀ w ∈ lw_tbl, w.before args s = true) : ∃ tc : Nat → ClassId, ∀ (k : Nat) (q : ClassId × FieldType), (ztys tc)[k]? = some q → ArrOfT s q.1 q.2 ∧ va_RA s q.1 q.2 := by
  obtain ⟨c0, a0, b0⟩ := zarr_of (s := s) .int (hts _ (List.mem_of_getElem? (i := 170) (by decide +kernel)))
  obtain ⟨c1, a1, b1⟩ := zarr_of (s := s) .char (hts _ (List.mem_of_getElem? (i := 159) (by decide +kernel)))
  obtain ⟨c2, a2, b2⟩ := zarr_of (s := s) .long (hts _ (List.mem_of_getElem? (i := 499) (by decide +kernel)))
  obtain ⟨c3, a3, b3⟩ := zarr_of (s := s) .byte (hts _ (List.mem_of_getElem? (i := 1115) (by decide +kernel)))
  have hao : (Jvm.Cond.arrayOver (.object "MacrocosmModel$Scope")).before args s = true := hts _ (List.mem_of_getElem? (i := 1512) (by decide +kernel))
  obtain ⟨comp, c4, kA, f1, -, f3, f4, f5⟩ := Cond.arrayOver_spec hao
  refine ⟨fun k => match k with
    | 0 => c0
    | 1 => c1
    | 2 => c2
    | 3 => c3
    | _ => c4, fun k q h => ?_⟩
  match k, h with
  | 0, h => obtain rfl := Option.some.inj h; exact ⟨a0, b0⟩
  | 1, h => obtain rfl := Option.some.inj h; exact ⟨a1, b1⟩
  | 2, h => obtain rfl := Option.some.inj h; exact ⟨a2, b2⟩
  | 3, h => obtain rfl := Option.some.inj h; exact ⟨a3, b3⟩
  | 4, h => obtain rfl := Option.some.inj h; exact ⟨fun n z => ⟨fun k9 h9 => (by cases h9), kA, f3, comp, f4⟩, kA, comp, f3, f4, f1, f5⟩
theorem zcl_known {args : Array Value} {s : State} (hts : ∀ w ∈ ztbl, w.before args s = true) : ∃ D : va_G, ∀ (c : Nat) (q : vw_C), zcl[c]? = some q → u_Kn s q.1 q.2.1 q.2.2 (D.1 c) (D.2 c) := by
  have h : ∀ c : Nat, ∃ z : ClassId × (Nat → Nat), ∀ q : vw_C, zcl[c]? = some q → u_Kn s q.1 q.2.1 q.2.2 z.1 z.2 := by
    intro c
    cases hc : zcl[c]? with
    | none => exact ⟨(0, fun _ => 0), fun q h => nomatch h⟩
    | some q =>
      obtain ⟨a1, -, -, a4, -⟩ := zcl_to hc
      obtain ⟨cC, iS, hk⟩ := u_known hts a1 (hts _ a4)
      exact ⟨(cC, iS), fun q9 h9 => by cases h9; exact hk⟩
  obtain ⟨f, hf⟩ := Classical.axiomOfChoice h
  exact ⟨(fun c => (f c).1, fun c => (f c).2), fun c q hq => hf c q hq⟩
theorem zZ_start {b : Nat} {s : State} (hts : ∀ w ∈ lw_tbl, w.before #[Value.ref b] s = true) (hgv : (Jvm.Cond.and given_1 narrow_1).before #[Value.ref b] s = true) : zZ (fun q => s.heap.size ≤ q) s s.heap := by
  have hs := flat_of_before _ hgv
  have hA : ∀ a : Nat, a < s.heap.size → ¬ (fun q => s.heap.size ≤ q) a := fun a h => Nat.not_le.mpr h
  refine ⟨fun w hw => ?_, fun q hq => ?_, fun q hq => ?_, ?_, ?_, ?_, ?_⟩
  · have h := List.all_eq_true.mp zFw_all w hw
    rw [Bool.and_eq_true, decide_eq_true_eq] at h
    exact va_Nw.of h.2 (hts w h.1)
  · rcases List.mem_cons.mp hq with rfl | hq
    · exact va_Nc.of (hs _ (by decide +kernel))
    · rcases List.mem_cons.mp hq with rfl | hq
      · exact va_Nc.of (hs _ (by decide +kernel))
      · cases hq
  · have h := List.all_eq_true.mp zStr_all q hq
    rw [Bool.and_eq_true, decide_eq_true_eq, decide_eq_true_eq] at h
    have h1 := hts _ h.2
    have hcur : ∃ cur, s.vm.findClass q.1 = some cur := by
      have h9 := h1
      simp only [Cond.before, Cond.holds, Cond.value] at h9
      cases hc : s.vm.findClass q.1 with
      | none => simp [hc] at h9
      | some cur => exact ⟨cur, rfl⟩
    obtain ⟨cur, hcur⟩ := hcur
    obtain ⟨k, cf, i, a, -, -, -, -, -, he⟩ := Cond.stringRef_spec hcur h1
    exact ⟨a, vk_R.of h1 he⟩
  · exact va_AO.of (hts _ (List.mem_of_getElem? (i := 1512) (by decide +kernel)))
  · exact vx_Zqof (hts _ (List.mem_of_getElem? (i := 1167) (by decide +kernel))) (hts _ (List.mem_of_getElem? (i := 114) (by decide +kernel))) (hs _ (by decide +kernel)) hA
  · exact vx_Zqof (hts _ (List.mem_of_getElem? (i := 1169) (by decide +kernel))) (hts _ (List.mem_of_getElem? (i := 114) (by decide +kernel))) (hs _ (by decide +kernel)) hA
  · exact va_Zof (hts _ (List.mem_of_getElem? (i := 623) (by decide +kernel))) (hts _ (List.mem_of_getElem? (i := 119) (by decide +kernel))) (va_eqi (hs _ (by decide +kernel))) hA
def zrh (xs : Nat → Int32) : Nat → Int32 := fun k => match k with
  | 3 => ((xs 1).toUInt32 % 65536).toInt32
  | 4 => ((xs 2).toUInt32 % 65536).toInt32
  | 5 => xs 2 + 1
  | 6 => xs 0 &&& 31
  | k => xs k
set_option maxHeartbeats 4000000 in
theorem zwalk {p : Program} {e : Env} {s : State} {m : MethodId} {below : List Frame} {meth : Method} {c : Code} {l : Launch} {b L : Nat} {xs : Nat → Int32} (hfl : l.stackTraces = false) (hL : L ≤ 3) (C0 : lw_At p s m meth c b L xs) {cf : zF} (hcf : zcfok cf (zrh xs)) (hcL : cf.2.2.1 = L) (h : zlaw cf = true) :
    W p l e room_1 s m #[Value.ref b] below meth c s.heap [] 0 0 (lw_Z below #[Value.ref b] s) (entryFrame m ([Value.ref b] : List Value).toArray 8) := by
  obtain ⟨hx, hb, hr, hml, hown, hts, hX, hbl, hlocks, hgv⟩ := C0
  have htb : ∀ w ∈ ztbl, w.before #[Value.ref b] s = true := fun w hw => hts w (List.mem_filter.mp hw).1
  obtain ⟨tc, htc⟩ := zty_known hts
  obtain ⟨D, hD⟩ := zcl_known htb
  have hK : va_K D zcl (ztys tc) s := ⟨hD, htc⟩
  unfold zlaw at h
  split at h
  · cases h
  · rename_i q hq
    split at h
    · rename_i ee x he hst
      simp only [Bool.and_eq_true, decide_eq_true_eq] at h
      obtain ⟨h1, rfl, h3, h4⟩ := h
      have hl := lv_entry ([.ref b]) (n := 8) (Nat.le_of_ble_eq_true rfl)
      rw [lg_entry_eq]
      generalize (lg_sl ([.ref b]) ++ List.replicate (8 - (lg_sl ([.ref b])).length) Slot.unset).toArray = lsC at hl ⊢
      have C1 : zC0 p s m #[Value.ref b] meth c code "MacrocosmLaw" "law" 8 D tc (fun q => s.heap.size ≤ q) := ⟨hx, hb, hown, hK, htb, zZ_start hts hgv, fun q h => h, fun h => absurd h (by decide), hml⟩
      have hX2 : va_X b cf.2.2.1 (zrh xs) s s.heap := by
        rw [hcL]
        obtain ⟨scr, x1, x2, x3, x4, x5⟩ := hX
        refine ⟨scr, x1, x2, x3, x4, fun j hj => ?_⟩
        rw [x5 j hj]
        have : j < 3 := Nat.lt_of_lt_of_le hj hL
        match j, this with
        | 0, _ => rfl
        | 1, _ => rfl
        | 2, _ => rfl
      have g := zloop_ok (Q := lw_Z below #[Value.ref b] s) (l := l) (en := e) (R := room_1) (below := below) (sp0 := b) (isL := true) (d := 20) (hh := []) C1 hcf (fun _ => ⟨hX2, hbl, Nat.not_le.mpr hbl⟩) (zOK_all hfl 20) (fun h => absurd rfl h) zlc_h zlc_i (Nat.le_of_ble_eq_true rfl) (Nat.le_of_ble_eq_true rfl) zlc_all 3000 0 [(0, .double 0)] [] [] 0 0 q zz (fun _ => b) s.heap [] lsC hq (Nat.le_trans h3 (Nat.le_of_ble_eq_true rfl)) (Nat.le_trans h4 (Nat.le_of_ble_eq_true rfl)) (fun k q h => nomatch h) ⟨fun i j p q h => (nomatch h), fun k q h => nomatch h⟩ va_S.rf hl rfl rfl ?_
      · have h0 : zpc zLC 0 = 0 := by decide +kernel
        rw [h0] at g
        exact g
      · intro ad' sp' H' locs' lsC' hext hsp hP' hD' hS' hl' hw' hn'
        obtain ⟨i, pc, len, ex⟩ := ee
        replace h1 : i = .ireturn := h1
        subst h1
        have hck := zcd_to (own := "MacrocosmLaw") (nm := "law") (cc := code) (code := zLC) zlc_all he (fun h => by cases h)
        unfold zchk at hck
        rw [Bool.and_eq_true, decide_eq_true_eq] at hck
        obtain ⟨hdec, hck⟩ := hck
        obtain rfl : len = 1 := of_decide_eq_true hck
        have hpc : zpc zLC q.1 = pc := by
          unfold zpc
          rw [show zLC[q.1]? = _ from he]
        rw [hpc, hst]
        refine va_forget (fun z hz => hS'.2.2 z hz) ?_
        refine W.widen (k := 600002) (n := 7302232) (Nat.le_trans h3 (Nat.le_of_ble_eq_true rfl)) (Nat.le_trans h4 (Nat.le_of_ble_eq_true rfl)) ?_
        exact lw_ret hx hb hr hlocks hdec
    · cases h
end
section
set_option maxRecDepth 100000 in
theorem zlaw_L0 : zlaw (none, [], 0, []) = true := by decide +kernel
set_option maxRecDepth 100000 in
theorem zlaw_L1 : zlaw (none, [], 1, []) = true := by decide +kernel
set_option maxRecDepth 100000 in
theorem zlaw_L2 : zlaw (none, [], 2, []) = true := by decide +kernel
set_option maxRecDepth 100000 in
theorem zlaw_0 : zlaw (some 0, [(-2147483648, 2147483647), (-2147483648, 2147483647), (-2147483648, 2147483647)], 3, [none, none, none]) = true := by decide +kernel
set_option maxRecDepth 100000 in
theorem zlaw_1n : zlaw (some 1, [(-2147483648, 2147483647), (-2147483648, -1), (-2147483648, 2147483647)], 3, [none, none, none]) = true := by decide +kernel
set_option maxRecDepth 100000 in
theorem zlaw_1z : zlaw (some 1, [(-2147483648, 2147483647), (0, 0), (-2147483648, 2147483647)], 3, [none, some 0, none]) = true := by decide +kernel
set_option maxRecDepth 100000 in
theorem zlaw_1p : zlaw (some 1, [(-2147483648, 2147483647), (1, 2147483647), (-2147483648, 2147483647)], 3, [none, none, none]) = true := by decide +kernel
set_option maxRecDepth 100000 in
theorem zlaw_2n : zlaw (some 2, [(-2147483648, 2147483647), (-2147483648, -1), (-2147483648, 2147483647)], 3, [none, none, none]) = true := by decide +kernel
set_option maxRecDepth 100000 in
theorem zlaw_2p : zlaw (some 2, [(-2147483648, 2147483647), (0, 2147483647), (-2147483648, 2147483647)], 3, [none, none, none]) = true := by decide +kernel
end
section
set_option maxRecDepth 100000 in
theorem zlaw_3 : zlaw (some 3, [(-2147483648, 2147483647), (-2147483648, 2147483647), (-2147483648, 2147483647)], 3, [none, none, none]) = true := by decide +kernel
set_option maxRecDepth 100000 in
theorem zlaw_4 : zlaw (some 4, [(-2147483648, 2147483647), (-2147483648, 2147483647), (-2147483648, 2147483647)], 3, [none, none, none]) = true := by decide +kernel
set_option maxRecDepth 100000 in
theorem zlaw_5n : zlaw (some 5, [(-2147483648, 2147483647), (-2147483648, -1), (-2147483648, 2147483647)], 3, [none, none, none]) = true := by decide +kernel
set_option maxRecDepth 100000 in
theorem zlaw_5p : zlaw (some 5, [(-2147483648, 2147483647), (0, 2147483647), (-2147483648, 2147483647)], 3, [none, none, none]) = true := by decide +kernel
set_option maxRecDepth 100000 in
theorem zlaw_6 : zlaw (some 6, [(-2147483648, 2147483647), (-2147483648, 2147483647), (-2147483648, 2147483647)], 3, [none, none, none]) = true := by decide +kernel
set_option maxRecDepth 100000 in
theorem zlaw_7 : zlaw (some 7, [(-2147483648, 2147483647), (-2147483648, 2147483647), (-2147483648, 2147483647)], 3, [none, none, none]) = true := by decide +kernel
end
section
set_option maxRecDepth 100000 in
theorem zlaw_8 : zlaw (some 8, [(-2147483648, 2147483647), (-2147483648, 2147483647), (-2147483648, 2147483647)], 3, [none, none, none]) = true := by decide +kernel
set_option maxRecDepth 100000 in
theorem zlaw_9 : zlaw (some 9, [(-2147483648, 2147483647), (-2147483648, 2147483647), (-2147483648, 2147483647)], 3, [none, none, none]) = true := by decide +kernel
set_option maxRecDepth 100000 in
theorem zlaw_10 : zlaw (some 10, [(-2147483648, 2147483647), (-2147483648, 2147483647), (-2147483648, 2147483647)], 3, [none, none, none]) = true := by decide +kernel
set_option maxRecDepth 100000 in
theorem zlaw_11 : zlaw (some 11, [(-2147483648, 2147483647), (-2147483648, 2147483647), (-2147483648, 2147483647)], 3, [none, none, none]) = true := by decide +kernel
end
section
set_option maxRecDepth 100000 in
theorem zlaw_12n : zlaw (some 12, [(-2147483648, 2147483647), (-2147483648, -1), (-2147483648, 2147483647)], 3, [none, none, none]) = true := by decide +kernel
set_option maxRecDepth 100000 in
theorem zlaw_12p : zlaw (some 12, [(-2147483648, 2147483647), (0, 2147483647), (-2147483648, 2147483647)], 3, [none, none, none]) = true := by decide +kernel
set_option maxRecDepth 100000 in
theorem zlaw_13 : zlaw (some 13, [(-2147483648, 2147483647), (-2147483648, 2147483647), (-2147483648, 2147483647)], 3, [none, none, none]) = true := by decide +kernel
set_option maxRecDepth 100000 in
theorem zlaw_14 : zlaw (some 14, [(-2147483648, 2147483647), (-2147483648, 2147483647), (-2147483648, 2147483647)], 3, [none, none, none]) = true := by decide +kernel
end
section
set_option maxRecDepth 100000 in
theorem zlaw_15 : zlaw (some 15, [(-2147483648, 2147483647), (-2147483648, 2147483647), (-2147483648, 2147483647)], 3, [none, none, none]) = true := by decide +kernel
set_option maxRecDepth 100000 in
theorem zlaw_16n : zlaw (some 16, [(-2147483648, 2147483647), (-2147483648, 2147483647), (-2147483648, -1)], 3, [none, none, none]) = true := by decide +kernel
set_option maxRecDepth 100000 in
theorem zlaw_16z : zlaw (some 16, [(-2147483648, 2147483647), (-2147483648, 2147483647), (0, 25)], 3, [none, none, none]) = true := by decide +kernel
set_option maxRecDepth 100000 in
theorem zlaw_16p : zlaw (some 16, [(-2147483648, 2147483647), (-2147483648, 2147483647), (26, 2147483647)], 3, [none, none, none]) = true := by decide +kernel
set_option maxRecDepth 100000 in
theorem zlaw_17n : zlaw (some 17, [(-2147483648, 2147483647), (-2147483648, -1), (-2147483648, 2147483647)], 3, [none, none, none]) = true := by decide +kernel
set_option maxRecDepth 100000 in
theorem zlaw_17p : zlaw (some 17, [(-2147483648, 2147483647), (1, 2147483647), (-2147483648, 2147483647)], 3, [none, none, none]) = true := by decide +kernel
set_option maxRecDepth 100000 in
theorem zlaw_17zn : zlaw (some 17, [(-2147483648, 2147483647), (0, 0), (-2147483648, -1)], 3, [none, some 0, none]) = true := by decide +kernel
end
section
set_option maxRecDepth 100000 in
theorem zlaw_17z0 : zlaw (some 17, [(-2147483648, 2147483647), (0, 0), (0, 0)], 3, [none, some 0, some 0]) = true := by decide +kernel
set_option maxRecDepth 100000 in
theorem zlaw_17z1 : zlaw (some 17, [(-2147483648, 2147483647), (0, 0), (1, 1)], 3, [none, some 0, some 1]) = true := by decide +kernel
set_option maxRecDepth 100000 in
theorem zlaw_17z2 : zlaw (some 17, [(-2147483648, 2147483647), (0, 0), (2, 2)], 3, [none, some 0, some 2]) = true := by decide +kernel
set_option maxRecDepth 100000 in
theorem zlaw_17z3 : zlaw (some 17, [(-2147483648, 2147483647), (0, 0), (3, 3)], 3, [none, some 0, some 3]) = true := by decide +kernel
set_option maxRecDepth 100000 in
theorem zlaw_17zp : zlaw (some 17, [(-2147483648, 2147483647), (0, 0), (4, 2147483647)], 3, [none, some 0, none]) = true := by decide +kernel
set_option maxRecDepth 100000 in
theorem zlaw_d : zlaw (none, [(-2147483648, 2147483647), (-2147483648, 2147483647), (-2147483648, 2147483647), (-2147483648, 2147483647), (-2147483648, 2147483647), (-2147483648, 2147483647), (18, 31)], 3, [none, none, none]) = true := by decide +kernel
end
section
/-! THE CASES PUT TOGETHER -/
theorem zany (x : Int32) : (-2147483648 : Int) ≤ x.toInt ∧ x.toInt ≤ (2147483647 : Int) := by
  have h1 := Int32.le_toInt x
  have h2 := Int32.toInt_lt x
  omega
theorem zhalf (x : Int32) : ((-2147483648 : Int) ≤ x.toInt ∧ x.toInt ≤ (-1 : Int)) ∨ ((0 : Int) ≤ x.toInt ∧ x.toInt ≤ (2147483647 : Int)) := by
  have h := zany x
  omega
theorem zof {x v : Int32} (h : x.toInt = v.toInt) : x = v := Int32.toInt_inj.mp h
theorem zpt {x v : Int32} (h : x = v) : v.toInt ≤ x.toInt ∧ x.toInt ≤ v.toInt := by
  rw [h]
  exact ⟨Int.le_refl _, Int.le_refl _⟩
theorem zval {x v : Int32} (h : x = v) : ∀ v9, some v = some v9 → x = v9 := fun v9 h9 => h.trans (Option.some.inj h9)
theorem znone {x : Int32} : ∀ v, (none : Option Int32) = some v → x = v := fun v h => nomatch h
theorem zsgn (x : Int32) : ((-2147483648 : Int) ≤ x.toInt ∧ x.toInt ≤ (-1 : Int)) ∨ x = 0 ∨ ((1 : Int) ≤ x.toInt ∧ x.toInt ≤ (2147483647 : Int)) := by
  have h := zany x
  by_cases h0 : x.toInt = 0
  · exact Or.inr (Or.inl (zof h0))
  · omega
theorem zlet (x : Int32) : ((-2147483648 : Int) ≤ x.toInt ∧ x.toInt ≤ (-1 : Int)) ∨ ((0 : Int) ≤ x.toInt ∧ x.toInt ≤ (25 : Int)) ∨ ((26 : Int) ≤ x.toInt ∧ x.toInt ≤ (2147483647 : Int)) := by
  have h := zany x
  omega
theorem zwhat (x : Int32) : ((-2147483648 : Int) ≤ x.toInt ∧ x.toInt ≤ (-1 : Int)) ∨ x = 0 ∨ x = 1 ∨ x = 2 ∨ x = 3 ∨ ((4 : Int) ≤ x.toInt ∧ x.toInt ≤ (2147483647 : Int)) := by
  have h := zany x
  by_cases h0 : x.toInt = 0
  · exact Or.inr (Or.inl (zof h0))
  · by_cases h1 : x.toInt = 1
    · exact Or.inr (Or.inr (Or.inl (zof h1)))
    · by_cases h2 : x.toInt = 2
      · exact Or.inr (Or.inr (Or.inr (Or.inl (zof h2))))
      · by_cases h3 : x.toInt = 3
        · exact Or.inr (Or.inr (Or.inr (Or.inr (Or.inl (zof h3)))))
        · omega
theorem zcf_ok {xs : Nat → Int32} {c : Int32} {l1 h1 l2 h2 : Int} {v1 v2 : Option Int32} (hc : xs 0 &&& 31 = c) (b1 : l1 ≤ (xs 1).toInt ∧ (xs 1).toInt ≤ h1) (b2 : l2 ≤ (xs 2).toInt ∧ (xs 2).toInt ≤ h2) (e1 : ∀ v, v1 = some v → xs 1 = v) (e2 : ∀ v, v2 = some v → xs 2 = v) : zcfok (some c, [(-2147483648, 2147483647), (l1, h1), (l2, h2)], 3, [none, v1, v2]) (zrh xs) := by
  refine ⟨fun v h => hc.trans (Option.some.inj h), fun u q h => ?_, rfl, rfl, rfl, rfl, fun k v h => ?_⟩
  · match u, h with
    | 0, h => obtain rfl := Option.some.inj h; exact zany (xs 0)
    | 1, h => obtain rfl := Option.some.inj h; exact b1
    | 2, h => obtain rfl := Option.some.inj h; exact b2
  · match k, h with
    | 0, h => exact nomatch (Option.some.inj h)
    | 1, h => exact e1 v (Option.some.inj h)
    | 2, h => exact e2 v (Option.some.inj h)
theorem zcf_L {xs : Nat → Int32} {L : Nat} : zcfok (none, [], L, []) (zrh xs) := ⟨fun v h => (nomatch h), fun u q h => (nomatch h), rfl, rfl, rfl, rfl, fun k v h => (nomatch h)⟩
theorem zcf_d {xs : Nat → Int32} (h18 : 18 ≤ (xs 0 &&& 31).toInt ∧ (xs 0 &&& 31).toInt ≤ 31) : zcfok (none, [(-2147483648, 2147483647), (-2147483648, 2147483647), (-2147483648, 2147483647), (-2147483648, 2147483647), (-2147483648, 2147483647), (-2147483648, 2147483647), (18, 31)], 3, [none, none, none]) (zrh xs) := by
  refine ⟨fun v h => (nomatch h), fun u q h => ?_, rfl, rfl, rfl, rfl, fun k v h => ?_⟩
  · match u, h with
    | 0, h => obtain rfl := Option.some.inj h; exact zany _
    | 1, h => obtain rfl := Option.some.inj h; exact zany _
    | 2, h => obtain rfl := Option.some.inj h; exact zany _
    | 3, h => obtain rfl := Option.some.inj h; exact zany _
    | 4, h => obtain rfl := Option.some.inj h; exact zany _
    | 5, h => obtain rfl := Option.some.inj h; exact zany _
    | 6, h => obtain rfl := Option.some.inj h; exact h18
  · match k, h with
    | 0, h => exact nomatch (Option.some.inj h)
    | 1, h => exact nomatch (Option.some.inj h)
    | 2, h => exact nomatch (Option.some.inj h)
theorem zwalk3 {p : Program} {e : Env} {s : State} {m : MethodId} {below : List Frame} {meth : Method} {c : Code} {l : Launch} {b : Nat} {xs : Nat → Int32} (hfl : l.stackTraces = false) (hL : 3 ≤ 3) (C0 : lw_At p s m meth c b 3 xs) :
    W p l e room_1 s m #[Value.ref b] below meth c s.heap [] 0 0 (lw_Z below #[Value.ref b] s) (entryFrame m ([Value.ref b] : List Value).toArray 8) := by
  obtain ⟨j, hj, hjx⟩ := pk_andE (xs 0) (m := 31) 5 (by decide)
  match j, hjx, hj with
  | 0, hj, _ =>
    exact zwalk hfl hL C0 (zcf_ok hj (zany (xs 1)) (zany (xs 2)) znone znone) rfl zlaw_0
  | 1, hj, _ =>
    rcases zsgn (xs 1) with h | h | h
    · exact zwalk hfl hL C0 (zcf_ok hj h (zany (xs 2)) znone znone) rfl zlaw_1n
    · exact zwalk hfl hL C0 (zcf_ok hj (zpt h) (zany (xs 2)) (zval h) znone) rfl zlaw_1z
    · exact zwalk hfl hL C0 (zcf_ok hj h (zany (xs 2)) znone znone) rfl zlaw_1p
  | 2, hj, _ =>
    rcases zhalf (xs 1) with h | h
    · exact zwalk hfl hL C0 (zcf_ok hj h (zany (xs 2)) znone znone) rfl zlaw_2n
    · exact zwalk hfl hL C0 (zcf_ok hj h (zany (xs 2)) znone znone) rfl zlaw_2p
  | 3, hj, _ =>
    exact zwalk hfl hL C0 (zcf_ok hj (zany (xs 1)) (zany (xs 2)) znone znone) rfl zlaw_3
  | 4, hj, _ =>
    exact zwalk hfl hL C0 (zcf_ok hj (zany (xs 1)) (zany (xs 2)) znone znone) rfl zlaw_4
  | 5, hj, _ =>
    rcases zhalf (xs 1) with h | h
    · exact zwalk hfl hL C0 (zcf_ok hj h (zany (xs 2)) znone znone) rfl zlaw_5n
    · exact zwalk hfl hL C0 (zcf_ok hj h (zany (xs 2)) znone znone) rfl zlaw_5p
  | 6, hj, _ =>
    exact zwalk hfl hL C0 (zcf_ok hj (zany (xs 1)) (zany (xs 2)) znone znone) rfl zlaw_6
  | 7, hj, _ =>
    exact zwalk hfl hL C0 (zcf_ok hj (zany (xs 1)) (zany (xs 2)) znone znone) rfl zlaw_7
  | 8, hj, _ =>
    exact zwalk hfl hL C0 (zcf_ok hj (zany (xs 1)) (zany (xs 2)) znone znone) rfl zlaw_8
  | 9, hj, _ =>
    exact zwalk hfl hL C0 (zcf_ok hj (zany (xs 1)) (zany (xs 2)) znone znone) rfl zlaw_9
  | 10, hj, _ =>
    exact zwalk hfl hL C0 (zcf_ok hj (zany (xs 1)) (zany (xs 2)) znone znone) rfl zlaw_10
  | 11, hj, _ =>
    exact zwalk hfl hL C0 (zcf_ok hj (zany (xs 1)) (zany (xs 2)) znone znone) rfl zlaw_11
  | 12, hj, _ =>
    rcases zhalf (xs 1) with h | h
    · exact zwalk hfl hL C0 (zcf_ok hj h (zany (xs 2)) znone znone) rfl zlaw_12n
    · exact zwalk hfl hL C0 (zcf_ok hj h (zany (xs 2)) znone znone) rfl zlaw_12p
  | 13, hj, _ =>
    exact zwalk hfl hL C0 (zcf_ok hj (zany (xs 1)) (zany (xs 2)) znone znone) rfl zlaw_13
  | 14, hj, _ =>
    exact zwalk hfl hL C0 (zcf_ok hj (zany (xs 1)) (zany (xs 2)) znone znone) rfl zlaw_14
  | 15, hj, _ =>
    exact zwalk hfl hL C0 (zcf_ok hj (zany (xs 1)) (zany (xs 2)) znone znone) rfl zlaw_15
  | 16, hj, _ =>
    rcases zlet (xs 2) with h | h | h
    · exact zwalk hfl hL C0 (zcf_ok hj (zany (xs 1)) h znone znone) rfl zlaw_16n
    · exact zwalk hfl hL C0 (zcf_ok hj (zany (xs 1)) h znone znone) rfl zlaw_16z
    · exact zwalk hfl hL C0 (zcf_ok hj (zany (xs 1)) h znone znone) rfl zlaw_16p
  | 17, hj, _ =>
    rcases zsgn (xs 1) with h | h | h
    · exact zwalk hfl hL C0 (zcf_ok hj h (zany (xs 2)) znone znone) rfl zlaw_17n
    · rcases zwhat (xs 2) with k | k | k | k | k | k
      · exact zwalk hfl hL C0 (zcf_ok hj (zpt h) k (zval h) znone) rfl zlaw_17zn
      · exact zwalk hfl hL C0 (zcf_ok hj (zpt h) (zpt k) (zval h) (zval k)) rfl zlaw_17z0
      · exact zwalk hfl hL C0 (zcf_ok hj (zpt h) (zpt k) (zval h) (zval k)) rfl zlaw_17z1
      · exact zwalk hfl hL C0 (zcf_ok hj (zpt h) (zpt k) (zval h) (zval k)) rfl zlaw_17z2
      · exact zwalk hfl hL C0 (zcf_ok hj (zpt h) (zpt k) (zval h) (zval k)) rfl zlaw_17z3
      · exact zwalk hfl hL C0 (zcf_ok hj (zpt h) k (zval h) znone) rfl zlaw_17zp
    · exact zwalk hfl hL C0 (zcf_ok hj h (zany (xs 2)) znone znone) rfl zlaw_17p
  | j + 18, hj, hlt =>
    exact zwalk hfl hL C0 (zcf_d (by
      rw [hj, nI_toInt (by omega)]
      omega)) rfl zlaw_d
theorem whole_start {p : Program} {e : Env} {s : State} {m : MethodId} {below : List Frame} {meth : Method} {c : Code} (l : Launch) (hflags : l.flags = flags0) {b L : Nat} {xs : Nat → Int32} (hL : L ≤ 3) (C0 : lw_At p s m meth c b L xs) : W p l e room_1 s m #[Value.ref b] below meth c s.heap [] 0 0 (lw_Z below #[Value.ref b] s) (entryFrame m ([Value.ref b] : List Value).toArray 8) := by
  have hfl : l.stackTraces = false := by
    unfold Launch.stackTraces
    rw [hflags]
    decide +kernel
  have h4 : L = 0 ∨ L = 1 ∨ L = 2 ∨ L = 3 := by omega
  rcases h4 with rfl | rfl | rfl | rfl
  · exact zwalk hfl hL C0 zcf_L rfl zlaw_L0
  · exact zwalk hfl hL C0 zcf_L rfl zlaw_L1
  · exact zwalk hfl hL C0 zcf_L rfl zlaw_L2
  · exact zwalk3 hfl hL C0
set_option maxHeartbeats 4000000 in
theorem lw_walk (l : Launch) (hflags : l.flags = flags0) (b : Addr) (xs : List Int32) : MetFree l x (headSpec (Jvm.Cond.code x code maxLocals ret :: tables_1) room_1) (lw_P b xs) (fun _ _ _ _ _ => True) lw_Q := by
  refine MetFree.of_bodyS (code := code) (maxLocals := maxLocals) (ret := ret) (by decide) ?_ ?_
  · intro args s m h hn
    obtain ⟨meth, c, h1, h2, h3, h4, h5, h6, -, -⟩ := Cond.code_spec hn (atoms_spec (ws := Jvm.Cond.code x code maxLocals ret :: tables_1) h _ List.mem_cons_self)
    exact ⟨meth, c, h1, h2, h3, h4, h5, h6⟩
  · intro p e s m args below meth c s₁ B hml0 hP _
    obtain ⟨rfl, hx, hbd, hgv⟩ := hP
    obtain ⟨scr, harrAt, hlist, hof, hsmall⟩ := hx
    obtain ⟨hcb, hkn, -, -⟩ := State.arrayAt?_spec harrAt
    have hown : s.vm.findClass R_law = some m.cls := findClass_of_methodNamed B.named
    have hts0 : ∀ c ∈ (Jvm.Cond.code x code maxLocals ret :: tables_1), c.before #[Value.ref b] s = true := atoms_spec (ws := Jvm.Cond.code x code maxLocals ret :: tables_1) B.pre
    have hts : ∀ w ∈ lw_tbl, w.before #[Value.ref b] s = true := k2_hts_sels lw_privs (fun w hw => hts0 w (List.mem_cons_of_mem _ hw)) lw_privs_ok
    have hml : c.maxLocals = 8 := B.maxLocals_eq (hts0 _ List.mem_cons_self)
    have X₀ : Stand p l e room_1 s m #[Value.ref b] below meth c s₁ [] 0 0 := Stand.of_body B
    have hh0 : s₁.heap = s.heap := by rw [B.state]; rfl
    have hsz : scr.slots.size = xs.length := by rw [← Array.length_toList, hlist, List.length_map]
    have hval : ∀ j : Nat, j < xs.length → scr.slots[j]? = some (.int (xs.getD j 0)) := fun j hj => by
      rw [← Array.getElem?_toList, hlist]
      simp [hj]
    have hbl : b < s.heap.size := (Array.getElem?_eq_some_iff.mp hcb).1
    have hX : va_X b xs.length (fun j => xs.getD j 0) s s.heap := ⟨scr, hcb, hof, hkn, hsz, hval⟩
    have K : W p l e room_1 s m #[Value.ref b] below meth c s₁.heap [] 0 0 (lw_Z below #[Value.ref b] s) (entryFrame m ([Value.ref b] : List Value).toArray 8) := by
      rw [hh0]
      exact whole_start l hflags hbd ⟨B.exec, B.bytes, B.returns, hml, hown, hts, hX, hbl, B.notSynchronized, hgv⟩
    obtain ⟨t, a1, o, b1, b2, b3⟩ := K s₁ rfl X₀
    exact ⟨t, o, a1, b1, b2, b3⟩
theorem lw_pre_spec {args : Array Value} {s : State} (h : (Jvm.Cond.and given_1 narrow_1).before args s = true) (hr : rest_1_c.before args s = true) : ∃ (b : Addr) (xs : List Int32), lw_P b xs args s := by
  have hs := flat_of_before _ h
  have hq := flat_of_before _ hr
  have hc : (Cond.count 1).before args s = true := hs _ (by decide +kernel)
  have harr : (Cond.arrayOf (.arg 0) .int).before args s = true := hs _ (by decide +kernel)
  have hle : (Cond.le (.length (.arg 0)) (.int 3)).before args s = true := hs _ (by decide +kernel)
  have hlen : (Cond.isInt (.length (.arg 0))).before args s = true := hq _ (by decide +kernel)
  have hall : (Cond.all (.arg 0) (.isInt (.elem (.arg 0) (.index 0)))).before args s = true := hq _ (by decide +kernel)
  obtain ⟨b, xs, hb, hx⟩ := State.ints_of_pre rfl harr hlen hall
  have hsm : xs.length < 2 ^ 31 := hx.choose_spec.2.2.2
  have hev : (Term.length (.arg 0)).eval args s none [] s = some (.int xs.length.toInt32) := hx.length_eval hb
  have hv := Cond.le_ints hev (show (Term.int 3).eval args s none [] s = some (.int 3) from rfl)
  have hd : xs.length.toInt32 ≤ 3 := by
    simpa [Cond.before, Cond.holds, hv] using hle
  have hN : xs.length ≤ 3 := (Int32.ofNat_le_ofNat hsm (by decide)).mp (show Int32.ofNat xs.length ≤ Int32.ofNat 3 from hd)
  exact ⟨b, xs, Cond.one_arg hc (show args[0]? = some (.ref b) from hb), hx, hN, h⟩
theorem lw_comes (l : Launch) (hflags : l.flags = flags0) : Comes l x (Jvm.Cond.code x code maxLocals ret :: tables_1) room_1 (fun tb e args s => Calls_1 tb e args s ∧ rest_1 tb e args s ∧ Pre_1 tb e args s)
    (fun _ _ args s o t => lw_Q args s o t) := by
  intro p e ha hc hk s m args below hf hfit hheap happ hpre
  obtain ⟨b, xs, hP⟩ := lw_pre_spec hpre.2.2 hpre.2.1
  obtain ⟨k, o, h1, h2, h3, hQ⟩ := lw_walk l hflags b xs p e ha hc hk s m args below hf ((Spec.applies_iff_loose hf).mp happ).1 hP trivial
  exact ⟨k, o, h1, h2, h3, hQ⟩
theorem lw_frame {s t : State} {o : Outcome} {args : Array Value} (h : Framed s o t [] 600002 7302232) :
    Framed s o t (fieldLocs frame_1_writes args s ++ arrayLocs frame_1_arrays args s ++ staticLocs frame_1_statics s) 600002 7302232 := h
theorem lw_limb (L : Cond) (hL : ∀ (args : Array Value) (s t : State), L.after args s (.returned (some (.int 1))) t = true) :
    ArmFor flags0 classFile x code maxLocals ret World_1 tables_1 room_1 Calls_1 rest_1 Pre_1
      (fun tb e a s o t => postC L tb e a s o t ∧ Framed s o t (fieldLocs frame_1_writes a s ++ arrayLocs frame_1_arrays a s ++ staticLocs frame_1_statics s) 600002 7302232) := by
  intro l hflags _ _ p e ha hc hk s m args below hf hfit hheap happ hpre
  obtain ⟨k, o, h1, h2, h3, rfl, hF⟩ := lw_comes l hflags p e ha hc hk s m args below hf hfit hheap happ hpre
  exact ⟨k, _, h1, h2, h3, hL args s _, lw_frame hF⟩
theorem i_vc : Claimed_1_1 ∧ Claimed_1_2 := ⟨lw_limb limb_1_1 (fun args s t => by simp [limb_1_1, Cond.after, Cond.holds, Cond.value]), lw_limb limb_1_2 (fun args s t => Cond.after_iff.mpr (by
  first | (rw [show limb_1_2 = Cond.eq .result (.int 1) from rfl, Cond.eq_ints (x := 1) (y := 1) rfl rfl]; simp; done) | (simp [limb_1_2, Cond.value, Term.eval]; done)))⟩
end
