section
-- ===== PART A: goes FIRST, ahead of the names: the tables' words, and 'selects' of the private methods out of them =====
/-- a private method of a class that the tables say can be made, by its rows of tables_1 -/
def lw_okq (q : MethodName × Nat) : Prop := (q.1.cls ≠ "java/lang/invoke/MethodHandle" ∧ q.1.cls ≠ "java/lang/invoke/VarHandle") ∧ Cond.instantiable q.1.cls q.2 ∈ tables_1 ∧ Cond.privateMethod q.1 ∈ tables_1 ∧ Cond.instanceMethod q.1 ∈ tables_1
theorem lw_p0 : lw_okq (⟨"ShareEight", "feedFour", "(I)V"⟩, 4) := ⟨⟨by decide +kernel, by decide +kernel⟩, List.mem_of_getElem? (i := 23) (by decide +kernel), List.mem_of_getElem? (i := 511) (by decide +kernel), List.mem_of_getElem? (i := 512) (by decide +kernel)⟩
theorem lw_p1 : lw_okq (⟨"ShareEight$Tokens", "skipBlanks", "(I)I"⟩, 9) := ⟨⟨by decide +kernel, by decide +kernel⟩, List.mem_of_getElem? (i := 117) (by decide +kernel), List.mem_of_getElem? (i := 537) (by decide +kernel), List.mem_of_getElem? (i := 538) (by decide +kernel)⟩
theorem lw_p2 : lw_okq (⟨"ShareEight$Tokens", "skipRemark", "()V"⟩, 9) := ⟨⟨by decide +kernel, by decide +kernel⟩, List.mem_of_getElem? (i := 117) (by decide +kernel), List.mem_of_getElem? (i := 545) (by decide +kernel), List.mem_of_getElem? (i := 546) (by decide +kernel)⟩
theorem lw_p3 : lw_okq (⟨"ShareEight$Tokens", "scanToken", "()I"⟩, 9) := ⟨⟨by decide +kernel, by decide +kernel⟩, List.mem_of_getElem? (i := 117) (by decide +kernel), List.mem_of_getElem? (i := 549) (by decide +kernel), List.mem_of_getElem? (i := 550) (by decide +kernel)⟩
theorem lw_p4 : lw_okq (⟨"ShareEight$Tokens", "append", "(IIII)I"⟩, 9) := ⟨⟨by decide +kernel, by decide +kernel⟩, List.mem_of_getElem? (i := 117) (by decide +kernel), List.mem_of_getElem? (i := 553) (by decide +kernel), List.mem_of_getElem? (i := 554) (by decide +kernel)⟩
theorem lw_p5 : lw_okq (⟨"ShareEight$Tokens", "scanName", "()I"⟩, 9) := ⟨⟨by decide +kernel, by decide +kernel⟩, List.mem_of_getElem? (i := 117) (by decide +kernel), List.mem_of_getElem? (i := 560) (by decide +kernel), List.mem_of_getElem? (i := 561) (by decide +kernel)⟩
theorem lw_p6 : lw_okq (⟨"ShareEight$Tokens", "scanText", "(II)I"⟩, 9) := ⟨⟨by decide +kernel, by decide +kernel⟩, List.mem_of_getElem? (i := 117) (by decide +kernel), List.mem_of_getElem? (i := 572) (by decide +kernel), List.mem_of_getElem? (i := 573) (by decide +kernel)⟩
theorem lw_p7 : lw_okq (⟨"ShareEight$Tokens", "scanNumber", "()I"⟩, 9) := ⟨⟨by decide +kernel, by decide +kernel⟩, List.mem_of_getElem? (i := 117) (by decide +kernel), List.mem_of_getElem? (i := 579) (by decide +kernel), List.mem_of_getElem? (i := 580) (by decide +kernel)⟩
theorem lw_p8 : lw_okq (⟨"ShareEight$Assembler", "passLabels", "()V"⟩, 11) := ⟨⟨by decide +kernel, by decide +kernel⟩, List.mem_of_getElem? (i := 31) (by decide +kernel), List.mem_of_getElem? (i := 647) (by decide +kernel), List.mem_of_getElem? (i := 648) (by decide +kernel)⟩
theorem lw_p9 : lw_okq (⟨"ShareEight$Assembler", "kindAt", "(I)I"⟩, 11) := ⟨⟨by decide +kernel, by decide +kernel⟩, List.mem_of_getElem? (i := 31) (by decide +kernel), List.mem_of_getElem? (i := 651) (by decide +kernel), List.mem_of_getElem? (i := 652) (by decide +kernel)⟩
theorem lw_p10 : lw_okq (⟨"ShareEight$Assembler", "mayTell", "(I)Z"⟩, 11) := ⟨⟨by decide +kernel, by decide +kernel⟩, List.mem_of_getElem? (i := 31) (by decide +kernel), List.mem_of_getElem? (i := 655) (by decide +kernel), List.mem_of_getElem? (i := 656) (by decide +kernel)⟩
theorem lw_p11 : lw_okq (⟨"ShareEight$Assembler", "report", "(II)V"⟩, 11) := ⟨⟨by decide +kernel, by decide +kernel⟩, List.mem_of_getElem? (i := 31) (by decide +kernel), List.mem_of_getElem? (i := 667) (by decide +kernel), List.mem_of_getElem? (i := 668) (by decide +kernel)⟩
theorem lw_p12 : lw_okq (⟨"ShareEight$Assembler", "passStatement", "()V"⟩, 11) := ⟨⟨by decide +kernel, by decide +kernel⟩, List.mem_of_getElem? (i := 31) (by decide +kernel), List.mem_of_getElem? (i := 675) (by decide +kernel), List.mem_of_getElem? (i := 676) (by decide +kernel)⟩
theorem lw_p13 : lw_okq (⟨"ShareEight$Assembler", "kindOfNamed", "()I"⟩, 11) := ⟨⟨by decide +kernel, by decide +kernel⟩, List.mem_of_getElem? (i := 31) (by decide +kernel), List.mem_of_getElem? (i := 682) (by decide +kernel), List.mem_of_getElem? (i := 683) (by decide +kernel)⟩
theorem lw_p14 : lw_okq (⟨"ShareEight$Assembler", "beginsPart", "(I)Z"⟩, 11) := ⟨⟨by decide +kernel, by decide +kernel⟩, List.mem_of_getElem? (i := 31) (by decide +kernel), List.mem_of_getElem? (i := 689) (by decide +kernel), List.mem_of_getElem? (i := 690) (by decide +kernel)⟩
theorem lw_p15 : lw_okq (⟨"ShareEight$Assembler", "beginsValue", "(I)Z"⟩, 11) := ⟨⟨by decide +kernel, by decide +kernel⟩, List.mem_of_getElem? (i := 31) (by decide +kernel), List.mem_of_getElem? (i := 693) (by decide +kernel), List.mem_of_getElem? (i := 694) (by decide +kernel)⟩
def lw_privs_1 : List (MethodName × Nat) := [(⟨"ShareEight", "feedFour", "(I)V"⟩, 4), (⟨"ShareEight$Tokens", "skipBlanks", "(I)I"⟩, 9), (⟨"ShareEight$Tokens", "skipRemark", "()V"⟩, 9), (⟨"ShareEight$Tokens", "scanToken", "()I"⟩, 9), (⟨"ShareEight$Tokens", "append", "(IIII)I"⟩, 9), (⟨"ShareEight$Tokens", "scanName", "()I"⟩, 9), (⟨"ShareEight$Tokens", "scanText", "(II)I"⟩, 9), (⟨"ShareEight$Tokens", "scanNumber", "()I"⟩, 9), (⟨"ShareEight$Assembler", "passLabels", "()V"⟩, 11), (⟨"ShareEight$Assembler", "kindAt", "(I)I"⟩, 11), (⟨"ShareEight$Assembler", "mayTell", "(I)Z"⟩, 11), (⟨"ShareEight$Assembler", "report", "(II)V"⟩, 11), (⟨"ShareEight$Assembler", "passStatement", "()V"⟩, 11), (⟨"ShareEight$Assembler", "kindOfNamed", "()I"⟩, 11), (⟨"ShareEight$Assembler", "beginsPart", "(I)Z"⟩, 11), (⟨"ShareEight$Assembler", "beginsValue", "(I)Z"⟩, 11)]
theorem lw_r1 : ∀ q ∈ lw_privs_1, lw_okq q := List.forall_mem_cons.mpr ⟨lw_p0, List.forall_mem_cons.mpr ⟨lw_p1, List.forall_mem_cons.mpr ⟨lw_p2, List.forall_mem_cons.mpr ⟨lw_p3, List.forall_mem_cons.mpr ⟨lw_p4, List.forall_mem_cons.mpr ⟨lw_p5, List.forall_mem_cons.mpr ⟨lw_p6, List.forall_mem_cons.mpr ⟨lw_p7, List.forall_mem_cons.mpr ⟨lw_p8, List.forall_mem_cons.mpr ⟨lw_p9, List.forall_mem_cons.mpr ⟨lw_p10, List.forall_mem_cons.mpr ⟨lw_p11, List.forall_mem_cons.mpr ⟨lw_p12, List.forall_mem_cons.mpr ⟨lw_p13, List.forall_mem_cons.mpr ⟨lw_p14, List.forall_mem_cons.mpr ⟨lw_p15, fun _ h => absurd h List.not_mem_nil⟩⟩⟩⟩⟩⟩⟩⟩⟩⟩⟩⟩⟩⟩⟩⟩
theorem lw_p16 : lw_okq (⟨"ShareEight$Assembler", "passOrigin", "()V"⟩, 11) := ⟨⟨by decide +kernel, by decide +kernel⟩, List.mem_of_getElem? (i := 31) (by decide +kernel), List.mem_of_getElem? (i := 700) (by decide +kernel), List.mem_of_getElem? (i := 701) (by decide +kernel)⟩
theorem lw_p17 : lw_okq (⟨"ShareEight$Assembler", "readValue", "(Z)I"⟩, 11) := ⟨⟨by decide +kernel, by decide +kernel⟩, List.mem_of_getElem? (i := 31) (by decide +kernel), List.mem_of_getElem? (i := 704) (by decide +kernel), List.mem_of_getElem? (i := 705) (by decide +kernel)⟩
theorem lw_p18 : lw_okq (⟨"ShareEight$Assembler", "readPlain", "(Z)I"⟩, 11) := ⟨⟨by decide +kernel, by decide +kernel⟩, List.mem_of_getElem? (i := 31) (by decide +kernel), List.mem_of_getElem? (i := 708) (by decide +kernel), List.mem_of_getElem? (i := 709) (by decide +kernel)⟩
theorem lw_p19 : lw_okq (⟨"ShareEight$Assembler", "passEquation", "()V"⟩, 11) := ⟨⟨by decide +kernel, by decide +kernel⟩, List.mem_of_getElem? (i := 31) (by decide +kernel), List.mem_of_getElem? (i := 726) (by decide +kernel), List.mem_of_getElem? (i := 727) (by decide +kernel)⟩
theorem lw_p20 : lw_okq (⟨"ShareEight$Assembler", "passPage", "()V"⟩, 11) := ⟨⟨by decide +kernel, by decide +kernel⟩, List.mem_of_getElem? (i := 31) (by decide +kernel), List.mem_of_getElem? (i := 730) (by decide +kernel), List.mem_of_getElem? (i := 731) (by decide +kernel)⟩
theorem lw_p21 : lw_okq (⟨"ShareEight$Assembler", "passRadix", "(Z)V"⟩, 11) := ⟨⟨by decide +kernel, by decide +kernel⟩, List.mem_of_getElem? (i := 31) (by decide +kernel), List.mem_of_getElem? (i := 734) (by decide +kernel), List.mem_of_getElem? (i := 735) (by decide +kernel)⟩
theorem lw_p22 : lw_okq (⟨"ShareEight$Assembler", "passZeros", "()V"⟩, 11) := ⟨⟨by decide +kernel, by decide +kernel⟩, List.mem_of_getElem? (i := 31) (by decide +kernel), List.mem_of_getElem? (i := 738) (by decide +kernel), List.mem_of_getElem? (i := 739) (by decide +kernel)⟩
theorem lw_p23 : lw_okq (⟨"ShareEight$Assembler", "mayLay", "(II)Z"⟩, 11) := ⟨⟨by decide +kernel, by decide +kernel⟩, List.mem_of_getElem? (i := 31) (by decide +kernel), List.mem_of_getElem? (i := 742) (by decide +kernel), List.mem_of_getElem? (i := 743) (by decide +kernel)⟩
theorem lw_p24 : lw_okq (⟨"ShareEight$Assembler", "refuse", "(I)V"⟩, 11) := ⟨⟨by decide +kernel, by decide +kernel⟩, List.mem_of_getElem? (i := 31) (by decide +kernel), List.mem_of_getElem? (i := 746) (by decide +kernel), List.mem_of_getElem? (i := 747) (by decide +kernel)⟩
theorem lw_p25 : lw_okq (⟨"ShareEight$Assembler", "passText", "()V"⟩, 11) := ⟨⟨by decide +kernel, by decide +kernel⟩, List.mem_of_getElem? (i := 31) (by decide +kernel), List.mem_of_getElem? (i := 759) (by decide +kernel), List.mem_of_getElem? (i := 760) (by decide +kernel)⟩
theorem lw_p26 : lw_okq (⟨"ShareEight$Assembler", "sixBits", "(II)I"⟩, 11) := ⟨⟨by decide +kernel, by decide +kernel⟩, List.mem_of_getElem? (i := 31) (by decide +kernel), List.mem_of_getElem? (i := 763) (by decide +kernel), List.mem_of_getElem? (i := 764) (by decide +kernel)⟩
theorem lw_p27 : lw_okq (⟨"ShareEight$Assembler", "passReference", "()V"⟩, 11) := ⟨⟨by decide +kernel, by decide +kernel⟩, List.mem_of_getElem? (i := 31) (by decide +kernel), List.mem_of_getElem? (i := 768) (by decide +kernel), List.mem_of_getElem? (i := 769) (by decide +kernel)⟩
theorem lw_p28 : lw_okq (⟨"ShareEight$Assembler", "mayBeginWord", "()Z"⟩, 11) := ⟨⟨by decide +kernel, by decide +kernel⟩, List.mem_of_getElem? (i := 31) (by decide +kernel), List.mem_of_getElem? (i := 772) (by decide +kernel), List.mem_of_getElem? (i := 773) (by decide +kernel)⟩
theorem lw_p29 : lw_okq (⟨"ShareEight$Assembler", "isModifierAt", "(I)Z"⟩, 11) := ⟨⟨by decide +kernel, by decide +kernel⟩, List.mem_of_getElem? (i := 31) (by decide +kernel), List.mem_of_getElem? (i := 776) (by decide +kernel), List.mem_of_getElem? (i := 777) (by decide +kernel)⟩
theorem lw_p30 : lw_okq (⟨"ShareEight$Assembler", "finishWord", "(I)V"⟩, 11) := ⟨⟨by decide +kernel, by decide +kernel⟩, List.mem_of_getElem? (i := 31) (by decide +kernel), List.mem_of_getElem? (i := 780) (by decide +kernel), List.mem_of_getElem? (i := 781) (by decide +kernel)⟩
theorem lw_p31 : lw_okq (⟨"ShareEight$Assembler", "readItem", "()I"⟩, 11) := ⟨⟨by decide +kernel, by decide +kernel⟩, List.mem_of_getElem? (i := 31) (by decide +kernel), List.mem_of_getElem? (i := 784) (by decide +kernel), List.mem_of_getElem? (i := 785) (by decide +kernel)⟩
def lw_privs_2 : List (MethodName × Nat) := [(⟨"ShareEight$Assembler", "passOrigin", "()V"⟩, 11), (⟨"ShareEight$Assembler", "readValue", "(Z)I"⟩, 11), (⟨"ShareEight$Assembler", "readPlain", "(Z)I"⟩, 11), (⟨"ShareEight$Assembler", "passEquation", "()V"⟩, 11), (⟨"ShareEight$Assembler", "passPage", "()V"⟩, 11), (⟨"ShareEight$Assembler", "passRadix", "(Z)V"⟩, 11), (⟨"ShareEight$Assembler", "passZeros", "()V"⟩, 11), (⟨"ShareEight$Assembler", "mayLay", "(II)Z"⟩, 11), (⟨"ShareEight$Assembler", "refuse", "(I)V"⟩, 11), (⟨"ShareEight$Assembler", "passText", "()V"⟩, 11), (⟨"ShareEight$Assembler", "sixBits", "(II)I"⟩, 11), (⟨"ShareEight$Assembler", "passReference", "()V"⟩, 11), (⟨"ShareEight$Assembler", "mayBeginWord", "()Z"⟩, 11), (⟨"ShareEight$Assembler", "isModifierAt", "(I)Z"⟩, 11), (⟨"ShareEight$Assembler", "finishWord", "(I)V"⟩, 11), (⟨"ShareEight$Assembler", "readItem", "()I"⟩, 11)]
theorem lw_r2 : ∀ q ∈ lw_privs_2, lw_okq q := List.forall_mem_cons.mpr ⟨lw_p16, List.forall_mem_cons.mpr ⟨lw_p17, List.forall_mem_cons.mpr ⟨lw_p18, List.forall_mem_cons.mpr ⟨lw_p19, List.forall_mem_cons.mpr ⟨lw_p20, List.forall_mem_cons.mpr ⟨lw_p21, List.forall_mem_cons.mpr ⟨lw_p22, List.forall_mem_cons.mpr ⟨lw_p23, List.forall_mem_cons.mpr ⟨lw_p24, List.forall_mem_cons.mpr ⟨lw_p25, List.forall_mem_cons.mpr ⟨lw_p26, List.forall_mem_cons.mpr ⟨lw_p27, List.forall_mem_cons.mpr ⟨lw_p28, List.forall_mem_cons.mpr ⟨lw_p29, List.forall_mem_cons.mpr ⟨lw_p30, List.forall_mem_cons.mpr ⟨lw_p31, fun _ h => absurd h List.not_mem_nil⟩⟩⟩⟩⟩⟩⟩⟩⟩⟩⟩⟩⟩⟩⟩⟩
theorem lw_p32 : lw_okq (⟨"ShareEight$Assembler", "literalFor", "(III)I"⟩, 11) := ⟨⟨by decide +kernel, by decide +kernel⟩, List.mem_of_getElem? (i := 31) (by decide +kernel), List.mem_of_getElem? (i := 788) (by decide +kernel), List.mem_of_getElem? (i := 789) (by decide +kernel)⟩
theorem lw_p33 : lw_okq (⟨"ShareEight$Assembler", "refer", "(III)I"⟩, 11) := ⟨⟨by decide +kernel, by decide +kernel⟩, List.mem_of_getElem? (i := 31) (by decide +kernel), List.mem_of_getElem? (i := 797) (by decide +kernel), List.mem_of_getElem? (i := 798) (by decide +kernel)⟩
theorem lw_p34 : lw_okq (⟨"ShareEight$Assembler", "passWord", "()V"⟩, 11) := ⟨⟨by decide +kernel, by decide +kernel⟩, List.mem_of_getElem? (i := 31) (by decide +kernel), List.mem_of_getElem? (i := 804) (by decide +kernel), List.mem_of_getElem? (i := 805) (by decide +kernel)⟩
theorem lw_p35 : lw_okq (⟨"ShareEight$Assembler", "passEnd", "()V"⟩, 11) := ⟨⟨by decide +kernel, by decide +kernel⟩, List.mem_of_getElem? (i := 31) (by decide +kernel), List.mem_of_getElem? (i := 808) (by decide +kernel), List.mem_of_getElem? (i := 809) (by decide +kernel)⟩
theorem lw_p36 : lw_okq (⟨"ShareEight$House", "endTurn", "(LShareEight$User;)V"⟩, 12) := ⟨⟨by decide +kernel, by decide +kernel⟩, List.mem_of_getElem? (i := 211) (by decide +kernel), List.mem_of_getElem? (i := 900) (by decide +kernel), List.mem_of_getElem? (i := 901) (by decide +kernel)⟩
theorem lw_p37 : lw_okq (⟨"ShareEight$House", "attend", "(LShareEight$User;)V"⟩, 12) := ⟨⟨by decide +kernel, by decide +kernel⟩, List.mem_of_getElem? (i := 211) (by decide +kernel), List.mem_of_getElem? (i := 946) (by decide +kernel), List.mem_of_getElem? (i := 947) (by decide +kernel)⟩
theorem lw_p38 : lw_okq (⟨"ShareEight$Channel", "copyStep", "([I[I)V"⟩, 8) := ⟨⟨by decide +kernel, by decide +kernel⟩, List.mem_of_getElem? (i := 226) (by decide +kernel), List.mem_of_getElem? (i := 975) (by decide +kernel), List.mem_of_getElem? (i := 976) (by decide +kernel)⟩
theorem lw_p39 : lw_okq (⟨"ShareEight$Channel", "moveBlockStep", "(LShareEight$User;LShareEight$Slot;)V"⟩, 8) := ⟨⟨by decide +kernel, by decide +kernel⟩, List.mem_of_getElem? (i := 226) (by decide +kernel), List.mem_of_getElem? (i := 982) (by decide +kernel), List.mem_of_getElem? (i := 983) (by decide +kernel)⟩
theorem lw_p40 : lw_okq (⟨"ShareEight$House", "finishTask", "(LShareEight$User;LShareEight$Slot;)V"⟩, 12) := ⟨⟨by decide +kernel, by decide +kernel⟩, List.mem_of_getElem? (i := 211) (by decide +kernel), List.mem_of_getElem? (i := 987) (by decide +kernel), List.mem_of_getElem? (i := 988) (by decide +kernel)⟩
theorem lw_p41 : lw_okq (⟨"ShareEight$House", "finishBlock", "(LShareEight$User;LShareEight$Slot;)V"⟩, 12) := ⟨⟨by decide +kernel, by decide +kernel⟩, List.mem_of_getElem? (i := 211) (by decide +kernel), List.mem_of_getElem? (i := 995) (by decide +kernel), List.mem_of_getElem? (i := 996) (by decide +kernel)⟩
theorem lw_p42 : lw_okq (⟨"ShareEight$House", "lookForTask", "()V"⟩, 12) := ⟨⟨by decide +kernel, by decide +kernel⟩, List.mem_of_getElem? (i := 211) (by decide +kernel), List.mem_of_getElem? (i := 1007) (by decide +kernel), List.mem_of_getElem? (i := 1008) (by decide +kernel)⟩
theorem lw_p43 : lw_okq (⟨"ShareEight$House", "serveQueue", "()Z"⟩, 12) := ⟨⟨by decide +kernel, by decide +kernel⟩, List.mem_of_getElem? (i := 211) (by decide +kernel), List.mem_of_getElem? (i := 1011) (by decide +kernel), List.mem_of_getElem? (i := 1012) (by decide +kernel)⟩
theorem lw_p44 : lw_okq (⟨"ShareEight$House", "firstWithoutSlot", "()LShareEight$User;"⟩, 12) := ⟨⟨by decide +kernel, by decide +kernel⟩, List.mem_of_getElem? (i := 211) (by decide +kernel), List.mem_of_getElem? (i := 1015) (by decide +kernel), List.mem_of_getElem? (i := 1016) (by decide +kernel)⟩
theorem lw_p45 : lw_okq (⟨"ShareEight$House", "freeSlot", "()LShareEight$Slot;"⟩, 12) := ⟨⟨by decide +kernel, by decide +kernel⟩, List.mem_of_getElem? (i := 211) (by decide +kernel), List.mem_of_getElem? (i := 1023) (by decide +kernel), List.mem_of_getElem? (i := 1024) (by decide +kernel)⟩
theorem lw_p46 : lw_okq (⟨"ShareEight$House", "slotToClear", "()LShareEight$Slot;"⟩, 12) := ⟨⟨by decide +kernel, by decide +kernel⟩, List.mem_of_getElem? (i := 211) (by decide +kernel), List.mem_of_getElem? (i := 1027) (by decide +kernel), List.mem_of_getElem? (i := 1028) (by decide +kernel)⟩
theorem lw_p47 : lw_okq (⟨"ShareEight$House", "serveBlocks", "()Z"⟩, 12) := ⟨⟨by decide +kernel, by decide +kernel⟩, List.mem_of_getElem? (i := 211) (by decide +kernel), List.mem_of_getElem? (i := 1032) (by decide +kernel), List.mem_of_getElem? (i := 1033) (by decide +kernel)⟩
def lw_privs_3 : List (MethodName × Nat) := [(⟨"ShareEight$Assembler", "literalFor", "(III)I"⟩, 11), (⟨"ShareEight$Assembler", "refer", "(III)I"⟩, 11), (⟨"ShareEight$Assembler", "passWord", "()V"⟩, 11), (⟨"ShareEight$Assembler", "passEnd", "()V"⟩, 11), (⟨"ShareEight$House", "endTurn", "(LShareEight$User;)V"⟩, 12), (⟨"ShareEight$House", "attend", "(LShareEight$User;)V"⟩, 12), (⟨"ShareEight$Channel", "copyStep", "([I[I)V"⟩, 8), (⟨"ShareEight$Channel", "moveBlockStep", "(LShareEight$User;LShareEight$Slot;)V"⟩, 8), (⟨"ShareEight$House", "finishTask", "(LShareEight$User;LShareEight$Slot;)V"⟩, 12), (⟨"ShareEight$House", "finishBlock", "(LShareEight$User;LShareEight$Slot;)V"⟩, 12), (⟨"ShareEight$House", "lookForTask", "()V"⟩, 12), (⟨"ShareEight$House", "serveQueue", "()Z"⟩, 12), (⟨"ShareEight$House", "firstWithoutSlot", "()LShareEight$User;"⟩, 12), (⟨"ShareEight$House", "freeSlot", "()LShareEight$Slot;"⟩, 12), (⟨"ShareEight$House", "slotToClear", "()LShareEight$Slot;"⟩, 12), (⟨"ShareEight$House", "serveBlocks", "()Z"⟩, 12)]
theorem lw_r3 : ∀ q ∈ lw_privs_3, lw_okq q := List.forall_mem_cons.mpr ⟨lw_p32, List.forall_mem_cons.mpr ⟨lw_p33, List.forall_mem_cons.mpr ⟨lw_p34, List.forall_mem_cons.mpr ⟨lw_p35, List.forall_mem_cons.mpr ⟨lw_p36, List.forall_mem_cons.mpr ⟨lw_p37, List.forall_mem_cons.mpr ⟨lw_p38, List.forall_mem_cons.mpr ⟨lw_p39, List.forall_mem_cons.mpr ⟨lw_p40, List.forall_mem_cons.mpr ⟨lw_p41, List.forall_mem_cons.mpr ⟨lw_p42, List.forall_mem_cons.mpr ⟨lw_p43, List.forall_mem_cons.mpr ⟨lw_p44, List.forall_mem_cons.mpr ⟨lw_p45, List.forall_mem_cons.mpr ⟨lw_p46, List.forall_mem_cons.mpr ⟨lw_p47, fun _ h => absurd h List.not_mem_nil⟩⟩⟩⟩⟩⟩⟩⟩⟩⟩⟩⟩⟩⟩⟩⟩
theorem lw_p48 : lw_okq (⟨"ShareEight$House", "process", "()V"⟩, 12) := ⟨⟨by decide +kernel, by decide +kernel⟩, List.mem_of_getElem? (i := 211) (by decide +kernel), List.mem_of_getElem? (i := 1036) (by decide +kernel), List.mem_of_getElem? (i := 1037) (by decide +kernel)⟩
theorem lw_p49 : lw_okq (⟨"ShareEight$House", "chooseRunning", "()V"⟩, 12) := ⟨⟨by decide +kernel, by decide +kernel⟩, List.mem_of_getElem? (i := 211) (by decide +kernel), List.mem_of_getElem? (i := 1040) (by decide +kernel), List.mem_of_getElem? (i := 1041) (by decide +kernel)⟩
theorem lw_p50 : lw_okq (⟨"ShareEight$Machine", "refer", "(LShareEight$User;LShareEight$Slot;II)V"⟩, 2) := ⟨⟨by decide +kernel, by decide +kernel⟩, List.mem_of_getElem? (i := 264) (by decide +kernel), List.mem_of_getElem? (i := 1052) (by decide +kernel), List.mem_of_getElem? (i := 1053) (by decide +kernel)⟩
theorem lw_p51 : lw_okq (⟨"ShareEight$Machine", "addressOf", "(LShareEight$Slot;I)I"⟩, 2) := ⟨⟨by decide +kernel, by decide +kernel⟩, List.mem_of_getElem? (i := 264) (by decide +kernel), List.mem_of_getElem? (i := 1056) (by decide +kernel), List.mem_of_getElem? (i := 1057) (by decide +kernel)⟩
theorem lw_p52 : lw_okq (⟨"ShareEight$Machine", "callMonitor", "(LShareEight$User;I)Z"⟩, 2) := ⟨⟨by decide +kernel, by decide +kernel⟩, List.mem_of_getElem? (i := 264) (by decide +kernel), List.mem_of_getElem? (i := 1064) (by decide +kernel), List.mem_of_getElem? (i := 1065) (by decide +kernel)⟩
theorem lw_p53 : lw_okq (⟨"ShareEight$Machine", "readKey", "(LShareEight$User;Z)Z"⟩, 2) := ⟨⟨by decide +kernel, by decide +kernel⟩, List.mem_of_getElem? (i := 264) (by decide +kernel), List.mem_of_getElem? (i := 1070) (by decide +kernel), List.mem_of_getElem? (i := 1071) (by decide +kernel)⟩
theorem lw_p54 : lw_okq (⟨"ShareEight$Machine", "waitFor", "(LShareEight$User;I)Z"⟩, 2) := ⟨⟨by decide +kernel, by decide +kernel⟩, List.mem_of_getElem? (i := 264) (by decide +kernel), List.mem_of_getElem? (i := 1074) (by decide +kernel), List.mem_of_getElem? (i := 1075) (by decide +kernel)⟩
theorem lw_p55 : lw_okq (⟨"ShareEight$Machine", "sendLetter", "(LShareEight$User;)Z"⟩, 2) := ⟨⟨by decide +kernel, by decide +kernel⟩, List.mem_of_getElem? (i := 264) (by decide +kernel), List.mem_of_getElem? (i := 1079) (by decide +kernel), List.mem_of_getElem? (i := 1080) (by decide +kernel)⟩
theorem lw_p56 : lw_okq (⟨"ShareEight$Machine", "fallAsleep", "(LShareEight$User;)V"⟩, 2) := ⟨⟨by decide +kernel, by decide +kernel⟩, List.mem_of_getElem? (i := 264) (by decide +kernel), List.mem_of_getElem? (i := 1085) (by decide +kernel), List.mem_of_getElem? (i := 1086) (by decide +kernel)⟩
theorem lw_p57 : lw_okq (⟨"ShareEight$Machine", "goWrong", "(LShareEight$User;)Z"⟩, 2) := ⟨⟨by decide +kernel, by decide +kernel⟩, List.mem_of_getElem? (i := 264) (by decide +kernel), List.mem_of_getElem? (i := 1089) (by decide +kernel), List.mem_of_getElem? (i := 1090) (by decide +kernel)⟩
theorem lw_p58 : lw_okq (⟨"ShareEight$Machine", "extend", "(LShareEight$User;LShareEight$Slot;I)Z"⟩, 2) := ⟨⟨by decide +kernel, by decide +kernel⟩, List.mem_of_getElem? (i := 264) (by decide +kernel), List.mem_of_getElem? (i := 1108) (by decide +kernel), List.mem_of_getElem? (i := 1109) (by decide +kernel)⟩
theorem lw_p59 : lw_okq (⟨"ShareEight$House", "endQuantum", "(LShareEight$User;)V"⟩, 12) := ⟨⟨by decide +kernel, by decide +kernel⟩, List.mem_of_getElem? (i := 211) (by decide +kernel), List.mem_of_getElem? (i := 1125) (by decide +kernel), List.mem_of_getElem? (i := 1126) (by decide +kernel)⟩
theorem lw_p60 : lw_okq (⟨"ShareEightModel", "put", "(I)V"⟩, 79) := ⟨⟨by decide +kernel, by decide +kernel⟩, List.mem_of_getElem? (i := 1195) (by decide +kernel), List.mem_of_getElem? (i := 1193) (by decide +kernel), List.mem_of_getElem? (i := 1194) (by decide +kernel)⟩
theorem lw_p61 : lw_okq (⟨"ShareEightModel", "pass", "(Z)V"⟩, 79) := ⟨⟨by decide +kernel, by decide +kernel⟩, List.mem_of_getElem? (i := 1195) (by decide +kernel), List.mem_of_getElem? (i := 1209) (by decide +kernel), List.mem_of_getElem? (i := 1210) (by decide +kernel)⟩
theorem lw_p62 : lw_okq (⟨"ShareEightModel", "line", "()V"⟩, 79) := ⟨⟨by decide +kernel, by decide +kernel⟩, List.mem_of_getElem? (i := 1195) (by decide +kernel), List.mem_of_getElem? (i := 1213) (by decide +kernel), List.mem_of_getElem? (i := 1214) (by decide +kernel)⟩
theorem lw_p63 : lw_okq (⟨"ShareEightModel", "look", "()V"⟩, 79) := ⟨⟨by decide +kernel, by decide +kernel⟩, List.mem_of_getElem? (i := 1195) (by decide +kernel), List.mem_of_getElem? (i := 1217) (by decide +kernel), List.mem_of_getElem? (i := 1218) (by decide +kernel)⟩
def lw_privs_4 : List (MethodName × Nat) := [(⟨"ShareEight$House", "process", "()V"⟩, 12), (⟨"ShareEight$House", "chooseRunning", "()V"⟩, 12), (⟨"ShareEight$Machine", "refer", "(LShareEight$User;LShareEight$Slot;II)V"⟩, 2), (⟨"ShareEight$Machine", "addressOf", "(LShareEight$Slot;I)I"⟩, 2), (⟨"ShareEight$Machine", "callMonitor", "(LShareEight$User;I)Z"⟩, 2), (⟨"ShareEight$Machine", "readKey", "(LShareEight$User;Z)Z"⟩, 2), (⟨"ShareEight$Machine", "waitFor", "(LShareEight$User;I)Z"⟩, 2), (⟨"ShareEight$Machine", "sendLetter", "(LShareEight$User;)Z"⟩, 2), (⟨"ShareEight$Machine", "fallAsleep", "(LShareEight$User;)V"⟩, 2), (⟨"ShareEight$Machine", "goWrong", "(LShareEight$User;)Z"⟩, 2), (⟨"ShareEight$Machine", "extend", "(LShareEight$User;LShareEight$Slot;I)Z"⟩, 2), (⟨"ShareEight$House", "endQuantum", "(LShareEight$User;)V"⟩, 12), (⟨"ShareEightModel", "put", "(I)V"⟩, 79), (⟨"ShareEightModel", "pass", "(Z)V"⟩, 79), (⟨"ShareEightModel", "line", "()V"⟩, 79), (⟨"ShareEightModel", "look", "()V"⟩, 79)]
theorem lw_r4 : ∀ q ∈ lw_privs_4, lw_okq q := List.forall_mem_cons.mpr ⟨lw_p48, List.forall_mem_cons.mpr ⟨lw_p49, List.forall_mem_cons.mpr ⟨lw_p50, List.forall_mem_cons.mpr ⟨lw_p51, List.forall_mem_cons.mpr ⟨lw_p52, List.forall_mem_cons.mpr ⟨lw_p53, List.forall_mem_cons.mpr ⟨lw_p54, List.forall_mem_cons.mpr ⟨lw_p55, List.forall_mem_cons.mpr ⟨lw_p56, List.forall_mem_cons.mpr ⟨lw_p57, List.forall_mem_cons.mpr ⟨lw_p58, List.forall_mem_cons.mpr ⟨lw_p59, List.forall_mem_cons.mpr ⟨lw_p60, List.forall_mem_cons.mpr ⟨lw_p61, List.forall_mem_cons.mpr ⟨lw_p62, List.forall_mem_cons.mpr ⟨lw_p63, fun _ h => absurd h List.not_mem_nil⟩⟩⟩⟩⟩⟩⟩⟩⟩⟩⟩⟩⟩⟩⟩⟩
theorem lw_p64 : lw_okq (⟨"ShareEightModel", "at", "(I)I"⟩, 79) := ⟨⟨by decide +kernel, by decide +kernel⟩, List.mem_of_getElem? (i := 1195) (by decide +kernel), List.mem_of_getElem? (i := 1224) (by decide +kernel), List.mem_of_getElem? (i := 1225) (by decide +kernel)⟩
theorem lw_p65 : lw_okq (⟨"ShareEightModel", "fails", "(II)V"⟩, 79) := ⟨⟨by decide +kernel, by decide +kernel⟩, List.mem_of_getElem? (i := 1195) (by decide +kernel), List.mem_of_getElem? (i := 1231) (by decide +kernel), List.mem_of_getElem? (i := 1232) (by decide +kernel)⟩
theorem lw_p66 : lw_okq (⟨"ShareEightModel", "number", "(II)V"⟩, 79) := ⟨⟨by decide +kernel, by decide +kernel⟩, List.mem_of_getElem? (i := 1195) (by decide +kernel), List.mem_of_getElem? (i := 1235) (by decide +kernel), List.mem_of_getElem? (i := 1236) (by decide +kernel)⟩
theorem lw_p67 : lw_okq (⟨"ShareEightModel", "labels", "()V"⟩, 79) := ⟨⟨by decide +kernel, by decide +kernel⟩, List.mem_of_getElem? (i := 1195) (by decide +kernel), List.mem_of_getElem? (i := 1241) (by decide +kernel), List.mem_of_getElem? (i := 1242) (by decide +kernel)⟩
theorem lw_p68 : lw_okq (⟨"ShareEightModel", "isNext", "(I)Z"⟩, 79) := ⟨⟨by decide +kernel, by decide +kernel⟩, List.mem_of_getElem? (i := 1195) (by decide +kernel), List.mem_of_getElem? (i := 1245) (by decide +kernel), List.mem_of_getElem? (i := 1246) (by decide +kernel)⟩
theorem lw_p69 : lw_okq (⟨"ShareEightModel", "take", "()V"⟩, 79) := ⟨⟨by decide +kernel, by decide +kernel⟩, List.mem_of_getElem? (i := 1195) (by decide +kernel), List.mem_of_getElem? (i := 1249) (by decide +kernel), List.mem_of_getElem? (i := 1250) (by decide +kernel)⟩
theorem lw_p70 : lw_okq (⟨"ShareEightModel", "tells", "(IIIZ)V"⟩, 79) := ⟨⟨by decide +kernel, by decide +kernel⟩, List.mem_of_getElem? (i := 1195) (by decide +kernel), List.mem_of_getElem? (i := 1253) (by decide +kernel), List.mem_of_getElem? (i := 1254) (by decide +kernel)⟩
theorem lw_p71 : lw_okq (⟨"ShareEightModel", "findTold", "(II)I"⟩, 79) := ⟨⟨by decide +kernel, by decide +kernel⟩, List.mem_of_getElem? (i := 1195) (by decide +kernel), List.mem_of_getElem? (i := 1265) (by decide +kernel), List.mem_of_getElem? (i := 1266) (by decide +kernel)⟩
theorem lw_p72 : lw_okq (⟨"ShareEightModel", "one", "()V"⟩, 79) := ⟨⟨by decide +kernel, by decide +kernel⟩, List.mem_of_getElem? (i := 1195) (by decide +kernel), List.mem_of_getElem? (i := 1269) (by decide +kernel), List.mem_of_getElem? (i := 1270) (by decide +kernel)⟩
theorem lw_p73 : lw_okq (⟨"ShareEightModel", "isSign", "(I)Z"⟩, 79) := ⟨⟨by decide +kernel, by decide +kernel⟩, List.mem_of_getElem? (i := 1195) (by decide +kernel), List.mem_of_getElem? (i := 1273) (by decide +kernel), List.mem_of_getElem? (i := 1274) (by decide +kernel)⟩
theorem lw_p74 : lw_okq (⟨"ShareEightModel", "asked", "()I"⟩, 79) := ⟨⟨by decide +kernel, by decide +kernel⟩, List.mem_of_getElem? (i := 1195) (by decide +kernel), List.mem_of_getElem? (i := 1277) (by decide +kernel), List.mem_of_getElem? (i := 1278) (by decide +kernel)⟩
theorem lw_p75 : lw_okq (⟨"ShareEightModel", "all", "()I"⟩, 79) := ⟨⟨by decide +kernel, by decide +kernel⟩, List.mem_of_getElem? (i := 1195) (by decide +kernel), List.mem_of_getElem? (i := 1281) (by decide +kernel), List.mem_of_getElem? (i := 1282) (by decide +kernel)⟩
theorem lw_p76 : lw_okq (⟨"ShareEightModel", "part", "()I"⟩, 79) := ⟨⟨by decide +kernel, by decide +kernel⟩, List.mem_of_getElem? (i := 1195) (by decide +kernel), List.mem_of_getElem? (i := 1285) (by decide +kernel), List.mem_of_getElem? (i := 1286) (by decide +kernel)⟩
theorem lw_p77 : lw_okq (⟨"ShareEightModel", "named", "()I"⟩, 79) := ⟨⟨by decide +kernel, by decide +kernel⟩, List.mem_of_getElem? (i := 1195) (by decide +kernel), List.mem_of_getElem? (i := 1289) (by decide +kernel), List.mem_of_getElem? (i := 1290) (by decide +kernel)⟩
theorem lw_p78 : lw_okq (⟨"ShareEightModel", "told", "(I)V"⟩, 79) := ⟨⟨by decide +kernel, by decide +kernel⟩, List.mem_of_getElem? (i := 1195) (by decide +kernel), List.mem_of_getElem? (i := 1295) (by decide +kernel), List.mem_of_getElem? (i := 1296) (by decide +kernel)⟩
theorem lw_p79 : lw_okq (⟨"ShareEightModel", "texts", "(I)V"⟩, 79) := ⟨⟨by decide +kernel, by decide +kernel⟩, List.mem_of_getElem? (i := 1195) (by decide +kernel), List.mem_of_getElem? (i := 1299) (by decide +kernel), List.mem_of_getElem? (i := 1300) (by decide +kernel)⟩
def lw_privs_5 : List (MethodName × Nat) := [(⟨"ShareEightModel", "at", "(I)I"⟩, 79), (⟨"ShareEightModel", "fails", "(II)V"⟩, 79), (⟨"ShareEightModel", "number", "(II)V"⟩, 79), (⟨"ShareEightModel", "labels", "()V"⟩, 79), (⟨"ShareEightModel", "isNext", "(I)Z"⟩, 79), (⟨"ShareEightModel", "take", "()V"⟩, 79), (⟨"ShareEightModel", "tells", "(IIIZ)V"⟩, 79), (⟨"ShareEightModel", "findTold", "(II)I"⟩, 79), (⟨"ShareEightModel", "one", "()V"⟩, 79), (⟨"ShareEightModel", "isSign", "(I)Z"⟩, 79), (⟨"ShareEightModel", "asked", "()I"⟩, 79), (⟨"ShareEightModel", "all", "()I"⟩, 79), (⟨"ShareEightModel", "part", "()I"⟩, 79), (⟨"ShareEightModel", "named", "()I"⟩, 79), (⟨"ShareEightModel", "told", "(I)V"⟩, 79), (⟨"ShareEightModel", "texts", "(I)V"⟩, 79)]
theorem lw_r5 : ∀ q ∈ lw_privs_5, lw_okq q := List.forall_mem_cons.mpr ⟨lw_p64, List.forall_mem_cons.mpr ⟨lw_p65, List.forall_mem_cons.mpr ⟨lw_p66, List.forall_mem_cons.mpr ⟨lw_p67, List.forall_mem_cons.mpr ⟨lw_p68, List.forall_mem_cons.mpr ⟨lw_p69, List.forall_mem_cons.mpr ⟨lw_p70, List.forall_mem_cons.mpr ⟨lw_p71, List.forall_mem_cons.mpr ⟨lw_p72, List.forall_mem_cons.mpr ⟨lw_p73, List.forall_mem_cons.mpr ⟨lw_p74, List.forall_mem_cons.mpr ⟨lw_p75, List.forall_mem_cons.mpr ⟨lw_p76, List.forall_mem_cons.mpr ⟨lw_p77, List.forall_mem_cons.mpr ⟨lw_p78, List.forall_mem_cons.mpr ⟨lw_p79, fun _ h => absurd h List.not_mem_nil⟩⟩⟩⟩⟩⟩⟩⟩⟩⟩⟩⟩⟩⟩⟩⟩
theorem lw_p80 : lw_okq (⟨"ShareEightModel", "lies", "(I)V"⟩, 79) := ⟨⟨by decide +kernel, by decide +kernel⟩, List.mem_of_getElem? (i := 1195) (by decide +kernel), List.mem_of_getElem? (i := 1303) (by decide +kernel), List.mem_of_getElem? (i := 1304) (by decide +kernel)⟩
theorem lw_p81 : lw_okq (⟨"ShareEightModel", "again", "()V"⟩, 79) := ⟨⟨by decide +kernel, by decide +kernel⟩, List.mem_of_getElem? (i := 1195) (by decide +kernel), List.mem_of_getElem? (i := 1307) (by decide +kernel), List.mem_of_getElem? (i := 1308) (by decide +kernel)⟩
theorem lw_p82 : lw_okq (⟨"ShareEightModel", "beginsV", "()Z"⟩, 79) := ⟨⟨by decide +kernel, by decide +kernel⟩, List.mem_of_getElem? (i := 1195) (by decide +kernel), List.mem_of_getElem? (i := 1311) (by decide +kernel), List.mem_of_getElem? (i := 1312) (by decide +kernel)⟩
theorem lw_p83 : lw_okq (⟨"ShareEightModel", "word", "()V"⟩, 79) := ⟨⟨by decide +kernel, by decide +kernel⟩, List.mem_of_getElem? (i := 1195) (by decide +kernel), List.mem_of_getElem? (i := 1315) (by decide +kernel), List.mem_of_getElem? (i := 1316) (by decide +kernel)⟩
theorem lw_p84 : lw_okq (⟨"ShareEightModel", "literal", "()I"⟩, 79) := ⟨⟨by decide +kernel, by decide +kernel⟩, List.mem_of_getElem? (i := 1195) (by decide +kernel), List.mem_of_getElem? (i := 1319) (by decide +kernel), List.mem_of_getElem? (i := 1320) (by decide +kernel)⟩
theorem lw_p85 : lw_okq (⟨"ShareEightModel", "literalFor", "(III)I"⟩, 79) := ⟨⟨by decide +kernel, by decide +kernel⟩, List.mem_of_getElem? (i := 1195) (by decide +kernel), List.mem_of_getElem? (i := 1323) (by decide +kernel), List.mem_of_getElem? (i := 1324) (by decide +kernel)⟩
theorem lw_p86 : lw_okq (⟨"ShareEightModel", "memory", "(IZII)I"⟩, 79) := ⟨⟨by decide +kernel, by decide +kernel⟩, List.mem_of_getElem? (i := 1195) (by decide +kernel), List.mem_of_getElem? (i := 1327) (by decide +kernel), List.mem_of_getElem? (i := 1328) (by decide +kernel)⟩
theorem lw_p87 : lw_okq (⟨"ShareEightModel", "rests", "(I)Z"⟩, 79) := ⟨⟨by decide +kernel, by decide +kernel⟩, List.mem_of_getElem? (i := 1195) (by decide +kernel), List.mem_of_getElem? (i := 1592) (by decide +kernel), List.mem_of_getElem? (i := 1593) (by decide +kernel)⟩
theorem lw_p88 : lw_okq (⟨"ShareEightModel", "isUser", "(I)Z"⟩, 79) := ⟨⟨by decide +kernel, by decide +kernel⟩, List.mem_of_getElem? (i := 1195) (by decide +kernel), List.mem_of_getElem? (i := 1596) (by decide +kernel), List.mem_of_getElem? (i := 1597) (by decide +kernel)⟩
theorem lw_p89 : lw_okq (⟨"ShareEightModel", "isMoved", "(I)Z"⟩, 79) := ⟨⟨by decide +kernel, by decide +kernel⟩, List.mem_of_getElem? (i := 1195) (by decide +kernel), List.mem_of_getElem? (i := 1600) (by decide +kernel), List.mem_of_getElem? (i := 1601) (by decide +kernel)⟩
theorem lw_p90 : lw_okq (⟨"ShareEightModel", "nobodys", "(I)V"⟩, 79) := ⟨⟨by decide +kernel, by decide +kernel⟩, List.mem_of_getElem? (i := 1195) (by decide +kernel), List.mem_of_getElem? (i := 1604) (by decide +kernel), List.mem_of_getElem? (i := 1605) (by decide +kernel)⟩
theorem lw_p91 : lw_okq (⟨"ShareEightModel", "becomesReady", "(I)V"⟩, 79) := ⟨⟨by decide +kernel, by decide +kernel⟩, List.mem_of_getElem? (i := 1195) (by decide +kernel), List.mem_of_getElem? (i := 1615) (by decide +kernel), List.mem_of_getElem? (i := 1616) (by decide +kernel)⟩
theorem lw_p92 : lw_okq (⟨"ShareEightModel", "leavesQueue", "(I)V"⟩, 79) := ⟨⟨by decide +kernel, by decide +kernel⟩, List.mem_of_getElem? (i := 1195) (by decide +kernel), List.mem_of_getElem? (i := 1623) (by decide +kernel), List.mem_of_getElem? (i := 1624) (by decide +kernel)⟩
theorem lw_p93 : lw_okq (⟨"ShareEightModel", "store", "(III)V"⟩, 79) := ⟨⟨by decide +kernel, by decide +kernel⟩, List.mem_of_getElem? (i := 1195) (by decide +kernel), List.mem_of_getElem? (i := 1639) (by decide +kernel), List.mem_of_getElem? (i := 1640) (by decide +kernel)⟩
theorem lw_p94 : lw_okq (⟨"ShareEightModel", "tick", "()V"⟩, 79) := ⟨⟨by decide +kernel, by decide +kernel⟩, List.mem_of_getElem? (i := 1195) (by decide +kernel), List.mem_of_getElem? (i := 1647) (by decide +kernel), List.mem_of_getElem? (i := 1648) (by decide +kernel)⟩
theorem lw_p95 : lw_okq (⟨"ShareEightModel", "clocks", "(I)V"⟩, 79) := ⟨⟨by decide +kernel, by decide +kernel⟩, List.mem_of_getElem? (i := 1195) (by decide +kernel), List.mem_of_getElem? (i := 1651) (by decide +kernel), List.mem_of_getElem? (i := 1652) (by decide +kernel)⟩
def lw_privs_6 : List (MethodName × Nat) := [(⟨"ShareEightModel", "lies", "(I)V"⟩, 79), (⟨"ShareEightModel", "again", "()V"⟩, 79), (⟨"ShareEightModel", "beginsV", "()Z"⟩, 79), (⟨"ShareEightModel", "word", "()V"⟩, 79), (⟨"ShareEightModel", "literal", "()I"⟩, 79), (⟨"ShareEightModel", "literalFor", "(III)I"⟩, 79), (⟨"ShareEightModel", "memory", "(IZII)I"⟩, 79), (⟨"ShareEightModel", "rests", "(I)Z"⟩, 79), (⟨"ShareEightModel", "isUser", "(I)Z"⟩, 79), (⟨"ShareEightModel", "isMoved", "(I)Z"⟩, 79), (⟨"ShareEightModel", "nobodys", "(I)V"⟩, 79), (⟨"ShareEightModel", "becomesReady", "(I)V"⟩, 79), (⟨"ShareEightModel", "leavesQueue", "(I)V"⟩, 79), (⟨"ShareEightModel", "store", "(III)V"⟩, 79), (⟨"ShareEightModel", "tick", "()V"⟩, 79), (⟨"ShareEightModel", "clocks", "(I)V"⟩, 79)]
theorem lw_r6 : ∀ q ∈ lw_privs_6, lw_okq q := List.forall_mem_cons.mpr ⟨lw_p80, List.forall_mem_cons.mpr ⟨lw_p81, List.forall_mem_cons.mpr ⟨lw_p82, List.forall_mem_cons.mpr ⟨lw_p83, List.forall_mem_cons.mpr ⟨lw_p84, List.forall_mem_cons.mpr ⟨lw_p85, List.forall_mem_cons.mpr ⟨lw_p86, List.forall_mem_cons.mpr ⟨lw_p87, List.forall_mem_cons.mpr ⟨lw_p88, List.forall_mem_cons.mpr ⟨lw_p89, List.forall_mem_cons.mpr ⟨lw_p90, List.forall_mem_cons.mpr ⟨lw_p91, List.forall_mem_cons.mpr ⟨lw_p92, List.forall_mem_cons.mpr ⟨lw_p93, List.forall_mem_cons.mpr ⟨lw_p94, List.forall_mem_cons.mpr ⟨lw_p95, fun _ h => absurd h List.not_mem_nil⟩⟩⟩⟩⟩⟩⟩⟩⟩⟩⟩⟩⟩⟩⟩⟩
theorem lw_p96 : lw_okq (⟨"ShareEightModel", "moves", "()V"⟩, 79) := ⟨⟨by decide +kernel, by decide +kernel⟩, List.mem_of_getElem? (i := 1195) (by decide +kernel), List.mem_of_getElem? (i := 1655) (by decide +kernel), List.mem_of_getElem? (i := 1656) (by decide +kernel)⟩
theorem lw_p97 : lw_okq (⟨"ShareEightModel", "load", "(II)I"⟩, 79) := ⟨⟨by decide +kernel, by decide +kernel⟩, List.mem_of_getElem? (i := 1195) (by decide +kernel), List.mem_of_getElem? (i := 1659) (by decide +kernel), List.mem_of_getElem? (i := 1660) (by decide +kernel)⟩
theorem lw_p98 : lw_okq (⟨"ShareEightModel", "ends", "(I)V"⟩, 79) := ⟨⟨by decide +kernel, by decide +kernel⟩, List.mem_of_getElem? (i := 1195) (by decide +kernel), List.mem_of_getElem? (i := 1663) (by decide +kernel), List.mem_of_getElem? (i := 1664) (by decide +kernel)⟩
theorem lw_p99 : lw_okq (⟨"ShareEightModel", "looksFor", "()V"⟩, 79) := ⟨⟨by decide +kernel, by decide +kernel⟩, List.mem_of_getElem? (i := 1195) (by decide +kernel), List.mem_of_getElem? (i := 1667) (by decide +kernel), List.mem_of_getElem? (i := 1668) (by decide +kernel)⟩
theorem lw_p100 : lw_okq (⟨"ShareEightModel", "queuesTask", "()Z"⟩, 79) := ⟨⟨by decide +kernel, by decide +kernel⟩, List.mem_of_getElem? (i := 1195) (by decide +kernel), List.mem_of_getElem? (i := 1671) (by decide +kernel), List.mem_of_getElem? (i := 1672) (by decide +kernel)⟩
theorem lw_p101 : lw_okq (⟨"ShareEightModel", "given", "()I"⟩, 79) := ⟨⟨by decide +kernel, by decide +kernel⟩, List.mem_of_getElem? (i := 1195) (by decide +kernel), List.mem_of_getElem? (i := 1675) (by decide +kernel), List.mem_of_getElem? (i := 1676) (by decide +kernel)⟩
theorem lw_p102 : lw_okq (⟨"ShareEightModel", "starts", "(III)V"⟩, 79) := ⟨⟨by decide +kernel, by decide +kernel⟩, List.mem_of_getElem? (i := 1195) (by decide +kernel), List.mem_of_getElem? (i := 1679) (by decide +kernel), List.mem_of_getElem? (i := 1680) (by decide +kernel)⟩
theorem lw_p103 : lw_okq (⟨"ShareEightModel", "blocksTask", "()Z"⟩, 79) := ⟨⟨by decide +kernel, by decide +kernel⟩, List.mem_of_getElem? (i := 1195) (by decide +kernel), List.mem_of_getElem? (i := 1683) (by decide +kernel), List.mem_of_getElem? (i := 1684) (by decide +kernel)⟩
theorem lw_p104 : lw_okq (⟨"ShareEightModel", "processes", "()V"⟩, 79) := ⟨⟨by decide +kernel, by decide +kernel⟩, List.mem_of_getElem? (i := 1195) (by decide +kernel), List.mem_of_getElem? (i := 1687) (by decide +kernel), List.mem_of_getElem? (i := 1688) (by decide +kernel)⟩
theorem lw_p105 : lw_okq (⟨"ShareEightModel", "step", "(I)V"⟩, 79) := ⟨⟨by decide +kernel, by decide +kernel⟩, List.mem_of_getElem? (i := 1195) (by decide +kernel), List.mem_of_getElem? (i := 1691) (by decide +kernel), List.mem_of_getElem? (i := 1692) (by decide +kernel)⟩
theorem lw_p106 : lw_okq (⟨"ShareEightModel", "isWrong", "()Z"⟩, 79) := ⟨⟨by decide +kernel, by decide +kernel⟩, List.mem_of_getElem? (i := 1195) (by decide +kernel), List.mem_of_getElem? (i := 1695) (by decide +kernel), List.mem_of_getElem? (i := 1696) (by decide +kernel)⟩
theorem lw_p107 : lw_okq (⟨"ShareEightModel", "mustWait", "(I)Z"⟩, 79) := ⟨⟨by decide +kernel, by decide +kernel⟩, List.mem_of_getElem? (i := 1195) (by decide +kernel), List.mem_of_getElem? (i := 1699) (by decide +kernel), List.mem_of_getElem? (i := 1700) (by decide +kernel)⟩
theorem lw_p108 : lw_okq (⟨"ShareEightModel", "memory", "(III)V"⟩, 79) := ⟨⟨by decide +kernel, by decide +kernel⟩, List.mem_of_getElem? (i := 1195) (by decide +kernel), List.mem_of_getElem? (i := 1703) (by decide +kernel), List.mem_of_getElem? (i := 1704) (by decide +kernel)⟩
theorem lw_p109 : lw_okq (⟨"ShareEightModel", "skip", "(I)V"⟩, 79) := ⟨⟨by decide +kernel, by decide +kernel⟩, List.mem_of_getElem? (i := 1195) (by decide +kernel), List.mem_of_getElem? (i := 1707) (by decide +kernel), List.mem_of_getElem? (i := 1708) (by decide +kernel)⟩
theorem lw_p110 : lw_okq (⟨"ShareEightModel", "device", "(I)Z"⟩, 79) := ⟨⟨by decide +kernel, by decide +kernel⟩, List.mem_of_getElem? (i := 1195) (by decide +kernel), List.mem_of_getElem? (i := 1711) (by decide +kernel), List.mem_of_getElem? (i := 1712) (by decide +kernel)⟩
theorem lw_p111 : lw_okq (⟨"ShareEightModel", "goes", "(I)V"⟩, 79) := ⟨⟨by decide +kernel, by decide +kernel⟩, List.mem_of_getElem? (i := 1195) (by decide +kernel), List.mem_of_getElem? (i := 1715) (by decide +kernel), List.mem_of_getElem? (i := 1716) (by decide +kernel)⟩
def lw_privs_7 : List (MethodName × Nat) := [(⟨"ShareEightModel", "moves", "()V"⟩, 79), (⟨"ShareEightModel", "load", "(II)I"⟩, 79), (⟨"ShareEightModel", "ends", "(I)V"⟩, 79), (⟨"ShareEightModel", "looksFor", "()V"⟩, 79), (⟨"ShareEightModel", "queuesTask", "()Z"⟩, 79), (⟨"ShareEightModel", "given", "()I"⟩, 79), (⟨"ShareEightModel", "starts", "(III)V"⟩, 79), (⟨"ShareEightModel", "blocksTask", "()Z"⟩, 79), (⟨"ShareEightModel", "processes", "()V"⟩, 79), (⟨"ShareEightModel", "step", "(I)V"⟩, 79), (⟨"ShareEightModel", "isWrong", "()Z"⟩, 79), (⟨"ShareEightModel", "mustWait", "(I)Z"⟩, 79), (⟨"ShareEightModel", "memory", "(III)V"⟩, 79), (⟨"ShareEightModel", "skip", "(I)V"⟩, 79), (⟨"ShareEightModel", "device", "(I)Z"⟩, 79), (⟨"ShareEightModel", "goes", "(I)V"⟩, 79)]
theorem lw_r7 : ∀ q ∈ lw_privs_7, lw_okq q := List.forall_mem_cons.mpr ⟨lw_p96, List.forall_mem_cons.mpr ⟨lw_p97, List.forall_mem_cons.mpr ⟨lw_p98, List.forall_mem_cons.mpr ⟨lw_p99, List.forall_mem_cons.mpr ⟨lw_p100, List.forall_mem_cons.mpr ⟨lw_p101, List.forall_mem_cons.mpr ⟨lw_p102, List.forall_mem_cons.mpr ⟨lw_p103, List.forall_mem_cons.mpr ⟨lw_p104, List.forall_mem_cons.mpr ⟨lw_p105, List.forall_mem_cons.mpr ⟨lw_p106, List.forall_mem_cons.mpr ⟨lw_p107, List.forall_mem_cons.mpr ⟨lw_p108, List.forall_mem_cons.mpr ⟨lw_p109, List.forall_mem_cons.mpr ⟨lw_p110, List.forall_mem_cons.mpr ⟨lw_p111, fun _ h => absurd h List.not_mem_nil⟩⟩⟩⟩⟩⟩⟩⟩⟩⟩⟩⟩⟩⟩⟩⟩
theorem lw_p112 : lw_okq (⟨"ShareEightModel", "first", "(I)V"⟩, 79) := ⟨⟨by decide +kernel, by decide +kernel⟩, List.mem_of_getElem? (i := 1195) (by decide +kernel), List.mem_of_getElem? (i := 1719) (by decide +kernel), List.mem_of_getElem? (i := 1720) (by decide +kernel)⟩
theorem lw_p113 : lw_okq (⟨"ShareEightModel", "has", "(I)Z"⟩, 79) := ⟨⟨by decide +kernel, by decide +kernel⟩, List.mem_of_getElem? (i := 1195) (by decide +kernel), List.mem_of_getElem? (i := 1723) (by decide +kernel), List.mem_of_getElem? (i := 1724) (by decide +kernel)⟩
theorem lw_p114 : lw_okq (⟨"ShareEightModel", "second", "(I)V"⟩, 79) := ⟨⟨by decide +kernel, by decide +kernel⟩, List.mem_of_getElem? (i := 1195) (by decide +kernel), List.mem_of_getElem? (i := 1727) (by decide +kernel), List.mem_of_getElem? (i := 1728) (by decide +kernel)⟩
theorem lw_p115 : lw_okq (⟨"ShareEightModel", "third", "(I)V"⟩, 79) := ⟨⟨by decide +kernel, by decide +kernel⟩, List.mem_of_getElem? (i := 1195) (by decide +kernel), List.mem_of_getElem? (i := 1731) (by decide +kernel), List.mem_of_getElem? (i := 1732) (by decide +kernel)⟩
theorem lw_p116 : lw_okq (⟨"ShareEightModel", "word", "(I)I"⟩, 79) := ⟨⟨by decide +kernel, by decide +kernel⟩, List.mem_of_getElem? (i := 1195) (by decide +kernel), List.mem_of_getElem? (i := 1735) (by decide +kernel), List.mem_of_getElem? (i := 1736) (by decide +kernel)⟩
def lw_privs_8 : List (MethodName × Nat) := [(⟨"ShareEightModel", "first", "(I)V"⟩, 79), (⟨"ShareEightModel", "has", "(I)Z"⟩, 79), (⟨"ShareEightModel", "second", "(I)V"⟩, 79), (⟨"ShareEightModel", "third", "(I)V"⟩, 79), (⟨"ShareEightModel", "word", "(I)I"⟩, 79)]
theorem lw_r8 : ∀ q ∈ lw_privs_8, lw_okq q := List.forall_mem_cons.mpr ⟨lw_p112, List.forall_mem_cons.mpr ⟨lw_p113, List.forall_mem_cons.mpr ⟨lw_p114, List.forall_mem_cons.mpr ⟨lw_p115, List.forall_mem_cons.mpr ⟨lw_p116, fun _ h => absurd h List.not_mem_nil⟩⟩⟩⟩⟩
def lw_privs : List (MethodName × Nat) := lw_privs_1 ++ (lw_privs_2 ++ (lw_privs_3 ++ (lw_privs_4 ++ (lw_privs_5 ++ (lw_privs_6 ++ (lw_privs_7 ++ (lw_privs_8)))))))
def lw_tbl : List Cond := k2_sels lw_privs ++ tables_1
theorem lw_privs_ok : ∀ q ∈ lw_privs, lw_okq q := by
  show ∀ q ∈ lw_privs_1 ++ (lw_privs_2 ++ (lw_privs_3 ++ (lw_privs_4 ++ (lw_privs_5 ++ (lw_privs_6 ++ (lw_privs_7 ++ (lw_privs_8))))))), lw_okq q
  exact List.forall_mem_append.mpr ⟨lw_r1, List.forall_mem_append.mpr ⟨lw_r2, List.forall_mem_append.mpr ⟨lw_r3, List.forall_mem_append.mpr ⟨lw_r4, List.forall_mem_append.mpr ⟨lw_r5, List.forall_mem_append.mpr ⟨lw_r6, List.forall_mem_append.mpr ⟨lw_r7, lw_r8⟩⟩⟩⟩⟩⟩⟩
end
section
def RX0 : String := "ShareEight$Assembler"
def TX0 : u_T := fun k => match k with
  | 0 => ("ShareEight$Assembler", "names", "LShareEight$Names;", true)
  | 1 => ("ShareEight$Assembler", "tokens", "LShareEight$Tokens;", true)
  | 2 => ("ShareEight$Assembler", "sheet", "LShareEight$Sheet;", false)
  | 3 => ("ShareEight$Assembler", "spare", "LShareEight$Sheet;", false)
  | 4 => ("ShareEight$Assembler", "fault", "I", false)
  | 5 => ("ShareEight$Assembler", "faultPlace", "I", false)
  | 6 => ("ShareEight$Assembler", "makes", "Z", false)
  | 7 => ("ShareEight$Assembler", "ended", "Z", false)
  | 8 => ("ShareEight$Assembler", "decimal", "Z", false)
  | 9 => ("ShareEight$Assembler", "at", "I", false)
  | _ => ("ShareEight$Assembler", "place", "I", false)
def tyX0 : Nat → FieldType := fun k => match k with
  | 0 => .object "ShareEight$Names"
  | 1 => .object "ShareEight$Tokens"
  | 2 => .object "ShareEight$Sheet"
  | 3 => .object "ShareEight$Sheet"
  | 4 => .int
  | 5 => .int
  | 6 => .boolean
  | 7 => .boolean
  | 8 => .boolean
  | 9 => .int
  | _ => .int
abbrev wsX00 : List Cond := u_ws RX0 TX0 11
theorem nmX0 : ∀ a, a < 11 → ∀ b, b < 11 → a ≠ b → (TX0 a).2.1 ≠ (TX0 b).2.1 := by decide +kernel
theorem tyX0_ok : ∀ k, k < 11 → parseFieldDescriptor (TX0 k).2.2.1 = some (tyX0 k) := by decide +kernel
abbrev cX0_init : ByteArray := prog_2_method_1_code
def yX0_init : MethodName := ⟨RX0, "<init>", "()V"⟩
abbrev cX0_open : ByteArray := prog_2_method_2_code
def yX0_open : MethodName := ⟨RX0, "open", "([II)V"⟩
abbrev cX0_close : ByteArray := prog_2_method_3_code
def yX0_close : MethodName := ⟨RX0, "close", "()I"⟩
abbrev cX0_passOver : ByteArray := prog_2_method_4_code
def yX0_passOver : MethodName := ⟨RX0, "passOver", "(Z)V"⟩
abbrev cX0_report : ByteArray := prog_2_method_5_code
def yX0_report : MethodName := ⟨RX0, "report", "(II)V"⟩
abbrev cX0_refuse : ByteArray := prog_2_method_6_code
def yX0_refuse : MethodName := ⟨RX0, "refuse", "(I)V"⟩
abbrev cX0_kindAt : ByteArray := prog_2_method_7_code
def yX0_kindAt : MethodName := ⟨RX0, "kindAt", "(I)I"⟩
abbrev cX0_isEnd : ByteArray := prog_2_method_8_code
def yX0_isEnd : MethodName := ⟨RX0, "isEnd", "(I)Z"⟩
abbrev cX0_passLabels : ByteArray := prog_2_method_9_code
def yX0_passLabels : MethodName := ⟨RX0, "passLabels", "()V"⟩
abbrev cX0_mayTell : ByteArray := prog_2_method_10_code
def yX0_mayTell : MethodName := ⟨RX0, "mayTell", "(I)Z"⟩
abbrev cX0_passEnd : ByteArray := prog_2_method_11_code
def yX0_passEnd : MethodName := ⟨RX0, "passEnd", "()V"⟩
abbrev cX0_passStatement : ByteArray := prog_2_method_12_code
def yX0_passStatement : MethodName := ⟨RX0, "passStatement", "()V"⟩
abbrev cX0_kindOfNamed : ByteArray := prog_2_method_13_code
def yX0_kindOfNamed : MethodName := ⟨RX0, "kindOfNamed", "()I"⟩
abbrev cX0_passRadix : ByteArray := prog_2_method_14_code
def yX0_passRadix : MethodName := ⟨RX0, "passRadix", "(Z)V"⟩
abbrev cX0_passOrigin : ByteArray := prog_2_method_15_code
def yX0_passOrigin : MethodName := ⟨RX0, "passOrigin", "()V"⟩
abbrev cX0_passEquation : ByteArray := prog_2_method_16_code
def yX0_passEquation : MethodName := ⟨RX0, "passEquation", "()V"⟩
abbrev cX0_passPage : ByteArray := prog_2_method_17_code
def yX0_passPage : MethodName := ⟨RX0, "passPage", "()V"⟩
abbrev cX0_passZeros : ByteArray := prog_2_method_18_code
def yX0_passZeros : MethodName := ⟨RX0, "passZeros", "()V"⟩
abbrev cX0_passText : ByteArray := prog_2_method_19_code
def yX0_passText : MethodName := ⟨RX0, "passText", "()V"⟩
abbrev cX0_sixBits : ByteArray := prog_2_method_20_code
def yX0_sixBits : MethodName := ⟨RX0, "sixBits", "(II)I"⟩
abbrev cX0_mayLay : ByteArray := prog_2_method_21_code
def yX0_mayLay : MethodName := ⟨RX0, "mayLay", "(II)Z"⟩
abbrev cX0_isOperator : ByteArray := prog_2_method_22_code
def yX0_isOperator : MethodName := ⟨RX0, "isOperator", "(I)Z"⟩
abbrev cX0_isLiteralSign : ByteArray := prog_2_method_23_code
def yX0_isLiteralSign : MethodName := ⟨RX0, "isLiteralSign", "(I)Z"⟩
abbrev cX0_isStatementName : ByteArray := prog_2_method_24_code
def yX0_isStatementName : MethodName := ⟨RX0, "isStatementName", "(I)Z"⟩
abbrev cX0_beginsValue : ByteArray := prog_2_method_25_code
def yX0_beginsValue : MethodName := ⟨RX0, "beginsValue", "(I)Z"⟩
abbrev cX0_beginsPart : ByteArray := prog_2_method_26_code
def yX0_beginsPart : MethodName := ⟨RX0, "beginsPart", "(I)Z"⟩
abbrev cX0_readValue : ByteArray := prog_2_method_27_code
def yX0_readValue : MethodName := ⟨RX0, "readValue", "(Z)I"⟩
abbrev cX0_combine : ByteArray := prog_2_method_28_code
def yX0_combine : MethodName := ⟨RX0, "combine", "(III)I"⟩
abbrev cX0_readPlain : ByteArray := prog_2_method_29_code
def yX0_readPlain : MethodName := ⟨RX0, "readPlain", "(Z)I"⟩
abbrev cX0_readItem : ByteArray := prog_2_method_30_code
def yX0_readItem : MethodName := ⟨RX0, "readItem", "()I"⟩
abbrev cX0_literalFor : ByteArray := prog_2_method_31_code
def yX0_literalFor : MethodName := ⟨RX0, "literalFor", "(III)I"⟩
abbrev cX0_mayBeginWord : ByteArray := prog_2_method_32_code
def yX0_mayBeginWord : MethodName := ⟨RX0, "mayBeginWord", "()Z"⟩
abbrev cX0_finishWord : ByteArray := prog_2_method_33_code
def yX0_finishWord : MethodName := ⟨RX0, "finishWord", "(I)V"⟩
abbrev cX0_passWord : ByteArray := prog_2_method_34_code
def yX0_passWord : MethodName := ⟨RX0, "passWord", "()V"⟩
abbrev cX0_passReference : ByteArray := prog_2_method_35_code
def yX0_passReference : MethodName := ⟨RX0, "passReference", "()V"⟩
abbrev cX0_isModifierAt : ByteArray := prog_2_method_36_code
def yX0_isModifierAt : MethodName := ⟨RX0, "isModifierAt", "(I)Z"⟩
abbrev cX0_refer : ByteArray := prog_2_method_37_code
def yX0_refer : MethodName := ⟨RX0, "refer", "(III)I"⟩
abbrev cX0_inPage : ByteArray := prog_2_method_38_code
def yX0_inPage : MethodName := ⟨RX0, "inPage", "(I)I"⟩
def RX1 : String := "ShareEight$Channel"
def TX1 : u_T := fun k => match k with
  | 0 => ("ShareEight$Channel", "task", "I", false)
  | 1 => ("ShareEight$Channel", "user", "LShareEight$User;", false)
  | 2 => ("ShareEight$Channel", "slot", "LShareEight$Slot;", false)
  | 3 => ("ShareEight$Channel", "moved", "I", false)
  | 4 => ("ShareEight$Channel", "lastWasBlock", "Z", false)
  | 5 => ("ShareEight$Channel", "insDone", "I", false)
  | 6 => ("ShareEight$Channel", "outsDone", "I", false)
  | _ => ("ShareEight$Channel", "blocksDone", "I", false)
def tyX1 : Nat → FieldType := fun k => match k with
  | 0 => .int
  | 1 => .object "ShareEight$User"
  | 2 => .object "ShareEight$Slot"
  | 3 => .int
  | 4 => .boolean
  | 5 => .int
  | 6 => .int
  | _ => .int
abbrev wsX10 : List Cond := u_ws RX1 TX1 8
theorem nmX1 : ∀ a, a < 8 → ∀ b, b < 8 → a ≠ b → (TX1 a).2.1 ≠ (TX1 b).2.1 := by decide +kernel
theorem tyX1_ok : ∀ k, k < 8 → parseFieldDescriptor (TX1 k).2.2.1 = some (tyX1 k) := by decide +kernel
abbrev cX1_init : ByteArray := prog_3_method_1_code
def yX1_init : MethodName := ⟨RX1, "<init>", "()V"⟩
abbrev cX1_isIdle : ByteArray := prog_3_method_2_code
def yX1_isIdle : MethodName := ⟨RX1, "isIdle", "()Z"⟩
abbrev cX1_isMoving : ByteArray := prog_3_method_3_code
def yX1_isMoving : MethodName := ⟨RX1, "isMoving", "(LShareEight$User;)Z"⟩
abbrev cX1_isTakingOut : ByteArray := prog_3_method_4_code
def yX1_isTakingOut : MethodName := ⟨RX1, "isTakingOut", "(LShareEight$User;)Z"⟩
abbrev cX1_start : ByteArray := prog_3_method_5_code
def yX1_start : MethodName := ⟨RX1, "start", "(ILShareEight$User;LShareEight$Slot;)V"⟩
abbrev cX1_clear : ByteArray := prog_3_method_6_code
def yX1_clear : MethodName := ⟨RX1, "clear", "()V"⟩
abbrev cX1_advance : ByteArray := prog_3_method_7_code
def yX1_advance : MethodName := ⟨RX1, "advance", "()Z"⟩
abbrev cX1_copyStep : ByteArray := prog_3_method_8_code
def yX1_copyStep : MethodName := ⟨RX1, "copyStep", "([I[I)V"⟩
abbrev cX1_moveBlockStep : ByteArray := prog_3_method_9_code
def yX1_moveBlockStep : MethodName := ⟨RX1, "moveBlockStep", "(LShareEight$User;LShareEight$Slot;)V"⟩
abbrev cX1_register : ByteArray := prog_3_method_10_code
def yX1_register : MethodName := ⟨RX1, "register", "(I)I"⟩
def RX2 : String := "ShareEight$House"
def TX2 : u_T := fun k => match k with
  | 0 => ("ShareEight$House", "users", "[LShareEight$User;", true)
  | 1 => ("ShareEight$House", "slots", "[LShareEight$Slot;", true)
  | 2 => ("ShareEight$House", "queue", "LShareEight$Queue;", true)
  | 3 => ("ShareEight$House", "channel", "LShareEight$Channel;", true)
  | 4 => ("ShareEight$House", "machine", "LShareEight$Machine;", true)
  | 5 => ("ShareEight$House", "quantum", "I", true)
  | 6 => ("ShareEight$House", "speed", "I", true)
  | 7 => ("ShareEight$House", "time", "I", false)
  | 8 => ("ShareEight$House", "running", "LShareEight$User;", false)
  | 9 => ("ShareEight$House", "left", "I", false)
  | 10 => ("ShareEight$House", "idle", "I", false)
  | _ => ("ShareEight$House", "done", "I", false)
def tyX2 : Nat → FieldType := fun k => match k with
  | 0 => .array (.object "ShareEight$User")
  | 1 => .array (.object "ShareEight$Slot")
  | 2 => .object "ShareEight$Queue"
  | 3 => .object "ShareEight$Channel"
  | 4 => .object "ShareEight$Machine"
  | 5 => .int
  | 6 => .int
  | 7 => .int
  | 8 => .object "ShareEight$User"
  | 9 => .int
  | 10 => .int
  | _ => .int
abbrev wsX20 : List Cond := u_ws RX2 TX2 12
theorem nmX2 : ∀ a, a < 12 → ∀ b, b < 12 → a ≠ b → (TX2 a).2.1 ≠ (TX2 b).2.1 := by decide +kernel
theorem tyX2_ok : ∀ k, k < 12 → parseFieldDescriptor (TX2 k).2.2.1 = some (tyX2 k) := by decide +kernel
abbrev cX2_init : ByteArray := prog_4_method_1_code
def yX2_init : MethodName := ⟨RX2, "<init>", "(IIII)V"⟩
abbrev cX2_userAt : ByteArray := prog_4_method_2_code
def yX2_userAt : MethodName := ⟨RX2, "userAt", "(I)LShareEight$User;"⟩
abbrev cX2_slotAt : ByteArray := prog_4_method_3_code
def yX2_slotAt : MethodName := ⟨RX2, "slotAt", "(I)LShareEight$Slot;"⟩
abbrev cX2_mayChange : ByteArray := prog_4_method_4_code
def yX2_mayChange : MethodName := ⟨RX2, "mayChange", "(LShareEight$User;)Z"⟩
abbrev cX2_load : ByteArray := prog_4_method_5_code
def yX2_load : MethodName := ⟨RX2, "load", "(LShareEight$User;LShareEight$Sheet;)V"⟩
abbrev cX2_makeReady : ByteArray := prog_4_method_6_code
def yX2_makeReady : MethodName := ⟨RX2, "makeReady", "(LShareEight$User;)V"⟩
abbrev cX2_stop : ByteArray := prog_4_method_7_code
def yX2_stop : MethodName := ⟨RX2, "stop", "(LShareEight$User;)V"⟩
abbrev cX2_press : ByteArray := prog_4_method_8_code
def yX2_press : MethodName := ⟨RX2, "press", "(LShareEight$User;I)Z"⟩
abbrev cX2_tick : ByteArray := prog_4_method_9_code
def yX2_tick : MethodName := ⟨RX2, "tick", "()V"⟩
abbrev cX2_attend : ByteArray := prog_4_method_10_code
def yX2_attend : MethodName := ⟨RX2, "attend", "(LShareEight$User;)V"⟩
abbrev cX2_finishTask : ByteArray := prog_4_method_11_code
def yX2_finishTask : MethodName := ⟨RX2, "finishTask", "(LShareEight$User;LShareEight$Slot;)V"⟩
abbrev cX2_finishBlock : ByteArray := prog_4_method_12_code
def yX2_finishBlock : MethodName := ⟨RX2, "finishBlock", "(LShareEight$User;LShareEight$Slot;)V"⟩
abbrev cX2_lookForTask : ByteArray := prog_4_method_13_code
def yX2_lookForTask : MethodName := ⟨RX2, "lookForTask", "()V"⟩
abbrev cX2_serveBlocks : ByteArray := prog_4_method_14_code
def yX2_serveBlocks : MethodName := ⟨RX2, "serveBlocks", "()Z"⟩
abbrev cX2_serveQueue : ByteArray := prog_4_method_15_code
def yX2_serveQueue : MethodName := ⟨RX2, "serveQueue", "()Z"⟩
abbrev cX2_firstWithoutSlot : ByteArray := prog_4_method_16_code
def yX2_firstWithoutSlot : MethodName := ⟨RX2, "firstWithoutSlot", "()LShareEight$User;"⟩
abbrev cX2_freeSlot : ByteArray := prog_4_method_17_code
def yX2_freeSlot : MethodName := ⟨RX2, "freeSlot", "()LShareEight$Slot;"⟩
abbrev cX2_slotToClear : ByteArray := prog_4_method_18_code
def yX2_slotToClear : MethodName := ⟨RX2, "slotToClear", "()LShareEight$Slot;"⟩
abbrev cX2_process : ByteArray := prog_4_method_19_code
def yX2_process : MethodName := ⟨RX2, "process", "()V"⟩
abbrev cX2_chooseRunning : ByteArray := prog_4_method_20_code
def yX2_chooseRunning : MethodName := ⟨RX2, "chooseRunning", "()V"⟩
abbrev cX2_endTurn : ByteArray := prog_4_method_21_code
def yX2_endTurn : MethodName := ⟨RX2, "endTurn", "(LShareEight$User;)V"⟩
abbrev cX2_endQuantum : ByteArray := prog_4_method_22_code
def yX2_endQuantum : MethodName := ⟨RX2, "endQuantum", "(LShareEight$User;)V"⟩
def RX3 : String := "ShareEight$Machine"
def TX3 : u_T := fun k => match k with
  | 0 => ("ShareEight$Machine", "time", "I", false)
  | _ => ("ShareEight$Machine", "at", "I", false)
def tyX3 : Nat → FieldType := fun k => match k with
  | 0 => .int
  | _ => .int
abbrev wsX30 : List Cond := u_ws RX3 TX3 2
theorem nmX3 : ∀ a, a < 2 → ∀ b, b < 2 → a ≠ b → (TX3 a).2.1 ≠ (TX3 b).2.1 := by decide +kernel
theorem tyX3_ok : ∀ k, k < 2 → parseFieldDescriptor (TX3 k).2.2.1 = some (tyX3 k) := by decide +kernel
abbrev cX3_init : ByteArray := prog_5_method_1_code
def yX3_init : MethodName := ⟨RX3, "<init>", "()V"⟩
abbrev cX3_step : ByteArray := prog_5_method_2_code
def yX3_step : MethodName := ⟨RX3, "step", "(LShareEight$User;LShareEight$Slot;I)Z"⟩
abbrev cX3_addressOf : ByteArray := prog_5_method_3_code
def yX3_addressOf : MethodName := ⟨RX3, "addressOf", "(LShareEight$Slot;I)I"⟩
abbrev cX3_refer : ByteArray := prog_5_method_4_code
def yX3_refer : MethodName := ⟨RX3, "refer", "(LShareEight$User;LShareEight$Slot;II)V"⟩
abbrev cX3_skipIf : ByteArray := prog_5_method_5_code
def yX3_skipIf : MethodName := ⟨RX3, "skipIf", "(LShareEight$User;Z)V"⟩
abbrev cX3_operate : ByteArray := prog_5_method_6_code
def yX3_operate : MethodName := ⟨RX3, "operate", "(LShareEight$User;I)V"⟩
abbrev cX3_both : ByteArray := prog_5_method_7_code
def yX3_both : MethodName := ⟨RX3, "both", "(LShareEight$User;)I"⟩
abbrev cX3_setBoth : ByteArray := prog_5_method_8_code
def yX3_setBoth : MethodName := ⟨RX3, "setBoth", "(LShareEight$User;I)V"⟩
abbrev cX3_turn : ByteArray := prog_5_method_9_code
def yX3_turn : MethodName := ⟨RX3, "turn", "(LShareEight$User;I)V"⟩
abbrev cX3_skipOrStop : ByteArray := prog_5_method_10_code
def yX3_skipOrStop : MethodName := ⟨RX3, "skipOrStop", "(LShareEight$User;I)V"⟩
abbrev cX3_extend : ByteArray := prog_5_method_11_code
def yX3_extend : MethodName := ⟨RX3, "extend", "(LShareEight$User;LShareEight$Slot;I)Z"⟩
abbrev cX3_reckon : ByteArray := prog_5_method_12_code
def yX3_reckon : MethodName := ⟨RX3, "reckon", "(LShareEight$User;II)V"⟩
abbrev cX3_setLong : ByteArray := prog_5_method_13_code
def yX3_setLong : MethodName := ⟨RX3, "setLong", "(LShareEight$User;I)V"⟩
abbrev cX3_divide : ByteArray := prog_5_method_14_code
def yX3_divide : MethodName := ⟨RX3, "divide", "(LShareEight$User;I)V"⟩
abbrev cX3_shift : ByteArray := prog_5_method_15_code
def yX3_shift : MethodName := ⟨RX3, "shift", "(LShareEight$User;II)V"⟩
abbrev cX3_goWrong : ByteArray := prog_5_method_16_code
def yX3_goWrong : MethodName := ⟨RX3, "goWrong", "(LShareEight$User;)Z"⟩
abbrev cX3_waitFor : ByteArray := prog_5_method_17_code
def yX3_waitFor : MethodName := ⟨RX3, "waitFor", "(LShareEight$User;I)Z"⟩
abbrev cX3_callMonitor : ByteArray := prog_5_method_18_code
def yX3_callMonitor : MethodName := ⟨RX3, "callMonitor", "(LShareEight$User;I)Z"⟩
abbrev cX3_readKey : ByteArray := prog_5_method_19_code
def yX3_readKey : MethodName := ⟨RX3, "readKey", "(LShareEight$User;Z)Z"⟩
abbrev cX3_sendLetter : ByteArray := prog_5_method_20_code
def yX3_sendLetter : MethodName := ⟨RX3, "sendLetter", "(LShareEight$User;)Z"⟩
abbrev cX3_fallAsleep : ByteArray := prog_5_method_21_code
def yX3_fallAsleep : MethodName := ⟨RX3, "fallAsleep", "(LShareEight$User;)V"⟩
def RX4 : String := "ShareEight$Names"
def TX4 : u_T := fun k => match k with
  | 0 => ("ShareEight$Names", "letters", "[J", true)
  | 1 => ("ShareEight$Names", "values", "[I", true)
  | 2 => ("ShareEight$Names", "tellings", "[I", true)
  | 3 => ("ShareEight$Names", "count", "I", false)
  | _ => ("ShareEight$Names", "toldCount", "I", false)
def tyX4 : Nat → FieldType := fun k => match k with
  | 0 => .array .long
  | 1 => .array .int
  | 2 => .array .int
  | 3 => .int
  | _ => .int
abbrev wsX40 : List Cond := u_ws RX4 TX4 5
theorem nmX4 : ∀ a, a < 5 → ∀ b, b < 5 → a ≠ b → (TX4 a).2.1 ≠ (TX4 b).2.1 := by decide +kernel
theorem tyX4_ok : ∀ k, k < 5 → parseFieldDescriptor (TX4 k).2.2.1 = some (tyX4 k) := by decide +kernel
abbrev cX4_init : ByteArray := prog_6_method_1_code
def yX4_init : MethodName := ⟨RX4, "<init>", "()V"⟩
abbrev cX4_withLetter : ByteArray := prog_6_method_2_code
def yX4_withLetter : MethodName := ⟨RX4, "withLetter", "(JI)J"⟩
abbrev cX4_forget : ByteArray := prog_6_method_3_code
def yX4_forget : MethodName := ⟨RX4, "forget", "()V"⟩
abbrev cX4_numberOf : ByteArray := prog_6_method_4_code
def yX4_numberOf : MethodName := ⟨RX4, "numberOf", "(J)I"⟩
abbrev cX4_tellingOf : ByteArray := prog_6_method_5_code
def yX4_tellingOf : MethodName := ⟨RX4, "tellingOf", "(I)I"⟩
abbrev cX4_valueOf : ByteArray := prog_6_method_6_code
def yX4_valueOf : MethodName := ⟨RX4, "valueOf", "(I)I"⟩
abbrev cX4_tell : ByteArray := prog_6_method_7_code
def yX4_tell : MethodName := ⟨RX4, "tell", "(III)V"⟩
def RX5 : String := "ShareEight$Queue"
def TX5 : u_T := fun k => match k with
  | 0 => ("ShareEight$Queue", "items", "[LShareEight$User;", true)
  | _ => ("ShareEight$Queue", "size", "I", false)
def tyX5 : Nat → FieldType := fun k => match k with
  | 0 => .array (.object "ShareEight$User")
  | _ => .int
abbrev wsX50 : List Cond := u_ws RX5 TX5 2
theorem nmX5 : ∀ a, a < 2 → ∀ b, b < 2 → a ≠ b → (TX5 a).2.1 ≠ (TX5 b).2.1 := by decide +kernel
theorem tyX5_ok : ∀ k, k < 2 → parseFieldDescriptor (TX5 k).2.2.1 = some (tyX5 k) := by decide +kernel
abbrev cX5_init : ByteArray := prog_7_method_1_code
def yX5_init : MethodName := ⟨RX5, "<init>", "(I)V"⟩
abbrev cX5_at : ByteArray := prog_7_method_2_code
def yX5_at : MethodName := ⟨RX5, "at", "(I)LShareEight$User;"⟩
abbrev cX5_append : ByteArray := prog_7_method_3_code
def yX5_append : MethodName := ⟨RX5, "append", "(LShareEight$User;)V"⟩
abbrev cX5_placeOf : ByteArray := prog_7_method_4_code
def yX5_placeOf : MethodName := ⟨RX5, "placeOf", "(LShareEight$User;)I"⟩
abbrev cX5_remove : ByteArray := prog_7_method_5_code
def yX5_remove : MethodName := ⟨RX5, "remove", "(LShareEight$User;)V"⟩
def RX6 : String := "ShareEight$Row"
def TX6 : u_T := fun k => match k with
  | 0 => ("ShareEight$Row", "items", "[I", true)
  | 1 => ("ShareEight$Row", "first", "I", false)
  | _ => ("ShareEight$Row", "size", "I", false)
def tyX6 : Nat → FieldType := fun k => match k with
  | 0 => .array .int
  | 1 => .int
  | _ => .int
abbrev wsX60 : List Cond := u_ws RX6 TX6 3
theorem nmX6 : ∀ a, a < 3 → ∀ b, b < 3 → a ≠ b → (TX6 a).2.1 ≠ (TX6 b).2.1 := by decide +kernel
theorem tyX6_ok : ∀ k, k < 3 → parseFieldDescriptor (TX6 k).2.2.1 = some (tyX6 k) := by decide +kernel
abbrev cX6_init : ByteArray := prog_8_method_1_code
def yX6_init : MethodName := ⟨RX6, "<init>", "()V"⟩
abbrev cX6_isFull : ByteArray := prog_8_method_2_code
def yX6_isFull : MethodName := ⟨RX6, "isFull", "()Z"⟩
abbrev cX6_isEmpty : ByteArray := prog_8_method_3_code
def yX6_isEmpty : MethodName := ⟨RX6, "isEmpty", "()Z"⟩
abbrev cX6_append : ByteArray := prog_8_method_4_code
def yX6_append : MethodName := ⟨RX6, "append", "(I)V"⟩
abbrev cX6_head : ByteArray := prog_8_method_5_code
def yX6_head : MethodName := ⟨RX6, "head", "()I"⟩
abbrev cX6_drop : ByteArray := prog_8_method_6_code
def yX6_drop : MethodName := ⟨RX6, "drop", "()V"⟩
def RX7 : String := "ShareEight$Sheet"
def TX7 : u_T := fun k => match k with
  | 0 => ("ShareEight$Sheet", "cells", "[I", true)
  | _ => ("ShareEight$Sheet", "count", "I", false)
def tyX7 : Nat → FieldType := fun k => match k with
  | 0 => .array .int
  | _ => .int
abbrev wsX70 : List Cond := u_ws RX7 TX7 2
theorem nmX7 : ∀ a, a < 2 → ∀ b, b < 2 → a ≠ b → (TX7 a).2.1 ≠ (TX7 b).2.1 := by decide +kernel
theorem tyX7_ok : ∀ k, k < 2 → parseFieldDescriptor (TX7 k).2.2.1 = some (tyX7 k) := by decide +kernel
abbrev cX7_init : ByteArray := prog_9_method_1_code
def yX7_init : MethodName := ⟨RX7, "<init>", "()V"⟩
abbrev cX7_clear : ByteArray := prog_9_method_2_code
def yX7_clear : MethodName := ⟨RX7, "clear", "()V"⟩
abbrev cX7_at : ByteArray := prog_9_method_3_code
def yX7_at : MethodName := ⟨RX7, "at", "(I)I"⟩
abbrev cX7_copyTo : ByteArray := prog_9_method_4_code
def yX7_copyTo : MethodName := ⟨RX7, "copyTo", "([I)V"⟩
abbrev cX7_hasLiteral : ByteArray := prog_9_method_5_code
def yX7_hasLiteral : MethodName := ⟨RX7, "hasLiteral", "(II)Z"⟩
abbrev cX7_lay : ByteArray := prog_9_method_6_code
def yX7_lay : MethodName := ⟨RX7, "lay", "(II)V"⟩
abbrev cX7_literalPlace : ByteArray := prog_9_method_7_code
def yX7_literalPlace : MethodName := ⟨RX7, "literalPlace", "(II)I"⟩
def RX8 : String := "ShareEight$Slot"
def TX8 : u_T := fun k => match k with
  | 0 => ("ShareEight$Slot", "number", "I", true)
  | 1 => ("ShareEight$Slot", "words", "[I", true)
  | 2 => ("ShareEight$Slot", "owner", "LShareEight$User;", false)
  | 3 => ("ShareEight$Slot", "changed", "Z", false)
  | _ => ("ShareEight$Slot", "ran", "Z", false)
def tyX8 : Nat → FieldType := fun k => match k with
  | 0 => .int
  | 1 => .array .int
  | 2 => .object "ShareEight$User"
  | 3 => .boolean
  | _ => .boolean
abbrev wsX80 : List Cond := u_ws RX8 TX8 5
theorem nmX8 : ∀ a, a < 5 → ∀ b, b < 5 → a ≠ b → (TX8 a).2.1 ≠ (TX8 b).2.1 := by decide +kernel
theorem tyX8_ok : ∀ k, k < 5 → parseFieldDescriptor (TX8 k).2.2.1 = some (tyX8 k) := by decide +kernel
abbrev cX8_init : ByteArray := prog_10_method_1_code
def yX8_init : MethodName := ⟨RX8, "<init>", "(I)V"⟩
abbrev cX8_put : ByteArray := prog_10_method_2_code
def yX8_put : MethodName := ⟨RX8, "put", "(II)V"⟩
abbrev cX8_release : ByteArray := prog_10_method_3_code
def yX8_release : MethodName := ⟨RX8, "release", "()V"⟩
abbrev cX8_give : ByteArray := prog_10_method_4_code
def yX8_give : MethodName := ⟨RX8, "give", "(LShareEight$User;)V"⟩
abbrev cX8_register : ByteArray := prog_10_method_5_code
def yX8_register : MethodName := ⟨RX8, "register", "(I)I"⟩
def RX9 : String := "ShareEight$Tokens"
def TX9 : u_T := fun k => match k with
  | 0 => ("ShareEight$Tokens", "names", "LShareEight$Names;", true)
  | 1 => ("ShareEight$Tokens", "kinds", "[I", true)
  | 2 => ("ShareEight$Tokens", "starts", "[I", true)
  | 3 => ("ShareEight$Tokens", "values", "[I", true)
  | 4 => ("ShareEight$Tokens", "others", "[I", true)
  | 5 => ("ShareEight$Tokens", "count", "I", false)
  | 6 => ("ShareEight$Tokens", "bytes", "[I", false)
  | 7 => ("ShareEight$Tokens", "length", "I", false)
  | _ => ("ShareEight$Tokens", "next", "I", false)
def tyX9 : Nat → FieldType := fun k => match k with
  | 0 => .object "ShareEight$Names"
  | 1 => .array .int
  | 2 => .array .int
  | 3 => .array .int
  | 4 => .array .int
  | 5 => .int
  | 6 => .array .int
  | 7 => .int
  | _ => .int
abbrev wsX90 : List Cond := u_ws RX9 TX9 9
theorem nmX9 : ∀ a, a < 9 → ∀ b, b < 9 → a ≠ b → (TX9 a).2.1 ≠ (TX9 b).2.1 := by decide +kernel
theorem tyX9_ok : ∀ k, k < 9 → parseFieldDescriptor (TX9 k).2.2.1 = some (tyX9 k) := by decide +kernel
abbrev cX9_init : ByteArray := prog_11_method_1_code
def yX9_init : MethodName := ⟨RX9, "<init>", "(LShareEight$Names;)V"⟩
abbrev cX9_scan : ByteArray := prog_11_method_2_code
def yX9_scan : MethodName := ⟨RX9, "scan", "([II)V"⟩
abbrev cX9_byteAt : ByteArray := prog_11_method_3_code
def yX9_byteAt : MethodName := ⟨RX9, "byteAt", "(I)I"⟩
abbrev cX9_valueOf : ByteArray := prog_11_method_4_code
def yX9_valueOf : MethodName := ⟨RX9, "valueOf", "(I)I"⟩
abbrev cX9_otherOf : ByteArray := prog_11_method_5_code
def yX9_otherOf : MethodName := ⟨RX9, "otherOf", "(I)I"⟩
abbrev cX9_skipBlanks : ByteArray := prog_11_method_6_code
def yX9_skipBlanks : MethodName := ⟨RX9, "skipBlanks", "(I)I"⟩
abbrev cX9_skipRemark : ByteArray := prog_11_method_7_code
def yX9_skipRemark : MethodName := ⟨RX9, "skipRemark", "()V"⟩
abbrev cX9_scanToken : ByteArray := prog_11_method_8_code
def yX9_scanToken : MethodName := ⟨RX9, "scanToken", "()I"⟩
abbrev cX9_append : ByteArray := prog_11_method_9_code
def yX9_append : MethodName := ⟨RX9, "append", "(IIII)I"⟩
abbrev cX9_scanName : ByteArray := prog_11_method_10_code
def yX9_scanName : MethodName := ⟨RX9, "scanName", "()I"⟩
abbrev cX9_scanText : ByteArray := prog_11_method_11_code
def yX9_scanText : MethodName := ⟨RX9, "scanText", "(II)I"⟩
abbrev cX9_scanNumber : ByteArray := prog_11_method_12_code
def yX9_scanNumber : MethodName := ⟨RX9, "scanNumber", "()I"⟩
abbrev cX9_isLetter : ByteArray := prog_11_method_13_code
def yX9_isLetter : MethodName := ⟨RX9, "isLetter", "(I)Z"⟩
abbrev cX9_isDigit : ByteArray := prog_11_method_14_code
def yX9_isDigit : MethodName := ⟨RX9, "isDigit", "(I)Z"⟩
abbrev cX9_isPlain : ByteArray := prog_11_method_15_code
def yX9_isPlain : MethodName := ⟨RX9, "isPlain", "(I)Z"⟩
def RX10 : String := "ShareEight$User"
def TX10 : u_T := fun k => match k with
  | 0 => ("ShareEight$User", "number", "I", true)
  | 1 => ("ShareEight$User", "drum", "[I", true)
  | 2 => ("ShareEight$User", "file", "[I", true)
  | 3 => ("ShareEight$User", "paper", "[I", true)
  | 4 => ("ShareEight$User", "keys", "LShareEight$Row;", true)
  | 5 => ("ShareEight$User", "out", "LShareEight$Row;", true)
  | 6 => ("ShareEight$User", "printed", "I", false)
  | 7 => ("ShareEight$User", "mayPrintAt", "I", false)
  | 8 => ("ShareEight$User", "state", "I", false)
  | 9 => ("ShareEight$User", "pc", "I", false)
  | 10 => ("ShareEight$User", "ac", "I", false)
  | 11 => ("ShareEight$User", "link", "I", false)
  | 12 => ("ShareEight$User", "mq", "I", false)
  | 13 => ("ShareEight$User", "switches", "I", false)
  | 14 => ("ShareEight$User", "done", "I", false)
  | 15 => ("ShareEight$User", "lostKeys", "I", false)
  | 16 => ("ShareEight$User", "wakesAt", "I", false)
  | 17 => ("ShareEight$User", "waitsSince", "I", false)
  | 18 => ("ShareEight$User", "blockTask", "I", false)
  | _ => ("ShareEight$User", "slot", "LShareEight$Slot;", false)
def tyX10 : Nat → FieldType := fun k => match k with
  | 0 => .int
  | 1 => .array .int
  | 2 => .array .int
  | 3 => .array .int
  | 4 => .object "ShareEight$Row"
  | 5 => .object "ShareEight$Row"
  | 6 => .int
  | 7 => .int
  | 8 => .int
  | 9 => .int
  | 10 => .int
  | 11 => .int
  | 12 => .int
  | 13 => .int
  | 14 => .int
  | 15 => .int
  | 16 => .int
  | 17 => .int
  | 18 => .int
  | _ => .object "ShareEight$Slot"
abbrev wsX100 : List Cond := u_ws RX10 TX10 20
theorem nmX10 : ∀ a, a < 20 → ∀ b, b < 20 → a ≠ b → (TX10 a).2.1 ≠ (TX10 b).2.1 := by decide +kernel
theorem tyX10_ok : ∀ k, k < 20 → parseFieldDescriptor (TX10 k).2.2.1 = some (tyX10 k) := by decide +kernel
abbrev cX10_init : ByteArray := prog_12_method_1_code
def yX10_init : MethodName := ⟨RX10, "<init>", "(I)V"⟩
abbrev cX10_hasStopped : ByteArray := prog_12_method_2_code
def yX10_hasStopped : MethodName := ⟨RX10, "hasStopped", "()Z"⟩
abbrev cX10_mayBeHalted : ByteArray := prog_12_method_3_code
def yX10_mayBeHalted : MethodName := ⟨RX10, "mayBeHalted", "()Z"⟩
abbrev cX10_fetch : ByteArray := prog_12_method_4_code
def yX10_fetch : MethodName := ⟨RX10, "fetch", "(I)I"⟩
abbrev cX10_store : ByteArray := prog_12_method_5_code
def yX10_store : MethodName := ⟨RX10, "store", "(II)V"⟩
abbrev cX10_clearRegisters : ByteArray := prog_12_method_6_code
def yX10_clearRegisters : MethodName := ⟨RX10, "clearRegisters", "()V"⟩
abbrev cX10_print : ByteArray := prog_12_method_7_code
def yX10_print : MethodName := ⟨RX10, "print", "()V"⟩
abbrev cX10_letterOnPaper : ByteArray := prog_12_method_8_code
def yX10_letterOnPaper : MethodName := ⟨RX10, "letterOnPaper", "(I)I"⟩
abbrev cX10_register : ByteArray := prog_12_method_9_code
def yX10_register : MethodName := ⟨RX10, "register", "(I)I"⟩
def RX11 : String := "ShareEight"
def TX11 : u_T := fun k => match k with
  | 0 => ("ShareEight", "tape", "[I", true)
  | 1 => ("ShareEight", "tapeLength", "I", false)
  | 2 => ("ShareEight", "assembler", "LShareEight$Assembler;", true)
  | _ => ("ShareEight", "house", "LShareEight$House;", true)
def tyX11 : Nat → FieldType := fun k => match k with
  | 0 => .array .int
  | 1 => .int
  | 2 => .object "ShareEight$Assembler"
  | _ => .object "ShareEight$House"
abbrev wsX110 : List Cond := u_ws RX11 TX11 4
theorem nmX11 : ∀ a, a < 4 → ∀ b, b < 4 → a ≠ b → (TX11 a).2.1 ≠ (TX11 b).2.1 := by decide +kernel
theorem tyX11_ok : ∀ k, k < 4 → parseFieldDescriptor (TX11 k).2.2.1 = some (tyX11 k) := by decide +kernel
abbrev cX11_init : ByteArray := prog_1_method_1_code
def yX11_init : MethodName := ⟨RX11, "<init>", "(IIII)V"⟩
abbrev cX11_nearest : ByteArray := prog_1_method_2_code
def yX11_nearest : MethodName := ⟨RX11, "nearest", "(II)I"⟩
abbrev cX11_isWord : ByteArray := prog_1_method_3_code
def yX11_isWord : MethodName := ⟨RX11, "isWord", "(I)Z"⟩
abbrev cX11_feed : ByteArray := prog_1_method_4_code
def yX11_feed : MethodName := ⟨RX11, "feed", "(IIIII)I"⟩
abbrev cX11_feedFour : ByteArray := prog_1_method_5_code
def yX11_feedFour : MethodName := ⟨RX11, "feedFour", "(I)V"⟩
abbrev cX11_end : ByteArray := prog_1_method_6_code
def yX11_end : MethodName := ⟨RX11, "end", "(I)Z"⟩
abbrev cX11_assemble : ByteArray := prog_1_method_7_code
def yX11_assemble : MethodName := ⟨RX11, "assemble", "()I"⟩
abbrev cX11_fault : ByteArray := prog_1_method_8_code
def yX11_fault : MethodName := ⟨RX11, "fault", "(I)I"⟩
abbrev cX11_made : ByteArray := prog_1_method_9_code
def yX11_made : MethodName := ⟨RX11, "made", "(I)I"⟩
abbrev cX11_mount : ByteArray := prog_1_method_10_code
def yX11_mount : MethodName := ⟨RX11, "mount", "(I)Z"⟩
abbrev cX11_begin : ByteArray := prog_1_method_11_code
def yX11_begin : MethodName := ⟨RX11, "begin", "(II)Z"⟩
abbrev cX11_halt : ByteArray := prog_1_method_12_code
def yX11_halt : MethodName := ⟨RX11, "halt", "(I)Z"⟩
abbrev cX11_key : ByteArray := prog_1_method_13_code
def yX11_key : MethodName := ⟨RX11, "key", "(II)Z"⟩
abbrev cX11_set : ByteArray := prog_1_method_14_code
def yX11_set : MethodName := ⟨RX11, "set", "(II)Z"⟩
abbrev cX11_deposit : ByteArray := prog_1_method_15_code
def yX11_deposit : MethodName := ⟨RX11, "deposit", "(III)Z"⟩
abbrev cX11_run : ByteArray := prog_1_method_16_code
def yX11_run : MethodName := ⟨RX11, "run", "(I)I"⟩
abbrev cX11_user : ByteArray := prog_1_method_17_code
def yX11_user : MethodName := ⟨RX11, "user", "(II)I"⟩
abbrev cX11_look : ByteArray := prog_1_method_18_code
def yX11_look : MethodName := ⟨RX11, "look", "(I)I"⟩
abbrev cX11_word : ByteArray := prog_1_method_19_code
def yX11_word : MethodName := ⟨RX11, "word", "(II)I"⟩
abbrev cX11_core : ByteArray := prog_1_method_20_code
def yX11_core : MethodName := ⟨RX11, "core", "(II)I"⟩
abbrev cX11_drum : ByteArray := prog_1_method_21_code
def yX11_drum : MethodName := ⟨RX11, "drum", "(II)I"⟩
abbrev cX11_slot : ByteArray := prog_1_method_22_code
def yX11_slot : MethodName := ⟨RX11, "slot", "(II)I"⟩
abbrev cX11_block : ByteArray := prog_1_method_23_code
def yX11_block : MethodName := ⟨RX11, "block", "(III)I"⟩
abbrev cX11_paper : ByteArray := prog_1_method_24_code
def yX11_paper : MethodName := ⟨RX11, "paper", "(II)I"⟩
def RX12 : String := "ShareEightModel"
def TX12 : u_T := fun k => match k with
  | 0 => ("ShareEightModel", "tape", "[I", true)
  | 1 => ("ShareEightModel", "taped", "I", false)
  | 2 => ("ShareEightModel", "text", "[I", true)
  | 3 => ("ShareEightModel", "size", "I", false)
  | 4 => ("ShareEightModel", "pos", "I", false)
  | 5 => ("ShareEightModel", "fault", "I", false)
  | 6 => ("ShareEightModel", "faultAt", "I", false)
  | 7 => ("ShareEightModel", "seenFault", "I", false)
  | 8 => ("ShareEightModel", "seenAt", "I", false)
  | 9 => ("ShareEightModel", "second", "Z", false)
  | 10 => ("ShareEightModel", "radix", "I", false)
  | 11 => ("ShareEightModel", "place", "I", false)
  | 12 => ("ShareEightModel", "kind", "I", false)
  | 13 => ("ShareEightModel", "from", "I", false)
  | 14 => ("ShareEightModel", "value", "I", false)
  | 15 => ("ShareEightModel", "nameSize", "I", false)
  | 16 => ("ShareEightModel", "till", "I", false)
  | 17 => ("ShareEightModel", "toldName", "[I", true)
  | 18 => ("ShareEightModel", "toldSize", "[I", true)
  | 19 => ("ShareEightModel", "toldValue", "[I", true)
  | 20 => ("ShareEightModel", "byComma", "[Z", true)
  | 21 => ("ShareEightModel", "told", "I", false)
  | 22 => ("ShareEightModel", "words", "[I", true)
  | 23 => ("ShareEightModel", "isText", "[Z", true)
  | 24 => ("ShareEightModel", "isLiteral", "[Z", true)
  | 25 => ("ShareEightModel", "made", "[I", true)
  | 26 => ("ShareEightModel", "lowest", "[I", true)
  | 27 => ("ShareEightModel", "statement", "I", false)
  | 28 => ("ShareEightModel", "ended", "Z", false)
  | 29 => ("ShareEightModel", "must", "Z", false)
  | 30 => ("ShareEightModel", "alone", "I", false)
  | 31 => ("ShareEightModel", "users", "I", true)
  | 32 => ("ShareEightModel", "slots", "I", true)
  | 33 => ("ShareEightModel", "quantum", "I", true)
  | 34 => ("ShareEightModel", "speed", "I", true)
  | 35 => ("ShareEightModel", "core", "[[I", true)
  | 36 => ("ShareEightModel", "drum", "[[I", true)
  | 37 => ("ShareEightModel", "file", "[[I", true)
  | 38 => ("ShareEightModel", "owner", "[I", true)
  | 39 => ("ShareEightModel", "changed", "[Z", true)
  | 40 => ("ShareEightModel", "hasRun", "[Z", true)
  | 41 => ("ShareEightModel", "slotOf", "[I", true)
  | 42 => ("ShareEightModel", "state", "[I", true)
  | 43 => ("ShareEightModel", "ac", "[I", true)
  | 44 => ("ShareEightModel", "mq", "[I", true)
  | 45 => ("ShareEightModel", "pc", "[I", true)
  | 46 => ("ShareEightModel", "link", "[I", true)
  | 47 => ("ShareEightModel", "switches", "[I", true)
  | 48 => ("ShareEightModel", "done", "[I", true)
  | 49 => ("ShareEightModel", "keys", "[[I", true)
  | 50 => ("ShareEightModel", "keyMany", "[I", true)
  | 51 => ("ShareEightModel", "lost", "[I", true)
  | 52 => ("ShareEightModel", "letters", "[[I", true)
  | 53 => ("ShareEightModel", "letterMany", "[I", true)
  | 54 => ("ShareEightModel", "paper", "[[I", true)
  | 55 => ("ShareEightModel", "printed", "[I", true)
  | 56 => ("ShareEightModel", "nextPrint", "[I", true)
  | 57 => ("ShareEightModel", "wakes", "[I", true)
  | 58 => ("ShareEightModel", "since", "[I", true)
  | 59 => ("ShareEightModel", "blockAt", "[I", true)
  | 60 => ("ShareEightModel", "blockWhich", "[I", true)
  | 61 => ("ShareEightModel", "blockWrites", "[Z", true)
  | 62 => ("ShareEightModel", "queue", "[I", true)
  | 63 => ("ShareEightModel", "queued", "I", false)
  | 64 => ("ShareEightModel", "runs", "I", false)
  | 65 => ("ShareEightModel", "left", "I", false)
  | 66 => ("ShareEightModel", "time", "I", false)
  | 67 => ("ShareEightModel", "task", "I", false)
  | 68 => ("ShareEightModel", "taskUser", "I", false)
  | 69 => ("ShareEightModel", "taskSlot", "I", false)
  | 70 => ("ShareEightModel", "moved", "I", false)
  | 71 => ("ShareEightModel", "insDone", "I", false)
  | 72 => ("ShareEightModel", "outsDone", "I", false)
  | 73 => ("ShareEightModel", "blocksDone", "I", false)
  | 74 => ("ShareEightModel", "idle", "I", false)
  | 75 => ("ShareEightModel", "instructions", "I", false)
  | 76 => ("ShareEightModel", "waitNumber", "I", false)
  | 77 => ("ShareEightModel", "wasBlock", "Z", false)
  | _ => ("ShareEightModel", "ir", "I", false)
def tyX12 : Nat → FieldType := fun k => match k with
  | 0 => .array .int
  | 1 => .int
  | 2 => .array .int
  | 3 => .int
  | 4 => .int
  | 5 => .int
  | 6 => .int
  | 7 => .int
  | 8 => .int
  | 9 => .boolean
  | 10 => .int
  | 11 => .int
  | 12 => .int
  | 13 => .int
  | 14 => .int
  | 15 => .int
  | 16 => .int
  | 17 => .array .int
  | 18 => .array .int
  | 19 => .array .int
  | 20 => .array .boolean
  | 21 => .int
  | 22 => .array .int
  | 23 => .array .boolean
  | 24 => .array .boolean
  | 25 => .array .int
  | 26 => .array .int
  | 27 => .int
  | 28 => .boolean
  | 29 => .boolean
  | 30 => .int
  | 31 => .int
  | 32 => .int
  | 33 => .int
  | 34 => .int
  | 35 => .array (.array .int)
  | 36 => .array (.array .int)
  | 37 => .array (.array .int)
  | 38 => .array .int
  | 39 => .array .boolean
  | 40 => .array .boolean
  | 41 => .array .int
  | 42 => .array .int
  | 43 => .array .int
  | 44 => .array .int
  | 45 => .array .int
  | 46 => .array .int
  | 47 => .array .int
  | 48 => .array .int
  | 49 => .array (.array .int)
  | 50 => .array .int
  | 51 => .array .int
  | 52 => .array (.array .int)
  | 53 => .array .int
  | 54 => .array (.array .int)
  | 55 => .array .int
  | 56 => .array .int
  | 57 => .array .int
  | 58 => .array .int
  | 59 => .array .int
  | 60 => .array .int
  | 61 => .array .boolean
  | 62 => .array .int
  | 63 => .int
  | 64 => .int
  | 65 => .int
  | 66 => .int
  | 67 => .int
  | 68 => .int
  | 69 => .int
  | 70 => .int
  | 71 => .int
  | 72 => .int
  | 73 => .int
  | 74 => .int
  | 75 => .int
  | 76 => .int
  | 77 => .boolean
  | _ => .int
abbrev wsX120 : List Cond := u_ws RX12 TX12 79
theorem nmX12 : ∀ a, a < 79 → ∀ b, b < 79 → a ≠ b → (TX12 a).2.1 ≠ (TX12 b).2.1 := by decide +kernel
theorem tyX12_ok : ∀ k, k < 79 → parseFieldDescriptor (TX12 k).2.2.1 = some (tyX12 k) := by decide +kernel
abbrev cX12_in : ByteArray := prog_14_method_2_code
def yX12_in : MethodName := ⟨RX12, "in", "(III)Z"⟩
abbrev cX12_put : ByteArray := prog_14_method_3_code
def yX12_put : MethodName := ⟨RX12, "put", "(I)V"⟩
abbrev cX12_feed : ByteArray := prog_14_method_4_code
def yX12_feed : MethodName := ⟨RX12, "feed", "(IIIII)I"⟩
abbrev cX12_end : ByteArray := prog_14_method_5_code
def yX12_end : MethodName := ⟨RX12, "end", "(I)Z"⟩
abbrev cX12_fails : ByteArray := prog_14_method_6_code
def yX12_fails : MethodName := ⟨RX12, "fails", "(II)V"⟩
abbrev cX12_at : ByteArray := prog_14_method_7_code
def yX12_at : MethodName := ⟨RX12, "at", "(I)I"⟩
abbrev cX12_isLetter : ByteArray := prog_14_method_8_code
def yX12_isLetter : MethodName := ⟨RX12, "isLetter", "(I)Z"⟩
abbrev cX12_isDigit : ByteArray := prog_14_method_9_code
def yX12_isDigit : MethodName := ⟨RX12, "isDigit", "(I)Z"⟩
abbrev cX12_look : ByteArray := prog_14_method_10_code
def yX12_look : MethodName := ⟨RX12, "look", "()V"⟩
abbrev cX12_number : ByteArray := prog_14_method_11_code
def yX12_number : MethodName := ⟨RX12, "number", "(II)V"⟩
abbrev cX12_take : ByteArray := prog_14_method_12_code
def yX12_take : MethodName := ⟨RX12, "take", "()V"⟩
abbrev cX12_isSign : ByteArray := prog_14_method_13_code
def yX12_isSign : MethodName := ⟨RX12, "isSign", "(I)Z"⟩
abbrev cX12_find : ByteArray := prog_14_method_14_code
def yX12_find : MethodName := ⟨RX12, "find", "(Ljava/lang/String;[III)I"⟩
abbrev cX12_findTold : ByteArray := prog_14_method_15_code
def yX12_findTold : MethodName := ⟨RX12, "findTold", "(II)I"⟩
abbrev cX12_tells : ByteArray := prog_14_method_16_code
def yX12_tells : MethodName := ⟨RX12, "tells", "(IIIZ)V"⟩
abbrev cX12_beginsV : ByteArray := prog_14_method_17_code
def yX12_beginsV : MethodName := ⟨RX12, "beginsV", "()Z"⟩
abbrev cX12_part : ByteArray := prog_14_method_18_code
def yX12_part : MethodName := ⟨RX12, "part", "()I"⟩
abbrev cX12_named : ByteArray := prog_14_method_19_code
def yX12_named : MethodName := ⟨RX12, "named", "()I"⟩
abbrev cX12_all : ByteArray := prog_14_method_20_code
def yX12_all : MethodName := ⟨RX12, "all", "()I"⟩
abbrev cX12_pass : ByteArray := prog_14_method_21_code
def yX12_pass : MethodName := ⟨RX12, "pass", "(Z)V"⟩
abbrev cX12_line : ByteArray := prog_14_method_22_code
def yX12_line : MethodName := ⟨RX12, "line", "()V"⟩
abbrev cX12_isNext : ByteArray := prog_14_method_23_code
def yX12_isNext : MethodName := ⟨RX12, "isNext", "(I)Z"⟩
abbrev cX12_labels : ByteArray := prog_14_method_24_code
def yX12_labels : MethodName := ⟨RX12, "labels", "()V"⟩
abbrev cX12_one : ByteArray := prog_14_method_25_code
def yX12_one : MethodName := ⟨RX12, "one", "()V"⟩
abbrev cX12_asked : ByteArray := prog_14_method_26_code
def yX12_asked : MethodName := ⟨RX12, "asked", "()I"⟩
abbrev cX12_told : ByteArray := prog_14_method_27_code
def yX12_told : MethodName := ⟨RX12, "told", "(I)V"⟩
abbrev cX12_again : ByteArray := prog_14_method_28_code
def yX12_again : MethodName := ⟨RX12, "again", "()V"⟩
abbrev cX12_texts : ByteArray := prog_14_method_29_code
def yX12_texts : MethodName := ⟨RX12, "texts", "(I)V"⟩
abbrev cX12_lies : ByteArray := prog_14_method_30_code
def yX12_lies : MethodName := ⟨RX12, "lies", "(I)V"⟩
abbrev cX12_word : ByteArray := prog_14_method_31_code
def yX12_word : MethodName := ⟨RX12, "word", "()V"⟩
abbrev cX12_memory : ByteArray := prog_14_method_32_code
def yX12_memory : MethodName := ⟨RX12, "memory", "(IZII)I"⟩
abbrev cX12_literal : ByteArray := prog_14_method_33_code
def yX12_literal : MethodName := ⟨RX12, "literal", "()I"⟩
abbrev cX12_literalFor : ByteArray := prog_14_method_34_code
def yX12_literalFor : MethodName := ⟨RX12, "literalFor", "(III)I"⟩
abbrev cX12_assemble : ByteArray := prog_14_method_35_code
def yX12_assemble : MethodName := ⟨RX12, "assemble", "()I"⟩
abbrev cX12_fault : ByteArray := prog_14_method_36_code
def yX12_fault : MethodName := ⟨RX12, "fault", "(I)I"⟩
abbrev cX12_made : ByteArray := prog_14_method_37_code
def yX12_made : MethodName := ⟨RX12, "made", "(I)I"⟩
abbrev cX12_near : ByteArray := prog_14_method_38_code
def yX12_near : MethodName := ⟨RX12, "near", "(III)I"⟩
abbrev cX12_init : ByteArray := prog_14_method_39_code
def yX12_init : MethodName := ⟨RX12, "<init>", "(IIII)V"⟩
abbrev cX12_isUser : ByteArray := prog_14_method_40_code
def yX12_isUser : MethodName := ⟨RX12, "isUser", "(I)Z"⟩
abbrev cX12_isWord : ByteArray := prog_14_method_41_code
def yX12_isWord : MethodName := ⟨RX12, "isWord", "(I)Z"⟩
abbrev cX12_becomesReady : ByteArray := prog_14_method_42_code
def yX12_becomesReady : MethodName := ⟨RX12, "becomesReady", "(I)V"⟩
abbrev cX12_leavesQueue : ByteArray := prog_14_method_43_code
def yX12_leavesQueue : MethodName := ⟨RX12, "leavesQueue", "(I)V"⟩
abbrev cX12_rests : ByteArray := prog_14_method_44_code
def yX12_rests : MethodName := ⟨RX12, "rests", "(I)Z"⟩
abbrev cX12_isMoved : ByteArray := prog_14_method_45_code
def yX12_isMoved : MethodName := ⟨RX12, "isMoved", "(I)Z"⟩
abbrev cX12_mount : ByteArray := prog_14_method_46_code
def yX12_mount : MethodName := ⟨RX12, "mount", "(I)Z"⟩
abbrev cX12_nobodys : ByteArray := prog_14_method_47_code
def yX12_nobodys : MethodName := ⟨RX12, "nobodys", "(I)V"⟩
abbrev cX12_begin : ByteArray := prog_14_method_48_code
def yX12_begin : MethodName := ⟨RX12, "begin", "(II)Z"⟩
abbrev cX12_halt : ByteArray := prog_14_method_49_code
def yX12_halt : MethodName := ⟨RX12, "halt", "(I)Z"⟩
abbrev cX12_key : ByteArray := prog_14_method_50_code
def yX12_key : MethodName := ⟨RX12, "key", "(II)Z"⟩
abbrev cX12_set : ByteArray := prog_14_method_51_code
def yX12_set : MethodName := ⟨RX12, "set", "(II)Z"⟩
abbrev cX12_deposit : ByteArray := prog_14_method_52_code
def yX12_deposit : MethodName := ⟨RX12, "deposit", "(III)Z"⟩
abbrev cX12_store : ByteArray := prog_14_method_53_code
def yX12_store : MethodName := ⟨RX12, "store", "(III)V"⟩
abbrev cX12_load : ByteArray := prog_14_method_54_code
def yX12_load : MethodName := ⟨RX12, "load", "(II)I"⟩
abbrev cX12_run : ByteArray := prog_14_method_55_code
def yX12_run : MethodName := ⟨RX12, "run", "(I)I"⟩
abbrev cX12_tick : ByteArray := prog_14_method_56_code
def yX12_tick : MethodName := ⟨RX12, "tick", "()V"⟩
abbrev cX12_clocks : ByteArray := prog_14_method_57_code
def yX12_clocks : MethodName := ⟨RX12, "clocks", "(I)V"⟩
abbrev cX12_moves : ByteArray := prog_14_method_58_code
def yX12_moves : MethodName := ⟨RX12, "moves", "()V"⟩
abbrev cX12_ends : ByteArray := prog_14_method_59_code
def yX12_ends : MethodName := ⟨RX12, "ends", "(I)V"⟩
abbrev cX12_starts : ByteArray := prog_14_method_60_code
def yX12_starts : MethodName := ⟨RX12, "starts", "(III)V"⟩
abbrev cX12_looksFor : ByteArray := prog_14_method_61_code
def yX12_looksFor : MethodName := ⟨RX12, "looksFor", "()V"⟩
abbrev cX12_blocksTask : ByteArray := prog_14_method_62_code
def yX12_blocksTask : MethodName := ⟨RX12, "blocksTask", "()Z"⟩
abbrev cX12_queuesTask : ByteArray := prog_14_method_63_code
def yX12_queuesTask : MethodName := ⟨RX12, "queuesTask", "()Z"⟩
abbrev cX12_given : ByteArray := prog_14_method_64_code
def yX12_given : MethodName := ⟨RX12, "given", "()I"⟩
abbrev cX12_processes : ByteArray := prog_14_method_65_code
def yX12_processes : MethodName := ⟨RX12, "processes", "()V"⟩
abbrev cX12_word_ : ByteArray := prog_14_method_66_code
def yX12_word_ : MethodName := ⟨RX12, "word", "(I)I"⟩
abbrev cX12_step : ByteArray := prog_14_method_67_code
def yX12_step : MethodName := ⟨RX12, "step", "(I)V"⟩
abbrev cX12_isWrong : ByteArray := prog_14_method_68_code
def yX12_isWrong : MethodName := ⟨RX12, "isWrong", "()Z"⟩
abbrev cX12_mustWait : ByteArray := prog_14_method_69_code
def yX12_mustWait : MethodName := ⟨RX12, "mustWait", "(I)Z"⟩
abbrev cX12_memory_ : ByteArray := prog_14_method_70_code
def yX12_memory_ : MethodName := ⟨RX12, "memory", "(III)V"⟩
abbrev cX12_skip : ByteArray := prog_14_method_71_code
def yX12_skip : MethodName := ⟨RX12, "skip", "(I)V"⟩
abbrev cX12_has : ByteArray := prog_14_method_72_code
def yX12_has : MethodName := ⟨RX12, "has", "(I)Z"⟩
abbrev cX12_first : ByteArray := prog_14_method_73_code
def yX12_first : MethodName := ⟨RX12, "first", "(I)V"⟩
abbrev cX12_second : ByteArray := prog_14_method_74_code
def yX12_second : MethodName := ⟨RX12, "second", "(I)V"⟩
abbrev cX12_third : ByteArray := prog_14_method_75_code
def yX12_third : MethodName := ⟨RX12, "third", "(I)V"⟩
abbrev cX12_device : ByteArray := prog_14_method_76_code
def yX12_device : MethodName := ⟨RX12, "device", "(I)Z"⟩
abbrev cX12_goes : ByteArray := prog_14_method_77_code
def yX12_goes : MethodName := ⟨RX12, "goes", "(I)V"⟩
abbrev cX12_user : ByteArray := prog_14_method_78_code
def yX12_user : MethodName := ⟨RX12, "user", "(II)I"⟩
abbrev cX12_look_ : ByteArray := prog_14_method_79_code
def yX12_look_ : MethodName := ⟨RX12, "look", "(I)I"⟩
abbrev cX12_word__ : ByteArray := prog_14_method_80_code
def yX12_word__ : MethodName := ⟨RX12, "word", "(II)I"⟩
abbrev cX12_core : ByteArray := prog_14_method_81_code
def yX12_core : MethodName := ⟨RX12, "core", "(II)I"⟩
abbrev cX12_drum : ByteArray := prog_14_method_82_code
def yX12_drum : MethodName := ⟨RX12, "drum", "(II)I"⟩
abbrev cX12_slot : ByteArray := prog_14_method_83_code
def yX12_slot : MethodName := ⟨RX12, "slot", "(II)I"⟩
abbrev cX12_block : ByteArray := prog_14_method_84_code
def yX12_block : MethodName := ⟨RX12, "block", "(III)I"⟩
abbrev cX12_paper : ByteArray := prog_14_method_85_code
def yX12_paper : MethodName := ⟨RX12, "paper", "(II)I"⟩
def RJ11 : String := "java/lang/Character"
abbrev cJ11_isValidCodePoint_9a6ad : ByteArray := prog_15_method_11_code
def yJ11_isValidCodePoint_9a6ad : MethodName := ⟨RJ11, "isValidCodePoint", "(I)Z"⟩
abbrev cJ11_highSurrogate_5068e : ByteArray := prog_15_method_28_code
def yJ11_highSurrogate_5068e : MethodName := ⟨RJ11, "highSurrogate", "(I)C"⟩
abbrev cJ11_lowSurrogate_5068e : ByteArray := prog_15_method_29_code
def yJ11_lowSurrogate_5068e : MethodName := ⟨RJ11, "lowSurrogate", "(I)C"⟩
def RJ9 : String := "java/lang/Math"
abbrev cJ9_max_7cf53 : ByteArray := prog_16_method_65_code
def yJ9_max_7cf53 : MethodName := ⟨RJ9, "max", "(II)I"⟩
abbrev cJ9_min_7cf53 : ByteArray := prog_16_method_69_code
def yJ9_min_7cf53 : MethodName := ⟨RJ9, "min", "(II)I"⟩
def RJ0 : String := "java/lang/String"
abbrev cJ0_length_8abf5 : ByteArray := prog_17_method_54_code
def yJ0_length_8abf5 : MethodName := ⟨RJ0, "length", "()I"⟩
abbrev cJ0_charAt_5068e : ByteArray := prog_17_method_56_code
def yJ0_charAt_5068e : MethodName := ⟨RJ0, "charAt", "(I)C"⟩
abbrev cJ0_indexOf_0f7a4 : ByteArray := prog_17_method_79_code
def yJ0_indexOf_0f7a4 : MethodName := ⟨RJ0, "indexOf", "(I)I"⟩
abbrev cJ0_indexOf_7cf53 : ByteArray := prog_17_method_80_code
def yJ0_indexOf_7cf53 : MethodName := ⟨RJ0, "indexOf", "(II)I"⟩
abbrev cJ0_coder_7d493 : ByteArray := prog_17_method_152_code
def yJ0_coder_7d493 : MethodName := ⟨RJ0, "coder", "()B"⟩
abbrev cJ0_isLatin1_aae02 : ByteArray := prog_17_method_154_code
def yJ0_isLatin1_aae02 : MethodName := ⟨RJ0, "isLatin1", "()Z"⟩
abbrev cJ0_checkIndex_df160 : ByteArray := prog_17_method_155_code
def yJ0_checkIndex_df160 : MethodName := ⟨RJ0, "checkIndex", "(II)V"⟩
abbrev cJ0_checkBoundsBeginEnd_23922 : ByteArray := prog_17_method_158_code
def yJ0_checkBoundsBeginEnd_23922 : MethodName := ⟨RJ0, "checkBoundsBeginEnd", "(III)V"⟩
def RJ1 : String := "java/lang/StringLatin1"
abbrev cJ1_charAt_3b067 : ByteArray := prog_18_method_2_code
def yJ1_charAt_3b067 : MethodName := ⟨RJ1, "charAt", "([BI)C"⟩
abbrev cJ1_canEncode_9a6ad : ByteArray := prog_18_method_4_code
def yJ1_canEncode_9a6ad : MethodName := ⟨RJ1, "canEncode", "(I)Z"⟩
abbrev cJ1_indexOf_4cfef : ByteArray := prog_18_method_22_code
def yJ1_indexOf_4cfef : MethodName := ⟨RJ1, "indexOf", "([BIII)I"⟩
abbrev cJ1_indexOfChar_4cfef : ByteArray := prog_18_method_23_code
def yJ1_indexOfChar_4cfef : MethodName := ⟨RJ1, "indexOfChar", "([BIII)I"⟩
def RJ2 : String := "java/lang/StringUTF16"
abbrev cJ2_getChar_3b067 : ByteArray := prog_19_method_5_code
def yJ2_getChar_3b067 : MethodName := ⟨RJ2, "getChar", "([BI)C"⟩
abbrev cJ2_length_9d52b : ByteArray := prog_19_method_6_code
def yJ2_length_9d52b : MethodName := ⟨RJ2, "length", "([B)I"⟩
abbrev cJ2_indexOf_4cfef : ByteArray := prog_19_method_40_code
def yJ2_indexOf_4cfef : MethodName := ⟨RJ2, "indexOf", "([BIII)I"⟩
abbrev cJ2_indexOfChar_4cfef : ByteArray := prog_19_method_47_code
def yJ2_indexOfChar_4cfef : MethodName := ⟨RJ2, "indexOfChar", "([BIII)I"⟩
abbrev cJ2_indexOfCharUnsafe_4cfef : ByteArray := prog_19_method_48_code
def yJ2_indexOfCharUnsafe_4cfef : MethodName := ⟨RJ2, "indexOfCharUnsafe", "([BIII)I"⟩
abbrev cJ2_indexOfSupplementary_4cfef : ByteArray := prog_19_method_49_code
def yJ2_indexOfSupplementary_4cfef : MethodName := ⟨RJ2, "indexOfSupplementary", "([BIII)I"⟩
abbrev cJ2_charAt_3b067 : ByteArray := prog_19_method_83_code
def yJ2_charAt_3b067 : MethodName := ⟨RJ2, "charAt", "([BI)C"⟩
abbrev cJ2_checkIndex_2214a : ByteArray := prog_19_method_91_code
def yJ2_checkIndex_2214a : MethodName := ⟨RJ2, "checkIndex", "(I[B)V"⟩
abbrev cJ2_checkBoundsBeginEnd_d044e : ByteArray := prog_19_method_93_code
def yJ2_checkBoundsBeginEnd_d044e : MethodName := ⟨RJ2, "checkBoundsBeginEnd", "(II[B)V"⟩
def RJ10 : String := "java/lang/System"
def RJ7 : String := "java/util/Arrays"
abbrev cJ7_fill_53178 : ByteArray := prog_21_method_103_code
def yJ7_fill_53178 : MethodName := ⟨RJ7, "fill", "([II)V"⟩
def RJ3 : String := "jdk/internal/util/Preconditions"
abbrev cJ3_checkIndex_8e157 : ByteArray := prog_22_method_11_code
def yJ3_checkIndex_8e157 : MethodName := ⟨RJ3, "checkIndex", "(IILjava/util/function/BiFunction;)I"⟩
abbrev cJ3_checkFromToIndex_8c36e : ByteArray := prog_22_method_12_code
def yJ3_checkFromToIndex_8c36e : MethodName := ⟨RJ3, "checkFromToIndex", "(IIILjava/util/function/BiFunction;)I"⟩
def RL : String := "ShareEightLaw"
abbrev cL_cell : ByteArray := method_2_code
def yL_cell : MethodName := ⟨RL, "cell", "([II)I"⟩
abbrev cL_law : ByteArray := code
def yL_law : MethodName := ⟨RL, "law", "([I)Z"⟩
abbrev vwCl : List vw_C := [(RX0, TX0, 11), (RX1, TX1, 8), (RX2, TX2, 12), (RX3, TX3, 2), (RX4, TX4, 5), (RX5, TX5, 2), (RX6, TX6, 3), (RX7, TX7, 2), (RX8, TX8, 5), (RX9, TX9, 9), (RX10, TX10, 20), (RX11, TX11, 4), (RX12, TX12, 79)]
end
section
/-! LAYER 0: an abstract memory whose cells have numbers 0 .. n-1 (cell i lies at address B + i), abstract values, and the judgement V = 'the machine, at this pc with these locals, this stack and this memory, comes to the answer that was promised'. A row an instruction, over the kit's rows. Needs: lw_tbl (PART A), vwCl (names). -/
abbrev AV : Type := Int32 ⊕ Int64 ⊕ Option Nat ⊕ Nat
abbrev aI (x : Int32) : AV := Sum.inl x
abbrev aJ (x : Int64) : AV := Sum.inr (Sum.inl x)
abbrev aR (r : Option Nat) : AV := Sum.inr (Sum.inr (Sum.inl r))
abbrev aX (k : Nat) : AV := Sum.inr (Sum.inr (Sum.inr k))
/-- the base of the made cells; the addresses of the cells that were there (constants); the law's script: its length, its ints -/
abbrev BX : Type := Nat × (Nat → Nat) × Nat × (Nat → Int32)
/-- element types of the arrays, by their tags -/
def arrTys : List FieldType := [.int, .long, .boolean, .array .int, .object "ShareEight$User", .object "ShareEight$Slot"]
def av_v (B : BX) (a : AV) : Value := match a with
  | .inl x => .int x
  | .inr (.inl x) => .long x
  | .inr (.inr (.inl r)) => va_rf (r.map (fun i => B.1 + i))
  | .inr (.inr (.inr k)) => .ref (B.2.1 k)
def av_w (a : AV) : Bool := match a with
  | .inl _ => false
  | .inr (.inl _) => true
  | .inr (.inr _) => false
theorem av_cat (B : BX) (a : AV) : ((av_v B a).category == 2) = av_w a := by
  rcases a with x | x | r | k
  · rfl
  · rfl
  · cases r <;> rfl
  · rfl
theorem av_cat1 (B : BX) (a : AV) (h : av_w a = false) : (av_v B a).category = 1 := by
  rcases a with x | x | r | k
  · rfl
  · cases h
  · cases r <;> rfl
  · rfl
/-- arrays of ints (all small kinds too), of longs, of references -/
abbrev AA : Type := (Nat → Int32) ⊕ (Nat → Int64) ⊕ (Nat → Option Nat)
/-- a cell: an array (place of its type in the list of array types, length, contents), or an object (its class's number, its fields) -/
abbrev ACl : Type := (Nat × Nat × AA) ⊕ (Nat × List AV)
abbrev Mem : Type := Nat × (Nat → ACl)
/-- the base, the classes, the array classes -/
abbrev CG : Type := BX × va_G × List (ClassId × FieldType)
def aa_c (B : BX) (a : AA) : (Nat → Int32) ⊕ (Nat → Int64) ⊕ (Nat → UInt32) ⊕ (Nat → UInt64) ⊕ (Nat → Option Nat) := match a with
  | .inl f => .inl f
  | .inr (.inl f) => .inr (.inl f)
  | .inr (.inr f) => .inr (.inr (.inr (.inr (fun j => (f j).map (fun i => B.1 + i)))))
def ac_c (g : CG) (e : ACl) : va_E := match e with
  | .inl a => .inl ((g.2.2.getD a.1 default).1, a.2.1, aa_c g.1 a.2.2)
  | .inr o => .inr (o.1, o.2.map (av_v g.1))
def hw (g : CG) (μ : Mem) : va_W := (List.range μ.1).map (fun i => (g.1.1 + i, ac_c g (μ.2 i)))
theorem hw_at (g : CG) (μ : Mem) {i : Nat} (h : i < μ.1) : (hw g μ)[i]? = some (g.1.1 + i, ac_c g (μ.2 i)) := by
  simp [hw, List.getElem?_map, List.getElem?_range h]
theorem hw_len (g : CG) (μ : Mem) : (hw g μ).length = μ.1 := by simp [hw]
theorem hw_set (g : CG) (μ : Mem) {i : Nat} (e : ACl) : (hw g μ).set i (g.1.1 + i, ac_c g e) = hw g (μ.1, va_up μ.2 i e) := by
  apply List.ext_getElem?
  intro j
  by_cases hj : j < μ.1
  · rw [hw_at g (μ.1, va_up μ.2 i e) hj, List.getElem?_set]
    by_cases hij : i = j
    · subst hij
      simp [hw_len, hj, va_up]
    · rw [if_neg hij, hw_at g μ hj]
      simp [va_up, Ne.symm hij]
  · rw [List.getElem?_eq_none (by rw [List.length_set, hw_len]; omega), List.getElem?_eq_none (by rw [hw_len]; show μ.1 ≤ j; omega)]
theorem hw_D (g : CG) (μ : Mem) : va_D (fun q => g.1.1 ≤ q) (hw g μ) := by
  refine ⟨fun i j p q hi hj h => ?_, fun k q hk => ?_⟩
  · have h1 : i < μ.1 := by rw [← hw_len g μ]; exact (List.getElem?_eq_some_iff.mp hi).1
    have h2 : j < μ.1 := by rw [← hw_len g μ]; exact (List.getElem?_eq_some_iff.mp hj).1
    rw [hw_at g μ h1] at hi
    rw [hw_at g μ h2] at hj
    cases hi; cases hj
    have : g.1.1 + i = g.1.1 + j := h
    omega
  · have h1 : k < μ.1 := by rw [← hw_len g μ]; exact (List.getElem?_eq_some_iff.mp hk).1
    rw [hw_at g μ h1] at hk
    cases hk
    exact Nat.le_add_right _ _
abbrev Hold (g : CG) (μ : Mem) (H : Heap) : Prop := va_P g.2.1 vwCl (hw g μ) H
-- locals
abbrev LV : Type := List (Nat × AV)
def lvm (B : BX) (lv : LV) : List (Nat × Value) := lv.map (fun q => (q.1, av_v B q.2))
def lvg (lv : LV) (i : Nat) : Option AV := match lv with
  | [] => none
  | q :: t => if q.1 = i then some q.2 else lvg t i
def lvs (lv : LV) (i : Nat) (v : AV) : LV := (i, v) :: lv.filter (fun q => !(q.1 == i) && !(q.1 + 1 == i && av_w q.2))
def lvs2 (lv : LV) (i : Nat) (v : AV) : LV := (i, v) :: lv.filter (fun q => !(q.1 == i) && (!(q.1 == i + 1) && !(q.1 + 1 == i && av_w q.2)))
def lvle (a : LV) (b : LV) : Prop := match a with
  | [] => True
  | q :: t => lvg b q.1 = some q.2 ∧ lvle t b
theorem lvg_mem {lv : LV} {i : Nat} {v : AV} (h : lvg lv i = some v) : (i, v) ∈ lv := by
  induction lv with
  | nil => cases h
  | cons q t ih =>
    unfold lvg at h
    by_cases hq : q.1 = i
    · rw [if_pos hq] at h
      cases h
      rw [← hq]
      exact List.mem_cons_self
    · rw [if_neg hq] at h
      exact List.mem_cons_of_mem _ (ih h)
theorem lvg_at {B : BX} {ls : Array Slot} {nL : Nat} {lv : LV} (h : lv_has ls nL (lvm B lv)) {i : Nat} {v : AV} (hv : lvg lv i = some v) : ls[i]? = some (.val (av_v B v)) :=
  h.2.2 (i, av_v B v) (List.mem_map.mpr ⟨(i, v), lvg_mem hv, rfl⟩)
theorem lvm_le {B : BX} {ls : Array Slot} {nL : Nat} {a b : LV} (h : lv_has ls nL (lvm B b)) (hl : lvle a b) : lv_has ls nL (lvm B a) := by
  refine ⟨h.1, h.2.1, fun q hq => ?_⟩
  obtain ⟨p, hp, rfl⟩ := List.mem_map.mp hq
  have : lvg b p.1 = some p.2 := by
    clear hq
    induction a with
    | nil => cases hp
    | cons c t ih =>
      rcases List.mem_cons.mp hp with rfl | hp
      · exact hl.1
      · exact ih hl.2 hp
  exact lvg_at h this
theorem lvm_s (B : BX) (lv : LV) (i : Nat) (v : AV) : (i, av_v B v) :: (lvm B lv).filter (fun q => !(q.1 == i) && !(q.1 + 1 == i && q.2.category == 2)) = lvm B (lvs lv i v) := by
  simp [lvm, lvs, List.filter_map, Function.comp_def, av_cat]
theorem lvm_s2 (B : BX) (lv : LV) (i : Nat) (v : AV) : (i, av_v B v) :: (lvm B lv).filter (fun q => !(q.1 == i) && (!(q.1 == i + 1) && !(q.1 + 1 == i && q.2.category == 2))) = lvm B (lvs2 lv i v) := by
  simp [lvm, lvs2, List.filter_map, Function.comp_def, av_cat]
end
section
/-! THE CELLS THAT ARE THERE BEFORE: two static arrays, four texts (by program out of the Statement) -/
def x_fv : List Int32 := [0, 0, 0, 0, 0, 0, 512, 1024, 1536, 2048, 2560, 256, 0, 3584, 3712, 3648, 3616, 3600, 3592, 3588, 3594, 3590, 3586, 3585, 3617, 3664, 3904, 3872, 3912, 3880, 3856, 3864, 3848, 3844, 3842, 3857, 3905, 3921, 3845, 3847, 3851, 3853, 3855, 3097, 3098, 3100, 3102, 3105, 3110, 3344, 3343, 3360, 3361]
def x_cd : List Int32 := [0, 512, 1024, 1536, 2048, 2560, 256, 0, 3584, 3712, 3648, 3616, 3600, 3592, 3588, 3594, 3590, 3586, 3585, 3617, 3664, 3904, 3872, 3912, 3880, 3856, 3864, 3848, 3844, 3842, 3857, 3905, 3921, 3845, 3847, 3851, 3853, 3855, 3097, 3098, 3100, 3102, 3105, 3110, 3344, 3343, 3360, 3361]
def x_tx0 : String := "PAGE DECIMAL OCTAL ZBLOCK TEXT AND TAD ISZ DCA JMS JMP I Z NOP CLA CLL CMA CML RAR RAL RTR RTL BSW IAC CIA STL SMA SZA SPA SNA SNL SZL SKP OSR HLT MQL MQA SWP MUY DVI SHL ASR LSR KSF KCC KRS KRB TSF TLS SLEEP WHO RDB WRB "
def x_by0 : List Int32 := [80, 65, 71, 69, 32, 68, 69, 67, 73, 77, 65, 76, 32, 79, 67, 84, 65, 76, 32, 90, 66, 76, 79, 67, 75, 32, 84, 69, 88, 84, 32, 65, 78, 68, 32, 84, 65, 68, 32, 73, 83, 90, 32, 68, 67, 65, 32, 74, 77, 83, 32, 74, 77, 80, 32, 73, 32, 90, 32, 78, 79, 80, 32, 67, 76, 65, 32, 67, 76, 76, 32, 67, 77, 65, 32, 67, 77, 76, 32, 82, 65, 82, 32, 82, 65, 76, 32, 82, 84, 82, 32, 82, 84, 76, 32, 66, 83, 87, 32, 73, 65, 67, 32, 67, 73, 65, 32, 83, 84, 76, 32, 83, 77, 65, 32, 83, 90, 65, 32, 83, 80, 65, 32, 83, 78, 65, 32, 83, 78, 76, 32, 83, 90, 76, 32, 83, 75, 80, 32, 79, 83, 82, 32, 72, 76, 84, 32, 77, 81, 76, 32, 77, 81, 65, 32, 83, 87, 80, 32, 77, 85, 89, 32, 68, 86, 73, 32, 83, 72, 76, 32, 65, 83, 82, 32, 76, 83, 82, 32, 75, 83, 70, 32, 75, 67, 67, 32, 75, 82, 83, 32, 75, 82, 66, 32, 84, 83, 70, 32, 84, 76, 83, 32, 83, 76, 69, 69, 80, 32, 87, 72, 79, 32, 82, 68, 66, 32, 87, 82, 66, 32]
def x_tx1 : String := ",*=+-!&.()[];$"
def x_by1 : List Int32 := [44, 42, 61, 43, 45, 33, 38, 46, 40, 41, 91, 93, 59, 36]
def x_tx2 : String := "AND TAD ISZ DCA JMS JMP I Z NOP CLA CLL CMA CML RAR RAL RTR RTL BSW IAC CIA STL SMA SZA SPA SNA SNL SZL SKP OSR HLT MQL MQA SWP MUY DVI SHL ASR LSR KSF KCC KRS KRB TSF TLS SLEEP WHO RDB WRB "
def x_by2 : List Int32 := [65, 78, 68, 32, 84, 65, 68, 32, 73, 83, 90, 32, 68, 67, 65, 32, 74, 77, 83, 32, 74, 77, 80, 32, 73, 32, 90, 32, 78, 79, 80, 32, 67, 76, 65, 32, 67, 76, 76, 32, 67, 77, 65, 32, 67, 77, 76, 32, 82, 65, 82, 32, 82, 65, 76, 32, 82, 84, 82, 32, 82, 84, 76, 32, 66, 83, 87, 32, 73, 65, 67, 32, 67, 73, 65, 32, 83, 84, 76, 32, 83, 77, 65, 32, 83, 90, 65, 32, 83, 80, 65, 32, 83, 78, 65, 32, 83, 78, 76, 32, 83, 90, 76, 32, 83, 75, 80, 32, 79, 83, 82, 32, 72, 76, 84, 32, 77, 81, 76, 32, 77, 81, 65, 32, 83, 87, 80, 32, 77, 85, 89, 32, 68, 86, 73, 32, 83, 72, 76, 32, 65, 83, 82, 32, 76, 83, 82, 32, 75, 83, 70, 32, 75, 67, 67, 32, 75, 82, 83, 32, 75, 82, 66, 32, 84, 83, 70, 32, 84, 76, 83, 32, 83, 76, 69, 69, 80, 32, 87, 72, 79, 32, 82, 68, 66, 32, 87, 82, 66, 32]
def x_tx3 : String := "PAGE DECIMAL OCTAL ZBLOCK TEXT "
def x_by3 : List Int32 := [80, 65, 71, 69, 32, 68, 69, 67, 73, 77, 65, 76, 32, 79, 67, 84, 65, 76, 32, 90, 66, 76, 79, 67, 75, 32, 84, 69, 88, 84, 32]
def x_len : List Nat := [221, 14, 190, 31]
def x_byt : List (List Int32) := [x_by0, x_by1, x_by2, x_by3]
def Ext (g : CG) (U : State) : Prop :=
  va_Z "ShareEight$Names" "FIXED_VALUES" "[I" (.ref (g.1.2.1 0)) (fun q => g.1.1 ≤ q) U U.heap ∧
  va_T .int (g.1.2.1 0) 53 (fun j => .int (x_fv.getD j 0)) (fun q => g.1.1 ≤ q) U U.heap ∧
  va_Z "ShareEightModel" "CODES" "[I" (.ref (g.1.2.1 1)) (fun q => g.1.1 ≤ q) U U.heap ∧
  va_T .int (g.1.2.1 1) 48 (fun j => .int (x_cd.getD j 0)) (fun q => g.1.1 ≤ q) U U.heap ∧
  va_Z "java/lang/String" "COMPACT_STRINGS" "Z" (.int 1) (fun q => g.1.1 ≤ q) U U.heap ∧
  vk_S 4 x_len x_byt (fun i => g.1.2.1 (10 + i)) (fun i => g.1.2.1 (20 + i)) (fun q => g.1.1 ≤ q) U U.heap ∧
  va_T .int (g.1.2.1 2) g.1.2.2.1 (fun j => .int (g.1.2.2.2 j)) (fun q => g.1.1 ≤ q) U U.heap ∧
  (va_Z "jdk/internal/util/Preconditions" "SIOOBE_FORMATTER" "Ljava/util/function/BiFunction;" .null (fun q => g.1.1 ≤ q) U U.heap ∨ va_Z "jdk/internal/util/Preconditions" "SIOOBE_FORMATTER" "Ljava/util/function/BiFunction;" (.ref (g.1.2.1 30)) (fun q => g.1.1 ≤ q) U U.heap) ∧
  vk_R "ShareEight$Names" 32 x_tx0 (g.1.2.1 10) U ∧
  vk_R "ShareEight$Tokens" 89 x_tx1 (g.1.2.1 11) U ∧
  vk_R "ShareEightModel" 67 x_tx1 (g.1.2.1 11) U ∧
  vk_R "ShareEightModel" 101 x_tx2 (g.1.2.1 12) U ∧
  vk_R "ShareEightModel" 107 x_tx3 (g.1.2.1 13) U
theorem ext_mv {g : CG} {u U : State} (h : Ext g u) (hA : u.vm.Alike U.vm) (hR : ∀ own k tx a, vk_R own k tx a u → vk_R own k tx a U) (hk : ∀ q : Nat, q < u.heap.size → ¬ g.1.1 ≤ q → U.heap[q]? = u.heap[q]?) : Ext g U :=
  ⟨((h.1).moved hA).kept hk, ((h.2.1).moved hA).kept hk, ((h.2.2.1).moved hA).kept hk, ((h.2.2.2.1).moved hA).kept hk, ((h.2.2.2.2.1).moved hA).kept hk, ((h.2.2.2.2.2.1).moved hA).kept hk, ((h.2.2.2.2.2.2.1).moved hA).kept hk, (h.2.2.2.2.2.2.2.1).imp (fun z => (z.moved hA).kept hk) (fun z => (z.moved hA).kept hk), hR _ _ _ _ h.2.2.2.2.2.2.2.2.1, hR _ _ _ _ h.2.2.2.2.2.2.2.2.2.1, hR _ _ _ _ h.2.2.2.2.2.2.2.2.2.2.1, hR _ _ _ _ h.2.2.2.2.2.2.2.2.2.2.2.1, hR _ _ _ _ h.2.2.2.2.2.2.2.2.2.2.2.2⟩
theorem ext_warm {g : CG} {s U : State} (h : Ext g s) (hW : s.WarmedH U.vm) (hk : ∀ q : Nat, q < s.heap.size → ¬ g.1.1 ≤ q → U.heap[q]? = s.heap[q]?) : Ext g U := ext_mv h hW.alike (fun _ _ _ _ z => z.warm hW) hk
theorem ext_blind {g : CG} {U : State} (h : Ext g U) (f : JFrame) (mk : MethodId) (a : Array Value) : Ext g (U.calling f mk a) := ext_mv h (Vm.Alike.refl U.vm) (fun _ _ _ _ z => z.same rfl) (fun _ _ _ => rfl)
-- the words that every call carries, and the nest's
def goodW (w : Cond) : Bool := (w.onTables && w.keeps) || (match w with | .arrayClass _ => true | _ => false)
def nestW (w : Cond) : Bool := match w with
  | .fieldLinkNest .. => true
  | .methodLinkNest .. => true
  | _ => false
def lw_ok : List Cond := lw_tbl.filter goodW
def lw_ns : List Cond := lw_tbl.filter nestW
theorem ok_good : GoodIn lw_ok lw_ok := by
  intro w hw
  refine ⟨hw, ?_⟩
  have h := (List.mem_filter.mp hw).2
  unfold goodW at h
  rw [Bool.or_eq_true] at h
  rcases h with h | h
  · exact Or.inl h
  · cases w <;> first | (exact Or.inr ⟨_, rfl⟩) | (cases h; done)
theorem ns_warm {s U : State} (hW : s.WarmedH U.vm) (h : ∀ w ∈ lw_ns, va_Nw w s) : ∀ w ∈ lw_ns, va_Nw w U := by
  intro w hw
  have h1 := h w hw
  have h2 := (List.mem_filter.mp hw).2
  cases w <;> first | (exact va_Nw.warmF hW h1) | (exact va_Nw.warmM hW h1) | (cases h2; done)
theorem ns_same {U : State} (f : JFrame) (mk : MethodId) (a : Array Value) (h : ∀ w ∈ lw_ns, va_Nw w U) : ∀ w ∈ lw_ns, va_Nw w (U.calling f mk a) := by
  intro w hw
  have h1 := h w hw
  have h2 := (List.mem_filter.mp hw).2
  cases w <;> first | (exact va_Nw.same rfl rfl h1) | (cases h2; done)
end
section
/-! LAYER 0, the judgement -/
-- the context of a walk
abbrev CX : Type := Program × Launch × Env × Room × State × MethodId × Array Value × List Frame × Method × Code × (State → Prop)
def WX (x : CX) (H : Heap) (locs : List Loc) (k n : Nat) (f : JFrame) : Prop := match x with
  | (p, l, e, R, s, m, args, below, meth, c, Q) => W p l e R s m args below meth c H locs k n Q f
abbrev xs (x : CX) : State := x.2.2.2.2.1
abbrev xm (x : CX) : MethodId := x.2.2.2.2.2.1
abbrev xa (x : CX) : Array Value := x.2.2.2.2.2.2.1
abbrev xb (x : CX) : List Frame := x.2.2.2.2.2.2.2.1
abbrev xM (x : CX) : Method := x.2.2.2.2.2.2.2.2.1
abbrev xc (x : CX) : Code := x.2.2.2.2.2.2.2.2.2.1
abbrev xQ (x : CX) : State → Prop := x.2.2.2.2.2.2.2.2.2.2
/-- a method's fixed things: code, locals, class, name, answer's type, room -/
abbrev MI : Type := ByteArray × Nat × String × String × Option FieldType × Room
def Cx (x : CX) (l : Launch) (g : CG) (M : MI) : Prop :=
  x.1.tables.exec = Jvm.exec ∧ (xc x).code = M.1 ∧ (xc x).maxLocals = M.2.1 ∧ (xs x).vm.findClass M.2.2.1 = some (xm x).cls ∧ (∀ w ∈ lw_ok, w.before (xa x) (xs x) = true) ∧ va_K g.2.1 vwCl g.2.2 (xs x) ∧ (xM x).locks = false ∧ g.1.1 ≤ (xs x).heap.size ∧ x.2.1 = l ∧ x.2.2.2.1 = M.2.2.2.2.2 ∧ (xM x).sig.returnType = M.2.2.2.2.1 ∧ (xM x).name = M.2.2.2.1 ∧ g.2.2.map (fun q => q.2) = arrTys ∧ Ext g (xs x) ∧ (∀ w ∈ lw_ns, va_Nw w (xs x))
def V (x : CX) (g : CG) (nL k n : Nat) (μ : Mem) (pc : Nat) (lv : LV) (st : List AV) : Prop :=
  (xs x).heap.size + k = g.1.1 + μ.1 → ∀ (H : Heap) (locs : List Loc) (ls : Array Slot), Hold g μ H → va_S (fun q => g.1.1 ≤ q) (xs x).heap H locs → lv_has ls nL (lvm g.1 lv) → WX x H locs k n (F0 (xm x) pc ls (st.map (av_v g.1)))
end
section
theorem v_null {x : CX} {l : Launch} {g : CG} {M : MI} {nL k n : Nat} {μ : Mem} {pc : Nat} {lv : LV} {st : List AV} (C : Cx x l g M)  (d : decode M.1 pc = .ok (.aconst_null, 1)) (kk : V x g nL k n μ (pc + 1) lv (aR none :: st)) : V x g nL k n μ pc lv st := by
  obtain ⟨p, l0, e, R, s, m, args, below, meth, c, Q⟩ := x
  intro h0 H locs ls h1 h2 h3
  exact lv_null C.1 C.2.1 d (kk h0 H locs ls h1 h2 h3)
theorem v_iconst {x : CX} {l : Launch} {g : CG} {M : MI} {nL k n : Nat} {μ : Mem} {pc : Nat} {lv : LV} {st : List AV} (C : Cx x l g M) {z : Int} {v : Int32} (d : decode M.1 pc = .ok (.iconst z, 1)) (hv : Int32.ofInt z = v) (kk : V x g nL k n μ (pc + 1) lv (aI v :: st)) : V x g nL k n μ pc lv st := by
  obtain ⟨p, l0, e, R, s, m, args, below, meth, c, Q⟩ := x
  intro h0 H locs ls h1 h2 h3
  exact lv_iconst C.1 C.2.1 d hv (kk h0 H locs ls h1 h2 h3)
theorem v_bipush {x : CX} {l : Launch} {g : CG} {M : MI} {nL k n : Nat} {μ : Mem} {pc : Nat} {lv : LV} {st : List AV} (C : Cx x l g M) {z : Int} {v : Int32} (d : decode M.1 pc = .ok (.bipush z, 2)) (hv : (Int8.ofInt z).toInt32 = v) (kk : V x g nL k n μ (pc + 2) lv (aI v :: st)) : V x g nL k n μ pc lv st := by
  obtain ⟨p, l0, e, R, s, m, args, below, meth, c, Q⟩ := x
  intro h0 H locs ls h1 h2 h3
  exact lv_bipush C.1 C.2.1 d hv (kk h0 H locs ls h1 h2 h3)
theorem v_sipush {x : CX} {l : Launch} {g : CG} {M : MI} {nL k n : Nat} {μ : Mem} {pc : Nat} {lv : LV} {st : List AV} (C : Cx x l g M) {z : Int} {v : Int32} (d : decode M.1 pc = .ok (.sipush z, 3)) (hv : (Int16.ofInt z).toInt32 = v) (kk : V x g nL k n μ (pc + 3) lv (aI v :: st)) : V x g nL k n μ pc lv st := by
  obtain ⟨p, l0, e, R, s, m, args, below, meth, c, Q⟩ := x
  intro h0 H locs ls h1 h2 h3
  exact lv_sipush C.1 C.2.1 d hv (kk h0 H locs ls h1 h2 h3)
theorem v_lconst {x : CX} {l : Launch} {g : CG} {M : MI} {nL k n : Nat} {μ : Mem} {pc : Nat} {lv : LV} {st : List AV} (C : Cx x l g M) {z : Fin 2} {v : Int64} (d : decode M.1 pc = .ok (.lconst z, 1)) (hv : Int64.ofNat (z : Nat) = v) (kk : V x g nL k n μ (pc + 1) lv (aJ v :: st)) : V x g nL k n μ pc lv st := by
  obtain ⟨p, l0, e, R, s, m, args, below, meth, c, Q⟩ := x
  intro h0 H locs ls h1 h2 h3
  exact lv_lconst C.1 C.2.1 d hv (kk h0 H locs ls h1 h2 h3)
theorem v_ldc {x : CX} {l : Launch} {g : CG} {M : MI} {nL k n : Nat} {μ : Mem} {pc : Nat} {lv : LV} {st : List AV} (C : Cx x l g M) {idx : Nat} {v : Int32} (d : decode M.1 pc = .ok (.ldc idx, 2)) (hc : Cond.constant M.2.2.1 idx v ∈ lw_ok) (kk : V x g nL k n μ (pc + 2) lv (aI v :: st)) : V x g nL k n μ pc lv st := by
  obtain ⟨p, l0, e, R, s, m, args, below, meth, c, Q⟩ := x
  intro h0 H locs ls h1 h2 h3
  exact lv_ldc C.1 C.2.1 C.2.2.2.1 (C.2.2.2.2.1 _ hc) d (kk h0 H locs ls h1 h2 h3)
theorem v_iadd {x : CX} {l : Launch} {g : CG} {M : MI} {nL k n : Nat} {μ : Mem} {pc : Nat} {lv : LV} {st : List AV} (C : Cx x l g M) {a b : Int32} (d : decode M.1 pc = .ok (.iadd, 1)) (kk : V x g nL k n μ (pc + 1) lv (aI (a + b) :: st)) : V x g nL k n μ pc lv (aI b :: aI a :: st) := by
  obtain ⟨p, l0, e, R, s, m, args, below, meth, c, Q⟩ := x
  intro h0 H locs ls h1 h2 h3
  exact lv_iadd C.1 C.2.1 d (kk h0 H locs ls h1 h2 h3)
theorem v_isub {x : CX} {l : Launch} {g : CG} {M : MI} {nL k n : Nat} {μ : Mem} {pc : Nat} {lv : LV} {st : List AV} (C : Cx x l g M) {a b : Int32} (d : decode M.1 pc = .ok (.isub, 1)) (kk : V x g nL k n μ (pc + 1) lv (aI (a - b) :: st)) : V x g nL k n μ pc lv (aI b :: aI a :: st) := by
  obtain ⟨p, l0, e, R, s, m, args, below, meth, c, Q⟩ := x
  intro h0 H locs ls h1 h2 h3
  exact lv_isub C.1 C.2.1 d (kk h0 H locs ls h1 h2 h3)
theorem v_imul {x : CX} {l : Launch} {g : CG} {M : MI} {nL k n : Nat} {μ : Mem} {pc : Nat} {lv : LV} {st : List AV} (C : Cx x l g M) {a b : Int32} (d : decode M.1 pc = .ok (.imul, 1)) (kk : V x g nL k n μ (pc + 1) lv (aI (a * b) :: st)) : V x g nL k n μ pc lv (aI b :: aI a :: st) := by
  obtain ⟨p, l0, e, R, s, m, args, below, meth, c, Q⟩ := x
  intro h0 H locs ls h1 h2 h3
  exact lv_imul C.1 C.2.1 d (kk h0 H locs ls h1 h2 h3)
theorem v_iand {x : CX} {l : Launch} {g : CG} {M : MI} {nL k n : Nat} {μ : Mem} {pc : Nat} {lv : LV} {st : List AV} (C : Cx x l g M) {a b : Int32} (d : decode M.1 pc = .ok (.iand, 1)) (kk : V x g nL k n μ (pc + 1) lv (aI (a &&& b) :: st)) : V x g nL k n μ pc lv (aI b :: aI a :: st) := by
  obtain ⟨p, l0, e, R, s, m, args, below, meth, c, Q⟩ := x
  intro h0 H locs ls h1 h2 h3
  exact lv_iand C.1 C.2.1 d (kk h0 H locs ls h1 h2 h3)
theorem v_ior {x : CX} {l : Launch} {g : CG} {M : MI} {nL k n : Nat} {μ : Mem} {pc : Nat} {lv : LV} {st : List AV} (C : Cx x l g M) {a b : Int32} (d : decode M.1 pc = .ok (.ior, 1)) (kk : V x g nL k n μ (pc + 1) lv (aI (a ||| b) :: st)) : V x g nL k n μ pc lv (aI b :: aI a :: st) := by
  obtain ⟨p, l0, e, R, s, m, args, below, meth, c, Q⟩ := x
  intro h0 H locs ls h1 h2 h3
  exact lv_ior C.1 C.2.1 d (kk h0 H locs ls h1 h2 h3)
theorem v_ixor {x : CX} {l : Launch} {g : CG} {M : MI} {nL k n : Nat} {μ : Mem} {pc : Nat} {lv : LV} {st : List AV} (C : Cx x l g M) {a b : Int32} (d : decode M.1 pc = .ok (.ixor, 1)) (kk : V x g nL k n μ (pc + 1) lv (aI (a ^^^ b) :: st)) : V x g nL k n μ pc lv (aI b :: aI a :: st) := by
  obtain ⟨p, l0, e, R, s, m, args, below, meth, c, Q⟩ := x
  intro h0 H locs ls h1 h2 h3
  exact lv_ixor C.1 C.2.1 d (kk h0 H locs ls h1 h2 h3)
theorem v_ladd {x : CX} {l : Launch} {g : CG} {M : MI} {nL k n : Nat} {μ : Mem} {pc : Nat} {lv : LV} {st : List AV} (C : Cx x l g M) {a b : Int64} (d : decode M.1 pc = .ok (.ladd, 1)) (kk : V x g nL k n μ (pc + 1) lv (aJ (a + b) :: st)) : V x g nL k n μ pc lv (aJ b :: aJ a :: st) := by
  obtain ⟨p, l0, e, R, s, m, args, below, meth, c, Q⟩ := x
  intro h0 H locs ls h1 h2 h3
  exact lv_ladd C.1 C.2.1 d (kk h0 H locs ls h1 h2 h3)
theorem v_lsub {x : CX} {l : Launch} {g : CG} {M : MI} {nL k n : Nat} {μ : Mem} {pc : Nat} {lv : LV} {st : List AV} (C : Cx x l g M) {a b : Int64} (d : decode M.1 pc = .ok (.lsub, 1)) (kk : V x g nL k n μ (pc + 1) lv (aJ (a - b) :: st)) : V x g nL k n μ pc lv (aJ b :: aJ a :: st) := by
  obtain ⟨p, l0, e, R, s, m, args, below, meth, c, Q⟩ := x
  intro h0 H locs ls h1 h2 h3
  exact lv_lsub C.1 C.2.1 d (kk h0 H locs ls h1 h2 h3)
theorem v_lmul {x : CX} {l : Launch} {g : CG} {M : MI} {nL k n : Nat} {μ : Mem} {pc : Nat} {lv : LV} {st : List AV} (C : Cx x l g M) {a b : Int64} (d : decode M.1 pc = .ok (.lmul, 1)) (kk : V x g nL k n μ (pc + 1) lv (aJ (a * b) :: st)) : V x g nL k n μ pc lv (aJ b :: aJ a :: st) := by
  obtain ⟨p, l0, e, R, s, m, args, below, meth, c, Q⟩ := x
  intro h0 H locs ls h1 h2 h3
  exact lv_lmul C.1 C.2.1 d (kk h0 H locs ls h1 h2 h3)
theorem v_land {x : CX} {l : Launch} {g : CG} {M : MI} {nL k n : Nat} {μ : Mem} {pc : Nat} {lv : LV} {st : List AV} (C : Cx x l g M) {a b : Int64} (d : decode M.1 pc = .ok (.land, 1)) (kk : V x g nL k n μ (pc + 1) lv (aJ (a &&& b) :: st)) : V x g nL k n μ pc lv (aJ b :: aJ a :: st) := by
  obtain ⟨p, l0, e, R, s, m, args, below, meth, c, Q⟩ := x
  intro h0 H locs ls h1 h2 h3
  exact lv_land C.1 C.2.1 d (kk h0 H locs ls h1 h2 h3)
theorem v_lor {x : CX} {l : Launch} {g : CG} {M : MI} {nL k n : Nat} {μ : Mem} {pc : Nat} {lv : LV} {st : List AV} (C : Cx x l g M) {a b : Int64} (d : decode M.1 pc = .ok (.lor, 1)) (kk : V x g nL k n μ (pc + 1) lv (aJ (a ||| b) :: st)) : V x g nL k n μ pc lv (aJ b :: aJ a :: st) := by
  obtain ⟨p, l0, e, R, s, m, args, below, meth, c, Q⟩ := x
  intro h0 H locs ls h1 h2 h3
  exact lv_lor C.1 C.2.1 d (kk h0 H locs ls h1 h2 h3)
theorem v_lxor {x : CX} {l : Launch} {g : CG} {M : MI} {nL k n : Nat} {μ : Mem} {pc : Nat} {lv : LV} {st : List AV} (C : Cx x l g M) {a b : Int64} (d : decode M.1 pc = .ok (.lxor, 1)) (kk : V x g nL k n μ (pc + 1) lv (aJ (a ^^^ b) :: st)) : V x g nL k n μ pc lv (aJ b :: aJ a :: st) := by
  obtain ⟨p, l0, e, R, s, m, args, below, meth, c, Q⟩ := x
  intro h0 H locs ls h1 h2 h3
  exact lv_lxor C.1 C.2.1 d (kk h0 H locs ls h1 h2 h3)
theorem v_idiv {x : CX} {l : Launch} {g : CG} {M : MI} {nL k n : Nat} {μ : Mem} {pc : Nat} {lv : LV} {st : List AV} (C : Cx x l g M) {a b : Int32} (d : decode M.1 pc = .ok (.idiv, 1)) (hz : ¬ b = 0) (kk : V x g nL k n μ (pc + 1) lv (aI (a / b) :: st)) : V x g nL k n μ pc lv (aI b :: aI a :: st) := by
  obtain ⟨p, l0, e, R, s, m, args, below, meth, c, Q⟩ := x
  intro h0 H locs ls h1 h2 h3
  exact lv_idiv C.1 C.2.1 d hz (kk h0 H locs ls h1 h2 h3)
theorem v_irem {x : CX} {l : Launch} {g : CG} {M : MI} {nL k n : Nat} {μ : Mem} {pc : Nat} {lv : LV} {st : List AV} (C : Cx x l g M) {a b : Int32} (d : decode M.1 pc = .ok (.irem, 1)) (hz : ¬ b = 0) (kk : V x g nL k n μ (pc + 1) lv (aI (a - a / b * b) :: st)) : V x g nL k n μ pc lv (aI b :: aI a :: st) := by
  obtain ⟨p, l0, e, R, s, m, args, below, meth, c, Q⟩ := x
  intro h0 H locs ls h1 h2 h3
  exact lv_irem C.1 C.2.1 d hz (kk h0 H locs ls h1 h2 h3)
theorem v_ineg {x : CX} {l : Launch} {g : CG} {M : MI} {nL k n : Nat} {μ : Mem} {pc : Nat} {lv : LV} {st : List AV} (C : Cx x l g M) {a : Int32} (d : decode M.1 pc = .ok (.ineg, 1)) (kk : V x g nL k n μ (pc + 1) lv (aI (-a) :: st)) : V x g nL k n μ pc lv (aI a :: st) := by
  obtain ⟨p, l0, e, R, s, m, args, below, meth, c, Q⟩ := x
  intro h0 H locs ls h1 h2 h3
  exact lv_ineg C.1 C.2.1 d (kk h0 H locs ls h1 h2 h3)
theorem v_ishl {x : CX} {l : Launch} {g : CG} {M : MI} {nL k n : Nat} {μ : Mem} {pc : Nat} {lv : LV} {st : List AV} (C : Cx x l g M) {a b : Int32} (d : decode M.1 pc = .ok (.ishl, 1)) (kk : V x g nL k n μ (pc + 1) lv (aI (a <<< (b &&& 31)) :: st)) : V x g nL k n μ pc lv (aI b :: aI a :: st) := by
  obtain ⟨p, l0, e, R, s, m, args, below, meth, c, Q⟩ := x
  intro h0 H locs ls h1 h2 h3
  exact lv_ishl C.1 C.2.1 d (kk h0 H locs ls h1 h2 h3)
theorem v_ishr {x : CX} {l : Launch} {g : CG} {M : MI} {nL k n : Nat} {μ : Mem} {pc : Nat} {lv : LV} {st : List AV} (C : Cx x l g M) {a b : Int32} (d : decode M.1 pc = .ok (.ishr, 1)) (kk : V x g nL k n μ (pc + 1) lv (aI (a >>> (b &&& 31)) :: st)) : V x g nL k n μ pc lv (aI b :: aI a :: st) := by
  obtain ⟨p, l0, e, R, s, m, args, below, meth, c, Q⟩ := x
  intro h0 H locs ls h1 h2 h3
  exact lv_ishr C.1 C.2.1 d (kk h0 H locs ls h1 h2 h3)
theorem v_iushr {x : CX} {l : Launch} {g : CG} {M : MI} {nL k n : Nat} {μ : Mem} {pc : Nat} {lv : LV} {st : List AV} (C : Cx x l g M) {a b : Int32} (d : decode M.1 pc = .ok (.iushr, 1)) (kk : V x g nL k n μ (pc + 1) lv (aI ((a.toUInt32 >>> (b.toUInt32 &&& Int32.toUInt32 31)).toInt32) :: st)) : V x g nL k n μ pc lv (aI b :: aI a :: st) := by
  obtain ⟨p, l0, e, R, s, m, args, below, meth, c, Q⟩ := x
  intro h0 H locs ls h1 h2 h3
  exact lv_iushr C.1 C.2.1 d rfl (kk h0 H locs ls h1 h2 h3)
theorem v_lshl {x : CX} {l : Launch} {g : CG} {M : MI} {nL k n : Nat} {μ : Mem} {pc : Nat} {lv : LV} {st : List AV} (C : Cx x l g M) {a : Int64} {b : Int32} (d : decode M.1 pc = .ok (.lshl, 1)) (kk : V x g nL k n μ (pc + 1) lv (aJ (a <<< (b.toInt64 &&& 63)) :: st)) : V x g nL k n μ pc lv (aI b :: aJ a :: st) := by
  obtain ⟨p, l0, e, R, s, m, args, below, meth, c, Q⟩ := x
  intro h0 H locs ls h1 h2 h3
  exact lv_lshl C.1 C.2.1 d rfl (kk h0 H locs ls h1 h2 h3)
theorem v_i2l {x : CX} {l : Launch} {g : CG} {M : MI} {nL k n : Nat} {μ : Mem} {pc : Nat} {lv : LV} {st : List AV} (C : Cx x l g M) {a : Int32} (d : decode M.1 pc = .ok (.i2l, 1)) (kk : V x g nL k n μ (pc + 1) lv (aJ a.toInt64 :: st)) : V x g nL k n μ pc lv (aI a :: st) := by
  obtain ⟨p, l0, e, R, s, m, args, below, meth, c, Q⟩ := x
  intro h0 H locs ls h1 h2 h3
  exact lv_i2l C.1 C.2.1 d rfl (kk h0 H locs ls h1 h2 h3)
theorem v_i2c {x : CX} {l : Launch} {g : CG} {M : MI} {nL k n : Nat} {μ : Mem} {pc : Nat} {lv : LV} {st : List AV} (C : Cx x l g M) {a : Int32} (d : decode M.1 pc = .ok (.i2c, 1)) (kk : V x g nL k n μ (pc + 1) lv (aI (a.toUInt32 % 65536).toInt32 :: st)) : V x g nL k n μ pc lv (aI a :: st) := by
  obtain ⟨p, l0, e, R, s, m, args, below, meth, c, Q⟩ := x
  intro h0 H locs ls h1 h2 h3
  exact lv_i2c C.1 C.2.1 d rfl (kk h0 H locs ls h1 h2 h3)
theorem v_lcmp {x : CX} {l : Launch} {g : CG} {M : MI} {nL k n : Nat} {μ : Mem} {pc : Nat} {lv : LV} {st : List AV} (C : Cx x l g M) {a b : Int64} (d : decode M.1 pc = .ok (.lcmp, 1)) (kk : V x g nL k n μ (pc + 1) lv (aI (lg_cmp a b) :: st)) : V x g nL k n μ pc lv (aJ b :: aJ a :: st) := by
  obtain ⟨p, l0, e, R, s, m, args, below, meth, c, Q⟩ := x
  intro h0 H locs ls h1 h2 h3
  exact W.lcmp C.1 C.2.1 d (kk h0 H locs ls h1 h2 h3)
theorem v_dup {x : CX} {l : Launch} {g : CG} {M : MI} {nL k n : Nat} {μ : Mem} {pc : Nat} {lv : LV} {st : List AV} (C : Cx x l g M) {a : AV} (d : decode M.1 pc = .ok (.dup, 1)) (hw : av_w a = false) (kk : V x g nL k n μ (pc + 1) lv (a :: a :: st)) : V x g nL k n μ pc lv (a :: st) := by
  obtain ⟨p, l0, e, R, s, m, args, below, meth, c, Q⟩ := x
  intro h0 H locs ls h1 h2 h3
  exact lv_dup C.1 C.2.1 d (av_cat1 g.1 a hw) (kk h0 H locs ls h1 h2 h3)
theorem v_dup_x1 {x : CX} {l : Launch} {g : CG} {M : MI} {nL k n : Nat} {μ : Mem} {pc : Nat} {lv : LV} {st : List AV} (C : Cx x l g M) {a b : AV} (d : decode M.1 pc = .ok (.dup_x1, 1)) (hw : av_w a = false) (hw2 : av_w b = false) (kk : V x g nL k n μ (pc + 1) lv (a :: b :: a :: st)) : V x g nL k n μ pc lv (a :: b :: st) := by
  obtain ⟨p, l0, e, R, s, m, args, below, meth, c, Q⟩ := x
  intro h0 H locs ls h1 h2 h3
  exact lv_dup_x1 C.1 C.2.1 d (av_cat1 g.1 a hw) (av_cat1 g.1 b hw2) (kk h0 H locs ls h1 h2 h3)
theorem v_dup2 {x : CX} {l : Launch} {g : CG} {M : MI} {nL k n : Nat} {μ : Mem} {pc : Nat} {lv : LV} {st : List AV} (C : Cx x l g M) {a b : AV} (d : decode M.1 pc = .ok (.dup2, 1)) (hw : av_w a = false) (hw2 : av_w b = false) (kk : V x g nL k n μ (pc + 1) lv (a :: b :: a :: b :: st)) : V x g nL k n μ pc lv (a :: b :: st) := by
  obtain ⟨p, l0, e, R, s, m, args, below, meth, c, Q⟩ := x
  intro h0 H locs ls h1 h2 h3
  exact lv_dup2_11 C.1 C.2.1 d (av_cat1 g.1 a hw) (av_cat1 g.1 b hw2) (kk h0 H locs ls h1 h2 h3)
theorem v_pop {x : CX} {l : Launch} {g : CG} {M : MI} {nL k n : Nat} {μ : Mem} {pc : Nat} {lv : LV} {st : List AV} (C : Cx x l g M) {a : AV} (d : decode M.1 pc = .ok (.pop, 1)) (hw : av_w a = false) (kk : V x g nL k n μ (pc + 1) lv st) : V x g nL k n μ pc lv (a :: st) := by
  obtain ⟨p, l0, e, R, s, m, args, below, meth, c, Q⟩ := x
  intro h0 H locs ls h1 h2 h3
  exact lv_pop C.1 C.2.1 d (av_cat1 g.1 a hw) (kk h0 H locs ls h1 h2 h3)
theorem v_iload_n {x : CX} {l : Launch} {g : CG} {M : MI} {nL k n : Nat} {μ : Mem} {pc : Nat} {lv : LV} {st : List AV} (C : Cx x l g M) {i : Fin 4} {v : Int32} (d : decode M.1 pc = .ok (.iload_n i, 1)) (hl : lvg lv i.val = some (aI v)) (kk : V x g nL k n μ (pc + 1) lv (aI v :: st)) : V x g nL k n μ pc lv st := by
  obtain ⟨p, l0, e, R, s, m, args, below, meth, c, Q⟩ := x
  intro h0 H locs ls h1 h2 h3
  exact lv_iload_n C.1 C.2.1 d rfl (lvg_at h3 hl) (kk h0 H locs ls h1 h2 h3)
theorem v_iload {x : CX} {l : Launch} {g : CG} {M : MI} {nL k n : Nat} {μ : Mem} {pc : Nat} {lv : LV} {st : List AV} (C : Cx x l g M) {i : Nat} {v : Int32} (d : decode M.1 pc = .ok (.iload i, 2)) (hl : lvg lv i = some (aI v)) (kk : V x g nL k n μ (pc + 2) lv (aI v :: st)) : V x g nL k n μ pc lv st := by
  obtain ⟨p, l0, e, R, s, m, args, below, meth, c, Q⟩ := x
  intro h0 H locs ls h1 h2 h3
  exact lv_iload C.1 C.2.1 d (lvg_at h3 hl) (kk h0 H locs ls h1 h2 h3)
theorem v_lload_n {x : CX} {l : Launch} {g : CG} {M : MI} {nL k n : Nat} {μ : Mem} {pc : Nat} {lv : LV} {st : List AV} (C : Cx x l g M) {i : Fin 4} {v : Int64} (d : decode M.1 pc = .ok (.lload_n i, 1)) (hl : lvg lv i.val = some (aJ v)) (kk : V x g nL k n μ (pc + 1) lv (aJ v :: st)) : V x g nL k n μ pc lv st := by
  obtain ⟨p, l0, e, R, s, m, args, below, meth, c, Q⟩ := x
  intro h0 H locs ls h1 h2 h3
  exact lv_lload_n C.1 C.2.1 d rfl (lvg_at h3 hl) (kk h0 H locs ls h1 h2 h3)
theorem v_lload {x : CX} {l : Launch} {g : CG} {M : MI} {nL k n : Nat} {μ : Mem} {pc : Nat} {lv : LV} {st : List AV} (C : Cx x l g M) {i : Nat} {v : Int64} (d : decode M.1 pc = .ok (.lload i, 2)) (hl : lvg lv i = some (aJ v)) (kk : V x g nL k n μ (pc + 2) lv (aJ v :: st)) : V x g nL k n μ pc lv st := by
  obtain ⟨p, l0, e, R, s, m, args, below, meth, c, Q⟩ := x
  intro h0 H locs ls h1 h2 h3
  exact lv_lload C.1 C.2.1 d (lvg_at h3 hl) (kk h0 H locs ls h1 h2 h3)
theorem v_aload_n {x : CX} {l : Launch} {g : CG} {M : MI} {nL k n : Nat} {μ : Mem} {pc : Nat} {lv : LV} {st : List AV} (C : Cx x l g M) {i : Fin 4} {r : Option Nat} (d : decode M.1 pc = .ok (.aload_n i, 1)) (hl : lvg lv i.val = some (aR r)) (kk : V x g nL k n μ (pc + 1) lv (aR r :: st)) : V x g nL k n μ pc lv st := by
  obtain ⟨p, l0, e, R, s, m, args, below, meth, c, Q⟩ := x
  intro h0 H locs ls h1 h2 h3
  cases r with
  | none => exact lv_aload_nN C.1 C.2.1 d rfl (lvg_at h3 hl) (kk h0 H locs ls h1 h2 h3)
  | some a => exact lv_aload_n C.1 C.2.1 d rfl (lvg_at h3 hl) (kk h0 H locs ls h1 h2 h3)
theorem v_aload {x : CX} {l : Launch} {g : CG} {M : MI} {nL k n : Nat} {μ : Mem} {pc : Nat} {lv : LV} {st : List AV} (C : Cx x l g M) {i : Nat} {r : Option Nat} (d : decode M.1 pc = .ok (.aload i, 2)) (hl : lvg lv i = some (aR r)) (kk : V x g nL k n μ (pc + 2) lv (aR r :: st)) : V x g nL k n μ pc lv st := by
  obtain ⟨p, l0, e, R, s, m, args, below, meth, c, Q⟩ := x
  intro h0 H locs ls h1 h2 h3
  cases r with
  | none => exact lv_aloadN C.1 C.2.1 d (lvg_at h3 hl) (kk h0 H locs ls h1 h2 h3)
  | some a => exact lv_aload C.1 C.2.1 d (lvg_at h3 hl) (kk h0 H locs ls h1 h2 h3)
theorem v_istore_n {x : CX} {l : Launch} {g : CG} {M : MI} {nL k n : Nat} {μ : Mem} {pc : Nat} {lv : LV} {st : List AV} (C : Cx x l g M) {i : Fin 4} {v : Int32} (d : decode M.1 pc = .ok (.istore_n i, 1)) (hn : i.val < nL) (kk : V x g nL k n μ (pc + 1) (lvs lv i.val (aI v)) st) : V x g nL k n μ pc lv (aI v :: st) := by
  obtain ⟨p, l0, e, R, s, m, args, below, meth, c, Q⟩ := x
  intro h0 H locs ls h1 h2 h3
  exact lv_istore_n C.1 C.2.1 d rfl h3 hn (lvm_s g.1 lv i.val (aI v)) (fun ls2 h4 => kk h0 H locs ls2 h1 h2 h4)
theorem v_istore {x : CX} {l : Launch} {g : CG} {M : MI} {nL k n : Nat} {μ : Mem} {pc : Nat} {lv : LV} {st : List AV} (C : Cx x l g M) {i : Nat} {v : Int32} (d : decode M.1 pc = .ok (.istore i, 2)) (hn : i < nL) (kk : V x g nL k n μ (pc + 2) (lvs lv i (aI v)) st) : V x g nL k n μ pc lv (aI v :: st) := by
  obtain ⟨p, l0, e, R, s, m, args, below, meth, c, Q⟩ := x
  intro h0 H locs ls h1 h2 h3
  exact lv_istore C.1 C.2.1 d h3 hn (lvm_s g.1 lv i (aI v)) (fun ls2 h4 => kk h0 H locs ls2 h1 h2 h4)
theorem v_lstore_n {x : CX} {l : Launch} {g : CG} {M : MI} {nL k n : Nat} {μ : Mem} {pc : Nat} {lv : LV} {st : List AV} (C : Cx x l g M) {i : Fin 4} {v : Int64} (d : decode M.1 pc = .ok (.lstore_n i, 1)) (hn : i.val + 1 < nL) (kk : V x g nL k n μ (pc + 1) (lvs2 lv i.val (aJ v)) st) : V x g nL k n μ pc lv (aJ v :: st) := by
  obtain ⟨p, l0, e, R, s, m, args, below, meth, c, Q⟩ := x
  intro h0 H locs ls h1 h2 h3
  exact lv_lstore_n C.1 C.2.1 d rfl h3 hn (lvm_s2 g.1 lv i.val (aJ v)) (fun ls2 h4 => kk h0 H locs ls2 h1 h2 h4)
theorem v_lstore {x : CX} {l : Launch} {g : CG} {M : MI} {nL k n : Nat} {μ : Mem} {pc : Nat} {lv : LV} {st : List AV} (C : Cx x l g M) {i : Nat} {v : Int64} (d : decode M.1 pc = .ok (.lstore i, 2)) (hn : i + 1 < nL) (kk : V x g nL k n μ (pc + 2) (lvs2 lv i (aJ v)) st) : V x g nL k n μ pc lv (aJ v :: st) := by
  obtain ⟨p, l0, e, R, s, m, args, below, meth, c, Q⟩ := x
  intro h0 H locs ls h1 h2 h3
  exact lv_lstore C.1 C.2.1 d h3 hn (lvm_s2 g.1 lv i (aJ v)) (fun ls2 h4 => kk h0 H locs ls2 h1 h2 h4)
theorem v_astore_n {x : CX} {l : Launch} {g : CG} {M : MI} {nL k n : Nat} {μ : Mem} {pc : Nat} {lv : LV} {st : List AV} (C : Cx x l g M) {i : Fin 4} {r : Option Nat} (d : decode M.1 pc = .ok (.astore_n i, 1)) (hn : i.val < nL) (kk : V x g nL k n μ (pc + 1) (lvs lv i.val (aR r)) st) : V x g nL k n μ pc lv (aR r :: st) := by
  obtain ⟨p, l0, e, R, s, m, args, below, meth, c, Q⟩ := x
  intro h0 H locs ls h1 h2 h3
  cases r with
  | none => exact lv_astore_nN C.1 C.2.1 d rfl h3 hn (lvm_s g.1 lv i.val (aR none)) (fun ls2 h4 => kk h0 H locs ls2 h1 h2 h4)
  | some a => exact lv_astore_n C.1 C.2.1 d rfl h3 hn (lvm_s g.1 lv i.val (aR (some a))) (fun ls2 h4 => kk h0 H locs ls2 h1 h2 h4)
theorem v_astore {x : CX} {l : Launch} {g : CG} {M : MI} {nL k n : Nat} {μ : Mem} {pc : Nat} {lv : LV} {st : List AV} (C : Cx x l g M) {i : Nat} {r : Option Nat} (d : decode M.1 pc = .ok (.astore i, 2)) (hn : i < nL) (kk : V x g nL k n μ (pc + 2) (lvs lv i (aR r)) st) : V x g nL k n μ pc lv (aR r :: st) := by
  obtain ⟨p, l0, e, R, s, m, args, below, meth, c, Q⟩ := x
  intro h0 H locs ls h1 h2 h3
  cases r with
  | none => exact lv_astoreN C.1 C.2.1 d h3 hn (lvm_s g.1 lv i (aR none)) (fun ls2 h4 => kk h0 H locs ls2 h1 h2 h4)
  | some a => exact lv_astore C.1 C.2.1 d h3 hn (lvm_s g.1 lv i (aR (some a))) (fun ls2 h4 => kk h0 H locs ls2 h1 h2 h4)
theorem v_iinc {x : CX} {l : Launch} {g : CG} {M : MI} {nL k n : Nat} {μ : Mem} {pc : Nat} {lv : LV} {st : List AV} (C : Cx x l g M) {i : Nat} {z : Int} {a w : Int32} (d : decode M.1 pc = .ok (.iinc i z, 3)) (hl : lvg lv i = some (aI a)) (hv : Int32.ofInt z = w) (hn : i < nL) (kk : V x g nL k n μ (pc + 3) (lvs lv i (aI (a + w))) st) : V x g nL k n μ pc lv st := by
  obtain ⟨p, l0, e, R, s, m, args, below, meth, c, Q⟩ := x
  intro h0 H locs ls h1 h2 h3
  obtain ⟨j, hj⟩ := List.getElem?_of_mem (List.mem_map.mpr ⟨(i, aI a), lvg_mem hl, rfl⟩ : (i, av_v g.1 (aI a)) ∈ lvm g.1 lv)
  exact lv_iinc C.1 C.2.1 d h3 hj (by rw [hv]) hn (lvm_s g.1 lv i (aI (a + w))) (fun ls2 h4 => kk h0 H locs ls2 h1 h2 h4)
theorem v_icmp_eq {x : CX} {l : Launch} {g : CG} {M : MI} {nL k n : Nat} {μ : Mem} {pc : Nat} {lv : LV} {st : List AV} (C : Cx x l g M) {a b : Int32} {off : Int} {tgt : Nat} (d : decode M.1 pc = .ok (.if_icmp .eq off, 3)) (ht : (pc : Int) + off = (tgt : Int)) (kt : a = b → V x g nL k n μ tgt lv st) (kf : ¬ (a = b) → V x g nL k n μ (pc + 3) lv st) : V x g nL k n μ pc lv (aI b :: aI a :: st) := by
  obtain ⟨p, l0, e, R, s, m, args, below, meth, c, Q⟩ := x
  intro h0 H locs ls h1 h2 h3
  exact lv_icmp_eq C.1 C.2.1 d ht (fun q => kt q h0 H locs ls h1 h2 h3) (fun q => kf q h0 H locs ls h1 h2 h3)
theorem v_if_eq {x : CX} {l : Launch} {g : CG} {M : MI} {nL k n : Nat} {μ : Mem} {pc : Nat} {lv : LV} {st : List AV} (C : Cx x l g M) {a : Int32} {off : Int} {tgt : Nat} (d : decode M.1 pc = .ok (.ifCond .eq off, 3)) (ht : (pc : Int) + off = (tgt : Int)) (kt : a = 0 → V x g nL k n μ tgt lv st) (kf : ¬ (a = 0) → V x g nL k n μ (pc + 3) lv st) : V x g nL k n μ pc lv (aI a :: st) := by
  obtain ⟨p, l0, e, R, s, m, args, below, meth, c, Q⟩ := x
  intro h0 H locs ls h1 h2 h3
  exact lv_if_eq C.1 C.2.1 d ht (fun q => kt q h0 H locs ls h1 h2 h3) (fun q => kf q h0 H locs ls h1 h2 h3)
theorem v_icmp_ne {x : CX} {l : Launch} {g : CG} {M : MI} {nL k n : Nat} {μ : Mem} {pc : Nat} {lv : LV} {st : List AV} (C : Cx x l g M) {a b : Int32} {off : Int} {tgt : Nat} (d : decode M.1 pc = .ok (.if_icmp .ne off, 3)) (ht : (pc : Int) + off = (tgt : Int)) (kt : ¬ a = b → V x g nL k n μ tgt lv st) (kf : ¬ (¬ a = b) → V x g nL k n μ (pc + 3) lv st) : V x g nL k n μ pc lv (aI b :: aI a :: st) := by
  obtain ⟨p, l0, e, R, s, m, args, below, meth, c, Q⟩ := x
  intro h0 H locs ls h1 h2 h3
  exact lv_icmp_ne C.1 C.2.1 d ht (fun q => kt q h0 H locs ls h1 h2 h3) (fun q => kf (fun z => z q) h0 H locs ls h1 h2 h3)
theorem v_if_ne {x : CX} {l : Launch} {g : CG} {M : MI} {nL k n : Nat} {μ : Mem} {pc : Nat} {lv : LV} {st : List AV} (C : Cx x l g M) {a : Int32} {off : Int} {tgt : Nat} (d : decode M.1 pc = .ok (.ifCond .ne off, 3)) (ht : (pc : Int) + off = (tgt : Int)) (kt : ¬ a = 0 → V x g nL k n μ tgt lv st) (kf : ¬ (¬ a = 0) → V x g nL k n μ (pc + 3) lv st) : V x g nL k n μ pc lv (aI a :: st) := by
  obtain ⟨p, l0, e, R, s, m, args, below, meth, c, Q⟩ := x
  intro h0 H locs ls h1 h2 h3
  exact lv_if_ne C.1 C.2.1 d ht (fun q => kt q h0 H locs ls h1 h2 h3) (fun q => kf (fun z => z q) h0 H locs ls h1 h2 h3)
theorem v_icmp_lt {x : CX} {l : Launch} {g : CG} {M : MI} {nL k n : Nat} {μ : Mem} {pc : Nat} {lv : LV} {st : List AV} (C : Cx x l g M) {a b : Int32} {off : Int} {tgt : Nat} (d : decode M.1 pc = .ok (.if_icmp .lt off, 3)) (ht : (pc : Int) + off = (tgt : Int)) (kt : a < b → V x g nL k n μ tgt lv st) (kf : ¬ (a < b) → V x g nL k n μ (pc + 3) lv st) : V x g nL k n μ pc lv (aI b :: aI a :: st) := by
  obtain ⟨p, l0, e, R, s, m, args, below, meth, c, Q⟩ := x
  intro h0 H locs ls h1 h2 h3
  exact lv_icmp_lt C.1 C.2.1 d ht (fun q => kt q h0 H locs ls h1 h2 h3) (fun q => kf q h0 H locs ls h1 h2 h3)
theorem v_if_lt {x : CX} {l : Launch} {g : CG} {M : MI} {nL k n : Nat} {μ : Mem} {pc : Nat} {lv : LV} {st : List AV} (C : Cx x l g M) {a : Int32} {off : Int} {tgt : Nat} (d : decode M.1 pc = .ok (.ifCond .lt off, 3)) (ht : (pc : Int) + off = (tgt : Int)) (kt : a < 0 → V x g nL k n μ tgt lv st) (kf : ¬ (a < 0) → V x g nL k n μ (pc + 3) lv st) : V x g nL k n μ pc lv (aI a :: st) := by
  obtain ⟨p, l0, e, R, s, m, args, below, meth, c, Q⟩ := x
  intro h0 H locs ls h1 h2 h3
  exact lv_if_lt C.1 C.2.1 d ht (fun q => kt q h0 H locs ls h1 h2 h3) (fun q => kf q h0 H locs ls h1 h2 h3)
theorem v_icmp_ge {x : CX} {l : Launch} {g : CG} {M : MI} {nL k n : Nat} {μ : Mem} {pc : Nat} {lv : LV} {st : List AV} (C : Cx x l g M) {a b : Int32} {off : Int} {tgt : Nat} (d : decode M.1 pc = .ok (.if_icmp .ge off, 3)) (ht : (pc : Int) + off = (tgt : Int)) (kt : b ≤ a → V x g nL k n μ tgt lv st) (kf : ¬ (b ≤ a) → V x g nL k n μ (pc + 3) lv st) : V x g nL k n μ pc lv (aI b :: aI a :: st) := by
  obtain ⟨p, l0, e, R, s, m, args, below, meth, c, Q⟩ := x
  intro h0 H locs ls h1 h2 h3
  exact lv_icmp_ge C.1 C.2.1 d ht (fun q => kt q h0 H locs ls h1 h2 h3) (fun q => kf q h0 H locs ls h1 h2 h3)
theorem v_if_ge {x : CX} {l : Launch} {g : CG} {M : MI} {nL k n : Nat} {μ : Mem} {pc : Nat} {lv : LV} {st : List AV} (C : Cx x l g M) {a : Int32} {off : Int} {tgt : Nat} (d : decode M.1 pc = .ok (.ifCond .ge off, 3)) (ht : (pc : Int) + off = (tgt : Int)) (kt : 0 ≤ a → V x g nL k n μ tgt lv st) (kf : ¬ (0 ≤ a) → V x g nL k n μ (pc + 3) lv st) : V x g nL k n μ pc lv (aI a :: st) := by
  obtain ⟨p, l0, e, R, s, m, args, below, meth, c, Q⟩ := x
  intro h0 H locs ls h1 h2 h3
  exact lv_if_ge C.1 C.2.1 d ht (fun q => kt q h0 H locs ls h1 h2 h3) (fun q => kf q h0 H locs ls h1 h2 h3)
theorem v_icmp_gt {x : CX} {l : Launch} {g : CG} {M : MI} {nL k n : Nat} {μ : Mem} {pc : Nat} {lv : LV} {st : List AV} (C : Cx x l g M) {a b : Int32} {off : Int} {tgt : Nat} (d : decode M.1 pc = .ok (.if_icmp .gt off, 3)) (ht : (pc : Int) + off = (tgt : Int)) (kt : b < a → V x g nL k n μ tgt lv st) (kf : ¬ (b < a) → V x g nL k n μ (pc + 3) lv st) : V x g nL k n μ pc lv (aI b :: aI a :: st) := by
  obtain ⟨p, l0, e, R, s, m, args, below, meth, c, Q⟩ := x
  intro h0 H locs ls h1 h2 h3
  exact lv_icmp_gt C.1 C.2.1 d ht (fun q => kt q h0 H locs ls h1 h2 h3) (fun q => kf q h0 H locs ls h1 h2 h3)
theorem v_if_gt {x : CX} {l : Launch} {g : CG} {M : MI} {nL k n : Nat} {μ : Mem} {pc : Nat} {lv : LV} {st : List AV} (C : Cx x l g M) {a : Int32} {off : Int} {tgt : Nat} (d : decode M.1 pc = .ok (.ifCond .gt off, 3)) (ht : (pc : Int) + off = (tgt : Int)) (kt : 0 < a → V x g nL k n μ tgt lv st) (kf : ¬ (0 < a) → V x g nL k n μ (pc + 3) lv st) : V x g nL k n μ pc lv (aI a :: st) := by
  obtain ⟨p, l0, e, R, s, m, args, below, meth, c, Q⟩ := x
  intro h0 H locs ls h1 h2 h3
  exact lv_if_gt C.1 C.2.1 d ht (fun q => kt q h0 H locs ls h1 h2 h3) (fun q => kf q h0 H locs ls h1 h2 h3)
theorem v_icmp_le {x : CX} {l : Launch} {g : CG} {M : MI} {nL k n : Nat} {μ : Mem} {pc : Nat} {lv : LV} {st : List AV} (C : Cx x l g M) {a b : Int32} {off : Int} {tgt : Nat} (d : decode M.1 pc = .ok (.if_icmp .le off, 3)) (ht : (pc : Int) + off = (tgt : Int)) (kt : a ≤ b → V x g nL k n μ tgt lv st) (kf : ¬ (a ≤ b) → V x g nL k n μ (pc + 3) lv st) : V x g nL k n μ pc lv (aI b :: aI a :: st) := by
  obtain ⟨p, l0, e, R, s, m, args, below, meth, c, Q⟩ := x
  intro h0 H locs ls h1 h2 h3
  exact lv_icmp_le C.1 C.2.1 d ht (fun q => kt q h0 H locs ls h1 h2 h3) (fun q => kf q h0 H locs ls h1 h2 h3)
theorem v_if_le {x : CX} {l : Launch} {g : CG} {M : MI} {nL k n : Nat} {μ : Mem} {pc : Nat} {lv : LV} {st : List AV} (C : Cx x l g M) {a : Int32} {off : Int} {tgt : Nat} (d : decode M.1 pc = .ok (.ifCond .le off, 3)) (ht : (pc : Int) + off = (tgt : Int)) (kt : a ≤ 0 → V x g nL k n μ tgt lv st) (kf : ¬ (a ≤ 0) → V x g nL k n μ (pc + 3) lv st) : V x g nL k n μ pc lv (aI a :: st) := by
  obtain ⟨p, l0, e, R, s, m, args, below, meth, c, Q⟩ := x
  intro h0 H locs ls h1 h2 h3
  exact lv_if_le C.1 C.2.1 d ht (fun q => kt q h0 H locs ls h1 h2 h3) (fun q => kf q h0 H locs ls h1 h2 h3)
theorem rmap_inj {B : Nat} {a b : Option Nat} : a.map (fun i => B + i) = b.map (fun i => B + i) ↔ a = b := by
  cases a <;> cases b <;> simp
theorem v_acmp_eq {x : CX} {l : Launch} {g : CG} {M : MI} {nL k n : Nat} {μ : Mem} {pc : Nat} {lv : LV} {st : List AV} (C : Cx x l g M) {a b : Option Nat} {off : Int} {tgt : Nat} (d : decode M.1 pc = .ok (.if_acmp .eq off, 3)) (ht : (pc : Int) + off = (tgt : Int)) (kt : a = b → V x g nL k n μ tgt lv st) (kf : ¬ a = b → V x g nL k n μ (pc + 3) lv st) : V x g nL k n μ pc lv (aR b :: aR a :: st) := by
  obtain ⟨p, l0, e, R, s, m, args, below, meth, c, Q⟩ := x
  intro h0 H locs ls h1 h2 h3
  exact lv_acmp_eq C.1 C.2.1 d ht (fun q => kt (rmap_inj.mp q) h0 H locs ls h1 h2 h3) (fun q => kf (fun z => q (rmap_inj.mpr z)) h0 H locs ls h1 h2 h3)
theorem v_acmp_ne {x : CX} {l : Launch} {g : CG} {M : MI} {nL k n : Nat} {μ : Mem} {pc : Nat} {lv : LV} {st : List AV} (C : Cx x l g M) {a b : Option Nat} {off : Int} {tgt : Nat} (d : decode M.1 pc = .ok (.if_acmp .ne off, 3)) (ht : (pc : Int) + off = (tgt : Int)) (kt : ¬ a = b → V x g nL k n μ tgt lv st) (kf : ¬ ¬ a = b → V x g nL k n μ (pc + 3) lv st) : V x g nL k n μ pc lv (aR b :: aR a :: st) := by
  obtain ⟨p, l0, e, R, s, m, args, below, meth, c, Q⟩ := x
  intro h0 H locs ls h1 h2 h3
  exact lv_acmp_ne C.1 C.2.1 d ht (fun q => kt (fun z => q (rmap_inj.mpr z)) h0 H locs ls h1 h2 h3) (fun q => kf (fun z => z (rmap_inj.mp q)) h0 H locs ls h1 h2 h3)
theorem v_ifnull {x : CX} {l : Launch} {g : CG} {M : MI} {nL k n : Nat} {μ : Mem} {pc : Nat} {lv : LV} {st : List AV} (C : Cx x l g M) {r : Option Nat} {off : Int} {tgt : Nat} (d : decode M.1 pc = .ok (.ifnull off, 3)) (ht : (pc : Int) + off = (tgt : Int)) (kt : r = none → V x g nL k n μ tgt lv st) (kf : ¬ r = none → V x g nL k n μ (pc + 3) lv st) : V x g nL k n μ pc lv (aR r :: st) := by
  obtain ⟨p, l0, e, R, s, m, args, below, meth, c, Q⟩ := x
  intro h0 H locs ls h1 h2 h3
  cases r with
  | none => exact lv_ifnullN C.1 C.2.1 d ht (kt rfl h0 H locs ls h1 h2 h3)
  | some a => exact lv_ifnull C.1 C.2.1 d (kf (fun z => by cases z) h0 H locs ls h1 h2 h3)
theorem v_ifnonnull {x : CX} {l : Launch} {g : CG} {M : MI} {nL k n : Nat} {μ : Mem} {pc : Nat} {lv : LV} {st : List AV} (C : Cx x l g M) {r : Option Nat} {off : Int} {tgt : Nat} (d : decode M.1 pc = .ok (.ifnonnull off, 3)) (ht : (pc : Int) + off = (tgt : Int)) (kt : ¬ r = none → V x g nL k n μ tgt lv st) (kf : ¬ ¬ r = none → V x g nL k n μ (pc + 3) lv st) : V x g nL k n μ pc lv (aR r :: st) := by
  obtain ⟨p, l0, e, R, s, m, args, below, meth, c, Q⟩ := x
  intro h0 H locs ls h1 h2 h3
  cases r with
  | none => exact lv_ifnonnullN C.1 C.2.1 d (kf (fun z => z rfl) h0 H locs ls h1 h2 h3)
  | some a => exact lv_ifnonnull C.1 C.2.1 d ht (kt (fun z => by cases z) h0 H locs ls h1 h2 h3)
theorem v_goto {x : CX} {l : Launch} {g : CG} {M : MI} {nL k n : Nat} {μ : Mem} {pc : Nat} {lv : LV} {st : List AV} (C : Cx x l g M) {off : Int} {tgt : Nat} (d : decode M.1 pc = .ok (.goto off, 3)) (ht : (pc : Int) + off = (tgt : Int)) (kk : V x g nL k n μ tgt lv st) : V x g nL k n μ pc lv st := by
  obtain ⟨p, l0, e, R, s, m, args, below, meth, c, Q⟩ := x
  intro h0 H locs ls h1 h2 h3
  exact lv_goto C.1 C.2.1 d ht (kk h0 H locs ls h1 h2 h3)
theorem v_sub {x : CX} {g : CG} {nL k n : Nat} {μ : Mem} {pc : Nat} {lv lv2 : LV} {st : List AV} (hl : lvle lv2 lv) (kk : V x g nL k n μ pc lv2 st) : V x g nL k n μ pc lv st := fun h0 H locs ls h1 h2 h3 => kk h0 H locs ls h1 h2 (lvm_le h3 hl)
end
section
/-! LAYER 0, the heap: what the shallow functions read and write, and the rows of fields and arrays -/
def mfV (μ : Mem) (r : Option Nat) (ci kf : Nat) : Option AV := match r with
  | none => none
  | some a => if a < μ.1 then (match μ.2 a with
    | .inr (c, fs) => if c = ci then fs[kf]? else none
    | .inl _ => none) else none
def mfI (μ : Mem) (r : Option Nat) (ci kf : Nat) : Option Int32 := match mfV μ r ci kf with
  | some (.inl x) => some x
  | _ => none
def mfJ (μ : Mem) (r : Option Nat) (ci kf : Nat) : Option Int64 := match mfV μ r ci kf with
  | some (.inr (.inl x)) => some x
  | _ => none
def mfR (μ : Mem) (r : Option Nat) (ci kf : Nat) : Option (Option Nat) := match mfV μ r ci kf with
  | some (.inr (.inr (.inl x))) => some x
  | _ => none
def mpV (μ : Mem) (r : Option Nat) (ci kf : Nat) (v : AV) : Option Mem := match r with
  | none => none
  | some a => if a < μ.1 then (match μ.2 a with
    | .inr (c, fs) => if c = ci ∧ kf < fs.length then some (μ.1, va_up μ.2 a (.inr (ci, fs.set kf v))) else none
    | .inl _ => none) else none
def mpI (μ : Mem) (r : Option Nat) (ci kf : Nat) (x : Int32) : Option Mem := mpV μ r ci kf (aI x)
def mpJ (μ : Mem) (r : Option Nat) (ci kf : Nat) (x : Int64) : Option Mem := mpV μ r ci kf (aJ x)
def mpR (μ : Mem) (r : Option Nat) (ci kf : Nat) (x : Option Nat) : Option Mem := mpV μ r ci kf (aR x)
def mpZ (μ : Mem) (r : Option Nat) (ci kf : Nat) (x : Int32) : Option Mem := if x = 0 ∨ x = 1 then mpV μ r ci kf (aI x) else none
/-- a receiver: an object of class ci -/
def mck (μ : Mem) (r : Option Nat) (ci : Nat) : Option Nat := match r with
  | none => none
  | some a => if a < μ.1 then (match μ.2 a with
    | .inr (c, _) => if c = ci then some a else none
    | .inl _ => none) else none
def maV (μ : Mem) (t : Nat) (r : Option Nat) : Option (Nat × AA) := match r with
  | none => none
  | some a => if a < μ.1 then (match μ.2 a with
    | .inl (t2, n, f) => if t2 = t then some (n, f) else none
    | .inr _ => none) else none
def maI (μ : Mem) (t : Nat) (r : Option Nat) (i : Int32) : Option Int32 := match maV μ t r with
  | some (n, .inl f) => if i < 0 ∨ n ≤ i.toNatClampNeg then none else some (f i.toNatClampNeg)
  | _ => none
def maJ (μ : Mem) (t : Nat) (r : Option Nat) (i : Int32) : Option Int64 := match maV μ t r with
  | some (n, .inr (.inl f)) => if i < 0 ∨ n ≤ i.toNatClampNeg then none else some (f i.toNatClampNeg)
  | _ => none
def maR (μ : Mem) (t : Nat) (r : Option Nat) (i : Int32) : Option (Option Nat) := match maV μ t r with
  | some (n, .inr (.inr f)) => if i < 0 ∨ n ≤ i.toNatClampNeg then none else some (f i.toNatClampNeg)
  | _ => none
def mbV (μ : Mem) (t : Nat) (r : Option Nat) (n : Nat) (f : AA) : Option Mem := match r with
  | none => none
  | some a => some (μ.1, va_up μ.2 a (.inl (t, n, f)))
def mbI (μ : Mem) (t : Nat) (r : Option Nat) (i x : Int32) : Option Mem := match maV μ t r with
  | some (n, .inl f) => if i < 0 ∨ n ≤ i.toNatClampNeg then none else mbV μ t r n (.inl (upd f i.toNatClampNeg x))
  | _ => none
def mbZ (μ : Mem) (t : Nat) (r : Option Nat) (i x : Int32) : Option Mem := match maV μ t r with
  | some (n, .inl f) => if i < 0 ∨ n ≤ i.toNatClampNeg then none else if x = 0 ∨ x = 1 then mbV μ t r n (.inl (upd f i.toNatClampNeg x)) else none
  | _ => none
def mbJ (μ : Mem) (t : Nat) (r : Option Nat) (i : Int32) (x : Int64) : Option Mem := match maV μ t r with
  | some (n, .inr (.inl f)) => if i < 0 ∨ n ≤ i.toNatClampNeg then none else mbV μ t r n (.inr (.inl (vp_updL f i.toNatClampNeg x)))
  | _ => none
/-- the value is null or an object of class ci -/
def mbR (μ : Mem) (t ci : Nat) (r : Option Nat) (i : Int32) (x : Option Nat) : Option Mem := match maV μ t r with
  | some (n, .inr (.inr f)) => if i < 0 ∨ n ≤ i.toNatClampNeg then none else if x = none ∨ mck μ x ci = x then mbV μ t r n (.inr (.inr (va_up f i.toNatClampNeg x))) else none
  | _ => none
def mal (μ : Mem) (r : Option Nat) : Option Int32 := match r with
  | none => none
  | some a => if a < μ.1 then (match μ.2 a with
    | .inl (t, n, _) => if t < 6 then some (Int32.ofNat n) else none
    | .inr _ => none) else none
def retZ (x : Int32) (μ : Mem) : Option (Int32 × Mem) := if x = 0 ∨ x = 1 then some (x, μ) else none
theorem ob {α β : Type} {o : Option α} {f : α → Option β} {r : β} (h : o.bind f = some r) : ∃ v, o = some v ∧ f v = some r := Option.bind_eq_some_iff.mp h
theorem ifT {c : Prop} [Decidable c] {α : Type} {a b r : α} (h : (if c then a else b) = r) (hc : c) : a = r := by rw [if_pos hc] at h; exact h
theorem ifF {c : Prop} [Decidable c] {α : Type} {a b r : α} (h : (if c then a else b) = r) (hc : ¬ c) : b = r := by rw [if_neg hc] at h; exact h
theorem oz {c : Prop} [Decidable c] {α : Type} {a : Option α} {r : α} (h : (if c then none else a) = some r) : ¬ c ∧ a = some r := by
  by_cases hc : c
  · rw [if_pos hc] at h; cases h
  · rw [if_neg hc] at h; exact ⟨hc, h⟩
theorem oy {c : Prop} [Decidable c] {α : Type} {a : Option α} {r : α} (h : (if c then a else none) = some r) : c ∧ a = some r := by
  by_cases hc : c
  · rw [if_pos hc] at h; exact ⟨hc, h⟩
  · rw [if_neg hc] at h; cases h
theorem mfV_spec {μ : Mem} {r : Option Nat} {ci kf : Nat} {v : AV} (h : mfV μ r ci kf = some v) : ∃ a fs, r = some a ∧ a < μ.1 ∧ μ.2 a = .inr (ci, fs) ∧ fs[kf]? = some v := by
  cases r with
  | none => cases h
  | some a =>
    unfold mfV at h
    obtain ⟨ha, h⟩ := oy h
    rcases hc : μ.2 a with y | ⟨c, fs⟩
    · rw [hc] at h; cases h
    · rw [hc] at h
      dsimp only at h
      obtain ⟨h0, h9⟩ := oy h
      subst h0
      exact ⟨a, fs, rfl, ha, hc, h9⟩
theorem mfI_spec {μ : Mem} {r : Option Nat} {ci kf : Nat} {v : Int32} (h : mfI μ r ci kf = some v) : mfV μ r ci kf = some (aI v) := by
  unfold mfI at h
  split at h
  · rename_i x e; cases h; exact e
  · cases h
theorem mfJ_spec {μ : Mem} {r : Option Nat} {ci kf : Nat} {v : Int64} (h : mfJ μ r ci kf = some v) : mfV μ r ci kf = some (aJ v) := by
  unfold mfJ at h
  split at h
  · rename_i x e; cases h; exact e
  · cases h
theorem mfR_spec {μ : Mem} {r : Option Nat} {ci kf : Nat} {v : Option Nat} (h : mfR μ r ci kf = some v) : mfV μ r ci kf = some (aR v) := by
  unfold mfR at h
  split at h
  · rename_i x e; cases h; exact e
  · cases h
theorem mpV_spec {μ μ' : Mem} {r : Option Nat} {ci kf : Nat} {v : AV} (h : mpV μ r ci kf v = some μ') : ∃ a fs, r = some a ∧ a < μ.1 ∧ μ.2 a = .inr (ci, fs) ∧ kf < fs.length ∧ μ' = (μ.1, va_up μ.2 a (.inr (ci, fs.set kf v))) := by
  cases r with
  | none => cases h
  | some a =>
    unfold mpV at h
    obtain ⟨ha, h⟩ := oy h
    rcases hc : μ.2 a with y | ⟨c, fs⟩
    · rw [hc] at h; cases h
    · rw [hc] at h
      dsimp only at h
      obtain ⟨⟨h0, hk⟩, h9⟩ := oy h
      subst h0
      exact ⟨a, fs, rfl, ha, hc, hk, (Option.some.inj h9).symm⟩
theorem maV_spec {μ : Mem} {t : Nat} {r : Option Nat} {n : Nat} {f : AA} (h : maV μ t r = some (n, f)) : ∃ a, r = some a ∧ a < μ.1 ∧ μ.2 a = .inl (t, n, f) := by
  cases r with
  | none => cases h
  | some a =>
    unfold maV at h
    obtain ⟨ha, h⟩ := oy h
    rcases hc : μ.2 a with ⟨t2, n2, f2⟩ | y
    · rw [hc] at h
      dsimp only at h
      obtain ⟨h0, h9⟩ := oy h
      clear h
      subst h0
      cases h9
      exact ⟨a, rfl, ha, hc⟩
    · rw [hc] at h; cases h
theorem mck_spec {μ : Mem} {r : Option Nat} {ci b : Nat} (h : mck μ r ci = some b) : ∃ fs, r = some b ∧ b < μ.1 ∧ μ.2 b = .inr (ci, fs) := by
  cases r with
  | none => cases h
  | some a =>
    unfold mck at h
    obtain ⟨ha, h⟩ := oy h
    rcases hc : μ.2 a with y | ⟨c, fs⟩
    · rw [hc] at h; cases h
    · rw [hc] at h
      dsimp only at h
      obtain ⟨h0, h9⟩ := oy h
      clear h
      subst h0
      cases h9
      exact ⟨fs, rfl, ha, hc⟩
abbrev Cty {x : CX} {l : Launch} {g : CG} {M : MI} (C : Cx x l g M) : g.2.2.map (fun q => q.2) = arrTys := C.2.2.2.2.2.2.2.2.2.2.2.2.1
abbrev Cex {x : CX} {l : Launch} {g : CG} {M : MI} (C : Cx x l g M) : Ext g (xs x) := C.2.2.2.2.2.2.2.2.2.2.2.2.2.1
abbrev Cns {x : CX} {l : Launch} {g : CG} {M : MI} (C : Cx x l g M) : ∀ w ∈ lw_ns, va_Nw w (xs x) := C.2.2.2.2.2.2.2.2.2.2.2.2.2.2
/-- what a getfield needs: the class of number ci, its field kf, the link -/
def GF (own : String) (idx ci kf : Nat) : Prop := ∃ (C : String) (T : u_T) (N : Nat), vwCl[ci]? = some (C, T, N) ∧ kf < N ∧ (∀ w ∈ u_ws C T N, w ∈ lw_ok) ∧ (T kf).1 = C ∧ (Cond.fieldLink own idx C (T kf).2.1 (T kf).2.2.1 ∈ lw_ok ∨ ∃ host, Cond.fieldLinkNest own idx C (T kf).2.1 (T kf).2.2.1 host ∈ lw_ns)
def PF (own mn : String) (idx ci kf : Nat) (ty : FieldType) : Prop := ∃ (C : String) (T : u_T) (N : Nat) (ty0 : Nat → FieldType), vwCl[ci]? = some (C, T, N) ∧ kf < N ∧ (∀ w ∈ u_ws C T N, w ∈ lw_ok) ∧ (T kf).1 = C ∧ (∀ k, k < N → parseFieldDescriptor (T k).2.2.1 = some (ty0 k)) ∧ (∀ a, a < N → ∀ b, b < N → a ≠ b → (T a).2.1 ≠ (T b).2.1) ∧ parseFieldDescriptor (T kf).2.2.1 = some ty ∧ (((T kf).2.2.2 = false ∧ (Cond.fieldLink own idx C (T kf).2.1 (T kf).2.2.1 ∈ lw_ok ∨ ∃ host, Cond.fieldLinkNest own idx C (T kf).2.1 (T kf).2.2.1 host ∈ lw_ns)) ∨ ((T kf).2.2.2 = true ∧ mn = "<init>" ∧ C = own ∧ Cond.fieldLink own idx C (T kf).2.1 (T kf).2.2.1 ∈ lw_ok))
theorem v_getV {x : CX} {l : Launch} {g : CG} {M : MI} {nL k n : Nat} {μ : Mem} {pc : Nat} {lv : LV} {st : List AV} (C : Cx x l g M) {idx ci kf : Nat} {r : Option Nat} {v : AV} (d : decode M.1 pc = .ok (.getfield idx, 3)) (gf : GF M.2.2.1 idx ci kf) (e : mfV μ r ci kf = some v) (kk : V x g nL k n μ (pc + 3) lv (v :: st)) : V x g nL k n μ pc lv (aR r :: st) := by
  obtain ⟨p, l0, e0, R, s, m, args, below, meth, c, Q⟩ := x
  intro h0 H locs ls h1 h2 h3
  obtain ⟨a, fs, rfl, ha, hc, hv⟩ := mfV_spec e
  obtain ⟨Cn, T, N, q1, q2, q3, q4, q5⟩ := gf
  have hat : (hw g μ)[a]? = some (g.1.1 + a, .inr (ci, fs.map (av_v g.1))) := by rw [hw_at g μ ha, hc]; rfl
  have hfv : (fs.map (av_v g.1))[kf]? = some (av_v g.1 v) := by rw [List.getElem?_map, hv]; rfl
  rcases q5 with q5 | ⟨host, q5⟩
  · exact va_get C.1 C.2.1 C.2.2.2.2.1 q3 C.2.2.2.1 C.2.2.2.2.2.1 h1 a hat q1 kf q2 (C.2.2.2.2.1 _ q5) (by rw [q4]; exact fun _ z => z) hfv d (kk h0 H locs ls h1 h2 h3)
  · exact va_getN C.1 C.2.1 C.2.2.2.2.1 q3 C.2.2.2.1 C.2.2.2.2.2.1 h1 a hat q1 kf q2 (va_Nw.use rfl (Cns C _ q5)) (by rw [q4]; exact fun _ z => z) hfv d (kk h0 H locs ls h1 h2 h3)
theorem v_getI {x : CX} {l : Launch} {g : CG} {M : MI} {nL k n : Nat} {μ : Mem} {pc : Nat} {lv : LV} {st : List AV} (C : Cx x l g M) {idx ci kf : Nat} {r : Option Nat} {v : Int32} (d : decode M.1 pc = .ok (.getfield idx, 3)) (gf : GF M.2.2.1 idx ci kf) (e : mfI μ r ci kf = some v) (kk : V x g nL k n μ (pc + 3) lv (aI v :: st)) : V x g nL k n μ pc lv (aR r :: st) := v_getV C d gf (mfI_spec e) kk
theorem v_getJ {x : CX} {l : Launch} {g : CG} {M : MI} {nL k n : Nat} {μ : Mem} {pc : Nat} {lv : LV} {st : List AV} (C : Cx x l g M) {idx ci kf : Nat} {r : Option Nat} {v : Int64} (d : decode M.1 pc = .ok (.getfield idx, 3)) (gf : GF M.2.2.1 idx ci kf) (e : mfJ μ r ci kf = some v) (kk : V x g nL k n μ (pc + 3) lv (aJ v :: st)) : V x g nL k n μ pc lv (aR r :: st) := v_getV C d gf (mfJ_spec e) kk
theorem v_getR {x : CX} {l : Launch} {g : CG} {M : MI} {nL k n : Nat} {μ : Mem} {pc : Nat} {lv : LV} {st : List AV} (C : Cx x l g M) {idx ci kf : Nat} {r v : Option Nat} (d : decode M.1 pc = .ok (.getfield idx, 3)) (gf : GF M.2.2.1 idx ci kf) (e : mfR μ r ci kf = some v) (kk : V x g nL k n μ (pc + 3) lv (aR v :: st)) : V x g nL k n μ pc lv (aR r :: st) := v_getV C d gf (mfR_spec e) kk
theorem hold_set {g : CG} {μ : Mem} {H1 : Heap} {a : Nat} {E : ACl} {w : Nat × va_E} (hw0 : w = (g.1.1 + a, ac_c g E)) (h : va_P g.2.1 vwCl ((hw g μ).set a w) H1) : Hold g (μ.1, va_up μ.2 a E) H1 := by
  subst hw0
  rw [hw_set] at h
  exact h
theorem v_putV {x : CX} {l : Launch} {g : CG} {M : MI} {nL k n : Nat} {μ μ' : Mem} {pc : Nat} {lv : LV} {st : List AV} (C : Cx x l g M) {idx ci kf : Nat} {ty : FieldType} {r : Option Nat} {v : AV} (hn : narrow ty (av_v g.1 v) = av_v g.1 v) (hf : fits ty (av_v g.1 v) = true) (d : decode M.1 pc = .ok (.putfield idx, 3)) (pf : PF M.2.2.1 M.2.2.2.1 idx ci kf ty) (e : mpV μ r ci kf v = some μ') (kk : V x g nL k n μ' (pc + 3) lv st) : V x g nL k n μ pc lv (v :: aR r :: st) := by
  obtain ⟨p, l0, e0, R, s, m, args, below, meth, c, Q⟩ := x
  intro h0 H locs ls h1 h2 h3
  obtain ⟨a, fs, rfl, ha, hc, hk, rfl⟩ := mpV_spec e
  obtain ⟨Cn, T, N, ty0, q1, q2, q3, q4, q6, q7, q8, q5⟩ := pf
  have hat : (hw g μ)[a]? = some (g.1.1 + a, .inr (ci, fs.map (av_v g.1))) := by rw [hw_at g μ ha, hc]; rfl
  have hl : kf < (fs.map (av_v g.1)).length := by rw [List.length_map]; exact hk
  have fin : ∀ (H1 : Heap) (locs1 : List Loc), va_P g.2.1 vwCl ((hw g μ).set a (g.1.1 + a, .inr (ci, (fs.map (av_v g.1)).set kf (av_v g.1 v)))) H1 → va_D (fun q => g.1.1 ≤ q) ((hw g μ).set a (g.1.1 + a, .inr (ci, (fs.map (av_v g.1)).set kf (av_v g.1 v)))) → va_S (fun q => g.1.1 ≤ q) s.heap H1 locs1 → W p l0 e0 R s m args below meth c H1 locs1 k n Q (F0 m (pc + 3) ls (st.map (av_v g.1))) := fun H1 locs1 y _ w =>
    kk h0 H1 locs1 ls (hold_set (E := .inr (ci, fs.set kf v)) (by show _ = (_, Sum.inr (ci, (fs.set kf v).map (av_v g.1))); rw [List.map_set]) y) w h3
  have hsame : ∀ y, s.fieldFound? (T kf).1 (T kf).2.1 (T kf).2.2.1 = some y → s.fieldFound? Cn (T kf).2.1 (T kf).2.2.1 = some y := by rw [q4]; exact fun _ z => z
  rcases q5 with ⟨q5, q9 | ⟨host, q9⟩⟩ | ⟨q5, q9, q10, q11⟩
  · exact va_put C.1 C.2.1 C.2.2.2.2.1 q3 ty0 q6 q7 C.2.2.2.1 C.2.2.2.2.2.1 h1 (hw_D g μ) h2 a hat q1 kf q2 (C.2.2.2.2.1 _ q9) hsame q5 q8 hn hf hl d fin
  · exact va_putN C.1 C.2.1 C.2.2.2.2.1 q3 ty0 q6 q7 C.2.2.2.1 C.2.2.2.2.2.1 h1 (hw_D g μ) h2 a hat q1 kf q2 (va_Nw.use rfl (Cns C _ q9)) hsame q5 q8 hn hf hl d fin
  · exact va_putF C.1 C.2.1 C.2.2.2.2.1 q3 ty0 q6 q7 C.2.2.2.1 C.2.2.2.2.2.1 h1 (hw_D g μ) h2 a hat q1 kf q2 (C.2.2.2.2.1 _ q11) hsame q5 (C.2.2.2.2.2.2.2.2.2.2.2.1.trans q9) (q4.trans q10) q8 hn hf hl d fin
theorem v_putI {x : CX} {l : Launch} {g : CG} {M : MI} {nL k n : Nat} {μ μ2 : Mem} {pc : Nat} {lv : LV} {st : List AV} (C : Cx x l g M) {idx ci kf : Nat} {r : Option Nat} {v : Int32} (d : decode M.1 pc = .ok (.putfield idx, 3)) (pf : PF M.2.2.1 M.2.2.2.1 idx ci kf .int) (e : mpI μ r ci kf v = some μ2) (kk : V x g nL k n μ2 (pc + 3) lv st) : V x g nL k n μ pc lv (aI v :: aR r :: st) := v_putV C rfl rfl d pf e kk
theorem v_putJ {x : CX} {l : Launch} {g : CG} {M : MI} {nL k n : Nat} {μ μ2 : Mem} {pc : Nat} {lv : LV} {st : List AV} (C : Cx x l g M) {idx ci kf : Nat} {r : Option Nat} {v : Int64} (d : decode M.1 pc = .ok (.putfield idx, 3)) (pf : PF M.2.2.1 M.2.2.2.1 idx ci kf .long) (e : mpJ μ r ci kf v = some μ2) (kk : V x g nL k n μ2 (pc + 3) lv st) : V x g nL k n μ pc lv (aJ v :: aR r :: st) := v_putV C rfl rfl d pf e kk
theorem v_putR {x : CX} {l : Launch} {g : CG} {M : MI} {nL k n : Nat} {μ μ2 : Mem} {pc : Nat} {lv : LV} {st : List AV} (C : Cx x l g M) {idx ci kf : Nat} {ty : FieldType} {r v : Option Nat} (d : decode M.1 pc = .ok (.putfield idx, 3)) (pf : PF M.2.2.1 M.2.2.2.1 idx ci kf ty) (hty : refKind ty = true) (e : mpR μ r ci kf v = some μ2) (kk : V x g nL k n μ2 (pc + 3) lv st) : V x g nL k n μ pc lv (aR v :: aR r :: st) := by
  refine v_putV C ?_ ?_ d pf e kk
  · cases ty <;> first | (cases hty; done) | (cases v <;> rfl)
  · cases ty <;> first | (cases hty; done) | (cases v <;> rfl)
theorem bool_nar {x : Int32} (h : x = 0 ∨ x = 1) : narrow .boolean (.int x) = .int x ∧ fits .boolean (.int x) = true := by
  rcases h with rfl | rfl
  · exact ⟨rfl, rfl⟩
  · exact ⟨rfl, rfl⟩
theorem v_putZ {x : CX} {l : Launch} {g : CG} {M : MI} {nL k n : Nat} {μ μ2 : Mem} {pc : Nat} {lv : LV} {st : List AV} (C : Cx x l g M) {idx ci kf : Nat} {r : Option Nat} {v : Int32} (d : decode M.1 pc = .ok (.putfield idx, 3)) (pf : PF M.2.2.1 M.2.2.2.1 idx ci kf .boolean) (e : mpZ μ r ci kf v = some μ2) (kk : V x g nL k n μ2 (pc + 3) lv st) : V x g nL k n μ pc lv (aI v :: aR r :: st) := by
  unfold mpZ at e
  obtain ⟨hb, e⟩ := oy e
  exact v_putV C (bool_nar hb).1 (bool_nar hb).2 d pf e kk
end
section
/-! LAYER 0, arrays -/
theorem tyat {g : CG} (h : g.2.2.map (fun q => q.2) = arrTys) {t : Nat} {ty : FieldType} (ht : arrTys[t]? = some ty) : g.2.2[t]? = some ((g.2.2.getD t default).1, ty) := by
  have h1 : (g.2.2.map (fun q => q.2))[t]? = some ty := by rw [h]; exact ht
  rw [List.getElem?_map] at h1
  cases hq : g.2.2[t]? with
  | none => rw [hq] at h1; cases h1
  | some q =>
    rw [hq] at h1
    have h2 : q.2 = ty := Option.some.inj h1
    rw [List.getD_eq_getElem?_getD, hq]
    show some q = some (q.1, ty)
    rw [← h2]
theorem arr_at {g : CG} {μ : Mem} {a t n : Nat} {f : AA} (ha : a < μ.1) (hc : μ.2 a = .inl (t, n, f)) : (hw g μ)[a]? = some (g.1.1 + a, .inl ((g.2.2.getD t default).1, n, aa_c g.1 f)) := by rw [hw_at g μ ha, hc]; rfl
theorem v_iaload {x : CX} {l : Launch} {g : CG} {M : MI} {nL k n : Nat} {μ μ2 : Mem} {pc : Nat} {lv : LV} {st : List AV} (C : Cx x l g M) {i : Int32} {r : Option Nat} {v : Int32} (d : decode M.1 pc = .ok (.iaload, 1)) (e : maI μ 0 r i = some v) (kk : V x g nL k n μ (pc + 1) lv (aI v :: st)) : V x g nL k n μ pc lv (aI i :: aR r :: st) := by
  obtain ⟨p, l0, e0, R, s, m, args, below, meth, c, Q⟩ := x
  intro h0 H locs ls h1 h2 h3
  unfold maI at e
  split at e
  · rename_i N f ev
    obtain ⟨hin, e⟩ := oz e
    cases e
    obtain ⟨a, rfl, ha, hc⟩ := maV_spec ev
    exact va_iald C.1 C.2.1 C.2.2.2.2.2.1 h1 a 0 (arr_at ha hc) (tyat (Cty C) (t := 0) rfl) hin d (kk h0 H locs ls h1 h2 h3)
  · cases e
theorem v_baload {x : CX} {l : Launch} {g : CG} {M : MI} {nL k n : Nat} {μ μ2 : Mem} {pc : Nat} {lv : LV} {st : List AV} (C : Cx x l g M) {i : Int32} {r : Option Nat} {v : Int32} (d : decode M.1 pc = .ok (.baload, 1)) (e : maI μ 2 r i = some v) (kk : V x g nL k n μ (pc + 1) lv (aI v :: st)) : V x g nL k n μ pc lv (aI i :: aR r :: st) := by
  obtain ⟨p, l0, e0, R, s, m, args, below, meth, c, Q⟩ := x
  intro h0 H locs ls h1 h2 h3
  unfold maI at e
  split at e
  · rename_i N f ev
    obtain ⟨hin, e⟩ := oz e
    cases e
    obtain ⟨a, rfl, ha, hc⟩ := maV_spec ev
    exact va_zald C.1 C.2.1 C.2.2.2.2.2.1 h1 a 2 (arr_at ha hc) (tyat (Cty C) (t := 2) rfl) hin d (kk h0 H locs ls h1 h2 h3)
  · cases e
theorem v_laload {x : CX} {l : Launch} {g : CG} {M : MI} {nL k n : Nat} {μ μ2 : Mem} {pc : Nat} {lv : LV} {st : List AV} (C : Cx x l g M) {i : Int32} {r : Option Nat} {v : Int64} (d : decode M.1 pc = .ok (.laload, 1)) (e : maJ μ 1 r i = some v) (kk : V x g nL k n μ (pc + 1) lv (aJ v :: st)) : V x g nL k n μ pc lv (aI i :: aR r :: st) := by
  obtain ⟨p, l0, e0, R, s, m, args, below, meth, c, Q⟩ := x
  intro h0 H locs ls h1 h2 h3
  unfold maJ at e
  split at e
  · rename_i N f ev
    obtain ⟨hin, e⟩ := oz e
    cases e
    obtain ⟨a, rfl, ha, hc⟩ := maV_spec ev
    exact va_lald C.1 C.2.1 C.2.2.2.2.2.1 h1 a 1 (arr_at ha hc) (tyat (Cty C) (t := 1) rfl) hin d (kk h0 H locs ls h1 h2 h3)
  · cases e
theorem v_aaload4 {x : CX} {l : Launch} {g : CG} {M : MI} {nL k n : Nat} {μ μ2 : Mem} {pc : Nat} {lv : LV} {st : List AV} (C : Cx x l g M) {i : Int32} {r : Option Nat} {v : Option Nat} (d : decode M.1 pc = .ok (.aaload, 1)) (e : maR μ 4 r i = some v) (kk : V x g nL k n μ (pc + 1) lv (aR v :: st)) : V x g nL k n μ pc lv (aI i :: aR r :: st) := by
  obtain ⟨p, l0, e0, R, s, m, args, below, meth, c, Q⟩ := x
  intro h0 H locs ls h1 h2 h3
  unfold maR at e
  split at e
  · rename_i N f ev
    obtain ⟨hin, e⟩ := oz e
    cases e
    obtain ⟨a, rfl, ha, hc⟩ := maV_spec ev
    exact va_aldq C.1 C.2.1 C.2.2.2.2.2.1 h1 a 4 (arr_at ha hc) (tyat (Cty C) (t := 4) rfl) hin d (kk h0 H locs ls h1 h2 h3)
  · cases e
theorem v_aaload5 {x : CX} {l : Launch} {g : CG} {M : MI} {nL k n : Nat} {μ μ2 : Mem} {pc : Nat} {lv : LV} {st : List AV} (C : Cx x l g M) {i : Int32} {r : Option Nat} {v : Option Nat} (d : decode M.1 pc = .ok (.aaload, 1)) (e : maR μ 5 r i = some v) (kk : V x g nL k n μ (pc + 1) lv (aR v :: st)) : V x g nL k n μ pc lv (aI i :: aR r :: st) := by
  obtain ⟨p, l0, e0, R, s, m, args, below, meth, c, Q⟩ := x
  intro h0 H locs ls h1 h2 h3
  unfold maR at e
  split at e
  · rename_i N f ev
    obtain ⟨hin, e⟩ := oz e
    cases e
    obtain ⟨a, rfl, ha, hc⟩ := maV_spec ev
    exact va_aldq C.1 C.2.1 C.2.2.2.2.2.1 h1 a 5 (arr_at ha hc) (tyat (Cty C) (t := 5) rfl) hin d (kk h0 H locs ls h1 h2 h3)
  · cases e
theorem nar_bool {x : Int32} (h : x = 0 ∨ x = 1) : vp_nar .boolean x = x := by
  rcases h with rfl | rfl <;> rfl
theorem v_iastore {x : CX} {l : Launch} {g : CG} {M : MI} {nL k n : Nat} {μ μ2 : Mem} {pc : Nat} {lv : LV} {st : List AV} (C : Cx x l g M) {i : Int32} {r : Option Nat} {v : Int32} (d : decode M.1 pc = .ok (.iastore, 1)) (e : mbI μ 0 r i v = some μ2) (kk : V x g nL k n μ2 (pc + 1) lv st) : V x g nL k n μ pc lv (aI v :: aI i :: aR r :: st) := by
  obtain ⟨p, l0, e0, R, s, m, args, below, meth, c, Q⟩ := x
  intro h0 H locs ls h1 h2 h3
  unfold mbI at e
  split at e
  · rename_i N f ev
    obtain ⟨hin, e⟩ := oz e
    obtain ⟨a, rfl, ha, hc⟩ := maV_spec ev
    cases e
    exact va_iast C.1 C.2.1 C.2.2.2.2.2.1 h1 (hw_D g μ) h2 a 0 (arr_at ha hc) (tyat (Cty C) (t := 0) rfl) hin d (fun H1 locs1 y _ w => kk h0 H1 locs1 ls (hold_set (E := .inl (0, N, .inl (upd f i.toNatClampNeg v))) (by rfl) y) w h3)
  · cases e
theorem v_bastore {x : CX} {l : Launch} {g : CG} {M : MI} {nL k n : Nat} {μ μ2 : Mem} {pc : Nat} {lv : LV} {st : List AV} (C : Cx x l g M) {i : Int32} {r : Option Nat} {v : Int32} (d : decode M.1 pc = .ok (.bastore, 1)) (e : mbZ μ 2 r i v = some μ2) (kk : V x g nL k n μ2 (pc + 1) lv st) : V x g nL k n μ pc lv (aI v :: aI i :: aR r :: st) := by
  obtain ⟨p, l0, e0, R, s, m, args, below, meth, c, Q⟩ := x
  intro h0 H locs ls h1 h2 h3
  unfold mbZ at e
  split at e
  · rename_i N f ev
    obtain ⟨hin, e⟩ := oz e
    obtain ⟨hz, e⟩ := oy e
    obtain ⟨a, rfl, ha, hc⟩ := maV_spec ev
    cases e
    exact va_zast C.1 C.2.1 C.2.2.2.2.2.1 h1 (hw_D g μ) h2 a 2 (arr_at ha hc) (tyat (Cty C) (t := 2) rfl) hin d (fun H1 locs1 y _ w => kk h0 H1 locs1 ls (hold_set (E := .inl (2, N, .inl (upd f i.toNatClampNeg v))) (by rw [nar_bool hz]; rfl) y) w h3)
  · cases e
theorem v_lastore {x : CX} {l : Launch} {g : CG} {M : MI} {nL k n : Nat} {μ μ2 : Mem} {pc : Nat} {lv : LV} {st : List AV} (C : Cx x l g M) {i : Int32} {r : Option Nat} {v : Int64} (d : decode M.1 pc = .ok (.lastore, 1)) (e : mbJ μ 1 r i v = some μ2) (kk : V x g nL k n μ2 (pc + 1) lv st) : V x g nL k n μ pc lv (aJ v :: aI i :: aR r :: st) := by
  obtain ⟨p, l0, e0, R, s, m, args, below, meth, c, Q⟩ := x
  intro h0 H locs ls h1 h2 h3
  unfold mbJ at e
  split at e
  · rename_i N f ev
    obtain ⟨hin, e⟩ := oz e
    obtain ⟨a, rfl, ha, hc⟩ := maV_spec ev
    cases e
    exact va_last C.1 C.2.1 C.2.2.2.2.2.1 h1 (hw_D g μ) h2 a 1 (arr_at ha hc) (tyat (Cty C) (t := 1) rfl) hin d (fun H1 locs1 y _ w => kk h0 H1 locs1 ls (hold_set (E := .inl (1, N, .inr (.inl (vp_updL f i.toNatClampNeg v)))) (by rfl) y) w h3)
  · cases e
theorem v_alen {x : CX} {l : Launch} {g : CG} {M : MI} {nL k n : Nat} {μ μ2 : Mem} {pc : Nat} {lv : LV} {st : List AV} (C : Cx x l g M) {r : Option Nat} {v : Int32} (d : decode M.1 pc = .ok (.arraylength, 1)) (e : mal μ r = some v) (kk : V x g nL k n μ (pc + 1) lv (aI v :: st)) : V x g nL k n μ pc lv (aR r :: st) := by
  obtain ⟨p, l0, e0, R, s, m, args, below, meth, c, Q⟩ := x
  intro h0 H locs ls h1 h2 h3
  cases r with
  | none => cases e
  | some a =>
    unfold mal at e
    obtain ⟨ha, e⟩ := oy e
    rcases hc : μ.2 a with ⟨t, N, f⟩ | y
    · rw [hc] at e
      dsimp only at e
      obtain ⟨ht, e⟩ := oy e
      have hty : arrTys[t]? = some (arrTys.getD t .int) := by
        rw [List.getD_eq_getElem?_getD]
        have : t < arrTys.length := ht
        rw [List.getElem?_eq_getElem this]
        rfl
      exact va_alen C.1 C.2.1 C.2.2.2.2.2.1 h1 a t (arr_at ha hc) (tyat (Cty C) hty) (Option.some.inj e) d (kk h0 H locs ls h1 h2 h3)
    · rw [hc] at e; cases e
end
section
/-! LAYER 0, contracts, calls, returns -/
/-- a method's contract: from μ it answers r and leaves μ' -/
def CtB (g : CG) (μ : Mem) (U : State) : Prop := U.heap.size = g.1.1 + μ.1 ∧ Hold g μ U.heap ∧ va_K g.2.1 vwCl g.2.2 U ∧ g.2.2.map (fun q => q.2) = arrTys ∧ Ext g U ∧ (∀ w ∈ lw_ns, va_Nw w U)
def CtP (g : CG) (av : List AV) (μ : Mem) : Array Value → State → Prop := va_Pc (av.map (av_v g.1)) (CtB g μ)
def CtQ (g : CG) (M : MI) (μ : Mem) (r : Option AV) (μ' : Mem) : Array Value → State → Outcome → State → Prop := fun _ st oc t => oc = .returned (r.map (av_v g.1)) ∧ μ'.1 = μ.1 + M.2.2.2.2.2.cells ∧ Hold g μ' t.heap ∧ va_F (fun q => g.1.1 ≤ q) st t
def Ct (l : Launch) (y : MethodName) (M : MI) (g : CG) (av : List AV) (μ : Mem) (r : Option AV) (μ' : Mem) : Prop := Met l y (.code y M.1 M.2.1 M.2.2.2.2.1 :: lw_ok) M.2.2.2.2.2 (CtP g av μ) (CtQ g M μ r μ') M.2.2.2.2.2.cells M.2.2.2.2.2.slots (fun q => g.1.1 ≤ q)
/-- what the walk has promised: the contract's end -/
def Prom (x : CX) (g : CG) (M : MI) (μ : Mem) (r : Option AV) (μ' : Mem) : Prop := (xs x).heap.size = g.1.1 + μ.1 ∧ xQ x = MQ (xb x) (CtQ g M μ r μ') (xa x) (xs x) M.2.2.2.2.2.cells M.2.2.2.2.2.slots (fun q => g.1.1 ≤ q)
theorem ct_of {l : Launch} {y : MethodName} {M : MI} {g : CG} {av : List AV} {lv : LV} {μ : Mem} {r : Option AV} {μ' : Mem} (hy : plainName y.cls = true ∧ y.cls = M.2.2.1 ∧ y.name = M.2.2.2.1) (hn : (lg_sl (av.map (av_v g.1))).length ≤ M.2.1) (hlv : lv_args 0 (av.map (av_v g.1)) = lvm g.1 lv) (h : ∀ x : CX, Cx x l g M → Prom x g M μ r μ' → V x g M.2.1 0 0 μ 0 lv []) : Ct l y M g av μ r μ' := by
  refine Met.ofW (cc := M.1) (maxL := M.2.1) (ret := M.2.2.2.2.1) hy.1 rfl ?_
  intro p e s m args below meth c s₁ B hml hv
  obtain ⟨rfl, hsz, hP, hK, hty, hE, hN⟩ := hv
  have hts := atoms_spec B.pre
  have hown : s.vm.findClass M.2.2.1 = some m.cls := by rw [← hy.2.1]; exact findClass_of_methodNamed B.named
  have C : Cx (p, l, e, M.2.2.2.2.2, s, m, (av.map (av_v g.1)).toArray, below, meth, c, MQ below (CtQ g M μ r μ') (av.map (av_v g.1)).toArray s M.2.2.2.2.2.cells M.2.2.2.2.2.slots (fun q => g.1.1 ≤ q)) l g M := ⟨B.exec, B.bytes, hml, hown, fun w hw => hts w (List.mem_cons_of_mem _ hw), hK, B.notSynchronized, by show g.1.1 ≤ s.heap.size; omega, rfl, rfl, B.returns, (name_of_methodNamed B.named B.method).1.trans hy.2.2, hty, hE, hN⟩
  have K := h _ C ⟨hsz, rfl⟩ (by show s.heap.size + 0 = _; omega) s.heap [] _ hP va_S.rf (by rw [← hlv]; exact lv_entry _ hn)
  rw [lg_entry_eq]
  exact K
theorem v_end {x : CX} {l : Launch} {g : CG} {M : MI} {k n : Nat} {μ0 μ : Mem} {r : Option AV} {H : Heap} {locs : List Loc} (C : Cx x l g M) (F : Prom x g M μ0 r μ) (hk : k = M.2.2.2.2.2.cells) (h0 : (xs x).heap.size + k = g.1.1 + μ.1) (h1 : Hold g μ H) (h2 : va_S (fun q => g.1.1 ≤ q) (xs x).heap H locs) (t : State) (ht : t.heap = H) : CtQ g M μ0 r μ (xa x) (xs x) (.returned (r.map (av_v g.1))) t :=
  ⟨rfl, by have := F.1; omega, by rw [ht]; exact h1, h2.F ht⟩
theorem v_vret {x : CX} {l : Launch} {g : CG} {M : MI} {nL k n : Nat} {μ0 μ μ9 : Mem} {pc : Nat} {lv : LV} {rv : Unit} (C : Cx x l g M) (F : Prom x g M μ0 none μ9) (hM : M.2.2.2.2.1 = none ∧ k = M.2.2.2.2.2.cells ∧ n ≤ M.2.2.2.2.2.slots) (d : decode M.1 pc = .ok (.return_, 1)) (h : some ((), μ) = some (rv, μ9)) : V x g nL k n μ pc lv [] := by
  cases h
  obtain ⟨p, l0, e, R, s, m, args, below, meth, c, Q⟩ := x
  intro h0 H locs ls h1 h2 h3
  obtain ⟨hr, rfl, hn⟩ := hM
  have hQ : Q = MQ below (CtQ g M μ0 none μ) args s M.2.2.2.2.2.cells M.2.2.2.2.2.slots (fun q => g.1.1 ≤ q) := F.2
  show W p l0 e R s m args below meth c H locs M.2.2.2.2.2.cells n Q (F0 m pc ls ([].map (av_v g.1)))
  rw [hQ]
  exact W.widen (Nat.le_refl _) hn (W.vret C.1 C.2.1 (C.2.2.2.2.2.2.2.2.2.2.1.trans hr) (fun t ht _ => v_end (r := none) (n := n) C F rfl h0 h1 h2 t ht) h2.2.2 d C.2.2.2.2.2.2.1)
theorem v_iret {x : CX} {l : Launch} {g : CG} {M : MI} {nL k n : Nat} {μ0 μ μ9 : Mem} {pc : Nat} {lv : LV} {v rv : Int32} (C : Cx x l g M) (F : Prom x g M μ0 (some (aI rv)) μ9) (hM : M.2.2.2.2.1 = some .int ∧ k = M.2.2.2.2.2.cells ∧ n ≤ M.2.2.2.2.2.slots) (d : decode M.1 pc = .ok (.ireturn, 1)) (h : some (v, μ) = some (rv, μ9)) : V x g nL k n μ pc lv [aI v] := by
  cases h
  obtain ⟨p, l0, e, R, s, m, args, below, meth, c, Q⟩ := x
  intro h0 H locs ls h1 h2 h3
  obtain ⟨hr, rfl, hn⟩ := hM
  have hQ : Q = MQ below (CtQ g M μ0 (some (aI v)) μ) args s M.2.2.2.2.2.cells M.2.2.2.2.2.slots (fun q => g.1.1 ≤ q) := F.2
  show W p l0 e R s m args below meth c H locs M.2.2.2.2.2.cells n Q (F0 m pc ls ([aI v].map (av_v g.1)))
  rw [hQ]
  exact W.widen (Nat.le_refl _) hn (W.iret C.1 C.2.1 (C.2.2.2.2.2.2.2.2.2.2.1.trans hr) (fun t ht _ => v_end (r := some (aI v)) (n := n) C F rfl h0 h1 h2 t ht) h2.2.2 d C.2.2.2.2.2.2.1)
theorem v_lret {x : CX} {l : Launch} {g : CG} {M : MI} {nL k n : Nat} {μ0 μ μ9 : Mem} {pc : Nat} {lv : LV} {v rv : Int64} (C : Cx x l g M) (F : Prom x g M μ0 (some (aJ rv)) μ9) (hM : M.2.2.2.2.1 = some .long ∧ k = M.2.2.2.2.2.cells ∧ n ≤ M.2.2.2.2.2.slots) (d : decode M.1 pc = .ok (.lreturn, 1)) (h : some (v, μ) = some (rv, μ9)) : V x g nL k n μ pc lv [aJ v] := by
  cases h
  obtain ⟨p, l0, e, R, s, m, args, below, meth, c, Q⟩ := x
  intro h0 H locs ls h1 h2 h3
  obtain ⟨hr, rfl, hn⟩ := hM
  have hQ : Q = MQ below (CtQ g M μ0 (some (aJ v)) μ) args s M.2.2.2.2.2.cells M.2.2.2.2.2.slots (fun q => g.1.1 ≤ q) := F.2
  show W p l0 e R s m args below meth c H locs M.2.2.2.2.2.cells n Q (F0 m pc ls ([aJ v].map (av_v g.1)))
  rw [hQ]
  exact W.widen (Nat.le_refl _) hn (W.lret C.1 C.2.1 (C.2.2.2.2.2.2.2.2.2.2.1.trans hr) (fun t ht _ => v_end (r := some (aJ v)) (n := n) C F rfl h0 h1 h2 t ht) h2.2.2 d C.2.2.2.2.2.2.1)
theorem v_zret {x : CX} {l : Launch} {g : CG} {M : MI} {nL k n : Nat} {μ0 μ μ9 : Mem} {pc : Nat} {lv : LV} {v rv : Int32} (C : Cx x l g M) (F : Prom x g M μ0 (some (aI rv)) μ9) (hM : M.2.2.2.2.1 = some .boolean ∧ k = M.2.2.2.2.2.cells ∧ n ≤ M.2.2.2.2.2.slots) (d : decode M.1 pc = .ok (.ireturn, 1)) (h : retZ v μ = some (rv, μ9)) : V x g nL k n μ pc lv [aI v] := by
  unfold retZ at h
  obtain ⟨hz, h⟩ := oy h
  cases h
  obtain ⟨p, l0, e, R, s, m, args, below, meth, c, Q⟩ := x
  intro h0 H locs ls h1 h2 h3
  obtain ⟨hr, rfl, hn⟩ := hM
  have hQ : Q = MQ below (CtQ g M μ0 (some (aI v)) μ) args s M.2.2.2.2.2.cells M.2.2.2.2.2.slots (fun q => g.1.1 ≤ q) := F.2
  show W p l0 e R s m args below meth c H locs M.2.2.2.2.2.cells n Q (F0 m pc ls ([aI v].map (av_v g.1)))
  rw [hQ]
  exact W.widen (Nat.le_refl _) hn (W.zret C.1 C.2.1 (C.2.2.2.2.2.2.2.2.2.2.1.trans hr) (bool_nar hz).1 (fun t ht _ => v_end (r := some (aI v)) (n := n) C F rfl h0 h1 h2 t ht) h2.2.2 d C.2.2.2.2.2.2.1)
theorem v_aret {x : CX} {l : Launch} {g : CG} {M : MI} {nL k n : Nat} {μ0 μ μ9 : Mem} {pc : Nat} {lv : LV} {v rv : Option Nat} {Cn : String} (C : Cx x l g M) (F : Prom x g M μ0 (some (aR rv)) μ9) (hM : M.2.2.2.2.1 = some (.object Cn) ∧ k = M.2.2.2.2.2.cells ∧ n ≤ M.2.2.2.2.2.slots) (d : decode M.1 pc = .ok (.areturn, 1)) (h : some (v, μ) = some (rv, μ9)) : V x g nL k n μ pc lv [aR v] := by
  cases h
  obtain ⟨p, l0, e, R, s, m, args, below, meth, c, Q⟩ := x
  intro h0 H locs ls h1 h2 h3
  obtain ⟨hr, rfl, hn⟩ := hM
  have hQ : Q = MQ below (CtQ g M μ0 (some (aR v)) μ) args s M.2.2.2.2.2.cells M.2.2.2.2.2.slots (fun q => g.1.1 ≤ q) := F.2
  show W p l0 e R s m args below meth c H locs M.2.2.2.2.2.cells n Q (F0 m pc ls ([aR v].map (av_v g.1)))
  rw [hQ]
  refine W.widen (Nat.le_refl _) hn (W.aret C.1 C.2.1 (C.2.2.2.2.2.2.2.2.2.2.1.trans hr) (Or.inl ⟨_, rfl⟩) ?_ (fun t ht _ => v_end (r := some (aR v)) (n := n) C F rfl h0 h1 h2 t ht) h2.2.2 d C.2.2.2.2.2.2.1)
  cases v with
  | none => exact Or.inl rfl
  | some a => exact Or.inr ⟨_, rfl⟩
end
section
/-! LAYER 0, calls -/
def CfB (own : String) (idx : Nat) (y : MethodName) (M : MI) (n : Nat) : Prop := Cond.code y M.1 M.2.1 M.2.2.2.2.1 ∈ lw_ok ∧ Cond.initialized y.cls ∈ lw_ok ∧ (Cond.methodLink own idx y ∈ lw_ok ∨ ∃ host, Cond.methodLinkNest own idx y host ∈ lw_ns) ∧ y.cls ≠ "java/lang/invoke/MethodHandle" ∧ y.cls ≠ "java/lang/invoke/VarHandle" ∧ (parseMethodDescriptor y.desc).map (fun d => d.parameters.length) = some n
def CfV (own : String) (idx ci : Nat) (y : MethodName) (M : MI) (n : Nat) : Prop := CfB own idx y M n ∧ Cond.instanceMethod y ∈ lw_ok ∧ Cond.selects y.cls y y ∈ lw_ok ∧ ∃ T N, vwCl[ci]? = some (y.cls, T, N)
def CfS (own : String) (idx : Nat) (y : MethodName) (M : MI) (n : Nat) : Prop := CfB own idx y M n ∧ Cond.static y ∈ lw_ok
def CfI (own : String) (idx : Nat) (y : MethodName) (M : MI) (n : Nat) : Prop := CfB own idx y M n ∧ y.name = "<init>" ∧ Cond.instanceMethod y ∈ lw_ok
/-- room: the callee's fits the caller's -/
def Rm (M M' : MI) (k n : Nat) : Prop := (M'.2.2.2.2.2.frames + 1 ≤ M.2.2.2.2.2.frames ∧ 8 + (M'.2.1 + 11) + M'.2.2.2.2.2.locals ≤ M.2.2.2.2.2.locals) ∧ k + M'.2.2.2.2.2.cells ≤ M.2.2.2.2.2.cells ∧ n + M'.2.2.2.2.2.slots ≤ M.2.2.2.2.2.slots
def stw (g : BX) (st : List AV) : Nat := ((st.map (av_v g)).map fun v => v.category).sum
theorem ws_good {y : MethodName} {M : MI} (h : Cond.code y M.1 M.2.1 M.2.2.2.2.1 ∈ lw_ok) : GoodIn lw_ok (.code y M.1 M.2.1 M.2.2.2.2.1 :: lw_ok) := by
  intro w hw
  rcases List.mem_cons.mp hw with rfl | hw
  · exact ok_good _ h
  · exact ok_good _ hw
theorem hold_size {g : CG} {μ : Mem} {H : Heap} (hB : g.1.1 ≤ H.size) (h : Hold g μ H) : g.1.1 + μ.1 ≤ H.size := by
  cases hn : μ.1 with
  | zero => exact hB
  | succ a =>
    have ha : a < μ.1 := by omega
    have h1 := h a _ (hw_at g μ ha)
    have : g.1.1 + a < H.size := by
      unfold va_at at h1
      dsimp only at h1
      split at h1
      · exact (Array.getElem?_eq_some_iff.mp h1).1
      · obtain ⟨r, -, cell, hc, -⟩ := h1
        exact (Array.getElem?_eq_some_iff.mp hc).1
    omega
theorem ctP_pre {x : CX} {l : Launch} {g : CG} {M : MI} {μ : Mem} {av : List AV} {H : Heap} {locs : List Loc} (C : Cx x l g M) (hz : H.size = g.1.1 + μ.1) (h1 : Hold g μ H) (h2 : va_S (fun q => g.1.1 ≤ q) (xs x).heap H locs) : PreS (xs x) H (CtP g av μ) (av.map (av_v g.1)) := by
  refine ⟨fun a U f mk q => ?_, fun U hU hW => ?_⟩
  · obtain ⟨q0, q1, q2, q3, q4, q5, q6⟩ := q
    exact ⟨q0, q1, q2, va_K.moved (u := U) (U := U.calling f mk a) (Vm.Alike.refl U.vm) q3, q4, ext_blind q5 f mk a, ns_same f mk a q6⟩
  · exact ⟨rfl, by rw [hU]; exact hz, by rw [hU]; exact h1, va_K.moved hW.alike C.2.2.2.2.2.1, Cty C, ext_warm (Cex C) hW (fun q a b => by rw [hU]; exact h2.2.1 q a b), ns_warm hW (Cns C)⟩
/-- the heap's size is known from the room that was used -/
theorem w_size {p : Program} {l : Launch} {e : Env} {R : Room} {s : State} {m : MethodId} {args : Array Value} {below : List Frame} {meth : Method} {c : Code} {H : Heap} {locs : List Loc} {k n : Nat} {Q : State → Prop} {f : JFrame} (kk : H.size ≤ s.heap.size + k → W p l e R s m args below meth c H locs k n Q f) : W p l e R s m args below meth c H locs k n Q f := fun T hT X => kk (by rw [← hT]; exact X.heapSize) T hT X
theorem v_back {x : CX} {l : Launch} {g : CG} {M M' : MI} {nL k n : Nat} {μ μ' : Mem} {pc : Nat} {lv : LV} {st : List AV} {r : Option AV} {H : Heap} {locs : List Loc} {ls : Array Slot} {st0 : List Value} {a : Array Value} (C : Cx x l g M) (h0 : (xs x).heap.size + k = g.1.1 + μ.1) (hz : H.size = g.1.1 + μ.1) (h2 : va_S (fun q => g.1.1 ≤ q) (xs x).heap H locs) (h3 : lv_has ls nL (lvm g.1 lv))
    (hr : va_Run x.1 x.2.1 x.2.2.1 x.2.2.2.1 (xs x) (xm x) (xa x) (xb x) (xM x) (xc x) H locs k n M'.2.2.2.2.2.cells M'.2.2.2.2.2.slots (F0 (xm x) pc ls st0) (st.map (av_v g.1)) (CtQ g M' μ r μ' a) (fun q => g.1.1 ≤ q))
    (kk : V x g nL (k + M'.2.2.2.2.2.cells) (n + M'.2.2.2.2.2.slots) μ' (pc + 3) lv (r.toList ++ st)) : WX x H locs k n (F0 (xm x) pc ls st0) := by
  obtain ⟨p, l0, e, R, s, m, args, below, meth, c, Q⟩ := x
  intro T hT X
  obtain ⟨v, st₀, t, T', L, h5, X', hL, e1, e2, ⟨hv, hc, hb, hz2, hk2⟩, stp⟩ := hr T hT X
  cases hv
  rw [h5] at hz2 hk2
  have hS : va_S (fun q => g.1.1 ≤ q) s.heap T'.heap (locs ++ L) := ⟨Nat.le_trans h2.1 (by rw [e1]; exact hz2), fun q a b => by rw [e1, hk2 q (Nat.lt_of_lt_of_le a h2.1) b]; exact h2.2.1 q a b, fun q hq => by
      rcases List.mem_append.mp hq with h | h
      · exact h2.2.2 q h
      · exact hL q h⟩
  obtain ⟨t2, a1, b1⟩ := kk (by show s.heap.size + (k + _) = _; rw [hc]; have : s.heap.size + k = g.1.1 + μ.1 := h0; omega) T'.heap (locs ++ L) ls (by rw [e1]; exact hb) hS h3 T' rfl X'
  refine ⟨t2, stp t2 ?_, b1⟩
  have he : (r.toList ++ st).map (av_v g.1) = (r.map (av_v g.1)).toList ++ st.map (av_v g.1) := by cases r <;> rfl
  rw [he] at a1
  exact a1
theorem v_sz {x : CX} {l : Launch} {g : CG} {M : MI} {nL k n : Nat} {μ : Mem} {pc : Nat} {lv : LV} {st : List AV} (C : Cx x l g M) (kk : ∀ (H : Heap) (locs : List Loc) (ls : Array Slot), (xs x).heap.size + k = g.1.1 + μ.1 → H.size = g.1.1 + μ.1 → Hold g μ H → va_S (fun q => g.1.1 ≤ q) (xs x).heap H locs → lv_has ls nL (lvm g.1 lv) → WX x H locs k n (F0 (xm x) pc ls (st.map (av_v g.1)))) : V x g nL k n μ pc lv st := by
  intro h0 H locs ls h1 h2 h3
  obtain ⟨p, l0, e, R, s, m, args, below, meth, c, Q⟩ := x
  refine w_size fun hz => ?_
  refine kk H locs ls h0 ?_ h1 h2 h3
  have a1 : g.1.1 ≤ H.size := Nat.le_trans C.2.2.2.2.2.2.2.1 h2.1
  have a2 := hold_size a1 h1
  have a3 : s.heap.size + k = g.1.1 + μ.1 := h0
  omega
theorem v_callV {x : CX} {l : Launch} {g : CG} {M M' : MI} {nL k n idx ci nn b' : Nat} {μ μ' : Mem} {pc : Nat} {lv : LV} {st stk As : List AV} {y : MethodName} {b : Option Nat} {r : Option AV} (C : Cx x l g M) (d : decode M.1 pc = .ok (.invokevirtual idx, 3)) (cf : CfV M.2.2.1 idx ci y M' nn) (hR : Rm M M' k n) (hL : M.2.1 = nL ∧ As.length = nn) (e0 : mck μ b ci = some b') (hst : stk = As.reverse ++ aR b :: st) (hw8 : stw g.1 st ≤ 8) (hc : Ct l y M' g (aR (some b') :: As) μ r μ') (kk : V x g nL (k + M'.2.2.2.2.2.cells) (n + M'.2.2.2.2.2.slots) μ' (pc + 3) lv (r.toList ++ st)) : V x g nL k n μ pc lv stk := by
  refine v_sz C fun H locs ls h0 hz h1 h2 h3 => ?_
  obtain ⟨fs, rfl, hb, hcell⟩ := mck_spec e0
  have pre := ctP_pre (av := aR (some b') :: As) C hz h1 h2
  have hat : (hw g μ)[b']? = some (g.1.1 + b', .inr (ci, fs.map (av_v g.1))) := by rw [hw_at g μ hb, hcell]; rfl
  refine v_back C h0 hz h2 h3 (a := ((aR (some b') :: As).map (av_v g.1)).toArray) ?_ kk
  obtain ⟨p, l0, e, R, s, m, args, below, meth, c, Q⟩ := x
  obtain ⟨⟨c1, c2, c3, c4, c5, c6⟩, c7, c8, T, N, c9⟩ := cf
  obtain ⟨hR1, hR2⟩ := hR
  have hRR : R = M.2.2.2.2.2 := C.2.2.2.2.2.2.2.2.2.1
  have hll : l0 = l := C.2.2.2.2.2.2.2.2.1
  subst hll
  have hstack : (F0 m pc ls (stk.map (av_v g.1))).stack = (As.map (av_v g.1)).reverse ++ .ref (g.1.1 + b') :: st.map (av_v g.1) := by
    subst hst
    show (As.reverse ++ aR (some b') :: st).map (av_v g.1) = _
    rw [List.map_append, List.map_reverse]
    rfl
  have hpv : PreV s H y.cls (g.1.1 + b') (CtP g (aR (some b') :: As) μ) (As.map (av_v g.1)) := ⟨pre.1, va_recv C.2.2.2.2.2.1 h1 c9 hat, pre.2⟩
  have fix : CallFix p m c M.1 M.2.1 s args lw_ok M.2.2.1 := ⟨C.1, C.2.1, C.2.2.1, C.2.2.2.1, C.2.2.2.2.1⟩
  have hsz : (F0 m pc ls (stk.map (av_v g.1))).locals.size = M.2.1 := by rw [hL.1]; exact h3.1
  have hlen : (As.map (av_v g.1)).length = nn := by rw [List.length_map]; exact hL.2
  have hw0 : 2 * (F0 m pc ls (stk.map (av_v g.1))).monitorRoom + ((st.map (av_v g.1)).map fun v => v.category).sum ≤ 8 := by show 2 * 0 + _ ≤ 8; rw [Nat.mul_zero, Nat.zero_add]; exact hw8
  rcases c3 with c3 | ⟨host, c3⟩
  · exact va_runV fix hc ⟨callB_of nn C.2.2.2.2.1 (ws_good c1) rfl rfl rfl (C.2.2.2.2.1 _ c2) (C.2.2.2.2.1 _ c3) ⟨c4, c5, c6⟩ (by rw [hRR]; exact hR1), C.2.2.2.2.1 _ c7, C.2.2.2.2.1 _ c8⟩ hpv rfl hlen hsz hstack hw0 d (by rw [hRR]; exact hR2)
  · exact va_runVN fix hc ⟨va_cnB nn C.2.2.2.2.1 (ws_good c1) rfl rfl rfl (Cns C _ c3) (C.2.2.2.2.1 _ c2) ⟨c4, c5, c6⟩ (by rw [hRR]; exact hR1), C.2.2.2.2.1 _ c7, C.2.2.2.2.1 _ c8⟩ hpv rfl hlen hsz hstack hw0 d (by rw [hRR]; exact hR2)
theorem v_callS {x : CX} {l : Launch} {g : CG} {M M' : MI} {nL k n idx nn : Nat} {μ μ' : Mem} {pc : Nat} {lv : LV} {st stk As : List AV} {y : MethodName} {r : Option AV} (C : Cx x l g M) (d : decode M.1 pc = .ok (.invokestatic idx, 3)) (cf : CfS M.2.2.1 idx y M' nn) (hR : Rm M M' k n) (hL : M.2.1 = nL ∧ As.length = nn) (hst : stk = As.reverse ++ st) (hw8 : stw g.1 st ≤ 8) (hc : Ct l y M' g As μ r μ') (kk : V x g nL (k + M'.2.2.2.2.2.cells) (n + M'.2.2.2.2.2.slots) μ' (pc + 3) lv (r.toList ++ st)) : V x g nL k n μ pc lv stk := by
  refine v_sz C fun H locs ls h0 hz h1 h2 h3 => ?_
  have pre := ctP_pre (av := As) C hz h1 h2
  refine v_back C h0 hz h2 h3 (a := (As.map (av_v g.1)).toArray) ?_ kk
  obtain ⟨p, l0, e, R, s, m, args, below, meth, c, Q⟩ := x
  obtain ⟨⟨c1, c2, c3, c4, c5, c6⟩, c7⟩ := cf
  obtain ⟨hR1, hR2⟩ := hR
  have hRR : R = M.2.2.2.2.2 := C.2.2.2.2.2.2.2.2.2.1
  have hll : l0 = l := C.2.2.2.2.2.2.2.2.1
  subst hll
  have hstack : (F0 m pc ls (stk.map (av_v g.1))).stack = (As.map (av_v g.1)).reverse ++ st.map (av_v g.1) := by
    subst hst
    show (As.reverse ++ st).map (av_v g.1) = _
    rw [List.map_append, List.map_reverse]
  have fix : CallFix p m c M.1 M.2.1 s args lw_ok M.2.2.1 := ⟨C.1, C.2.1, C.2.2.1, C.2.2.2.1, C.2.2.2.2.1⟩
  have hsz : (F0 m pc ls (stk.map (av_v g.1))).locals.size = M.2.1 := by rw [hL.1]; exact h3.1
  have hlen : (As.map (av_v g.1)).length = nn := by rw [List.length_map]; exact hL.2
  have hw0 : 2 * (F0 m pc ls (stk.map (av_v g.1))).monitorRoom + ((st.map (av_v g.1)).map fun v => v.category).sum ≤ 8 := by show 2 * 0 + _ ≤ 8; rw [Nat.mul_zero, Nat.zero_add]; exact hw8
  rcases c3 with c3 | ⟨host, c3⟩
  · exact va_runS fix hc ⟨callB_of nn C.2.2.2.2.1 (ws_good c1) rfl rfl rfl (C.2.2.2.2.1 _ c2) (C.2.2.2.2.1 _ c3) ⟨c4, c5, c6⟩ (by rw [hRR]; exact hR1), C.2.2.2.2.1 _ c7⟩ pre rfl hlen hsz hstack hw0 d (by rw [hRR]; exact hR2)
  · exact va_runSN fix hc ⟨va_cnB nn C.2.2.2.2.1 (ws_good c1) rfl rfl rfl (Cns C _ c3) (C.2.2.2.2.1 _ c2) ⟨c4, c5, c6⟩ (by rw [hRR]; exact hR1), C.2.2.2.2.1 _ c7, trivial⟩ pre rfl hlen hsz hstack hw0 d (by rw [hRR]; exact hR2)
theorem v_callI {x : CX} {l : Launch} {g : CG} {M M' : MI} {nL k n idx nn b' : Nat} {μ μ' : Mem} {pc : Nat} {lv : LV} {st stk As : List AV} {y : MethodName} (C : Cx x l g M) (d : decode M.1 pc = .ok (.invokespecial idx, 3)) (cf : CfI M.2.2.1 idx y M' nn) (hret : M'.2.2.2.2.1 = none) (hR : Rm M M' k n) (hL : M.2.1 = nL ∧ As.length = nn) (hst : stk = As.reverse ++ aR (some b') :: st) (hw8 : stw g.1 st ≤ 8) (hc : Ct l y M' g (aR (some b') :: As) μ none μ') (kk : V x g nL (k + M'.2.2.2.2.2.cells) (n + M'.2.2.2.2.2.slots) μ' (pc + 3) lv st) : V x g nL k n μ pc lv stk := by
  refine v_sz C fun H locs ls h0 hz h1 h2 h3 => ?_
  have pre := ctP_pre (av := aR (some b') :: As) C hz h1 h2
  refine v_back C h0 hz h2 h3 (r := none) (a := ((aR (some b') :: As).map (av_v g.1)).toArray) ?_ kk
  obtain ⟨p, l0, e, R, s, m, args, below, meth, c, Q⟩ := x
  obtain ⟨⟨c1, c2, c3, c4, c5, c6⟩, c7, c8⟩ := cf
  obtain ⟨hR1, hR2⟩ := hR
  have hRR : R = M.2.2.2.2.2 := C.2.2.2.2.2.2.2.2.2.1
  have hll : l0 = l := C.2.2.2.2.2.2.2.2.1
  subst hll
  have hstack : (F0 m pc ls (stk.map (av_v g.1))).stack = (As.map (av_v g.1)).reverse ++ .ref (g.1.1 + b') :: st.map (av_v g.1) := by
    subst hst
    show (As.reverse ++ aR (some b') :: st).map (av_v g.1) = _
    rw [List.map_append, List.map_reverse]
    rfl
  have fix : CallFix p m c M.1 M.2.1 s args lw_ok M.2.2.1 := ⟨C.1, C.2.1, C.2.2.1, C.2.2.2.1, C.2.2.2.2.1⟩
  have hsz : (F0 m pc ls (stk.map (av_v g.1))).locals.size = M.2.1 := by rw [hL.1]; exact h3.1
  have hlen : (As.map (av_v g.1)).length = nn := by rw [List.length_map]; exact hL.2
  have hw0 : 2 * (F0 m pc ls (stk.map (av_v g.1))).monitorRoom + ((st.map (av_v g.1)).map fun v => v.category).sum ≤ 8 := by show 2 * 0 + _ ≤ 8; rw [Nat.mul_zero, Nat.zero_add]; exact hw8
  have c1' : Cond.code y M'.1 M'.2.1 none ∈ lw_ok := by rw [← hret]; exact c1
  rcases c3 with c3 | ⟨host, c3⟩
  · exact va_runI (bytes := M'.1) (maxL := M'.2.1) fix hc ⟨callB_of nn C.2.2.2.2.1 (ws_good c1) (by rw [hret]) rfl rfl (C.2.2.2.2.1 _ c2) (C.2.2.2.2.1 _ c3) ⟨c4, c5, c6⟩ (by rw [hRR]; exact hR1), c7, C.2.2.2.2.1 _ c8⟩ pre rfl hlen hsz hstack hw0 d (by rw [hRR]; exact hR2)
  · exact va_runIN (bytes := M'.1) (maxL := M'.2.1) fix hc ⟨va_cnB nn C.2.2.2.2.1 (ws_good c1) (by rw [hret]) rfl rfl (Cns C _ c3) (C.2.2.2.2.1 _ c2) ⟨c4, c5, c6⟩ (by rw [hRR]; exact hR1), c7, C.2.2.2.2.1 _ c8⟩ pre rfl hlen hsz hstack hw0 d (by rw [hRR]; exact hR2)
end
section
/-! LAYER 0, switches, arrays of references, new cells -/
def sel (a : Int32) (cs : List (Int32 × Nat)) (dt : Nat) : Nat := match cs with
  | [] => dt
  | q :: r => if a = q.1 then q.2 else sel a r dt
theorem sel_look (pc : Nat) (a : Int32) (cs : List (Int32 × Nat)) (dt : Nat) (df : Int) (hd : (pc : Int) + df = (dt : Int)) : (pc : Int) + Op.lookupswitch.offset (cs.map (fun q => (q.1.toInt, (q.2 : Int) - (pc : Int)))) df a.toInt = ((sel a cs dt : Nat) : Int) := by
  induction cs with
  | nil => exact hd
  | cons q r ih =>
    rw [List.map_cons, Op.lookupswitch.offset_cons]
    unfold sel
    by_cases h : a = q.1
    · rw [if_pos (by rw [h]), if_pos h]; omega
    · rw [if_neg (fun z => h (Int32.toInt_inj.mp z).symm), if_neg h]; exact ih
theorem v_lookupswitch {x : CX} {l : Launch} {g : CG} {M : MI} {nL k n : Nat} {μ : Mem} {pc : Nat} {lv : LV} {st : List AV} (C : Cx x l g M) {a : Int32} {df : Int} {ps : Array (Int × Int)} {len dt : Nat} (cs : List (Int32 × Nat)) (d : decode M.1 pc = .ok (.lookupswitch df ps, len)) (hp : (ps.toList.zip (ps.toList.drop 1)).all (fun (a, next) => a.1 < next.1) = true) (hc : ps.toList = cs.map (fun q => (q.1.toInt, (q.2 : Int) - (pc : Int)))) (hd : (pc : Int) + df = (dt : Int)) (kk : V x g nL k n μ (sel a cs dt) lv st) : V x g nL k n μ pc lv (aI a :: st) := by
  obtain ⟨p, l0, e, R, s, m, args, below, meth, c, Q⟩ := x
  intro h0 H locs ls h1 h2 h3
  exact lv_lookup C.1 C.2.1 d hp rfl (by rw [hc]; exact sel_look pc a cs dt df hd) (kk h0 H locs ls h1 h2 h3)
theorem v_case {x : CX} {g : CG} {nL k n : Nat} {μ : Mem} {lv : LV} {st : List AV} {a k0 : Int32} {t dt : Nat} {cs : List (Int32 × Nat)} (kt : a = k0 → V x g nL k n μ t lv st) (kf : ¬ a = k0 → V x g nL k n μ (sel a cs dt) lv st) : V x g nL k n μ (sel a ((k0, t) :: cs) dt) lv st := by
  unfold sel
  by_cases h : a = k0
  · rw [if_pos h]; exact kt h
  · rw [if_neg h]; exact kf h
theorem sel_tab (a : Int32) (dt : Nat) : ∀ (ts : List Nat) (lo : Int) (cs : List (Int32 × Nat)), cs.map (fun q => q.1.toInt) = (List.range ts.length).map (fun (i : Nat) => lo + (i : Int)) → cs.map (fun q => q.2) = ts → sel a cs dt = if a.toInt < lo ∨ lo + ts.length ≤ a.toInt then dt else ts.getD (a.toInt - lo).toNat dt := by
  intro ts
  induction ts with
  | nil =>
    intro lo cs h1 h2
    cases cs with
    | nil => unfold sel; rw [if_pos (by simp only [List.length_nil]; omega)]
    | cons q r => cases h2
  | cons t ts ih =>
    intro lo cs h1 h2
    cases cs with
    | nil => cases h2
    | cons q r =>
      rw [List.length_cons, List.range_succ_eq_map, List.map_cons, List.map_cons, List.map_map] at h1
      injection h1 with h3 h4
      injection h2 with h5 h6
      have h3 : q.1.toInt = lo := by rw [h3]; simp
      have h5 : q.2 = t := h5
      unfold sel
      by_cases h : a = q.1
      · rw [if_pos h, h, h3, if_neg (by simp only [List.length_cons]; omega), h5]
        simp
      · rw [if_neg h]
        have hne : a.toInt ≠ lo := fun z => h (Int32.toInt_inj.mp (z.trans h3.symm))
        rw [ih (lo + 1) r (by rw [h4]; apply List.map_congr_left; intro i _; simp only [Function.comp_apply]; omega) h6]
        simp only [List.length_cons]
        by_cases c1 : a.toInt < lo
        · rw [if_pos (Or.inl (by omega)), if_pos (Or.inl c1)]
        · by_cases c2 : lo + (↑(ts.length + 1) : Int) ≤ a.toInt
          · rw [if_pos (Or.inr (by omega)), if_pos (Or.inr c2)]
          · rw [if_neg (by omega), if_neg (by omega)]
            have : (a.toInt - lo).toNat = (a.toInt - (lo + 1)).toNat + 1 := by omega
            rw [this, List.getD_cons_succ]
theorem v_tableswitch {x : CX} {l : Launch} {g : CG} {M : MI} {nL k n : Nat} {μ : Mem} {pc : Nat} {lv : LV} {st : List AV} (C : Cx x l g M) {a : Int32} {df lo hi : Int} {offs : Array Int} {len dt : Nat} (cs : List (Int32 × Nat)) (d : decode M.1 pc = .ok (.tableswitch df lo hi offs, len)) (h1 : cs.map (fun q => q.1.toInt) = (List.range cs.length).map (fun (i : Nat) => lo + (i : Int))) (h2 : offs.toList = cs.map (fun q => (q.2 : Int) - (pc : Int))) (hh : hi + 1 = lo + (cs.length : Int)) (hd : (pc : Int) + df = (dt : Int)) (kk : V x g nL k n μ (sel a cs dt) lv st) : V x g nL k n μ pc lv (aI a :: st) := by
  obtain ⟨p, l0, e, R, s, m, args, below, meth, c, Q⟩ := x
  intro h0 H locs ls h5 h6 h7
  have hs := sel_tab a dt (cs.map (fun q => q.2)) lo cs (by rw [List.length_map]; exact h1) rfl
  rw [List.length_map] at hs
  by_cases c1 : a.toInt < lo ∨ hi < a.toInt
  · rw [if_pos (by omega)] at hs
    exact lv_tableOut C.1 C.2.1 d c1 (by rw [hs] at *; exact hd) (by have := kk h0 H locs ls h5 h6 h7; rw [hs] at this; exact this)
  · rw [if_neg (by omega)] at hs
    have hlt : (a.toInt - lo).toNat < cs.length := by omega
    have ho : offs[(a.toInt - lo).toNat]? = some ((cs[(a.toInt - lo).toNat].2 : Int) - (pc : Int)) := by
      rw [← Array.getElem?_toList, h2, List.getElem?_map, List.getElem?_eq_getElem hlt]; rfl
    have hg : (cs.map (fun q => q.2)).getD (a.toInt - lo).toNat dt = cs[(a.toInt - lo).toNat].2 := by
      rw [List.getD_eq_getElem?_getD, List.getElem?_map, List.getElem?_eq_getElem hlt]; rfl
    rw [hg] at hs
    exact lv_tableIn C.1 C.2.1 d (fun z => c1 (Or.inl z)) (fun z => c1 (Or.inr z)) ho (by rw [← hs]; omega : (pc : Int) + ((cs[(a.toInt - lo).toNat].2 : Int) - (pc : Int)) = ((sel a cs dt : Nat) : Int)) (kk h0 H locs ls h5 h6 h7)
end
section
/-! LAYER 0, arrays of references, new cells -/
theorem v_aaload3 {x : CX} {l : Launch} {g : CG} {M : MI} {nL k n : Nat} {μ : Mem} {pc : Nat} {lv : LV} {st : List AV} (C : Cx x l g M) {i : Int32} {r v : Option Nat} (d : decode M.1 pc = .ok (.aaload, 1)) (e : maR μ 3 r i = some v) (kk : V x g nL k n μ (pc + 1) lv (aR v :: st)) : V x g nL k n μ pc lv (aI i :: aR r :: st) := by
  obtain ⟨p, l0, e0, R, s, m, args, below, meth, c, Q⟩ := x
  intro h0 H locs ls h1 h2 h3
  unfold maR at e
  split at e
  · rename_i N f ev
    obtain ⟨hin, e⟩ := oz e
    cases e
    obtain ⟨a, rfl, ha, hc⟩ := maV_spec ev
    have hlt : i.toNatClampNeg < N := Nat.not_le.mp fun q => hin (Or.inr q)
    have hat := arr_at (g := g) ha hc
    have hty := tyat (Cty C) (t := 3) (ty := .array .int) rfl
    exact W.aald (v := va_rf ((f i.toNatClampNeg).map (fun j => g.1.1 + j))) (ty := .array .int) C.1 C.2.1 (h1 a _ hat) ((C.2.2.2.2.2.1.2 3 _ hty).1 N (fun j => va_rf ((f j).map (fun q => g.1.1 + q)))) rfl (fun q => by cases q) (by show ¬ (i < 0 ∨ (arrV _ _ _).slots.size ≤ _); rw [arrV_size]; exact hin) (by show (arrV _ _ _).slots[_]? = _; rw [arrV_read _ _ hlt]) rfl rfl d (kk h0 H locs ls h1 h2 h3)
  · cases e
theorem v_aastV {x : CX} {l : Launch} {g : CG} {M : MI} {nL k n : Nat} {μ μ2 : Mem} {pc : Nat} {lv : LV} {st : List AV} (C : Cx x l g M) {t ci : Nat} {rr : vw_C} {i : Int32} {r v : Option Nat} (hq : vwCl[ci]? = some rr ∧ arrTys[t]? = some (.object rr.1)) (d : decode M.1 pc = .ok (.aastore, 1)) (e : mbR μ t ci r i v = some μ2) (kk : V x g nL k n μ2 (pc + 1) lv st) : V x g nL k n μ pc lv (aR v :: aI i :: aR r :: st) := by
  obtain ⟨p, l0, e0, R, s, m, args, below, meth, c, Q⟩ := x
  intro h0 H locs ls h1 h2 h3
  unfold mbR at e
  split at e
  · rename_i N f ev
    obtain ⟨hin, e⟩ := oz e
    obtain ⟨hz, e⟩ := oy e
    obtain ⟨a, rfl, ha, hc⟩ := maV_spec ev
    cases e
    have hat := arr_at (g := g) ha hc
    have hty := tyat (Cty C) hq.2
    cases v with
    | none =>
      exact va_astqN C.1 C.2.1 C.2.2.2.2.2.1 h1 (hw_D g μ) h2 a t hat hty hin d (fun H1 locs1 y _ w => kk h0 H1 locs1 ls (hold_set (E := .inl (t, N, .inr (.inr (va_up f i.toNatClampNeg none)))) (by
        show _ = (_, Sum.inl (_, N, Sum.inr (Sum.inr (Sum.inr (Sum.inr (fun j => (va_up f i.toNatClampNeg none j).map (fun q => g.1.1 + q)))))))
        congr 8
        funext j
        unfold va_up
        by_cases hj : j = i.toNatClampNeg
        · rw [if_pos hj, if_pos hj]; rfl
        · rw [if_neg hj, if_neg hj]) y) w h3)
    | some b =>
      have hz2 : mck μ (some b) ci = some b := by
        rcases hz with hz | hz
        · cases hz
        · exact hz
      obtain ⟨fs, -, hb, hcb⟩ := mck_spec hz2
      have hab : (hw g μ)[b]? = some (g.1.1 + b, .inr (ci, fs.map (av_v g.1))) := by rw [hw_at g μ hb, hcb]; rfl
      exact va_astq C.1 C.2.1 C.2.2.2.2.2.1 h1 (hw_D g μ) h2 a t b ci hat hty hab hq.1 hin d (fun H1 locs1 y _ w => kk h0 H1 locs1 ls (hold_set (E := .inl (t, N, .inr (.inr (va_up f i.toNatClampNeg (some b))))) (by
        show _ = (_, Sum.inl (_, N, Sum.inr (Sum.inr (Sum.inr (Sum.inr (fun j => (va_up f i.toNatClampNeg (some b) j).map (fun q => g.1.1 + q)))))))
        congr 8
        funext j
        unfold va_up
        by_cases hj : j = i.toNatClampNeg
        · rw [if_pos hj, if_pos hj]; rfl
        · rw [if_neg hj, if_neg hj]) y) w h3)
  · cases e
/-- a new cell -/
def madd (μ : Mem) (E : ACl) : Mem := (μ.1 + 1, va_up μ.2 μ.1 E)
theorem hw_push (g : CG) (μ : Mem) (E : ACl) : hw g (madd μ E) = hw g μ ++ [(g.1.1 + μ.1, ac_c g E)] := by
  unfold hw madd
  dsimp only
  rw [List.range_succ, List.map_append]
  congr 1
  · apply List.map_congr_left
    intro i hi
    have : i < μ.1 := List.mem_range.mp hi
    rw [va_up_ne _ _ (by omega : i ≠ μ.1)]
  · simp [va_up]
theorem new_at {g : CG} {μ : Mem} {q : Nat} {e : va_E} {H1 : Heap} (hD : va_D (fun q => g.1.1 ≤ q) (hw g μ ++ [(q, e)])) (hP : va_P g.2.1 vwCl (hw g μ ++ [(q, e)]) H1) (hz : H1.size ≤ g.1.1 + μ.1 + 1) : q = g.1.1 + μ.1 := by
  have hlast : (hw g μ ++ [(q, e)])[μ.1]? = some (q, e) := by
    rw [List.getElem?_append_right (by rw [hw_len]; exact Nat.le_refl _), hw_len]
    simp
  have h1 : g.1.1 ≤ q := hD.2 μ.1 _ hlast
  have h2 : q < H1.size := (hP μ.1 _ hlast).lt
  by_cases h : q < g.1.1 + μ.1
  · have ha : q - g.1.1 < μ.1 := by omega
    have hat : (hw g μ ++ [(q, e)])[q - g.1.1]? = some (g.1.1 + (q - g.1.1), ac_c g (μ.2 (q - g.1.1))) := by
      rw [List.getElem?_append_left (by rw [hw_len]; exact ha)]
      exact hw_at g μ ha
    have := hD.1 (q - g.1.1) μ.1 _ _ hat hlast (by show g.1.1 + (q - g.1.1) = q; omega)
    omega
  · omega
/-- what a new object needs -/
def NF (own : String) (idx ci N : Nat) (fs : List AV) : Prop := ∃ (C : String) (T : u_T) (ty : Nat → FieldType), vwCl[ci]? = some (C, T, N) ∧ (∀ w ∈ u_ws C T N, w ∈ lw_ok) ∧ (∀ k, k < N → parseFieldDescriptor (T k).2.2.1 = some (ty k)) ∧ Cond.classLink own idx C ∈ lw_ok ∧ Cond.instantiable C N ∈ lw_ok ∧ Cond.initialized C ∈ lw_ok ∧ ∀ (B : BX) (j : Nat), j < N → defaultValue (ty j) = vp_V (fs.map (av_v B)) j
theorem v_new {x : CX} {l : Launch} {g : CG} {M : MI} {nL k n idx ci N : Nat} {μ : Mem} {pc : Nat} {lv : LV} {st : List AV} (fs : List AV) (C : Cx x l g M) (d : decode M.1 pc = .ok (.new idx, 3)) (nf : NF M.2.2.1 idx ci N fs) (hR : k + 1 ≤ M.2.2.2.2.2.cells ∧ n + N ≤ M.2.2.2.2.2.slots) (kk : V x g nL (k + 1) (n + N) (madd μ (.inr (ci, fs))) (pc + 3) lv (aR (some μ.1) :: st)) : V x g nL k n μ pc lv st := by
  obtain ⟨p, l0, e0, R, s, m, args, below, meth, c, Q⟩ := x
  intro h0 H locs ls h1 h2 h3
  obtain ⟨Cn, T, ty, q1, q2, q3, q4, q5, q6, q7⟩ := nf
  have hRR : R = M.2.2.2.2.2 := C.2.2.2.2.2.2.2.2.2.1
  have h00 : s.heap.size + k = g.1.1 + μ.1 := h0
  have hB : g.1.1 ≤ s.heap.size := C.2.2.2.2.2.2.2.1
  refine va_new (fs := fs.map (av_v g.1)) C.1 C.2.1 C.2.2.2.2.1 q2 ty q3 C.2.2.2.1 (C.2.2.2.2.1 _ q4) (C.2.2.2.2.1 _ q5) (C.2.2.2.2.1 _ q6) C.2.2.2.2.2.1 h1 (hw_D g μ) h2 (fun q hq => Nat.le_trans hB hq) q1 (q7 g.1) (by rw [hRR]; exact hR.1) (by rw [hRR]; exact hR.2) d fun q H1 hP hD hS => ?_
  refine w_size fun hz => ?_
  have hq := new_at hD hP (by omega)
  subst hq
  exact kk (by show s.heap.size + (k + 1) = g.1.1 + (μ.1 + 1); omega) H1 locs ls (by rw [Hold, hw_push]; exact hP) hS h3
/-- the class of a new array is the known one -/
theorem cls_at {g : CG} {U : State} {t : Nat} {cA : ClassId} {ty : FieldType} (hK : va_K g.2.1 vwCl (g.2.2 ++ [(cA, ty)]) U) (hty : g.2.2[t]? = some ((g.2.2.getD t default).1, ty)) : cA = (g.2.2.getD t default).1 := by
  have h1 := (hK.2 t _ (by rw [List.getElem?_append_left (List.getElem?_eq_some_iff.mp hty).1]; exact hty)).2
  have h2 := (hK.2 g.2.2.length (cA, ty) (by rw [List.getElem?_append_right (Nat.le_refl _)]; simp)).2
  cases ty
  all_goals first
    | exact Option.some.inj (h2.symm.trans h1)
    | (obtain ⟨_, _, _, _, _, e1⟩ := h1; obtain ⟨_, _, _, _, _, e2⟩ := h2; exact Option.some.inj (e2.symm.trans e1))
theorem v_newaV {x : CX} {l : Launch} {g : CG} {M : MI} {nL k n t N : Nat} {μ : Mem} {pc : Nat} {lv : LV} {st : List AV} {atype : ArrayType} {ty : FieldType} {i : Int32} (a0 : AA) (C : Cx x l g M) (ht : arrTys[t]? = some ty ∧ newarray.typeOf atype = ty ∧ Cond.arrayClass ty ∈ lw_ok) (ha : ∀ (B : BX) (cA : ClassId), vp_cell cA (N, aa_c B a0) = arrV cA N (fun _ => defaultValue ty)) (d : decode M.1 pc = .ok (.newarray atype, 2)) (hn : ¬ i < 0 ∧ i.toNatClampNeg = N) (hbytes : N * componentBytes ty ≤ 536870912) (hR : k + 1 ≤ M.2.2.2.2.2.cells ∧ n + N ≤ M.2.2.2.2.2.slots) (kk : V x g nL (k + 1) (n + N) (madd μ (.inl (t, N, a0))) (pc + 2) lv (aR (some μ.1) :: st)) : V x g nL k n μ pc lv (aI i :: st) := by
  obtain ⟨p, l0, e0, R, s, m, args, below, meth, c, Q⟩ := x
  intro h0 H locs ls h1 h2 h3
  have hRR : R = M.2.2.2.2.2 := C.2.2.2.2.2.2.2.2.2.1
  have h00 : s.heap.size + k = g.1.1 + μ.1 := h0
  have hB : g.1.1 ≤ s.heap.size := C.2.2.2.2.2.2.2.1
  refine va_newa C.1 C.2.1 (by rw [ht.2.1]; exact C.2.2.2.2.1 _ ht.2.2) ht.2.1 C.2.2.2.2.2.1 h1 (hw_D g μ) h2 (fun q hq => Nat.le_trans hB hq) (ha g.1) hn.1 hn.2 hbytes (by rw [hRR]; exact hR.1) (by rw [hRR]; exact hR.2) d fun q cA H1 hK hP hD hS => ?_
  refine w_size fun hz => ?_
  have hq := new_at hD hP (by omega)
  have hc := cls_at hK (tyat (Cty C) ht.1)
  subst hq
  subst hc
  exact kk (by show s.heap.size + (k + 1) = g.1.1 + (μ.1 + 1); omega) H1 locs ls (by rw [Hold, hw_push]; exact hP) hS h3
theorem arr_i (N : Nat) (ty : FieldType) (h : defaultValue ty = .int 0) (B : BX) (cA : ClassId) : vp_cell cA (N, aa_c B (.inl (fun _ => 0))) = arrV cA N (fun _ => defaultValue ty) := by
  rw [h]
  rfl
theorem arr_j (N : Nat) (B : BX) (cA : ClassId) : vp_cell cA (N, aa_c B (.inr (.inl (fun _ => 0)))) = arrV cA N (fun _ => defaultValue .long) := rfl
def mnaI (μ : Mem) (t N : Nat) : Mem := madd μ (.inl (t, N, .inl (fun _ => 0)))
def mnaJ (μ : Mem) (N : Nat) : Mem := madd μ (.inl (1, N, .inr (.inl (fun _ => 0))))
def mnaR (μ : Mem) (t N : Nat) : Mem := madd μ (.inl (t, N, .inr (.inr (fun _ => none))))
theorem v_newaI {x : CX} {l : Launch} {g : CG} {M : MI} {nL k n N : Nat} {μ : Mem} {pc : Nat} {lv : LV} {st : List AV} {i : Int32} (C : Cx x l g M) (d : decode M.1 pc = .ok (.newarray .int, 2)) (hm : Cond.arrayClass .int ∈ lw_ok) (hn : ¬ i < 0 ∧ i.toNatClampNeg = N) (hbytes : N * 4 ≤ 536870912) (hR : k + 1 ≤ M.2.2.2.2.2.cells ∧ n + N ≤ M.2.2.2.2.2.slots) (kk : V x g nL (k + 1) (n + N) (mnaI μ 0 N) (pc + 2) lv (aR (some μ.1) :: st)) : V x g nL k n μ pc lv (aI i :: st) :=
  v_newaV (atype := .int) (ty := .int) (.inl (fun _ => 0)) C ⟨rfl, rfl, hm⟩ (arr_i N .int rfl) d hn hbytes hR kk
theorem v_newaZ {x : CX} {l : Launch} {g : CG} {M : MI} {nL k n N : Nat} {μ : Mem} {pc : Nat} {lv : LV} {st : List AV} {i : Int32} (C : Cx x l g M) (d : decode M.1 pc = .ok (.newarray .boolean, 2)) (hm : Cond.arrayClass .boolean ∈ lw_ok) (hn : ¬ i < 0 ∧ i.toNatClampNeg = N) (hbytes : N * 1 ≤ 536870912) (hR : k + 1 ≤ M.2.2.2.2.2.cells ∧ n + N ≤ M.2.2.2.2.2.slots) (kk : V x g nL (k + 1) (n + N) (mnaI μ 2 N) (pc + 2) lv (aR (some μ.1) :: st)) : V x g nL k n μ pc lv (aI i :: st) :=
  v_newaV (atype := .boolean) (ty := .boolean) (.inl (fun _ => 0)) C ⟨rfl, rfl, hm⟩ (arr_i N .boolean rfl) d hn hbytes hR kk
theorem v_newaJ {x : CX} {l : Launch} {g : CG} {M : MI} {nL k n N : Nat} {μ : Mem} {pc : Nat} {lv : LV} {st : List AV} {i : Int32} (C : Cx x l g M) (d : decode M.1 pc = .ok (.newarray .long, 2)) (hm : Cond.arrayClass .long ∈ lw_ok) (hn : ¬ i < 0 ∧ i.toNatClampNeg = N) (hbytes : N * 8 ≤ 536870912) (hR : k + 1 ≤ M.2.2.2.2.2.cells ∧ n + N ≤ M.2.2.2.2.2.slots) (kk : V x g nL (k + 1) (n + N) (mnaJ μ N) (pc + 2) lv (aR (some μ.1) :: st)) : V x g nL k n μ pc lv (aI i :: st) :=
  v_newaV (atype := .long) (ty := .long) (.inr (.inl (fun _ => 0))) C ⟨rfl, rfl, hm⟩ (arr_j N) d hn hbytes hR kk
theorem v_newaR {x : CX} {l : Launch} {g : CG} {M : MI} {nL k n t idx N : Nat} {μ : Mem} {pc : Nat} {lv : LV} {st : List AV} {i : Int32} {Cn : String} (C : Cx x l g M) (d : decode M.1 pc = .ok (.anewarray idx, 3)) (ht : arrTys[t]? = some (.object Cn) ∧ Cond.classLink M.2.2.1 idx Cn ∈ lw_ok ∧ Cond.arrayOver (.object Cn) ∈ lw_ok) (hn : ¬ i < 0 ∧ i.toNatClampNeg = N) (hbytes : N * 4 ≤ 536870912) (hR : k + 1 ≤ M.2.2.2.2.2.cells ∧ n + N ≤ M.2.2.2.2.2.slots) (kk : V x g nL (k + 1) (n + N) (mnaR μ t N) (pc + 3) lv (aR (some μ.1) :: st)) : V x g nL k n μ pc lv (aI i :: st) := by
  obtain ⟨p, l0, e0, R, s, m, args, below, meth, c, Q⟩ := x
  intro h0 H locs ls h1 h2 h3
  have hRR : R = M.2.2.2.2.2 := C.2.2.2.2.2.2.2.2.2.1
  have h00 : s.heap.size + k = g.1.1 + μ.1 := h0
  have hB : g.1.1 ≤ s.heap.size := C.2.2.2.2.2.2.2.1
  refine va_newq C.1 C.2.1 C.2.2.2.1 (C.2.2.2.2.1 _ ht.2.1) (va_AO.of (C.2.2.2.2.1 _ ht.2.2)) C.2.2.2.2.2.1 h1 (hw_D g μ) h2 (fun q hq => Nat.le_trans hB hq) hn.1 hn.2 hbytes (by rw [hRR]; exact hR.1) (by rw [hRR]; exact hR.2) d fun q cA H1 hK hP hD hS => ?_
  refine w_size fun hz => ?_
  have hq := new_at hD hP (by omega)
  have hc := cls_at hK (tyat (Cty C) ht.1)
  subst hq
  subst hc
  exact kk (by show s.heap.size + (k + 1) = g.1.1 + (μ.1 + 1); omega) H1 locs ls (by rw [Hold, mnaR, hw_push]; exact hP) hS h3
theorem v_objInit {x : CX} {l : Launch} {g : CG} {M : MI} {nL k n idx a : Nat} {μ : Mem} {pc : Nat} {lv : LV} {st : List AV} (C : Cx x l g M) (d : decode M.1 pc = .ok (.invokespecial idx, 3)) (hw : Cond.methodLink M.2.2.1 idx Lib.objectInit ∈ lw_ok ∧ Cond.instanceMethod Lib.objectInit ∈ lw_ok ∧ Cond.code Lib.objectInit ⟨#[0xb1]⟩ 1 none ∈ lw_ok) (hL : M.2.1 = nL) (hR : 1 ≤ M.2.2.2.2.2.frames ∧ 0 + stw g.1 st + 12 ≤ M.2.2.2.2.2.locals) (kk : V x g nL k n μ (pc + 3) lv st) : V x g nL k n μ pc lv (aR (some a) :: st) := by
  obtain ⟨p, l0, e0, R, s, m, args, below, meth, c, Q⟩ := x
  intro h0 H locs ls h1 h2 h3
  have hRR : R = M.2.2.2.2.2 := C.2.2.2.2.2.2.2.2.2.1
  exact W.objInit C.1 C.2.1 C.2.2.2.1 (C.2.2.2.2.1 _ hw.1) (C.2.2.2.2.1 _ hw.2.1) (C.2.2.2.2.1 _ hw.2.2) (g := F0 m pc ls ((aR (some a) :: st).map (av_v g.1))) rfl (by rw [C.2.2.1, hL]; exact h3.1) rfl d (by rw [hRR]; exact hR.1) (by rw [hRR]; exact hR.2) (kk h0 H locs ls h1 h2 h3)
end
section
/-! LAYER 0, new int[n][m] (after the block of the printed names) -/
theorem vr_outer (c : ClassId) (N h0 : Nat) : ∀ i : Nat, Jvm.Free.Multi.outerC c N h0 i = arrV c N (fun j => va_rf (if j < i then some (h0 + 1 + j) else none))
  | 0 => by
    show ({ cls := c, slots := Array.replicate N .null, vm := .none } : Cell) = _
    rw [arrV_new]
    refine congrArg (arrV c N) (funext fun j => ?_)
    simp [va_rf]
  | i + 1 => by
    show (Jvm.Free.Multi.outerC c N h0 i).setSlot i (.ref (h0 + 1 + i)) = _
    rw [vr_outer c N h0 i, arrV_store]
    refine congrArg (arrV c N) (funext fun j => ?_)
    by_cases e : j = i
    · subst e
      simp [updV, va_rf]
    · by_cases h : j < i
      · simp [updV, e, h, Nat.lt_succ_of_lt h]
      · simp [updV, e, h, show ¬ j < i + 1 by omega]
def mmna (μ : Mem) (N K : Nat) : Mem := (μ.1 + 1 + N, fun a => if a = μ.1 then .inl (3, N, .inr (.inr (fun i => if i < N then some (μ.1 + 1 + i) else none))) else if μ.1 < a ∧ a ≤ μ.1 + N then .inl (0, K, .inl (fun _ => 0)) else μ.2 a)
theorem v_mna {x : CX} {l : Launch} {g : CG} {M : MI} {nL k n idx N K : Nat} {μ : Mem} {pc : Nat} {lv : LV} {st : List AV} {i j : Int32} (C : Cx x l g M) (d : decode M.1 pc = .ok (.multianewarray idx 2, 4)) (hw3 : Cond.classLink M.2.2.1 idx "[[I" ∈ lw_ok ∧ Cond.arrayOver (.array .int) ∈ lw_ok ∧ Cond.arrayClass .int ∈ lw_ok) (hi : ¬ i < 0 ∧ i.toNatClampNeg = N) (hj : ¬ j < 0 ∧ j.toNatClampNeg = K) (hb : N ≤ 1000 ∧ K ≤ 5000) (hR : k + (1 + N) ≤ M.2.2.2.2.2.cells ∧ n + (N + N * K) ≤ M.2.2.2.2.2.slots) (kk : V x g nL (k + (1 + N)) (n + (N + N * K)) (mmna μ N K) (pc + 4) lv (aR (some μ.1) :: st)) : V x g nL k n μ pc lv (aI j :: aI i :: st) := by
  refine v_sz C fun H locs ls h0 hsz h1 h2 h3 => ?_
  obtain ⟨p, l0, e0, R, s, m, args, below, meth, c, Q⟩ := x
  have hRR : R = M.2.2.2.2.2 := C.2.2.2.2.2.2.2.2.2.1
  have h00 : s.heap.size + k = g.1.1 + μ.1 := h0
  have hB : g.1.1 ≤ s.heap.size := C.2.2.2.2.2.2.2.1
  obtain ⟨hi0, rfl⟩ := hi
  obtain ⟨hj0, rfl⟩ := hj
  intro T hT Xs
  obtain ⟨vm₁, cA, comp, -, fA, fC, hO, -, X', step⟩ := Xs.multianewarray2F (ty := .int) C.1 C.2.2.2.1 (C.2.2.2.2.1 _ hw3.1) (C.2.2.2.2.1 _ hw3.2.1) (C.2.2.2.2.1 _ hw3.2.2) (g := F0 m pc ls (.int j :: .int i :: st.map (av_v g.1))) rfl (by rw [C.2.1]; exact d) rfl hi0 hj0 (by omega) (by show j.toNatClampNeg * 4 ≤ _; omega) (by omega) rfl rfl (by rw [hRR]; exact hR.1) (by rw [hRR]; exact hR.2)
  have hty3 := tyat (Cty C) (t := 3) (ty := .array .int) rfl
  have hty0 := tyat (Cty C) (t := 0) (ty := .int) rfl
  have c3 : cA = (g.2.2.getD 3 default).1 := Option.some.inj (fA.symm.trans (C.2.2.2.2.2.1.2 3 _ hty3).2)
  have c0 : comp = (g.2.2.getD 0 default).1 := Option.some.inj (fC.symm.trans (C.2.2.2.2.2.1.2 0 _ hty0).2)
  generalize hF : Jvm.Free.Multi.fill (T.setVm vm₁) cA comp i.toNatClampNeg j.toNatClampNeg (defaultValue .int) i.toNatClampNeg = F at X' step
  have hTh : (T.setVm vm₁).heap = H := hT
  obtain ⟨f1, f2, -, -⟩ := Jvm.Free.Multi.fill_facts (T.setVm vm₁) cA comp i.toNatClampNeg j.toNatClampNeg (defaultValue .int) i.toNatClampNeg
  rw [hF, hTh] at f1 f2
  have hold : ∀ y : Nat, y < H.size → F.heap[y]? = H[y]? := fun y hy => by
    have := Jvm.Free.Multi.fill_old (T.setVm vm₁) cA comp i.toNatClampNeg j.toNatClampNeg (defaultValue .int) (a := y) (by rw [hTh]; exact hy) i.toNatClampNeg
    rw [hF, hTh] at this
    exact this
  have hrow : ∀ q : Nat, q < i.toNatClampNeg → F.heap[H.size + 1 + q]? = some (vp_cell comp (j.toNatClampNeg, .inl (fun _ => 0))) := fun q hq => by
    have := Jvm.Free.Multi.fill_inner (T.setVm vm₁) cA comp i.toNatClampNeg j.toNatClampNeg (defaultValue .int) i.toNatClampNeg q hq
    rw [hF, hTh] at this
    rw [this]
    exact congrArg some (arrV_new comp j.toNatClampNeg (.int 0))
  have hout : Jvm.Free.Multi.outerC cA i.toNatClampNeg H.size i.toNatClampNeg = vp_cell cA (i.toNatClampNeg, .inr (.inr (.inr (.inr (fun q => if q < i.toNatClampNeg then some (H.size + 1 + q) else none))))) := by
    rw [vp_cell_q]
    exact vr_outer cA i.toNatClampNeg H.size i.toNatClampNeg
  rw [hout] at f2
  have hnew : Hold g (mmna μ i.toNatClampNeg j.toNatClampNeg) F.heap := by
    intro q y hy
    have hq : q < (mmna μ i.toNatClampNeg j.toNatClampNeg).1 := by rw [← hw_len g]; exact (List.getElem?_eq_some_iff.mp hy).1
    rw [hw_at g _ hq] at hy
    cases hy
    have hq2 : q < μ.1 + 1 + i.toNatClampNeg := hq
    by_cases q1 : q = μ.1
    · subst q1
      show va_at _ _ (g.1.1 + μ.1, ac_c g (if μ.1 = μ.1 then _ else _)) _
      rw [if_pos rfl]
      show F.heap[g.1.1 + μ.1]? = some (vp_cell (g.2.2.getD 3 default).1 (i.toNatClampNeg, .inr (.inr (.inr (.inr (fun q => (if q < i.toNatClampNeg then some (μ.1 + 1 + q) else none).map (fun z => g.1.1 + z)))))))
      rw [← hsz, f2, c3]
      congr 7
      funext q
      by_cases hh : q < i.toNatClampNeg
      · rw [if_pos hh, if_pos hh]; show some _ = some (g.1.1 + (μ.1 + 1 + q)); congr 1; omega
      · rw [if_neg hh, if_neg hh]; rfl
    · by_cases q3 : q < μ.1
      · have e1 : (mmna μ i.toNatClampNeg j.toNatClampNeg).2 q = μ.2 q := by
          show (if q = μ.1 then _ else if μ.1 < q ∧ q ≤ μ.1 + i.toNatClampNeg then _ else μ.2 q) = _
          rw [if_neg q1, if_neg (by omega)]
        rw [e1]
        have h5 := h1 q _ (hw_at g μ q3)
        exact h5.kept (hold _ (by omega))
      · have e1 : (mmna μ i.toNatClampNeg j.toNatClampNeg).2 q = .inl (0, j.toNatClampNeg, .inl (fun _ => 0)) := by
          show (if q = μ.1 then _ else if μ.1 < q ∧ q ≤ μ.1 + i.toNatClampNeg then _ else μ.2 q) = _
          rw [if_neg q1, if_pos (by omega)]
        rw [e1]
        have h5 := hrow (q - μ.1 - 1) (by omega)
        rw [show H.size + 1 + (q - μ.1 - 1) = g.1.1 + q by omega, c0] at h5
        exact h5
  have hS : va_S (fun q => g.1.1 ≤ q) s.heap F.heap locs := ⟨by rw [f1]; have := h2.1; have e9 : s.heap.size ≤ H.size := this; omega, fun y a b => (hold y (Nat.lt_of_lt_of_le a h2.1)).trans (h2.2.1 y a b), h2.2.2⟩
  rw [Nat.add_assoc k, Nat.add_assoc n] at X'
  obtain ⟨t, a1, b1⟩ := kk (by show s.heap.size + (k + (1 + i.toNatClampNeg)) = g.1.1 + (μ.1 + 1 + i.toNatClampNeg); omega) F.heap locs ls hnew hS h3 F rfl X'
  refine ⟨t, step t ?_, b1⟩
  have e : T.heap.size = H.size := by rw [hT]
  rw [e, hsz]
  exact a1
end
section
/-! LAYER 0, the cells that are there before -/
theorem v_getsX0 {x : CX} {l : Launch} {g : CG} {M : MI} {nL k n idx : Nat} {μ : Mem} {pc : Nat} {lv : LV} {st : List AV} (C : Cx x l g M) (d : decode M.1 pc = .ok (.getstatic idx, 3)) (hl : Cond.fieldLink M.2.2.1 idx "ShareEight$Names" "FIXED_VALUES" "[I" ∈ lw_ok) (kk : V x g nL k n μ (pc + 3) lv (aX 0 :: st)) : V x g nL k n μ pc lv st := by
  obtain ⟨p, l0, e0, R, s, m, args, below, meth, c, Q⟩ := x
  intro h0 H locs ls h1 h2 h3
  exact va_gets C.1 C.2.1 (Cex C).1 h2 C.2.2.2.1 (C.2.2.2.2.1 _ hl) (fun _ z => z) d (kk h0 H locs ls h1 h2 h3)
theorem v_getsX1 {x : CX} {l : Launch} {g : CG} {M : MI} {nL k n idx : Nat} {μ : Mem} {pc : Nat} {lv : LV} {st : List AV} (C : Cx x l g M) (d : decode M.1 pc = .ok (.getstatic idx, 3)) (hl : Cond.fieldLink M.2.2.1 idx "ShareEightModel" "CODES" "[I" ∈ lw_ok) (kk : V x g nL k n μ (pc + 3) lv (aX 1 :: st)) : V x g nL k n μ pc lv st := by
  obtain ⟨p, l0, e0, R, s, m, args, below, meth, c, Q⟩ := x
  intro h0 H locs ls h1 h2 h3
  exact va_gets C.1 C.2.1 (Cex C).2.2.1 h2 C.2.2.2.1 (C.2.2.2.2.1 _ hl) (fun _ z => z) d (kk h0 H locs ls h1 h2 h3)
theorem v_getsC {x : CX} {l : Launch} {g : CG} {M : MI} {nL k n idx : Nat} {μ : Mem} {pc : Nat} {lv : LV} {st : List AV} (C : Cx x l g M) (d : decode M.1 pc = .ok (.getstatic idx, 3)) (hl : Cond.fieldLink M.2.2.1 idx "java/lang/String" "COMPACT_STRINGS" "Z" ∈ lw_ok) (kk : V x g nL k n μ (pc + 3) lv (aI 1 :: st)) : V x g nL k n μ pc lv st := by
  obtain ⟨p, l0, e0, R, s, m, args, below, meth, c, Q⟩ := x
  intro h0 H locs ls h1 h2 h3
  exact va_gets C.1 C.2.1 (Cex C).2.2.2.2.1 h2 C.2.2.2.1 (C.2.2.2.2.1 _ hl) (fun _ z => z) d (kk h0 H locs ls h1 h2 h3)
theorem v_getsF {x : CX} {l : Launch} {g : CG} {M : MI} {nL k n idx : Nat} {μ : Mem} {pc : Nat} {lv : LV} {st : List AV} (C : Cx x l g M) (d : decode M.1 pc = .ok (.getstatic idx, 3)) (hl : Cond.fieldLink M.2.2.1 idx "jdk/internal/util/Preconditions" "SIOOBE_FORMATTER" "Ljava/util/function/BiFunction;" ∈ lw_ok) (kk : ∀ o : AV, (o = aR none ∨ o = aX 30) → V x g nL k n μ (pc + 3) lv (o :: st)) : V x g nL k n μ pc lv st := by
  obtain ⟨p, l0, e0, R, s, m, args, below, meth, c, Q⟩ := x
  intro h0 H locs ls h1 h2 h3
  rcases (Cex C).2.2.2.2.2.2.2.1 with hz | hz
  · exact va_gets C.1 C.2.1 hz h2 C.2.2.2.1 (C.2.2.2.2.1 _ hl) (fun _ z => z) d (kk (aR none) (Or.inl rfl) h0 H locs ls h1 h2 h3)
  · exact va_gets C.1 C.2.1 hz h2 C.2.2.2.1 (C.2.2.2.2.1 _ hl) (fun _ z => z) d (kk (aX 30) (Or.inr rfl) h0 H locs ls h1 h2 h3)
/-- what an int array that was there holds -/
def xI (L : List Int32) (i : Int32) : Option Int32 := if i < 0 ∨ L.length ≤ i.toNatClampNeg then none else some (L.getD i.toNatClampNeg 0)
theorem v_xi0 {x : CX} {l : Launch} {g : CG} {M : MI} {nL k n : Nat} {μ : Mem} {pc : Nat} {lv : LV} {st : List AV} {i v : Int32} (C : Cx x l g M) (d : decode M.1 pc = .ok (.iaload, 1)) (e : xI x_fv i = some v) (kk : V x g nL k n μ (pc + 1) lv (aI v :: st)) : V x g nL k n μ pc lv (aI i :: aX 0 :: st) := by
  obtain ⟨p, l0, e0, R, s, m, args, below, meth, c, Q⟩ := x
  intro h0 H locs ls h1 h2 h3
  obtain ⟨hin, e⟩ := oz e
  exact va_ti C.1 C.2.1 (Cex C).2.1 h2 hin (congrArg Value.int (Option.some.inj e)) d (kk h0 H locs ls h1 h2 h3)
theorem v_xi1 {x : CX} {l : Launch} {g : CG} {M : MI} {nL k n : Nat} {μ : Mem} {pc : Nat} {lv : LV} {st : List AV} {i v : Int32} (C : Cx x l g M) (d : decode M.1 pc = .ok (.iaload, 1)) (e : xI x_cd i = some v) (kk : V x g nL k n μ (pc + 1) lv (aI v :: st)) : V x g nL k n μ pc lv (aI i :: aX 1 :: st) := by
  obtain ⟨p, l0, e0, R, s, m, args, below, meth, c, Q⟩ := x
  intro h0 H locs ls h1 h2 h3
  obtain ⟨hin, e⟩ := oz e
  exact va_ti C.1 C.2.1 (Cex C).2.2.2.1 h2 hin (congrArg Value.int (Option.some.inj e)) d (kk h0 H locs ls h1 h2 h3)
theorem v_xl0 {x : CX} {l : Launch} {g : CG} {M : MI} {nL k n : Nat} {μ : Mem} {pc : Nat} {lv : LV} {st : List AV} (C : Cx x l g M) (d : decode M.1 pc = .ok (.arraylength, 1)) (kk : V x g nL k n μ (pc + 1) lv (aI 53 :: st)) : V x g nL k n μ pc lv (aX 0 :: st) := by
  obtain ⟨p, l0, e0, R, s, m, args, below, meth, c, Q⟩ := x
  intro h0 H locs ls h1 h2 h3
  exact va_tlen C.1 C.2.1 (Cex C).2.1 h2 rfl d (kk h0 H locs ls h1 h2 h3)
/-- the law's script -/
def xS (g : CG) (i : Int32) : Option Int32 := if i < 0 ∨ g.1.2.2.1 ≤ i.toNatClampNeg then none else some (g.1.2.2.2 i.toNatClampNeg)
theorem v_xi2 {x : CX} {l : Launch} {g : CG} {M : MI} {nL k n : Nat} {μ : Mem} {pc : Nat} {lv : LV} {st : List AV} {i v : Int32} (C : Cx x l g M) (d : decode M.1 pc = .ok (.iaload, 1)) (e : xS g i = some v) (kk : V x g nL k n μ (pc + 1) lv (aI v :: st)) : V x g nL k n μ pc lv (aI i :: aX 2 :: st) := by
  obtain ⟨p, l0, e0, R, s, m, args, below, meth, c, Q⟩ := x
  intro h0 H locs ls h1 h2 h3
  obtain ⟨hin, e⟩ := oz e
  exact va_ti C.1 C.2.1 (Cex C).2.2.2.2.2.2.1 h2 hin (congrArg Value.int (Option.some.inj e)) d (kk h0 H locs ls h1 h2 h3)
theorem v_xl2 {x : CX} {l : Launch} {g : CG} {M : MI} {nL k n : Nat} {μ : Mem} {pc : Nat} {lv : LV} {st : List AV} (C : Cx x l g M) (d : decode M.1 pc = .ok (.arraylength, 1)) (kk : V x g nL k n μ (pc + 1) lv (aI (Int32.ofNat g.1.2.2.1) :: st)) : V x g nL k n μ pc lv (aX 2 :: st) := by
  obtain ⟨p, l0, e0, R, s, m, args, below, meth, c, Q⟩ := x
  intro h0 H locs ls h1 h2 h3
  exact va_tlen C.1 C.2.1 (Cex C).2.2.2.2.2.2.1 h2 rfl d (kk h0 H locs ls h1 h2 h3)
-- texts: text i is 10 + i, its bytes are 20 + i
theorem v_aloadX_n {x : CX} {l : Launch} {g : CG} {M : MI} {nL k n : Nat} {μ : Mem} {pc : Nat} {lv : LV} {st : List AV} (C : Cx x l g M) {i : Fin 4} {r : Nat} (d : decode M.1 pc = .ok (.aload_n i, 1)) (hl : lvg lv i.val = some (aX r)) (kk : V x g nL k n μ (pc + 1) lv (aX r :: st)) : V x g nL k n μ pc lv st := by
  obtain ⟨p, l0, e0, R, s, m, args, below, meth, c, Q⟩ := x
  intro h0 H locs ls h1 h2 h3
  exact lv_aload_n C.1 C.2.1 d rfl (lvg_at h3 hl) (kk h0 H locs ls h1 h2 h3)
theorem v_ldcX {x : CX} {l : Launch} {g : CG} {M : MI} {nL k n idx i : Nat} {μ : Mem} {pc : Nat} {lv : LV} {st : List AV} {tx : String} (C : Cx x l g M) (d : decode M.1 pc = .ok (.ldc idx, 2)) (hR : vk_R M.2.2.1 idx tx (g.1.2.1 i) (xs x)) (kk : V x g nL k n μ (pc + 2) lv (aX i :: st)) : V x g nL k n μ pc lv st := by
  obtain ⟨p, l0, e0, R, s, m, args, below, meth, c, Q⟩ := x
  intro h0 H locs ls h1 h2 h3
  exact va_ldcS C.1 C.2.1 C.2.2.2.1 hR d (kk h0 H locs ls h1 h2 h3)
theorem v_xval {x : CX} {l : Launch} {g : CG} {M : MI} {nL k n idx i : Nat} {μ : Mem} {pc : Nat} {lv : LV} {st : List AV} (C : Cx x l g M) (d : decode M.1 pc = .ok (.getfield idx, 3)) (hi : i < 4) (hl : Cond.fieldLink M.2.2.1 idx "java/lang/String" "value" "[B" ∈ lw_ok) (kk : V x g nL k n μ (pc + 3) lv (aX (20 + i) :: st)) : V x g nL k n μ pc lv (aX (10 + i) :: st) := by
  obtain ⟨p, l0, e0, R, s, m, args, below, meth, c, Q⟩ := x
  intro h0 H locs ls h1 h2 h3
  exact vk_getf C.1 C.2.1 ((Cex C).2.2.2.2.2.1.1 i hi).2.2.1 h2 C.2.2.2.1 (C.2.2.2.2.1 _ hl) (fun _ z => z) d (kk h0 H locs ls h1 h2 h3)
theorem v_xcod {x : CX} {l : Launch} {g : CG} {M : MI} {nL k n idx i : Nat} {μ : Mem} {pc : Nat} {lv : LV} {st : List AV} (C : Cx x l g M) (d : decode M.1 pc = .ok (.getfield idx, 3)) (hi : i < 4) (hl : Cond.fieldLink M.2.2.1 idx "java/lang/String" "coder" "B" ∈ lw_ok) (kk : V x g nL k n μ (pc + 3) lv (aI 0 :: st)) : V x g nL k n μ pc lv (aX (10 + i) :: st) := by
  obtain ⟨p, l0, e0, R, s, m, args, below, meth, c, Q⟩ := x
  intro h0 H locs ls h1 h2 h3
  exact vk_getf C.1 C.2.1 ((Cex C).2.2.2.2.2.1.1 i hi).2.1 h2 C.2.2.2.1 (C.2.2.2.2.1 _ hl) (fun _ z => z) d (kk h0 H locs ls h1 h2 h3)
theorem v_xlb {x : CX} {l : Launch} {g : CG} {M : MI} {nL k n i : Nat} {μ : Mem} {pc : Nat} {lv : LV} {st : List AV} (C : Cx x l g M) (d : decode M.1 pc = .ok (.arraylength, 1)) (hi : i < 4) (kk : V x g nL k n μ (pc + 1) lv (aI (Int32.ofNat (x_len.getD i 0)) :: st)) : V x g nL k n μ pc lv (aX (20 + i) :: st) := by
  obtain ⟨p, l0, e0, R, s, m, args, below, meth, c, Q⟩ := x
  intro h0 H locs ls h1 h2 h3
  exact va_tlen C.1 C.2.1 ((Cex C).2.2.2.2.2.1.1 i hi).2.2.2 h2 rfl d (kk h0 H locs ls h1 h2 h3)
theorem v_xbl {x : CX} {l : Launch} {g : CG} {M : MI} {nL k n i : Nat} {μ : Mem} {pc : Nat} {lv : LV} {st : List AV} {j : Int32} (C : Cx x l g M) (d : decode M.1 pc = .ok (.baload, 1)) (hi : i < 4) (hj : ¬ (j < 0 ∨ x_len.getD i 0 ≤ j.toNatClampNeg)) (kk : V x g nL k n μ (pc + 1) lv (aI ((x_byt.getD i []).getD j.toNatClampNeg 0) :: st)) : V x g nL k n μ pc lv (aI j :: aX (20 + i) :: st) := by
  obtain ⟨p, l0, e0, R, s, m, args, below, meth, c, Q⟩ := x
  intro h0 H locs ls h1 h2 h3
  exact va_tb C.1 C.2.1 ((Cex C).2.2.2.2.2.1.1 i hi).2.2.2 h2 hj rfl d (kk h0 H locs ls h1 h2 h3)
end
