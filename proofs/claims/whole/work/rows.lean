section
-- ===== PART A: goes FIRST, ahead of the names: the tables' words, and 'selects' of the private methods out of them =====
/-- a private method of a class that the tables say can be made, by its rows of tables_1 -/
def lw_okq (q : MethodName × Nat) : Prop := (q.1.cls ≠ "java/lang/invoke/MethodHandle" ∧ q.1.cls ≠ "java/lang/invoke/VarHandle") ∧ Cond.instantiable q.1.cls q.2 ∈ tables_1 ∧ Cond.privateMethod q.1 ∈ tables_1 ∧ Cond.instanceMethod q.1 ∈ tables_1
theorem lw_p0 : lw_okq (⟨"ShareEight", "feedFour", "(I)V"⟩, 4) := ⟨⟨by decide +kernel, by decide +kernel⟩, List.mem_of_getElem? (i := 23) (by decide +kernel), List.mem_of_getElem? (i := 511) (by decide +kernel), List.mem_of_getElem? (i := 512) (by decide +kernel)⟩
theorem lw_p1 : lw_okq (⟨"ShareEight$Tokens", "skipBlanks", "(I)I"⟩, 9) := ⟨⟨by decide +kernel, by decide +kernel⟩, List.mem_of_getElem? (i := 117) (by decide +kernel), List.mem_of_getElem? (i := 537) (by decide +kernel), List.mem_of_getElem? (i := 538) (by decide +kernel)⟩
theorem lw_p2 : lw_okq (⟨"ShareEight$Tokens", "skipRemark", "()V"⟩, 9) := ⟨⟨by decide +kernel, by decide +kernel⟩, List.mem_of_getElem? (i := 117) (by decide +kernel), List.mem_of_getElem? (i := 545) (by decide +kernel), List.mem_of_getElem? (i := 546) (by decide +kernel)⟩
theorem lw_p3 : lw_okq (⟨"ShareEight$Tokens", "scanToken", "()I"⟩, 9) := ⟨⟨by decide +kernel, by decide +kernel⟩, List.mem_of_getElem? (i := 117) (by decide +kernel), List.mem_of_getElem? (i := 549) (by decide +kernel), List.mem_of_getElem? (i := 550) (by decide +kernel)⟩
theorem lw_p4 : lw_okq (⟨"ShareEight$Tokens", "append", "(IIII)I"⟩, 9) := ⟨⟨by decide +kernel, by decide +kernel⟩, List.mem_of_getElem? (i := 117) (by decide +kernel), List.mem_of_getElem? (i := 553) (by decide +kernel), List.mem_of_getElem? (i := 554) (by decide +kernel)⟩
theorem lw_p5 : lw_okq (⟨"ShareEight$Tokens", "scanName", "()I"⟩, 9) := ⟨⟨by decide +kernel, by decide +kernel⟩, List.mem_of_getElem? (i := 117) (by decide +kernel), List.mem_of_getElem? (i := 560) (by decide +kernel), List.mem_of_getElem? (i := 561) (by decide +kernel)⟩
theorem lw_p6 : lw_okq (⟨"ShareEight$Tokens", "scanText", "(II)I"⟩, 9) := ⟨⟨by decide +kernel, by decide +kernel⟩, List.mem_of_getElem? (i := 117) (by decide +kernel), List.mem_of_getElem? (i := 572) (by decide +kernel), List.mem_of_getElem? (i := 573) (by decide +kernel)⟩
theorem lw_p7 : lw_okq (⟨"ShareEight$Tokens", "scanNumber", "()I"⟩, 9) := ⟨⟨by decide +kernel, by decide +kernel⟩, List.mem_of_getElem? (i := 117) (by decide +kernel), List.mem_of_getElem? (i := 579) (by decide +kernel), List.mem_of_getElem? (i := 580) (by decide +kernel)⟩
theorem lw_p8 : lw_okq (⟨"ShareEight$Assembler", "passLabels", "()V"⟩, 11) := ⟨⟨by decide +kernel, by decide +kernel⟩, List.mem_of_getElem? (i := 31) (by decide +kernel), List.mem_of_getElem? (i := 647) (by decide +kernel), List.mem_of_getElem? (i := 648) (by decide +kernel)⟩
theorem lw_p9 : lw_okq (⟨"ShareEight$Assembler", "kindAt", "(I)I"⟩, 11) := ⟨⟨by decide +kernel, by decide +kernel⟩, List.mem_of_getElem? (i := 31) (by decide +kernel), List.mem_of_getElem? (i := 651) (by decide +kernel), List.mem_of_getElem? (i := 652) (by decide +kernel)⟩
theorem lw_p10 : lw_okq (⟨"ShareEight$Assembler", "mayTell", "(I)Z"⟩, 11) := ⟨⟨by decide +kernel, by decide +kernel⟩, List.mem_of_getElem? (i := 31) (by decide +kernel), List.mem_of_getElem? (i := 655) (by decide +kernel), List.mem_of_getElem? (i := 656) (by decide +kernel)⟩
theorem lw_p11 : lw_okq (⟨"ShareEight$Assembler", "report", "(II)V"⟩, 11) := ⟨⟨by decide +kernel, by decide +kernel⟩, List.mem_of_getElem? (i := 31) (by decide +kernel), List.mem_of_getElem? (i := 667) (by decide +kernel), List.mem_of_getElem? (i := 668) (by decide +kernel)⟩
theorem lw_p12 : lw_okq (⟨"ShareEight$Assembler", "passStatement", "()V"⟩, 11) := ⟨⟨by decide +kernel, by decide +kernel⟩, List.mem_of_getElem? (i := 31) (by decide +kernel), List.mem_of_getElem? (i := 675) (by decide +kernel), List.mem_of_getElem? (i := 676) (by decide +kernel)⟩
theorem lw_p13 : lw_okq (⟨"ShareEight$Assembler", "kindOfNamed", "()I"⟩, 11) := ⟨⟨by decide +kernel, by decide +kernel⟩, List.mem_of_getElem? (i := 31) (by decide +kernel), List.mem_of_getElem? (i := 682) (by decide +kernel), List.mem_of_getElem? (i := 683) (by decide +kernel)⟩
theorem lw_p14 : lw_okq (⟨"ShareEight$Assembler", "beginsPart", "(I)Z"⟩, 11) := ⟨⟨by decide +kernel, by decide +kernel⟩, List.mem_of_getElem? (i := 31) (by decide +kernel), List.mem_of_getElem? (i := 689) (by decide +kernel), List.mem_of_getElem? (i := 690) (by decide +kernel)⟩
theorem lw_p15 : lw_okq (⟨"ShareEight$Assembler", "beginsValue", "(I)Z"⟩, 11) := ⟨⟨by decide +kernel, by decide +kernel⟩, List.mem_of_getElem? (i := 31) (by decide +kernel), List.mem_of_getElem? (i := 693) (by decide +kernel), List.mem_of_getElem? (i := 694) (by decide +kernel)⟩
def lw_privs_1 : List (MethodName × Nat) := [(⟨"ShareEight", "feedFour", "(I)V"⟩, 4), (⟨"ShareEight$Tokens", "skipBlanks", "(I)I"⟩, 9), (⟨"ShareEight$Tokens", "skipRemark", "()V"⟩, 9), (⟨"ShareEight$Tokens", "scanToken", "()I"⟩, 9), (⟨"ShareEight$Tokens", "append", "(IIII)I"⟩, 9), (⟨"ShareEight$Tokens", "scanName", "()I"⟩, 9), (⟨"ShareEight$Tokens", "scanText", "(II)I"⟩, 9), (⟨"ShareEight$Tokens", "scanNumber", "()I"⟩, 9), (⟨"ShareEight$Assembler", "passLabels", "()V"⟩, 11), (⟨"ShareEight$Assembler", "kindAt", "(I)I"⟩, 11), (⟨"ShareEight$Assembler", "mayTell", "(I)Z"⟩, 11), (⟨"ShareEight$Assembler", "report", "(II)V"⟩, 11), (⟨"ShareEight$Assembler", "passStatement", "()V"⟩, 11), (⟨"ShareEight$Assembler", "kindOfNamed", "()I"⟩, 11), (⟨"ShareEight$Assembler", "beginsPart", "(I)Z"⟩, 11), (⟨"ShareEight$Assembler", "beginsValue", "(I)Z"⟩, 11)]
theorem lw_r1 : ∀ q ∈ lw_privs_1, lw_okq q := List.forall_mem_cons.mpr ⟨lw_p0, List.forall_mem_cons.mpr ⟨lw_p1, List.forall_mem_cons.mpr ⟨lw_p2, List.forall_mem_cons.mpr ⟨lw_p3, List.forall_mem_cons.mpr ⟨lw_p4, List.forall_mem_cons.mpr ⟨lw_p5, List.forall_mem_cons.mpr ⟨lw_p6, List.forall_mem_cons.mpr ⟨lw_p7, List.forall_mem_cons.mpr ⟨lw_p8, List.forall_mem_cons.mpr ⟨lw_p9, List.forall_mem_cons.mpr ⟨lw_p10, List.forall_mem_cons.mpr ⟨lw_p11, List.forall_mem_cons.mpr ⟨lw_p12, List.forall_mem_cons.mpr ⟨lw_p13, List.forall_mem_cons.mpr ⟨lw_p14, List.forall_mem_cons.mpr ⟨lw_p15, fun _ h => absurd h List.not_mem_nil⟩⟩⟩⟩⟩⟩⟩⟩⟩⟩⟩⟩⟩⟩⟩⟩
theorem lw_p16 : lw_okq (⟨"ShareEight$Assembler", "passOrigin", "()V"⟩, 11) := ⟨⟨by decide +kernel, by decide +kernel⟩, List.mem_of_getElem? (i := 31) (by decide +kernel), List.mem_of_getElem? (i := 700) (by decide +kernel), List.mem_of_getElem? (i := 701) (by decide +kernel)⟩
theorem lw_p17 : lw_okq (⟨"ShareEight$Assembler", "readValue", "(Z)I"⟩, 11) := ⟨⟨by decide +kernel, by decide +kernel⟩, List.mem_of_getElem? (i := 31) (by decide +kernel), List.mem_of_getElem? (i := 704) (by decide +kernel), List.mem_of_getElem? (i := 705) (by decide +kernel)⟩
theorem lw_p18 : lw_okq (⟨"ShareEight$Assembler", "readPlain", "(Z)I"⟩, 11) := ⟨⟨by decide +kernel, by decide +kernel⟩, List.mem_of_getElem? (i := 31) (by decide +kernel), List.mem_of_getElem? (i := 708) (by decide +kernel), List.mem_of_getElem? (i := 709) (by decide +kernel)⟩
theorem lw_p19 : lw_okq (⟨"ShareEight$Assembler", "passEquation", "()V"⟩, 11) := ⟨⟨by decide +kernel, by decide +kernel⟩, List.mem_of_getElem? (i := 31) (by decide +kernel), List.mem_of_getElem? (i := 726) (by decide +kernel), List.mem_of_getElem? (i := 727) (by decide +kernel)⟩
theorem lw_p20 : lw_okq (⟨"ShareEight$Assembler", "passPage", "()V"⟩, 11) := ⟨⟨by decide +kernel, by decide +kernel⟩, List.mem_of_getElem? (i := 31) (by decide +kernel), List.mem_of_getElem? (i := 730) (by decide +kernel), List.mem_of_getElem? (i := 731) (by decide +kernel)⟩
theorem lw_p21 : lw_okq (⟨"ShareEight$Assembler", "passRadix", "(Z)V"⟩, 11) := ⟨⟨by decide +kernel, by decide +kernel⟩, List.mem_of_getElem? (i := 31) (by decide +kernel), List.mem_of_getElem? (i := 734) (by decide +kernel), List.mem_of_getElem? (i := 735) (by decide +kernel)⟩
theorem lw_p22 : lw_okq (⟨"ShareEight$Assembler", "passZeros", "()V"⟩, 11) := ⟨⟨by decide +kernel, by decide +kernel⟩, List.mem_of_getElem? (i := 31) (by decide +kernel), List.mem_of_getElem? (i := 738) (by decide +kernel), List.mem_of_getElem? (i := 739) (by decide +kernel)⟩
theorem lw_p23 : lw_okq (⟨"ShareEight$Assembler", "mayLay", "(II)Z"⟩, 11) := ⟨⟨by decide +kernel, by decide +kernel⟩, List.mem_of_getElem? (i := 31) (by decide +kernel), List.mem_of_getElem? (i := 742) (by decide +kernel), List.mem_of_getElem? (i := 743) (by decide +kernel)⟩
theorem lw_p24 : lw_okq (⟨"ShareEight$Assembler", "refuse", "(I)V"⟩, 11) := ⟨⟨by decide +kernel, by decide +kernel⟩, List.mem_of_getElem? (i := 31) (by decide +kernel), List.mem_of_getElem? (i := 746) (by decide +kernel), List.mem_of_getElem? (i := 747) (by decide +kernel)⟩
theorem lw_p25 : lw_okq (⟨"ShareEight$Assembler", "passText", "()V"⟩, 11) := ⟨⟨by decide +kernel, by decide +kernel⟩, List.mem_of_getElem? (i := 31) (by decide +kernel), List.mem_of_getElem? (i := 759) (by decide +kernel), List.mem_of_getElem? (i := 760) (by decide +kernel)⟩
theorem lw_p26 : lw_okq (⟨"ShareEight$Assembler", "sixBits", "(II)I"⟩, 11) := ⟨⟨by decide +kernel, by decide +kernel⟩, List.mem_of_getElem? (i := 31) (by decide +kernel), List.mem_of_getElem? (i := 763) (by decide +kernel), List.mem_of_getElem? (i := 764) (by decide +kernel)⟩
theorem lw_p27 : lw_okq (⟨"ShareEight$Assembler", "passReference", "()V"⟩, 11) := ⟨⟨by decide +kernel, by decide +kernel⟩, List.mem_of_getElem? (i := 31) (by decide +kernel), List.mem_of_getElem? (i := 768) (by decide +kernel), List.mem_of_getElem? (i := 769) (by decide +kernel)⟩
theorem lw_p28 : lw_okq (⟨"ShareEight$Assembler", "mayBeginWord", "()Z"⟩, 11) := ⟨⟨by decide +kernel, by decide +kernel⟩, List.mem_of_getElem? (i := 31) (by decide +kernel), List.mem_of_getElem? (i := 772) (by decide +kernel), List.mem_of_getElem? (i := 773) (by decide +kernel)⟩
theorem lw_p29 : lw_okq (⟨"ShareEight$Assembler", "isModifierAt", "(I)Z"⟩, 11) := ⟨⟨by decide +kernel, by decide +kernel⟩, List.mem_of_getElem? (i := 31) (by decide +kernel), List.mem_of_getElem? (i := 776) (by decide +kernel), List.mem_of_getElem? (i := 777) (by decide +kernel)⟩
theorem lw_p30 : lw_okq (⟨"ShareEight$Assembler", "finishWord", "(I)V"⟩, 11) := ⟨⟨by decide +kernel, by decide +kernel⟩, List.mem_of_getElem? (i := 31) (by decide +kernel), List.mem_of_getElem? (i := 780) (by decide +kernel), List.mem_of_getElem? (i := 781) (by decide +kernel)⟩
theorem lw_p31 : lw_okq (⟨"ShareEight$Assembler", "readItem", "()I"⟩, 11) := ⟨⟨by decide +kernel, by decide +kernel⟩, List.mem_of_getElem? (i := 31) (by decide +kernel), List.mem_of_getElem? (i := 784) (by decide +kernel), List.mem_of_getElem? (i := 785) (by decide +kernel)⟩
def lw_privs_2 : List (MethodName × Nat) := [(⟨"ShareEight$Assembler", "passOrigin", "()V"⟩, 11), (⟨"ShareEight$Assembler", "readValue", "(Z)I"⟩, 11), (⟨"ShareEight$Assembler", "readPlain", "(Z)I"⟩, 11), (⟨"ShareEight$Assembler", "passEquation", "()V"⟩, 11), (⟨"ShareEight$Assembler", "passPage", "()V"⟩, 11), (⟨"ShareEight$Assembler", "passRadix", "(Z)V"⟩, 11), (⟨"ShareEight$Assembler", "passZeros", "()V"⟩, 11), (⟨"ShareEight$Assembler", "mayLay", "(II)Z"⟩, 11), (⟨"ShareEight$Assembler", "refuse", "(I)V"⟩, 11), (⟨"ShareEight$Assembler", "passText", "()V"⟩, 11), (⟨"ShareEight$Assembler", "sixBits", "(II)I"⟩, 11), (⟨"ShareEight$Assembler", "passReference", "()V"⟩, 11), (⟨"ShareEight$Assembler", "mayBeginWord", "()Z"⟩, 11), (⟨"ShareEight$Assembler", "isModifierAt", "(I)Z"⟩, 11), (⟨"ShareEight$Assembler", "finishWord", "(I)V"⟩, 11), (⟨"ShareEight$Assembler", "readItem", "()I"⟩, 11)]
theorem lw_r2 : ∀ q ∈ lw_privs_2, lw_okq q := List.forall_mem_cons.mpr ⟨lw_p16, List.forall_mem_cons.mpr ⟨lw_p17, List.forall_mem_cons.mpr ⟨lw_p18, List.forall_mem_cons.mpr ⟨lw_p19, List.forall_mem_cons.mpr ⟨lw_p20, List.forall_mem_cons.mpr ⟨lw_p21, List.forall_mem_cons.mpr ⟨lw_p22, List.forall_mem_cons.mpr ⟨lw_p23, List.forall_mem_cons.mpr ⟨lw_p24, List.forall_mem_cons.mpr ⟨lw_p25, List.forall_mem_cons.mpr ⟨lw_p26, List.forall_mem_cons.mpr ⟨lw_p27, List.forall_mem_cons.mpr ⟨lw_p28, List.forall_mem_cons.mpr ⟨lw_p29, List.forall_mem_cons.mpr ⟨lw_p30, List.forall_mem_cons.mpr ⟨lw_p31, fun _ h => absurd h List.not_mem_nil⟩⟩⟩⟩⟩⟩⟩⟩⟩⟩⟩⟩⟩⟩⟩⟩
theorem lw_p32 : lw_okq (⟨"ShareEight$Assembler", "literalFor", "(III)I"⟩, 11) := ⟨⟨by decide +kernel, by decide +kernel⟩, List.mem_of_getElem? (i := 31) (by decide +kernel), List.mem_of_getElem? (i := 788) (by decide +kernel), List.mem_of_getElem? (i := 789) (by decide +kernel)⟩
theorem lw_p33 : lw_okq (⟨"ShareEight$Assembler", "refer", "(III)I"⟩, 11) := ⟨⟨by decide +kernel, by decide +kernel⟩, List.mem_of_getElem? (i := 31) (by decide +kernel), List.mem_of_getElem? (i := 797) (by decide +kernel), List.mem_of_getElem? (i := 798) (by decide +kernel)⟩
theorem lw_p34 : lw_okq (⟨"ShareEight$Assembler", "passWord", "()V"⟩, 11) := ⟨⟨by decide +kernel, by decide +kernel⟩, List.mem_of_getElem? (i := 31) (by decide +kernel), List.mem_of_getElem? (i := 804) (by decide +kernel), List.mem_of_getElem? (i := 805) (by decide +kernel)⟩
theorem lw_p35 : lw_okq (⟨"ShareEight$Assembler", "passEnd", "()V"⟩, 11) := ⟨⟨by decide +kernel, by decide +kernel⟩, List.mem_of_getElem? (i := 31) (by decide +kernel), List.mem_of_getElem? (i := 808) (by decide +kernel), List.mem_of_getElem? (i := 809) (by decide +kernel)⟩
theorem lw_p36 : lw_okq (⟨"ShareEight$House", "endTurn", "(LShareEight$User;)V"⟩, 12) := ⟨⟨by decide +kernel, by decide +kernel⟩, List.mem_of_getElem? (i := 211) (by decide +kernel), List.mem_of_getElem? (i := 900) (by decide +kernel), List.mem_of_getElem? (i := 901) (by decide +kernel)⟩
theorem lw_p37 : lw_okq (⟨"ShareEight$House", "attend", "(LShareEight$User;)V"⟩, 12) := ⟨⟨by decide +kernel, by decide +kernel⟩, List.mem_of_getElem? (i := 211) (by decide +kernel), List.mem_of_getElem? (i := 946) (by decide +kernel), List.mem_of_getElem? (i := 947) (by decide +kernel)⟩
theorem lw_p38 : lw_okq (⟨"ShareEight$Channel", "copyStep", "([I[I)V"⟩, 8) := ⟨⟨by decide +kernel, by decide +kernel⟩, List.mem_of_getElem? (i := 226) (by decide +kernel), List.mem_of_getElem? (i := 975) (by decide +kernel), List.mem_of_getElem? (i := 976) (by decide +kernel)⟩
theorem lw_p39 : lw_okq (⟨"ShareEight$Channel", "moveBlockStep", "(LShareEight$User;LShareEight$Slot;)V"⟩, 8) := ⟨⟨by decide +kernel, by decide +kernel⟩, List.mem_of_getElem? (i := 226) (by decide +kernel), List.mem_of_getElem? (i := 982) (by decide +kernel), List.mem_of_getElem? (i := 983) (by decide +kernel)⟩
theorem lw_p40 : lw_okq (⟨"ShareEight$House", "finishTask", "(LShareEight$User;LShareEight$Slot;)V"⟩, 12) := ⟨⟨by decide +kernel, by decide +kernel⟩, List.mem_of_getElem? (i := 211) (by decide +kernel), List.mem_of_getElem? (i := 987) (by decide +kernel), List.mem_of_getElem? (i := 988) (by decide +kernel)⟩
theorem lw_p41 : lw_okq (⟨"ShareEight$House", "finishBlock", "(LShareEight$User;LShareEight$Slot;)V"⟩, 12) := ⟨⟨by decide +kernel, by decide +kernel⟩, List.mem_of_getElem? (i := 211) (by decide +kernel), List.mem_of_getElem? (i := 995) (by decide +kernel), List.mem_of_getElem? (i := 996) (by decide +kernel)⟩
theorem lw_p42 : lw_okq (⟨"ShareEight$House", "lookForTask", "()V"⟩, 12) := ⟨⟨by decide +kernel, by decide +kernel⟩, List.mem_of_getElem? (i := 211) (by decide +kernel), List.mem_of_getElem? (i := 1007) (by decide +kernel), List.mem_of_getElem? (i := 1008) (by decide +kernel)⟩
theorem lw_p43 : lw_okq (⟨"ShareEight$House", "serveQueue", "()Z"⟩, 12) := ⟨⟨by decide +kernel, by decide +kernel⟩, List.mem_of_getElem? (i := 211) (by decide +kernel), List.mem_of_getElem? (i := 1011) (by decide +kernel), List.mem_of_getElem? (i := 1012) (by decide +kernel)⟩
theorem lw_p44 : lw_okq (⟨"ShareEight$House", "firstWithoutSlot", "()LShareEight$User;"⟩, 12) := ⟨⟨by decide +kernel, by decide +kernel⟩, List.mem_of_getElem? (i := 211) (by decide +kernel), List.mem_of_getElem? (i := 1015) (by decide +kernel), List.mem_of_getElem? (i := 1016) (by decide +kernel)⟩
theorem lw_p45 : lw_okq (⟨"ShareEight$House", "freeSlot", "()LShareEight$Slot;"⟩, 12) := ⟨⟨by decide +kernel, by decide +kernel⟩, List.mem_of_getElem? (i := 211) (by decide +kernel), List.mem_of_getElem? (i := 1023) (by decide +kernel), List.mem_of_getElem? (i := 1024) (by decide +kernel)⟩
theorem lw_p46 : lw_okq (⟨"ShareEight$House", "slotToClear", "()LShareEight$Slot;"⟩, 12) := ⟨⟨by decide +kernel, by decide +kernel⟩, List.mem_of_getElem? (i := 211) (by decide +kernel), List.mem_of_getElem? (i := 1027) (by decide +kernel), List.mem_of_getElem? (i := 1028) (by decide +kernel)⟩
theorem lw_p47 : lw_okq (⟨"ShareEight$House", "serveBlocks", "()Z"⟩, 12) := ⟨⟨by decide +kernel, by decide +kernel⟩, List.mem_of_getElem? (i := 211) (by decide +kernel), List.mem_of_getElem? (i := 1032) (by decide +kernel), List.mem_of_getElem? (i := 1033) (by decide +kernel)⟩
def lw_privs_3 : List (MethodName × Nat) := [(⟨"ShareEight$Assembler", "literalFor", "(III)I"⟩, 11), (⟨"ShareEight$Assembler", "refer", "(III)I"⟩, 11), (⟨"ShareEight$Assembler", "passWord", "()V"⟩, 11), (⟨"ShareEight$Assembler", "passEnd", "()V"⟩, 11), (⟨"ShareEight$House", "endTurn", "(LShareEight$User;)V"⟩, 12), (⟨"ShareEight$House", "attend", "(LShareEight$User;)V"⟩, 12), (⟨"ShareEight$Channel", "copyStep", "([I[I)V"⟩, 8), (⟨"ShareEight$Channel", "moveBlockStep", "(LShareEight$User;LShareEight$Slot;)V"⟩, 8), (⟨"ShareEight$House", "finishTask", "(LShareEight$User;LShareEight$Slot;)V"⟩, 12), (⟨"ShareEight$House", "finishBlock", "(LShareEight$User;LShareEight$Slot;)V"⟩, 12), (⟨"ShareEight$House", "lookForTask", "()V"⟩, 12), (⟨"ShareEight$House", "serveQueue", "()Z"⟩, 12), (⟨"ShareEight$House", "firstWithoutSlot", "()LShareEight$User;"⟩, 12), (⟨"ShareEight$House", "freeSlot", "()LShareEight$Slot;"⟩, 12), (⟨"ShareEight$House", "slotToClear", "()LShareEight$Slot;"⟩, 12), (⟨"ShareEight$House", "serveBlocks", "()Z"⟩, 12)]
theorem lw_r3 : ∀ q ∈ lw_privs_3, lw_okq q := List.forall_mem_cons.mpr ⟨lw_p32, List.forall_mem_cons.mpr ⟨lw_p33, List.forall_mem_cons.mpr ⟨lw_p34, List.forall_mem_cons.mpr ⟨lw_p35, List.forall_mem_cons.mpr ⟨lw_p36, List.forall_mem_cons.mpr ⟨lw_p37, List.forall_mem_cons.mpr ⟨lw_p38, List.forall_mem_cons.mpr ⟨lw_p39, List.forall_mem_cons.mpr ⟨lw_p40, List.forall_mem_cons.mpr ⟨lw_p41, List.forall_mem_cons.mpr ⟨lw_p42, List.forall_mem_cons.mpr ⟨lw_p43, List.forall_mem_cons.mpr ⟨lw_p44, List.forall_mem_cons.mpr ⟨lw_p45, List.forall_mem_cons.mpr ⟨lw_p46, List.forall_mem_cons.mpr ⟨lw_p47, fun _ h => absurd h List.not_mem_nil⟩⟩⟩⟩⟩⟩⟩⟩⟩⟩⟩⟩⟩⟩⟩⟩
theorem lw_p48 : lw_okq (⟨"ShareEight$House", "process", "()V"⟩, 12) := ⟨⟨by decide +kernel, by decide +kernel⟩, List.mem_of_getElem? (i := 211) (by decide +kernel), List.mem_of_getElem? (i := 1036) (by decide +kernel), List.mem_of_getElem? (i := 1037) (by decide +kernel)⟩
theorem lw_p49 : lw_okq (⟨"ShareEight$House", "chooseRunning", "()V"⟩, 12) := ⟨⟨by decide +kernel, by decide +kernel⟩, List.mem_of_getElem? (i := 211) (by decide +kernel), List.mem_of_getElem? (i := 1040) (by decide +kernel), List.mem_of_getElem? (i := 1041) (by decide +kernel)⟩
theorem lw_p50 : lw_okq (⟨"ShareEight$Machine", "refer", "(LShareEight$User;LShareEight$Slot;II)V"⟩, 2) := ⟨⟨by decide +kernel, by decide +kernel⟩, List.mem_of_getElem? (i := 264) (by decide +kernel), List.mem_of_getElem? (i := 1052) (by decide +kernel), List.mem_of_getElem? (i := 1053) (by decide +kernel)⟩
theorem lw_p51 : lw_okq (⟨"ShareEight$Machine", "addressOf", "(LShareEight$Slot;I)I"⟩, 2) := ⟨⟨by decide +kernel, by decide +kernel⟩, List.mem_of_getElem? (i := 264) (by decide +kernel), List.mem_of_getElem? (i := 1056) (by decide +kernel), List.mem_of_getElem? (i := 1057) (by decide +kernel)⟩
theorem lw_p52 : lw_okq (⟨"ShareEight$Machine", "callMonitor", "(LShareEight$User;I)Z"⟩, 2) := ⟨⟨by decide +kernel, by decide +kernel⟩, List.mem_of_getElem? (i := 264) (by decide +kernel), List.mem_of_getElem? (i := 1064) (by decide +kernel), List.mem_of_getElem? (i := 1065) (by decide +kernel)⟩
theorem lw_p53 : lw_okq (⟨"ShareEight$Machine", "readKey", "(LShareEight$User;Z)Z"⟩, 2) := ⟨⟨by decide +kernel, by decide +kernel⟩, List.mem_of_getElem? (i := 264) (by decide +kernel), List.mem_of_getElem? (i := 1070) (by decide +kernel), List.mem_of_getElem? (i := 1071) (by decide +kernel)⟩
theorem lw_p54 : lw_okq (⟨"ShareEight$Machine", "waitFor", "(LShareEight$User;I)Z"⟩, 2) := ⟨⟨by decide +kernel, by decide +kernel⟩, List.mem_of_getElem? (i := 264) (by decide +kernel), List.mem_of_getElem? (i := 1074) (by decide +kernel), List.mem_of_getElem? (i := 1075) (by decide +kernel)⟩
theorem lw_p55 : lw_okq (⟨"ShareEight$Machine", "sendLetter", "(LShareEight$User;)Z"⟩, 2) := ⟨⟨by decide +kernel, by decide +kernel⟩, List.mem_of_getElem? (i := 264) (by decide +kernel), List.mem_of_getElem? (i := 1079) (by decide +kernel), List.mem_of_getElem? (i := 1080) (by decide +kernel)⟩
theorem lw_p56 : lw_okq (⟨"ShareEight$Machine", "fallAsleep", "(LShareEight$User;)V"⟩, 2) := ⟨⟨by decide +kernel, by decide +kernel⟩, List.mem_of_getElem? (i := 264) (by decide +kernel), List.mem_of_getElem? (i := 1085) (by decide +kernel), List.mem_of_getElem? (i := 1086) (by decide +kernel)⟩
theorem lw_p57 : lw_okq (⟨"ShareEight$Machine", "goWrong", "(LShareEight$User;)Z"⟩, 2) := ⟨⟨by decide +kernel, by decide +kernel⟩, List.mem_of_getElem? (i := 264) (by decide +kernel), List.mem_of_getElem? (i := 1089) (by decide +kernel), List.mem_of_getElem? (i := 1090) (by decide +kernel)⟩
theorem lw_p58 : lw_okq (⟨"ShareEight$Machine", "extend", "(LShareEight$User;LShareEight$Slot;I)Z"⟩, 2) := ⟨⟨by decide +kernel, by decide +kernel⟩, List.mem_of_getElem? (i := 264) (by decide +kernel), List.mem_of_getElem? (i := 1108) (by decide +kernel), List.mem_of_getElem? (i := 1109) (by decide +kernel)⟩
theorem lw_p59 : lw_okq (⟨"ShareEight$House", "endQuantum", "(LShareEight$User;)V"⟩, 12) := ⟨⟨by decide +kernel, by decide +kernel⟩, List.mem_of_getElem? (i := 211) (by decide +kernel), List.mem_of_getElem? (i := 1125) (by decide +kernel), List.mem_of_getElem? (i := 1126) (by decide +kernel)⟩
theorem lw_p60 : lw_okq (⟨"ShareEightModel", "put", "(I)V"⟩, 79) := ⟨⟨by decide +kernel, by decide +kernel⟩, List.mem_of_getElem? (i := 1195) (by decide +kernel), List.mem_of_getElem? (i := 1193) (by decide +kernel), List.mem_of_getElem? (i := 1194) (by decide +kernel)⟩
theorem lw_p61 : lw_okq (⟨"ShareEightModel", "pass", "(Z)V"⟩, 79) := ⟨⟨by decide +kernel, by decide +kernel⟩, List.mem_of_getElem? (i := 1195) (by decide +kernel), List.mem_of_getElem? (i := 1209) (by decide +kernel), List.mem_of_getElem? (i := 1210) (by decide +kernel)⟩
theorem lw_p62 : lw_okq (⟨"ShareEightModel", "line", "()V"⟩, 79) := ⟨⟨by decide +kernel, by decide +kernel⟩, List.mem_of_getElem? (i := 1195) (by decide +kernel), List.mem_of_getElem? (i := 1213) (by decide +kernel), List.mem_of_getElem? (i := 1214) (by decide +kernel)⟩
theorem lw_p63 : lw_okq (⟨"ShareEightModel", "look", "()V"⟩, 79) := ⟨⟨by decide +kernel, by decide +kernel⟩, List.mem_of_getElem? (i := 1195) (by decide +kernel), List.mem_of_getElem? (i := 1217) (by decide +kernel), List.mem_of_getElem? (i := 1218) (by decide +kernel)⟩
def lw_privs_4 : List (MethodName × Nat) := [(⟨"ShareEight$House", "process", "()V"⟩, 12), (⟨"ShareEight$House", "chooseRunning", "()V"⟩, 12), (⟨"ShareEight$Machine", "refer", "(LShareEight$User;LShareEight$Slot;II)V"⟩, 2), (⟨"ShareEight$Machine", "addressOf", "(LShareEight$Slot;I)I"⟩, 2), (⟨"ShareEight$Machine", "callMonitor", "(LShareEight$User;I)Z"⟩, 2), (⟨"ShareEight$Machine", "readKey", "(LShareEight$User;Z)Z"⟩, 2), (⟨"ShareEight$Machine", "waitFor", "(LShareEight$User;I)Z"⟩, 2), (⟨"ShareEight$Machine", "sendLetter", "(LShareEight$User;)Z"⟩, 2), (⟨"ShareEight$Machine", "fallAsleep", "(LShareEight$User;)V"⟩, 2), (⟨"ShareEight$Machine", "goWrong", "(LShareEight$User;)Z"⟩, 2), (⟨"ShareEight$Machine", "extend", "(LShareEight$User;LShareEight$Slot;I)Z"⟩, 2), (⟨"ShareEight$House", "endQuantum", "(LShareEight$User;)V"⟩, 12), (⟨"ShareEightModel", "put", "(I)V"⟩, 79), (⟨"ShareEightModel", "pass", "(Z)V"⟩, 79), (⟨"ShareEightModel", "line", "()V"⟩, 79), (⟨"ShareEightModel", "look", "()V"⟩, 79)]
theorem lw_r4 : ∀ q ∈ lw_privs_4, lw_okq q := List.forall_mem_cons.mpr ⟨lw_p48, List.forall_mem_cons.mpr ⟨lw_p49, List.forall_mem_cons.mpr ⟨lw_p50, List.forall_mem_cons.mpr ⟨lw_p51, List.forall_mem_cons.mpr ⟨lw_p52, List.forall_mem_cons.mpr ⟨lw_p53, List.forall_mem_cons.mpr ⟨lw_p54, List.forall_mem_cons.mpr ⟨lw_p55, List.forall_mem_cons.mpr ⟨lw_p56, List.forall_mem_cons.mpr ⟨lw_p57, List.forall_mem_cons.mpr ⟨lw_p58, List.forall_mem_cons.mpr ⟨lw_p59, List.forall_mem_cons.mpr ⟨lw_p60, List.forall_mem_cons.mpr ⟨lw_p61, List.forall_mem_cons.mpr ⟨lw_p62, List.forall_mem_cons.mpr ⟨lw_p63, fun _ h => absurd h List.not_mem_nil⟩⟩⟩⟩⟩⟩⟩⟩⟩⟩⟩⟩⟩⟩⟩⟩
theorem lw_p64 : lw_okq (⟨"ShareEightModel", "at", "(I)I"⟩, 79) := ⟨⟨by decide +kernel, by decide +kernel⟩, List.mem_of_getElem? (i := 1195) (by decide +kernel), List.mem_of_getElem? (i := 1224) (by decide +kernel), List.mem_of_getElem? (i := 1225) (by decide +kernel)⟩
theorem lw_p65 : lw_okq (⟨"ShareEightModel", "fails", "(II)V"⟩, 79) := ⟨⟨by decide +kernel, by decide +kernel⟩, List.mem_of_getElem? (i := 1195) (by decide +kernel), List.mem_of_getElem? (i := 1231) (by decide +kernel), List.mem_of_getElem? (i := 1232) (by decide +kernel)⟩
theorem lw_p66 : lw_okq (⟨"ShareEightModel", "number", "(II)V"⟩, 79) := ⟨⟨by decide +kernel, by decide +kernel⟩, List.mem_of_getElem? (i := 1195) (by decide +kernel), List.mem_of_getElem? (i := 1235) (by decide +kernel), List.mem_of_getElem? (i := 1236) (by decide +kernel)⟩
theorem lw_p67 : lw_okq (⟨"ShareEightModel", "labels", "()V"⟩, 79) := ⟨⟨by decide +kernel, by decide +kernel⟩, List.mem_of_getElem? (i := 1195) (by decide +kernel), List.mem_of_getElem? (i := 1241) (by decide +kernel), List.mem_of_getElem? (i := 1242) (by decide +kernel)⟩
theorem lw_p68 : lw_okq (⟨"ShareEightModel", "isNext", "(I)Z"⟩, 79) := ⟨⟨by decide +kernel, by decide +kernel⟩, List.mem_of_getElem? (i := 1195) (by decide +kernel), List.mem_of_getElem? (i := 1245) (by decide +kernel), List.mem_of_getElem? (i := 1246) (by decide +kernel)⟩
theorem lw_p69 : lw_okq (⟨"ShareEightModel", "take", "()V"⟩, 79) := ⟨⟨by decide +kernel, by decide +kernel⟩, List.mem_of_getElem? (i := 1195) (by decide +kernel), List.mem_of_getElem? (i := 1249) (by decide +kernel), List.mem_of_getElem? (i := 1250) (by decide +kernel)⟩
theorem lw_p70 : lw_okq (⟨"ShareEightModel", "tells", "(IIIZ)V"⟩, 79) := ⟨⟨by decide +kernel, by decide +kernel⟩, List.mem_of_getElem? (i := 1195) (by decide +kernel), List.mem_of_getElem? (i := 1253) (by decide +kernel), List.mem_of_getElem? (i := 1254) (by decide +kernel)⟩
theorem lw_p71 : lw_okq (⟨"ShareEightModel", "findTold", "(II)I"⟩, 79) := ⟨⟨by decide +kernel, by decide +kernel⟩, List.mem_of_getElem? (i := 1195) (by decide +kernel), List.mem_of_getElem? (i := 1265) (by decide +kernel), List.mem_of_getElem? (i := 1266) (by decide +kernel)⟩
theorem lw_p72 : lw_okq (⟨"ShareEightModel", "one", "()V"⟩, 79) := ⟨⟨by decide +kernel, by decide +kernel⟩, List.mem_of_getElem? (i := 1195) (by decide +kernel), List.mem_of_getElem? (i := 1269) (by decide +kernel), List.mem_of_getElem? (i := 1270) (by decide +kernel)⟩
theorem lw_p73 : lw_okq (⟨"ShareEightModel", "isSign", "(I)Z"⟩, 79) := ⟨⟨by decide +kernel, by decide +kernel⟩, List.mem_of_getElem? (i := 1195) (by decide +kernel), List.mem_of_getElem? (i := 1273) (by decide +kernel), List.mem_of_getElem? (i := 1274) (by decide +kernel)⟩
theorem lw_p74 : lw_okq (⟨"ShareEightModel", "asked", "()I"⟩, 79) := ⟨⟨by decide +kernel, by decide +kernel⟩, List.mem_of_getElem? (i := 1195) (by decide +kernel), List.mem_of_getElem? (i := 1277) (by decide +kernel), List.mem_of_getElem? (i := 1278) (by decide +kernel)⟩
theorem lw_p75 : lw_okq (⟨"ShareEightModel", "all", "()I"⟩, 79) := ⟨⟨by decide +kernel, by decide +kernel⟩, List.mem_of_getElem? (i := 1195) (by decide +kernel), List.mem_of_getElem? (i := 1281) (by decide +kernel), List.mem_of_getElem? (i := 1282) (by decide +kernel)⟩
theorem lw_p76 : lw_okq (⟨"ShareEightModel", "part", "()I"⟩, 79) := ⟨⟨by decide +kernel, by decide +kernel⟩, List.mem_of_getElem? (i := 1195) (by decide +kernel), List.mem_of_getElem? (i := 1285) (by decide +kernel), List.mem_of_getElem? (i := 1286) (by decide +kernel)⟩
theorem lw_p77 : lw_okq (⟨"ShareEightModel", "named", "()I"⟩, 79) := ⟨⟨by decide +kernel, by decide +kernel⟩, List.mem_of_getElem? (i := 1195) (by decide +kernel), List.mem_of_getElem? (i := 1289) (by decide +kernel), List.mem_of_getElem? (i := 1290) (by decide +kernel)⟩
theorem lw_p78 : lw_okq (⟨"ShareEightModel", "told", "(I)V"⟩, 79) := ⟨⟨by decide +kernel, by decide +kernel⟩, List.mem_of_getElem? (i := 1195) (by decide +kernel), List.mem_of_getElem? (i := 1295) (by decide +kernel), List.mem_of_getElem? (i := 1296) (by decide +kernel)⟩
theorem lw_p79 : lw_okq (⟨"ShareEightModel", "texts", "(I)V"⟩, 79) := ⟨⟨by decide +kernel, by decide +kernel⟩, List.mem_of_getElem? (i := 1195) (by decide +kernel), List.mem_of_getElem? (i := 1299) (by decide +kernel), List.mem_of_getElem? (i := 1300) (by decide +kernel)⟩
def lw_privs_5 : List (MethodName × Nat) := [(⟨"ShareEightModel", "at", "(I)I"⟩, 79), (⟨"ShareEightModel", "fails", "(II)V"⟩, 79), (⟨"ShareEightModel", "number", "(II)V"⟩, 79), (⟨"ShareEightModel", "labels", "()V"⟩, 79), (⟨"ShareEightModel", "isNext", "(I)Z"⟩, 79), (⟨"ShareEightModel", "take", "()V"⟩, 79), (⟨"ShareEightModel", "tells", "(IIIZ)V"⟩, 79), (⟨"ShareEightModel", "findTold", "(II)I"⟩, 79), (⟨"ShareEightModel", "one", "()V"⟩, 79), (⟨"ShareEightModel", "isSign", "(I)Z"⟩, 79), (⟨"ShareEightModel", "asked", "()I"⟩, 79), (⟨"ShareEightModel", "all", "()I"⟩, 79), (⟨"ShareEightModel", "part", "()I"⟩, 79), (⟨"ShareEightModel", "named", "()I"⟩, 79), (⟨"ShareEightModel", "told", "(I)V"⟩, 79), (⟨"ShareEightModel", "texts", "(I)V"⟩, 79)]
theorem lw_r5 : ∀ q ∈ lw_privs_5, lw_okq q := List.forall_mem_cons.mpr ⟨lw_p64, List.forall_mem_cons.mpr ⟨lw_p65, List.forall_mem_cons.mpr ⟨lw_p66, List.forall_mem_cons.mpr ⟨lw_p67, List.forall_mem_cons.mpr ⟨lw_p68, List.forall_mem_cons.mpr ⟨lw_p69, List.forall_mem_cons.mpr ⟨lw_p70, List.forall_mem_cons.mpr ⟨lw_p71, List.forall_mem_cons.mpr ⟨lw_p72, List.forall_mem_cons.mpr ⟨lw_p73, List.forall_mem_cons.mpr ⟨lw_p74, List.forall_mem_cons.mpr ⟨lw_p75, List.forall_mem_cons.mpr ⟨lw_p76, List.forall_mem_cons.mpr ⟨lw_p77, List.forall_mem_cons.mpr ⟨lw_p78, List.forall_mem_cons.mpr ⟨lw_p79, fun _ h => absurd h List.not_mem_nil⟩⟩⟩⟩⟩⟩⟩⟩⟩⟩⟩⟩⟩⟩⟩⟩
theorem lw_p80 : lw_okq (⟨"ShareEightModel", "lies", "(I)V"⟩, 79) := ⟨⟨by decide +kernel, by decide +kernel⟩, List.mem_of_getElem? (i := 1195) (by decide +kernel), List.mem_of_getElem? (i := 1303) (by decide +kernel), List.mem_of_getElem? (i := 1304) (by decide +kernel)⟩
theorem lw_p81 : lw_okq (⟨"ShareEightModel", "again", "()V"⟩, 79) := ⟨⟨by decide +kernel, by decide +kernel⟩, List.mem_of_getElem? (i := 1195) (by decide +kernel), List.mem_of_getElem? (i := 1307) (by decide +kernel), List.mem_of_getElem? (i := 1308) (by decide +kernel)⟩
theorem lw_p82 : lw_okq (⟨"ShareEightModel", "beginsV", "()Z"⟩, 79) := ⟨⟨by decide +kernel, by decide +kernel⟩, List.mem_of_getElem? (i := 1195) (by decide +kernel), List.mem_of_getElem? (i := 1311) (by decide +kernel), List.mem_of_getElem? (i := 1312) (by decide +kernel)⟩
theorem lw_p83 : lw_okq (⟨"ShareEightModel", "word", "()V"⟩, 79) := ⟨⟨by decide +kernel, by decide +kernel⟩, List.mem_of_getElem? (i := 1195) (by decide +kernel), List.mem_of_getElem? (i := 1315) (by decide +kernel), List.mem_of_getElem? (i := 1316) (by decide +kernel)⟩
theorem lw_p84 : lw_okq (⟨"ShareEightModel", "literal", "()I"⟩, 79) := ⟨⟨by decide +kernel, by decide +kernel⟩, List.mem_of_getElem? (i := 1195) (by decide +kernel), List.mem_of_getElem? (i := 1319) (by decide +kernel), List.mem_of_getElem? (i := 1320) (by decide +kernel)⟩
theorem lw_p85 : lw_okq (⟨"ShareEightModel", "literalFor", "(III)I"⟩, 79) := ⟨⟨by decide +kernel, by decide +kernel⟩, List.mem_of_getElem? (i := 1195) (by decide +kernel), List.mem_of_getElem? (i := 1323) (by decide +kernel), List.mem_of_getElem? (i := 1324) (by decide +kernel)⟩
theorem lw_p86 : lw_okq (⟨"ShareEightModel", "memory", "(IZII)I"⟩, 79) := ⟨⟨by decide +kernel, by decide +kernel⟩, List.mem_of_getElem? (i := 1195) (by decide +kernel), List.mem_of_getElem? (i := 1327) (by decide +kernel), List.mem_of_getElem? (i := 1328) (by decide +kernel)⟩
theorem lw_p87 : lw_okq (⟨"ShareEightModel", "rests", "(I)Z"⟩, 79) := ⟨⟨by decide +kernel, by decide +kernel⟩, List.mem_of_getElem? (i := 1195) (by decide +kernel), List.mem_of_getElem? (i := 1592) (by decide +kernel), List.mem_of_getElem? (i := 1593) (by decide +kernel)⟩
theorem lw_p88 : lw_okq (⟨"ShareEightModel", "isUser", "(I)Z"⟩, 79) := ⟨⟨by decide +kernel, by decide +kernel⟩, List.mem_of_getElem? (i := 1195) (by decide +kernel), List.mem_of_getElem? (i := 1596) (by decide +kernel), List.mem_of_getElem? (i := 1597) (by decide +kernel)⟩
theorem lw_p89 : lw_okq (⟨"ShareEightModel", "isMoved", "(I)Z"⟩, 79) := ⟨⟨by decide +kernel, by decide +kernel⟩, List.mem_of_getElem? (i := 1195) (by decide +kernel), List.mem_of_getElem? (i := 1600) (by decide +kernel), List.mem_of_getElem? (i := 1601) (by decide +kernel)⟩
theorem lw_p90 : lw_okq (⟨"ShareEightModel", "nobodys", "(I)V"⟩, 79) := ⟨⟨by decide +kernel, by decide +kernel⟩, List.mem_of_getElem? (i := 1195) (by decide +kernel), List.mem_of_getElem? (i := 1604) (by decide +kernel), List.mem_of_getElem? (i := 1605) (by decide +kernel)⟩
theorem lw_p91 : lw_okq (⟨"ShareEightModel", "becomesReady", "(I)V"⟩, 79) := ⟨⟨by decide +kernel, by decide +kernel⟩, List.mem_of_getElem? (i := 1195) (by decide +kernel), List.mem_of_getElem? (i := 1615) (by decide +kernel), List.mem_of_getElem? (i := 1616) (by decide +kernel)⟩
theorem lw_p92 : lw_okq (⟨"ShareEightModel", "leavesQueue", "(I)V"⟩, 79) := ⟨⟨by decide +kernel, by decide +kernel⟩, List.mem_of_getElem? (i := 1195) (by decide +kernel), List.mem_of_getElem? (i := 1623) (by decide +kernel), List.mem_of_getElem? (i := 1624) (by decide +kernel)⟩
theorem lw_p93 : lw_okq (⟨"ShareEightModel", "store", "(III)V"⟩, 79) := ⟨⟨by decide +kernel, by decide +kernel⟩, List.mem_of_getElem? (i := 1195) (by decide +kernel), List.mem_of_getElem? (i := 1639) (by decide +kernel), List.mem_of_getElem? (i := 1640) (by decide +kernel)⟩
theorem lw_p94 : lw_okq (⟨"ShareEightModel", "tick", "()V"⟩, 79) := ⟨⟨by decide +kernel, by decide +kernel⟩, List.mem_of_getElem? (i := 1195) (by decide +kernel), List.mem_of_getElem? (i := 1647) (by decide +kernel), List.mem_of_getElem? (i := 1648) (by decide +kernel)⟩
theorem lw_p95 : lw_okq (⟨"ShareEightModel", "clocks", "(I)V"⟩, 79) := ⟨⟨by decide +kernel, by decide +kernel⟩, List.mem_of_getElem? (i := 1195) (by decide +kernel), List.mem_of_getElem? (i := 1651) (by decide +kernel), List.mem_of_getElem? (i := 1652) (by decide +kernel)⟩
def lw_privs_6 : List (MethodName × Nat) := [(⟨"ShareEightModel", "lies", "(I)V"⟩, 79), (⟨"ShareEightModel", "again", "()V"⟩, 79), (⟨"ShareEightModel", "beginsV", "()Z"⟩, 79), (⟨"ShareEightModel", "word", "()V"⟩, 79), (⟨"ShareEightModel", "literal", "()I"⟩, 79), (⟨"ShareEightModel", "literalFor", "(III)I"⟩, 79), (⟨"ShareEightModel", "memory", "(IZII)I"⟩, 79), (⟨"ShareEightModel", "rests", "(I)Z"⟩, 79), (⟨"ShareEightModel", "isUser", "(I)Z"⟩, 79), (⟨"ShareEightModel", "isMoved", "(I)Z"⟩, 79), (⟨"ShareEightModel", "nobodys", "(I)V"⟩, 79), (⟨"ShareEightModel", "becomesReady", "(I)V"⟩, 79), (⟨"ShareEightModel", "leavesQueue", "(I)V"⟩, 79), (⟨"ShareEightModel", "store", "(III)V"⟩, 79), (⟨"ShareEightModel", "tick", "()V"⟩, 79), (⟨"ShareEightModel", "clocks", "(I)V"⟩, 79)]
theorem lw_r6 : ∀ q ∈ lw_privs_6, lw_okq q := List.forall_mem_cons.mpr ⟨lw_p80, List.forall_mem_cons.mpr ⟨lw_p81, List.forall_mem_cons.mpr ⟨lw_p82, List.forall_mem_cons.mpr ⟨lw_p83, List.forall_mem_cons.mpr ⟨lw_p84, List.forall_mem_cons.mpr ⟨lw_p85, List.forall_mem_cons.mpr ⟨lw_p86, List.forall_mem_cons.mpr ⟨lw_p87, List.forall_mem_cons.mpr ⟨lw_p88, List.forall_mem_cons.mpr ⟨lw_p89, List.forall_mem_cons.mpr ⟨lw_p90, List.forall_mem_cons.mpr ⟨lw_p91, List.forall_mem_cons.mpr ⟨lw_p92, List.forall_mem_cons.mpr ⟨lw_p93, List.forall_mem_cons.mpr ⟨lw_p94, List.forall_mem_cons.mpr ⟨lw_p95, fun _ h => absurd h List.not_mem_nil⟩⟩⟩⟩⟩⟩⟩⟩⟩⟩⟩⟩⟩⟩⟩⟩
theorem lw_p96 : lw_okq (⟨"ShareEightModel", "moves", "()V"⟩, 79) := ⟨⟨by decide +kernel, by decide +kernel⟩, List.mem_of_getElem? (i := 1195) (by decide +kernel), List.mem_of_getElem? (i := 1655) (by decide +kernel), List.mem_of_getElem? (i := 1656) (by decide +kernel)⟩
theorem lw_p97 : lw_okq (⟨"ShareEightModel", "load", "(II)I"⟩, 79) := ⟨⟨by decide +kernel, by decide +kernel⟩, List.mem_of_getElem? (i := 1195) (by decide +kernel), List.mem_of_getElem? (i := 1659) (by decide +kernel), List.mem_of_getElem? (i := 1660) (by decide +kernel)⟩
theorem lw_p98 : lw_okq (⟨"ShareEightModel", "ends", "(I)V"⟩, 79) := ⟨⟨by decide +kernel, by decide +kernel⟩, List.mem_of_getElem? (i := 1195) (by decide +kernel), List.mem_of_getElem? (i := 1663) (by decide +kernel), List.mem_of_getElem? (i := 1664) (by decide +kernel)⟩
theorem lw_p99 : lw_okq (⟨"ShareEightModel", "looksFor", "()V"⟩, 79) := ⟨⟨by decide +kernel, by decide +kernel⟩, List.mem_of_getElem? (i := 1195) (by decide +kernel), List.mem_of_getElem? (i := 1667) (by decide +kernel), List.mem_of_getElem? (i := 1668) (by decide +kernel)⟩
theorem lw_p100 : lw_okq (⟨"ShareEightModel", "queuesTask", "()Z"⟩, 79) := ⟨⟨by decide +kernel, by decide +kernel⟩, List.mem_of_getElem? (i := 1195) (by decide +kernel), List.mem_of_getElem? (i := 1671) (by decide +kernel), List.mem_of_getElem? (i := 1672) (by decide +kernel)⟩
theorem lw_p101 : lw_okq (⟨"ShareEightModel", "given", "()I"⟩, 79) := ⟨⟨by decide +kernel, by decide +kernel⟩, List.mem_of_getElem? (i := 1195) (by decide +kernel), List.mem_of_getElem? (i := 1675) (by decide +kernel), List.mem_of_getElem? (i := 1676) (by decide +kernel)⟩
theorem lw_p102 : lw_okq (⟨"ShareEightModel", "starts", "(III)V"⟩, 79) := ⟨⟨by decide +kernel, by decide +kernel⟩, List.mem_of_getElem? (i := 1195) (by decide +kernel), List.mem_of_getElem? (i := 1679) (by decide +kernel), List.mem_of_getElem? (i := 1680) (by decide +kernel)⟩
theorem lw_p103 : lw_okq (⟨"ShareEightModel", "blocksTask", "()Z"⟩, 79) := ⟨⟨by decide +kernel, by decide +kernel⟩, List.mem_of_getElem? (i := 1195) (by decide +kernel), List.mem_of_getElem? (i := 1683) (by decide +kernel), List.mem_of_getElem? (i := 1684) (by decide +kernel)⟩
theorem lw_p104 : lw_okq (⟨"ShareEightModel", "processes", "()V"⟩, 79) := ⟨⟨by decide +kernel, by decide +kernel⟩, List.mem_of_getElem? (i := 1195) (by decide +kernel), List.mem_of_getElem? (i := 1687) (by decide +kernel), List.mem_of_getElem? (i := 1688) (by decide +kernel)⟩
theorem lw_p105 : lw_okq (⟨"ShareEightModel", "step", "(I)V"⟩, 79) := ⟨⟨by decide +kernel, by decide +kernel⟩, List.mem_of_getElem? (i := 1195) (by decide +kernel), List.mem_of_getElem? (i := 1691) (by decide +kernel), List.mem_of_getElem? (i := 1692) (by decide +kernel)⟩
theorem lw_p106 : lw_okq (⟨"ShareEightModel", "isWrong", "()Z"⟩, 79) := ⟨⟨by decide +kernel, by decide +kernel⟩, List.mem_of_getElem? (i := 1195) (by decide +kernel), List.mem_of_getElem? (i := 1695) (by decide +kernel), List.mem_of_getElem? (i := 1696) (by decide +kernel)⟩
theorem lw_p107 : lw_okq (⟨"ShareEightModel", "mustWait", "(I)Z"⟩, 79) := ⟨⟨by decide +kernel, by decide +kernel⟩, List.mem_of_getElem? (i := 1195) (by decide +kernel), List.mem_of_getElem? (i := 1699) (by decide +kernel), List.mem_of_getElem? (i := 1700) (by decide +kernel)⟩
theorem lw_p108 : lw_okq (⟨"ShareEightModel", "memory", "(III)V"⟩, 79) := ⟨⟨by decide +kernel, by decide +kernel⟩, List.mem_of_getElem? (i := 1195) (by decide +kernel), List.mem_of_getElem? (i := 1703) (by decide +kernel), List.mem_of_getElem? (i := 1704) (by decide +kernel)⟩
theorem lw_p109 : lw_okq (⟨"ShareEightModel", "skip", "(I)V"⟩, 79) := ⟨⟨by decide +kernel, by decide +kernel⟩, List.mem_of_getElem? (i := 1195) (by decide +kernel), List.mem_of_getElem? (i := 1707) (by decide +kernel), List.mem_of_getElem? (i := 1708) (by decide +kernel)⟩
theorem lw_p110 : lw_okq (⟨"ShareEightModel", "device", "(I)Z"⟩, 79) := ⟨⟨by decide +kernel, by decide +kernel⟩, List.mem_of_getElem? (i := 1195) (by decide +kernel), List.mem_of_getElem? (i := 1711) (by decide +kernel), List.mem_of_getElem? (i := 1712) (by decide +kernel)⟩
theorem lw_p111 : lw_okq (⟨"ShareEightModel", "goes", "(I)V"⟩, 79) := ⟨⟨by decide +kernel, by decide +kernel⟩, List.mem_of_getElem? (i := 1195) (by decide +kernel), List.mem_of_getElem? (i := 1715) (by decide +kernel), List.mem_of_getElem? (i := 1716) (by decide +kernel)⟩
def lw_privs_7 : List (MethodName × Nat) := [(⟨"ShareEightModel", "moves", "()V"⟩, 79), (⟨"ShareEightModel", "load", "(II)I"⟩, 79), (⟨"ShareEightModel", "ends", "(I)V"⟩, 79), (⟨"ShareEightModel", "looksFor", "()V"⟩, 79), (⟨"ShareEightModel", "queuesTask", "()Z"⟩, 79), (⟨"ShareEightModel", "given", "()I"⟩, 79), (⟨"ShareEightModel", "starts", "(III)V"⟩, 79), (⟨"ShareEightModel", "blocksTask", "()Z"⟩, 79), (⟨"ShareEightModel", "processes", "()V"⟩, 79), (⟨"ShareEightModel", "step", "(I)V"⟩, 79), (⟨"ShareEightModel", "isWrong", "()Z"⟩, 79), (⟨"ShareEightModel", "mustWait", "(I)Z"⟩, 79), (⟨"ShareEightModel", "memory", "(III)V"⟩, 79), (⟨"ShareEightModel", "skip", "(I)V"⟩, 79), (⟨"ShareEightModel", "device", "(I)Z"⟩, 79), (⟨"ShareEightModel", "goes", "(I)V"⟩, 79)]
theorem lw_r7 : ∀ q ∈ lw_privs_7, lw_okq q := List.forall_mem_cons.mpr ⟨lw_p96, List.forall_mem_cons.mpr ⟨lw_p97, List.forall_mem_cons.mpr ⟨lw_p98, List.forall_mem_cons.mpr ⟨lw_p99, List.forall_mem_cons.mpr ⟨lw_p100, List.forall_mem_cons.mpr ⟨lw_p101, List.forall_mem_cons.mpr ⟨lw_p102, List.forall_mem_cons.mpr ⟨lw_p103, List.forall_mem_cons.mpr ⟨lw_p104, List.forall_mem_cons.mpr ⟨lw_p105, List.forall_mem_cons.mpr ⟨lw_p106, List.forall_mem_cons.mpr ⟨lw_p107, List.forall_mem_cons.mpr ⟨lw_p108, List.forall_mem_cons.mpr ⟨lw_p109, List.forall_mem_cons.mpr ⟨lw_p110, List.forall_mem_cons.mpr ⟨lw_p111, fun _ h => absurd h List.not_mem_nil⟩⟩⟩⟩⟩⟩⟩⟩⟩⟩⟩⟩⟩⟩⟩⟩
theorem lw_p112 : lw_okq (⟨"ShareEightModel", "first", "(I)V"⟩, 79) := ⟨⟨by decide +kernel, by decide +kernel⟩, List.mem_of_getElem? (i := 1195) (by decide +kernel), List.mem_of_getElem? (i := 1719) (by decide +kernel), List.mem_of_getElem? (i := 1720) (by decide +kernel)⟩
theorem lw_p113 : lw_okq (⟨"ShareEightModel", "has", "(I)Z"⟩, 79) := ⟨⟨by decide +kernel, by decide +kernel⟩, List.mem_of_getElem? (i := 1195) (by decide +kernel), List.mem_of_getElem? (i := 1723) (by decide +kernel), List.mem_of_getElem? (i := 1724) (by decide +kernel)⟩
theorem lw_p114 : lw_okq (⟨"ShareEightModel", "second", "(I)V"⟩, 79) := ⟨⟨by decide +kernel, by decide +kernel⟩, List.mem_of_getElem? (i := 1195) (by decide +kernel), List.mem_of_getElem? (i := 1727) (by decide +kernel), List.mem_of_getElem? (i := 1728) (by decide +kernel)⟩
theorem lw_p115 : lw_okq (⟨"ShareEightModel", "third", "(I)V"⟩, 79) := ⟨⟨by decide +kernel, by decide +kernel⟩, List.mem_of_getElem? (i := 1195) (by decide +kernel), List.mem_of_getElem? (i := 1731) (by decide +kernel), List.mem_of_getElem? (i := 1732) (by decide +kernel)⟩
theorem lw_p116 : lw_okq (⟨"ShareEightModel", "word", "(I)I"⟩, 79) := ⟨⟨by decide +kernel, by decide +kernel⟩, List.mem_of_getElem? (i := 1195) (by decide +kernel), List.mem_of_getElem? (i := 1735) (by decide +kernel), List.mem_of_getElem? (i := 1736) (by decide +kernel)⟩
def lw_privs_8 : List (MethodName × Nat) := [(⟨"ShareEightModel", "first", "(I)V"⟩, 79), (⟨"ShareEightModel", "has", "(I)Z"⟩, 79), (⟨"ShareEightModel", "second", "(I)V"⟩, 79), (⟨"ShareEightModel", "third", "(I)V"⟩, 79), (⟨"ShareEightModel", "word", "(I)I"⟩, 79)]
theorem lw_r8 : ∀ q ∈ lw_privs_8, lw_okq q := List.forall_mem_cons.mpr ⟨lw_p112, List.forall_mem_cons.mpr ⟨lw_p113, List.forall_mem_cons.mpr ⟨lw_p114, List.forall_mem_cons.mpr ⟨lw_p115, List.forall_mem_cons.mpr ⟨lw_p116, fun _ h => absurd h List.not_mem_nil⟩⟩⟩⟩⟩
def lw_privs : List (MethodName × Nat) := lw_privs_1 ++ (lw_privs_2 ++ (lw_privs_3 ++ (lw_privs_4 ++ (lw_privs_5 ++ (lw_privs_6 ++ (lw_privs_7 ++ (lw_privs_8)))))))
def lw_tbl : List Cond := k2_sels lw_privs ++ tables_1
theorem lw_privs_ok : ∀ q ∈ lw_privs, lw_okq q := by
  show ∀ q ∈ lw_privs_1 ++ (lw_privs_2 ++ (lw_privs_3 ++ (lw_privs_4 ++ (lw_privs_5 ++ (lw_privs_6 ++ (lw_privs_7 ++ (lw_privs_8))))))), lw_okq q
  exact List.forall_mem_append.mpr ⟨lw_r1, List.forall_mem_append.mpr ⟨lw_r2, List.forall_mem_append.mpr ⟨lw_r3, List.forall_mem_append.mpr ⟨lw_r4, List.forall_mem_append.mpr ⟨lw_r5, List.forall_mem_append.mpr ⟨lw_r6, List.forall_mem_append.mpr ⟨lw_r7, lw_r8⟩⟩⟩⟩⟩⟩⟩
end
section
def RX0 : String := "ShareEight$Assembler"
def TX0 : u_T := fun k => match k with
  | 0 => ("ShareEight$Assembler", "names", "LShareEight$Names;", true)
  | 1 => ("ShareEight$Assembler", "tokens", "LShareEight$Tokens;", true)
  | 2 => ("ShareEight$Assembler", "sheet", "LShareEight$Sheet;", false)
  | 3 => ("ShareEight$Assembler", "spare", "LShareEight$Sheet;", false)
  | 4 => ("ShareEight$Assembler", "fault", "I", false)
  | 5 => ("ShareEight$Assembler", "faultPlace", "I", false)
  | 6 => ("ShareEight$Assembler", "makes", "Z", false)
  | 7 => ("ShareEight$Assembler", "ended", "Z", false)
  | 8 => ("ShareEight$Assembler", "decimal", "Z", false)
  | 9 => ("ShareEight$Assembler", "at", "I", false)
  | _ => ("ShareEight$Assembler", "place", "I", false)
def tyX0 : Nat → FieldType := fun k => match k with
  | 0 => .object "ShareEight$Names"
  | 1 => .object "ShareEight$Tokens"
  | 2 => .object "ShareEight$Sheet"
  | 3 => .object "ShareEight$Sheet"
  | 4 => .int
  | 5 => .int
  | 6 => .boolean
  | 7 => .boolean
  | 8 => .boolean
  | 9 => .int
  | _ => .int
abbrev wsX00 : List Cond := u_ws RX0 TX0 11
theorem nmX0 : ∀ a, a < 11 → ∀ b, b < 11 → a ≠ b → (TX0 a).2.1 ≠ (TX0 b).2.1 := by decide +kernel
theorem tyX0_ok : ∀ k, k < 11 → parseFieldDescriptor (TX0 k).2.2.1 = some (tyX0 k) := by decide +kernel
abbrev cX0_init : ByteArray := prog_2_method_1_code
def yX0_init : MethodName := ⟨RX0, "<init>", "()V"⟩
abbrev cX0_open : ByteArray := prog_2_method_2_code
def yX0_open : MethodName := ⟨RX0, "open", "([II)V"⟩
abbrev cX0_close : ByteArray := prog_2_method_3_code
def yX0_close : MethodName := ⟨RX0, "close", "()I"⟩
abbrev cX0_passOver : ByteArray := prog_2_method_4_code
def yX0_passOver : MethodName := ⟨RX0, "passOver", "(Z)V"⟩
abbrev cX0_report : ByteArray := prog_2_method_5_code
def yX0_report : MethodName := ⟨RX0, "report", "(II)V"⟩
abbrev cX0_refuse : ByteArray := prog_2_method_6_code
def yX0_refuse : MethodName := ⟨RX0, "refuse", "(I)V"⟩
abbrev cX0_kindAt : ByteArray := prog_2_method_7_code
def yX0_kindAt : MethodName := ⟨RX0, "kindAt", "(I)I"⟩
abbrev cX0_isEnd : ByteArray := prog_2_method_8_code
def yX0_isEnd : MethodName := ⟨RX0, "isEnd", "(I)Z"⟩
abbrev cX0_passLabels : ByteArray := prog_2_method_9_code
def yX0_passLabels : MethodName := ⟨RX0, "passLabels", "()V"⟩
abbrev cX0_mayTell : ByteArray := prog_2_method_10_code
def yX0_mayTell : MethodName := ⟨RX0, "mayTell", "(I)Z"⟩
abbrev cX0_passEnd : ByteArray := prog_2_method_11_code
def yX0_passEnd : MethodName := ⟨RX0, "passEnd", "()V"⟩
abbrev cX0_passStatement : ByteArray := prog_2_method_12_code
def yX0_passStatement : MethodName := ⟨RX0, "passStatement", "()V"⟩
abbrev cX0_kindOfNamed : ByteArray := prog_2_method_13_code
def yX0_kindOfNamed : MethodName := ⟨RX0, "kindOfNamed", "()I"⟩
abbrev cX0_passRadix : ByteArray := prog_2_method_14_code
def yX0_passRadix : MethodName := ⟨RX0, "passRadix", "(Z)V"⟩
abbrev cX0_passOrigin : ByteArray := prog_2_method_15_code
def yX0_passOrigin : MethodName := ⟨RX0, "passOrigin", "()V"⟩
abbrev cX0_passEquation : ByteArray := prog_2_method_16_code
def yX0_passEquation : MethodName := ⟨RX0, "passEquation", "()V"⟩
abbrev cX0_passPage : ByteArray := prog_2_method_17_code
def yX0_passPage : MethodName := ⟨RX0, "passPage", "()V"⟩
abbrev cX0_passZeros : ByteArray := prog_2_method_18_code
def yX0_passZeros : MethodName := ⟨RX0, "passZeros", "()V"⟩
abbrev cX0_passText : ByteArray := prog_2_method_19_code
def yX0_passText : MethodName := ⟨RX0, "passText", "()V"⟩
abbrev cX0_sixBits : ByteArray := prog_2_method_20_code
def yX0_sixBits : MethodName := ⟨RX0, "sixBits", "(II)I"⟩
abbrev cX0_mayLay : ByteArray := prog_2_method_21_code
def yX0_mayLay : MethodName := ⟨RX0, "mayLay", "(II)Z"⟩
abbrev cX0_isOperator : ByteArray := prog_2_method_22_code
def yX0_isOperator : MethodName := ⟨RX0, "isOperator", "(I)Z"⟩
abbrev cX0_isLiteralSign : ByteArray := prog_2_method_23_code
def yX0_isLiteralSign : MethodName := ⟨RX0, "isLiteralSign", "(I)Z"⟩
abbrev cX0_isStatementName : ByteArray := prog_2_method_24_code
def yX0_isStatementName : MethodName := ⟨RX0, "isStatementName", "(I)Z"⟩
abbrev cX0_beginsValue : ByteArray := prog_2_method_25_code
def yX0_beginsValue : MethodName := ⟨RX0, "beginsValue", "(I)Z"⟩
abbrev cX0_beginsPart : ByteArray := prog_2_method_26_code
def yX0_beginsPart : MethodName := ⟨RX0, "beginsPart", "(I)Z"⟩
abbrev cX0_readValue : ByteArray := prog_2_method_27_code
def yX0_readValue : MethodName := ⟨RX0, "readValue", "(Z)I"⟩
abbrev cX0_combine : ByteArray := prog_2_method_28_code
def yX0_combine : MethodName := ⟨RX0, "combine", "(III)I"⟩
abbrev cX0_readPlain : ByteArray := prog_2_method_29_code
def yX0_readPlain : MethodName := ⟨RX0, "readPlain", "(Z)I"⟩
abbrev cX0_readItem : ByteArray := prog_2_method_30_code
def yX0_readItem : MethodName := ⟨RX0, "readItem", "()I"⟩
abbrev cX0_literalFor : ByteArray := prog_2_method_31_code
def yX0_literalFor : MethodName := ⟨RX0, "literalFor", "(III)I"⟩
abbrev cX0_mayBeginWord : ByteArray := prog_2_method_32_code
def yX0_mayBeginWord : MethodName := ⟨RX0, "mayBeginWord", "()Z"⟩
abbrev cX0_finishWord : ByteArray := prog_2_method_33_code
def yX0_finishWord : MethodName := ⟨RX0, "finishWord", "(I)V"⟩
abbrev cX0_passWord : ByteArray := prog_2_method_34_code
def yX0_passWord : MethodName := ⟨RX0, "passWord", "()V"⟩
abbrev cX0_passReference : ByteArray := prog_2_method_35_code
def yX0_passReference : MethodName := ⟨RX0, "passReference", "()V"⟩
abbrev cX0_isModifierAt : ByteArray := prog_2_method_36_code
def yX0_isModifierAt : MethodName := ⟨RX0, "isModifierAt", "(I)Z"⟩
abbrev cX0_refer : ByteArray := prog_2_method_37_code
def yX0_refer : MethodName := ⟨RX0, "refer", "(III)I"⟩
abbrev cX0_inPage : ByteArray := prog_2_method_38_code
def yX0_inPage : MethodName := ⟨RX0, "inPage", "(I)I"⟩
def RX1 : String := "ShareEight$Channel"
def TX1 : u_T := fun k => match k with
  | 0 => ("ShareEight$Channel", "task", "I", false)
  | 1 => ("ShareEight$Channel", "user", "LShareEight$User;", false)
  | 2 => ("ShareEight$Channel", "slot", "LShareEight$Slot;", false)
  | 3 => ("ShareEight$Channel", "moved", "I", false)
  | 4 => ("ShareEight$Channel", "lastWasBlock", "Z", false)
  | 5 => ("ShareEight$Channel", "insDone", "I", false)
  | 6 => ("ShareEight$Channel", "outsDone", "I", false)
  | _ => ("ShareEight$Channel", "blocksDone", "I", false)
def tyX1 : Nat → FieldType := fun k => match k with
  | 0 => .int
  | 1 => .object "ShareEight$User"
  | 2 => .object "ShareEight$Slot"
  | 3 => .int
  | 4 => .boolean
  | 5 => .int
  | 6 => .int
  | _ => .int
abbrev wsX10 : List Cond := u_ws RX1 TX1 8
theorem nmX1 : ∀ a, a < 8 → ∀ b, b < 8 → a ≠ b → (TX1 a).2.1 ≠ (TX1 b).2.1 := by decide +kernel
theorem tyX1_ok : ∀ k, k < 8 → parseFieldDescriptor (TX1 k).2.2.1 = some (tyX1 k) := by decide +kernel
abbrev cX1_init : ByteArray := prog_3_method_1_code
def yX1_init : MethodName := ⟨RX1, "<init>", "()V"⟩
abbrev cX1_isIdle : ByteArray := prog_3_method_2_code
def yX1_isIdle : MethodName := ⟨RX1, "isIdle", "()Z"⟩
abbrev cX1_isMoving : ByteArray := prog_3_method_3_code
def yX1_isMoving : MethodName := ⟨RX1, "isMoving", "(LShareEight$User;)Z"⟩
abbrev cX1_isTakingOut : ByteArray := prog_3_method_4_code
def yX1_isTakingOut : MethodName := ⟨RX1, "isTakingOut", "(LShareEight$User;)Z"⟩
abbrev cX1_start : ByteArray := prog_3_method_5_code
def yX1_start : MethodName := ⟨RX1, "start", "(ILShareEight$User;LShareEight$Slot;)V"⟩
abbrev cX1_clear : ByteArray := prog_3_method_6_code
def yX1_clear : MethodName := ⟨RX1, "clear", "()V"⟩
abbrev cX1_advance : ByteArray := prog_3_method_7_code
def yX1_advance : MethodName := ⟨RX1, "advance", "()Z"⟩
abbrev cX1_copyStep : ByteArray := prog_3_method_8_code
def yX1_copyStep : MethodName := ⟨RX1, "copyStep", "([I[I)V"⟩
abbrev cX1_moveBlockStep : ByteArray := prog_3_method_9_code
def yX1_moveBlockStep : MethodName := ⟨RX1, "moveBlockStep", "(LShareEight$User;LShareEight$Slot;)V"⟩
abbrev cX1_register : ByteArray := prog_3_method_10_code
def yX1_register : MethodName := ⟨RX1, "register", "(I)I"⟩
def RX2 : String := "ShareEight$House"
def TX2 : u_T := fun k => match k with
  | 0 => ("ShareEight$House", "users", "[LShareEight$User;", true)
  | 1 => ("ShareEight$House", "slots", "[LShareEight$Slot;", true)
  | 2 => ("ShareEight$House", "queue", "LShareEight$Queue;", true)
  | 3 => ("ShareEight$House", "channel", "LShareEight$Channel;", true)
  | 4 => ("ShareEight$House", "machine", "LShareEight$Machine;", true)
  | 5 => ("ShareEight$House", "quantum", "I", true)
  | 6 => ("ShareEight$House", "speed", "I", true)
  | 7 => ("ShareEight$House", "time", "I", false)
  | 8 => ("ShareEight$House", "running", "LShareEight$User;", false)
  | 9 => ("ShareEight$House", "left", "I", false)
  | 10 => ("ShareEight$House", "idle", "I", false)
  | _ => ("ShareEight$House", "done", "I", false)
def tyX2 : Nat → FieldType := fun k => match k with
  | 0 => .array (.object "ShareEight$User")
  | 1 => .array (.object "ShareEight$Slot")
  | 2 => .object "ShareEight$Queue"
  | 3 => .object "ShareEight$Channel"
  | 4 => .object "ShareEight$Machine"
  | 5 => .int
  | 6 => .int
  | 7 => .int
  | 8 => .object "ShareEight$User"
  | 9 => .int
  | 10 => .int
  | _ => .int
abbrev wsX20 : List Cond := u_ws RX2 TX2 12
theorem nmX2 : ∀ a, a < 12 → ∀ b, b < 12 → a ≠ b → (TX2 a).2.1 ≠ (TX2 b).2.1 := by decide +kernel
theorem tyX2_ok : ∀ k, k < 12 → parseFieldDescriptor (TX2 k).2.2.1 = some (tyX2 k) := by decide +kernel
abbrev cX2_init : ByteArray := prog_4_method_1_code
def yX2_init : MethodName := ⟨RX2, "<init>", "(IIII)V"⟩
abbrev cX2_userAt : ByteArray := prog_4_method_2_code
def yX2_userAt : MethodName := ⟨RX2, "userAt", "(I)LShareEight$User;"⟩
abbrev cX2_slotAt : ByteArray := prog_4_method_3_code
def yX2_slotAt : MethodName := ⟨RX2, "slotAt", "(I)LShareEight$Slot;"⟩
abbrev cX2_mayChange : ByteArray := prog_4_method_4_code
def yX2_mayChange : MethodName := ⟨RX2, "mayChange", "(LShareEight$User;)Z"⟩
abbrev cX2_load : ByteArray := prog_4_method_5_code
def yX2_load : MethodName := ⟨RX2, "load", "(LShareEight$User;LShareEight$Sheet;)V"⟩
abbrev cX2_makeReady : ByteArray := prog_4_method_6_code
def yX2_makeReady : MethodName := ⟨RX2, "makeReady", "(LShareEight$User;)V"⟩
abbrev cX2_stop : ByteArray := prog_4_method_7_code
def yX2_stop : MethodName := ⟨RX2, "stop", "(LShareEight$User;)V"⟩
abbrev cX2_press : ByteArray := prog_4_method_8_code
def yX2_press : MethodName := ⟨RX2, "press", "(LShareEight$User;I)Z"⟩
abbrev cX2_tick : ByteArray := prog_4_method_9_code
def yX2_tick : MethodName := ⟨RX2, "tick", "()V"⟩
abbrev cX2_attend : ByteArray := prog_4_method_10_code
def yX2_attend : MethodName := ⟨RX2, "attend", "(LShareEight$User;)V"⟩
abbrev cX2_finishTask : ByteArray := prog_4_method_11_code
def yX2_finishTask : MethodName := ⟨RX2, "finishTask", "(LShareEight$User;LShareEight$Slot;)V"⟩
abbrev cX2_finishBlock : ByteArray := prog_4_method_12_code
def yX2_finishBlock : MethodName := ⟨RX2, "finishBlock", "(LShareEight$User;LShareEight$Slot;)V"⟩
abbrev cX2_lookForTask : ByteArray := prog_4_method_13_code
def yX2_lookForTask : MethodName := ⟨RX2, "lookForTask", "()V"⟩
abbrev cX2_serveBlocks : ByteArray := prog_4_method_14_code
def yX2_serveBlocks : MethodName := ⟨RX2, "serveBlocks", "()Z"⟩
abbrev cX2_serveQueue : ByteArray := prog_4_method_15_code
def yX2_serveQueue : MethodName := ⟨RX2, "serveQueue", "()Z"⟩
abbrev cX2_firstWithoutSlot : ByteArray := prog_4_method_16_code
def yX2_firstWithoutSlot : MethodName := ⟨RX2, "firstWithoutSlot", "()LShareEight$User;"⟩
abbrev cX2_freeSlot : ByteArray := prog_4_method_17_code
def yX2_freeSlot : MethodName := ⟨RX2, "freeSlot", "()LShareEight$Slot;"⟩
abbrev cX2_slotToClear : ByteArray := prog_4_method_18_code
def yX2_slotToClear : MethodName := ⟨RX2, "slotToClear", "()LShareEight$Slot;"⟩
abbrev cX2_process : ByteArray := prog_4_method_19_code
def yX2_process : MethodName := ⟨RX2, "process", "()V"⟩
abbrev cX2_chooseRunning : ByteArray := prog_4_method_20_code
def yX2_chooseRunning : MethodName := ⟨RX2, "chooseRunning", "()V"⟩
abbrev cX2_endTurn : ByteArray := prog_4_method_21_code
def yX2_endTurn : MethodName := ⟨RX2, "endTurn", "(LShareEight$User;)V"⟩
abbrev cX2_endQuantum : ByteArray := prog_4_method_22_code
def yX2_endQuantum : MethodName := ⟨RX2, "endQuantum", "(LShareEight$User;)V"⟩
def RX3 : String := "ShareEight$Machine"
def TX3 : u_T := fun k => match k with
  | 0 => ("ShareEight$Machine", "time", "I", false)
  | _ => ("ShareEight$Machine", "at", "I", false)
def tyX3 : Nat → FieldType := fun k => match k with
  | 0 => .int
  | _ => .int
abbrev wsX30 : List Cond := u_ws RX3 TX3 2
theorem nmX3 : ∀ a, a < 2 → ∀ b, b < 2 → a ≠ b → (TX3 a).2.1 ≠ (TX3 b).2.1 := by decide +kernel
theorem tyX3_ok : ∀ k, k < 2 → parseFieldDescriptor (TX3 k).2.2.1 = some (tyX3 k) := by decide +kernel
abbrev cX3_init : ByteArray := prog_5_method_1_code
def yX3_init : MethodName := ⟨RX3, "<init>", "()V"⟩
abbrev cX3_step : ByteArray := prog_5_method_2_code
def yX3_step : MethodName := ⟨RX3, "step", "(LShareEight$User;LShareEight$Slot;I)Z"⟩
abbrev cX3_addressOf : ByteArray := prog_5_method_3_code
def yX3_addressOf : MethodName := ⟨RX3, "addressOf", "(LShareEight$Slot;I)I"⟩
abbrev cX3_refer : ByteArray := prog_5_method_4_code
def yX3_refer : MethodName := ⟨RX3, "refer", "(LShareEight$User;LShareEight$Slot;II)V"⟩
abbrev cX3_skipIf : ByteArray := prog_5_method_5_code
def yX3_skipIf : MethodName := ⟨RX3, "skipIf", "(LShareEight$User;Z)V"⟩
abbrev cX3_operate : ByteArray := prog_5_method_6_code
def yX3_operate : MethodName := ⟨RX3, "operate", "(LShareEight$User;I)V"⟩
abbrev cX3_both : ByteArray := prog_5_method_7_code
def yX3_both : MethodName := ⟨RX3, "both", "(LShareEight$User;)I"⟩
abbrev cX3_setBoth : ByteArray := prog_5_method_8_code
def yX3_setBoth : MethodName := ⟨RX3, "setBoth", "(LShareEight$User;I)V"⟩
abbrev cX3_turn : ByteArray := prog_5_method_9_code
def yX3_turn : MethodName := ⟨RX3, "turn", "(LShareEight$User;I)V"⟩
abbrev cX3_skipOrStop : ByteArray := prog_5_method_10_code
def yX3_skipOrStop : MethodName := ⟨RX3, "skipOrStop", "(LShareEight$User;I)V"⟩
abbrev cX3_extend : ByteArray := prog_5_method_11_code
def yX3_extend : MethodName := ⟨RX3, "extend", "(LShareEight$User;LShareEight$Slot;I)Z"⟩
abbrev cX3_reckon : ByteArray := prog_5_method_12_code
def yX3_reckon : MethodName := ⟨RX3, "reckon", "(LShareEight$User;II)V"⟩
abbrev cX3_setLong : ByteArray := prog_5_method_13_code
def yX3_setLong : MethodName := ⟨RX3, "setLong", "(LShareEight$User;I)V"⟩
abbrev cX3_divide : ByteArray := prog_5_method_14_code
def yX3_divide : MethodName := ⟨RX3, "divide", "(LShareEight$User;I)V"⟩
abbrev cX3_shift : ByteArray := prog_5_method_15_code
def yX3_shift : MethodName := ⟨RX3, "shift", "(LShareEight$User;II)V"⟩
abbrev cX3_goWrong : ByteArray := prog_5_method_16_code
def yX3_goWrong : MethodName := ⟨RX3, "goWrong", "(LShareEight$User;)Z"⟩
abbrev cX3_waitFor : ByteArray := prog_5_method_17_code
def yX3_waitFor : MethodName := ⟨RX3, "waitFor", "(LShareEight$User;I)Z"⟩
abbrev cX3_callMonitor : ByteArray := prog_5_method_18_code
def yX3_callMonitor : MethodName := ⟨RX3, "callMonitor", "(LShareEight$User;I)Z"⟩
abbrev cX3_readKey : ByteArray := prog_5_method_19_code
def yX3_readKey : MethodName := ⟨RX3, "readKey", "(LShareEight$User;Z)Z"⟩
abbrev cX3_sendLetter : ByteArray := prog_5_method_20_code
def yX3_sendLetter : MethodName := ⟨RX3, "sendLetter", "(LShareEight$User;)Z"⟩
abbrev cX3_fallAsleep : ByteArray := prog_5_method_21_code
def yX3_fallAsleep : MethodName := ⟨RX3, "fallAsleep", "(LShareEight$User;)V"⟩
def RX4 : String := "ShareEight$Names"
def TX4 : u_T := fun k => match k with
  | 0 => ("ShareEight$Names", "letters", "[J", true)
  | 1 => ("ShareEight$Names", "values", "[I", true)
  | 2 => ("ShareEight$Names", "tellings", "[I", true)
  | 3 => ("ShareEight$Names", "count", "I", false)
  | _ => ("ShareEight$Names", "toldCount", "I", false)
def tyX4 : Nat → FieldType := fun k => match k with
  | 0 => .array .long
  | 1 => .array .int
  | 2 => .array .int
  | 3 => .int
  | _ => .int
abbrev wsX40 : List Cond := u_ws RX4 TX4 5
theorem nmX4 : ∀ a, a < 5 → ∀ b, b < 5 → a ≠ b → (TX4 a).2.1 ≠ (TX4 b).2.1 := by decide +kernel
theorem tyX4_ok : ∀ k, k < 5 → parseFieldDescriptor (TX4 k).2.2.1 = some (tyX4 k) := by decide +kernel
abbrev cX4_init : ByteArray := prog_6_method_1_code
def yX4_init : MethodName := ⟨RX4, "<init>", "()V"⟩
abbrev cX4_withLetter : ByteArray := prog_6_method_2_code
def yX4_withLetter : MethodName := ⟨RX4, "withLetter", "(JI)J"⟩
abbrev cX4_forget : ByteArray := prog_6_method_3_code
def yX4_forget : MethodName := ⟨RX4, "forget", "()V"⟩
abbrev cX4_numberOf : ByteArray := prog_6_method_4_code
def yX4_numberOf : MethodName := ⟨RX4, "numberOf", "(J)I"⟩
abbrev cX4_tellingOf : ByteArray := prog_6_method_5_code
def yX4_tellingOf : MethodName := ⟨RX4, "tellingOf", "(I)I"⟩
abbrev cX4_valueOf : ByteArray := prog_6_method_6_code
def yX4_valueOf : MethodName := ⟨RX4, "valueOf", "(I)I"⟩
abbrev cX4_tell : ByteArray := prog_6_method_7_code
def yX4_tell : MethodName := ⟨RX4, "tell", "(III)V"⟩
def RX5 : String := "ShareEight$Queue"
def TX5 : u_T := fun k => match k with
  | 0 => ("ShareEight$Queue", "items", "[LShareEight$User;", true)
  | _ => ("ShareEight$Queue", "size", "I", false)
def tyX5 : Nat → FieldType := fun k => match k with
  | 0 => .array (.object "ShareEight$User")
  | _ => .int
abbrev wsX50 : List Cond := u_ws RX5 TX5 2
theorem nmX5 : ∀ a, a < 2 → ∀ b, b < 2 → a ≠ b → (TX5 a).2.1 ≠ (TX5 b).2.1 := by decide +kernel
theorem tyX5_ok : ∀ k, k < 2 → parseFieldDescriptor (TX5 k).2.2.1 = some (tyX5 k) := by decide +kernel
abbrev cX5_init : ByteArray := prog_7_method_1_code
def yX5_init : MethodName := ⟨RX5, "<init>", "(I)V"⟩
abbrev cX5_at : ByteArray := prog_7_method_2_code
def yX5_at : MethodName := ⟨RX5, "at", "(I)LShareEight$User;"⟩
abbrev cX5_append : ByteArray := prog_7_method_3_code
def yX5_append : MethodName := ⟨RX5, "append", "(LShareEight$User;)V"⟩
abbrev cX5_placeOf : ByteArray := prog_7_method_4_code
def yX5_placeOf : MethodName := ⟨RX5, "placeOf", "(LShareEight$User;)I"⟩
abbrev cX5_remove : ByteArray := prog_7_method_5_code
def yX5_remove : MethodName := ⟨RX5, "remove", "(LShareEight$User;)V"⟩
def RX6 : String := "ShareEight$Row"
def TX6 : u_T := fun k => match k with
  | 0 => ("ShareEight$Row", "items", "[I", true)
  | 1 => ("ShareEight$Row", "first", "I", false)
  | _ => ("ShareEight$Row", "size", "I", false)
def tyX6 : Nat → FieldType := fun k => match k with
  | 0 => .array .int
  | 1 => .int
  | _ => .int
abbrev wsX60 : List Cond := u_ws RX6 TX6 3
theorem nmX6 : ∀ a, a < 3 → ∀ b, b < 3 → a ≠ b → (TX6 a).2.1 ≠ (TX6 b).2.1 := by decide +kernel
theorem tyX6_ok : ∀ k, k < 3 → parseFieldDescriptor (TX6 k).2.2.1 = some (tyX6 k) := by decide +kernel
abbrev cX6_init : ByteArray := prog_8_method_1_code
def yX6_init : MethodName := ⟨RX6, "<init>", "()V"⟩
abbrev cX6_isFull : ByteArray := prog_8_method_2_code
def yX6_isFull : MethodName := ⟨RX6, "isFull", "()Z"⟩
abbrev cX6_isEmpty : ByteArray := prog_8_method_3_code
def yX6_isEmpty : MethodName := ⟨RX6, "isEmpty", "()Z"⟩
abbrev cX6_append : ByteArray := prog_8_method_4_code
def yX6_append : MethodName := ⟨RX6, "append", "(I)V"⟩
abbrev cX6_head : ByteArray := prog_8_method_5_code
def yX6_head : MethodName := ⟨RX6, "head", "()I"⟩
abbrev cX6_drop : ByteArray := prog_8_method_6_code
def yX6_drop : MethodName := ⟨RX6, "drop", "()V"⟩
def RX7 : String := "ShareEight$Sheet"
def TX7 : u_T := fun k => match k with
  | 0 => ("ShareEight$Sheet", "cells", "[I", true)
  | _ => ("ShareEight$Sheet", "count", "I", false)
def tyX7 : Nat → FieldType := fun k => match k with
  | 0 => .array .int
  | _ => .int
abbrev wsX70 : List Cond := u_ws RX7 TX7 2
theorem nmX7 : ∀ a, a < 2 → ∀ b, b < 2 → a ≠ b → (TX7 a).2.1 ≠ (TX7 b).2.1 := by decide +kernel
theorem tyX7_ok : ∀ k, k < 2 → parseFieldDescriptor (TX7 k).2.2.1 = some (tyX7 k) := by decide +kernel
abbrev cX7_init : ByteArray := prog_9_method_1_code
def yX7_init : MethodName := ⟨RX7, "<init>", "()V"⟩
abbrev cX7_clear : ByteArray := prog_9_method_2_code
def yX7_clear : MethodName := ⟨RX7, "clear", "()V"⟩
abbrev cX7_at : ByteArray := prog_9_method_3_code
def yX7_at : MethodName := ⟨RX7, "at", "(I)I"⟩
abbrev cX7_copyTo : ByteArray := prog_9_method_4_code
def yX7_copyTo : MethodName := ⟨RX7, "copyTo", "([I)V"⟩
abbrev cX7_hasLiteral : ByteArray := prog_9_method_5_code
def yX7_hasLiteral : MethodName := ⟨RX7, "hasLiteral", "(II)Z"⟩
abbrev cX7_lay : ByteArray := prog_9_method_6_code
def yX7_lay : MethodName := ⟨RX7, "lay", "(II)V"⟩
abbrev cX7_literalPlace : ByteArray := prog_9_method_7_code
def yX7_literalPlace : MethodName := ⟨RX7, "literalPlace", "(II)I"⟩
def RX8 : String := "ShareEight$Slot"
def TX8 : u_T := fun k => match k with
  | 0 => ("ShareEight$Slot", "number", "I", true)
  | 1 => ("ShareEight$Slot", "words", "[I", true)
  | 2 => ("ShareEight$Slot", "owner", "LShareEight$User;", false)
  | 3 => ("ShareEight$Slot", "changed", "Z", false)
  | _ => ("ShareEight$Slot", "ran", "Z", false)
def tyX8 : Nat → FieldType := fun k => match k with
  | 0 => .int
  | 1 => .array .int
  | 2 => .object "ShareEight$User"
  | 3 => .boolean
  | _ => .boolean
abbrev wsX80 : List Cond := u_ws RX8 TX8 5
theorem nmX8 : ∀ a, a < 5 → ∀ b, b < 5 → a ≠ b → (TX8 a).2.1 ≠ (TX8 b).2.1 := by decide +kernel
theorem tyX8_ok : ∀ k, k < 5 → parseFieldDescriptor (TX8 k).2.2.1 = some (tyX8 k) := by decide +kernel
abbrev cX8_init : ByteArray := prog_10_method_1_code
def yX8_init : MethodName := ⟨RX8, "<init>", "(I)V"⟩
abbrev cX8_put : ByteArray := prog_10_method_2_code
def yX8_put : MethodName := ⟨RX8, "put", "(II)V"⟩
abbrev cX8_release : ByteArray := prog_10_method_3_code
def yX8_release : MethodName := ⟨RX8, "release", "()V"⟩
abbrev cX8_give : ByteArray := prog_10_method_4_code
def yX8_give : MethodName := ⟨RX8, "give", "(LShareEight$User;)V"⟩
abbrev cX8_register : ByteArray := prog_10_method_5_code
def yX8_register : MethodName := ⟨RX8, "register", "(I)I"⟩
def RX9 : String := "ShareEight$Tokens"
def TX9 : u_T := fun k => match k with
  | 0 => ("ShareEight$Tokens", "names", "LShareEight$Names;", true)
  | 1 => ("ShareEight$Tokens", "kinds", "[I", true)
  | 2 => ("ShareEight$Tokens", "starts", "[I", true)
  | 3 => ("ShareEight$Tokens", "values", "[I", true)
  | 4 => ("ShareEight$Tokens", "others", "[I", true)
  | 5 => ("ShareEight$Tokens", "count", "I", false)
  | 6 => ("ShareEight$Tokens", "bytes", "[I", false)
  | 7 => ("ShareEight$Tokens", "length", "I", false)
  | _ => ("ShareEight$Tokens", "next", "I", false)
def tyX9 : Nat → FieldType := fun k => match k with
  | 0 => .object "ShareEight$Names"
  | 1 => .array .int
  | 2 => .array .int
  | 3 => .array .int
  | 4 => .array .int
  | 5 => .int
  | 6 => .array .int
  | 7 => .int
  | _ => .int
abbrev wsX90 : List Cond := u_ws RX9 TX9 9
theorem nmX9 : ∀ a, a < 9 → ∀ b, b < 9 → a ≠ b → (TX9 a).2.1 ≠ (TX9 b).2.1 := by decide +kernel
theorem tyX9_ok : ∀ k, k < 9 → parseFieldDescriptor (TX9 k).2.2.1 = some (tyX9 k) := by decide +kernel
abbrev cX9_init : ByteArray := prog_11_method_1_code
def yX9_init : MethodName := ⟨RX9, "<init>", "(LShareEight$Names;)V"⟩
abbrev cX9_scan : ByteArray := prog_11_method_2_code
def yX9_scan : MethodName := ⟨RX9, "scan", "([II)V"⟩
abbrev cX9_byteAt : ByteArray := prog_11_method_3_code
def yX9_byteAt : MethodName := ⟨RX9, "byteAt", "(I)I"⟩
abbrev cX9_valueOf : ByteArray := prog_11_method_4_code
def yX9_valueOf : MethodName := ⟨RX9, "valueOf", "(I)I"⟩
abbrev cX9_otherOf : ByteArray := prog_11_method_5_code
def yX9_otherOf : MethodName := ⟨RX9, "otherOf", "(I)I"⟩
abbrev cX9_skipBlanks : ByteArray := prog_11_method_6_code
def yX9_skipBlanks : MethodName := ⟨RX9, "skipBlanks", "(I)I"⟩
abbrev cX9_skipRemark : ByteArray := prog_11_method_7_code
def yX9_skipRemark : MethodName := ⟨RX9, "skipRemark", "()V"⟩
abbrev cX9_scanToken : ByteArray := prog_11_method_8_code
def yX9_scanToken : MethodName := ⟨RX9, "scanToken", "()I"⟩
abbrev cX9_append : ByteArray := prog_11_method_9_code
def yX9_append : MethodName := ⟨RX9, "append", "(IIII)I"⟩
abbrev cX9_scanName : ByteArray := prog_11_method_10_code
def yX9_scanName : MethodName := ⟨RX9, "scanName", "()I"⟩
abbrev cX9_scanText : ByteArray := prog_11_method_11_code
def yX9_scanText : MethodName := ⟨RX9, "scanText", "(II)I"⟩
abbrev cX9_scanNumber : ByteArray := prog_11_method_12_code
def yX9_scanNumber : MethodName := ⟨RX9, "scanNumber", "()I"⟩
abbrev cX9_isLetter : ByteArray := prog_11_method_13_code
def yX9_isLetter : MethodName := ⟨RX9, "isLetter", "(I)Z"⟩
abbrev cX9_isDigit : ByteArray := prog_11_method_14_code
def yX9_isDigit : MethodName := ⟨RX9, "isDigit", "(I)Z"⟩
abbrev cX9_isPlain : ByteArray := prog_11_method_15_code
def yX9_isPlain : MethodName := ⟨RX9, "isPlain", "(I)Z"⟩
def RX10 : String := "ShareEight$User"
def TX10 : u_T := fun k => match k with
  | 0 => ("ShareEight$User", "number", "I", true)
  | 1 => ("ShareEight$User", "drum", "[I", true)
  | 2 => ("ShareEight$User", "file", "[I", true)
  | 3 => ("ShareEight$User", "paper", "[I", true)
  | 4 => ("ShareEight$User", "keys", "LShareEight$Row;", true)
  | 5 => ("ShareEight$User", "out", "LShareEight$Row;", true)
  | 6 => ("ShareEight$User", "printed", "I", false)
  | 7 => ("ShareEight$User", "mayPrintAt", "I", false)
  | 8 => ("ShareEight$User", "state", "I", false)
  | 9 => ("ShareEight$User", "pc", "I", false)
  | 10 => ("ShareEight$User", "ac", "I", false)
  | 11 => ("ShareEight$User", "link", "I", false)
  | 12 => ("ShareEight$User", "mq", "I", false)
  | 13 => ("ShareEight$User", "switches", "I", false)
  | 14 => ("ShareEight$User", "done", "I", false)
  | 15 => ("ShareEight$User", "lostKeys", "I", false)
  | 16 => ("ShareEight$User", "wakesAt", "I", false)
  | 17 => ("ShareEight$User", "waitsSince", "I", false)
  | 18 => ("ShareEight$User", "blockTask", "I", false)
  | _ => ("ShareEight$User", "slot", "LShareEight$Slot;", false)
def tyX10 : Nat → FieldType := fun k => match k with
  | 0 => .int
  | 1 => .array .int
  | 2 => .array .int
  | 3 => .array .int
  | 4 => .object "ShareEight$Row"
  | 5 => .object "ShareEight$Row"
  | 6 => .int
  | 7 => .int
  | 8 => .int
  | 9 => .int
  | 10 => .int
  | 11 => .int
  | 12 => .int
  | 13 => .int
  | 14 => .int
  | 15 => .int
  | 16 => .int
  | 17 => .int
  | 18 => .int
  | _ => .object "ShareEight$Slot"
abbrev wsX100 : List Cond := u_ws RX10 TX10 20
theorem nmX10 : ∀ a, a < 20 → ∀ b, b < 20 → a ≠ b → (TX10 a).2.1 ≠ (TX10 b).2.1 := by decide +kernel
theorem tyX10_ok : ∀ k, k < 20 → parseFieldDescriptor (TX10 k).2.2.1 = some (tyX10 k) := by decide +kernel
abbrev cX10_init : ByteArray := prog_12_method_1_code
def yX10_init : MethodName := ⟨RX10, "<init>", "(I)V"⟩
abbrev cX10_hasStopped : ByteArray := prog_12_method_2_code
def yX10_hasStopped : MethodName := ⟨RX10, "hasStopped", "()Z"⟩
abbrev cX10_mayBeHalted : ByteArray := prog_12_method_3_code
def yX10_mayBeHalted : MethodName := ⟨RX10, "mayBeHalted", "()Z"⟩
abbrev cX10_fetch : ByteArray := prog_12_method_4_code
def yX10_fetch : MethodName := ⟨RX10, "fetch", "(I)I"⟩
abbrev cX10_store : ByteArray := prog_12_method_5_code
def yX10_store : MethodName := ⟨RX10, "store", "(II)V"⟩
abbrev cX10_clearRegisters : ByteArray := prog_12_method_6_code
def yX10_clearRegisters : MethodName := ⟨RX10, "clearRegisters", "()V"⟩
abbrev cX10_print : ByteArray := prog_12_method_7_code
def yX10_print : MethodName := ⟨RX10, "print", "()V"⟩
abbrev cX10_letterOnPaper : ByteArray := prog_12_method_8_code
def yX10_letterOnPaper : MethodName := ⟨RX10, "letterOnPaper", "(I)I"⟩
abbrev cX10_register : ByteArray := prog_12_method_9_code
def yX10_register : MethodName := ⟨RX10, "register", "(I)I"⟩
def RX11 : String := "ShareEight"
def TX11 : u_T := fun k => match k with
  | 0 => ("ShareEight", "tape", "[I", true)
  | 1 => ("ShareEight", "tapeLength", "I", false)
  | 2 => ("ShareEight", "assembler", "LShareEight$Assembler;", true)
  | _ => ("ShareEight", "house", "LShareEight$House;", true)
def tyX11 : Nat → FieldType := fun k => match k with
  | 0 => .array .int
  | 1 => .int
  | 2 => .object "ShareEight$Assembler"
  | _ => .object "ShareEight$House"
abbrev wsX110 : List Cond := u_ws RX11 TX11 4
theorem nmX11 : ∀ a, a < 4 → ∀ b, b < 4 → a ≠ b → (TX11 a).2.1 ≠ (TX11 b).2.1 := by decide +kernel
theorem tyX11_ok : ∀ k, k < 4 → parseFieldDescriptor (TX11 k).2.2.1 = some (tyX11 k) := by decide +kernel
abbrev cX11_init : ByteArray := prog_1_method_1_code
def yX11_init : MethodName := ⟨RX11, "<init>", "(IIII)V"⟩
abbrev cX11_nearest : ByteArray := prog_1_method_2_code
def yX11_nearest : MethodName := ⟨RX11, "nearest", "(II)I"⟩
abbrev cX11_isWord : ByteArray := prog_1_method_3_code
def yX11_isWord : MethodName := ⟨RX11, "isWord", "(I)Z"⟩
abbrev cX11_feed : ByteArray := prog_1_method_4_code
def yX11_feed : MethodName := ⟨RX11, "feed", "(IIIII)I"⟩
abbrev cX11_feedFour : ByteArray := prog_1_method_5_code
def yX11_feedFour : MethodName := ⟨RX11, "feedFour", "(I)V"⟩
abbrev cX11_end : ByteArray := prog_1_method_6_code
def yX11_end : MethodName := ⟨RX11, "end", "(I)Z"⟩
abbrev cX11_assemble : ByteArray := prog_1_method_7_code
def yX11_assemble : MethodName := ⟨RX11, "assemble", "()I"⟩
abbrev cX11_fault : ByteArray := prog_1_method_8_code
def yX11_fault : MethodName := ⟨RX11, "fault", "(I)I"⟩
abbrev cX11_made : ByteArray := prog_1_method_9_code
def yX11_made : MethodName := ⟨RX11, "made", "(I)I"⟩
abbrev cX11_mount : ByteArray := prog_1_method_10_code
def yX11_mount : MethodName := ⟨RX11, "mount", "(I)Z"⟩
abbrev cX11_begin : ByteArray := prog_1_method_11_code
def yX11_begin : MethodName := ⟨RX11, "begin", "(II)Z"⟩
abbrev cX11_halt : ByteArray := prog_1_method_12_code
def yX11_halt : MethodName := ⟨RX11, "halt", "(I)Z"⟩
abbrev cX11_key : ByteArray := prog_1_method_13_code
def yX11_key : MethodName := ⟨RX11, "key", "(II)Z"⟩
abbrev cX11_set : ByteArray := prog_1_method_14_code
def yX11_set : MethodName := ⟨RX11, "set", "(II)Z"⟩
abbrev cX11_deposit : ByteArray := prog_1_method_15_code
def yX11_deposit : MethodName := ⟨RX11, "deposit", "(III)Z"⟩
abbrev cX11_run : ByteArray := prog_1_method_16_code
def yX11_run : MethodName := ⟨RX11, "run", "(I)I"⟩
abbrev cX11_user : ByteArray := prog_1_method_17_code
def yX11_user : MethodName := ⟨RX11, "user", "(II)I"⟩
abbrev cX11_look : ByteArray := prog_1_method_18_code
def yX11_look : MethodName := ⟨RX11, "look", "(I)I"⟩
abbrev cX11_word : ByteArray := prog_1_method_19_code
def yX11_word : MethodName := ⟨RX11, "word", "(II)I"⟩
abbrev cX11_core : ByteArray := prog_1_method_20_code
def yX11_core : MethodName := ⟨RX11, "core", "(II)I"⟩
abbrev cX11_drum : ByteArray := prog_1_method_21_code
def yX11_drum : MethodName := ⟨RX11, "drum", "(II)I"⟩
abbrev cX11_slot : ByteArray := prog_1_method_22_code
def yX11_slot : MethodName := ⟨RX11, "slot", "(II)I"⟩
abbrev cX11_block : ByteArray := prog_1_method_23_code
def yX11_block : MethodName := ⟨RX11, "block", "(III)I"⟩
abbrev cX11_paper : ByteArray := prog_1_method_24_code
def yX11_paper : MethodName := ⟨RX11, "paper", "(II)I"⟩
def RX12 : String := "ShareEightModel"
def TX12 : u_T := fun k => match k with
  | 0 => ("ShareEightModel", "tape", "[I", true)
  | 1 => ("ShareEightModel", "taped", "I", false)
  | 2 => ("ShareEightModel", "text", "[I", true)
  | 3 => ("ShareEightModel", "size", "I", false)
  | 4 => ("ShareEightModel", "pos", "I", false)
  | 5 => ("ShareEightModel", "fault", "I", false)
  | 6 => ("ShareEightModel", "faultAt", "I", false)
  | 7 => ("ShareEightModel", "seenFault", "I", false)
  | 8 => ("ShareEightModel", "seenAt", "I", false)
  | 9 => ("ShareEightModel", "second", "Z", false)
  | 10 => ("ShareEightModel", "radix", "I", false)
  | 11 => ("ShareEightModel", "place", "I", false)
  | 12 => ("ShareEightModel", "kind", "I", false)
  | 13 => ("ShareEightModel", "from", "I", false)
  | 14 => ("ShareEightModel", "value", "I", false)
  | 15 => ("ShareEightModel", "nameSize", "I", false)
  | 16 => ("ShareEightModel", "till", "I", false)
  | 17 => ("ShareEightModel", "toldName", "[I", true)
  | 18 => ("ShareEightModel", "toldSize", "[I", true)
  | 19 => ("ShareEightModel", "toldValue", "[I", true)
  | 20 => ("ShareEightModel", "byComma", "[Z", true)
  | 21 => ("ShareEightModel", "told", "I", false)
  | 22 => ("ShareEightModel", "words", "[I", true)
  | 23 => ("ShareEightModel", "isText", "[Z", true)
  | 24 => ("ShareEightModel", "isLiteral", "[Z", true)
  | 25 => ("ShareEightModel", "made", "[I", true)
  | 26 => ("ShareEightModel", "lowest", "[I", true)
  | 27 => ("ShareEightModel", "statement", "I", false)
  | 28 => ("ShareEightModel", "ended", "Z", false)
  | 29 => ("ShareEightModel", "must", "Z", false)
  | 30 => ("ShareEightModel", "alone", "I", false)
  | 31 => ("ShareEightModel", "users", "I", true)
  | 32 => ("ShareEightModel", "slots", "I", true)
  | 33 => ("ShareEightModel", "quantum", "I", true)
  | 34 => ("ShareEightModel", "speed", "I", true)
  | 35 => ("ShareEightModel", "core", "[[I", true)
  | 36 => ("ShareEightModel", "drum", "[[I", true)
  | 37 => ("ShareEightModel", "file", "[[I", true)
  | 38 => ("ShareEightModel", "owner", "[I", true)
  | 39 => ("ShareEightModel", "changed", "[Z", true)
  | 40 => ("ShareEightModel", "hasRun", "[Z", true)
  | 41 => ("ShareEightModel", "slotOf", "[I", true)
  | 42 => ("ShareEightModel", "state", "[I", true)
  | 43 => ("ShareEightModel", "ac", "[I", true)
  | 44 => ("ShareEightModel", "mq", "[I", true)
  | 45 => ("ShareEightModel", "pc", "[I", true)
  | 46 => ("ShareEightModel", "link", "[I", true)
  | 47 => ("ShareEightModel", "switches", "[I", true)
  | 48 => ("ShareEightModel", "done", "[I", true)
  | 49 => ("ShareEightModel", "keys", "[[I", true)
  | 50 => ("ShareEightModel", "keyMany", "[I", true)
  | 51 => ("ShareEightModel", "lost", "[I", true)
  | 52 => ("ShareEightModel", "letters", "[[I", true)
  | 53 => ("ShareEightModel", "letterMany", "[I", true)
  | 54 => ("ShareEightModel", "paper", "[[I", true)
  | 55 => ("ShareEightModel", "printed", "[I", true)
  | 56 => ("ShareEightModel", "nextPrint", "[I", true)
  | 57 => ("ShareEightModel", "wakes", "[I", true)
  | 58 => ("ShareEightModel", "since", "[I", true)
  | 59 => ("ShareEightModel", "blockAt", "[I", true)
  | 60 => ("ShareEightModel", "blockWhich", "[I", true)
  | 61 => ("ShareEightModel", "blockWrites", "[Z", true)
  | 62 => ("ShareEightModel", "queue", "[I", true)
  | 63 => ("ShareEightModel", "queued", "I", false)
  | 64 => ("ShareEightModel", "runs", "I", false)
  | 65 => ("ShareEightModel", "left", "I", false)
  | 66 => ("ShareEightModel", "time", "I", false)
  | 67 => ("ShareEightModel", "task", "I", false)
  | 68 => ("ShareEightModel", "taskUser", "I", false)
  | 69 => ("ShareEightModel", "taskSlot", "I", false)
  | 70 => ("ShareEightModel", "moved", "I", false)
  | 71 => ("ShareEightModel", "insDone", "I", false)
  | 72 => ("ShareEightModel", "outsDone", "I", false)
  | 73 => ("ShareEightModel", "blocksDone", "I", false)
  | 74 => ("ShareEightModel", "idle", "I", false)
  | 75 => ("ShareEightModel", "instructions", "I", false)
  | 76 => ("ShareEightModel", "waitNumber", "I", false)
  | 77 => ("ShareEightModel", "wasBlock", "Z", false)
  | _ => ("ShareEightModel", "ir", "I", false)
def tyX12 : Nat → FieldType := fun k => match k with
  | 0 => .array .int
  | 1 => .int
  | 2 => .array .int
  | 3 => .int
  | 4 => .int
  | 5 => .int
  | 6 => .int
  | 7 => .int
  | 8 => .int
  | 9 => .boolean
  | 10 => .int
  | 11 => .int
  | 12 => .int
  | 13 => .int
  | 14 => .int
  | 15 => .int
  | 16 => .int
  | 17 => .array .int
  | 18 => .array .int
  | 19 => .array .int
  | 20 => .array .boolean
  | 21 => .int
  | 22 => .array .int
  | 23 => .array .boolean
  | 24 => .array .boolean
  | 25 => .array .int
  | 26 => .array .int
  | 27 => .int
  | 28 => .boolean
  | 29 => .boolean
  | 30 => .int
  | 31 => .int
  | 32 => .int
  | 33 => .int
  | 34 => .int
  | 35 => .array (.array .int)
  | 36 => .array (.array .int)
  | 37 => .array (.array .int)
  | 38 => .array .int
  | 39 => .array .boolean
  | 40 => .array .boolean
  | 41 => .array .int
  | 42 => .array .int
  | 43 => .array .int
  | 44 => .array .int
  | 45 => .array .int
  | 46 => .array .int
  | 47 => .array .int
  | 48 => .array .int
  | 49 => .array (.array .int)
  | 50 => .array .int
  | 51 => .array .int
  | 52 => .array (.array .int)
  | 53 => .array .int
  | 54 => .array (.array .int)
  | 55 => .array .int
  | 56 => .array .int
  | 57 => .array .int
  | 58 => .array .int
  | 59 => .array .int
  | 60 => .array .int
  | 61 => .array .boolean
  | 62 => .array .int
  | 63 => .int
  | 64 => .int
  | 65 => .int
  | 66 => .int
  | 67 => .int
  | 68 => .int
  | 69 => .int
  | 70 => .int
  | 71 => .int
  | 72 => .int
  | 73 => .int
  | 74 => .int
  | 75 => .int
  | 76 => .int
  | 77 => .boolean
  | _ => .int
abbrev wsX120 : List Cond := u_ws RX12 TX12 79
theorem nmX12 : ∀ a, a < 79 → ∀ b, b < 79 → a ≠ b → (TX12 a).2.1 ≠ (TX12 b).2.1 := by decide +kernel
theorem tyX12_ok : ∀ k, k < 79 → parseFieldDescriptor (TX12 k).2.2.1 = some (tyX12 k) := by decide +kernel
abbrev cX12_in : ByteArray := prog_14_method_2_code
def yX12_in : MethodName := ⟨RX12, "in", "(III)Z"⟩
abbrev cX12_put : ByteArray := prog_14_method_3_code
def yX12_put : MethodName := ⟨RX12, "put", "(I)V"⟩
abbrev cX12_feed : ByteArray := prog_14_method_4_code
def yX12_feed : MethodName := ⟨RX12, "feed", "(IIIII)I"⟩
abbrev cX12_end : ByteArray := prog_14_method_5_code
def yX12_end : MethodName := ⟨RX12, "end", "(I)Z"⟩
abbrev cX12_fails : ByteArray := prog_14_method_6_code
def yX12_fails : MethodName := ⟨RX12, "fails", "(II)V"⟩
abbrev cX12_at : ByteArray := prog_14_method_7_code
def yX12_at : MethodName := ⟨RX12, "at", "(I)I"⟩
abbrev cX12_isLetter : ByteArray := prog_14_method_8_code
def yX12_isLetter : MethodName := ⟨RX12, "isLetter", "(I)Z"⟩
abbrev cX12_isDigit : ByteArray := prog_14_method_9_code
def yX12_isDigit : MethodName := ⟨RX12, "isDigit", "(I)Z"⟩
abbrev cX12_look : ByteArray := prog_14_method_10_code
def yX12_look : MethodName := ⟨RX12, "look", "()V"⟩
abbrev cX12_number : ByteArray := prog_14_method_11_code
def yX12_number : MethodName := ⟨RX12, "number", "(II)V"⟩
abbrev cX12_take : ByteArray := prog_14_method_12_code
def yX12_take : MethodName := ⟨RX12, "take", "()V"⟩
abbrev cX12_isSign : ByteArray := prog_14_method_13_code
def yX12_isSign : MethodName := ⟨RX12, "isSign", "(I)Z"⟩
abbrev cX12_find : ByteArray := prog_14_method_14_code
def yX12_find : MethodName := ⟨RX12, "find", "(Ljava/lang/String;[III)I"⟩
abbrev cX12_findTold : ByteArray := prog_14_method_15_code
def yX12_findTold : MethodName := ⟨RX12, "findTold", "(II)I"⟩
abbrev cX12_tells : ByteArray := prog_14_method_16_code
def yX12_tells : MethodName := ⟨RX12, "tells", "(IIIZ)V"⟩
abbrev cX12_beginsV : ByteArray := prog_14_method_17_code
def yX12_beginsV : MethodName := ⟨RX12, "beginsV", "()Z"⟩
abbrev cX12_part : ByteArray := prog_14_method_18_code
def yX12_part : MethodName := ⟨RX12, "part", "()I"⟩
abbrev cX12_named : ByteArray := prog_14_method_19_code
def yX12_named : MethodName := ⟨RX12, "named", "()I"⟩
abbrev cX12_all : ByteArray := prog_14_method_20_code
def yX12_all : MethodName := ⟨RX12, "all", "()I"⟩
abbrev cX12_pass : ByteArray := prog_14_method_21_code
def yX12_pass : MethodName := ⟨RX12, "pass", "(Z)V"⟩
abbrev cX12_line : ByteArray := prog_14_method_22_code
def yX12_line : MethodName := ⟨RX12, "line", "()V"⟩
abbrev cX12_isNext : ByteArray := prog_14_method_23_code
def yX12_isNext : MethodName := ⟨RX12, "isNext", "(I)Z"⟩
abbrev cX12_labels : ByteArray := prog_14_method_24_code
def yX12_labels : MethodName := ⟨RX12, "labels", "()V"⟩
abbrev cX12_one : ByteArray := prog_14_method_25_code
def yX12_one : MethodName := ⟨RX12, "one", "()V"⟩
abbrev cX12_asked : ByteArray := prog_14_method_26_code
def yX12_asked : MethodName := ⟨RX12, "asked", "()I"⟩
abbrev cX12_told : ByteArray := prog_14_method_27_code
def yX12_told : MethodName := ⟨RX12, "told", "(I)V"⟩
abbrev cX12_again : ByteArray := prog_14_method_28_code
def yX12_again : MethodName := ⟨RX12, "again", "()V"⟩
abbrev cX12_texts : ByteArray := prog_14_method_29_code
def yX12_texts : MethodName := ⟨RX12, "texts", "(I)V"⟩
abbrev cX12_lies : ByteArray := prog_14_method_30_code
def yX12_lies : MethodName := ⟨RX12, "lies", "(I)V"⟩
abbrev cX12_word : ByteArray := prog_14_method_31_code
def yX12_word : MethodName := ⟨RX12, "word", "()V"⟩
abbrev cX12_memory : ByteArray := prog_14_method_32_code
def yX12_memory : MethodName := ⟨RX12, "memory", "(IZII)I"⟩
abbrev cX12_literal : ByteArray := prog_14_method_33_code
def yX12_literal : MethodName := ⟨RX12, "literal", "()I"⟩
abbrev cX12_literalFor : ByteArray := prog_14_method_34_code
def yX12_literalFor : MethodName := ⟨RX12, "literalFor", "(III)I"⟩
abbrev cX12_assemble : ByteArray := prog_14_method_35_code
def yX12_assemble : MethodName := ⟨RX12, "assemble", "()I"⟩
abbrev cX12_fault : ByteArray := prog_14_method_36_code
def yX12_fault : MethodName := ⟨RX12, "fault", "(I)I"⟩
abbrev cX12_made : ByteArray := prog_14_method_37_code
def yX12_made : MethodName := ⟨RX12, "made", "(I)I"⟩
abbrev cX12_near : ByteArray := prog_14_method_38_code
def yX12_near : MethodName := ⟨RX12, "near", "(III)I"⟩
abbrev cX12_init : ByteArray := prog_14_method_39_code
def yX12_init : MethodName := ⟨RX12, "<init>", "(IIII)V"⟩
abbrev cX12_isUser : ByteArray := prog_14_method_40_code
def yX12_isUser : MethodName := ⟨RX12, "isUser", "(I)Z"⟩
abbrev cX12_isWord : ByteArray := prog_14_method_41_code
def yX12_isWord : MethodName := ⟨RX12, "isWord", "(I)Z"⟩
abbrev cX12_becomesReady : ByteArray := prog_14_method_42_code
def yX12_becomesReady : MethodName := ⟨RX12, "becomesReady", "(I)V"⟩
abbrev cX12_leavesQueue : ByteArray := prog_14_method_43_code
def yX12_leavesQueue : MethodName := ⟨RX12, "leavesQueue", "(I)V"⟩
abbrev cX12_rests : ByteArray := prog_14_method_44_code
def yX12_rests : MethodName := ⟨RX12, "rests", "(I)Z"⟩
abbrev cX12_isMoved : ByteArray := prog_14_method_45_code
def yX12_isMoved : MethodName := ⟨RX12, "isMoved", "(I)Z"⟩
abbrev cX12_mount : ByteArray := prog_14_method_46_code
def yX12_mount : MethodName := ⟨RX12, "mount", "(I)Z"⟩
abbrev cX12_nobodys : ByteArray := prog_14_method_47_code
def yX12_nobodys : MethodName := ⟨RX12, "nobodys", "(I)V"⟩
abbrev cX12_begin : ByteArray := prog_14_method_48_code
def yX12_begin : MethodName := ⟨RX12, "begin", "(II)Z"⟩
abbrev cX12_halt : ByteArray := prog_14_method_49_code
def yX12_halt : MethodName := ⟨RX12, "halt", "(I)Z"⟩
abbrev cX12_key : ByteArray := prog_14_method_50_code
def yX12_key : MethodName := ⟨RX12, "key", "(II)Z"⟩
abbrev cX12_set : ByteArray := prog_14_method_51_code
def yX12_set : MethodName := ⟨RX12, "set", "(II)Z"⟩
abbrev cX12_deposit : ByteArray := prog_14_method_52_code
def yX12_deposit : MethodName := ⟨RX12, "deposit", "(III)Z"⟩
abbrev cX12_store : ByteArray := prog_14_method_53_code
def yX12_store : MethodName := ⟨RX12, "store", "(III)V"⟩
abbrev cX12_load : ByteArray := prog_14_method_54_code
def yX12_load : MethodName := ⟨RX12, "load", "(II)I"⟩
abbrev cX12_run : ByteArray := prog_14_method_55_code
def yX12_run : MethodName := ⟨RX12, "run", "(I)I"⟩
abbrev cX12_tick : ByteArray := prog_14_method_56_code
def yX12_tick : MethodName := ⟨RX12, "tick", "()V"⟩
abbrev cX12_clocks : ByteArray := prog_14_method_57_code
def yX12_clocks : MethodName := ⟨RX12, "clocks", "(I)V"⟩
abbrev cX12_moves : ByteArray := prog_14_method_58_code
def yX12_moves : MethodName := ⟨RX12, "moves", "()V"⟩
abbrev cX12_ends : ByteArray := prog_14_method_59_code
def yX12_ends : MethodName := ⟨RX12, "ends", "(I)V"⟩
abbrev cX12_starts : ByteArray := prog_14_method_60_code
def yX12_starts : MethodName := ⟨RX12, "starts", "(III)V"⟩
abbrev cX12_looksFor : ByteArray := prog_14_method_61_code
def yX12_looksFor : MethodName := ⟨RX12, "looksFor", "()V"⟩
abbrev cX12_blocksTask : ByteArray := prog_14_method_62_code
def yX12_blocksTask : MethodName := ⟨RX12, "blocksTask", "()Z"⟩
abbrev cX12_queuesTask : ByteArray := prog_14_method_63_code
def yX12_queuesTask : MethodName := ⟨RX12, "queuesTask", "()Z"⟩
abbrev cX12_given : ByteArray := prog_14_method_64_code
def yX12_given : MethodName := ⟨RX12, "given", "()I"⟩
abbrev cX12_processes : ByteArray := prog_14_method_65_code
def yX12_processes : MethodName := ⟨RX12, "processes", "()V"⟩
abbrev cX12_word_ : ByteArray := prog_14_method_66_code
def yX12_word_ : MethodName := ⟨RX12, "word", "(I)I"⟩
abbrev cX12_step : ByteArray := prog_14_method_67_code
def yX12_step : MethodName := ⟨RX12, "step", "(I)V"⟩
abbrev cX12_isWrong : ByteArray := prog_14_method_68_code
def yX12_isWrong : MethodName := ⟨RX12, "isWrong", "()Z"⟩
abbrev cX12_mustWait : ByteArray := prog_14_method_69_code
def yX12_mustWait : MethodName := ⟨RX12, "mustWait", "(I)Z"⟩
abbrev cX12_memory_ : ByteArray := prog_14_method_70_code
def yX12_memory_ : MethodName := ⟨RX12, "memory", "(III)V"⟩
abbrev cX12_skip : ByteArray := prog_14_method_71_code
def yX12_skip : MethodName := ⟨RX12, "skip", "(I)V"⟩
abbrev cX12_has : ByteArray := prog_14_method_72_code
def yX12_has : MethodName := ⟨RX12, "has", "(I)Z"⟩
abbrev cX12_first : ByteArray := prog_14_method_73_code
def yX12_first : MethodName := ⟨RX12, "first", "(I)V"⟩
abbrev cX12_second : ByteArray := prog_14_method_74_code
def yX12_second : MethodName := ⟨RX12, "second", "(I)V"⟩
abbrev cX12_third : ByteArray := prog_14_method_75_code
def yX12_third : MethodName := ⟨RX12, "third", "(I)V"⟩
abbrev cX12_device : ByteArray := prog_14_method_76_code
def yX12_device : MethodName := ⟨RX12, "device", "(I)Z"⟩
abbrev cX12_goes : ByteArray := prog_14_method_77_code
def yX12_goes : MethodName := ⟨RX12, "goes", "(I)V"⟩
abbrev cX12_user : ByteArray := prog_14_method_78_code
def yX12_user : MethodName := ⟨RX12, "user", "(II)I"⟩
abbrev cX12_look_ : ByteArray := prog_14_method_79_code
def yX12_look_ : MethodName := ⟨RX12, "look", "(I)I"⟩
abbrev cX12_word__ : ByteArray := prog_14_method_80_code
def yX12_word__ : MethodName := ⟨RX12, "word", "(II)I"⟩
abbrev cX12_core : ByteArray := prog_14_method_81_code
def yX12_core : MethodName := ⟨RX12, "core", "(II)I"⟩
abbrev cX12_drum : ByteArray := prog_14_method_82_code
def yX12_drum : MethodName := ⟨RX12, "drum", "(II)I"⟩
abbrev cX12_slot : ByteArray := prog_14_method_83_code
def yX12_slot : MethodName := ⟨RX12, "slot", "(II)I"⟩
abbrev cX12_block : ByteArray := prog_14_method_84_code
def yX12_block : MethodName := ⟨RX12, "block", "(III)I"⟩
abbrev cX12_paper : ByteArray := prog_14_method_85_code
def yX12_paper : MethodName := ⟨RX12, "paper", "(II)I"⟩
def RJ11 : String := "java/lang/Character"
abbrev cJ11_isValidCodePoint_9a6ad : ByteArray := prog_15_method_11_code
def yJ11_isValidCodePoint_9a6ad : MethodName := ⟨RJ11, "isValidCodePoint", "(I)Z"⟩
abbrev cJ11_highSurrogate_5068e : ByteArray := prog_15_method_28_code
def yJ11_highSurrogate_5068e : MethodName := ⟨RJ11, "highSurrogate", "(I)C"⟩
abbrev cJ11_lowSurrogate_5068e : ByteArray := prog_15_method_29_code
def yJ11_lowSurrogate_5068e : MethodName := ⟨RJ11, "lowSurrogate", "(I)C"⟩
def RJ9 : String := "java/lang/Math"
abbrev cJ9_max_7cf53 : ByteArray := prog_16_method_65_code
def yJ9_max_7cf53 : MethodName := ⟨RJ9, "max", "(II)I"⟩
abbrev cJ9_min_7cf53 : ByteArray := prog_16_method_69_code
def yJ9_min_7cf53 : MethodName := ⟨RJ9, "min", "(II)I"⟩
def RJ0 : String := "java/lang/String"
abbrev cJ0_length_8abf5 : ByteArray := prog_17_method_54_code
def yJ0_length_8abf5 : MethodName := ⟨RJ0, "length", "()I"⟩
abbrev cJ0_charAt_5068e : ByteArray := prog_17_method_56_code
def yJ0_charAt_5068e : MethodName := ⟨RJ0, "charAt", "(I)C"⟩
abbrev cJ0_indexOf_0f7a4 : ByteArray := prog_17_method_79_code
def yJ0_indexOf_0f7a4 : MethodName := ⟨RJ0, "indexOf", "(I)I"⟩
abbrev cJ0_indexOf_7cf53 : ByteArray := prog_17_method_80_code
def yJ0_indexOf_7cf53 : MethodName := ⟨RJ0, "indexOf", "(II)I"⟩
abbrev cJ0_coder_7d493 : ByteArray := prog_17_method_152_code
def yJ0_coder_7d493 : MethodName := ⟨RJ0, "coder", "()B"⟩
abbrev cJ0_isLatin1_aae02 : ByteArray := prog_17_method_154_code
def yJ0_isLatin1_aae02 : MethodName := ⟨RJ0, "isLatin1", "()Z"⟩
abbrev cJ0_checkIndex_df160 : ByteArray := prog_17_method_155_code
def yJ0_checkIndex_df160 : MethodName := ⟨RJ0, "checkIndex", "(II)V"⟩
abbrev cJ0_checkBoundsBeginEnd_23922 : ByteArray := prog_17_method_158_code
def yJ0_checkBoundsBeginEnd_23922 : MethodName := ⟨RJ0, "checkBoundsBeginEnd", "(III)V"⟩
def RJ1 : String := "java/lang/StringLatin1"
abbrev cJ1_charAt_3b067 : ByteArray := prog_18_method_2_code
def yJ1_charAt_3b067 : MethodName := ⟨RJ1, "charAt", "([BI)C"⟩
abbrev cJ1_canEncode_9a6ad : ByteArray := prog_18_method_4_code
def yJ1_canEncode_9a6ad : MethodName := ⟨RJ1, "canEncode", "(I)Z"⟩
abbrev cJ1_indexOf_4cfef : ByteArray := prog_18_method_22_code
def yJ1_indexOf_4cfef : MethodName := ⟨RJ1, "indexOf", "([BIII)I"⟩
abbrev cJ1_indexOfChar_4cfef : ByteArray := prog_18_method_23_code
def yJ1_indexOfChar_4cfef : MethodName := ⟨RJ1, "indexOfChar", "([BIII)I"⟩
def RJ2 : String := "java/lang/StringUTF16"
abbrev cJ2_getChar_3b067 : ByteArray := prog_19_method_5_code
def yJ2_getChar_3b067 : MethodName := ⟨RJ2, "getChar", "([BI)C"⟩
abbrev cJ2_length_9d52b : ByteArray := prog_19_method_6_code
def yJ2_length_9d52b : MethodName := ⟨RJ2, "length", "([B)I"⟩
abbrev cJ2_indexOf_4cfef : ByteArray := prog_19_method_40_code
def yJ2_indexOf_4cfef : MethodName := ⟨RJ2, "indexOf", "([BIII)I"⟩
abbrev cJ2_indexOfChar_4cfef : ByteArray := prog_19_method_47_code
def yJ2_indexOfChar_4cfef : MethodName := ⟨RJ2, "indexOfChar", "([BIII)I"⟩
abbrev cJ2_indexOfCharUnsafe_4cfef : ByteArray := prog_19_method_48_code
def yJ2_indexOfCharUnsafe_4cfef : MethodName := ⟨RJ2, "indexOfCharUnsafe", "([BIII)I"⟩
abbrev cJ2_indexOfSupplementary_4cfef : ByteArray := prog_19_method_49_code
def yJ2_indexOfSupplementary_4cfef : MethodName := ⟨RJ2, "indexOfSupplementary", "([BIII)I"⟩
abbrev cJ2_charAt_3b067 : ByteArray := prog_19_method_83_code
def yJ2_charAt_3b067 : MethodName := ⟨RJ2, "charAt", "([BI)C"⟩
abbrev cJ2_checkIndex_2214a : ByteArray := prog_19_method_91_code
def yJ2_checkIndex_2214a : MethodName := ⟨RJ2, "checkIndex", "(I[B)V"⟩
abbrev cJ2_checkBoundsBeginEnd_d044e : ByteArray := prog_19_method_93_code
def yJ2_checkBoundsBeginEnd_d044e : MethodName := ⟨RJ2, "checkBoundsBeginEnd", "(II[B)V"⟩
def RJ10 : String := "java/lang/System"
def RJ7 : String := "java/util/Arrays"
abbrev cJ7_fill_53178 : ByteArray := prog_21_method_103_code
def yJ7_fill_53178 : MethodName := ⟨RJ7, "fill", "([II)V"⟩
def RJ3 : String := "jdk/internal/util/Preconditions"
abbrev cJ3_checkIndex_8e157 : ByteArray := prog_22_method_11_code
def yJ3_checkIndex_8e157 : MethodName := ⟨RJ3, "checkIndex", "(IILjava/util/function/BiFunction;)I"⟩
abbrev cJ3_checkFromToIndex_8c36e : ByteArray := prog_22_method_12_code
def yJ3_checkFromToIndex_8c36e : MethodName := ⟨RJ3, "checkFromToIndex", "(IIILjava/util/function/BiFunction;)I"⟩
def RL : String := "ShareEightLaw"
abbrev cL_cell : ByteArray := method_2_code
def yL_cell : MethodName := ⟨RL, "cell", "([II)I"⟩
abbrev cL_law : ByteArray := code
def yL_law : MethodName := ⟨RL, "law", "([I)Z"⟩
abbrev vwCl : List vw_C := [(RX0, TX0, 11), (RX1, TX1, 8), (RX2, TX2, 12), (RX3, TX3, 2), (RX4, TX4, 5), (RX5, TX5, 2), (RX6, TX6, 3), (RX7, TX7, 2), (RX8, TX8, 5), (RX9, TX9, 9), (RX10, TX10, 20), (RX11, TX11, 4), (RX12, TX12, 79)]
end
section
theorem dJ11_isValidCodePoint_9a6ad_0 : decode cJ11_isValidCodePoint_9a6ad 0 = .ok (.iload_n 0, 1) := by decide +kernel
theorem dJ11_isValidCodePoint_9a6ad_1 : decode cJ11_isValidCodePoint_9a6ad 1 = .ok (.bipush 16, 2) := by decide +kernel
theorem dJ11_isValidCodePoint_9a6ad_3 : decode cJ11_isValidCodePoint_9a6ad 3 = .ok (.iushr, 1) := by decide +kernel
theorem dJ11_isValidCodePoint_9a6ad_4 : decode cJ11_isValidCodePoint_9a6ad 4 = .ok (.istore_n 1, 1) := by decide +kernel
theorem dJ11_isValidCodePoint_9a6ad_5 : decode cJ11_isValidCodePoint_9a6ad 5 = .ok (.iload_n 1, 1) := by decide +kernel
theorem dJ11_isValidCodePoint_9a6ad_6 : decode cJ11_isValidCodePoint_9a6ad 6 = .ok (.bipush 17, 2) := by decide +kernel
theorem dJ11_isValidCodePoint_9a6ad_8 : decode cJ11_isValidCodePoint_9a6ad 8 = .ok (.if_icmp .ge 7, 3) := by decide +kernel
theorem dJ11_isValidCodePoint_9a6ad_11 : decode cJ11_isValidCodePoint_9a6ad 11 = .ok (.iconst 1, 1) := by decide +kernel
theorem dJ11_isValidCodePoint_9a6ad_12 : decode cJ11_isValidCodePoint_9a6ad 12 = .ok (.goto 4, 3) := by decide +kernel
theorem dJ11_isValidCodePoint_9a6ad_15 : decode cJ11_isValidCodePoint_9a6ad 15 = .ok (.iconst 0, 1) := by decide +kernel
theorem dJ11_isValidCodePoint_9a6ad_16 : decode cJ11_isValidCodePoint_9a6ad 16 = .ok (.ireturn, 1) := by decide +kernel
theorem dJ11_highSurrogate_5068e_0 : decode cJ11_highSurrogate_5068e 0 = .ok (.iload_n 0, 1) := by decide +kernel
theorem dJ11_highSurrogate_5068e_1 : decode cJ11_highSurrogate_5068e 1 = .ok (.bipush 10, 2) := by decide +kernel
theorem dJ11_highSurrogate_5068e_3 : decode cJ11_highSurrogate_5068e 3 = .ok (.iushr, 1) := by decide +kernel
theorem dJ11_highSurrogate_5068e_4 : decode cJ11_highSurrogate_5068e 4 = .ok (.ldc 110, 2) := by decide +kernel
theorem dJ11_highSurrogate_5068e_6 : decode cJ11_highSurrogate_5068e 6 = .ok (.iadd, 1) := by decide +kernel
theorem dJ11_highSurrogate_5068e_7 : decode cJ11_highSurrogate_5068e 7 = .ok (.i2c, 1) := by decide +kernel
theorem dJ11_highSurrogate_5068e_8 : decode cJ11_highSurrogate_5068e 8 = .ok (.ireturn, 1) := by decide +kernel
theorem dJ11_lowSurrogate_5068e_0 : decode cJ11_lowSurrogate_5068e 0 = .ok (.iload_n 0, 1) := by decide +kernel
theorem dJ11_lowSurrogate_5068e_1 : decode cJ11_lowSurrogate_5068e 1 = .ok (.sipush 1023, 3) := by decide +kernel
theorem dJ11_lowSurrogate_5068e_4 : decode cJ11_lowSurrogate_5068e 4 = .ok (.iand, 1) := by decide +kernel
theorem dJ11_lowSurrogate_5068e_5 : decode cJ11_lowSurrogate_5068e 5 = .ok (.ldc 76, 2) := by decide +kernel
theorem dJ11_lowSurrogate_5068e_7 : decode cJ11_lowSurrogate_5068e 7 = .ok (.iadd, 1) := by decide +kernel
theorem dJ11_lowSurrogate_5068e_8 : decode cJ11_lowSurrogate_5068e 8 = .ok (.i2c, 1) := by decide +kernel
theorem dJ11_lowSurrogate_5068e_9 : decode cJ11_lowSurrogate_5068e 9 = .ok (.ireturn, 1) := by decide +kernel
theorem dJ9_max_7cf53_0 : decode cJ9_max_7cf53 0 = .ok (.iload_n 0, 1) := by decide +kernel
theorem dJ9_max_7cf53_1 : decode cJ9_max_7cf53 1 = .ok (.iload_n 1, 1) := by decide +kernel
theorem dJ9_max_7cf53_2 : decode cJ9_max_7cf53 2 = .ok (.if_icmp .lt 7, 3) := by decide +kernel
theorem dJ9_max_7cf53_5 : decode cJ9_max_7cf53 5 = .ok (.iload_n 0, 1) := by decide +kernel
theorem dJ9_max_7cf53_6 : decode cJ9_max_7cf53 6 = .ok (.goto 4, 3) := by decide +kernel
theorem dJ9_max_7cf53_9 : decode cJ9_max_7cf53 9 = .ok (.iload_n 1, 1) := by decide +kernel
theorem dJ9_max_7cf53_10 : decode cJ9_max_7cf53 10 = .ok (.ireturn, 1) := by decide +kernel
theorem dJ9_min_7cf53_0 : decode cJ9_min_7cf53 0 = .ok (.iload_n 0, 1) := by decide +kernel
theorem dJ9_min_7cf53_1 : decode cJ9_min_7cf53 1 = .ok (.iload_n 1, 1) := by decide +kernel
theorem dJ9_min_7cf53_2 : decode cJ9_min_7cf53 2 = .ok (.if_icmp .gt 7, 3) := by decide +kernel
theorem dJ9_min_7cf53_5 : decode cJ9_min_7cf53 5 = .ok (.iload_n 0, 1) := by decide +kernel
theorem dJ9_min_7cf53_6 : decode cJ9_min_7cf53 6 = .ok (.goto 4, 3) := by decide +kernel
theorem dJ9_min_7cf53_9 : decode cJ9_min_7cf53 9 = .ok (.iload_n 1, 1) := by decide +kernel
theorem dJ9_min_7cf53_10 : decode cJ9_min_7cf53 10 = .ok (.ireturn, 1) := by decide +kernel
theorem dJ0_length_8abf5_0 : decode cJ0_length_8abf5 0 = .ok (.aload_n 0, 1) := by decide +kernel
theorem dJ0_length_8abf5_1 : decode cJ0_length_8abf5 1 = .ok (.getfield 9, 3) := by decide +kernel
theorem dJ0_length_8abf5_4 : decode cJ0_length_8abf5 4 = .ok (.arraylength, 1) := by decide +kernel
theorem dJ0_length_8abf5_5 : decode cJ0_length_8abf5 5 = .ok (.aload_n 0, 1) := by decide +kernel
theorem dJ0_length_8abf5_6 : decode cJ0_length_8abf5 6 = .ok (.invokevirtual 335, 3) := by decide +kernel
theorem dJ0_length_8abf5_9 : decode cJ0_length_8abf5 9 = .ok (.ishr, 1) := by decide +kernel
theorem dJ0_length_8abf5_10 : decode cJ0_length_8abf5 10 = .ok (.ireturn, 1) := by decide +kernel
theorem dJ0_charAt_5068e_0 : decode cJ0_charAt_5068e 0 = .ok (.aload_n 0, 1) := by decide +kernel
theorem dJ0_charAt_5068e_1 : decode cJ0_charAt_5068e 1 = .ok (.invokevirtual 492, 3) := by decide +kernel
theorem dJ0_charAt_5068e_4 : decode cJ0_charAt_5068e 4 = .ok (.ifCond .eq 12, 3) := by decide +kernel
theorem dJ0_charAt_5068e_7 : decode cJ0_charAt_5068e 7 = .ok (.aload_n 0, 1) := by decide +kernel
theorem dJ0_charAt_5068e_8 : decode cJ0_charAt_5068e 8 = .ok (.getfield 9, 3) := by decide +kernel
theorem dJ0_charAt_5068e_11 : decode cJ0_charAt_5068e 11 = .ok (.iload_n 1, 1) := by decide +kernel
theorem dJ0_charAt_5068e_12 : decode cJ0_charAt_5068e 12 = .ok (.invokestatic 495, 3) := by decide +kernel
theorem dJ0_charAt_5068e_15 : decode cJ0_charAt_5068e 15 = .ok (.ireturn, 1) := by decide +kernel
theorem dJ0_charAt_5068e_16 : decode cJ0_charAt_5068e 16 = .ok (.aload_n 0, 1) := by decide +kernel
theorem dJ0_charAt_5068e_17 : decode cJ0_charAt_5068e 17 = .ok (.getfield 9, 3) := by decide +kernel
theorem dJ0_charAt_5068e_20 : decode cJ0_charAt_5068e 20 = .ok (.iload_n 1, 1) := by decide +kernel
theorem dJ0_charAt_5068e_21 : decode cJ0_charAt_5068e 21 = .ok (.invokestatic 498, 3) := by decide +kernel
theorem dJ0_charAt_5068e_24 : decode cJ0_charAt_5068e 24 = .ok (.ireturn, 1) := by decide +kernel
theorem dJ0_indexOf_0f7a4_0 : decode cJ0_indexOf_0f7a4 0 = .ok (.aload_n 0, 1) := by decide +kernel
theorem dJ0_indexOf_0f7a4_1 : decode cJ0_indexOf_0f7a4 1 = .ok (.iload_n 1, 1) := by decide +kernel
theorem dJ0_indexOf_0f7a4_2 : decode cJ0_indexOf_0f7a4 2 = .ok (.iconst 0, 1) := by decide +kernel
theorem dJ0_indexOf_0f7a4_3 : decode cJ0_indexOf_0f7a4 3 = .ok (.invokevirtual 633, 3) := by decide +kernel
theorem dJ0_indexOf_0f7a4_6 : decode cJ0_indexOf_0f7a4 6 = .ok (.ireturn, 1) := by decide +kernel
theorem dJ0_indexOf_7cf53_0 : decode cJ0_indexOf_7cf53 0 = .ok (.aload_n 0, 1) := by decide +kernel
theorem dJ0_indexOf_7cf53_1 : decode cJ0_indexOf_7cf53 1 = .ok (.invokevirtual 492, 3) := by decide +kernel
theorem dJ0_indexOf_7cf53_4 : decode cJ0_indexOf_7cf53 4 = .ok (.ifCond .eq 19, 3) := by decide +kernel
theorem dJ0_indexOf_7cf53_7 : decode cJ0_indexOf_7cf53 7 = .ok (.aload_n 0, 1) := by decide +kernel
theorem dJ0_indexOf_7cf53_8 : decode cJ0_indexOf_7cf53 8 = .ok (.getfield 9, 3) := by decide +kernel
theorem dJ0_indexOf_7cf53_11 : decode cJ0_indexOf_7cf53 11 = .ok (.iload_n 1, 1) := by decide +kernel
theorem dJ0_indexOf_7cf53_12 : decode cJ0_indexOf_7cf53 12 = .ok (.iload_n 2, 1) := by decide +kernel
theorem dJ0_indexOf_7cf53_13 : decode cJ0_indexOf_7cf53 13 = .ok (.aload_n 0, 1) := by decide +kernel
theorem dJ0_indexOf_7cf53_14 : decode cJ0_indexOf_7cf53 14 = .ok (.invokevirtual 505, 3) := by decide +kernel
theorem dJ0_indexOf_7cf53_17 : decode cJ0_indexOf_7cf53 17 = .ok (.invokestatic 637, 3) := by decide +kernel
theorem dJ0_indexOf_7cf53_20 : decode cJ0_indexOf_7cf53 20 = .ok (.goto 16, 3) := by decide +kernel
theorem dJ0_indexOf_7cf53_23 : decode cJ0_indexOf_7cf53 23 = .ok (.aload_n 0, 1) := by decide +kernel
theorem dJ0_indexOf_7cf53_24 : decode cJ0_indexOf_7cf53 24 = .ok (.getfield 9, 3) := by decide +kernel
theorem dJ0_indexOf_7cf53_27 : decode cJ0_indexOf_7cf53 27 = .ok (.iload_n 1, 1) := by decide +kernel
theorem dJ0_indexOf_7cf53_28 : decode cJ0_indexOf_7cf53 28 = .ok (.iload_n 2, 1) := by decide +kernel
theorem dJ0_indexOf_7cf53_29 : decode cJ0_indexOf_7cf53 29 = .ok (.aload_n 0, 1) := by decide +kernel
theorem dJ0_indexOf_7cf53_30 : decode cJ0_indexOf_7cf53 30 = .ok (.invokevirtual 505, 3) := by decide +kernel
theorem dJ0_indexOf_7cf53_33 : decode cJ0_indexOf_7cf53 33 = .ok (.invokestatic 640, 3) := by decide +kernel
theorem dJ0_indexOf_7cf53_36 : decode cJ0_indexOf_7cf53 36 = .ok (.ireturn, 1) := by decide +kernel
theorem dJ0_coder_7d493_0 : decode cJ0_coder_7d493 0 = .ok (.getstatic 38, 3) := by decide +kernel
theorem dJ0_coder_7d493_3 : decode cJ0_coder_7d493 3 = .ok (.ifCond .eq 10, 3) := by decide +kernel
theorem dJ0_coder_7d493_6 : decode cJ0_coder_7d493 6 = .ok (.aload_n 0, 1) := by decide +kernel
theorem dJ0_coder_7d493_7 : decode cJ0_coder_7d493 7 = .ok (.getfield 15, 3) := by decide +kernel
theorem dJ0_coder_7d493_10 : decode cJ0_coder_7d493 10 = .ok (.goto 4, 3) := by decide +kernel
theorem dJ0_coder_7d493_13 : decode cJ0_coder_7d493 13 = .ok (.iconst 1, 1) := by decide +kernel
theorem dJ0_coder_7d493_14 : decode cJ0_coder_7d493 14 = .ok (.ireturn, 1) := by decide +kernel
theorem dJ0_isLatin1_aae02_0 : decode cJ0_isLatin1_aae02 0 = .ok (.getstatic 38, 3) := by decide +kernel
theorem dJ0_isLatin1_aae02_3 : decode cJ0_isLatin1_aae02 3 = .ok (.ifCond .eq 14, 3) := by decide +kernel
theorem dJ0_isLatin1_aae02_6 : decode cJ0_isLatin1_aae02 6 = .ok (.aload_n 0, 1) := by decide +kernel
theorem dJ0_isLatin1_aae02_7 : decode cJ0_isLatin1_aae02 7 = .ok (.getfield 15, 3) := by decide +kernel
theorem dJ0_isLatin1_aae02_10 : decode cJ0_isLatin1_aae02 10 = .ok (.ifCond .ne 7, 3) := by decide +kernel
theorem dJ0_isLatin1_aae02_13 : decode cJ0_isLatin1_aae02 13 = .ok (.iconst 1, 1) := by decide +kernel
theorem dJ0_isLatin1_aae02_14 : decode cJ0_isLatin1_aae02 14 = .ok (.goto 4, 3) := by decide +kernel
theorem dJ0_isLatin1_aae02_17 : decode cJ0_isLatin1_aae02 17 = .ok (.iconst 0, 1) := by decide +kernel
theorem dJ0_isLatin1_aae02_18 : decode cJ0_isLatin1_aae02 18 = .ok (.ireturn, 1) := by decide +kernel
theorem dJ0_checkIndex_df160_0 : decode cJ0_checkIndex_df160 0 = .ok (.iload_n 0, 1) := by decide +kernel
theorem dJ0_checkIndex_df160_1 : decode cJ0_checkIndex_df160 1 = .ok (.iload_n 1, 1) := by decide +kernel
theorem dJ0_checkIndex_df160_2 : decode cJ0_checkIndex_df160 2 = .ok (.getstatic 1053, 3) := by decide +kernel
theorem dJ0_checkIndex_df160_5 : decode cJ0_checkIndex_df160 5 = .ok (.invokestatic 1059, 3) := by decide +kernel
theorem dJ0_checkIndex_df160_8 : decode cJ0_checkIndex_df160 8 = .ok (.pop, 1) := by decide +kernel
theorem dJ0_checkIndex_df160_9 : decode cJ0_checkIndex_df160 9 = .ok (.return_, 1) := by decide +kernel
theorem dJ0_checkBoundsBeginEnd_23922_0 : decode cJ0_checkBoundsBeginEnd_23922 0 = .ok (.iload_n 0, 1) := by decide +kernel
theorem dJ0_checkBoundsBeginEnd_23922_1 : decode cJ0_checkBoundsBeginEnd_23922 1 = .ok (.iload_n 1, 1) := by decide +kernel
theorem dJ0_checkBoundsBeginEnd_23922_2 : decode cJ0_checkBoundsBeginEnd_23922 2 = .ok (.iload_n 2, 1) := by decide +kernel
theorem dJ0_checkBoundsBeginEnd_23922_3 : decode cJ0_checkBoundsBeginEnd_23922 3 = .ok (.getstatic 1053, 3) := by decide +kernel
theorem dJ0_checkBoundsBeginEnd_23922_6 : decode cJ0_checkBoundsBeginEnd_23922 6 = .ok (.invokestatic 1062, 3) := by decide +kernel
theorem dJ0_checkBoundsBeginEnd_23922_9 : decode cJ0_checkBoundsBeginEnd_23922 9 = .ok (.pop, 1) := by decide +kernel
theorem dJ0_checkBoundsBeginEnd_23922_10 : decode cJ0_checkBoundsBeginEnd_23922 10 = .ok (.return_, 1) := by decide +kernel
theorem dJ1_charAt_3b067_0 : decode cJ1_charAt_3b067 0 = .ok (.iload_n 1, 1) := by decide +kernel
theorem dJ1_charAt_3b067_1 : decode cJ1_charAt_3b067 1 = .ok (.aload_n 0, 1) := by decide +kernel
theorem dJ1_charAt_3b067_2 : decode cJ1_charAt_3b067 2 = .ok (.arraylength, 1) := by decide +kernel
theorem dJ1_charAt_3b067_3 : decode cJ1_charAt_3b067 3 = .ok (.invokestatic 9, 3) := by decide +kernel
theorem dJ1_charAt_3b067_6 : decode cJ1_charAt_3b067 6 = .ok (.aload_n 0, 1) := by decide +kernel
theorem dJ1_charAt_3b067_7 : decode cJ1_charAt_3b067 7 = .ok (.iload_n 1, 1) := by decide +kernel
theorem dJ1_charAt_3b067_8 : decode cJ1_charAt_3b067 8 = .ok (.baload, 1) := by decide +kernel
theorem dJ1_charAt_3b067_9 : decode cJ1_charAt_3b067 9 = .ok (.sipush 255, 3) := by decide +kernel
theorem dJ1_charAt_3b067_12 : decode cJ1_charAt_3b067 12 = .ok (.iand, 1) := by decide +kernel
theorem dJ1_charAt_3b067_13 : decode cJ1_charAt_3b067 13 = .ok (.i2c, 1) := by decide +kernel
theorem dJ1_charAt_3b067_14 : decode cJ1_charAt_3b067 14 = .ok (.ireturn, 1) := by decide +kernel
theorem dJ1_canEncode_9a6ad_0 : decode cJ1_canEncode_9a6ad 0 = .ok (.iload_n 0, 1) := by decide +kernel
theorem dJ1_canEncode_9a6ad_1 : decode cJ1_canEncode_9a6ad 1 = .ok (.ifCond .lt 14, 3) := by decide +kernel
theorem dJ1_canEncode_9a6ad_4 : decode cJ1_canEncode_9a6ad 4 = .ok (.iload_n 0, 1) := by decide +kernel
theorem dJ1_canEncode_9a6ad_5 : decode cJ1_canEncode_9a6ad 5 = .ok (.sipush 255, 3) := by decide +kernel
theorem dJ1_canEncode_9a6ad_8 : decode cJ1_canEncode_9a6ad 8 = .ok (.if_icmp .gt 7, 3) := by decide +kernel
theorem dJ1_canEncode_9a6ad_11 : decode cJ1_canEncode_9a6ad 11 = .ok (.iconst 1, 1) := by decide +kernel
theorem dJ1_canEncode_9a6ad_12 : decode cJ1_canEncode_9a6ad 12 = .ok (.goto 4, 3) := by decide +kernel
theorem dJ1_canEncode_9a6ad_15 : decode cJ1_canEncode_9a6ad 15 = .ok (.iconst 0, 1) := by decide +kernel
theorem dJ1_canEncode_9a6ad_16 : decode cJ1_canEncode_9a6ad 16 = .ok (.ireturn, 1) := by decide +kernel
theorem dJ1_indexOf_4cfef_0 : decode cJ1_indexOf_4cfef 0 = .ok (.iload_n 1, 1) := by decide +kernel
theorem dJ1_indexOf_4cfef_1 : decode cJ1_indexOf_4cfef 1 = .ok (.invokestatic 88, 3) := by decide +kernel
theorem dJ1_indexOf_4cfef_4 : decode cJ1_indexOf_4cfef 4 = .ok (.ifCond .ne 5, 3) := by decide +kernel
theorem dJ1_indexOf_4cfef_7 : decode cJ1_indexOf_4cfef 7 = .ok (.iconst (-1), 1) := by decide +kernel
theorem dJ1_indexOf_4cfef_8 : decode cJ1_indexOf_4cfef 8 = .ok (.ireturn, 1) := by decide +kernel
theorem dJ1_indexOf_4cfef_9 : decode cJ1_indexOf_4cfef 9 = .ok (.iload_n 2, 1) := by decide +kernel
theorem dJ1_indexOf_4cfef_10 : decode cJ1_indexOf_4cfef 10 = .ok (.iconst 0, 1) := by decide +kernel
theorem dJ1_indexOf_4cfef_11 : decode cJ1_indexOf_4cfef 11 = .ok (.invokestatic 92, 3) := by decide +kernel
theorem dJ1_indexOf_4cfef_14 : decode cJ1_indexOf_4cfef 14 = .ok (.istore_n 2, 1) := by decide +kernel
theorem dJ1_indexOf_4cfef_15 : decode cJ1_indexOf_4cfef 15 = .ok (.iload_n 3, 1) := by decide +kernel
theorem dJ1_indexOf_4cfef_16 : decode cJ1_indexOf_4cfef 16 = .ok (.aload_n 0, 1) := by decide +kernel
theorem dJ1_indexOf_4cfef_17 : decode cJ1_indexOf_4cfef 17 = .ok (.arraylength, 1) := by decide +kernel
theorem dJ1_indexOf_4cfef_18 : decode cJ1_indexOf_4cfef 18 = .ok (.invokestatic 38, 3) := by decide +kernel
theorem dJ1_indexOf_4cfef_21 : decode cJ1_indexOf_4cfef 21 = .ok (.istore_n 3, 1) := by decide +kernel
theorem dJ1_indexOf_4cfef_22 : decode cJ1_indexOf_4cfef 22 = .ok (.iload_n 2, 1) := by decide +kernel
theorem dJ1_indexOf_4cfef_23 : decode cJ1_indexOf_4cfef 23 = .ok (.iload_n 3, 1) := by decide +kernel
theorem dJ1_indexOf_4cfef_24 : decode cJ1_indexOf_4cfef 24 = .ok (.if_icmp .lt 5, 3) := by decide +kernel
theorem dJ1_indexOf_4cfef_27 : decode cJ1_indexOf_4cfef 27 = .ok (.iconst (-1), 1) := by decide +kernel
theorem dJ1_indexOf_4cfef_28 : decode cJ1_indexOf_4cfef 28 = .ok (.ireturn, 1) := by decide +kernel
theorem dJ1_indexOf_4cfef_29 : decode cJ1_indexOf_4cfef 29 = .ok (.aload_n 0, 1) := by decide +kernel
theorem dJ1_indexOf_4cfef_30 : decode cJ1_indexOf_4cfef 30 = .ok (.iload_n 1, 1) := by decide +kernel
theorem dJ1_indexOf_4cfef_31 : decode cJ1_indexOf_4cfef 31 = .ok (.iload_n 2, 1) := by decide +kernel
theorem dJ1_indexOf_4cfef_32 : decode cJ1_indexOf_4cfef 32 = .ok (.iload_n 3, 1) := by decide +kernel
theorem dJ1_indexOf_4cfef_33 : decode cJ1_indexOf_4cfef 33 = .ok (.invokestatic 95, 3) := by decide +kernel
theorem dJ1_indexOf_4cfef_36 : decode cJ1_indexOf_4cfef 36 = .ok (.ireturn, 1) := by decide +kernel
theorem dJ1_indexOfChar_4cfef_0 : decode cJ1_indexOfChar_4cfef 0 = .ok (.iload_n 1, 1) := by decide +kernel
theorem dJ1_indexOfChar_4cfef_1 : decode cJ1_indexOfChar_4cfef 1 = .ok (.i2b, 1) := by decide +kernel
theorem dJ1_indexOfChar_4cfef_2 : decode cJ1_indexOfChar_4cfef 2 = .ok (.istore 4, 2) := by decide +kernel
theorem dJ1_indexOfChar_4cfef_4 : decode cJ1_indexOfChar_4cfef 4 = .ok (.iload_n 2, 1) := by decide +kernel
theorem dJ1_indexOfChar_4cfef_5 : decode cJ1_indexOfChar_4cfef 5 = .ok (.istore 5, 2) := by decide +kernel
theorem dJ1_indexOfChar_4cfef_7 : decode cJ1_indexOfChar_4cfef 7 = .ok (.iload 5, 2) := by decide +kernel
theorem dJ1_indexOfChar_4cfef_9 : decode cJ1_indexOfChar_4cfef 9 = .ok (.iload_n 3, 1) := by decide +kernel
theorem dJ1_indexOfChar_4cfef_10 : decode cJ1_indexOfChar_4cfef 10 = .ok (.if_icmp .ge 21, 3) := by decide +kernel
theorem dJ1_indexOfChar_4cfef_13 : decode cJ1_indexOfChar_4cfef 13 = .ok (.aload_n 0, 1) := by decide +kernel
theorem dJ1_indexOfChar_4cfef_14 : decode cJ1_indexOfChar_4cfef 14 = .ok (.iload 5, 2) := by decide +kernel
theorem dJ1_indexOfChar_4cfef_16 : decode cJ1_indexOfChar_4cfef 16 = .ok (.baload, 1) := by decide +kernel
theorem dJ1_indexOfChar_4cfef_17 : decode cJ1_indexOfChar_4cfef 17 = .ok (.iload 4, 2) := by decide +kernel
theorem dJ1_indexOfChar_4cfef_19 : decode cJ1_indexOfChar_4cfef 19 = .ok (.if_icmp .ne 6, 3) := by decide +kernel
theorem dJ1_indexOfChar_4cfef_22 : decode cJ1_indexOfChar_4cfef 22 = .ok (.iload 5, 2) := by decide +kernel
theorem dJ1_indexOfChar_4cfef_24 : decode cJ1_indexOfChar_4cfef 24 = .ok (.ireturn, 1) := by decide +kernel
theorem dJ1_indexOfChar_4cfef_25 : decode cJ1_indexOfChar_4cfef 25 = .ok (.iinc 5 1, 3) := by decide +kernel
theorem dJ1_indexOfChar_4cfef_28 : decode cJ1_indexOfChar_4cfef 28 = .ok (.goto (-21), 3) := by decide +kernel
theorem dJ1_indexOfChar_4cfef_31 : decode cJ1_indexOfChar_4cfef 31 = .ok (.iconst (-1), 1) := by decide +kernel
theorem dJ1_indexOfChar_4cfef_32 : decode cJ1_indexOfChar_4cfef 32 = .ok (.ireturn, 1) := by decide +kernel
theorem dJ2_getChar_3b067_0 : decode cJ2_getChar_3b067 0 = .ok (.getstatic 44, 3) := by decide +kernel
theorem dJ2_getChar_3b067_3 : decode cJ2_getChar_3b067 3 = .ok (.ifCond .ne 25, 3) := by decide +kernel
theorem dJ2_getChar_3b067_6 : decode cJ2_getChar_3b067 6 = .ok (.iload_n 1, 1) := by decide +kernel
theorem dJ2_getChar_3b067_7 : decode cJ2_getChar_3b067 7 = .ok (.ifCond .lt 11, 3) := by decide +kernel
theorem dJ2_getChar_3b067_10 : decode cJ2_getChar_3b067 10 = .ok (.iload_n 1, 1) := by decide +kernel
theorem dJ2_getChar_3b067_11 : decode cJ2_getChar_3b067 11 = .ok (.aload_n 0, 1) := by decide +kernel
theorem dJ2_getChar_3b067_12 : decode cJ2_getChar_3b067 12 = .ok (.invokestatic 48, 3) := by decide +kernel
theorem dJ2_getChar_3b067_15 : decode cJ2_getChar_3b067 15 = .ok (.if_icmp .lt 13, 3) := by decide +kernel
theorem dJ2_getChar_3b067_18 : decode cJ2_getChar_3b067 18 = .ok (.new 52, 3) := by decide +kernel
theorem dJ2_getChar_3b067_21 : decode cJ2_getChar_3b067 21 = .ok (.dup, 1) := by decide +kernel
theorem dJ2_getChar_3b067_22 : decode cJ2_getChar_3b067 22 = .ok (.ldc 54, 2) := by decide +kernel
theorem dJ2_getChar_3b067_24 : decode cJ2_getChar_3b067 24 = .ok (.invokespecial 56, 3) := by decide +kernel
theorem dJ2_getChar_3b067_27 : decode cJ2_getChar_3b067 27 = .ok (.athrow, 1) := by decide +kernel
theorem dJ2_getChar_3b067_28 : decode cJ2_getChar_3b067 28 = .ok (.iload_n 1, 1) := by decide +kernel
theorem dJ2_getChar_3b067_29 : decode cJ2_getChar_3b067 29 = .ok (.iconst 1, 1) := by decide +kernel
theorem dJ2_getChar_3b067_30 : decode cJ2_getChar_3b067 30 = .ok (.ishl, 1) := by decide +kernel
theorem dJ2_getChar_3b067_31 : decode cJ2_getChar_3b067 31 = .ok (.istore_n 1, 1) := by decide +kernel
theorem dJ2_getChar_3b067_32 : decode cJ2_getChar_3b067 32 = .ok (.aload_n 0, 1) := by decide +kernel
theorem dJ2_getChar_3b067_33 : decode cJ2_getChar_3b067 33 = .ok (.iload_n 1, 1) := by decide +kernel
theorem dJ2_getChar_3b067_34 : decode cJ2_getChar_3b067 34 = .ok (.iinc 1 1, 3) := by decide +kernel
theorem dJ2_getChar_3b067_37 : decode cJ2_getChar_3b067 37 = .ok (.baload, 1) := by decide +kernel
theorem dJ2_getChar_3b067_38 : decode cJ2_getChar_3b067 38 = .ok (.sipush 255, 3) := by decide +kernel
theorem dJ2_getChar_3b067_41 : decode cJ2_getChar_3b067 41 = .ok (.iand, 1) := by decide +kernel
theorem dJ2_getChar_3b067_42 : decode cJ2_getChar_3b067 42 = .ok (.getstatic 59, 3) := by decide +kernel
theorem dJ2_getChar_3b067_45 : decode cJ2_getChar_3b067 45 = .ok (.ishl, 1) := by decide +kernel
theorem dJ2_getChar_3b067_46 : decode cJ2_getChar_3b067 46 = .ok (.aload_n 0, 1) := by decide +kernel
theorem dJ2_getChar_3b067_47 : decode cJ2_getChar_3b067 47 = .ok (.iload_n 1, 1) := by decide +kernel
theorem dJ2_getChar_3b067_48 : decode cJ2_getChar_3b067 48 = .ok (.baload, 1) := by decide +kernel
theorem dJ2_getChar_3b067_49 : decode cJ2_getChar_3b067 49 = .ok (.sipush 255, 3) := by decide +kernel
theorem dJ2_getChar_3b067_52 : decode cJ2_getChar_3b067 52 = .ok (.iand, 1) := by decide +kernel
theorem dJ2_getChar_3b067_53 : decode cJ2_getChar_3b067 53 = .ok (.getstatic 63, 3) := by decide +kernel
theorem dJ2_getChar_3b067_56 : decode cJ2_getChar_3b067 56 = .ok (.ishl, 1) := by decide +kernel
theorem dJ2_getChar_3b067_57 : decode cJ2_getChar_3b067 57 = .ok (.ior, 1) := by decide +kernel
theorem dJ2_getChar_3b067_58 : decode cJ2_getChar_3b067 58 = .ok (.i2c, 1) := by decide +kernel
theorem dJ2_getChar_3b067_59 : decode cJ2_getChar_3b067 59 = .ok (.ireturn, 1) := by decide +kernel
theorem dJ2_length_9d52b_0 : decode cJ2_length_9d52b 0 = .ok (.aload_n 0, 1) := by decide +kernel
theorem dJ2_length_9d52b_1 : decode cJ2_length_9d52b 1 = .ok (.arraylength, 1) := by decide +kernel
theorem dJ2_length_9d52b_2 : decode cJ2_length_9d52b 2 = .ok (.iconst 1, 1) := by decide +kernel
theorem dJ2_length_9d52b_3 : decode cJ2_length_9d52b 3 = .ok (.ishr, 1) := by decide +kernel
theorem dJ2_length_9d52b_4 : decode cJ2_length_9d52b 4 = .ok (.ireturn, 1) := by decide +kernel
theorem dJ2_indexOf_4cfef_0 : decode cJ2_indexOf_4cfef 0 = .ok (.iload_n 2, 1) := by decide +kernel
theorem dJ2_indexOf_4cfef_1 : decode cJ2_indexOf_4cfef 1 = .ok (.iconst 0, 1) := by decide +kernel
theorem dJ2_indexOf_4cfef_2 : decode cJ2_indexOf_4cfef 2 = .ok (.invokestatic 224, 3) := by decide +kernel
theorem dJ2_indexOf_4cfef_5 : decode cJ2_indexOf_4cfef 5 = .ok (.istore_n 2, 1) := by decide +kernel
theorem dJ2_indexOf_4cfef_6 : decode cJ2_indexOf_4cfef 6 = .ok (.iload_n 3, 1) := by decide +kernel
theorem dJ2_indexOf_4cfef_7 : decode cJ2_indexOf_4cfef 7 = .ok (.aload_n 0, 1) := by decide +kernel
theorem dJ2_indexOf_4cfef_8 : decode cJ2_indexOf_4cfef 8 = .ok (.arraylength, 1) := by decide +kernel
theorem dJ2_indexOf_4cfef_9 : decode cJ2_indexOf_4cfef 9 = .ok (.iconst 1, 1) := by decide +kernel
theorem dJ2_indexOf_4cfef_10 : decode cJ2_indexOf_4cfef 10 = .ok (.ishr, 1) := by decide +kernel
theorem dJ2_indexOf_4cfef_11 : decode cJ2_indexOf_4cfef 11 = .ok (.invokestatic 183, 3) := by decide +kernel
theorem dJ2_indexOf_4cfef_14 : decode cJ2_indexOf_4cfef 14 = .ok (.istore_n 3, 1) := by decide +kernel
theorem dJ2_indexOf_4cfef_15 : decode cJ2_indexOf_4cfef 15 = .ok (.iload_n 2, 1) := by decide +kernel
theorem dJ2_indexOf_4cfef_16 : decode cJ2_indexOf_4cfef 16 = .ok (.iload_n 3, 1) := by decide +kernel
theorem dJ2_indexOf_4cfef_17 : decode cJ2_indexOf_4cfef 17 = .ok (.if_icmp .lt 5, 3) := by decide +kernel
theorem dJ2_indexOf_4cfef_20 : decode cJ2_indexOf_4cfef 20 = .ok (.iconst (-1), 1) := by decide +kernel
theorem dJ2_indexOf_4cfef_21 : decode cJ2_indexOf_4cfef 21 = .ok (.ireturn, 1) := by decide +kernel
theorem dJ2_indexOf_4cfef_22 : decode cJ2_indexOf_4cfef 22 = .ok (.iload_n 1, 1) := by decide +kernel
theorem dJ2_indexOf_4cfef_23 : decode cJ2_indexOf_4cfef 23 = .ok (.ldc 227, 2) := by decide +kernel
theorem dJ2_indexOf_4cfef_25 : decode cJ2_indexOf_4cfef 25 = .ok (.if_icmp .ge 11, 3) := by decide +kernel
theorem dJ2_indexOf_4cfef_28 : decode cJ2_indexOf_4cfef 28 = .ok (.aload_n 0, 1) := by decide +kernel
theorem dJ2_indexOf_4cfef_29 : decode cJ2_indexOf_4cfef 29 = .ok (.iload_n 1, 1) := by decide +kernel
theorem dJ2_indexOf_4cfef_30 : decode cJ2_indexOf_4cfef 30 = .ok (.iload_n 2, 1) := by decide +kernel
theorem dJ2_indexOf_4cfef_31 : decode cJ2_indexOf_4cfef 31 = .ok (.iload_n 3, 1) := by decide +kernel
theorem dJ2_indexOf_4cfef_32 : decode cJ2_indexOf_4cfef 32 = .ok (.invokestatic 228, 3) := by decide +kernel
theorem dJ2_indexOf_4cfef_35 : decode cJ2_indexOf_4cfef 35 = .ok (.ireturn, 1) := by decide +kernel
theorem dJ2_indexOf_4cfef_36 : decode cJ2_indexOf_4cfef 36 = .ok (.aload_n 0, 1) := by decide +kernel
theorem dJ2_indexOf_4cfef_37 : decode cJ2_indexOf_4cfef 37 = .ok (.iload_n 1, 1) := by decide +kernel
theorem dJ2_indexOf_4cfef_38 : decode cJ2_indexOf_4cfef 38 = .ok (.iload_n 2, 1) := by decide +kernel
theorem dJ2_indexOf_4cfef_39 : decode cJ2_indexOf_4cfef 39 = .ok (.iload_n 3, 1) := by decide +kernel
theorem dJ2_indexOf_4cfef_40 : decode cJ2_indexOf_4cfef 40 = .ok (.invokestatic 232, 3) := by decide +kernel
theorem dJ2_indexOf_4cfef_43 : decode cJ2_indexOf_4cfef 43 = .ok (.ireturn, 1) := by decide +kernel
theorem dJ2_indexOfChar_4cfef_0 : decode cJ2_indexOfChar_4cfef 0 = .ok (.iload_n 2, 1) := by decide +kernel
theorem dJ2_indexOfChar_4cfef_1 : decode cJ2_indexOfChar_4cfef 1 = .ok (.iload_n 3, 1) := by decide +kernel
theorem dJ2_indexOfChar_4cfef_2 : decode cJ2_indexOfChar_4cfef 2 = .ok (.aload_n 0, 1) := by decide +kernel
theorem dJ2_indexOfChar_4cfef_3 : decode cJ2_indexOfChar_4cfef 3 = .ok (.invokestatic 96, 3) := by decide +kernel
theorem dJ2_indexOfChar_4cfef_6 : decode cJ2_indexOfChar_4cfef 6 = .ok (.aload_n 0, 1) := by decide +kernel
theorem dJ2_indexOfChar_4cfef_7 : decode cJ2_indexOfChar_4cfef 7 = .ok (.iload_n 1, 1) := by decide +kernel
theorem dJ2_indexOfChar_4cfef_8 : decode cJ2_indexOfChar_4cfef 8 = .ok (.iload_n 2, 1) := by decide +kernel
theorem dJ2_indexOfChar_4cfef_9 : decode cJ2_indexOfChar_4cfef 9 = .ok (.iload_n 3, 1) := by decide +kernel
theorem dJ2_indexOfChar_4cfef_10 : decode cJ2_indexOfChar_4cfef 10 = .ok (.invokestatic 244, 3) := by decide +kernel
theorem dJ2_indexOfChar_4cfef_13 : decode cJ2_indexOfChar_4cfef 13 = .ok (.ireturn, 1) := by decide +kernel
theorem dJ2_indexOfCharUnsafe_4cfef_0 : decode cJ2_indexOfCharUnsafe_4cfef 0 = .ok (.iload_n 2, 1) := by decide +kernel
theorem dJ2_indexOfCharUnsafe_4cfef_1 : decode cJ2_indexOfCharUnsafe_4cfef 1 = .ok (.istore 4, 2) := by decide +kernel
theorem dJ2_indexOfCharUnsafe_4cfef_3 : decode cJ2_indexOfCharUnsafe_4cfef 3 = .ok (.iload 4, 2) := by decide +kernel
theorem dJ2_indexOfCharUnsafe_4cfef_5 : decode cJ2_indexOfCharUnsafe_4cfef 5 = .ok (.iload_n 3, 1) := by decide +kernel
theorem dJ2_indexOfCharUnsafe_4cfef_6 : decode cJ2_indexOfCharUnsafe_4cfef 6 = .ok (.if_icmp .ge 22, 3) := by decide +kernel
theorem dJ2_indexOfCharUnsafe_4cfef_9 : decode cJ2_indexOfCharUnsafe_4cfef 9 = .ok (.aload_n 0, 1) := by decide +kernel
theorem dJ2_indexOfCharUnsafe_4cfef_10 : decode cJ2_indexOfCharUnsafe_4cfef 10 = .ok (.iload 4, 2) := by decide +kernel
theorem dJ2_indexOfCharUnsafe_4cfef_12 : decode cJ2_indexOfCharUnsafe_4cfef 12 = .ok (.invokestatic 71, 3) := by decide +kernel
theorem dJ2_indexOfCharUnsafe_4cfef_15 : decode cJ2_indexOfCharUnsafe_4cfef 15 = .ok (.iload_n 1, 1) := by decide +kernel
theorem dJ2_indexOfCharUnsafe_4cfef_16 : decode cJ2_indexOfCharUnsafe_4cfef 16 = .ok (.if_icmp .ne 6, 3) := by decide +kernel
theorem dJ2_indexOfCharUnsafe_4cfef_19 : decode cJ2_indexOfCharUnsafe_4cfef 19 = .ok (.iload 4, 2) := by decide +kernel
theorem dJ2_indexOfCharUnsafe_4cfef_21 : decode cJ2_indexOfCharUnsafe_4cfef 21 = .ok (.ireturn, 1) := by decide +kernel
theorem dJ2_indexOfCharUnsafe_4cfef_22 : decode cJ2_indexOfCharUnsafe_4cfef 22 = .ok (.iinc 4 1, 3) := by decide +kernel
theorem dJ2_indexOfCharUnsafe_4cfef_25 : decode cJ2_indexOfCharUnsafe_4cfef 25 = .ok (.goto (-22), 3) := by decide +kernel
theorem dJ2_indexOfCharUnsafe_4cfef_28 : decode cJ2_indexOfCharUnsafe_4cfef 28 = .ok (.iconst (-1), 1) := by decide +kernel
theorem dJ2_indexOfCharUnsafe_4cfef_29 : decode cJ2_indexOfCharUnsafe_4cfef 29 = .ok (.ireturn, 1) := by decide +kernel
theorem dJ2_indexOfSupplementary_4cfef_0 : decode cJ2_indexOfSupplementary_4cfef 0 = .ok (.iload_n 1, 1) := by decide +kernel
theorem dJ2_indexOfSupplementary_4cfef_1 : decode cJ2_indexOfSupplementary_4cfef 1 = .ok (.invokestatic 164, 3) := by decide +kernel
theorem dJ2_indexOfSupplementary_4cfef_4 : decode cJ2_indexOfSupplementary_4cfef 4 = .ok (.ifCond .eq 65, 3) := by decide +kernel
theorem dJ2_indexOfSupplementary_4cfef_7 : decode cJ2_indexOfSupplementary_4cfef 7 = .ok (.iload_n 1, 1) := by decide +kernel
theorem dJ2_indexOfSupplementary_4cfef_8 : decode cJ2_indexOfSupplementary_4cfef 8 = .ok (.invokestatic 157, 3) := by decide +kernel
theorem dJ2_indexOfSupplementary_4cfef_11 : decode cJ2_indexOfSupplementary_4cfef 11 = .ok (.istore 4, 2) := by decide +kernel
theorem dJ2_indexOfSupplementary_4cfef_13 : decode cJ2_indexOfSupplementary_4cfef 13 = .ok (.iload_n 1, 1) := by decide +kernel
theorem dJ2_indexOfSupplementary_4cfef_14 : decode cJ2_indexOfSupplementary_4cfef 14 = .ok (.invokestatic 161, 3) := by decide +kernel
theorem dJ2_indexOfSupplementary_4cfef_17 : decode cJ2_indexOfSupplementary_4cfef 17 = .ok (.istore 5, 2) := by decide +kernel
theorem dJ2_indexOfSupplementary_4cfef_19 : decode cJ2_indexOfSupplementary_4cfef 19 = .ok (.iload_n 2, 1) := by decide +kernel
theorem dJ2_indexOfSupplementary_4cfef_20 : decode cJ2_indexOfSupplementary_4cfef 20 = .ok (.iload_n 3, 1) := by decide +kernel
theorem dJ2_indexOfSupplementary_4cfef_21 : decode cJ2_indexOfSupplementary_4cfef 21 = .ok (.aload_n 0, 1) := by decide +kernel
theorem dJ2_indexOfSupplementary_4cfef_22 : decode cJ2_indexOfSupplementary_4cfef 22 = .ok (.invokestatic 96, 3) := by decide +kernel
theorem dJ2_indexOfSupplementary_4cfef_25 : decode cJ2_indexOfSupplementary_4cfef 25 = .ok (.iload_n 2, 1) := by decide +kernel
theorem dJ2_indexOfSupplementary_4cfef_26 : decode cJ2_indexOfSupplementary_4cfef 26 = .ok (.istore 6, 2) := by decide +kernel
theorem dJ2_indexOfSupplementary_4cfef_28 : decode cJ2_indexOfSupplementary_4cfef 28 = .ok (.iload 6, 2) := by decide +kernel
theorem dJ2_indexOfSupplementary_4cfef_30 : decode cJ2_indexOfSupplementary_4cfef 30 = .ok (.iload_n 3, 1) := by decide +kernel
theorem dJ2_indexOfSupplementary_4cfef_31 : decode cJ2_indexOfSupplementary_4cfef 31 = .ok (.iconst 1, 1) := by decide +kernel
theorem dJ2_indexOfSupplementary_4cfef_32 : decode cJ2_indexOfSupplementary_4cfef 32 = .ok (.isub, 1) := by decide +kernel
theorem dJ2_indexOfSupplementary_4cfef_33 : decode cJ2_indexOfSupplementary_4cfef 33 = .ok (.if_icmp .ge 36, 3) := by decide +kernel
theorem dJ2_indexOfSupplementary_4cfef_36 : decode cJ2_indexOfSupplementary_4cfef 36 = .ok (.aload_n 0, 1) := by decide +kernel
theorem dJ2_indexOfSupplementary_4cfef_37 : decode cJ2_indexOfSupplementary_4cfef 37 = .ok (.iload 6, 2) := by decide +kernel
theorem dJ2_indexOfSupplementary_4cfef_39 : decode cJ2_indexOfSupplementary_4cfef 39 = .ok (.invokestatic 71, 3) := by decide +kernel
theorem dJ2_indexOfSupplementary_4cfef_42 : decode cJ2_indexOfSupplementary_4cfef 42 = .ok (.iload 4, 2) := by decide +kernel
theorem dJ2_indexOfSupplementary_4cfef_44 : decode cJ2_indexOfSupplementary_4cfef 44 = .ok (.if_icmp .ne 19, 3) := by decide +kernel
theorem dJ2_indexOfSupplementary_4cfef_47 : decode cJ2_indexOfSupplementary_4cfef 47 = .ok (.aload_n 0, 1) := by decide +kernel
theorem dJ2_indexOfSupplementary_4cfef_48 : decode cJ2_indexOfSupplementary_4cfef 48 = .ok (.iload 6, 2) := by decide +kernel
theorem dJ2_indexOfSupplementary_4cfef_50 : decode cJ2_indexOfSupplementary_4cfef 50 = .ok (.iconst 1, 1) := by decide +kernel
theorem dJ2_indexOfSupplementary_4cfef_51 : decode cJ2_indexOfSupplementary_4cfef 51 = .ok (.iadd, 1) := by decide +kernel
theorem dJ2_indexOfSupplementary_4cfef_52 : decode cJ2_indexOfSupplementary_4cfef 52 = .ok (.invokestatic 71, 3) := by decide +kernel
theorem dJ2_indexOfSupplementary_4cfef_55 : decode cJ2_indexOfSupplementary_4cfef 55 = .ok (.iload 5, 2) := by decide +kernel
theorem dJ2_indexOfSupplementary_4cfef_57 : decode cJ2_indexOfSupplementary_4cfef 57 = .ok (.if_icmp .ne 6, 3) := by decide +kernel
theorem dJ2_indexOfSupplementary_4cfef_60 : decode cJ2_indexOfSupplementary_4cfef 60 = .ok (.iload 6, 2) := by decide +kernel
theorem dJ2_indexOfSupplementary_4cfef_62 : decode cJ2_indexOfSupplementary_4cfef 62 = .ok (.ireturn, 1) := by decide +kernel
theorem dJ2_indexOfSupplementary_4cfef_63 : decode cJ2_indexOfSupplementary_4cfef 63 = .ok (.iinc 6 1, 3) := by decide +kernel
theorem dJ2_indexOfSupplementary_4cfef_66 : decode cJ2_indexOfSupplementary_4cfef 66 = .ok (.goto (-38), 3) := by decide +kernel
theorem dJ2_indexOfSupplementary_4cfef_69 : decode cJ2_indexOfSupplementary_4cfef 69 = .ok (.iconst (-1), 1) := by decide +kernel
theorem dJ2_indexOfSupplementary_4cfef_70 : decode cJ2_indexOfSupplementary_4cfef 70 = .ok (.ireturn, 1) := by decide +kernel
theorem dJ2_charAt_3b067_0 : decode cJ2_charAt_3b067 0 = .ok (.iload_n 1, 1) := by decide +kernel
theorem dJ2_charAt_3b067_1 : decode cJ2_charAt_3b067 1 = .ok (.aload_n 0, 1) := by decide +kernel
theorem dJ2_charAt_3b067_2 : decode cJ2_charAt_3b067 2 = .ok (.invokestatic 67, 3) := by decide +kernel
theorem dJ2_charAt_3b067_5 : decode cJ2_charAt_3b067 5 = .ok (.aload_n 0, 1) := by decide +kernel
theorem dJ2_charAt_3b067_6 : decode cJ2_charAt_3b067 6 = .ok (.iload_n 1, 1) := by decide +kernel
theorem dJ2_charAt_3b067_7 : decode cJ2_charAt_3b067 7 = .ok (.invokestatic 71, 3) := by decide +kernel
theorem dJ2_charAt_3b067_10 : decode cJ2_charAt_3b067 10 = .ok (.ireturn, 1) := by decide +kernel
theorem dJ2_checkIndex_2214a_0 : decode cJ2_checkIndex_2214a 0 = .ok (.iload_n 0, 1) := by decide +kernel
theorem dJ2_checkIndex_2214a_1 : decode cJ2_checkIndex_2214a 1 = .ok (.aload_n 1, 1) := by decide +kernel
theorem dJ2_checkIndex_2214a_2 : decode cJ2_checkIndex_2214a 2 = .ok (.invokestatic 48, 3) := by decide +kernel
theorem dJ2_checkIndex_2214a_5 : decode cJ2_checkIndex_2214a 5 = .ok (.invokestatic 414, 3) := by decide +kernel
theorem dJ2_checkIndex_2214a_8 : decode cJ2_checkIndex_2214a 8 = .ok (.return_, 1) := by decide +kernel
theorem dJ2_checkBoundsBeginEnd_d044e_0 : decode cJ2_checkBoundsBeginEnd_d044e 0 = .ok (.iload_n 0, 1) := by decide +kernel
theorem dJ2_checkBoundsBeginEnd_d044e_1 : decode cJ2_checkBoundsBeginEnd_d044e 1 = .ok (.iload_n 1, 1) := by decide +kernel
theorem dJ2_checkBoundsBeginEnd_d044e_2 : decode cJ2_checkBoundsBeginEnd_d044e 2 = .ok (.aload_n 2, 1) := by decide +kernel
theorem dJ2_checkBoundsBeginEnd_d044e_3 : decode cJ2_checkBoundsBeginEnd_d044e 3 = .ok (.invokestatic 48, 3) := by decide +kernel
theorem dJ2_checkBoundsBeginEnd_d044e_6 : decode cJ2_checkBoundsBeginEnd_d044e 6 = .ok (.invokestatic 241, 3) := by decide +kernel
theorem dJ2_checkBoundsBeginEnd_d044e_9 : decode cJ2_checkBoundsBeginEnd_d044e 9 = .ok (.return_, 1) := by decide +kernel
theorem dJ7_fill_53178_0 : decode cJ7_fill_53178 0 = .ok (.iconst 0, 1) := by decide +kernel
theorem dJ7_fill_53178_1 : decode cJ7_fill_53178 1 = .ok (.istore_n 2, 1) := by decide +kernel
theorem dJ7_fill_53178_2 : decode cJ7_fill_53178 2 = .ok (.aload_n 0, 1) := by decide +kernel
theorem dJ7_fill_53178_3 : decode cJ7_fill_53178 3 = .ok (.arraylength, 1) := by decide +kernel
theorem dJ7_fill_53178_4 : decode cJ7_fill_53178 4 = .ok (.istore_n 3, 1) := by decide +kernel
theorem dJ7_fill_53178_5 : decode cJ7_fill_53178 5 = .ok (.iload_n 2, 1) := by decide +kernel
theorem dJ7_fill_53178_6 : decode cJ7_fill_53178 6 = .ok (.iload_n 3, 1) := by decide +kernel
theorem dJ7_fill_53178_7 : decode cJ7_fill_53178 7 = .ok (.if_icmp .ge 13, 3) := by decide +kernel
theorem dJ7_fill_53178_10 : decode cJ7_fill_53178 10 = .ok (.aload_n 0, 1) := by decide +kernel
theorem dJ7_fill_53178_11 : decode cJ7_fill_53178 11 = .ok (.iload_n 2, 1) := by decide +kernel
theorem dJ7_fill_53178_12 : decode cJ7_fill_53178 12 = .ok (.iload_n 1, 1) := by decide +kernel
theorem dJ7_fill_53178_13 : decode cJ7_fill_53178 13 = .ok (.iastore, 1) := by decide +kernel
theorem dJ7_fill_53178_14 : decode cJ7_fill_53178 14 = .ok (.iinc 2 1, 3) := by decide +kernel
theorem dJ7_fill_53178_17 : decode cJ7_fill_53178 17 = .ok (.goto (-12), 3) := by decide +kernel
theorem dJ7_fill_53178_20 : decode cJ7_fill_53178 20 = .ok (.return_, 1) := by decide +kernel
theorem dJ3_checkIndex_8e157_0 : decode cJ3_checkIndex_8e157 0 = .ok (.iload_n 0, 1) := by decide +kernel
theorem dJ3_checkIndex_8e157_1 : decode cJ3_checkIndex_8e157 1 = .ok (.ifCond .lt 8, 3) := by decide +kernel
theorem dJ3_checkIndex_8e157_4 : decode cJ3_checkIndex_8e157 4 = .ok (.iload_n 0, 1) := by decide +kernel
theorem dJ3_checkIndex_8e157_5 : decode cJ3_checkIndex_8e157 5 = .ok (.iload_n 1, 1) := by decide +kernel
theorem dJ3_checkIndex_8e157_6 : decode cJ3_checkIndex_8e157 6 = .ok (.if_icmp .lt 10, 3) := by decide +kernel
theorem dJ3_checkIndex_8e157_9 : decode cJ3_checkIndex_8e157 9 = .ok (.aload_n 2, 1) := by decide +kernel
theorem dJ3_checkIndex_8e157_10 : decode cJ3_checkIndex_8e157 10 = .ok (.iload_n 0, 1) := by decide +kernel
theorem dJ3_checkIndex_8e157_11 : decode cJ3_checkIndex_8e157 11 = .ok (.iload_n 1, 1) := by decide +kernel
theorem dJ3_checkIndex_8e157_12 : decode cJ3_checkIndex_8e157 12 = .ok (.invokestatic 95, 3) := by decide +kernel
theorem dJ3_checkIndex_8e157_15 : decode cJ3_checkIndex_8e157 15 = .ok (.athrow, 1) := by decide +kernel
theorem dJ3_checkIndex_8e157_16 : decode cJ3_checkIndex_8e157 16 = .ok (.iload_n 0, 1) := by decide +kernel
theorem dJ3_checkIndex_8e157_17 : decode cJ3_checkIndex_8e157 17 = .ok (.ireturn, 1) := by decide +kernel
theorem dJ3_checkFromToIndex_8c36e_0 : decode cJ3_checkFromToIndex_8c36e 0 = .ok (.iload_n 0, 1) := by decide +kernel
theorem dJ3_checkFromToIndex_8c36e_1 : decode cJ3_checkFromToIndex_8c36e 1 = .ok (.ifCond .lt 13, 3) := by decide +kernel
theorem dJ3_checkFromToIndex_8c36e_4 : decode cJ3_checkFromToIndex_8c36e 4 = .ok (.iload_n 0, 1) := by decide +kernel
theorem dJ3_checkFromToIndex_8c36e_5 : decode cJ3_checkFromToIndex_8c36e 5 = .ok (.iload_n 1, 1) := by decide +kernel
theorem dJ3_checkFromToIndex_8c36e_6 : decode cJ3_checkFromToIndex_8c36e 6 = .ok (.if_icmp .gt 8, 3) := by decide +kernel
theorem dJ3_checkFromToIndex_8c36e_9 : decode cJ3_checkFromToIndex_8c36e 9 = .ok (.iload_n 1, 1) := by decide +kernel
theorem dJ3_checkFromToIndex_8c36e_10 : decode cJ3_checkFromToIndex_8c36e 10 = .ok (.iload_n 2, 1) := by decide +kernel
theorem dJ3_checkFromToIndex_8c36e_11 : decode cJ3_checkFromToIndex_8c36e 11 = .ok (.if_icmp .le 11, 3) := by decide +kernel
theorem dJ3_checkFromToIndex_8c36e_14 : decode cJ3_checkFromToIndex_8c36e 14 = .ok (.aload_n 3, 1) := by decide +kernel
theorem dJ3_checkFromToIndex_8c36e_15 : decode cJ3_checkFromToIndex_8c36e 15 = .ok (.iload_n 0, 1) := by decide +kernel
theorem dJ3_checkFromToIndex_8c36e_16 : decode cJ3_checkFromToIndex_8c36e 16 = .ok (.iload_n 1, 1) := by decide +kernel
theorem dJ3_checkFromToIndex_8c36e_17 : decode cJ3_checkFromToIndex_8c36e 17 = .ok (.iload_n 2, 1) := by decide +kernel
theorem dJ3_checkFromToIndex_8c36e_18 : decode cJ3_checkFromToIndex_8c36e 18 = .ok (.invokestatic 99, 3) := by decide +kernel
theorem dJ3_checkFromToIndex_8c36e_21 : decode cJ3_checkFromToIndex_8c36e 21 = .ok (.athrow, 1) := by decide +kernel
theorem dJ3_checkFromToIndex_8c36e_22 : decode cJ3_checkFromToIndex_8c36e 22 = .ok (.iload_n 0, 1) := by decide +kernel
theorem dJ3_checkFromToIndex_8c36e_23 : decode cJ3_checkFromToIndex_8c36e 23 = .ok (.ireturn, 1) := by decide +kernel
theorem dX12_in_0 : decode cX12_in 0 = .ok (.iload_n 0, 1) := by decide +kernel
theorem dX12_in_1 : decode cX12_in 1 = .ok (.iload_n 1, 1) := by decide +kernel
theorem dX12_in_2 : decode cX12_in 2 = .ok (.if_icmp .lt 12, 3) := by decide +kernel
theorem dX12_in_5 : decode cX12_in 5 = .ok (.iload_n 0, 1) := by decide +kernel
theorem dX12_in_6 : decode cX12_in 6 = .ok (.iload_n 2, 1) := by decide +kernel
theorem dX12_in_7 : decode cX12_in 7 = .ok (.if_icmp .gt 7, 3) := by decide +kernel
theorem dX12_in_10 : decode cX12_in 10 = .ok (.iconst 1, 1) := by decide +kernel
theorem dX12_in_11 : decode cX12_in 11 = .ok (.goto 4, 3) := by decide +kernel
theorem dX12_in_14 : decode cX12_in 14 = .ok (.iconst 0, 1) := by decide +kernel
theorem dX12_in_15 : decode cX12_in 15 = .ok (.ireturn, 1) := by decide +kernel
theorem dX12_put_0 : decode cX12_put 0 = .ok (.bipush 24, 2) := by decide +kernel
theorem dX12_put_2 : decode cX12_put 2 = .ok (.istore_n 2, 1) := by decide +kernel
theorem dX12_put_3 : decode cX12_put 3 = .ok (.iload_n 2, 1) := by decide +kernel
theorem dX12_put_4 : decode cX12_put 4 = .ok (.ifCond .lt 35, 3) := by decide +kernel
theorem dX12_put_7 : decode cX12_put 7 = .ok (.aload_n 0, 1) := by decide +kernel
theorem dX12_put_8 : decode cX12_put 8 = .ok (.getfield 1, 3) := by decide +kernel
theorem dX12_put_11 : decode cX12_put 11 = .ok (.aload_n 0, 1) := by decide +kernel
theorem dX12_put_12 : decode cX12_put 12 = .ok (.getfield 7, 3) := by decide +kernel
theorem dX12_put_15 : decode cX12_put 15 = .ok (.iload_n 1, 1) := by decide +kernel
theorem dX12_put_16 : decode cX12_put 16 = .ok (.iload_n 2, 1) := by decide +kernel
theorem dX12_put_17 : decode cX12_put 17 = .ok (.ishr, 1) := by decide +kernel
theorem dX12_put_18 : decode cX12_put 18 = .ok (.sipush 255, 3) := by decide +kernel
theorem dX12_put_21 : decode cX12_put 21 = .ok (.iand, 1) := by decide +kernel
theorem dX12_put_22 : decode cX12_put 22 = .ok (.iastore, 1) := by decide +kernel
theorem dX12_put_23 : decode cX12_put 23 = .ok (.aload_n 0, 1) := by decide +kernel
theorem dX12_put_24 : decode cX12_put 24 = .ok (.dup, 1) := by decide +kernel
theorem dX12_put_25 : decode cX12_put 25 = .ok (.getfield 7, 3) := by decide +kernel
theorem dX12_put_28 : decode cX12_put 28 = .ok (.iconst 1, 1) := by decide +kernel
theorem dX12_put_29 : decode cX12_put 29 = .ok (.iadd, 1) := by decide +kernel
theorem dX12_put_30 : decode cX12_put 30 = .ok (.putfield 7, 3) := by decide +kernel
theorem dX12_put_33 : decode cX12_put 33 = .ok (.iinc 2 (-8), 3) := by decide +kernel
theorem dX12_put_36 : decode cX12_put 36 = .ok (.goto (-33), 3) := by decide +kernel
theorem dX12_put_39 : decode cX12_put 39 = .ok (.return_, 1) := by decide +kernel
theorem dX12_feed_0 : decode cX12_feed 0 = .ok (.aload_n 0, 1) := by decide +kernel
theorem dX12_feed_1 : decode cX12_feed 1 = .ok (.getfield 7, 3) := by decide +kernel
theorem dX12_feed_4 : decode cX12_feed 4 = .ok (.bipush 20, 2) := by decide +kernel
theorem dX12_feed_6 : decode cX12_feed 6 = .ok (.iadd, 1) := by decide +kernel
theorem dX12_feed_7 : decode cX12_feed 7 = .ok (.sipush 2000, 3) := by decide +kernel
theorem dX12_feed_10 : decode cX12_feed 10 = .ok (.if_icmp .le 5, 3) := by decide +kernel
theorem dX12_feed_13 : decode cX12_feed 13 = .ok (.iconst (-1), 1) := by decide +kernel
theorem dX12_feed_14 : decode cX12_feed 14 = .ok (.ireturn, 1) := by decide +kernel
theorem dX12_feed_15 : decode cX12_feed 15 = .ok (.aload_n 0, 1) := by decide +kernel
theorem dX12_feed_16 : decode cX12_feed 16 = .ok (.iload_n 1, 1) := by decide +kernel
theorem dX12_feed_17 : decode cX12_feed 17 = .ok (.invokevirtual 11, 3) := by decide +kernel
theorem dX12_feed_20 : decode cX12_feed 20 = .ok (.aload_n 0, 1) := by decide +kernel
theorem dX12_feed_21 : decode cX12_feed 21 = .ok (.iload_n 2, 1) := by decide +kernel
theorem dX12_feed_22 : decode cX12_feed 22 = .ok (.invokevirtual 11, 3) := by decide +kernel
theorem dX12_feed_25 : decode cX12_feed 25 = .ok (.aload_n 0, 1) := by decide +kernel
theorem dX12_feed_26 : decode cX12_feed 26 = .ok (.iload_n 3, 1) := by decide +kernel
theorem dX12_feed_27 : decode cX12_feed 27 = .ok (.invokevirtual 11, 3) := by decide +kernel
theorem dX12_feed_30 : decode cX12_feed 30 = .ok (.aload_n 0, 1) := by decide +kernel
theorem dX12_feed_31 : decode cX12_feed 31 = .ok (.iload 4, 2) := by decide +kernel
theorem dX12_feed_33 : decode cX12_feed 33 = .ok (.invokevirtual 11, 3) := by decide +kernel
theorem dX12_feed_36 : decode cX12_feed 36 = .ok (.aload_n 0, 1) := by decide +kernel
theorem dX12_feed_37 : decode cX12_feed 37 = .ok (.iload 5, 2) := by decide +kernel
theorem dX12_feed_39 : decode cX12_feed 39 = .ok (.invokevirtual 11, 3) := by decide +kernel
theorem dX12_feed_42 : decode cX12_feed 42 = .ok (.aload_n 0, 1) := by decide +kernel
theorem dX12_feed_43 : decode cX12_feed 43 = .ok (.getfield 7, 3) := by decide +kernel
theorem dX12_feed_46 : decode cX12_feed 46 = .ok (.ireturn, 1) := by decide +kernel
theorem dX12_end_0 : decode cX12_end 0 = .ok (.iload_n 1, 1) := by decide +kernel
theorem dX12_end_1 : decode cX12_end 1 = .ok (.iconst 0, 1) := by decide +kernel
theorem dX12_end_2 : decode cX12_end 2 = .ok (.aload_n 0, 1) := by decide +kernel
theorem dX12_end_3 : decode cX12_end 3 = .ok (.getfield 7, 3) := by decide +kernel
theorem dX12_end_6 : decode cX12_end 6 = .ok (.invokestatic 15, 3) := by decide +kernel
theorem dX12_end_9 : decode cX12_end 9 = .ok (.ifCond .ne 5, 3) := by decide +kernel
theorem dX12_end_12 : decode cX12_end 12 = .ok (.iconst 0, 1) := by decide +kernel
theorem dX12_end_13 : decode cX12_end 13 = .ok (.ireturn, 1) := by decide +kernel
theorem dX12_end_14 : decode cX12_end 14 = .ok (.aload_n 0, 1) := by decide +kernel
theorem dX12_end_15 : decode cX12_end 15 = .ok (.iload_n 1, 1) := by decide +kernel
theorem dX12_end_16 : decode cX12_end 16 = .ok (.putfield 7, 3) := by decide +kernel
theorem dX12_end_19 : decode cX12_end 19 = .ok (.iconst 1, 1) := by decide +kernel
theorem dX12_end_20 : decode cX12_end 20 = .ok (.ireturn, 1) := by decide +kernel
theorem dX12_fails_0 : decode cX12_fails 0 = .ok (.aload_n 0, 1) := by decide +kernel
theorem dX12_fails_1 : decode cX12_fails 1 = .ok (.getfield 19, 3) := by decide +kernel
theorem dX12_fails_4 : decode cX12_fails 4 = .ok (.ifCond .le 4, 3) := by decide +kernel
theorem dX12_fails_7 : decode cX12_fails 7 = .ok (.return_, 1) := by decide +kernel
theorem dX12_fails_8 : decode cX12_fails 8 = .ok (.aload_n 0, 1) := by decide +kernel
theorem dX12_fails_9 : decode cX12_fails 9 = .ok (.iload_n 1, 1) := by decide +kernel
theorem dX12_fails_10 : decode cX12_fails 10 = .ok (.putfield 19, 3) := by decide +kernel
theorem dX12_fails_13 : decode cX12_fails 13 = .ok (.aload_n 0, 1) := by decide +kernel
theorem dX12_fails_14 : decode cX12_fails 14 = .ok (.iload_n 2, 1) := by decide +kernel
theorem dX12_fails_15 : decode cX12_fails 15 = .ok (.putfield 22, 3) := by decide +kernel
theorem dX12_fails_18 : decode cX12_fails 18 = .ok (.return_, 1) := by decide +kernel
theorem dX12_at_0 : decode cX12_at 0 = .ok (.iload_n 1, 1) := by decide +kernel
theorem dX12_at_1 : decode cX12_at 1 = .ok (.aload_n 0, 1) := by decide +kernel
theorem dX12_at_2 : decode cX12_at 2 = .ok (.getfield 25, 3) := by decide +kernel
theorem dX12_at_5 : decode cX12_at 5 = .ok (.if_icmp .ge 12, 3) := by decide +kernel
theorem dX12_at_8 : decode cX12_at 8 = .ok (.aload_n 0, 1) := by decide +kernel
theorem dX12_at_9 : decode cX12_at 9 = .ok (.getfield 28, 3) := by decide +kernel
theorem dX12_at_12 : decode cX12_at 12 = .ok (.iload_n 1, 1) := by decide +kernel
theorem dX12_at_13 : decode cX12_at 13 = .ok (.iaload, 1) := by decide +kernel
theorem dX12_at_14 : decode cX12_at 14 = .ok (.goto 5, 3) := by decide +kernel
theorem dX12_at_17 : decode cX12_at 17 = .ok (.bipush 10, 2) := by decide +kernel
theorem dX12_at_19 : decode cX12_at 19 = .ok (.ireturn, 1) := by decide +kernel
theorem dX12_isLetter_0 : decode cX12_isLetter 0 = .ok (.iload_n 0, 1) := by decide +kernel
theorem dX12_isLetter_1 : decode cX12_isLetter 1 = .ok (.bipush 65, 2) := by decide +kernel
theorem dX12_isLetter_3 : decode cX12_isLetter 3 = .ok (.bipush 90, 2) := by decide +kernel
theorem dX12_isLetter_5 : decode cX12_isLetter 5 = .ok (.invokestatic 15, 3) := by decide +kernel
theorem dX12_isLetter_8 : decode cX12_isLetter 8 = .ok (.ireturn, 1) := by decide +kernel
theorem dX12_isDigit_0 : decode cX12_isDigit 0 = .ok (.iload_n 0, 1) := by decide +kernel
theorem dX12_isDigit_1 : decode cX12_isDigit 1 = .ok (.bipush 48, 2) := by decide +kernel
theorem dX12_isDigit_3 : decode cX12_isDigit 3 = .ok (.bipush 57, 2) := by decide +kernel
theorem dX12_isDigit_5 : decode cX12_isDigit 5 = .ok (.invokestatic 15, 3) := by decide +kernel
theorem dX12_isDigit_8 : decode cX12_isDigit 8 = .ok (.ireturn, 1) := by decide +kernel
theorem dX12_look_0 : decode cX12_look 0 = .ok (.aload_n 0, 1) := by decide +kernel
theorem dX12_look_1 : decode cX12_look 1 = .ok (.getfield 31, 3) := by decide +kernel
theorem dX12_look_4 : decode cX12_look 4 = .ok (.istore_n 1, 1) := by decide +kernel
theorem dX12_look_5 : decode cX12_look 5 = .ok (.iload_n 1, 1) := by decide +kernel
theorem dX12_look_6 : decode cX12_look 6 = .ok (.aload_n 0, 1) := by decide +kernel
theorem dX12_look_7 : decode cX12_look 7 = .ok (.getfield 25, 3) := by decide +kernel
theorem dX12_look_10 : decode cX12_look 10 = .ok (.if_icmp .ge 20, 3) := by decide +kernel
theorem dX12_look_13 : decode cX12_look 13 = .ok (.aload_n 0, 1) := by decide +kernel
theorem dX12_look_14 : decode cX12_look 14 = .ok (.getfield 28, 3) := by decide +kernel
theorem dX12_look_17 : decode cX12_look 17 = .ok (.iload_n 1, 1) := by decide +kernel
theorem dX12_look_18 : decode cX12_look 18 = .ok (.iaload, 1) := by decide +kernel
theorem dX12_look_19 : decode cX12_look 19 = .ok (.bipush 32, 2) := by decide +kernel
theorem dX12_look_21 : decode cX12_look 21 = .ok (.if_icmp .ne 9, 3) := by decide +kernel
theorem dX12_look_24 : decode cX12_look 24 = .ok (.iinc 1 1, 3) := by decide +kernel
theorem dX12_look_27 : decode cX12_look 27 = .ok (.goto (-22), 3) := by decide +kernel
theorem dX12_look_30 : decode cX12_look 30 = .ok (.aload_n 0, 1) := by decide +kernel
theorem dX12_look_31 : decode cX12_look 31 = .ok (.iload_n 1, 1) := by decide +kernel
theorem dX12_look_32 : decode cX12_look 32 = .ok (.putfield 34, 3) := by decide +kernel
theorem dX12_look_35 : decode cX12_look 35 = .ok (.iload_n 1, 1) := by decide +kernel
theorem dX12_look_36 : decode cX12_look 36 = .ok (.aload_n 0, 1) := by decide +kernel
theorem dX12_look_37 : decode cX12_look 37 = .ok (.getfield 25, 3) := by decide +kernel
theorem dX12_look_40 : decode cX12_look 40 = .ok (.if_icmp .ge 25, 3) := by decide +kernel
theorem dX12_look_43 : decode cX12_look 43 = .ok (.aload_n 0, 1) := by decide +kernel
theorem dX12_look_44 : decode cX12_look 44 = .ok (.getfield 28, 3) := by decide +kernel
theorem dX12_look_47 : decode cX12_look 47 = .ok (.iload_n 1, 1) := by decide +kernel
theorem dX12_look_48 : decode cX12_look 48 = .ok (.iaload, 1) := by decide +kernel
theorem dX12_look_49 : decode cX12_look 49 = .ok (.bipush 10, 2) := by decide +kernel
theorem dX12_look_51 : decode cX12_look 51 = .ok (.if_icmp .eq 14, 3) := by decide +kernel
theorem dX12_look_54 : decode cX12_look 54 = .ok (.aload_n 0, 1) := by decide +kernel
theorem dX12_look_55 : decode cX12_look 55 = .ok (.getfield 28, 3) := by decide +kernel
theorem dX12_look_58 : decode cX12_look 58 = .ok (.iload_n 1, 1) := by decide +kernel
theorem dX12_look_59 : decode cX12_look 59 = .ok (.iaload, 1) := by decide +kernel
theorem dX12_look_60 : decode cX12_look 60 = .ok (.bipush 47, 2) := by decide +kernel
theorem dX12_look_62 : decode cX12_look 62 = .ok (.if_icmp .ne 44, 3) := by decide +kernel
theorem dX12_look_65 : decode cX12_look 65 = .ok (.iload_n 1, 1) := by decide +kernel
theorem dX12_look_66 : decode cX12_look 66 = .ok (.aload_n 0, 1) := by decide +kernel
theorem dX12_look_67 : decode cX12_look 67 = .ok (.getfield 25, 3) := by decide +kernel
theorem dX12_look_70 : decode cX12_look 70 = .ok (.if_icmp .ge 20, 3) := by decide +kernel
theorem dX12_look_73 : decode cX12_look 73 = .ok (.aload_n 0, 1) := by decide +kernel
theorem dX12_look_74 : decode cX12_look 74 = .ok (.getfield 28, 3) := by decide +kernel
theorem dX12_look_77 : decode cX12_look 77 = .ok (.iload_n 1, 1) := by decide +kernel
theorem dX12_look_78 : decode cX12_look 78 = .ok (.iaload, 1) := by decide +kernel
theorem dX12_look_79 : decode cX12_look 79 = .ok (.bipush 10, 2) := by decide +kernel
theorem dX12_look_81 : decode cX12_look 81 = .ok (.if_icmp .eq 9, 3) := by decide +kernel
theorem dX12_look_84 : decode cX12_look 84 = .ok (.iinc 1 1, 3) := by decide +kernel
theorem dX12_look_87 : decode cX12_look 87 = .ok (.goto (-22), 3) := by decide +kernel
theorem dX12_look_90 : decode cX12_look 90 = .ok (.aload_n 0, 1) := by decide +kernel
theorem dX12_look_91 : decode cX12_look 91 = .ok (.iload_n 1, 1) := by decide +kernel
theorem dX12_look_92 : decode cX12_look 92 = .ok (.putfield 34, 3) := by decide +kernel
theorem dX12_look_95 : decode cX12_look 95 = .ok (.aload_n 0, 1) := by decide +kernel
theorem dX12_look_96 : decode cX12_look 96 = .ok (.iconst 5, 1) := by decide +kernel
theorem dX12_look_97 : decode cX12_look 97 = .ok (.putfield 37, 3) := by decide +kernel
theorem dX12_look_100 : decode cX12_look 100 = .ok (.aload_n 0, 1) := by decide +kernel
theorem dX12_look_101 : decode cX12_look 101 = .ok (.iload_n 1, 1) := by decide +kernel
theorem dX12_look_102 : decode cX12_look 102 = .ok (.putfield 40, 3) := by decide +kernel
theorem dX12_look_105 : decode cX12_look 105 = .ok (.return_, 1) := by decide +kernel
theorem dX12_look_106 : decode cX12_look 106 = .ok (.aload_n 0, 1) := by decide +kernel
theorem dX12_look_107 : decode cX12_look 107 = .ok (.getfield 28, 3) := by decide +kernel
theorem dX12_look_110 : decode cX12_look 110 = .ok (.iload_n 1, 1) := by decide +kernel
theorem dX12_look_111 : decode cX12_look 111 = .ok (.iaload, 1) := by decide +kernel
theorem dX12_look_112 : decode cX12_look 112 = .ok (.istore_n 2, 1) := by decide +kernel
theorem dX12_look_113 : decode cX12_look 113 = .ok (.iload_n 1, 1) := by decide +kernel
theorem dX12_look_114 : decode cX12_look 114 = .ok (.iconst 1, 1) := by decide +kernel
theorem dX12_look_115 : decode cX12_look 115 = .ok (.iadd, 1) := by decide +kernel
theorem dX12_look_116 : decode cX12_look 116 = .ok (.istore_n 3, 1) := by decide +kernel
theorem dX12_look_117 : decode cX12_look 117 = .ok (.iload_n 2, 1) := by decide +kernel
theorem dX12_look_118 : decode cX12_look 118 = .ok (.invokestatic 43, 3) := by decide +kernel
theorem dX12_look_121 : decode cX12_look 121 = .ok (.ifCond .eq 61, 3) := by decide +kernel
theorem dX12_look_124 : decode cX12_look 124 = .ok (.aload_n 0, 1) := by decide +kernel
theorem dX12_look_125 : decode cX12_look 125 = .ok (.iload_n 3, 1) := by decide +kernel
theorem dX12_look_126 : decode cX12_look 126 = .ok (.invokevirtual 47, 3) := by decide +kernel
theorem dX12_look_129 : decode cX12_look 129 = .ok (.invokestatic 43, 3) := by decide +kernel
theorem dX12_look_132 : decode cX12_look 132 = .ok (.ifCond .ne 14, 3) := by decide +kernel
theorem dX12_look_135 : decode cX12_look 135 = .ok (.aload_n 0, 1) := by decide +kernel
theorem dX12_look_136 : decode cX12_look 136 = .ok (.iload_n 3, 1) := by decide +kernel
theorem dX12_look_137 : decode cX12_look 137 = .ok (.invokevirtual 47, 3) := by decide +kernel
theorem dX12_look_140 : decode cX12_look 140 = .ok (.invokestatic 51, 3) := by decide +kernel
theorem dX12_look_143 : decode cX12_look 143 = .ok (.ifCond .eq 9, 3) := by decide +kernel
theorem dX12_look_146 : decode cX12_look 146 = .ok (.iinc 3 1, 3) := by decide +kernel
theorem dX12_look_149 : decode cX12_look 149 = .ok (.goto (-25), 3) := by decide +kernel
theorem dX12_look_152 : decode cX12_look 152 = .ok (.aload_n 0, 1) := by decide +kernel
theorem dX12_look_153 : decode cX12_look 153 = .ok (.iconst 1, 1) := by decide +kernel
theorem dX12_look_154 : decode cX12_look 154 = .ok (.putfield 37, 3) := by decide +kernel
theorem dX12_look_157 : decode cX12_look 157 = .ok (.aload_n 0, 1) := by decide +kernel
theorem dX12_look_158 : decode cX12_look 158 = .ok (.iload_n 3, 1) := by decide +kernel
theorem dX12_look_159 : decode cX12_look 159 = .ok (.iload_n 1, 1) := by decide +kernel
theorem dX12_look_160 : decode cX12_look 160 = .ok (.isub, 1) := by decide +kernel
theorem dX12_look_161 : decode cX12_look 161 = .ok (.putfield 54, 3) := by decide +kernel
theorem dX12_look_164 : decode cX12_look 164 = .ok (.aload_n 0, 1) := by decide +kernel
theorem dX12_look_165 : decode cX12_look 165 = .ok (.getfield 54, 3) := by decide +kernel
theorem dX12_look_168 : decode cX12_look 168 = .ok (.bipush 7, 2) := by decide +kernel
theorem dX12_look_170 : decode cX12_look 170 = .ok (.if_icmp .le 134, 3) := by decide +kernel
theorem dX12_look_173 : decode cX12_look 173 = .ok (.aload_n 0, 1) := by decide +kernel
theorem dX12_look_174 : decode cX12_look 174 = .ok (.iconst 1, 1) := by decide +kernel
theorem dX12_look_175 : decode cX12_look 175 = .ok (.iload_n 1, 1) := by decide +kernel
theorem dX12_look_176 : decode cX12_look 176 = .ok (.invokevirtual 57, 3) := by decide +kernel
theorem dX12_look_179 : decode cX12_look 179 = .ok (.goto 125, 3) := by decide +kernel
theorem dX12_look_182 : decode cX12_look 182 = .ok (.iload_n 2, 1) := by decide +kernel
theorem dX12_look_183 : decode cX12_look 183 = .ok (.invokestatic 51, 3) := by decide +kernel
theorem dX12_look_186 : decode cX12_look 186 = .ok (.ifCond .eq 34, 3) := by decide +kernel
theorem dX12_look_189 : decode cX12_look 189 = .ok (.aload_n 0, 1) := by decide +kernel
theorem dX12_look_190 : decode cX12_look 190 = .ok (.iload_n 3, 1) := by decide +kernel
theorem dX12_look_191 : decode cX12_look 191 = .ok (.invokevirtual 47, 3) := by decide +kernel
theorem dX12_look_194 : decode cX12_look 194 = .ok (.invokestatic 51, 3) := by decide +kernel
theorem dX12_look_197 : decode cX12_look 197 = .ok (.ifCond .eq 9, 3) := by decide +kernel
theorem dX12_look_200 : decode cX12_look 200 = .ok (.iinc 3 1, 3) := by decide +kernel
theorem dX12_look_203 : decode cX12_look 203 = .ok (.goto (-14), 3) := by decide +kernel
theorem dX12_look_206 : decode cX12_look 206 = .ok (.aload_n 0, 1) := by decide +kernel
theorem dX12_look_207 : decode cX12_look 207 = .ok (.iconst 2, 1) := by decide +kernel
theorem dX12_look_208 : decode cX12_look 208 = .ok (.putfield 37, 3) := by decide +kernel
theorem dX12_look_211 : decode cX12_look 211 = .ok (.aload_n 0, 1) := by decide +kernel
theorem dX12_look_212 : decode cX12_look 212 = .ok (.iload_n 1, 1) := by decide +kernel
theorem dX12_look_213 : decode cX12_look 213 = .ok (.iload_n 3, 1) := by decide +kernel
theorem dX12_look_214 : decode cX12_look 214 = .ok (.invokevirtual 61, 3) := by decide +kernel
theorem dX12_look_217 : decode cX12_look 217 = .ok (.goto 87, 3) := by decide +kernel
theorem dX12_look_220 : decode cX12_look 220 = .ok (.iload_n 2, 1) := by decide +kernel
theorem dX12_look_221 : decode cX12_look 221 = .ok (.bipush 34, 2) := by decide +kernel
theorem dX12_look_223 : decode cX12_look 223 = .ok (.if_icmp .ne 56, 3) := by decide +kernel
theorem dX12_look_226 : decode cX12_look 226 = .ok (.aload_n 0, 1) := by decide +kernel
theorem dX12_look_227 : decode cX12_look 227 = .ok (.iconst 3, 1) := by decide +kernel
theorem dX12_look_228 : decode cX12_look 228 = .ok (.putfield 37, 3) := by decide +kernel
theorem dX12_look_231 : decode cX12_look 231 = .ok (.aload_n 0, 1) := by decide +kernel
theorem dX12_look_232 : decode cX12_look 232 = .ok (.iload_n 3, 1) := by decide +kernel
theorem dX12_look_233 : decode cX12_look 233 = .ok (.invokevirtual 47, 3) := by decide +kernel
theorem dX12_look_236 : decode cX12_look 236 = .ok (.bipush 32, 2) := by decide +kernel
theorem dX12_look_238 : decode cX12_look 238 = .ok (.bipush 126, 2) := by decide +kernel
theorem dX12_look_240 : decode cX12_look 240 = .ok (.invokestatic 15, 3) := by decide +kernel
theorem dX12_look_243 : decode cX12_look 243 = .ok (.ifCond .eq 11, 3) := by decide +kernel
theorem dX12_look_246 : decode cX12_look 246 = .ok (.iload_n 3, 1) := by decide +kernel
theorem dX12_look_247 : decode cX12_look 247 = .ok (.aload_n 0, 1) := by decide +kernel
theorem dX12_look_248 : decode cX12_look 248 = .ok (.getfield 25, 3) := by decide +kernel
theorem dX12_look_251 : decode cX12_look 251 = .ok (.if_icmp .lt 9, 3) := by decide +kernel
theorem dX12_look_254 : decode cX12_look 254 = .ok (.aload_n 0, 1) := by decide +kernel
theorem dX12_look_255 : decode cX12_look 255 = .ok (.iconst 1, 1) := by decide +kernel
theorem dX12_look_256 : decode cX12_look 256 = .ok (.iload_n 1, 1) := by decide +kernel
theorem dX12_look_257 : decode cX12_look 257 = .ok (.invokevirtual 57, 3) := by decide +kernel
theorem dX12_look_260 : decode cX12_look 260 = .ok (.aload_n 0, 1) := by decide +kernel
theorem dX12_look_261 : decode cX12_look 261 = .ok (.aload_n 0, 1) := by decide +kernel
theorem dX12_look_262 : decode cX12_look 262 = .ok (.iload_n 3, 1) := by decide +kernel
theorem dX12_look_263 : decode cX12_look 263 = .ok (.invokevirtual 47, 3) := by decide +kernel
theorem dX12_look_266 : decode cX12_look 266 = .ok (.sipush 128, 3) := by decide +kernel
theorem dX12_look_269 : decode cX12_look 269 = .ok (.ior, 1) := by decide +kernel
theorem dX12_look_270 : decode cX12_look 270 = .ok (.putfield 64, 3) := by decide +kernel
theorem dX12_look_273 : decode cX12_look 273 = .ok (.iinc 3 1, 3) := by decide +kernel
theorem dX12_look_276 : decode cX12_look 276 = .ok (.goto 28, 3) := by decide +kernel
theorem dX12_look_279 : decode cX12_look 279 = .ok (.aload_n 0, 1) := by decide +kernel
theorem dX12_look_280 : decode cX12_look 280 = .ok (.iconst 4, 1) := by decide +kernel
theorem dX12_look_281 : decode cX12_look 281 = .ok (.putfield 37, 3) := by decide +kernel
theorem dX12_look_284 : decode cX12_look 284 = .ok (.aload_n 0, 1) := by decide +kernel
theorem dX12_look_285 : decode cX12_look 285 = .ok (.iload_n 2, 1) := by decide +kernel
theorem dX12_look_286 : decode cX12_look 286 = .ok (.putfield 64, 3) := by decide +kernel
theorem dX12_look_289 : decode cX12_look 289 = .ok (.ldc 67, 2) := by decide +kernel
theorem dX12_look_291 : decode cX12_look 291 = .ok (.iload_n 2, 1) := by decide +kernel
theorem dX12_look_292 : decode cX12_look 292 = .ok (.invokevirtual 69, 3) := by decide +kernel
theorem dX12_look_295 : decode cX12_look 295 = .ok (.ifCond .ge 9, 3) := by decide +kernel
theorem dX12_look_298 : decode cX12_look 298 = .ok (.aload_n 0, 1) := by decide +kernel
theorem dX12_look_299 : decode cX12_look 299 = .ok (.iconst 1, 1) := by decide +kernel
theorem dX12_look_300 : decode cX12_look 300 = .ok (.iload_n 1, 1) := by decide +kernel
theorem dX12_look_301 : decode cX12_look 301 = .ok (.invokevirtual 57, 3) := by decide +kernel
theorem dX12_look_304 : decode cX12_look 304 = .ok (.aload_n 0, 1) := by decide +kernel
theorem dX12_look_305 : decode cX12_look 305 = .ok (.iload_n 3, 1) := by decide +kernel
theorem dX12_look_306 : decode cX12_look 306 = .ok (.putfield 40, 3) := by decide +kernel
theorem dX12_look_309 : decode cX12_look 309 = .ok (.return_, 1) := by decide +kernel
theorem dX12_number_0 : decode cX12_number 0 = .ok (.aload_n 0, 1) := by decide +kernel
theorem dX12_number_1 : decode cX12_number 1 = .ok (.iconst 0, 1) := by decide +kernel
theorem dX12_number_2 : decode cX12_number 2 = .ok (.putfield 64, 3) := by decide +kernel
theorem dX12_number_5 : decode cX12_number 5 = .ok (.iload_n 2, 1) := by decide +kernel
theorem dX12_number_6 : decode cX12_number 6 = .ok (.iload_n 1, 1) := by decide +kernel
theorem dX12_number_7 : decode cX12_number 7 = .ok (.isub, 1) := by decide +kernel
theorem dX12_number_8 : decode cX12_number 8 = .ok (.iconst 4, 1) := by decide +kernel
theorem dX12_number_9 : decode cX12_number 9 = .ok (.if_icmp .gt 7, 3) := by decide +kernel
theorem dX12_number_12 : decode cX12_number 12 = .ok (.iconst 1, 1) := by decide +kernel
theorem dX12_number_13 : decode cX12_number 13 = .ok (.goto 4, 3) := by decide +kernel
theorem dX12_number_16 : decode cX12_number 16 = .ok (.iconst 0, 1) := by decide +kernel
theorem dX12_number_17 : decode cX12_number 17 = .ok (.istore_n 3, 1) := by decide +kernel
theorem dX12_number_18 : decode cX12_number 18 = .ok (.iload_n 1, 1) := by decide +kernel
theorem dX12_number_19 : decode cX12_number 19 = .ok (.istore 4, 2) := by decide +kernel
theorem dX12_number_21 : decode cX12_number 21 = .ok (.iload 4, 2) := by decide +kernel
theorem dX12_number_23 : decode cX12_number 23 = .ok (.iload_n 2, 1) := by decide +kernel
theorem dX12_number_24 : decode cX12_number 24 = .ok (.if_icmp .ge 60, 3) := by decide +kernel
theorem dX12_number_27 : decode cX12_number 27 = .ok (.iload_n 3, 1) := by decide +kernel
theorem dX12_number_28 : decode cX12_number 28 = .ok (.ifCond .eq 56, 3) := by decide +kernel
theorem dX12_number_31 : decode cX12_number 31 = .ok (.aload_n 0, 1) := by decide +kernel
theorem dX12_number_32 : decode cX12_number 32 = .ok (.getfield 28, 3) := by decide +kernel
theorem dX12_number_35 : decode cX12_number 35 = .ok (.iload 4, 2) := by decide +kernel
theorem dX12_number_37 : decode cX12_number 37 = .ok (.iaload, 1) := by decide +kernel
theorem dX12_number_38 : decode cX12_number 38 = .ok (.bipush 48, 2) := by decide +kernel
theorem dX12_number_40 : decode cX12_number 40 = .ok (.isub, 1) := by decide +kernel
theorem dX12_number_41 : decode cX12_number 41 = .ok (.aload_n 0, 1) := by decide +kernel
theorem dX12_number_42 : decode cX12_number 42 = .ok (.getfield 74, 3) := by decide +kernel
theorem dX12_number_45 : decode cX12_number 45 = .ok (.if_icmp .ge 7, 3) := by decide +kernel
theorem dX12_number_48 : decode cX12_number 48 = .ok (.iconst 1, 1) := by decide +kernel
theorem dX12_number_49 : decode cX12_number 49 = .ok (.goto 4, 3) := by decide +kernel
theorem dX12_number_52 : decode cX12_number 52 = .ok (.iconst 0, 1) := by decide +kernel
theorem dX12_number_53 : decode cX12_number 53 = .ok (.istore_n 3, 1) := by decide +kernel
theorem dX12_number_54 : decode cX12_number 54 = .ok (.aload_n 0, 1) := by decide +kernel
theorem dX12_number_55 : decode cX12_number 55 = .ok (.aload_n 0, 1) := by decide +kernel
theorem dX12_number_56 : decode cX12_number 56 = .ok (.getfield 64, 3) := by decide +kernel
theorem dX12_number_59 : decode cX12_number 59 = .ok (.aload_n 0, 1) := by decide +kernel
theorem dX12_number_60 : decode cX12_number 60 = .ok (.getfield 74, 3) := by decide +kernel
theorem dX12_number_63 : decode cX12_number 63 = .ok (.imul, 1) := by decide +kernel
theorem dX12_number_64 : decode cX12_number 64 = .ok (.aload_n 0, 1) := by decide +kernel
theorem dX12_number_65 : decode cX12_number 65 = .ok (.getfield 28, 3) := by decide +kernel
theorem dX12_number_68 : decode cX12_number 68 = .ok (.iload 4, 2) := by decide +kernel
theorem dX12_number_70 : decode cX12_number 70 = .ok (.iaload, 1) := by decide +kernel
theorem dX12_number_71 : decode cX12_number 71 = .ok (.iadd, 1) := by decide +kernel
theorem dX12_number_72 : decode cX12_number 72 = .ok (.bipush 48, 2) := by decide +kernel
theorem dX12_number_74 : decode cX12_number 74 = .ok (.isub, 1) := by decide +kernel
theorem dX12_number_75 : decode cX12_number 75 = .ok (.putfield 64, 3) := by decide +kernel
theorem dX12_number_78 : decode cX12_number 78 = .ok (.iinc 4 1, 3) := by decide +kernel
theorem dX12_number_81 : decode cX12_number 81 = .ok (.goto (-60), 3) := by decide +kernel
theorem dX12_number_84 : decode cX12_number 84 = .ok (.iload_n 3, 1) := by decide +kernel
theorem dX12_number_85 : decode cX12_number 85 = .ok (.ifCond .eq 13, 3) := by decide +kernel
theorem dX12_number_88 : decode cX12_number 88 = .ok (.aload_n 0, 1) := by decide +kernel
theorem dX12_number_89 : decode cX12_number 89 = .ok (.getfield 64, 3) := by decide +kernel
theorem dX12_number_92 : decode cX12_number 92 = .ok (.sipush 4095, 3) := by decide +kernel
theorem dX12_number_95 : decode cX12_number 95 = .ok (.if_icmp .le 9, 3) := by decide +kernel
theorem dX12_number_98 : decode cX12_number 98 = .ok (.aload_n 0, 1) := by decide +kernel
theorem dX12_number_99 : decode cX12_number 99 = .ok (.iconst 1, 1) := by decide +kernel
theorem dX12_number_100 : decode cX12_number 100 = .ok (.iload_n 1, 1) := by decide +kernel
theorem dX12_number_101 : decode cX12_number 101 = .ok (.invokevirtual 57, 3) := by decide +kernel
theorem dX12_number_104 : decode cX12_number 104 = .ok (.return_, 1) := by decide +kernel
theorem dX12_take_0 : decode cX12_take 0 = .ok (.aload_n 0, 1) := by decide +kernel
theorem dX12_take_1 : decode cX12_take 1 = .ok (.aload_n 0, 1) := by decide +kernel
theorem dX12_take_2 : decode cX12_take 2 = .ok (.getfield 40, 3) := by decide +kernel
theorem dX12_take_5 : decode cX12_take 5 = .ok (.putfield 31, 3) := by decide +kernel
theorem dX12_take_8 : decode cX12_take 8 = .ok (.aload_n 0, 1) := by decide +kernel
theorem dX12_take_9 : decode cX12_take 9 = .ok (.invokevirtual 77, 3) := by decide +kernel
theorem dX12_take_12 : decode cX12_take 12 = .ok (.return_, 1) := by decide +kernel
theorem dX12_isSign_0 : decode cX12_isSign 0 = .ok (.aload_n 0, 1) := by decide +kernel
theorem dX12_isSign_1 : decode cX12_isSign 1 = .ok (.getfield 19, 3) := by decide +kernel
theorem dX12_isSign_4 : decode cX12_isSign 4 = .ok (.ifCond .ne 23, 3) := by decide +kernel
theorem dX12_isSign_7 : decode cX12_isSign 7 = .ok (.aload_n 0, 1) := by decide +kernel
theorem dX12_isSign_8 : decode cX12_isSign 8 = .ok (.getfield 37, 3) := by decide +kernel
theorem dX12_isSign_11 : decode cX12_isSign 11 = .ok (.iconst 4, 1) := by decide +kernel
theorem dX12_isSign_12 : decode cX12_isSign 12 = .ok (.if_icmp .ne 15, 3) := by decide +kernel
theorem dX12_isSign_15 : decode cX12_isSign 15 = .ok (.aload_n 0, 1) := by decide +kernel
theorem dX12_isSign_16 : decode cX12_isSign 16 = .ok (.getfield 64, 3) := by decide +kernel
theorem dX12_isSign_19 : decode cX12_isSign 19 = .ok (.iload_n 1, 1) := by decide +kernel
theorem dX12_isSign_20 : decode cX12_isSign 20 = .ok (.if_icmp .ne 7, 3) := by decide +kernel
theorem dX12_isSign_23 : decode cX12_isSign 23 = .ok (.iconst 1, 1) := by decide +kernel
theorem dX12_isSign_24 : decode cX12_isSign 24 = .ok (.goto 4, 3) := by decide +kernel
theorem dX12_isSign_27 : decode cX12_isSign 27 = .ok (.iconst 0, 1) := by decide +kernel
theorem dX12_isSign_28 : decode cX12_isSign 28 = .ok (.ireturn, 1) := by decide +kernel
theorem dX12_find_0 : decode cX12_find 0 = .ok (.iconst 0, 1) := by decide +kernel
theorem dX12_find_1 : decode cX12_find 1 = .ok (.istore 4, 2) := by decide +kernel
theorem dX12_find_3 : decode cX12_find 3 = .ok (.iconst 0, 1) := by decide +kernel
theorem dX12_find_4 : decode cX12_find 4 = .ok (.istore 5, 2) := by decide +kernel
theorem dX12_find_6 : decode cX12_find 6 = .ok (.iload 5, 2) := by decide +kernel
theorem dX12_find_8 : decode cX12_find 8 = .ok (.aload_n 0, 1) := by decide +kernel
theorem dX12_find_9 : decode cX12_find 9 = .ok (.invokevirtual 81, 3) := by decide +kernel
theorem dX12_find_12 : decode cX12_find 12 = .ok (.if_icmp .ge 94, 3) := by decide +kernel
theorem dX12_find_15 : decode cX12_find 15 = .ok (.aload_n 0, 1) := by decide +kernel
theorem dX12_find_16 : decode cX12_find 16 = .ok (.bipush 32, 2) := by decide +kernel
theorem dX12_find_18 : decode cX12_find 18 = .ok (.iload 5, 2) := by decide +kernel
theorem dX12_find_20 : decode cX12_find 20 = .ok (.invokevirtual 85, 3) := by decide +kernel
theorem dX12_find_23 : decode cX12_find 23 = .ok (.istore 6, 2) := by decide +kernel
theorem dX12_find_25 : decode cX12_find 25 = .ok (.iload 6, 2) := by decide +kernel
theorem dX12_find_27 : decode cX12_find 27 = .ok (.iload 5, 2) := by decide +kernel
theorem dX12_find_29 : decode cX12_find 29 = .ok (.isub, 1) := by decide +kernel
theorem dX12_find_30 : decode cX12_find 30 = .ok (.iload_n 3, 1) := by decide +kernel
theorem dX12_find_31 : decode cX12_find 31 = .ok (.if_icmp .ne 7, 3) := by decide +kernel
theorem dX12_find_34 : decode cX12_find 34 = .ok (.iconst 1, 1) := by decide +kernel
theorem dX12_find_35 : decode cX12_find 35 = .ok (.goto 4, 3) := by decide +kernel
theorem dX12_find_38 : decode cX12_find 38 = .ok (.iconst 0, 1) := by decide +kernel
theorem dX12_find_39 : decode cX12_find 39 = .ok (.istore 7, 2) := by decide +kernel
theorem dX12_find_41 : decode cX12_find 41 = .ok (.iconst 0, 1) := by decide +kernel
theorem dX12_find_42 : decode cX12_find 42 = .ok (.istore 8, 2) := by decide +kernel
theorem dX12_find_44 : decode cX12_find 44 = .ok (.iload 8, 2) := by decide +kernel
theorem dX12_find_46 : decode cX12_find 46 = .ok (.iload_n 3, 1) := by decide +kernel
theorem dX12_find_47 : decode cX12_find 47 = .ok (.if_icmp .ge 39, 3) := by decide +kernel
theorem dX12_find_50 : decode cX12_find 50 = .ok (.iload 7, 2) := by decide +kernel
theorem dX12_find_52 : decode cX12_find 52 = .ok (.ifCond .eq 34, 3) := by decide +kernel
theorem dX12_find_55 : decode cX12_find 55 = .ok (.aload_n 0, 1) := by decide +kernel
theorem dX12_find_56 : decode cX12_find 56 = .ok (.iload 5, 2) := by decide +kernel
theorem dX12_find_58 : decode cX12_find 58 = .ok (.iload 8, 2) := by decide +kernel
theorem dX12_find_60 : decode cX12_find 60 = .ok (.iadd, 1) := by decide +kernel
theorem dX12_find_61 : decode cX12_find 61 = .ok (.invokevirtual 88, 3) := by decide +kernel
theorem dX12_find_64 : decode cX12_find 64 = .ok (.aload_n 1, 1) := by decide +kernel
theorem dX12_find_65 : decode cX12_find 65 = .ok (.iload_n 2, 1) := by decide +kernel
theorem dX12_find_66 : decode cX12_find 66 = .ok (.iload 8, 2) := by decide +kernel
theorem dX12_find_68 : decode cX12_find 68 = .ok (.iadd, 1) := by decide +kernel
theorem dX12_find_69 : decode cX12_find 69 = .ok (.iaload, 1) := by decide +kernel
theorem dX12_find_70 : decode cX12_find 70 = .ok (.if_icmp .ne 7, 3) := by decide +kernel
theorem dX12_find_73 : decode cX12_find 73 = .ok (.iconst 1, 1) := by decide +kernel
theorem dX12_find_74 : decode cX12_find 74 = .ok (.goto 4, 3) := by decide +kernel
theorem dX12_find_77 : decode cX12_find 77 = .ok (.iconst 0, 1) := by decide +kernel
theorem dX12_find_78 : decode cX12_find 78 = .ok (.istore 7, 2) := by decide +kernel
theorem dX12_find_80 : decode cX12_find 80 = .ok (.iinc 8 1, 3) := by decide +kernel
theorem dX12_find_83 : decode cX12_find 83 = .ok (.goto (-39), 3) := by decide +kernel
theorem dX12_find_86 : decode cX12_find 86 = .ok (.iload 7, 2) := by decide +kernel
theorem dX12_find_88 : decode cX12_find 88 = .ok (.ifCond .eq 6, 3) := by decide +kernel
theorem dX12_find_91 : decode cX12_find 91 = .ok (.iload 4, 2) := by decide +kernel
theorem dX12_find_93 : decode cX12_find 93 = .ok (.ireturn, 1) := by decide +kernel
theorem dX12_find_94 : decode cX12_find 94 = .ok (.iinc 4 1, 3) := by decide +kernel
theorem dX12_find_97 : decode cX12_find 97 = .ok (.iload 6, 2) := by decide +kernel
theorem dX12_find_99 : decode cX12_find 99 = .ok (.iconst 1, 1) := by decide +kernel
theorem dX12_find_100 : decode cX12_find 100 = .ok (.iadd, 1) := by decide +kernel
theorem dX12_find_101 : decode cX12_find 101 = .ok (.istore 5, 2) := by decide +kernel
theorem dX12_find_103 : decode cX12_find 103 = .ok (.goto (-97), 3) := by decide +kernel
theorem dX12_find_106 : decode cX12_find 106 = .ok (.iconst (-1), 1) := by decide +kernel
theorem dX12_find_107 : decode cX12_find 107 = .ok (.ireturn, 1) := by decide +kernel
theorem dX12_findTold_0 : decode cX12_findTold 0 = .ok (.iconst 0, 1) := by decide +kernel
theorem dX12_findTold_1 : decode cX12_findTold 1 = .ok (.istore_n 3, 1) := by decide +kernel
theorem dX12_findTold_2 : decode cX12_findTold 2 = .ok (.iload_n 3, 1) := by decide +kernel
theorem dX12_findTold_3 : decode cX12_findTold 3 = .ok (.aload_n 0, 1) := by decide +kernel
theorem dX12_findTold_4 : decode cX12_findTold 4 = .ok (.getfield 92, 3) := by decide +kernel
theorem dX12_findTold_7 : decode cX12_findTold 7 = .ok (.if_icmp .ge 84, 3) := by decide +kernel
theorem dX12_findTold_10 : decode cX12_findTold 10 = .ok (.aload_n 0, 1) := by decide +kernel
theorem dX12_findTold_11 : decode cX12_findTold 11 = .ok (.getfield 95, 3) := by decide +kernel
theorem dX12_findTold_14 : decode cX12_findTold 14 = .ok (.iload_n 3, 1) := by decide +kernel
theorem dX12_findTold_15 : decode cX12_findTold 15 = .ok (.iaload, 1) := by decide +kernel
theorem dX12_findTold_16 : decode cX12_findTold 16 = .ok (.iload_n 2, 1) := by decide +kernel
theorem dX12_findTold_17 : decode cX12_findTold 17 = .ok (.if_icmp .ne 7, 3) := by decide +kernel
theorem dX12_findTold_20 : decode cX12_findTold 20 = .ok (.iconst 1, 1) := by decide +kernel
theorem dX12_findTold_21 : decode cX12_findTold 21 = .ok (.goto 4, 3) := by decide +kernel
theorem dX12_findTold_24 : decode cX12_findTold 24 = .ok (.iconst 0, 1) := by decide +kernel
theorem dX12_findTold_25 : decode cX12_findTold 25 = .ok (.istore 4, 2) := by decide +kernel
theorem dX12_findTold_27 : decode cX12_findTold 27 = .ok (.iconst 0, 1) := by decide +kernel
theorem dX12_findTold_28 : decode cX12_findTold 28 = .ok (.istore 5, 2) := by decide +kernel
theorem dX12_findTold_30 : decode cX12_findTold 30 = .ok (.iload 5, 2) := by decide +kernel
theorem dX12_findTold_32 : decode cX12_findTold 32 = .ok (.iload_n 2, 1) := by decide +kernel
theorem dX12_findTold_33 : decode cX12_findTold 33 = .ok (.if_icmp .ge 45, 3) := by decide +kernel
theorem dX12_findTold_36 : decode cX12_findTold 36 = .ok (.iload 4, 2) := by decide +kernel
end
section
theorem dX12_findTold_38 : decode cX12_findTold 38 = .ok (.ifCond .eq 40, 3) := by decide +kernel
theorem dX12_findTold_41 : decode cX12_findTold 41 = .ok (.aload_n 0, 1) := by decide +kernel
theorem dX12_findTold_42 : decode cX12_findTold 42 = .ok (.getfield 98, 3) := by decide +kernel
theorem dX12_findTold_45 : decode cX12_findTold 45 = .ok (.bipush 7, 2) := by decide +kernel
theorem dX12_findTold_47 : decode cX12_findTold 47 = .ok (.iload_n 3, 1) := by decide +kernel
theorem dX12_findTold_48 : decode cX12_findTold 48 = .ok (.imul, 1) := by decide +kernel
theorem dX12_findTold_49 : decode cX12_findTold 49 = .ok (.iload 5, 2) := by decide +kernel
theorem dX12_findTold_51 : decode cX12_findTold 51 = .ok (.iadd, 1) := by decide +kernel
theorem dX12_findTold_52 : decode cX12_findTold 52 = .ok (.iaload, 1) := by decide +kernel
theorem dX12_findTold_53 : decode cX12_findTold 53 = .ok (.aload_n 0, 1) := by decide +kernel
theorem dX12_findTold_54 : decode cX12_findTold 54 = .ok (.getfield 28, 3) := by decide +kernel
theorem dX12_findTold_57 : decode cX12_findTold 57 = .ok (.iload_n 1, 1) := by decide +kernel
theorem dX12_findTold_58 : decode cX12_findTold 58 = .ok (.iload 5, 2) := by decide +kernel
theorem dX12_findTold_60 : decode cX12_findTold 60 = .ok (.iadd, 1) := by decide +kernel
theorem dX12_findTold_61 : decode cX12_findTold 61 = .ok (.iaload, 1) := by decide +kernel
theorem dX12_findTold_62 : decode cX12_findTold 62 = .ok (.if_icmp .ne 7, 3) := by decide +kernel
theorem dX12_findTold_65 : decode cX12_findTold 65 = .ok (.iconst 1, 1) := by decide +kernel
theorem dX12_findTold_66 : decode cX12_findTold 66 = .ok (.goto 4, 3) := by decide +kernel
theorem dX12_findTold_69 : decode cX12_findTold 69 = .ok (.iconst 0, 1) := by decide +kernel
theorem dX12_findTold_70 : decode cX12_findTold 70 = .ok (.istore 4, 2) := by decide +kernel
theorem dX12_findTold_72 : decode cX12_findTold 72 = .ok (.iinc 5 1, 3) := by decide +kernel
theorem dX12_findTold_75 : decode cX12_findTold 75 = .ok (.goto (-45), 3) := by decide +kernel
theorem dX12_findTold_78 : decode cX12_findTold 78 = .ok (.iload 4, 2) := by decide +kernel
theorem dX12_findTold_80 : decode cX12_findTold 80 = .ok (.ifCond .eq 5, 3) := by decide +kernel
theorem dX12_findTold_83 : decode cX12_findTold 83 = .ok (.iload_n 3, 1) := by decide +kernel
theorem dX12_findTold_84 : decode cX12_findTold 84 = .ok (.ireturn, 1) := by decide +kernel
theorem dX12_findTold_85 : decode cX12_findTold 85 = .ok (.iinc 3 1, 3) := by decide +kernel
theorem dX12_findTold_88 : decode cX12_findTold 88 = .ok (.goto (-86), 3) := by decide +kernel
theorem dX12_findTold_91 : decode cX12_findTold 91 = .ok (.iconst (-1), 1) := by decide +kernel
theorem dX12_findTold_92 : decode cX12_findTold 92 = .ok (.ireturn, 1) := by decide +kernel
theorem dX12_tells_0 : decode cX12_tells 0 = .ok (.ldc 101, 2) := by decide +kernel
theorem dX12_tells_2 : decode cX12_tells 2 = .ok (.aload_n 0, 1) := by decide +kernel
theorem dX12_tells_3 : decode cX12_tells 3 = .ok (.getfield 28, 3) := by decide +kernel
theorem dX12_tells_6 : decode cX12_tells 6 = .ok (.iload_n 1, 1) := by decide +kernel
theorem dX12_tells_7 : decode cX12_tells 7 = .ok (.iload_n 2, 1) := by decide +kernel
theorem dX12_tells_8 : decode cX12_tells 8 = .ok (.invokestatic 103, 3) := by decide +kernel
theorem dX12_tells_11 : decode cX12_tells 11 = .ok (.iconst (-1), 1) := by decide +kernel
theorem dX12_tells_12 : decode cX12_tells 12 = .ok (.if_icmp .ne 18, 3) := by decide +kernel
theorem dX12_tells_15 : decode cX12_tells 15 = .ok (.ldc 107, 2) := by decide +kernel
theorem dX12_tells_17 : decode cX12_tells 17 = .ok (.aload_n 0, 1) := by decide +kernel
theorem dX12_tells_18 : decode cX12_tells 18 = .ok (.getfield 28, 3) := by decide +kernel
theorem dX12_tells_21 : decode cX12_tells 21 = .ok (.iload_n 1, 1) := by decide +kernel
theorem dX12_tells_22 : decode cX12_tells 22 = .ok (.iload_n 2, 1) := by decide +kernel
theorem dX12_tells_23 : decode cX12_tells 23 = .ok (.invokestatic 103, 3) := by decide +kernel
theorem dX12_tells_26 : decode cX12_tells 26 = .ok (.iconst (-1), 1) := by decide +kernel
theorem dX12_tells_27 : decode cX12_tells 27 = .ok (.if_icmp .eq 9, 3) := by decide +kernel
theorem dX12_tells_30 : decode cX12_tells 30 = .ok (.aload_n 0, 1) := by decide +kernel
theorem dX12_tells_31 : decode cX12_tells 31 = .ok (.iconst 5, 1) := by decide +kernel
theorem dX12_tells_32 : decode cX12_tells 32 = .ok (.iload_n 1, 1) := by decide +kernel
theorem dX12_tells_33 : decode cX12_tells 33 = .ok (.invokevirtual 57, 3) := by decide +kernel
theorem dX12_tells_36 : decode cX12_tells 36 = .ok (.aload_n 0, 1) := by decide +kernel
theorem dX12_tells_37 : decode cX12_tells 37 = .ok (.iload_n 1, 1) := by decide +kernel
theorem dX12_tells_38 : decode cX12_tells 38 = .ok (.iload_n 2, 1) := by decide +kernel
theorem dX12_tells_39 : decode cX12_tells 39 = .ok (.invokevirtual 109, 3) := by decide +kernel
theorem dX12_tells_42 : decode cX12_tells 42 = .ok (.istore 5, 2) := by decide +kernel
theorem dX12_tells_44 : decode cX12_tells 44 = .ok (.aload_n 0, 1) := by decide +kernel
theorem dX12_tells_45 : decode cX12_tells 45 = .ok (.getfield 112, 3) := by decide +kernel
theorem dX12_tells_48 : decode cX12_tells 48 = .ok (.ifCond .ne 30, 3) := by decide +kernel
theorem dX12_tells_51 : decode cX12_tells 51 = .ok (.iload 5, 2) := by decide +kernel
theorem dX12_tells_53 : decode cX12_tells 53 = .ok (.iconst (-1), 1) := by decide +kernel
theorem dX12_tells_54 : decode cX12_tells 54 = .ok (.if_icmp .eq 24, 3) := by decide +kernel
theorem dX12_tells_57 : decode cX12_tells 57 = .ok (.iload 4, 2) := by decide +kernel
theorem dX12_tells_59 : decode cX12_tells 59 = .ok (.ifCond .ne 13, 3) := by decide +kernel
theorem dX12_tells_62 : decode cX12_tells 62 = .ok (.aload_n 0, 1) := by decide +kernel
theorem dX12_tells_63 : decode cX12_tells 63 = .ok (.getfield 116, 3) := by decide +kernel
theorem dX12_tells_66 : decode cX12_tells 66 = .ok (.iload 5, 2) := by decide +kernel
theorem dX12_tells_68 : decode cX12_tells 68 = .ok (.baload, 1) := by decide +kernel
theorem dX12_tells_69 : decode cX12_tells 69 = .ok (.ifCond .eq 9, 3) := by decide +kernel
theorem dX12_tells_72 : decode cX12_tells 72 = .ok (.aload_n 0, 1) := by decide +kernel
theorem dX12_tells_73 : decode cX12_tells 73 = .ok (.iconst 4, 1) := by decide +kernel
theorem dX12_tells_74 : decode cX12_tells 74 = .ok (.iload_n 1, 1) := by decide +kernel
theorem dX12_tells_75 : decode cX12_tells 75 = .ok (.invokevirtual 57, 3) := by decide +kernel
theorem dX12_tells_78 : decode cX12_tells 78 = .ok (.iload 5, 2) := by decide +kernel
theorem dX12_tells_80 : decode cX12_tells 80 = .ok (.iconst (-1), 1) := by decide +kernel
theorem dX12_tells_81 : decode cX12_tells 81 = .ok (.if_icmp .ne 20, 3) := by decide +kernel
theorem dX12_tells_84 : decode cX12_tells 84 = .ok (.aload_n 0, 1) := by decide +kernel
theorem dX12_tells_85 : decode cX12_tells 85 = .ok (.getfield 92, 3) := by decide +kernel
theorem dX12_tells_88 : decode cX12_tells 88 = .ok (.sipush 200, 3) := by decide +kernel
theorem dX12_tells_91 : decode cX12_tells 91 = .ok (.if_icmp .ne 10, 3) := by decide +kernel
theorem dX12_tells_94 : decode cX12_tells 94 = .ok (.aload_n 0, 1) := by decide +kernel
theorem dX12_tells_95 : decode cX12_tells 95 = .ok (.bipush 6, 2) := by decide +kernel
theorem dX12_tells_97 : decode cX12_tells 97 = .ok (.iload_n 1, 1) := by decide +kernel
theorem dX12_tells_98 : decode cX12_tells 98 = .ok (.invokevirtual 57, 3) := by decide +kernel
theorem dX12_tells_101 : decode cX12_tells 101 = .ok (.aload_n 0, 1) := by decide +kernel
theorem dX12_tells_102 : decode cX12_tells 102 = .ok (.getfield 19, 3) := by decide +kernel
theorem dX12_tells_105 : decode cX12_tells 105 = .ok (.ifCond .le 4, 3) := by decide +kernel
theorem dX12_tells_108 : decode cX12_tells 108 = .ok (.return_, 1) := by decide +kernel
theorem dX12_tells_109 : decode cX12_tells 109 = .ok (.iload 5, 2) := by decide +kernel
theorem dX12_tells_111 : decode cX12_tells 111 = .ok (.iconst (-1), 1) := by decide +kernel
theorem dX12_tells_112 : decode cX12_tells 112 = .ok (.if_icmp .ne 73, 3) := by decide +kernel
theorem dX12_tells_115 : decode cX12_tells 115 = .ok (.aload_n 0, 1) := by decide +kernel
theorem dX12_tells_116 : decode cX12_tells 116 = .ok (.getfield 92, 3) := by decide +kernel
theorem dX12_tells_119 : decode cX12_tells 119 = .ok (.istore 5, 2) := by decide +kernel
theorem dX12_tells_121 : decode cX12_tells 121 = .ok (.aload_n 0, 1) := by decide +kernel
theorem dX12_tells_122 : decode cX12_tells 122 = .ok (.dup, 1) := by decide +kernel
theorem dX12_tells_123 : decode cX12_tells 123 = .ok (.getfield 92, 3) := by decide +kernel
theorem dX12_tells_126 : decode cX12_tells 126 = .ok (.iconst 1, 1) := by decide +kernel
theorem dX12_tells_127 : decode cX12_tells 127 = .ok (.iadd, 1) := by decide +kernel
theorem dX12_tells_128 : decode cX12_tells 128 = .ok (.putfield 92, 3) := by decide +kernel
theorem dX12_tells_131 : decode cX12_tells 131 = .ok (.aload_n 0, 1) := by decide +kernel
theorem dX12_tells_132 : decode cX12_tells 132 = .ok (.getfield 95, 3) := by decide +kernel
theorem dX12_tells_135 : decode cX12_tells 135 = .ok (.iload 5, 2) := by decide +kernel
theorem dX12_tells_137 : decode cX12_tells 137 = .ok (.iload_n 2, 1) := by decide +kernel
theorem dX12_tells_138 : decode cX12_tells 138 = .ok (.iastore, 1) := by decide +kernel
theorem dX12_tells_139 : decode cX12_tells 139 = .ok (.iconst 0, 1) := by decide +kernel
theorem dX12_tells_140 : decode cX12_tells 140 = .ok (.istore 6, 2) := by decide +kernel
theorem dX12_tells_142 : decode cX12_tells 142 = .ok (.iload 6, 2) := by decide +kernel
theorem dX12_tells_144 : decode cX12_tells 144 = .ok (.iload_n 2, 1) := by decide +kernel
theorem dX12_tells_145 : decode cX12_tells 145 = .ok (.if_icmp .ge 31, 3) := by decide +kernel
theorem dX12_tells_148 : decode cX12_tells 148 = .ok (.aload_n 0, 1) := by decide +kernel
theorem dX12_tells_149 : decode cX12_tells 149 = .ok (.getfield 98, 3) := by decide +kernel
theorem dX12_tells_152 : decode cX12_tells 152 = .ok (.bipush 7, 2) := by decide +kernel
theorem dX12_tells_154 : decode cX12_tells 154 = .ok (.iload 5, 2) := by decide +kernel
theorem dX12_tells_156 : decode cX12_tells 156 = .ok (.imul, 1) := by decide +kernel
theorem dX12_tells_157 : decode cX12_tells 157 = .ok (.iload 6, 2) := by decide +kernel
theorem dX12_tells_159 : decode cX12_tells 159 = .ok (.iadd, 1) := by decide +kernel
theorem dX12_tells_160 : decode cX12_tells 160 = .ok (.aload_n 0, 1) := by decide +kernel
theorem dX12_tells_161 : decode cX12_tells 161 = .ok (.getfield 28, 3) := by decide +kernel
theorem dX12_tells_164 : decode cX12_tells 164 = .ok (.iload_n 1, 1) := by decide +kernel
theorem dX12_tells_165 : decode cX12_tells 165 = .ok (.iload 6, 2) := by decide +kernel
theorem dX12_tells_167 : decode cX12_tells 167 = .ok (.iadd, 1) := by decide +kernel
theorem dX12_tells_168 : decode cX12_tells 168 = .ok (.iaload, 1) := by decide +kernel
theorem dX12_tells_169 : decode cX12_tells 169 = .ok (.iastore, 1) := by decide +kernel
theorem dX12_tells_170 : decode cX12_tells 170 = .ok (.iinc 6 1, 3) := by decide +kernel
theorem dX12_tells_173 : decode cX12_tells 173 = .ok (.goto (-31), 3) := by decide +kernel
theorem dX12_tells_176 : decode cX12_tells 176 = .ok (.aload_n 0, 1) := by decide +kernel
theorem dX12_tells_177 : decode cX12_tells 177 = .ok (.getfield 116, 3) := by decide +kernel
theorem dX12_tells_180 : decode cX12_tells 180 = .ok (.iload 5, 2) := by decide +kernel
theorem dX12_tells_182 : decode cX12_tells 182 = .ok (.iload 4, 2) := by decide +kernel
theorem dX12_tells_184 : decode cX12_tells 184 = .ok (.bastore, 1) := by decide +kernel
theorem dX12_tells_185 : decode cX12_tells 185 = .ok (.iload_n 3, 1) := by decide +kernel
theorem dX12_tells_186 : decode cX12_tells 186 = .ok (.iconst (-1), 1) := by decide +kernel
theorem dX12_tells_187 : decode cX12_tells 187 = .ok (.if_icmp .eq 15, 3) := by decide +kernel
theorem dX12_tells_190 : decode cX12_tells 190 = .ok (.aload_n 0, 1) := by decide +kernel
theorem dX12_tells_191 : decode cX12_tells 191 = .ok (.getfield 120, 3) := by decide +kernel
theorem dX12_tells_194 : decode cX12_tells 194 = .ok (.iload 5, 2) := by decide +kernel
theorem dX12_tells_196 : decode cX12_tells 196 = .ok (.iload_n 3, 1) := by decide +kernel
theorem dX12_tells_197 : decode cX12_tells 197 = .ok (.sipush 4095, 3) := by decide +kernel
theorem dX12_tells_200 : decode cX12_tells 200 = .ok (.iand, 1) := by decide +kernel
theorem dX12_tells_201 : decode cX12_tells 201 = .ok (.iastore, 1) := by decide +kernel
theorem dX12_tells_202 : decode cX12_tells 202 = .ok (.return_, 1) := by decide +kernel
theorem dX12_beginsV_0 : decode cX12_beginsV 0 = .ok (.aload_n 0, 1) := by decide +kernel
theorem dX12_beginsV_1 : decode cX12_beginsV 1 = .ok (.getfield 19, 3) := by decide +kernel
theorem dX12_beginsV_4 : decode cX12_beginsV 4 = .ok (.ifCond .ne 78, 3) := by decide +kernel
theorem dX12_beginsV_7 : decode cX12_beginsV 7 = .ok (.aload_n 0, 1) := by decide +kernel
theorem dX12_beginsV_8 : decode cX12_beginsV 8 = .ok (.getfield 37, 3) := by decide +kernel
theorem dX12_beginsV_11 : decode cX12_beginsV 11 = .ok (.iconst 1, 1) := by decide +kernel
theorem dX12_beginsV_12 : decode cX12_beginsV 12 = .ok (.if_icmp .ne 24, 3) := by decide +kernel
theorem dX12_beginsV_15 : decode cX12_beginsV 15 = .ok (.ldc 107, 2) := by decide +kernel
theorem dX12_beginsV_17 : decode cX12_beginsV 17 = .ok (.aload_n 0, 1) := by decide +kernel
theorem dX12_beginsV_18 : decode cX12_beginsV 18 = .ok (.getfield 28, 3) := by decide +kernel
theorem dX12_beginsV_21 : decode cX12_beginsV 21 = .ok (.aload_n 0, 1) := by decide +kernel
theorem dX12_beginsV_22 : decode cX12_beginsV 22 = .ok (.getfield 34, 3) := by decide +kernel
theorem dX12_beginsV_25 : decode cX12_beginsV 25 = .ok (.aload_n 0, 1) := by decide +kernel
theorem dX12_beginsV_26 : decode cX12_beginsV 26 = .ok (.getfield 54, 3) := by decide +kernel
theorem dX12_beginsV_29 : decode cX12_beginsV 29 = .ok (.invokestatic 103, 3) := by decide +kernel
theorem dX12_beginsV_32 : decode cX12_beginsV 32 = .ok (.iconst (-1), 1) := by decide +kernel
theorem dX12_beginsV_33 : decode cX12_beginsV 33 = .ok (.if_icmp .eq 45, 3) := by decide +kernel
theorem dX12_beginsV_36 : decode cX12_beginsV 36 = .ok (.aload_n 0, 1) := by decide +kernel
theorem dX12_beginsV_37 : decode cX12_beginsV 37 = .ok (.getfield 37, 3) := by decide +kernel
theorem dX12_beginsV_40 : decode cX12_beginsV 40 = .ok (.iconst 2, 1) := by decide +kernel
theorem dX12_beginsV_41 : decode cX12_beginsV 41 = .ok (.if_icmp .eq 37, 3) := by decide +kernel
theorem dX12_beginsV_44 : decode cX12_beginsV 44 = .ok (.aload_n 0, 1) := by decide +kernel
theorem dX12_beginsV_45 : decode cX12_beginsV 45 = .ok (.getfield 37, 3) := by decide +kernel
theorem dX12_beginsV_48 : decode cX12_beginsV 48 = .ok (.iconst 3, 1) := by decide +kernel
theorem dX12_beginsV_49 : decode cX12_beginsV 49 = .ok (.if_icmp .eq 29, 3) := by decide +kernel
theorem dX12_beginsV_52 : decode cX12_beginsV 52 = .ok (.aload_n 0, 1) := by decide +kernel
theorem dX12_beginsV_53 : decode cX12_beginsV 53 = .ok (.getfield 37, 3) := by decide +kernel
theorem dX12_beginsV_56 : decode cX12_beginsV 56 = .ok (.iconst 4, 1) := by decide +kernel
theorem dX12_beginsV_57 : decode cX12_beginsV 57 = .ok (.if_icmp .ne 25, 3) := by decide +kernel
theorem dX12_beginsV_60 : decode cX12_beginsV 60 = .ok (.aload_n 0, 1) := by decide +kernel
theorem dX12_beginsV_61 : decode cX12_beginsV 61 = .ok (.getfield 64, 3) := by decide +kernel
theorem dX12_beginsV_64 : decode cX12_beginsV 64 = .ok (.bipush 45, 2) := by decide +kernel
theorem dX12_beginsV_66 : decode cX12_beginsV 66 = .ok (.if_icmp .eq 12, 3) := by decide +kernel
theorem dX12_beginsV_69 : decode cX12_beginsV 69 = .ok (.aload_n 0, 1) := by decide +kernel
theorem dX12_beginsV_70 : decode cX12_beginsV 70 = .ok (.getfield 64, 3) := by decide +kernel
theorem dX12_beginsV_73 : decode cX12_beginsV 73 = .ok (.bipush 46, 2) := by decide +kernel
theorem dX12_beginsV_75 : decode cX12_beginsV 75 = .ok (.if_icmp .ne 7, 3) := by decide +kernel
theorem dX12_beginsV_78 : decode cX12_beginsV 78 = .ok (.iconst 1, 1) := by decide +kernel
theorem dX12_beginsV_79 : decode cX12_beginsV 79 = .ok (.goto 4, 3) := by decide +kernel
theorem dX12_beginsV_82 : decode cX12_beginsV 82 = .ok (.iconst 0, 1) := by decide +kernel
theorem dX12_beginsV_83 : decode cX12_beginsV 83 = .ok (.ireturn, 1) := by decide +kernel
theorem dX12_part_0 : decode cX12_part 0 = .ok (.aload_n 0, 1) := by decide +kernel
theorem dX12_part_1 : decode cX12_part 1 = .ok (.bipush 45, 2) := by decide +kernel
theorem dX12_part_3 : decode cX12_part 3 = .ok (.invokevirtual 123, 3) := by decide +kernel
theorem dX12_part_6 : decode cX12_part 6 = .ok (.istore_n 1, 1) := by decide +kernel
theorem dX12_part_7 : decode cX12_part 7 = .ok (.iload_n 1, 1) := by decide +kernel
theorem dX12_part_8 : decode cX12_part 8 = .ok (.ifCond .eq 7, 3) := by decide +kernel
theorem dX12_part_11 : decode cX12_part 11 = .ok (.aload_n 0, 1) := by decide +kernel
theorem dX12_part_12 : decode cX12_part 12 = .ok (.invokevirtual 126, 3) := by decide +kernel
theorem dX12_part_15 : decode cX12_part 15 = .ok (.aload_n 0, 1) := by decide +kernel
theorem dX12_part_16 : decode cX12_part 16 = .ok (.getfield 19, 3) := by decide +kernel
theorem dX12_part_19 : decode cX12_part 19 = .ok (.ifCond .le 5, 3) := by decide +kernel
theorem dX12_part_22 : decode cX12_part 22 = .ok (.iconst 0, 1) := by decide +kernel
theorem dX12_part_23 : decode cX12_part 23 = .ok (.ireturn, 1) := by decide +kernel
theorem dX12_part_24 : decode cX12_part 24 = .ok (.aload_n 0, 1) := by decide +kernel
theorem dX12_part_25 : decode cX12_part 25 = .ok (.getfield 37, 3) := by decide +kernel
theorem dX12_part_28 : decode cX12_part 28 = .ok (.iconst 1, 1) := by decide +kernel
theorem dX12_part_29 : decode cX12_part 29 = .ok (.if_icmp .ne 24, 3) := by decide +kernel
theorem dX12_part_32 : decode cX12_part 32 = .ok (.ldc 107, 2) := by decide +kernel
theorem dX12_part_34 : decode cX12_part 34 = .ok (.aload_n 0, 1) := by decide +kernel
theorem dX12_part_35 : decode cX12_part 35 = .ok (.getfield 28, 3) := by decide +kernel
theorem dX12_part_38 : decode cX12_part 38 = .ok (.aload_n 0, 1) := by decide +kernel
theorem dX12_part_39 : decode cX12_part 39 = .ok (.getfield 34, 3) := by decide +kernel
theorem dX12_part_42 : decode cX12_part 42 = .ok (.aload_n 0, 1) := by decide +kernel
theorem dX12_part_43 : decode cX12_part 43 = .ok (.getfield 54, 3) := by decide +kernel
theorem dX12_part_46 : decode cX12_part 46 = .ok (.invokestatic 103, 3) := by decide +kernel
theorem dX12_part_49 : decode cX12_part 49 = .ok (.iconst (-1), 1) := by decide +kernel
theorem dX12_part_50 : decode cX12_part 50 = .ok (.if_icmp .ne 28, 3) := by decide +kernel
theorem dX12_part_53 : decode cX12_part 53 = .ok (.aload_n 0, 1) := by decide +kernel
theorem dX12_part_54 : decode cX12_part 54 = .ok (.getfield 37, 3) := by decide +kernel
theorem dX12_part_57 : decode cX12_part 57 = .ok (.iconst 5, 1) := by decide +kernel
theorem dX12_part_58 : decode cX12_part 58 = .ok (.if_icmp .eq 20, 3) := by decide +kernel
theorem dX12_part_61 : decode cX12_part 61 = .ok (.aload_n 0, 1) := by decide +kernel
theorem dX12_part_62 : decode cX12_part 62 = .ok (.getfield 37, 3) := by decide +kernel
theorem dX12_part_65 : decode cX12_part 65 = .ok (.iconst 4, 1) := by decide +kernel
theorem dX12_part_66 : decode cX12_part 66 = .ok (.if_icmp .ne 23, 3) := by decide +kernel
theorem dX12_part_69 : decode cX12_part 69 = .ok (.aload_n 0, 1) := by decide +kernel
theorem dX12_part_70 : decode cX12_part 70 = .ok (.getfield 64, 3) := by decide +kernel
theorem dX12_part_73 : decode cX12_part 73 = .ok (.bipush 46, 2) := by decide +kernel
theorem dX12_part_75 : decode cX12_part 75 = .ok (.if_icmp .eq 14, 3) := by decide +kernel
theorem dX12_part_78 : decode cX12_part 78 = .ok (.aload_n 0, 1) := by decide +kernel
theorem dX12_part_79 : decode cX12_part 79 = .ok (.iconst 2, 1) := by decide +kernel
theorem dX12_part_80 : decode cX12_part 80 = .ok (.aload_n 0, 1) := by decide +kernel
theorem dX12_part_81 : decode cX12_part 81 = .ok (.getfield 34, 3) := by decide +kernel
theorem dX12_part_84 : decode cX12_part 84 = .ok (.invokevirtual 57, 3) := by decide +kernel
theorem dX12_part_87 : decode cX12_part 87 = .ok (.iconst 0, 1) := by decide +kernel
theorem dX12_part_88 : decode cX12_part 88 = .ok (.ireturn, 1) := by decide +kernel
theorem dX12_part_89 : decode cX12_part 89 = .ok (.aload_n 0, 1) := by decide +kernel
theorem dX12_part_90 : decode cX12_part 90 = .ok (.getfield 37, 3) := by decide +kernel
theorem dX12_part_93 : decode cX12_part 93 = .ok (.iconst 4, 1) := by decide +kernel
theorem dX12_part_94 : decode cX12_part 94 = .ok (.if_icmp .ne 10, 3) := by decide +kernel
theorem dX12_part_97 : decode cX12_part 97 = .ok (.aload_n 0, 1) := by decide +kernel
theorem dX12_part_98 : decode cX12_part 98 = .ok (.getfield 129, 3) := by decide +kernel
theorem dX12_part_101 : decode cX12_part 101 = .ok (.goto 7, 3) := by decide +kernel
theorem dX12_part_104 : decode cX12_part 104 = .ok (.aload_n 0, 1) := by decide +kernel
theorem dX12_part_105 : decode cX12_part 105 = .ok (.getfield 64, 3) := by decide +kernel
theorem dX12_part_108 : decode cX12_part 108 = .ok (.istore_n 2, 1) := by decide +kernel
theorem dX12_part_109 : decode cX12_part 109 = .ok (.aload_n 0, 1) := by decide +kernel
theorem dX12_part_110 : decode cX12_part 110 = .ok (.iconst (-1), 1) := by decide +kernel
theorem dX12_part_111 : decode cX12_part 111 = .ok (.putfield 132, 3) := by decide +kernel
theorem dX12_part_114 : decode cX12_part 114 = .ok (.aload_n 0, 1) := by decide +kernel
theorem dX12_part_115 : decode cX12_part 115 = .ok (.getfield 37, 3) := by decide +kernel
theorem dX12_part_118 : decode cX12_part 118 = .ok (.iconst 1, 1) := by decide +kernel
theorem dX12_part_119 : decode cX12_part 119 = .ok (.if_icmp .ne 8, 3) := by decide +kernel
theorem dX12_part_122 : decode cX12_part 122 = .ok (.aload_n 0, 1) := by decide +kernel
theorem dX12_part_123 : decode cX12_part 123 = .ok (.invokevirtual 135, 3) := by decide +kernel
theorem dX12_part_126 : decode cX12_part 126 = .ok (.istore_n 2, 1) := by decide +kernel
theorem dX12_part_127 : decode cX12_part 127 = .ok (.aload_n 0, 1) := by decide +kernel
theorem dX12_part_128 : decode cX12_part 128 = .ok (.invokevirtual 126, 3) := by decide +kernel
theorem dX12_part_131 : decode cX12_part 131 = .ok (.iload_n 1, 1) := by decide +kernel
theorem dX12_part_132 : decode cX12_part 132 = .ok (.ifCond .eq 8, 3) := by decide +kernel
theorem dX12_part_135 : decode cX12_part 135 = .ok (.aload_n 0, 1) := by decide +kernel
theorem dX12_part_136 : decode cX12_part 136 = .ok (.iconst (-1), 1) := by decide +kernel
theorem dX12_part_137 : decode cX12_part 137 = .ok (.putfield 132, 3) := by decide +kernel
theorem dX12_part_140 : decode cX12_part 140 = .ok (.iload_n 1, 1) := by decide +kernel
theorem dX12_part_141 : decode cX12_part 141 = .ok (.ifCond .eq 8, 3) := by decide +kernel
theorem dX12_part_144 : decode cX12_part 144 = .ok (.iload_n 2, 1) := by decide +kernel
theorem dX12_part_145 : decode cX12_part 145 = .ok (.ineg, 1) := by decide +kernel
theorem dX12_part_146 : decode cX12_part 146 = .ok (.goto 4, 3) := by decide +kernel
theorem dX12_part_149 : decode cX12_part 149 = .ok (.iload_n 2, 1) := by decide +kernel
theorem dX12_part_150 : decode cX12_part 150 = .ok (.sipush 4095, 3) := by decide +kernel
theorem dX12_part_153 : decode cX12_part 153 = .ok (.iand, 1) := by decide +kernel
theorem dX12_part_154 : decode cX12_part 154 = .ok (.ireturn, 1) := by decide +kernel
theorem dX12_named_0 : decode cX12_named 0 = .ok (.ldc 101, 2) := by decide +kernel
theorem dX12_named_2 : decode cX12_named 2 = .ok (.aload_n 0, 1) := by decide +kernel
theorem dX12_named_3 : decode cX12_named 3 = .ok (.getfield 28, 3) := by decide +kernel
theorem dX12_named_6 : decode cX12_named 6 = .ok (.aload_n 0, 1) := by decide +kernel
theorem dX12_named_7 : decode cX12_named 7 = .ok (.getfield 34, 3) := by decide +kernel
theorem dX12_named_10 : decode cX12_named 10 = .ok (.aload_n 0, 1) := by decide +kernel
theorem dX12_named_11 : decode cX12_named 11 = .ok (.getfield 54, 3) := by decide +kernel
theorem dX12_named_14 : decode cX12_named 14 = .ok (.invokestatic 103, 3) := by decide +kernel
theorem dX12_named_17 : decode cX12_named 17 = .ok (.istore_n 1, 1) := by decide +kernel
theorem dX12_named_18 : decode cX12_named 18 = .ok (.aload_n 0, 1) := by decide +kernel
theorem dX12_named_19 : decode cX12_named 19 = .ok (.iload_n 1, 1) := by decide +kernel
theorem dX12_named_20 : decode cX12_named 20 = .ok (.putfield 132, 3) := by decide +kernel
theorem dX12_named_23 : decode cX12_named 23 = .ok (.iload_n 1, 1) := by decide +kernel
theorem dX12_named_24 : decode cX12_named 24 = .ok (.iconst (-1), 1) := by decide +kernel
theorem dX12_named_25 : decode cX12_named 25 = .ok (.if_icmp .eq 9, 3) := by decide +kernel
theorem dX12_named_28 : decode cX12_named 28 = .ok (.getstatic 138, 3) := by decide +kernel
theorem dX12_named_31 : decode cX12_named 31 = .ok (.iload_n 1, 1) := by decide +kernel
theorem dX12_named_32 : decode cX12_named 32 = .ok (.iaload, 1) := by decide +kernel
theorem dX12_named_33 : decode cX12_named 33 = .ok (.ireturn, 1) := by decide +kernel
theorem dX12_named_34 : decode cX12_named 34 = .ok (.aload_n 0, 1) := by decide +kernel
theorem dX12_named_35 : decode cX12_named 35 = .ok (.aload_n 0, 1) := by decide +kernel
theorem dX12_named_36 : decode cX12_named 36 = .ok (.getfield 34, 3) := by decide +kernel
theorem dX12_named_39 : decode cX12_named 39 = .ok (.aload_n 0, 1) := by decide +kernel
theorem dX12_named_40 : decode cX12_named 40 = .ok (.getfield 54, 3) := by decide +kernel
theorem dX12_named_43 : decode cX12_named 43 = .ok (.invokevirtual 109, 3) := by decide +kernel
theorem dX12_named_46 : decode cX12_named 46 = .ok (.istore_n 2, 1) := by decide +kernel
theorem dX12_named_47 : decode cX12_named 47 = .ok (.iload_n 2, 1) := by decide +kernel
theorem dX12_named_48 : decode cX12_named 48 = .ok (.iconst (-1), 1) := by decide +kernel
theorem dX12_named_49 : decode cX12_named 49 = .ok (.if_icmp .ne 26, 3) := by decide +kernel
theorem dX12_named_52 : decode cX12_named 52 = .ok (.aload_n 0, 1) := by decide +kernel
theorem dX12_named_53 : decode cX12_named 53 = .ok (.getfield 141, 3) := by decide +kernel
theorem dX12_named_56 : decode cX12_named 56 = .ok (.ifCond .ne 10, 3) := by decide +kernel
theorem dX12_named_59 : decode cX12_named 59 = .ok (.aload_n 0, 1) := by decide +kernel
theorem dX12_named_60 : decode cX12_named 60 = .ok (.getfield 112, 3) := by decide +kernel
theorem dX12_named_63 : decode cX12_named 63 = .ok (.ifCond .eq 12, 3) := by decide +kernel
theorem dX12_named_66 : decode cX12_named 66 = .ok (.aload_n 0, 1) := by decide +kernel
theorem dX12_named_67 : decode cX12_named 67 = .ok (.iconst 3, 1) := by decide +kernel
theorem dX12_named_68 : decode cX12_named 68 = .ok (.aload_n 0, 1) := by decide +kernel
theorem dX12_named_69 : decode cX12_named 69 = .ok (.getfield 34, 3) := by decide +kernel
theorem dX12_named_72 : decode cX12_named 72 = .ok (.invokevirtual 57, 3) := by decide +kernel
theorem dX12_named_75 : decode cX12_named 75 = .ok (.iload_n 2, 1) := by decide +kernel
theorem dX12_named_76 : decode cX12_named 76 = .ok (.iconst (-1), 1) := by decide +kernel
theorem dX12_named_77 : decode cX12_named 77 = .ok (.if_icmp .ne 7, 3) := by decide +kernel
theorem dX12_named_80 : decode cX12_named 80 = .ok (.iconst 0, 1) := by decide +kernel
theorem dX12_named_81 : decode cX12_named 81 = .ok (.goto 9, 3) := by decide +kernel
theorem dX12_named_84 : decode cX12_named 84 = .ok (.aload_n 0, 1) := by decide +kernel
theorem dX12_named_85 : decode cX12_named 85 = .ok (.getfield 120, 3) := by decide +kernel
theorem dX12_named_88 : decode cX12_named 88 = .ok (.iload_n 2, 1) := by decide +kernel
theorem dX12_named_89 : decode cX12_named 89 = .ok (.iaload, 1) := by decide +kernel
theorem dX12_named_90 : decode cX12_named 90 = .ok (.ireturn, 1) := by decide +kernel
theorem dX12_all_0 : decode cX12_all 0 = .ok (.aload_n 0, 1) := by decide +kernel
theorem dX12_all_1 : decode cX12_all 1 = .ok (.invokevirtual 144, 3) := by decide +kernel
theorem dX12_all_4 : decode cX12_all 4 = .ok (.istore_n 1, 1) := by decide +kernel
theorem dX12_all_5 : decode cX12_all 5 = .ok (.aload_n 0, 1) := by decide +kernel
theorem dX12_all_6 : decode cX12_all 6 = .ok (.getfield 132, 3) := by decide +kernel
theorem dX12_all_9 : decode cX12_all 9 = .ok (.istore_n 2, 1) := by decide +kernel
theorem dX12_all_10 : decode cX12_all 10 = .ok (.aload_n 0, 1) := by decide +kernel
theorem dX12_all_11 : decode cX12_all 11 = .ok (.bipush 43, 2) := by decide +kernel
theorem dX12_all_13 : decode cX12_all 13 = .ok (.invokevirtual 123, 3) := by decide +kernel
theorem dX12_all_16 : decode cX12_all 16 = .ok (.ifCond .ne 30, 3) := by decide +kernel
theorem dX12_all_19 : decode cX12_all 19 = .ok (.aload_n 0, 1) := by decide +kernel
theorem dX12_all_20 : decode cX12_all 20 = .ok (.bipush 45, 2) := by decide +kernel
theorem dX12_all_22 : decode cX12_all 22 = .ok (.invokevirtual 123, 3) := by decide +kernel
theorem dX12_all_25 : decode cX12_all 25 = .ok (.ifCond .ne 21, 3) := by decide +kernel
theorem dX12_all_28 : decode cX12_all 28 = .ok (.aload_n 0, 1) := by decide +kernel
theorem dX12_all_29 : decode cX12_all 29 = .ok (.bipush 33, 2) := by decide +kernel
theorem dX12_all_31 : decode cX12_all 31 = .ok (.invokevirtual 123, 3) := by decide +kernel
theorem dX12_all_34 : decode cX12_all 34 = .ok (.ifCond .ne 12, 3) := by decide +kernel
theorem dX12_all_37 : decode cX12_all 37 = .ok (.aload_n 0, 1) := by decide +kernel
theorem dX12_all_38 : decode cX12_all 38 = .ok (.bipush 38, 2) := by decide +kernel
theorem dX12_all_40 : decode cX12_all 40 = .ok (.invokevirtual 123, 3) := by decide +kernel
theorem dX12_all_43 : decode cX12_all 43 = .ok (.ifCond .eq 71, 3) := by decide +kernel
theorem dX12_all_46 : decode cX12_all 46 = .ok (.aload_n 0, 1) := by decide +kernel
theorem dX12_all_47 : decode cX12_all 47 = .ok (.getfield 64, 3) := by decide +kernel
theorem dX12_all_50 : decode cX12_all 50 = .ok (.istore_n 3, 1) := by decide +kernel
theorem dX12_all_51 : decode cX12_all 51 = .ok (.aload_n 0, 1) := by decide +kernel
theorem dX12_all_52 : decode cX12_all 52 = .ok (.invokevirtual 126, 3) := by decide +kernel
theorem dX12_all_55 : decode cX12_all 55 = .ok (.aload_n 0, 1) := by decide +kernel
theorem dX12_all_56 : decode cX12_all 56 = .ok (.invokevirtual 144, 3) := by decide +kernel
theorem dX12_all_59 : decode cX12_all 59 = .ok (.istore 4, 2) := by decide +kernel
theorem dX12_all_61 : decode cX12_all 61 = .ok (.iconst (-1), 1) := by decide +kernel
theorem dX12_all_62 : decode cX12_all 62 = .ok (.istore_n 2, 1) := by decide +kernel
theorem dX12_all_63 : decode cX12_all 63 = .ok (.iload_n 3, 1) := by decide +kernel
theorem dX12_all_64 : decode cX12_all 64 = .ok (.bipush 43, 2) := by decide +kernel
theorem dX12_all_66 : decode cX12_all 66 = .ok (.if_icmp .ne 10, 3) := by decide +kernel
theorem dX12_all_69 : decode cX12_all 69 = .ok (.iload_n 1, 1) := by decide +kernel
theorem dX12_all_70 : decode cX12_all 70 = .ok (.iload 4, 2) := by decide +kernel
theorem dX12_all_72 : decode cX12_all 72 = .ok (.iadd, 1) := by decide +kernel
theorem dX12_all_73 : decode cX12_all 73 = .ok (.goto 33, 3) := by decide +kernel
theorem dX12_all_76 : decode cX12_all 76 = .ok (.iload_n 3, 1) := by decide +kernel
theorem dX12_all_77 : decode cX12_all 77 = .ok (.bipush 45, 2) := by decide +kernel
theorem dX12_all_79 : decode cX12_all 79 = .ok (.if_icmp .ne 10, 3) := by decide +kernel
theorem dX12_all_82 : decode cX12_all 82 = .ok (.iload_n 1, 1) := by decide +kernel
theorem dX12_all_83 : decode cX12_all 83 = .ok (.iload 4, 2) := by decide +kernel
theorem dX12_all_85 : decode cX12_all 85 = .ok (.isub, 1) := by decide +kernel
theorem dX12_all_86 : decode cX12_all 86 = .ok (.goto 20, 3) := by decide +kernel
theorem dX12_all_89 : decode cX12_all 89 = .ok (.iload_n 3, 1) := by decide +kernel
theorem dX12_all_90 : decode cX12_all 90 = .ok (.bipush 33, 2) := by decide +kernel
theorem dX12_all_92 : decode cX12_all 92 = .ok (.if_icmp .ne 10, 3) := by decide +kernel
theorem dX12_all_95 : decode cX12_all 95 = .ok (.iload_n 1, 1) := by decide +kernel
theorem dX12_all_96 : decode cX12_all 96 = .ok (.iload 4, 2) := by decide +kernel
theorem dX12_all_98 : decode cX12_all 98 = .ok (.ior, 1) := by decide +kernel
theorem dX12_all_99 : decode cX12_all 99 = .ok (.goto 7, 3) := by decide +kernel
theorem dX12_all_102 : decode cX12_all 102 = .ok (.iload_n 1, 1) := by decide +kernel
theorem dX12_all_103 : decode cX12_all 103 = .ok (.iload 4, 2) := by decide +kernel
theorem dX12_all_105 : decode cX12_all 105 = .ok (.iand, 1) := by decide +kernel
theorem dX12_all_106 : decode cX12_all 106 = .ok (.sipush 4095, 3) := by decide +kernel
theorem dX12_all_109 : decode cX12_all 109 = .ok (.iand, 1) := by decide +kernel
theorem dX12_all_110 : decode cX12_all 110 = .ok (.istore_n 1, 1) := by decide +kernel
theorem dX12_all_111 : decode cX12_all 111 = .ok (.goto (-101), 3) := by decide +kernel
theorem dX12_all_114 : decode cX12_all 114 = .ok (.aload_n 0, 1) := by decide +kernel
theorem dX12_all_115 : decode cX12_all 115 = .ok (.iload_n 2, 1) := by decide +kernel
theorem dX12_all_116 : decode cX12_all 116 = .ok (.putfield 132, 3) := by decide +kernel
theorem dX12_all_119 : decode cX12_all 119 = .ok (.iload_n 1, 1) := by decide +kernel
theorem dX12_all_120 : decode cX12_all 120 = .ok (.ireturn, 1) := by decide +kernel
theorem dX12_pass_0 : decode cX12_pass 0 = .ok (.aload_n 0, 1) := by decide +kernel
theorem dX12_pass_1 : decode cX12_pass 1 = .ok (.iload_n 1, 1) := by decide +kernel
theorem dX12_pass_2 : decode cX12_pass 2 = .ok (.putfield 112, 3) := by decide +kernel
theorem dX12_pass_5 : decode cX12_pass 5 = .ok (.aload_n 0, 1) := by decide +kernel
theorem dX12_pass_6 : decode cX12_pass 6 = .ok (.bipush 8, 2) := by decide +kernel
theorem dX12_pass_8 : decode cX12_pass 8 = .ok (.putfield 74, 3) := by decide +kernel
theorem dX12_pass_11 : decode cX12_pass 11 = .ok (.aload_n 0, 1) := by decide +kernel
theorem dX12_pass_12 : decode cX12_pass 12 = .ok (.sipush 128, 3) := by decide +kernel
theorem dX12_pass_15 : decode cX12_pass 15 = .ok (.putfield 129, 3) := by decide +kernel
theorem dX12_pass_18 : decode cX12_pass 18 = .ok (.aload_n 0, 1) := by decide +kernel
theorem dX12_pass_19 : decode cX12_pass 19 = .ok (.iconst 0, 1) := by decide +kernel
theorem dX12_pass_20 : decode cX12_pass 20 = .ok (.putfield 147, 3) := by decide +kernel
theorem dX12_pass_23 : decode cX12_pass 23 = .ok (.aload_n 0, 1) := by decide +kernel
theorem dX12_pass_24 : decode cX12_pass 24 = .ok (.iconst 0, 1) := by decide +kernel
theorem dX12_pass_25 : decode cX12_pass 25 = .ok (.putfield 31, 3) := by decide +kernel
theorem dX12_pass_28 : decode cX12_pass 28 = .ok (.aload_n 0, 1) := by decide +kernel
theorem dX12_pass_29 : decode cX12_pass 29 = .ok (.getfield 19, 3) := by decide +kernel
theorem dX12_pass_32 : decode cX12_pass 32 = .ok (.ifCond .ne 38, 3) := by decide +kernel
theorem dX12_pass_35 : decode cX12_pass 35 = .ok (.aload_n 0, 1) := by decide +kernel
theorem dX12_pass_36 : decode cX12_pass 36 = .ok (.getfield 147, 3) := by decide +kernel
theorem dX12_pass_39 : decode cX12_pass 39 = .ok (.ifCond .ne 31, 3) := by decide +kernel
theorem dX12_pass_42 : decode cX12_pass 42 = .ok (.aload_n 0, 1) := by decide +kernel
theorem dX12_pass_43 : decode cX12_pass 43 = .ok (.getfield 31, 3) := by decide +kernel
theorem dX12_pass_46 : decode cX12_pass 46 = .ok (.aload_n 0, 1) := by decide +kernel
theorem dX12_pass_47 : decode cX12_pass 47 = .ok (.getfield 25, 3) := by decide +kernel
theorem dX12_pass_50 : decode cX12_pass 50 = .ok (.if_icmp .gt 20, 3) := by decide +kernel
theorem dX12_pass_53 : decode cX12_pass 53 = .ok (.aload_n 0, 1) := by decide +kernel
theorem dX12_pass_54 : decode cX12_pass 54 = .ok (.invokevirtual 150, 3) := by decide +kernel
theorem dX12_pass_57 : decode cX12_pass 57 = .ok (.aload_n 0, 1) := by decide +kernel
theorem dX12_pass_58 : decode cX12_pass 58 = .ok (.dup, 1) := by decide +kernel
theorem dX12_pass_59 : decode cX12_pass 59 = .ok (.getfield 31, 3) := by decide +kernel
theorem dX12_pass_62 : decode cX12_pass 62 = .ok (.iconst 1, 1) := by decide +kernel
theorem dX12_pass_63 : decode cX12_pass 63 = .ok (.iadd, 1) := by decide +kernel
theorem dX12_pass_64 : decode cX12_pass 64 = .ok (.putfield 31, 3) := by decide +kernel
theorem dX12_pass_67 : decode cX12_pass 67 = .ok (.goto (-39), 3) := by decide +kernel
theorem dX12_pass_70 : decode cX12_pass 70 = .ok (.return_, 1) := by decide +kernel
theorem dX12_line_0 : decode cX12_line 0 = .ok (.aload_n 0, 1) := by decide +kernel
theorem dX12_line_1 : decode cX12_line 1 = .ok (.invokevirtual 77, 3) := by decide +kernel
theorem dX12_line_4 : decode cX12_line 4 = .ok (.iconst 1, 1) := by decide +kernel
theorem dX12_line_5 : decode cX12_line 5 = .ok (.istore_n 1, 1) := by decide +kernel
theorem dX12_line_6 : decode cX12_line 6 = .ok (.iload_n 1, 1) := by decide +kernel
theorem dX12_line_7 : decode cX12_line 7 = .ok (.ifCond .eq 84, 3) := by decide +kernel
theorem dX12_line_10 : decode cX12_line 10 = .ok (.aload_n 0, 1) := by decide +kernel
theorem dX12_line_11 : decode cX12_line 11 = .ok (.getfield 19, 3) := by decide +kernel
theorem dX12_line_14 : decode cX12_line 14 = .ok (.ifCond .ne 77, 3) := by decide +kernel
theorem dX12_line_17 : decode cX12_line 17 = .ok (.aload_n 0, 1) := by decide +kernel
theorem dX12_line_18 : decode cX12_line 18 = .ok (.getfield 147, 3) := by decide +kernel
theorem dX12_line_21 : decode cX12_line 21 = .ok (.ifCond .ne 70, 3) := by decide +kernel
theorem dX12_line_24 : decode cX12_line 24 = .ok (.aload_n 0, 1) := by decide +kernel
theorem dX12_line_25 : decode cX12_line 25 = .ok (.invokevirtual 153, 3) := by decide +kernel
theorem dX12_line_28 : decode cX12_line 28 = .ok (.aload_n 0, 1) := by decide +kernel
theorem dX12_line_29 : decode cX12_line 29 = .ok (.getfield 19, 3) := by decide +kernel
theorem dX12_line_32 : decode cX12_line 32 = .ok (.ifCond .ne 7, 3) := by decide +kernel
theorem dX12_line_35 : decode cX12_line 35 = .ok (.aload_n 0, 1) := by decide +kernel
theorem dX12_line_36 : decode cX12_line 36 = .ok (.invokevirtual 156, 3) := by decide +kernel
theorem dX12_line_39 : decode cX12_line 39 = .ok (.aload_n 0, 1) := by decide +kernel
theorem dX12_line_40 : decode cX12_line 40 = .ok (.bipush 59, 2) := by decide +kernel
theorem dX12_line_42 : decode cX12_line 42 = .ok (.invokevirtual 123, 3) := by decide +kernel
theorem dX12_line_45 : decode cX12_line 45 = .ok (.istore_n 1, 1) := by decide +kernel
theorem dX12_line_46 : decode cX12_line 46 = .ok (.iload_n 1, 1) := by decide +kernel
theorem dX12_line_47 : decode cX12_line 47 = .ok (.ifCond .eq 10, 3) := by decide +kernel
theorem dX12_line_50 : decode cX12_line 50 = .ok (.aload_n 0, 1) := by decide +kernel
theorem dX12_line_51 : decode cX12_line 51 = .ok (.invokevirtual 126, 3) := by decide +kernel
theorem dX12_line_54 : decode cX12_line 54 = .ok (.goto (-48), 3) := by decide +kernel
theorem dX12_line_57 : decode cX12_line 57 = .ok (.aload_n 0, 1) := by decide +kernel
theorem dX12_line_58 : decode cX12_line 58 = .ok (.getfield 19, 3) := by decide +kernel
theorem dX12_line_61 : decode cX12_line 61 = .ok (.ifCond .ne (-55), 3) := by decide +kernel
theorem dX12_line_64 : decode cX12_line 64 = .ok (.aload_n 0, 1) := by decide +kernel
theorem dX12_line_65 : decode cX12_line 65 = .ok (.getfield 147, 3) := by decide +kernel
theorem dX12_line_68 : decode cX12_line 68 = .ok (.ifCond .ne (-62), 3) := by decide +kernel
theorem dX12_line_71 : decode cX12_line 71 = .ok (.aload_n 0, 1) := by decide +kernel
theorem dX12_line_72 : decode cX12_line 72 = .ok (.getfield 37, 3) := by decide +kernel
theorem dX12_line_75 : decode cX12_line 75 = .ok (.iconst 5, 1) := by decide +kernel
theorem dX12_line_76 : decode cX12_line 76 = .ok (.if_icmp .eq (-70), 3) := by decide +kernel
theorem dX12_line_79 : decode cX12_line 79 = .ok (.aload_n 0, 1) := by decide +kernel
theorem dX12_line_80 : decode cX12_line 80 = .ok (.iconst 2, 1) := by decide +kernel
theorem dX12_line_81 : decode cX12_line 81 = .ok (.aload_n 0, 1) := by decide +kernel
theorem dX12_line_82 : decode cX12_line 82 = .ok (.getfield 34, 3) := by decide +kernel
theorem dX12_line_85 : decode cX12_line 85 = .ok (.invokevirtual 57, 3) := by decide +kernel
theorem dX12_line_88 : decode cX12_line 88 = .ok (.goto (-82), 3) := by decide +kernel
theorem dX12_line_91 : decode cX12_line 91 = .ok (.aload_n 0, 1) := by decide +kernel
theorem dX12_line_92 : decode cX12_line 92 = .ok (.getfield 19, 3) := by decide +kernel
theorem dX12_line_95 : decode cX12_line 95 = .ok (.ifCond .ne 18, 3) := by decide +kernel
theorem dX12_line_98 : decode cX12_line 98 = .ok (.aload_n 0, 1) := by decide +kernel
theorem dX12_line_99 : decode cX12_line 99 = .ok (.getfield 147, 3) := by decide +kernel
theorem dX12_line_102 : decode cX12_line 102 = .ok (.ifCond .ne 11, 3) := by decide +kernel
theorem dX12_line_105 : decode cX12_line 105 = .ok (.aload_n 0, 1) := by decide +kernel
theorem dX12_line_106 : decode cX12_line 106 = .ok (.aload_n 0, 1) := by decide +kernel
theorem dX12_line_107 : decode cX12_line 107 = .ok (.getfield 40, 3) := by decide +kernel
theorem dX12_line_110 : decode cX12_line 110 = .ok (.putfield 31, 3) := by decide +kernel
theorem dX12_line_113 : decode cX12_line 113 = .ok (.return_, 1) := by decide +kernel
theorem dX12_isNext_0 : decode cX12_isNext 0 = .ok (.aload_n 0, 1) := by decide +kernel
theorem dX12_isNext_1 : decode cX12_isNext 1 = .ok (.getfield 40, 3) := by decide +kernel
theorem dX12_isNext_4 : decode cX12_isNext 4 = .ok (.istore_n 2, 1) := by decide +kernel
theorem dX12_isNext_5 : decode cX12_isNext 5 = .ok (.iload_n 2, 1) := by decide +kernel
theorem dX12_isNext_6 : decode cX12_isNext 6 = .ok (.aload_n 0, 1) := by decide +kernel
theorem dX12_isNext_7 : decode cX12_isNext 7 = .ok (.getfield 25, 3) := by decide +kernel
theorem dX12_isNext_10 : decode cX12_isNext 10 = .ok (.if_icmp .ge 20, 3) := by decide +kernel
theorem dX12_isNext_13 : decode cX12_isNext 13 = .ok (.aload_n 0, 1) := by decide +kernel
theorem dX12_isNext_14 : decode cX12_isNext 14 = .ok (.getfield 28, 3) := by decide +kernel
theorem dX12_isNext_17 : decode cX12_isNext 17 = .ok (.iload_n 2, 1) := by decide +kernel
theorem dX12_isNext_18 : decode cX12_isNext 18 = .ok (.iaload, 1) := by decide +kernel
theorem dX12_isNext_19 : decode cX12_isNext 19 = .ok (.bipush 32, 2) := by decide +kernel
theorem dX12_isNext_21 : decode cX12_isNext 21 = .ok (.if_icmp .ne 9, 3) := by decide +kernel
theorem dX12_isNext_24 : decode cX12_isNext 24 = .ok (.iinc 2 1, 3) := by decide +kernel
theorem dX12_isNext_27 : decode cX12_isNext 27 = .ok (.goto (-22), 3) := by decide +kernel
theorem dX12_isNext_30 : decode cX12_isNext 30 = .ok (.iload_n 2, 1) := by decide +kernel
theorem dX12_isNext_31 : decode cX12_isNext 31 = .ok (.aload_n 0, 1) := by decide +kernel
theorem dX12_isNext_32 : decode cX12_isNext 32 = .ok (.getfield 25, 3) := by decide +kernel
theorem dX12_isNext_35 : decode cX12_isNext 35 = .ok (.if_icmp .ge 17, 3) := by decide +kernel
theorem dX12_isNext_38 : decode cX12_isNext 38 = .ok (.aload_n 0, 1) := by decide +kernel
theorem dX12_isNext_39 : decode cX12_isNext 39 = .ok (.getfield 28, 3) := by decide +kernel
theorem dX12_isNext_42 : decode cX12_isNext 42 = .ok (.iload_n 2, 1) := by decide +kernel
theorem dX12_isNext_43 : decode cX12_isNext 43 = .ok (.iaload, 1) := by decide +kernel
theorem dX12_isNext_44 : decode cX12_isNext 44 = .ok (.iload_n 1, 1) := by decide +kernel
theorem dX12_isNext_45 : decode cX12_isNext 45 = .ok (.if_icmp .ne 7, 3) := by decide +kernel
theorem dX12_isNext_48 : decode cX12_isNext 48 = .ok (.iconst 1, 1) := by decide +kernel
theorem dX12_isNext_49 : decode cX12_isNext 49 = .ok (.goto 4, 3) := by decide +kernel
theorem dX12_isNext_52 : decode cX12_isNext 52 = .ok (.iconst 0, 1) := by decide +kernel
theorem dX12_isNext_53 : decode cX12_isNext 53 = .ok (.ireturn, 1) := by decide +kernel
theorem dX12_labels_0 : decode cX12_labels 0 = .ok (.aload_n 0, 1) := by decide +kernel
theorem dX12_labels_1 : decode cX12_labels 1 = .ok (.getfield 19, 3) := by decide +kernel
theorem dX12_labels_4 : decode cX12_labels 4 = .ok (.ifCond .ne 59, 3) := by decide +kernel
theorem dX12_labels_7 : decode cX12_labels 7 = .ok (.aload_n 0, 1) := by decide +kernel
theorem dX12_labels_8 : decode cX12_labels 8 = .ok (.getfield 37, 3) := by decide +kernel
theorem dX12_labels_11 : decode cX12_labels 11 = .ok (.iconst 1, 1) := by decide +kernel
theorem dX12_labels_12 : decode cX12_labels 12 = .ok (.if_icmp .ne 51, 3) := by decide +kernel
theorem dX12_labels_15 : decode cX12_labels 15 = .ok (.aload_n 0, 1) := by decide +kernel
theorem dX12_labels_16 : decode cX12_labels 16 = .ok (.bipush 44, 2) := by decide +kernel
theorem dX12_labels_18 : decode cX12_labels 18 = .ok (.invokevirtual 159, 3) := by decide +kernel
theorem dX12_labels_21 : decode cX12_labels 21 = .ok (.ifCond .eq 42, 3) := by decide +kernel
theorem dX12_labels_24 : decode cX12_labels 24 = .ok (.aload_n 0, 1) := by decide +kernel
theorem dX12_labels_25 : decode cX12_labels 25 = .ok (.getfield 34, 3) := by decide +kernel
theorem dX12_labels_28 : decode cX12_labels 28 = .ok (.istore_n 1, 1) := by decide +kernel
theorem dX12_labels_29 : decode cX12_labels 29 = .ok (.aload_n 0, 1) := by decide +kernel
theorem dX12_labels_30 : decode cX12_labels 30 = .ok (.getfield 54, 3) := by decide +kernel
theorem dX12_labels_33 : decode cX12_labels 33 = .ok (.istore_n 2, 1) := by decide +kernel
theorem dX12_labels_34 : decode cX12_labels 34 = .ok (.aload_n 0, 1) := by decide +kernel
theorem dX12_labels_35 : decode cX12_labels 35 = .ok (.invokevirtual 126, 3) := by decide +kernel
theorem dX12_labels_38 : decode cX12_labels 38 = .ok (.aload_n 0, 1) := by decide +kernel
theorem dX12_labels_39 : decode cX12_labels 39 = .ok (.iload_n 1, 1) := by decide +kernel
theorem dX12_labels_40 : decode cX12_labels 40 = .ok (.iload_n 2, 1) := by decide +kernel
theorem dX12_labels_41 : decode cX12_labels 41 = .ok (.aload_n 0, 1) := by decide +kernel
theorem dX12_labels_42 : decode cX12_labels 42 = .ok (.getfield 129, 3) := by decide +kernel
theorem dX12_labels_45 : decode cX12_labels 45 = .ok (.iconst 1, 1) := by decide +kernel
theorem dX12_labels_46 : decode cX12_labels 46 = .ok (.invokevirtual 162, 3) := by decide +kernel
theorem dX12_labels_49 : decode cX12_labels 49 = .ok (.aload_n 0, 1) := by decide +kernel
theorem dX12_labels_50 : decode cX12_labels 50 = .ok (.getfield 19, 3) := by decide +kernel
theorem dX12_labels_53 : decode cX12_labels 53 = .ok (.ifCond .ne 7, 3) := by decide +kernel
theorem dX12_labels_56 : decode cX12_labels 56 = .ok (.aload_n 0, 1) := by decide +kernel
theorem dX12_labels_57 : decode cX12_labels 57 = .ok (.invokevirtual 126, 3) := by decide +kernel
theorem dX12_labels_60 : decode cX12_labels 60 = .ok (.goto (-60), 3) := by decide +kernel
theorem dX12_labels_63 : decode cX12_labels 63 = .ok (.aload_n 0, 1) := by decide +kernel
theorem dX12_labels_64 : decode cX12_labels 64 = .ok (.aload_n 0, 1) := by decide +kernel
theorem dX12_labels_65 : decode cX12_labels 65 = .ok (.getfield 34, 3) := by decide +kernel
theorem dX12_labels_68 : decode cX12_labels 68 = .ok (.putfield 166, 3) := by decide +kernel
theorem dX12_labels_71 : decode cX12_labels 71 = .ok (.return_, 1) := by decide +kernel
theorem dX12_one_0 : decode cX12_one 0 = .ok (.aload_n 0, 1) := by decide +kernel
theorem dX12_one_1 : decode cX12_one 1 = .ok (.getfield 37, 3) := by decide +kernel
theorem dX12_one_4 : decode cX12_one 4 = .ok (.iconst 5, 1) := by decide +kernel
theorem dX12_one_5 : decode cX12_one 5 = .ok (.if_icmp .eq 12, 3) := by decide +kernel
theorem dX12_one_8 : decode cX12_one 8 = .ok (.aload_n 0, 1) := by decide +kernel
theorem dX12_one_9 : decode cX12_one 9 = .ok (.bipush 59, 2) := by decide +kernel
theorem dX12_one_11 : decode cX12_one 11 = .ok (.invokevirtual 123, 3) := by decide +kernel
theorem dX12_one_14 : decode cX12_one 14 = .ok (.ifCond .eq 4, 3) := by decide +kernel
theorem dX12_one_17 : decode cX12_one 17 = .ok (.return_, 1) := by decide +kernel
theorem dX12_one_18 : decode cX12_one 18 = .ok (.aload_n 0, 1) := by decide +kernel
theorem dX12_one_19 : decode cX12_one 19 = .ok (.bipush 36, 2) := by decide +kernel
theorem dX12_one_21 : decode cX12_one 21 = .ok (.invokevirtual 123, 3) := by decide +kernel
theorem dX12_one_24 : decode cX12_one 24 = .ok (.ifCond .eq 9, 3) := by decide +kernel
theorem dX12_one_27 : decode cX12_one 27 = .ok (.aload_n 0, 1) := by decide +kernel
theorem dX12_one_28 : decode cX12_one 28 = .ok (.iconst 1, 1) := by decide +kernel
theorem dX12_one_29 : decode cX12_one 29 = .ok (.putfield 147, 3) := by decide +kernel
theorem dX12_one_32 : decode cX12_one 32 = .ok (.return_, 1) := by decide +kernel
theorem dX12_one_33 : decode cX12_one 33 = .ok (.aload_n 0, 1) := by decide +kernel
theorem dX12_one_34 : decode cX12_one 34 = .ok (.bipush 42, 2) := by decide +kernel
theorem dX12_one_36 : decode cX12_one 36 = .ok (.invokevirtual 123, 3) := by decide +kernel
theorem dX12_one_39 : decode cX12_one 39 = .ok (.ifCond .eq 16, 3) := by decide +kernel
theorem dX12_one_42 : decode cX12_one 42 = .ok (.aload_n 0, 1) := by decide +kernel
theorem dX12_one_43 : decode cX12_one 43 = .ok (.invokevirtual 126, 3) := by decide +kernel
theorem dX12_one_46 : decode cX12_one 46 = .ok (.aload_n 0, 1) := by decide +kernel
theorem dX12_one_47 : decode cX12_one 47 = .ok (.aload_n 0, 1) := by decide +kernel
theorem dX12_one_48 : decode cX12_one 48 = .ok (.invokevirtual 169, 3) := by decide +kernel
theorem dX12_one_51 : decode cX12_one 51 = .ok (.putfield 129, 3) := by decide +kernel
theorem dX12_one_54 : decode cX12_one 54 = .ok (.return_, 1) := by decide +kernel
theorem dX12_one_55 : decode cX12_one 55 = .ok (.aload_n 0, 1) := by decide +kernel
theorem dX12_one_56 : decode cX12_one 56 = .ok (.getfield 37, 3) := by decide +kernel
theorem dX12_one_59 : decode cX12_one 59 = .ok (.iconst 1, 1) := by decide +kernel
theorem dX12_one_60 : decode cX12_one 60 = .ok (.if_icmp .ne 124, 3) := by decide +kernel
theorem dX12_one_63 : decode cX12_one 63 = .ok (.aload_n 0, 1) := by decide +kernel
theorem dX12_one_64 : decode cX12_one 64 = .ok (.bipush 61, 2) := by decide +kernel
theorem dX12_one_66 : decode cX12_one 66 = .ok (.invokevirtual 159, 3) := by decide +kernel
theorem dX12_one_69 : decode cX12_one 69 = .ok (.ifCond .eq 115, 3) := by decide +kernel
theorem dX12_one_72 : decode cX12_one 72 = .ok (.aload_n 0, 1) := by decide +kernel
theorem dX12_one_73 : decode cX12_one 73 = .ok (.getfield 34, 3) := by decide +kernel
theorem dX12_one_76 : decode cX12_one 76 = .ok (.istore_n 1, 1) := by decide +kernel
theorem dX12_one_77 : decode cX12_one 77 = .ok (.aload_n 0, 1) := by decide +kernel
theorem dX12_one_78 : decode cX12_one 78 = .ok (.getfield 54, 3) := by decide +kernel
theorem dX12_one_81 : decode cX12_one 81 = .ok (.istore_n 2, 1) := by decide +kernel
theorem dX12_one_82 : decode cX12_one 82 = .ok (.aload_n 0, 1) := by decide +kernel
theorem dX12_one_83 : decode cX12_one 83 = .ok (.invokevirtual 126, 3) := by decide +kernel
theorem dX12_one_86 : decode cX12_one 86 = .ok (.aload_n 0, 1) := by decide +kernel
theorem dX12_one_87 : decode cX12_one 87 = .ok (.getfield 92, 3) := by decide +kernel
theorem dX12_one_90 : decode cX12_one 90 = .ok (.istore_n 3, 1) := by decide +kernel
theorem dX12_one_91 : decode cX12_one 91 = .ok (.aload_n 0, 1) := by decide +kernel
theorem dX12_one_92 : decode cX12_one 92 = .ok (.iload_n 1, 1) := by decide +kernel
theorem dX12_one_93 : decode cX12_one 93 = .ok (.iload_n 2, 1) := by decide +kernel
theorem dX12_one_94 : decode cX12_one 94 = .ok (.iconst (-1), 1) := by decide +kernel
theorem dX12_one_95 : decode cX12_one 95 = .ok (.iconst 0, 1) := by decide +kernel
theorem dX12_one_96 : decode cX12_one 96 = .ok (.invokevirtual 162, 3) := by decide +kernel
theorem dX12_one_99 : decode cX12_one 99 = .ok (.aload_n 0, 1) := by decide +kernel
theorem dX12_one_100 : decode cX12_one 100 = .ok (.getfield 19, 3) := by decide +kernel
theorem dX12_one_103 : decode cX12_one 103 = .ok (.ifCond .le 4, 3) := by decide +kernel
theorem dX12_one_106 : decode cX12_one 106 = .ok (.return_, 1) := by decide +kernel
theorem dX12_one_107 : decode cX12_one 107 = .ok (.aload_n 0, 1) := by decide +kernel
theorem dX12_one_108 : decode cX12_one 108 = .ok (.getfield 92, 3) := by decide +kernel
theorem dX12_one_111 : decode cX12_one 111 = .ok (.iload_n 3, 1) := by decide +kernel
theorem dX12_one_112 : decode cX12_one 112 = .ok (.if_icmp .le 7, 3) := by decide +kernel
theorem dX12_one_115 : decode cX12_one 115 = .ok (.iconst 1, 1) := by decide +kernel
theorem dX12_one_116 : decode cX12_one 116 = .ok (.goto 4, 3) := by decide +kernel
theorem dX12_one_119 : decode cX12_one 119 = .ok (.iconst 0, 1) := by decide +kernel
theorem dX12_one_120 : decode cX12_one 120 = .ok (.istore 4, 2) := by decide +kernel
theorem dX12_one_122 : decode cX12_one 122 = .ok (.iload 4, 2) := by decide +kernel
theorem dX12_one_124 : decode cX12_one 124 = .ok (.ifCond .eq 13, 3) := by decide +kernel
theorem dX12_one_127 : decode cX12_one 127 = .ok (.aload_n 0, 1) := by decide +kernel
theorem dX12_one_128 : decode cX12_one 128 = .ok (.dup, 1) := by decide +kernel
theorem dX12_one_129 : decode cX12_one 129 = .ok (.getfield 92, 3) := by decide +kernel
theorem dX12_one_132 : decode cX12_one 132 = .ok (.iconst 1, 1) := by decide +kernel
theorem dX12_one_133 : decode cX12_one 133 = .ok (.isub, 1) := by decide +kernel
theorem dX12_one_134 : decode cX12_one 134 = .ok (.putfield 92, 3) := by decide +kernel
theorem dX12_one_137 : decode cX12_one 137 = .ok (.aload_n 0, 1) := by decide +kernel
theorem dX12_one_138 : decode cX12_one 138 = .ok (.invokevirtual 126, 3) := by decide +kernel
theorem dX12_one_141 : decode cX12_one 141 = .ok (.aload_n 0, 1) := by decide +kernel
theorem dX12_one_142 : decode cX12_one 142 = .ok (.invokevirtual 169, 3) := by decide +kernel
theorem dX12_one_145 : decode cX12_one 145 = .ok (.istore 5, 2) := by decide +kernel
theorem dX12_one_147 : decode cX12_one 147 = .ok (.aload_n 0, 1) := by decide +kernel
theorem dX12_one_148 : decode cX12_one 148 = .ok (.getfield 19, 3) := by decide +kernel
theorem dX12_one_151 : decode cX12_one 151 = .ok (.ifCond .le 4, 3) := by decide +kernel
theorem dX12_one_154 : decode cX12_one 154 = .ok (.return_, 1) := by decide +kernel
theorem dX12_one_155 : decode cX12_one 155 = .ok (.iload 4, 2) := by decide +kernel
theorem dX12_one_157 : decode cX12_one 157 = .ok (.ifCond .eq 13, 3) := by decide +kernel
theorem dX12_one_160 : decode cX12_one 160 = .ok (.aload_n 0, 1) := by decide +kernel
theorem dX12_one_161 : decode cX12_one 161 = .ok (.dup, 1) := by decide +kernel
theorem dX12_one_162 : decode cX12_one 162 = .ok (.getfield 92, 3) := by decide +kernel
theorem dX12_one_165 : decode cX12_one 165 = .ok (.iconst 1, 1) := by decide +kernel
theorem dX12_one_166 : decode cX12_one 166 = .ok (.iadd, 1) := by decide +kernel
theorem dX12_one_167 : decode cX12_one 167 = .ok (.putfield 92, 3) := by decide +kernel
theorem dX12_one_170 : decode cX12_one 170 = .ok (.aload_n 0, 1) := by decide +kernel
theorem dX12_one_171 : decode cX12_one 171 = .ok (.getfield 120, 3) := by decide +kernel
theorem dX12_one_174 : decode cX12_one 174 = .ok (.aload_n 0, 1) := by decide +kernel
theorem dX12_one_175 : decode cX12_one 175 = .ok (.iload_n 1, 1) := by decide +kernel
theorem dX12_one_176 : decode cX12_one 176 = .ok (.iload_n 2, 1) := by decide +kernel
theorem dX12_one_177 : decode cX12_one 177 = .ok (.invokevirtual 109, 3) := by decide +kernel
theorem dX12_one_180 : decode cX12_one 180 = .ok (.iload 5, 2) := by decide +kernel
theorem dX12_one_182 : decode cX12_one 182 = .ok (.iastore, 1) := by decide +kernel
theorem dX12_one_183 : decode cX12_one 183 = .ok (.return_, 1) := by decide +kernel
theorem dX12_one_184 : decode cX12_one 184 = .ok (.aload_n 0, 1) := by decide +kernel
theorem dX12_one_185 : decode cX12_one 185 = .ok (.getfield 37, 3) := by decide +kernel
theorem dX12_one_188 : decode cX12_one 188 = .ok (.iconst 1, 1) := by decide +kernel
theorem dX12_one_189 : decode cX12_one 189 = .ok (.if_icmp .ne 23, 3) := by decide +kernel
theorem dX12_one_192 : decode cX12_one 192 = .ok (.ldc 107, 2) := by decide +kernel
theorem dX12_one_194 : decode cX12_one 194 = .ok (.aload_n 0, 1) := by decide +kernel
theorem dX12_one_195 : decode cX12_one 195 = .ok (.getfield 28, 3) := by decide +kernel
theorem dX12_one_198 : decode cX12_one 198 = .ok (.aload_n 0, 1) := by decide +kernel
theorem dX12_one_199 : decode cX12_one 199 = .ok (.getfield 34, 3) := by decide +kernel
theorem dX12_one_202 : decode cX12_one 202 = .ok (.aload_n 0, 1) := by decide +kernel
theorem dX12_one_203 : decode cX12_one 203 = .ok (.getfield 54, 3) := by decide +kernel
theorem dX12_one_206 : decode cX12_one 206 = .ok (.invokestatic 103, 3) := by decide +kernel
theorem dX12_one_209 : decode cX12_one 209 = .ok (.goto 4, 3) := by decide +kernel
theorem dX12_one_212 : decode cX12_one 212 = .ok (.iconst (-1), 1) := by decide +kernel
theorem dX12_one_213 : decode cX12_one 213 = .ok (.istore_n 1, 1) := by decide +kernel
theorem dX12_one_214 : decode cX12_one 214 = .ok (.iload_n 1, 1) := by decide +kernel
theorem dX12_one_215 : decode cX12_one 215 = .ok (.iconst (-1), 1) := by decide +kernel
theorem dX12_one_216 : decode cX12_one 216 = .ok (.if_icmp .eq 11, 3) := by decide +kernel
theorem dX12_one_219 : decode cX12_one 219 = .ok (.aload_n 0, 1) := by decide +kernel
theorem dX12_one_220 : decode cX12_one 220 = .ok (.iload_n 1, 1) := by decide +kernel
theorem dX12_one_221 : decode cX12_one 221 = .ok (.invokevirtual 172, 3) := by decide +kernel
theorem dX12_one_224 : decode cX12_one 224 = .ok (.goto 7, 3) := by decide +kernel
theorem dX12_one_227 : decode cX12_one 227 = .ok (.aload_n 0, 1) := by decide +kernel
theorem dX12_one_228 : decode cX12_one 228 = .ok (.invokevirtual 174, 3) := by decide +kernel
theorem dX12_one_231 : decode cX12_one 231 = .ok (.return_, 1) := by decide +kernel
theorem dX12_asked_0 : decode cX12_asked 0 = .ok (.aload_n 0, 1) := by decide +kernel
theorem dX12_asked_1 : decode cX12_asked 1 = .ok (.iconst 1, 1) := by decide +kernel
theorem dX12_asked_2 : decode cX12_asked 2 = .ok (.putfield 141, 3) := by decide +kernel
theorem dX12_asked_5 : decode cX12_asked 5 = .ok (.aload_n 0, 1) := by decide +kernel
theorem dX12_asked_6 : decode cX12_asked 6 = .ok (.getfield 19, 3) := by decide +kernel
theorem dX12_asked_9 : decode cX12_asked 9 = .ok (.ifCond .ne 10, 3) := by decide +kernel
theorem dX12_asked_12 : decode cX12_asked 12 = .ok (.aload_n 0, 1) := by decide +kernel
theorem dX12_asked_13 : decode cX12_asked 13 = .ok (.invokevirtual 177, 3) := by decide +kernel
theorem dX12_asked_16 : decode cX12_asked 16 = .ok (.goto 4, 3) := by decide +kernel
theorem dX12_asked_19 : decode cX12_asked 19 = .ok (.iconst 0, 1) := by decide +kernel
theorem dX12_asked_20 : decode cX12_asked 20 = .ok (.istore_n 1, 1) := by decide +kernel
theorem dX12_asked_21 : decode cX12_asked 21 = .ok (.aload_n 0, 1) := by decide +kernel
theorem dX12_asked_22 : decode cX12_asked 22 = .ok (.iconst 0, 1) := by decide +kernel
theorem dX12_asked_23 : decode cX12_asked 23 = .ok (.putfield 141, 3) := by decide +kernel
theorem dX12_asked_26 : decode cX12_asked 26 = .ok (.iload_n 1, 1) := by decide +kernel
theorem dX12_asked_27 : decode cX12_asked 27 = .ok (.ireturn, 1) := by decide +kernel
theorem dX12_told_0 : decode cX12_told 0 = .ok (.aload_n 0, 1) := by decide +kernel
theorem dX12_told_1 : decode cX12_told 1 = .ok (.getfield 34, 3) := by decide +kernel
theorem dX12_told_4 : decode cX12_told 4 = .ok (.istore_n 2, 1) := by decide +kernel
theorem dX12_told_5 : decode cX12_told 5 = .ok (.iload_n 1, 1) := by decide +kernel
theorem dX12_told_6 : decode cX12_told 6 = .ok (.iconst 4, 1) := by decide +kernel
theorem dX12_told_7 : decode cX12_told 7 = .ok (.if_icmp .ne 9, 3) := by decide +kernel
theorem dX12_told_10 : decode cX12_told 10 = .ok (.aload_n 0, 1) := by decide +kernel
theorem dX12_told_11 : decode cX12_told 11 = .ok (.iload_n 2, 1) := by decide +kernel
theorem dX12_told_12 : decode cX12_told 12 = .ok (.invokevirtual 180, 3) := by decide +kernel
theorem dX12_told_15 : decode cX12_told 15 = .ok (.return_, 1) := by decide +kernel
theorem dX12_told_16 : decode cX12_told 16 = .ok (.aload_n 0, 1) := by decide +kernel
theorem dX12_told_17 : decode cX12_told 17 = .ok (.invokevirtual 126, 3) := by decide +kernel
theorem dX12_told_20 : decode cX12_told 20 = .ok (.iload_n 1, 1) := by decide +kernel
theorem dX12_told_21 : decode cX12_told 21 = .ok (.iconst 1, 1) := by decide +kernel
theorem dX12_told_22 : decode cX12_told 22 = .ok (.if_icmp .eq 8, 3) := by decide +kernel
theorem dX12_told_25 : decode cX12_told 25 = .ok (.iload_n 1, 1) := by decide +kernel
theorem dX12_told_26 : decode cX12_told 26 = .ok (.iconst 2, 1) := by decide +kernel
theorem dX12_told_27 : decode cX12_told 27 = .ok (.if_icmp .ne 52, 3) := by decide +kernel
theorem dX12_told_30 : decode cX12_told 30 = .ok (.aload_n 0, 1) := by decide +kernel
theorem dX12_told_31 : decode cX12_told 31 = .ok (.iload_n 1, 1) := by decide +kernel
theorem dX12_told_32 : decode cX12_told 32 = .ok (.iconst 1, 1) := by decide +kernel
theorem dX12_told_33 : decode cX12_told 33 = .ok (.if_icmp .ne 8, 3) := by decide +kernel
theorem dX12_told_36 : decode cX12_told 36 = .ok (.bipush 10, 2) := by decide +kernel
theorem dX12_told_38 : decode cX12_told 38 = .ok (.goto 5, 3) := by decide +kernel
theorem dX12_told_41 : decode cX12_told 41 = .ok (.bipush 8, 2) := by decide +kernel
theorem dX12_told_43 : decode cX12_told 43 = .ok (.putfield 74, 3) := by decide +kernel
theorem dX12_told_46 : decode cX12_told 46 = .ok (.aload_n 0, 1) := by decide +kernel
theorem dX12_told_47 : decode cX12_told 47 = .ok (.getfield 19, 3) := by decide +kernel
theorem dX12_told_50 : decode cX12_told 50 = .ok (.ifCond .eq 22, 3) := by decide +kernel
theorem dX12_told_53 : decode cX12_told 53 = .ok (.aload_n 0, 1) := by decide +kernel
theorem dX12_told_54 : decode cX12_told 54 = .ok (.getfield 19, 3) := by decide +kernel
theorem dX12_told_57 : decode cX12_told 57 = .ok (.iconst 1, 1) := by decide +kernel
theorem dX12_told_58 : decode cX12_told 58 = .ok (.if_icmp .ne 143, 3) := by decide +kernel
theorem dX12_told_61 : decode cX12_told 61 = .ok (.aload_n 0, 1) := by decide +kernel
theorem dX12_told_62 : decode cX12_told 62 = .ok (.getfield 22, 3) := by decide +kernel
theorem dX12_told_65 : decode cX12_told 65 = .ok (.aload_n 0, 1) := by decide +kernel
theorem dX12_told_66 : decode cX12_told 66 = .ok (.getfield 34, 3) := by decide +kernel
theorem dX12_told_69 : decode cX12_told 69 = .ok (.if_icmp .ne 132, 3) := by decide +kernel
theorem dX12_told_72 : decode cX12_told 72 = .ok (.aload_n 0, 1) := by decide +kernel
theorem dX12_told_73 : decode cX12_told 73 = .ok (.invokevirtual 183, 3) := by decide +kernel
theorem dX12_told_76 : decode cX12_told 76 = .ok (.goto 125, 3) := by decide +kernel
theorem dX12_told_79 : decode cX12_told 79 = .ok (.iload_n 1, 1) := by decide +kernel
theorem dX12_told_80 : decode cX12_told 80 = .ok (.ifCond .ne 89, 3) := by decide +kernel
theorem dX12_told_83 : decode cX12_told 83 = .ok (.aload_n 0, 1) := by decide +kernel
theorem dX12_told_84 : decode cX12_told 84 = .ok (.getfield 34, 3) := by decide +kernel
theorem dX12_told_87 : decode cX12_told 87 = .ok (.istore_n 3, 1) := by decide +kernel
theorem dX12_told_88 : decode cX12_told 88 = .ok (.aload_n 0, 1) := by decide +kernel
theorem dX12_told_89 : decode cX12_told 89 = .ok (.getfield 19, 3) := by decide +kernel
theorem dX12_told_92 : decode cX12_told 92 = .ok (.ifCond .ne 30, 3) := by decide +kernel
theorem dX12_told_95 : decode cX12_told 95 = .ok (.aload_n 0, 1) := by decide +kernel
theorem dX12_told_96 : decode cX12_told 96 = .ok (.invokevirtual 186, 3) := by decide +kernel
theorem dX12_told_99 : decode cX12_told 99 = .ok (.ifCond .ne 23, 3) := by decide +kernel
theorem dX12_told_102 : decode cX12_told 102 = .ok (.aload_n 0, 1) := by decide +kernel
theorem dX12_told_103 : decode cX12_told 103 = .ok (.aload_n 0, 1) := by decide +kernel
theorem dX12_told_104 : decode cX12_told 104 = .ok (.getfield 129, 3) := by decide +kernel
theorem dX12_told_107 : decode cX12_told 107 = .ok (.bipush 127, 2) := by decide +kernel
theorem dX12_told_109 : decode cX12_told 109 = .ok (.iadd, 1) := by decide +kernel
theorem dX12_told_110 : decode cX12_told 110 = .ok (.sipush 128, 3) := by decide +kernel
theorem dX12_told_113 : decode cX12_told 113 = .ok (.idiv, 1) := by decide +kernel
theorem dX12_told_114 : decode cX12_told 114 = .ok (.sipush 128, 3) := by decide +kernel
theorem dX12_told_117 : decode cX12_told 117 = .ok (.imul, 1) := by decide +kernel
theorem dX12_told_118 : decode cX12_told 118 = .ok (.putfield 129, 3) := by decide +kernel
theorem dX12_told_121 : decode cX12_told 121 = .ok (.return_, 1) := by decide +kernel
theorem dX12_told_122 : decode cX12_told 122 = .ok (.aload_n 0, 1) := by decide +kernel
theorem dX12_told_123 : decode cX12_told 123 = .ok (.invokevirtual 169, 3) := by decide +kernel
theorem dX12_told_126 : decode cX12_told 126 = .ok (.istore 4, 2) := by decide +kernel
theorem dX12_told_128 : decode cX12_told 128 = .ok (.aload_n 0, 1) := by decide +kernel
theorem dX12_told_129 : decode cX12_told 129 = .ok (.getfield 19, 3) := by decide +kernel
theorem dX12_told_132 : decode cX12_told 132 = .ok (.ifCond .ne 17, 3) := by decide +kernel
theorem dX12_told_135 : decode cX12_told 135 = .ok (.iload 4, 2) := by decide +kernel
theorem dX12_told_137 : decode cX12_told 137 = .ok (.bipush 31, 2) := by decide +kernel
theorem dX12_told_139 : decode cX12_told 139 = .ok (.if_icmp .le 10, 3) := by decide +kernel
theorem dX12_told_142 : decode cX12_told 142 = .ok (.aload_n 0, 1) := by decide +kernel
theorem dX12_told_143 : decode cX12_told 143 = .ok (.bipush 6, 2) := by decide +kernel
theorem dX12_told_145 : decode cX12_told 145 = .ok (.iload_n 3, 1) := by decide +kernel
theorem dX12_told_146 : decode cX12_told 146 = .ok (.invokevirtual 57, 3) := by decide +kernel
theorem dX12_told_149 : decode cX12_told 149 = .ok (.aload_n 0, 1) := by decide +kernel
theorem dX12_told_150 : decode cX12_told 150 = .ok (.getfield 19, 3) := by decide +kernel
theorem dX12_told_153 : decode cX12_told 153 = .ok (.ifCond .ne 13, 3) := by decide +kernel
theorem dX12_told_156 : decode cX12_told 156 = .ok (.aload_n 0, 1) := by decide +kernel
theorem dX12_told_157 : decode cX12_told 157 = .ok (.sipush 128, 3) := by decide +kernel
theorem dX12_told_160 : decode cX12_told 160 = .ok (.iload 4, 2) := by decide +kernel
theorem dX12_told_162 : decode cX12_told 162 = .ok (.imul, 1) := by decide +kernel
theorem dX12_told_163 : decode cX12_told 163 = .ok (.putfield 129, 3) := by decide +kernel
theorem dX12_told_166 : decode cX12_told 166 = .ok (.goto 35, 3) := by decide +kernel
theorem dX12_told_169 : decode cX12_told 169 = .ok (.aload_n 0, 1) := by decide +kernel
theorem dX12_told_170 : decode cX12_told 170 = .ok (.invokevirtual 169, 3) := by decide +kernel
theorem dX12_told_173 : decode cX12_told 173 = .ok (.istore_n 3, 1) := by decide +kernel
theorem dX12_told_174 : decode cX12_told 174 = .ok (.iconst 0, 1) := by decide +kernel
theorem dX12_told_175 : decode cX12_told 175 = .ok (.istore 4, 2) := by decide +kernel
theorem dX12_told_177 : decode cX12_told 177 = .ok (.iload 4, 2) := by decide +kernel
theorem dX12_told_179 : decode cX12_told 179 = .ok (.iload_n 3, 1) := by decide +kernel
theorem dX12_told_180 : decode cX12_told 180 = .ok (.if_icmp .ge 21, 3) := by decide +kernel
theorem dX12_told_183 : decode cX12_told 183 = .ok (.aload_n 0, 1) := by decide +kernel
theorem dX12_told_184 : decode cX12_told 184 = .ok (.getfield 19, 3) := by decide +kernel
theorem dX12_told_187 : decode cX12_told 187 = .ok (.ifCond .ne 14, 3) := by decide +kernel
theorem dX12_told_190 : decode cX12_told 190 = .ok (.aload_n 0, 1) := by decide +kernel
theorem dX12_told_191 : decode cX12_told 191 = .ok (.iconst 0, 1) := by decide +kernel
theorem dX12_told_192 : decode cX12_told 192 = .ok (.invokevirtual 190, 3) := by decide +kernel
theorem dX12_told_195 : decode cX12_told 195 = .ok (.iinc 4 1, 3) := by decide +kernel
theorem dX12_told_198 : decode cX12_told 198 = .ok (.goto (-21), 3) := by decide +kernel
theorem dX12_told_201 : decode cX12_told 201 = .ok (.return_, 1) := by decide +kernel
theorem dX12_again_0 : decode cX12_again 0 = .ok (.aload_n 0, 1) := by decide +kernel
theorem dX12_again_1 : decode cX12_again 1 = .ok (.iconst 0, 1) := by decide +kernel
theorem dX12_again_2 : decode cX12_again 2 = .ok (.putfield 19, 3) := by decide +kernel
theorem dX12_again_5 : decode cX12_again 5 = .ok (.aload_n 0, 1) := by decide +kernel
theorem dX12_again_6 : decode cX12_again 6 = .ok (.invokevirtual 77, 3) := by decide +kernel
theorem dX12_again_9 : decode cX12_again 9 = .ok (.return_, 1) := by decide +kernel
theorem dX12_texts_0 : decode cX12_texts 0 = .ok (.aload_n 0, 1) := by decide +kernel
theorem dX12_texts_1 : decode cX12_texts 1 = .ok (.getfield 40, 3) := by decide +kernel
theorem dX12_texts_4 : decode cX12_texts 4 = .ok (.istore_n 2, 1) := by decide +kernel
theorem dX12_texts_5 : decode cX12_texts 5 = .ok (.iload_n 2, 1) := by decide +kernel
theorem dX12_texts_6 : decode cX12_texts 6 = .ok (.aload_n 0, 1) := by decide +kernel
theorem dX12_texts_7 : decode cX12_texts 7 = .ok (.getfield 25, 3) := by decide +kernel
theorem dX12_texts_10 : decode cX12_texts 10 = .ok (.if_icmp .ge 20, 3) := by decide +kernel
theorem dX12_texts_13 : decode cX12_texts 13 = .ok (.aload_n 0, 1) := by decide +kernel
theorem dX12_texts_14 : decode cX12_texts 14 = .ok (.getfield 28, 3) := by decide +kernel
theorem dX12_texts_17 : decode cX12_texts 17 = .ok (.iload_n 2, 1) := by decide +kernel
theorem dX12_texts_18 : decode cX12_texts 18 = .ok (.iaload, 1) := by decide +kernel
theorem dX12_texts_19 : decode cX12_texts 19 = .ok (.bipush 32, 2) := by decide +kernel
theorem dX12_texts_21 : decode cX12_texts 21 = .ok (.if_icmp .ne 9, 3) := by decide +kernel
theorem dX12_texts_24 : decode cX12_texts 24 = .ok (.iinc 2 1, 3) := by decide +kernel
theorem dX12_texts_27 : decode cX12_texts 27 = .ok (.goto (-22), 3) := by decide +kernel
theorem dX12_texts_30 : decode cX12_texts 30 = .ok (.iload_n 2, 1) := by decide +kernel
end
section
theorem dX12_texts_31 : decode cX12_texts 31 = .ok (.aload_n 0, 1) := by decide +kernel
theorem dX12_texts_32 : decode cX12_texts 32 = .ok (.getfield 25, 3) := by decide +kernel
theorem dX12_texts_35 : decode cX12_texts 35 = .ok (.if_icmp .ge 12, 3) := by decide +kernel
theorem dX12_texts_38 : decode cX12_texts 38 = .ok (.aload_n 0, 1) := by decide +kernel
theorem dX12_texts_39 : decode cX12_texts 39 = .ok (.getfield 28, 3) := by decide +kernel
theorem dX12_texts_42 : decode cX12_texts 42 = .ok (.iload_n 2, 1) := by decide +kernel
theorem dX12_texts_43 : decode cX12_texts 43 = .ok (.iaload, 1) := by decide +kernel
theorem dX12_texts_44 : decode cX12_texts 44 = .ok (.goto 5, 3) := by decide +kernel
theorem dX12_texts_47 : decode cX12_texts 47 = .ok (.bipush 10, 2) := by decide +kernel
theorem dX12_texts_49 : decode cX12_texts 49 = .ok (.istore_n 3, 1) := by decide +kernel
theorem dX12_texts_50 : decode cX12_texts 50 = .ok (.iload_n 2, 1) := by decide +kernel
theorem dX12_texts_51 : decode cX12_texts 51 = .ok (.iconst 1, 1) := by decide +kernel
theorem dX12_texts_52 : decode cX12_texts 52 = .ok (.iadd, 1) := by decide +kernel
theorem dX12_texts_53 : decode cX12_texts 53 = .ok (.istore 4, 2) := by decide +kernel
theorem dX12_texts_55 : decode cX12_texts 55 = .ok (.iload 4, 2) := by decide +kernel
theorem dX12_texts_57 : decode cX12_texts 57 = .ok (.aload_n 0, 1) := by decide +kernel
theorem dX12_texts_58 : decode cX12_texts 58 = .ok (.getfield 25, 3) := by decide +kernel
theorem dX12_texts_61 : decode cX12_texts 61 = .ok (.if_icmp .ge 32, 3) := by decide +kernel
theorem dX12_texts_64 : decode cX12_texts 64 = .ok (.aload_n 0, 1) := by decide +kernel
theorem dX12_texts_65 : decode cX12_texts 65 = .ok (.getfield 28, 3) := by decide +kernel
theorem dX12_texts_68 : decode cX12_texts 68 = .ok (.iload 4, 2) := by decide +kernel
theorem dX12_texts_70 : decode cX12_texts 70 = .ok (.iaload, 1) := by decide +kernel
theorem dX12_texts_71 : decode cX12_texts 71 = .ok (.iload_n 3, 1) := by decide +kernel
theorem dX12_texts_72 : decode cX12_texts 72 = .ok (.if_icmp .eq 21, 3) := by decide +kernel
theorem dX12_texts_75 : decode cX12_texts 75 = .ok (.aload_n 0, 1) := by decide +kernel
theorem dX12_texts_76 : decode cX12_texts 76 = .ok (.getfield 28, 3) := by decide +kernel
theorem dX12_texts_79 : decode cX12_texts 79 = .ok (.iload 4, 2) := by decide +kernel
theorem dX12_texts_81 : decode cX12_texts 81 = .ok (.iaload, 1) := by decide +kernel
theorem dX12_texts_82 : decode cX12_texts 82 = .ok (.bipush 10, 2) := by decide +kernel
theorem dX12_texts_84 : decode cX12_texts 84 = .ok (.if_icmp .eq 9, 3) := by decide +kernel
theorem dX12_texts_87 : decode cX12_texts 87 = .ok (.iinc 4 1, 3) := by decide +kernel
theorem dX12_texts_90 : decode cX12_texts 90 = .ok (.goto (-35), 3) := by decide +kernel
theorem dX12_texts_93 : decode cX12_texts 93 = .ok (.iload_n 3, 1) := by decide +kernel
theorem dX12_texts_94 : decode cX12_texts 94 = .ok (.bipush 10, 2) := by decide +kernel
theorem dX12_texts_96 : decode cX12_texts 96 = .ok (.if_icmp .eq 7, 3) := by decide +kernel
theorem dX12_texts_99 : decode cX12_texts 99 = .ok (.iconst 1, 1) := by decide +kernel
theorem dX12_texts_100 : decode cX12_texts 100 = .ok (.goto 4, 3) := by decide +kernel
theorem dX12_texts_103 : decode cX12_texts 103 = .ok (.iconst 0, 1) := by decide +kernel
theorem dX12_texts_104 : decode cX12_texts 104 = .ok (.istore 5, 2) := by decide +kernel
theorem dX12_texts_106 : decode cX12_texts 106 = .ok (.iload_n 2, 1) := by decide +kernel
theorem dX12_texts_107 : decode cX12_texts 107 = .ok (.istore 6, 2) := by decide +kernel
theorem dX12_texts_109 : decode cX12_texts 109 = .ok (.iload 6, 2) := by decide +kernel
theorem dX12_texts_111 : decode cX12_texts 111 = .ok (.iload 4, 2) := by decide +kernel
theorem dX12_texts_113 : decode cX12_texts 113 = .ok (.if_icmp .ge 47, 3) := by decide +kernel
theorem dX12_texts_116 : decode cX12_texts 116 = .ok (.iload 6, 2) := by decide +kernel
theorem dX12_texts_118 : decode cX12_texts 118 = .ok (.aload_n 0, 1) := by decide +kernel
theorem dX12_texts_119 : decode cX12_texts 119 = .ok (.getfield 25, 3) := by decide +kernel
theorem dX12_texts_122 : decode cX12_texts 122 = .ok (.if_icmp .ge 38, 3) := by decide +kernel
theorem dX12_texts_125 : decode cX12_texts 125 = .ok (.iload 5, 2) := by decide +kernel
theorem dX12_texts_127 : decode cX12_texts 127 = .ok (.ifCond .eq 24, 3) := by decide +kernel
theorem dX12_texts_130 : decode cX12_texts 130 = .ok (.aload_n 0, 1) := by decide +kernel
theorem dX12_texts_131 : decode cX12_texts 131 = .ok (.getfield 28, 3) := by decide +kernel
theorem dX12_texts_134 : decode cX12_texts 134 = .ok (.iload 6, 2) := by decide +kernel
theorem dX12_texts_136 : decode cX12_texts 136 = .ok (.iaload, 1) := by decide +kernel
theorem dX12_texts_137 : decode cX12_texts 137 = .ok (.bipush 32, 2) := by decide +kernel
theorem dX12_texts_139 : decode cX12_texts 139 = .ok (.bipush 126, 2) := by decide +kernel
theorem dX12_texts_141 : decode cX12_texts 141 = .ok (.invokestatic 15, 3) := by decide +kernel
theorem dX12_texts_144 : decode cX12_texts 144 = .ok (.ifCond .eq 7, 3) := by decide +kernel
theorem dX12_texts_147 : decode cX12_texts 147 = .ok (.iconst 1, 1) := by decide +kernel
theorem dX12_texts_148 : decode cX12_texts 148 = .ok (.goto 4, 3) := by decide +kernel
theorem dX12_texts_151 : decode cX12_texts 151 = .ok (.iconst 0, 1) := by decide +kernel
theorem dX12_texts_152 : decode cX12_texts 152 = .ok (.istore 5, 2) := by decide +kernel
theorem dX12_texts_154 : decode cX12_texts 154 = .ok (.iinc 6 1, 3) := by decide +kernel
theorem dX12_texts_157 : decode cX12_texts 157 = .ok (.goto (-48), 3) := by decide +kernel
theorem dX12_texts_160 : decode cX12_texts 160 = .ok (.iload 5, 2) := by decide +kernel
theorem dX12_texts_162 : decode cX12_texts 162 = .ok (.ifCond .eq 23, 3) := by decide +kernel
theorem dX12_texts_165 : decode cX12_texts 165 = .ok (.iload 4, 2) := by decide +kernel
theorem dX12_texts_167 : decode cX12_texts 167 = .ok (.aload_n 0, 1) := by decide +kernel
theorem dX12_texts_168 : decode cX12_texts 168 = .ok (.getfield 25, 3) := by decide +kernel
theorem dX12_texts_171 : decode cX12_texts 171 = .ok (.if_icmp .ge 14, 3) := by decide +kernel
theorem dX12_texts_174 : decode cX12_texts 174 = .ok (.aload_n 0, 1) := by decide +kernel
theorem dX12_texts_175 : decode cX12_texts 175 = .ok (.getfield 28, 3) := by decide +kernel
theorem dX12_texts_178 : decode cX12_texts 178 = .ok (.iload 4, 2) := by decide +kernel
theorem dX12_texts_180 : decode cX12_texts 180 = .ok (.iaload, 1) := by decide +kernel
theorem dX12_texts_181 : decode cX12_texts 181 = .ok (.iload_n 3, 1) := by decide +kernel
theorem dX12_texts_182 : decode cX12_texts 182 = .ok (.if_icmp .eq 10, 3) := by decide +kernel
theorem dX12_texts_185 : decode cX12_texts 185 = .ok (.aload_n 0, 1) := by decide +kernel
theorem dX12_texts_186 : decode cX12_texts 186 = .ok (.iconst 1, 1) := by decide +kernel
theorem dX12_texts_187 : decode cX12_texts 187 = .ok (.iload_n 1, 1) := by decide +kernel
theorem dX12_texts_188 : decode cX12_texts 188 = .ok (.invokevirtual 57, 3) := by decide +kernel
theorem dX12_texts_191 : decode cX12_texts 191 = .ok (.return_, 1) := by decide +kernel
theorem dX12_texts_192 : decode cX12_texts 192 = .ok (.iload_n 2, 1) := by decide +kernel
theorem dX12_texts_193 : decode cX12_texts 193 = .ok (.iconst 1, 1) := by decide +kernel
theorem dX12_texts_194 : decode cX12_texts 194 = .ok (.iadd, 1) := by decide +kernel
theorem dX12_texts_195 : decode cX12_texts 195 = .ok (.istore 6, 2) := by decide +kernel
theorem dX12_texts_197 : decode cX12_texts 197 = .ok (.iload 6, 2) := by decide +kernel
theorem dX12_texts_199 : decode cX12_texts 199 = .ok (.iload 4, 2) := by decide +kernel
theorem dX12_texts_201 : decode cX12_texts 201 = .ok (.if_icmp .gt 78, 3) := by decide +kernel
theorem dX12_texts_204 : decode cX12_texts 204 = .ok (.aload_n 0, 1) := by decide +kernel
theorem dX12_texts_205 : decode cX12_texts 205 = .ok (.getfield 19, 3) := by decide +kernel
theorem dX12_texts_208 : decode cX12_texts 208 = .ok (.ifCond .ne 71, 3) := by decide +kernel
theorem dX12_texts_211 : decode cX12_texts 211 = .ok (.iload 6, 2) := by decide +kernel
theorem dX12_texts_213 : decode cX12_texts 213 = .ok (.iload 4, 2) := by decide +kernel
theorem dX12_texts_215 : decode cX12_texts 215 = .ok (.if_icmp .ge 16, 3) := by decide +kernel
theorem dX12_texts_218 : decode cX12_texts 218 = .ok (.aload_n 0, 1) := by decide +kernel
theorem dX12_texts_219 : decode cX12_texts 219 = .ok (.getfield 28, 3) := by decide +kernel
theorem dX12_texts_222 : decode cX12_texts 222 = .ok (.iload 6, 2) := by decide +kernel
theorem dX12_texts_224 : decode cX12_texts 224 = .ok (.iaload, 1) := by decide +kernel
theorem dX12_texts_225 : decode cX12_texts 225 = .ok (.bipush 63, 2) := by decide +kernel
theorem dX12_texts_227 : decode cX12_texts 227 = .ok (.iand, 1) := by decide +kernel
theorem dX12_texts_228 : decode cX12_texts 228 = .ok (.goto 4, 3) := by decide +kernel
theorem dX12_texts_231 : decode cX12_texts 231 = .ok (.iconst 0, 1) := by decide +kernel
theorem dX12_texts_232 : decode cX12_texts 232 = .ok (.istore 7, 2) := by decide +kernel
theorem dX12_texts_234 : decode cX12_texts 234 = .ok (.iload 6, 2) := by decide +kernel
theorem dX12_texts_236 : decode cX12_texts 236 = .ok (.iconst 1, 1) := by decide +kernel
theorem dX12_texts_237 : decode cX12_texts 237 = .ok (.iadd, 1) := by decide +kernel
theorem dX12_texts_238 : decode cX12_texts 238 = .ok (.iload 4, 2) := by decide +kernel
theorem dX12_texts_240 : decode cX12_texts 240 = .ok (.if_icmp .ge 18, 3) := by decide +kernel
theorem dX12_texts_243 : decode cX12_texts 243 = .ok (.aload_n 0, 1) := by decide +kernel
theorem dX12_texts_244 : decode cX12_texts 244 = .ok (.getfield 28, 3) := by decide +kernel
theorem dX12_texts_247 : decode cX12_texts 247 = .ok (.iload 6, 2) := by decide +kernel
theorem dX12_texts_249 : decode cX12_texts 249 = .ok (.iconst 1, 1) := by decide +kernel
theorem dX12_texts_250 : decode cX12_texts 250 = .ok (.iadd, 1) := by decide +kernel
theorem dX12_texts_251 : decode cX12_texts 251 = .ok (.iaload, 1) := by decide +kernel
theorem dX12_texts_252 : decode cX12_texts 252 = .ok (.bipush 63, 2) := by decide +kernel
theorem dX12_texts_254 : decode cX12_texts 254 = .ok (.iand, 1) := by decide +kernel
theorem dX12_texts_255 : decode cX12_texts 255 = .ok (.goto 4, 3) := by decide +kernel
theorem dX12_texts_258 : decode cX12_texts 258 = .ok (.iconst 0, 1) := by decide +kernel
theorem dX12_texts_259 : decode cX12_texts 259 = .ok (.istore 8, 2) := by decide +kernel
theorem dX12_texts_261 : decode cX12_texts 261 = .ok (.aload_n 0, 1) := by decide +kernel
theorem dX12_texts_262 : decode cX12_texts 262 = .ok (.bipush 64, 2) := by decide +kernel
theorem dX12_texts_264 : decode cX12_texts 264 = .ok (.iload 7, 2) := by decide +kernel
theorem dX12_texts_266 : decode cX12_texts 266 = .ok (.imul, 1) := by decide +kernel
theorem dX12_texts_267 : decode cX12_texts 267 = .ok (.iload 8, 2) := by decide +kernel
theorem dX12_texts_269 : decode cX12_texts 269 = .ok (.iadd, 1) := by decide +kernel
theorem dX12_texts_270 : decode cX12_texts 270 = .ok (.invokevirtual 190, 3) := by decide +kernel
theorem dX12_texts_273 : decode cX12_texts 273 = .ok (.iinc 6 2, 3) := by decide +kernel
theorem dX12_texts_276 : decode cX12_texts 276 = .ok (.goto (-79), 3) := by decide +kernel
theorem dX12_texts_279 : decode cX12_texts 279 = .ok (.aload_n 0, 1) := by decide +kernel
theorem dX12_texts_280 : decode cX12_texts 280 = .ok (.iload 4, 2) := by decide +kernel
theorem dX12_texts_282 : decode cX12_texts 282 = .ok (.iconst 1, 1) := by decide +kernel
theorem dX12_texts_283 : decode cX12_texts 283 = .ok (.iadd, 1) := by decide +kernel
theorem dX12_texts_284 : decode cX12_texts 284 = .ok (.putfield 31, 3) := by decide +kernel
theorem dX12_texts_287 : decode cX12_texts 287 = .ok (.aload_n 0, 1) := by decide +kernel
theorem dX12_texts_288 : decode cX12_texts 288 = .ok (.getfield 19, 3) := by decide +kernel
theorem dX12_texts_291 : decode cX12_texts 291 = .ok (.ifCond .ne 7, 3) := by decide +kernel
theorem dX12_texts_294 : decode cX12_texts 294 = .ok (.aload_n 0, 1) := by decide +kernel
theorem dX12_texts_295 : decode cX12_texts 295 = .ok (.invokevirtual 77, 3) := by decide +kernel
theorem dX12_texts_298 : decode cX12_texts 298 = .ok (.return_, 1) := by decide +kernel
theorem dX12_lies_0 : decode cX12_lies 0 = .ok (.aload_n 0, 1) := by decide +kernel
theorem dX12_lies_1 : decode cX12_lies 1 = .ok (.getfield 129, 3) := by decide +kernel
theorem dX12_lies_4 : decode cX12_lies 4 = .ok (.sipush 4095, 3) := by decide +kernel
theorem dX12_lies_7 : decode cX12_lies 7 = .ok (.if_icmp .le 14, 3) := by decide +kernel
theorem dX12_lies_10 : decode cX12_lies 10 = .ok (.aload_n 0, 1) := by decide +kernel
theorem dX12_lies_11 : decode cX12_lies 11 = .ok (.bipush 6, 2) := by decide +kernel
theorem dX12_lies_13 : decode cX12_lies 13 = .ok (.aload_n 0, 1) := by decide +kernel
theorem dX12_lies_14 : decode cX12_lies 14 = .ok (.getfield 166, 3) := by decide +kernel
theorem dX12_lies_17 : decode cX12_lies 17 = .ok (.invokevirtual 57, 3) := by decide +kernel
theorem dX12_lies_20 : decode cX12_lies 20 = .ok (.return_, 1) := by decide +kernel
theorem dX12_lies_21 : decode cX12_lies 21 = .ok (.aload_n 0, 1) := by decide +kernel
theorem dX12_lies_22 : decode cX12_lies 22 = .ok (.getfield 112, 3) := by decide +kernel
theorem dX12_lies_25 : decode cX12_lies 25 = .ok (.ifCond .eq 50, 3) := by decide +kernel
theorem dX12_lies_28 : decode cX12_lies 28 = .ok (.aload_n 0, 1) := by decide +kernel
theorem dX12_lies_29 : decode cX12_lies 29 = .ok (.getfield 193, 3) := by decide +kernel
theorem dX12_lies_32 : decode cX12_lies 32 = .ok (.aload_n 0, 1) := by decide +kernel
theorem dX12_lies_33 : decode cX12_lies 33 = .ok (.getfield 129, 3) := by decide +kernel
theorem dX12_lies_36 : decode cX12_lies 36 = .ok (.baload, 1) := by decide +kernel
theorem dX12_lies_37 : decode cX12_lies 37 = .ok (.ifCond .eq 14, 3) := by decide +kernel
theorem dX12_lies_40 : decode cX12_lies 40 = .ok (.aload_n 0, 1) := by decide +kernel
theorem dX12_lies_41 : decode cX12_lies 41 = .ok (.bipush 8, 2) := by decide +kernel
theorem dX12_lies_43 : decode cX12_lies 43 = .ok (.aload_n 0, 1) := by decide +kernel
theorem dX12_lies_44 : decode cX12_lies 44 = .ok (.getfield 166, 3) := by decide +kernel
theorem dX12_lies_47 : decode cX12_lies 47 = .ok (.invokevirtual 57, 3) := by decide +kernel
theorem dX12_lies_50 : decode cX12_lies 50 = .ok (.return_, 1) := by decide +kernel
theorem dX12_lies_51 : decode cX12_lies 51 = .ok (.aload_n 0, 1) := by decide +kernel
theorem dX12_lies_52 : decode cX12_lies 52 = .ok (.getfield 196, 3) := by decide +kernel
theorem dX12_lies_55 : decode cX12_lies 55 = .ok (.aload_n 0, 1) := by decide +kernel
theorem dX12_lies_56 : decode cX12_lies 56 = .ok (.getfield 129, 3) := by decide +kernel
theorem dX12_lies_59 : decode cX12_lies 59 = .ok (.iconst 1, 1) := by decide +kernel
theorem dX12_lies_60 : decode cX12_lies 60 = .ok (.bastore, 1) := by decide +kernel
theorem dX12_lies_61 : decode cX12_lies 61 = .ok (.aload_n 0, 1) := by decide +kernel
theorem dX12_lies_62 : decode cX12_lies 62 = .ok (.getfield 199, 3) := by decide +kernel
theorem dX12_lies_65 : decode cX12_lies 65 = .ok (.aload_n 0, 1) := by decide +kernel
theorem dX12_lies_66 : decode cX12_lies 66 = .ok (.getfield 129, 3) := by decide +kernel
theorem dX12_lies_69 : decode cX12_lies 69 = .ok (.iload_n 1, 1) := by decide +kernel
theorem dX12_lies_70 : decode cX12_lies 70 = .ok (.sipush 4095, 3) := by decide +kernel
theorem dX12_lies_73 : decode cX12_lies 73 = .ok (.iand, 1) := by decide +kernel
theorem dX12_lies_74 : decode cX12_lies 74 = .ok (.iastore, 1) := by decide +kernel
theorem dX12_lies_75 : decode cX12_lies 75 = .ok (.aload_n 0, 1) := by decide +kernel
theorem dX12_lies_76 : decode cX12_lies 76 = .ok (.dup, 1) := by decide +kernel
theorem dX12_lies_77 : decode cX12_lies 77 = .ok (.getfield 129, 3) := by decide +kernel
theorem dX12_lies_80 : decode cX12_lies 80 = .ok (.iconst 1, 1) := by decide +kernel
theorem dX12_lies_81 : decode cX12_lies 81 = .ok (.iadd, 1) := by decide +kernel
theorem dX12_lies_82 : decode cX12_lies 82 = .ok (.putfield 129, 3) := by decide +kernel
theorem dX12_lies_85 : decode cX12_lies 85 = .ok (.return_, 1) := by decide +kernel
theorem dX12_word_0 : decode cX12_word 0 = .ok (.iconst 0, 1) := by decide +kernel
theorem dX12_word_1 : decode cX12_word 1 = .ok (.istore_n 1, 1) := by decide +kernel
theorem dX12_word_2 : decode cX12_word 2 = .ok (.iconst (-1), 1) := by decide +kernel
theorem dX12_word_3 : decode cX12_word 3 = .ok (.istore_n 2, 1) := by decide +kernel
theorem dX12_word_4 : decode cX12_word 4 = .ok (.iconst 0, 1) := by decide +kernel
theorem dX12_word_5 : decode cX12_word 5 = .ok (.istore_n 3, 1) := by decide +kernel
theorem dX12_word_6 : decode cX12_word 6 = .ok (.iconst 0, 1) := by decide +kernel
theorem dX12_word_7 : decode cX12_word 7 = .ok (.istore 4, 2) := by decide +kernel
theorem dX12_word_9 : decode cX12_word 9 = .ok (.iconst (-1), 1) := by decide +kernel
theorem dX12_word_10 : decode cX12_word 10 = .ok (.istore 5, 2) := by decide +kernel
theorem dX12_word_12 : decode cX12_word 12 = .ok (.iconst (-1), 1) := by decide +kernel
theorem dX12_word_13 : decode cX12_word 13 = .ok (.istore 6, 2) := by decide +kernel
theorem dX12_word_15 : decode cX12_word 15 = .ok (.iconst 0, 1) := by decide +kernel
theorem dX12_word_16 : decode cX12_word 16 = .ok (.istore 7, 2) := by decide +kernel
theorem dX12_word_18 : decode cX12_word 18 = .ok (.aload_n 0, 1) := by decide +kernel
theorem dX12_word_19 : decode cX12_word 19 = .ok (.invokevirtual 186, 3) := by decide +kernel
theorem dX12_word_22 : decode cX12_word 22 = .ok (.ifCond .ne 31, 3) := by decide +kernel
theorem dX12_word_25 : decode cX12_word 25 = .ok (.aload_n 0, 1) := by decide +kernel
theorem dX12_word_26 : decode cX12_word 26 = .ok (.bipush 40, 2) := by decide +kernel
theorem dX12_word_28 : decode cX12_word 28 = .ok (.invokevirtual 123, 3) := by decide +kernel
theorem dX12_word_31 : decode cX12_word 31 = .ok (.ifCond .ne 22, 3) := by decide +kernel
theorem dX12_word_34 : decode cX12_word 34 = .ok (.aload_n 0, 1) := by decide +kernel
theorem dX12_word_35 : decode cX12_word 35 = .ok (.bipush 91, 2) := by decide +kernel
theorem dX12_word_37 : decode cX12_word 37 = .ok (.invokevirtual 123, 3) := by decide +kernel
theorem dX12_word_40 : decode cX12_word 40 = .ok (.ifCond .ne 13, 3) := by decide +kernel
theorem dX12_word_43 : decode cX12_word 43 = .ok (.aload_n 0, 1) := by decide +kernel
theorem dX12_word_44 : decode cX12_word 44 = .ok (.iconst 2, 1) := by decide +kernel
theorem dX12_word_45 : decode cX12_word 45 = .ok (.aload_n 0, 1) := by decide +kernel
theorem dX12_word_46 : decode cX12_word 46 = .ok (.getfield 34, 3) := by decide +kernel
theorem dX12_word_49 : decode cX12_word 49 = .ok (.invokevirtual 57, 3) := by decide +kernel
theorem dX12_word_52 : decode cX12_word 52 = .ok (.return_, 1) := by decide +kernel
theorem dX12_word_53 : decode cX12_word 53 = .ok (.aload_n 0, 1) := by decide +kernel
theorem dX12_word_54 : decode cX12_word 54 = .ok (.getfield 129, 3) := by decide +kernel
theorem dX12_word_57 : decode cX12_word 57 = .ok (.sipush 4095, 3) := by decide +kernel
theorem dX12_word_60 : decode cX12_word 60 = .ok (.if_icmp .le 16, 3) := by decide +kernel
theorem dX12_word_63 : decode cX12_word 63 = .ok (.aload_n 0, 1) := by decide +kernel
theorem dX12_word_64 : decode cX12_word 64 = .ok (.bipush 6, 2) := by decide +kernel
theorem dX12_word_66 : decode cX12_word 66 = .ok (.aload_n 0, 1) := by decide +kernel
theorem dX12_word_67 : decode cX12_word 67 = .ok (.getfield 166, 3) := by decide +kernel
theorem dX12_word_70 : decode cX12_word 70 = .ok (.invokevirtual 57, 3) := by decide +kernel
theorem dX12_word_73 : decode cX12_word 73 = .ok (.goto 32, 3) := by decide +kernel
theorem dX12_word_76 : decode cX12_word 76 = .ok (.aload_n 0, 1) := by decide +kernel
theorem dX12_word_77 : decode cX12_word 77 = .ok (.getfield 112, 3) := by decide +kernel
theorem dX12_word_80 : decode cX12_word 80 = .ok (.ifCond .eq 25, 3) := by decide +kernel
theorem dX12_word_83 : decode cX12_word 83 = .ok (.aload_n 0, 1) := by decide +kernel
theorem dX12_word_84 : decode cX12_word 84 = .ok (.getfield 193, 3) := by decide +kernel
theorem dX12_word_87 : decode cX12_word 87 = .ok (.aload_n 0, 1) := by decide +kernel
theorem dX12_word_88 : decode cX12_word 88 = .ok (.getfield 129, 3) := by decide +kernel
theorem dX12_word_91 : decode cX12_word 91 = .ok (.baload, 1) := by decide +kernel
theorem dX12_word_92 : decode cX12_word 92 = .ok (.ifCond .eq 13, 3) := by decide +kernel
theorem dX12_word_95 : decode cX12_word 95 = .ok (.aload_n 0, 1) := by decide +kernel
theorem dX12_word_96 : decode cX12_word 96 = .ok (.bipush 8, 2) := by decide +kernel
theorem dX12_word_98 : decode cX12_word 98 = .ok (.aload_n 0, 1) := by decide +kernel
theorem dX12_word_99 : decode cX12_word 99 = .ok (.getfield 166, 3) := by decide +kernel
theorem dX12_word_102 : decode cX12_word 102 = .ok (.invokevirtual 57, 3) := by decide +kernel
theorem dX12_word_105 : decode cX12_word 105 = .ok (.aload_n 0, 1) := by decide +kernel
theorem dX12_word_106 : decode cX12_word 106 = .ok (.getfield 19, 3) := by decide +kernel
theorem dX12_word_109 : decode cX12_word 109 = .ok (.ifCond .le 4, 3) := by decide +kernel
theorem dX12_word_112 : decode cX12_word 112 = .ok (.return_, 1) := by decide +kernel
theorem dX12_word_113 : decode cX12_word 113 = .ok (.aload_n 0, 1) := by decide +kernel
theorem dX12_word_114 : decode cX12_word 114 = .ok (.getfield 19, 3) := by decide +kernel
theorem dX12_word_117 : decode cX12_word 117 = .ok (.ifCond .ne 237, 3) := by decide +kernel
theorem dX12_word_120 : decode cX12_word 120 = .ok (.iload 7, 2) := by decide +kernel
theorem dX12_word_122 : decode cX12_word 122 = .ok (.ifCond .ne 232, 3) := by decide +kernel
theorem dX12_word_125 : decode cX12_word 125 = .ok (.aload_n 0, 1) := by decide +kernel
theorem dX12_word_126 : decode cX12_word 126 = .ok (.invokevirtual 186, 3) := by decide +kernel
theorem dX12_word_129 : decode cX12_word 129 = .ok (.ifCond .ne 21, 3) := by decide +kernel
theorem dX12_word_132 : decode cX12_word 132 = .ok (.aload_n 0, 1) := by decide +kernel
theorem dX12_word_133 : decode cX12_word 133 = .ok (.bipush 40, 2) := by decide +kernel
theorem dX12_word_135 : decode cX12_word 135 = .ok (.invokevirtual 123, 3) := by decide +kernel
theorem dX12_word_138 : decode cX12_word 138 = .ok (.ifCond .ne 12, 3) := by decide +kernel
theorem dX12_word_141 : decode cX12_word 141 = .ok (.aload_n 0, 1) := by decide +kernel
theorem dX12_word_142 : decode cX12_word 142 = .ok (.bipush 91, 2) := by decide +kernel
theorem dX12_word_144 : decode cX12_word 144 = .ok (.invokevirtual 123, 3) := by decide +kernel
theorem dX12_word_147 : decode cX12_word 147 = .ok (.ifCond .eq 207, 3) := by decide +kernel
theorem dX12_word_150 : decode cX12_word 150 = .ok (.aload_n 0, 1) := by decide +kernel
theorem dX12_word_151 : decode cX12_word 151 = .ok (.getfield 34, 3) := by decide +kernel
theorem dX12_word_154 : decode cX12_word 154 = .ok (.istore 8, 2) := by decide +kernel
theorem dX12_word_156 : decode cX12_word 156 = .ok (.iload 5, 2) := by decide +kernel
theorem dX12_word_158 : decode cX12_word 158 = .ok (.iconst (-1), 1) := by decide +kernel
theorem dX12_word_159 : decode cX12_word 159 = .ok (.if_icmp .eq 11, 3) := by decide +kernel
theorem dX12_word_162 : decode cX12_word 162 = .ok (.aload_n 0, 1) := by decide +kernel
theorem dX12_word_163 : decode cX12_word 163 = .ok (.iconst 2, 1) := by decide +kernel
theorem dX12_word_164 : decode cX12_word 164 = .ok (.iload 6, 2) := by decide +kernel
theorem dX12_word_166 : decode cX12_word 166 = .ok (.invokevirtual 57, 3) := by decide +kernel
theorem dX12_word_169 : decode cX12_word 169 = .ok (.return_, 1) := by decide +kernel
theorem dX12_word_170 : decode cX12_word 170 = .ok (.aload_n 0, 1) := by decide +kernel
theorem dX12_word_171 : decode cX12_word 171 = .ok (.getfield 37, 3) := by decide +kernel
theorem dX12_word_174 : decode cX12_word 174 = .ok (.iconst 4, 1) := by decide +kernel
theorem dX12_word_175 : decode cX12_word 175 = .ok (.if_icmp .ne 25, 3) := by decide +kernel
theorem dX12_word_178 : decode cX12_word 178 = .ok (.aload_n 0, 1) := by decide +kernel
theorem dX12_word_179 : decode cX12_word 179 = .ok (.getfield 64, 3) := by decide +kernel
theorem dX12_word_182 : decode cX12_word 182 = .ok (.bipush 40, 2) := by decide +kernel
theorem dX12_word_184 : decode cX12_word 184 = .ok (.if_icmp .eq 12, 3) := by decide +kernel
theorem dX12_word_187 : decode cX12_word 187 = .ok (.aload_n 0, 1) := by decide +kernel
theorem dX12_word_188 : decode cX12_word 188 = .ok (.getfield 64, 3) := by decide +kernel
theorem dX12_word_191 : decode cX12_word 191 = .ok (.bipush 91, 2) := by decide +kernel
theorem dX12_word_193 : decode cX12_word 193 = .ok (.if_icmp .ne 7, 3) := by decide +kernel
theorem dX12_word_196 : decode cX12_word 196 = .ok (.iconst 1, 1) := by decide +kernel
theorem dX12_word_197 : decode cX12_word 197 = .ok (.goto 4, 3) := by decide +kernel
theorem dX12_word_200 : decode cX12_word 200 = .ok (.iconst 0, 1) := by decide +kernel
theorem dX12_word_201 : decode cX12_word 201 = .ok (.istore 7, 2) := by decide +kernel
theorem dX12_word_203 : decode cX12_word 203 = .ok (.iload 7, 2) := by decide +kernel
theorem dX12_word_205 : decode cX12_word 205 = .ok (.ifCond .eq 10, 3) := by decide +kernel
theorem dX12_word_208 : decode cX12_word 208 = .ok (.aload_n 0, 1) := by decide +kernel
theorem dX12_word_209 : decode cX12_word 209 = .ok (.invokevirtual 202, 3) := by decide +kernel
theorem dX12_word_212 : decode cX12_word 212 = .ok (.goto 7, 3) := by decide +kernel
theorem dX12_word_215 : decode cX12_word 215 = .ok (.aload_n 0, 1) := by decide +kernel
theorem dX12_word_216 : decode cX12_word 216 = .ok (.invokevirtual 177, 3) := by decide +kernel
theorem dX12_word_219 : decode cX12_word 219 = .ok (.istore 9, 2) := by decide +kernel
theorem dX12_word_221 : decode cX12_word 221 = .ok (.aload_n 0, 1) := by decide +kernel
theorem dX12_word_222 : decode cX12_word 222 = .ok (.getfield 19, 3) := by decide +kernel
theorem dX12_word_225 : decode cX12_word 225 = .ok (.ifCond .le 4, 3) := by decide +kernel
theorem dX12_word_228 : decode cX12_word 228 = .ok (.return_, 1) := by decide +kernel
theorem dX12_word_229 : decode cX12_word 229 = .ok (.iload 7, 2) := by decide +kernel
theorem dX12_word_231 : decode cX12_word 231 = .ok (.ifCond .ne 15, 3) := by decide +kernel
theorem dX12_word_234 : decode cX12_word 234 = .ok (.aload_n 0, 1) := by decide +kernel
theorem dX12_word_235 : decode cX12_word 235 = .ok (.getfield 132, 3) := by decide +kernel
theorem dX12_word_238 : decode cX12_word 238 = .ok (.iconst (-1), 1) := by decide +kernel
theorem dX12_word_239 : decode cX12_word 239 = .ok (.if_icmp .eq 7, 3) := by decide +kernel
theorem dX12_word_242 : decode cX12_word 242 = .ok (.iconst 1, 1) := by decide +kernel
theorem dX12_word_243 : decode cX12_word 243 = .ok (.goto 4, 3) := by decide +kernel
theorem dX12_word_246 : decode cX12_word 246 = .ok (.iconst 0, 1) := by decide +kernel
theorem dX12_word_247 : decode cX12_word 247 = .ok (.istore 10, 2) := by decide +kernel
theorem dX12_word_249 : decode cX12_word 249 = .ok (.iload_n 3, 1) := by decide +kernel
theorem dX12_word_250 : decode cX12_word 250 = .ok (.ifCond .ne 29, 3) := by decide +kernel
theorem dX12_word_253 : decode cX12_word 253 = .ok (.iload 10, 2) := by decide +kernel
theorem dX12_word_255 : decode cX12_word 255 = .ok (.ifCond .eq 22, 3) := by decide +kernel
theorem dX12_word_258 : decode cX12_word 258 = .ok (.aload_n 0, 1) := by decide +kernel
theorem dX12_word_259 : decode cX12_word 259 = .ok (.getfield 132, 3) := by decide +kernel
theorem dX12_word_262 : decode cX12_word 262 = .ok (.iconst 0, 1) := by decide +kernel
theorem dX12_word_263 : decode cX12_word 263 = .ok (.iconst 5, 1) := by decide +kernel
theorem dX12_word_264 : decode cX12_word 264 = .ok (.invokestatic 15, 3) := by decide +kernel
theorem dX12_word_267 : decode cX12_word 267 = .ok (.ifCond .eq 10, 3) := by decide +kernel
theorem dX12_word_270 : decode cX12_word 270 = .ok (.aload_n 0, 1) := by decide +kernel
theorem dX12_word_271 : decode cX12_word 271 = .ok (.getfield 132, 3) := by decide +kernel
theorem dX12_word_274 : decode cX12_word 274 = .ok (.goto 4, 3) := by decide +kernel
theorem dX12_word_277 : decode cX12_word 277 = .ok (.iconst (-1), 1) := by decide +kernel
theorem dX12_word_278 : decode cX12_word 278 = .ok (.istore_n 2, 1) := by decide +kernel
theorem dX12_word_279 : decode cX12_word 279 = .ok (.iload_n 3, 1) := by decide +kernel
theorem dX12_word_280 : decode cX12_word 280 = .ok (.ifCond .le 63, 3) := by decide +kernel
theorem dX12_word_283 : decode cX12_word 283 = .ok (.iload_n 2, 1) := by decide +kernel
theorem dX12_word_284 : decode cX12_word 284 = .ok (.iconst (-1), 1) := by decide +kernel
theorem dX12_word_285 : decode cX12_word 285 = .ok (.if_icmp .eq 58, 3) := by decide +kernel
theorem dX12_word_288 : decode cX12_word 288 = .ok (.iload 10, 2) := by decide +kernel
theorem dX12_word_290 : decode cX12_word 290 = .ok (.ifCond .eq 45, 3) := by decide +kernel
theorem dX12_word_293 : decode cX12_word 293 = .ok (.aload_n 0, 1) := by decide +kernel
theorem dX12_word_294 : decode cX12_word 294 = .ok (.getfield 132, 3) := by decide +kernel
theorem dX12_word_297 : decode cX12_word 297 = .ok (.bipush 6, 2) := by decide +kernel
theorem dX12_word_299 : decode cX12_word 299 = .ok (.if_icmp .eq 12, 3) := by decide +kernel
theorem dX12_word_302 : decode cX12_word 302 = .ok (.aload_n 0, 1) := by decide +kernel
theorem dX12_word_303 : decode cX12_word 303 = .ok (.getfield 132, 3) := by decide +kernel
theorem dX12_word_306 : decode cX12_word 306 = .ok (.bipush 7, 2) := by decide +kernel
theorem dX12_word_308 : decode cX12_word 308 = .ok (.if_icmp .ne 27, 3) := by decide +kernel
theorem dX12_word_311 : decode cX12_word 311 = .ok (.iload 4, 2) := by decide +kernel
theorem dX12_word_313 : decode cX12_word 313 = .ok (.ifCond .ne 12, 3) := by decide +kernel
theorem dX12_word_316 : decode cX12_word 316 = .ok (.aload_n 0, 1) := by decide +kernel
theorem dX12_word_317 : decode cX12_word 317 = .ok (.getfield 132, 3) := by decide +kernel
theorem dX12_word_320 : decode cX12_word 320 = .ok (.bipush 6, 2) := by decide +kernel
theorem dX12_word_322 : decode cX12_word 322 = .ok (.if_icmp .ne 7, 3) := by decide +kernel
theorem dX12_word_325 : decode cX12_word 325 = .ok (.iconst 1, 1) := by decide +kernel
theorem dX12_word_326 : decode cX12_word 326 = .ok (.goto 4, 3) := by decide +kernel
theorem dX12_word_329 : decode cX12_word 329 = .ok (.iconst 0, 1) := by decide +kernel
theorem dX12_word_330 : decode cX12_word 330 = .ok (.istore 4, 2) := by decide +kernel
theorem dX12_word_332 : decode cX12_word 332 = .ok (.goto 11, 3) := by decide +kernel
theorem dX12_word_335 : decode cX12_word 335 = .ok (.iload 9, 2) := by decide +kernel
theorem dX12_word_337 : decode cX12_word 337 = .ok (.istore 5, 2) := by decide +kernel
theorem dX12_word_339 : decode cX12_word 339 = .ok (.iload 8, 2) := by decide +kernel
theorem dX12_word_341 : decode cX12_word 341 = .ok (.istore 6, 2) := by decide +kernel
theorem dX12_word_343 : decode cX12_word 343 = .ok (.iload_n 1, 1) := by decide +kernel
theorem dX12_word_344 : decode cX12_word 344 = .ok (.iload 9, 2) := by decide +kernel
theorem dX12_word_346 : decode cX12_word 346 = .ok (.ior, 1) := by decide +kernel
theorem dX12_word_347 : decode cX12_word 347 = .ok (.istore_n 1, 1) := by decide +kernel
theorem dX12_word_348 : decode cX12_word 348 = .ok (.iinc 3 1, 3) := by decide +kernel
theorem dX12_word_351 : decode cX12_word 351 = .ok (.goto (-238), 3) := by decide +kernel
theorem dX12_word_354 : decode cX12_word 354 = .ok (.aload_n 0, 1) := by decide +kernel
theorem dX12_word_355 : decode cX12_word 355 = .ok (.getfield 19, 3) := by decide +kernel
theorem dX12_word_358 : decode cX12_word 358 = .ok (.ifCond .le 4, 3) := by decide +kernel
theorem dX12_word_361 : decode cX12_word 361 = .ok (.return_, 1) := by decide +kernel
theorem dX12_word_362 : decode cX12_word 362 = .ok (.iload_n 2, 1) := by decide +kernel
theorem dX12_word_363 : decode cX12_word 363 = .ok (.iconst (-1), 1) := by decide +kernel
theorem dX12_word_364 : decode cX12_word 364 = .ok (.if_icmp .eq 34, 3) := by decide +kernel
theorem dX12_word_367 : decode cX12_word 367 = .ok (.iload_n 3, 1) := by decide +kernel
theorem dX12_word_368 : decode cX12_word 368 = .ok (.iconst 1, 1) := by decide +kernel
theorem dX12_word_369 : decode cX12_word 369 = .ok (.if_icmp .le 29, 3) := by decide +kernel
theorem dX12_word_372 : decode cX12_word 372 = .ok (.aload_n 0, 1) := by decide +kernel
theorem dX12_word_373 : decode cX12_word 373 = .ok (.getstatic 138, 3) := by decide +kernel
theorem dX12_word_376 : decode cX12_word 376 = .ok (.iload_n 2, 1) := by decide +kernel
theorem dX12_word_377 : decode cX12_word 377 = .ok (.iaload, 1) := by decide +kernel
theorem dX12_word_378 : decode cX12_word 378 = .ok (.iload 4, 2) := by decide +kernel
theorem dX12_word_380 : decode cX12_word 380 = .ok (.iload 5, 2) := by decide +kernel
theorem dX12_word_382 : decode cX12_word 382 = .ok (.iconst (-1), 1) := by decide +kernel
theorem dX12_word_383 : decode cX12_word 383 = .ok (.if_icmp .ne 7, 3) := by decide +kernel
theorem dX12_word_386 : decode cX12_word 386 = .ok (.iconst 0, 1) := by decide +kernel
theorem dX12_word_387 : decode cX12_word 387 = .ok (.goto 5, 3) := by decide +kernel
theorem dX12_word_390 : decode cX12_word 390 = .ok (.iload 5, 2) := by decide +kernel
theorem dX12_word_392 : decode cX12_word 392 = .ok (.iload 6, 2) := by decide +kernel
theorem dX12_word_394 : decode cX12_word 394 = .ok (.invokevirtual 205, 3) := by decide +kernel
theorem dX12_word_397 : decode cX12_word 397 = .ok (.istore_n 1, 1) := by decide +kernel
theorem dX12_word_398 : decode cX12_word 398 = .ok (.aload_n 0, 1) := by decide +kernel
theorem dX12_word_399 : decode cX12_word 399 = .ok (.getfield 19, 3) := by decide +kernel
theorem dX12_word_402 : decode cX12_word 402 = .ok (.ifCond .ne 8, 3) := by decide +kernel
theorem dX12_word_405 : decode cX12_word 405 = .ok (.aload_n 0, 1) := by decide +kernel
theorem dX12_word_406 : decode cX12_word 406 = .ok (.iload_n 1, 1) := by decide +kernel
theorem dX12_word_407 : decode cX12_word 407 = .ok (.invokevirtual 190, 3) := by decide +kernel
theorem dX12_word_410 : decode cX12_word 410 = .ok (.return_, 1) := by decide +kernel
theorem dX12_memory_0 : decode cX12_memory 0 = .ok (.iload_n 1, 1) := by decide +kernel
theorem dX12_memory_1 : decode cX12_memory 1 = .ok (.iload_n 2, 1) := by decide +kernel
theorem dX12_memory_2 : decode cX12_memory 2 = .ok (.ifCond .eq 9, 3) := by decide +kernel
theorem dX12_memory_5 : decode cX12_memory 5 = .ok (.sipush 256, 3) := by decide +kernel
theorem dX12_memory_8 : decode cX12_memory 8 = .ok (.goto 4, 3) := by decide +kernel
theorem dX12_memory_11 : decode cX12_memory 11 = .ok (.iconst 0, 1) := by decide +kernel
theorem dX12_memory_12 : decode cX12_memory 12 = .ok (.ior, 1) := by decide +kernel
theorem dX12_memory_13 : decode cX12_memory 13 = .ok (.istore 5, 2) := by decide +kernel
theorem dX12_memory_15 : decode cX12_memory 15 = .ok (.iload_n 3, 1) := by decide +kernel
theorem dX12_memory_16 : decode cX12_memory 16 = .ok (.sipush 128, 3) := by decide +kernel
theorem dX12_memory_19 : decode cX12_memory 19 = .ok (.if_icmp .ge 8, 3) := by decide +kernel
theorem dX12_memory_22 : decode cX12_memory 22 = .ok (.iload 5, 2) := by decide +kernel
theorem dX12_memory_24 : decode cX12_memory 24 = .ok (.iload_n 3, 1) := by decide +kernel
theorem dX12_memory_25 : decode cX12_memory 25 = .ok (.ior, 1) := by decide +kernel
theorem dX12_memory_26 : decode cX12_memory 26 = .ok (.ireturn, 1) := by decide +kernel
theorem dX12_memory_27 : decode cX12_memory 27 = .ok (.iload_n 3, 1) := by decide +kernel
theorem dX12_memory_28 : decode cX12_memory 28 = .ok (.sipush 128, 3) := by decide +kernel
theorem dX12_memory_31 : decode cX12_memory 31 = .ok (.idiv, 1) := by decide +kernel
theorem dX12_memory_32 : decode cX12_memory 32 = .ok (.aload_n 0, 1) := by decide +kernel
theorem dX12_memory_33 : decode cX12_memory 33 = .ok (.getfield 129, 3) := by decide +kernel
theorem dX12_memory_36 : decode cX12_memory 36 = .ok (.sipush 128, 3) := by decide +kernel
theorem dX12_memory_39 : decode cX12_memory 39 = .ok (.idiv, 1) := by decide +kernel
theorem dX12_memory_40 : decode cX12_memory 40 = .ok (.if_icmp .ne 15, 3) := by decide +kernel
theorem dX12_memory_43 : decode cX12_memory 43 = .ok (.iload 5, 2) := by decide +kernel
theorem dX12_memory_45 : decode cX12_memory 45 = .ok (.sipush 128, 3) := by decide +kernel
theorem dX12_memory_48 : decode cX12_memory 48 = .ok (.ior, 1) := by decide +kernel
theorem dX12_memory_49 : decode cX12_memory 49 = .ok (.iload_n 3, 1) := by decide +kernel
theorem dX12_memory_50 : decode cX12_memory 50 = .ok (.bipush 127, 2) := by decide +kernel
theorem dX12_memory_52 : decode cX12_memory 52 = .ok (.iand, 1) := by decide +kernel
theorem dX12_memory_53 : decode cX12_memory 53 = .ok (.ior, 1) := by decide +kernel
theorem dX12_memory_54 : decode cX12_memory 54 = .ok (.ireturn, 1) := by decide +kernel
theorem dX12_memory_55 : decode cX12_memory 55 = .ok (.aload_n 0, 1) := by decide +kernel
theorem dX12_memory_56 : decode cX12_memory 56 = .ok (.getfield 112, 3) := by decide +kernel
theorem dX12_memory_59 : decode cX12_memory 59 = .ok (.ifCond .ne 6, 3) := by decide +kernel
theorem dX12_memory_62 : decode cX12_memory 62 = .ok (.iload 5, 2) := by decide +kernel
theorem dX12_memory_64 : decode cX12_memory 64 = .ok (.ireturn, 1) := by decide +kernel
theorem dX12_memory_65 : decode cX12_memory 65 = .ok (.iload_n 2, 1) := by decide +kernel
theorem dX12_memory_66 : decode cX12_memory 66 = .ok (.ifCond .eq 14, 3) := by decide +kernel
theorem dX12_memory_69 : decode cX12_memory 69 = .ok (.aload_n 0, 1) := by decide +kernel
theorem dX12_memory_70 : decode cX12_memory 70 = .ok (.bipush 7, 2) := by decide +kernel
theorem dX12_memory_72 : decode cX12_memory 72 = .ok (.iload 4, 2) := by decide +kernel
theorem dX12_memory_74 : decode cX12_memory 74 = .ok (.invokevirtual 57, 3) := by decide +kernel
theorem dX12_memory_77 : decode cX12_memory 77 = .ok (.iload 5, 2) := by decide +kernel
theorem dX12_memory_79 : decode cX12_memory 79 = .ok (.ireturn, 1) := by decide +kernel
theorem dX12_memory_80 : decode cX12_memory 80 = .ok (.aload_n 0, 1) := by decide +kernel
theorem dX12_memory_81 : decode cX12_memory 81 = .ok (.iload_n 3, 1) := by decide +kernel
theorem dX12_memory_82 : decode cX12_memory 82 = .ok (.aload_n 0, 1) := by decide +kernel
theorem dX12_memory_83 : decode cX12_memory 83 = .ok (.getfield 129, 3) := by decide +kernel
theorem dX12_memory_86 : decode cX12_memory 86 = .ok (.sipush 128, 3) := by decide +kernel
theorem dX12_memory_89 : decode cX12_memory 89 = .ok (.idiv, 1) := by decide +kernel
theorem dX12_memory_90 : decode cX12_memory 90 = .ok (.iload 4, 2) := by decide +kernel
theorem dX12_memory_92 : decode cX12_memory 92 = .ok (.invokevirtual 209, 3) := by decide +kernel
theorem dX12_memory_95 : decode cX12_memory 95 = .ok (.istore 6, 2) := by decide +kernel
theorem dX12_memory_97 : decode cX12_memory 97 = .ok (.iload 5, 2) := by decide +kernel
theorem dX12_memory_99 : decode cX12_memory 99 = .ok (.sipush 256, 3) := by decide +kernel
theorem dX12_memory_102 : decode cX12_memory 102 = .ok (.ior, 1) := by decide +kernel
theorem dX12_memory_103 : decode cX12_memory 103 = .ok (.iload 6, 2) := by decide +kernel
theorem dX12_memory_105 : decode cX12_memory 105 = .ok (.sipush 128, 3) := by decide +kernel
theorem dX12_memory_108 : decode cX12_memory 108 = .ok (.if_icmp .ge 8, 3) := by decide +kernel
theorem dX12_memory_111 : decode cX12_memory 111 = .ok (.iload 6, 2) := by decide +kernel
theorem dX12_memory_113 : decode cX12_memory 113 = .ok (.goto 12, 3) := by decide +kernel
theorem dX12_memory_116 : decode cX12_memory 116 = .ok (.sipush 128, 3) := by decide +kernel
theorem dX12_memory_119 : decode cX12_memory 119 = .ok (.iload 6, 2) := by decide +kernel
theorem dX12_memory_121 : decode cX12_memory 121 = .ok (.bipush 127, 2) := by decide +kernel
theorem dX12_memory_123 : decode cX12_memory 123 = .ok (.iand, 1) := by decide +kernel
theorem dX12_memory_124 : decode cX12_memory 124 = .ok (.ior, 1) := by decide +kernel
theorem dX12_memory_125 : decode cX12_memory 125 = .ok (.ior, 1) := by decide +kernel
theorem dX12_memory_126 : decode cX12_memory 126 = .ok (.ireturn, 1) := by decide +kernel
theorem dX12_literal_0 : decode cX12_literal 0 = .ok (.aload_n 0, 1) := by decide +kernel
theorem dX12_literal_1 : decode cX12_literal 1 = .ok (.getfield 34, 3) := by decide +kernel
theorem dX12_literal_4 : decode cX12_literal 4 = .ok (.istore_n 1, 1) := by decide +kernel
theorem dX12_literal_5 : decode cX12_literal 5 = .ok (.aload_n 0, 1) := by decide +kernel
theorem dX12_literal_6 : decode cX12_literal 6 = .ok (.getfield 64, 3) := by decide +kernel
theorem dX12_literal_9 : decode cX12_literal 9 = .ok (.bipush 40, 2) := by decide +kernel
theorem dX12_literal_11 : decode cX12_literal 11 = .ok (.if_icmp .ne 14, 3) := by decide +kernel
theorem dX12_literal_14 : decode cX12_literal 14 = .ok (.aload_n 0, 1) := by decide +kernel
theorem dX12_literal_15 : decode cX12_literal 15 = .ok (.getfield 129, 3) := by decide +kernel
theorem dX12_literal_18 : decode cX12_literal 18 = .ok (.sipush 128, 3) := by decide +kernel
theorem dX12_literal_21 : decode cX12_literal 21 = .ok (.idiv, 1) := by decide +kernel
theorem dX12_literal_22 : decode cX12_literal 22 = .ok (.goto 4, 3) := by decide +kernel
theorem dX12_literal_25 : decode cX12_literal 25 = .ok (.iconst 0, 1) := by decide +kernel
theorem dX12_literal_26 : decode cX12_literal 26 = .ok (.istore_n 2, 1) := by decide +kernel
theorem dX12_literal_27 : decode cX12_literal 27 = .ok (.aload_n 0, 1) := by decide +kernel
theorem dX12_literal_28 : decode cX12_literal 28 = .ok (.getfield 64, 3) := by decide +kernel
theorem dX12_literal_31 : decode cX12_literal 31 = .ok (.bipush 40, 2) := by decide +kernel
theorem dX12_literal_33 : decode cX12_literal 33 = .ok (.if_icmp .ne 8, 3) := by decide +kernel
theorem dX12_literal_36 : decode cX12_literal 36 = .ok (.bipush 41, 2) := by decide +kernel
theorem dX12_literal_38 : decode cX12_literal 38 = .ok (.goto 5, 3) := by decide +kernel
theorem dX12_literal_41 : decode cX12_literal 41 = .ok (.bipush 93, 2) := by decide +kernel
theorem dX12_literal_43 : decode cX12_literal 43 = .ok (.istore_n 3, 1) := by decide +kernel
theorem dX12_literal_44 : decode cX12_literal 44 = .ok (.aload_n 0, 1) := by decide +kernel
theorem dX12_literal_45 : decode cX12_literal 45 = .ok (.invokevirtual 126, 3) := by decide +kernel
theorem dX12_literal_48 : decode cX12_literal 48 = .ok (.aload_n 0, 1) := by decide +kernel
theorem dX12_literal_49 : decode cX12_literal 49 = .ok (.invokevirtual 177, 3) := by decide +kernel
theorem dX12_literal_52 : decode cX12_literal 52 = .ok (.istore 4, 2) := by decide +kernel
theorem dX12_literal_54 : decode cX12_literal 54 = .ok (.aload_n 0, 1) := by decide +kernel
theorem dX12_literal_55 : decode cX12_literal 55 = .ok (.iload_n 3, 1) := by decide +kernel
theorem dX12_literal_56 : decode cX12_literal 56 = .ok (.invokevirtual 123, 3) := by decide +kernel
theorem dX12_literal_59 : decode cX12_literal 59 = .ok (.ifCond .eq 7, 3) := by decide +kernel
theorem dX12_literal_62 : decode cX12_literal 62 = .ok (.aload_n 0, 1) := by decide +kernel
theorem dX12_literal_63 : decode cX12_literal 63 = .ok (.invokevirtual 126, 3) := by decide +kernel
theorem dX12_literal_66 : decode cX12_literal 66 = .ok (.aload_n 0, 1) := by decide +kernel
theorem dX12_literal_67 : decode cX12_literal 67 = .ok (.iconst (-1), 1) := by decide +kernel
theorem dX12_literal_68 : decode cX12_literal 68 = .ok (.putfield 132, 3) := by decide +kernel
theorem dX12_literal_71 : decode cX12_literal 71 = .ok (.aload_n 0, 1) := by decide +kernel
theorem dX12_literal_72 : decode cX12_literal 72 = .ok (.getfield 112, 3) := by decide +kernel
theorem dX12_literal_75 : decode cX12_literal 75 = .ok (.ifCond .eq 21, 3) := by decide +kernel
theorem dX12_literal_78 : decode cX12_literal 78 = .ok (.aload_n 0, 1) := by decide +kernel
theorem dX12_literal_79 : decode cX12_literal 79 = .ok (.getfield 19, 3) := by decide +kernel
theorem dX12_literal_82 : decode cX12_literal 82 = .ok (.ifCond .ne 14, 3) := by decide +kernel
theorem dX12_literal_85 : decode cX12_literal 85 = .ok (.aload_n 0, 1) := by decide +kernel
theorem dX12_literal_86 : decode cX12_literal 86 = .ok (.iload 4, 2) := by decide +kernel
theorem dX12_literal_88 : decode cX12_literal 88 = .ok (.iload_n 2, 1) := by decide +kernel
theorem dX12_literal_89 : decode cX12_literal 89 = .ok (.iload_n 1, 1) := by decide +kernel
theorem dX12_literal_90 : decode cX12_literal 90 = .ok (.invokevirtual 209, 3) := by decide +kernel
theorem dX12_literal_93 : decode cX12_literal 93 = .ok (.goto 4, 3) := by decide +kernel
theorem dX12_literal_96 : decode cX12_literal 96 = .ok (.iconst 0, 1) := by decide +kernel
theorem dX12_literal_97 : decode cX12_literal 97 = .ok (.ireturn, 1) := by decide +kernel
theorem dX12_literalFor_0 : decode cX12_literalFor 0 = .ok (.iload_n 2, 1) := by decide +kernel
theorem dX12_literalFor_1 : decode cX12_literalFor 1 = .ok (.bipush 31, 2) := by decide +kernel
theorem dX12_literalFor_3 : decode cX12_literalFor 3 = .ok (.if_icmp .le 15, 3) := by decide +kernel
theorem dX12_literalFor_6 : decode cX12_literalFor 6 = .ok (.aload_n 0, 1) := by decide +kernel
theorem dX12_literalFor_7 : decode cX12_literalFor 7 = .ok (.bipush 6, 2) := by decide +kernel
theorem dX12_literalFor_9 : decode cX12_literalFor 9 = .ok (.aload_n 0, 1) := by decide +kernel
theorem dX12_literalFor_10 : decode cX12_literalFor 10 = .ok (.getfield 166, 3) := by decide +kernel
theorem dX12_literalFor_13 : decode cX12_literalFor 13 = .ok (.invokevirtual 57, 3) := by decide +kernel
theorem dX12_literalFor_16 : decode cX12_literalFor 16 = .ok (.iconst 0, 1) := by decide +kernel
theorem dX12_literalFor_17 : decode cX12_literalFor 17 = .ok (.ireturn, 1) := by decide +kernel
theorem dX12_literalFor_18 : decode cX12_literalFor 18 = .ok (.sipush 128, 3) := by decide +kernel
theorem dX12_literalFor_21 : decode cX12_literalFor 21 = .ok (.iload_n 2, 1) := by decide +kernel
theorem dX12_literalFor_22 : decode cX12_literalFor 22 = .ok (.imul, 1) := by decide +kernel
theorem dX12_literalFor_23 : decode cX12_literalFor 23 = .ok (.bipush 127, 2) := by decide +kernel
theorem dX12_literalFor_25 : decode cX12_literalFor 25 = .ok (.iadd, 1) := by decide +kernel
theorem dX12_literalFor_26 : decode cX12_literalFor 26 = .ok (.istore 4, 2) := by decide +kernel
theorem dX12_literalFor_28 : decode cX12_literalFor 28 = .ok (.iload 4, 2) := by decide +kernel
theorem dX12_literalFor_30 : decode cX12_literalFor 30 = .ok (.aload_n 0, 1) := by decide +kernel
theorem dX12_literalFor_31 : decode cX12_literalFor 31 = .ok (.getfield 213, 3) := by decide +kernel
theorem dX12_literalFor_34 : decode cX12_literalFor 34 = .ok (.iload_n 2, 1) := by decide +kernel
theorem dX12_literalFor_35 : decode cX12_literalFor 35 = .ok (.iaload, 1) := by decide +kernel
theorem dX12_literalFor_36 : decode cX12_literalFor 36 = .ok (.if_icmp .le 23, 3) := by decide +kernel
theorem dX12_literalFor_39 : decode cX12_literalFor 39 = .ok (.aload_n 0, 1) := by decide +kernel
theorem dX12_literalFor_40 : decode cX12_literalFor 40 = .ok (.getfield 199, 3) := by decide +kernel
theorem dX12_literalFor_43 : decode cX12_literalFor 43 = .ok (.iload 4, 2) := by decide +kernel
theorem dX12_literalFor_45 : decode cX12_literalFor 45 = .ok (.iaload, 1) := by decide +kernel
theorem dX12_literalFor_46 : decode cX12_literalFor 46 = .ok (.iload_n 1, 1) := by decide +kernel
theorem dX12_literalFor_47 : decode cX12_literalFor 47 = .ok (.if_icmp .ne 6, 3) := by decide +kernel
theorem dX12_literalFor_50 : decode cX12_literalFor 50 = .ok (.iload 4, 2) := by decide +kernel
theorem dX12_literalFor_52 : decode cX12_literalFor 52 = .ok (.ireturn, 1) := by decide +kernel
theorem dX12_literalFor_53 : decode cX12_literalFor 53 = .ok (.iinc 4 (-1), 3) := by decide +kernel
theorem dX12_literalFor_56 : decode cX12_literalFor 56 = .ok (.goto (-28), 3) := by decide +kernel
theorem dX12_literalFor_59 : decode cX12_literalFor 59 = .ok (.aload_n 0, 1) := by decide +kernel
theorem dX12_literalFor_60 : decode cX12_literalFor 60 = .ok (.getfield 213, 3) := by decide +kernel
theorem dX12_literalFor_63 : decode cX12_literalFor 63 = .ok (.iload_n 2, 1) := by decide +kernel
theorem dX12_literalFor_64 : decode cX12_literalFor 64 = .ok (.iaload, 1) := by decide +kernel
theorem dX12_literalFor_65 : decode cX12_literalFor 65 = .ok (.istore 4, 2) := by decide +kernel
theorem dX12_literalFor_67 : decode cX12_literalFor 67 = .ok (.iload 4, 2) := by decide +kernel
theorem dX12_literalFor_69 : decode cX12_literalFor 69 = .ok (.sipush 128, 3) := by decide +kernel
theorem dX12_literalFor_72 : decode cX12_literalFor 72 = .ok (.iload_n 2, 1) := by decide +kernel
theorem dX12_literalFor_73 : decode cX12_literalFor 73 = .ok (.imul, 1) := by decide +kernel
theorem dX12_literalFor_74 : decode cX12_literalFor 74 = .ok (.if_icmp .lt 22, 3) := by decide +kernel
theorem dX12_literalFor_77 : decode cX12_literalFor 77 = .ok (.aload_n 0, 1) := by decide +kernel
theorem dX12_literalFor_78 : decode cX12_literalFor 78 = .ok (.getfield 196, 3) := by decide +kernel
theorem dX12_literalFor_81 : decode cX12_literalFor 81 = .ok (.iload 4, 2) := by decide +kernel
theorem dX12_literalFor_83 : decode cX12_literalFor 83 = .ok (.baload, 1) := by decide +kernel
theorem dX12_literalFor_84 : decode cX12_literalFor 84 = .ok (.ifCond .ne 12, 3) := by decide +kernel
theorem dX12_literalFor_87 : decode cX12_literalFor 87 = .ok (.iload 4, 2) := by decide +kernel
theorem dX12_literalFor_89 : decode cX12_literalFor 89 = .ok (.aload_n 0, 1) := by decide +kernel
theorem dX12_literalFor_90 : decode cX12_literalFor 90 = .ok (.getfield 129, 3) := by decide +kernel
theorem dX12_literalFor_93 : decode cX12_literalFor 93 = .ok (.if_icmp .ne 12, 3) := by decide +kernel
theorem dX12_literalFor_96 : decode cX12_literalFor 96 = .ok (.aload_n 0, 1) := by decide +kernel
theorem dX12_literalFor_97 : decode cX12_literalFor 97 = .ok (.bipush 8, 2) := by decide +kernel
theorem dX12_literalFor_99 : decode cX12_literalFor 99 = .ok (.iload_n 3, 1) := by decide +kernel
theorem dX12_literalFor_100 : decode cX12_literalFor 100 = .ok (.invokevirtual 57, 3) := by decide +kernel
theorem dX12_literalFor_103 : decode cX12_literalFor 103 = .ok (.iconst 0, 1) := by decide +kernel
theorem dX12_literalFor_104 : decode cX12_literalFor 104 = .ok (.ireturn, 1) := by decide +kernel
theorem dX12_literalFor_105 : decode cX12_literalFor 105 = .ok (.aload_n 0, 1) := by decide +kernel
theorem dX12_literalFor_106 : decode cX12_literalFor 106 = .ok (.getfield 193, 3) := by decide +kernel
theorem dX12_literalFor_109 : decode cX12_literalFor 109 = .ok (.iload 4, 2) := by decide +kernel
theorem dX12_literalFor_111 : decode cX12_literalFor 111 = .ok (.iconst 1, 1) := by decide +kernel
theorem dX12_literalFor_112 : decode cX12_literalFor 112 = .ok (.bastore, 1) := by decide +kernel
theorem dX12_literalFor_113 : decode cX12_literalFor 113 = .ok (.aload_n 0, 1) := by decide +kernel
theorem dX12_literalFor_114 : decode cX12_literalFor 114 = .ok (.getfield 199, 3) := by decide +kernel
theorem dX12_literalFor_117 : decode cX12_literalFor 117 = .ok (.iload 4, 2) := by decide +kernel
theorem dX12_literalFor_119 : decode cX12_literalFor 119 = .ok (.iload_n 1, 1) := by decide +kernel
theorem dX12_literalFor_120 : decode cX12_literalFor 120 = .ok (.iastore, 1) := by decide +kernel
theorem dX12_literalFor_121 : decode cX12_literalFor 121 = .ok (.aload_n 0, 1) := by decide +kernel
theorem dX12_literalFor_122 : decode cX12_literalFor 122 = .ok (.getfield 213, 3) := by decide +kernel
theorem dX12_literalFor_125 : decode cX12_literalFor 125 = .ok (.iload_n 2, 1) := by decide +kernel
theorem dX12_literalFor_126 : decode cX12_literalFor 126 = .ok (.dup2, 1) := by decide +kernel
theorem dX12_literalFor_127 : decode cX12_literalFor 127 = .ok (.iaload, 1) := by decide +kernel
theorem dX12_literalFor_128 : decode cX12_literalFor 128 = .ok (.iconst 1, 1) := by decide +kernel
theorem dX12_literalFor_129 : decode cX12_literalFor 129 = .ok (.isub, 1) := by decide +kernel
theorem dX12_literalFor_130 : decode cX12_literalFor 130 = .ok (.iastore, 1) := by decide +kernel
theorem dX12_literalFor_131 : decode cX12_literalFor 131 = .ok (.iload 4, 2) := by decide +kernel
theorem dX12_literalFor_133 : decode cX12_literalFor 133 = .ok (.ireturn, 1) := by decide +kernel
theorem dX12_assemble_0 : decode cX12_assemble 0 = .ok (.aload_n 0, 1) := by decide +kernel
theorem dX12_assemble_1 : decode cX12_assemble 1 = .ok (.aload_n 0, 1) := by decide +kernel
theorem dX12_assemble_2 : decode cX12_assemble 2 = .ok (.getfield 7, 3) := by decide +kernel
theorem dX12_assemble_5 : decode cX12_assemble 5 = .ok (.putfield 25, 3) := by decide +kernel
theorem dX12_assemble_8 : decode cX12_assemble 8 = .ok (.aload_n 0, 1) := by decide +kernel
theorem dX12_assemble_9 : decode cX12_assemble 9 = .ok (.iconst 0, 1) := by decide +kernel
theorem dX12_assemble_10 : decode cX12_assemble 10 = .ok (.putfield 7, 3) := by decide +kernel
theorem dX12_assemble_13 : decode cX12_assemble 13 = .ok (.iconst 0, 1) := by decide +kernel
theorem dX12_assemble_14 : decode cX12_assemble 14 = .ok (.istore_n 1, 1) := by decide +kernel
theorem dX12_assemble_15 : decode cX12_assemble 15 = .ok (.iload_n 1, 1) := by decide +kernel
theorem dX12_assemble_16 : decode cX12_assemble 16 = .ok (.aload_n 0, 1) := by decide +kernel
theorem dX12_assemble_17 : decode cX12_assemble 17 = .ok (.getfield 25, 3) := by decide +kernel
theorem dX12_assemble_20 : decode cX12_assemble 20 = .ok (.if_icmp .ge 21, 3) := by decide +kernel
theorem dX12_assemble_23 : decode cX12_assemble 23 = .ok (.aload_n 0, 1) := by decide +kernel
theorem dX12_assemble_24 : decode cX12_assemble 24 = .ok (.getfield 28, 3) := by decide +kernel
theorem dX12_assemble_27 : decode cX12_assemble 27 = .ok (.iload_n 1, 1) := by decide +kernel
theorem dX12_assemble_28 : decode cX12_assemble 28 = .ok (.aload_n 0, 1) := by decide +kernel
theorem dX12_assemble_29 : decode cX12_assemble 29 = .ok (.getfield 1, 3) := by decide +kernel
theorem dX12_assemble_32 : decode cX12_assemble 32 = .ok (.iload_n 1, 1) := by decide +kernel
theorem dX12_assemble_33 : decode cX12_assemble 33 = .ok (.iaload, 1) := by decide +kernel
theorem dX12_assemble_34 : decode cX12_assemble 34 = .ok (.iastore, 1) := by decide +kernel
theorem dX12_assemble_35 : decode cX12_assemble 35 = .ok (.iinc 1 1, 3) := by decide +kernel
theorem dX12_assemble_38 : decode cX12_assemble 38 = .ok (.goto (-23), 3) := by decide +kernel
theorem dX12_assemble_41 : decode cX12_assemble 41 = .ok (.aload_n 0, 1) := by decide +kernel
theorem dX12_assemble_42 : decode cX12_assemble 42 = .ok (.iconst 0, 1) := by decide +kernel
theorem dX12_assemble_43 : decode cX12_assemble 43 = .ok (.putfield 19, 3) := by decide +kernel
theorem dX12_assemble_46 : decode cX12_assemble 46 = .ok (.aload_n 0, 1) := by decide +kernel
theorem dX12_assemble_47 : decode cX12_assemble 47 = .ok (.iconst (-1), 1) := by decide +kernel
theorem dX12_assemble_48 : decode cX12_assemble 48 = .ok (.putfield 22, 3) := by decide +kernel
theorem dX12_assemble_51 : decode cX12_assemble 51 = .ok (.aload_n 0, 1) := by decide +kernel
theorem dX12_assemble_52 : decode cX12_assemble 52 = .ok (.iconst 0, 1) := by decide +kernel
theorem dX12_assemble_53 : decode cX12_assemble 53 = .ok (.putfield 92, 3) := by decide +kernel
theorem dX12_assemble_56 : decode cX12_assemble 56 = .ok (.iconst 0, 1) := by decide +kernel
theorem dX12_assemble_57 : decode cX12_assemble 57 = .ok (.istore_n 1, 1) := by decide +kernel
theorem dX12_assemble_58 : decode cX12_assemble 58 = .ok (.iload_n 1, 1) := by decide +kernel
theorem dX12_assemble_59 : decode cX12_assemble 59 = .ok (.sipush 4096, 3) := by decide +kernel
theorem dX12_assemble_62 : decode cX12_assemble 62 = .ok (.if_icmp .ge 30, 3) := by decide +kernel
theorem dX12_assemble_65 : decode cX12_assemble 65 = .ok (.aload_n 0, 1) := by decide +kernel
theorem dX12_assemble_66 : decode cX12_assemble 66 = .ok (.getfield 196, 3) := by decide +kernel
theorem dX12_assemble_69 : decode cX12_assemble 69 = .ok (.iload_n 1, 1) := by decide +kernel
theorem dX12_assemble_70 : decode cX12_assemble 70 = .ok (.iconst 0, 1) := by decide +kernel
theorem dX12_assemble_71 : decode cX12_assemble 71 = .ok (.bastore, 1) := by decide +kernel
theorem dX12_assemble_72 : decode cX12_assemble 72 = .ok (.aload_n 0, 1) := by decide +kernel
theorem dX12_assemble_73 : decode cX12_assemble 73 = .ok (.getfield 193, 3) := by decide +kernel
theorem dX12_assemble_76 : decode cX12_assemble 76 = .ok (.iload_n 1, 1) := by decide +kernel
theorem dX12_assemble_77 : decode cX12_assemble 77 = .ok (.iconst 0, 1) := by decide +kernel
theorem dX12_assemble_78 : decode cX12_assemble 78 = .ok (.bastore, 1) := by decide +kernel
theorem dX12_assemble_79 : decode cX12_assemble 79 = .ok (.aload_n 0, 1) := by decide +kernel
theorem dX12_assemble_80 : decode cX12_assemble 80 = .ok (.getfield 199, 3) := by decide +kernel
theorem dX12_assemble_83 : decode cX12_assemble 83 = .ok (.iload_n 1, 1) := by decide +kernel
theorem dX12_assemble_84 : decode cX12_assemble 84 = .ok (.iconst 0, 1) := by decide +kernel
theorem dX12_assemble_85 : decode cX12_assemble 85 = .ok (.iastore, 1) := by decide +kernel
theorem dX12_assemble_86 : decode cX12_assemble 86 = .ok (.iinc 1 1, 3) := by decide +kernel
theorem dX12_assemble_89 : decode cX12_assemble 89 = .ok (.goto (-31), 3) := by decide +kernel
theorem dX12_assemble_92 : decode cX12_assemble 92 = .ok (.iconst 0, 1) := by decide +kernel
theorem dX12_assemble_93 : decode cX12_assemble 93 = .ok (.istore_n 1, 1) := by decide +kernel
theorem dX12_assemble_94 : decode cX12_assemble 94 = .ok (.iload_n 1, 1) := by decide +kernel
theorem dX12_assemble_95 : decode cX12_assemble 95 = .ok (.bipush 32, 2) := by decide +kernel
theorem dX12_assemble_97 : decode cX12_assemble 97 = .ok (.if_icmp .ge 23, 3) := by decide +kernel
theorem dX12_assemble_100 : decode cX12_assemble 100 = .ok (.aload_n 0, 1) := by decide +kernel
theorem dX12_assemble_101 : decode cX12_assemble 101 = .ok (.getfield 213, 3) := by decide +kernel
theorem dX12_assemble_104 : decode cX12_assemble 104 = .ok (.iload_n 1, 1) := by decide +kernel
theorem dX12_assemble_105 : decode cX12_assemble 105 = .ok (.sipush 128, 3) := by decide +kernel
theorem dX12_assemble_108 : decode cX12_assemble 108 = .ok (.iload_n 1, 1) := by decide +kernel
theorem dX12_assemble_109 : decode cX12_assemble 109 = .ok (.imul, 1) := by decide +kernel
theorem dX12_assemble_110 : decode cX12_assemble 110 = .ok (.bipush 127, 2) := by decide +kernel
theorem dX12_assemble_112 : decode cX12_assemble 112 = .ok (.iadd, 1) := by decide +kernel
theorem dX12_assemble_113 : decode cX12_assemble 113 = .ok (.iastore, 1) := by decide +kernel
theorem dX12_assemble_114 : decode cX12_assemble 114 = .ok (.iinc 1 1, 3) := by decide +kernel
theorem dX12_assemble_117 : decode cX12_assemble 117 = .ok (.goto (-23), 3) := by decide +kernel
theorem dX12_assemble_120 : decode cX12_assemble 120 = .ok (.aload_n 0, 1) := by decide +kernel
theorem dX12_assemble_121 : decode cX12_assemble 121 = .ok (.iconst 0, 1) := by decide +kernel
theorem dX12_assemble_122 : decode cX12_assemble 122 = .ok (.invokevirtual 216, 3) := by decide +kernel
theorem dX12_assemble_125 : decode cX12_assemble 125 = .ok (.aload_n 0, 1) := by decide +kernel
theorem dX12_assemble_126 : decode cX12_assemble 126 = .ok (.getfield 19, 3) := by decide +kernel
theorem dX12_assemble_129 : decode cX12_assemble 129 = .ok (.ifCond .ne 8, 3) := by decide +kernel
theorem dX12_assemble_132 : decode cX12_assemble 132 = .ok (.aload_n 0, 1) := by decide +kernel
theorem dX12_assemble_133 : decode cX12_assemble 133 = .ok (.iconst 1, 1) := by decide +kernel
theorem dX12_assemble_134 : decode cX12_assemble 134 = .ok (.invokevirtual 216, 3) := by decide +kernel
theorem dX12_assemble_137 : decode cX12_assemble 137 = .ok (.aload_n 0, 1) := by decide +kernel
theorem dX12_assemble_138 : decode cX12_assemble 138 = .ok (.aload_n 0, 1) := by decide +kernel
theorem dX12_assemble_139 : decode cX12_assemble 139 = .ok (.getfield 19, 3) := by decide +kernel
theorem dX12_assemble_142 : decode cX12_assemble 142 = .ok (.putfield 220, 3) := by decide +kernel
theorem dX12_assemble_145 : decode cX12_assemble 145 = .ok (.aload_n 0, 1) := by decide +kernel
theorem dX12_assemble_146 : decode cX12_assemble 146 = .ok (.aload_n 0, 1) := by decide +kernel
theorem dX12_assemble_147 : decode cX12_assemble 147 = .ok (.getfield 22, 3) := by decide +kernel
theorem dX12_assemble_150 : decode cX12_assemble 150 = .ok (.putfield 223, 3) := by decide +kernel
theorem dX12_assemble_153 : decode cX12_assemble 153 = .ok (.aload_n 0, 1) := by decide +kernel
theorem dX12_assemble_154 : decode cX12_assemble 154 = .ok (.getfield 19, 3) := by decide +kernel
theorem dX12_assemble_157 : decode cX12_assemble 157 = .ok (.ifCond .le 5, 3) := by decide +kernel
theorem dX12_assemble_160 : decode cX12_assemble 160 = .ok (.iconst (-1), 1) := by decide +kernel
theorem dX12_assemble_161 : decode cX12_assemble 161 = .ok (.ireturn, 1) := by decide +kernel
theorem dX12_assemble_162 : decode cX12_assemble 162 = .ok (.iconst 0, 1) := by decide +kernel
theorem dX12_assemble_163 : decode cX12_assemble 163 = .ok (.istore_n 1, 1) := by decide +kernel
theorem dX12_assemble_164 : decode cX12_assemble 164 = .ok (.iconst 0, 1) := by decide +kernel
theorem dX12_assemble_165 : decode cX12_assemble 165 = .ok (.istore_n 2, 1) := by decide +kernel
theorem dX12_assemble_166 : decode cX12_assemble 166 = .ok (.iload_n 2, 1) := by decide +kernel
theorem dX12_assemble_167 : decode cX12_assemble 167 = .ok (.sipush 4096, 3) := by decide +kernel
theorem dX12_assemble_170 : decode cX12_assemble 170 = .ok (.if_icmp .ge 61, 3) := by decide +kernel
theorem dX12_assemble_173 : decode cX12_assemble 173 = .ok (.aload_n 0, 1) := by decide +kernel
theorem dX12_assemble_174 : decode cX12_assemble 174 = .ok (.getfield 226, 3) := by decide +kernel
theorem dX12_assemble_177 : decode cX12_assemble 177 = .ok (.iload_n 2, 1) := by decide +kernel
theorem dX12_assemble_178 : decode cX12_assemble 178 = .ok (.aload_n 0, 1) := by decide +kernel
theorem dX12_assemble_179 : decode cX12_assemble 179 = .ok (.getfield 196, 3) := by decide +kernel
theorem dX12_assemble_182 : decode cX12_assemble 182 = .ok (.iload_n 2, 1) := by decide +kernel
theorem dX12_assemble_183 : decode cX12_assemble 183 = .ok (.baload, 1) := by decide +kernel
theorem dX12_assemble_184 : decode cX12_assemble 184 = .ok (.ifCond .ne 12, 3) := by decide +kernel
theorem dX12_assemble_187 : decode cX12_assemble 187 = .ok (.aload_n 0, 1) := by decide +kernel
theorem dX12_assemble_188 : decode cX12_assemble 188 = .ok (.getfield 193, 3) := by decide +kernel
theorem dX12_assemble_191 : decode cX12_assemble 191 = .ok (.iload_n 2, 1) := by decide +kernel
theorem dX12_assemble_192 : decode cX12_assemble 192 = .ok (.baload, 1) := by decide +kernel
theorem dX12_assemble_193 : decode cX12_assemble 193 = .ok (.ifCond .eq 12, 3) := by decide +kernel
theorem dX12_assemble_196 : decode cX12_assemble 196 = .ok (.aload_n 0, 1) := by decide +kernel
theorem dX12_assemble_197 : decode cX12_assemble 197 = .ok (.getfield 199, 3) := by decide +kernel
theorem dX12_assemble_200 : decode cX12_assemble 200 = .ok (.iload_n 2, 1) := by decide +kernel
theorem dX12_assemble_201 : decode cX12_assemble 201 = .ok (.iaload, 1) := by decide +kernel
theorem dX12_assemble_202 : decode cX12_assemble 202 = .ok (.goto 4, 3) := by decide +kernel
theorem dX12_assemble_205 : decode cX12_assemble 205 = .ok (.iconst (-1), 1) := by decide +kernel
theorem dX12_assemble_206 : decode cX12_assemble 206 = .ok (.iastore, 1) := by decide +kernel
theorem dX12_assemble_207 : decode cX12_assemble 207 = .ok (.iload_n 1, 1) := by decide +kernel
theorem dX12_assemble_208 : decode cX12_assemble 208 = .ok (.aload_n 0, 1) := by decide +kernel
theorem dX12_assemble_209 : decode cX12_assemble 209 = .ok (.getfield 226, 3) := by decide +kernel
theorem dX12_assemble_212 : decode cX12_assemble 212 = .ok (.iload_n 2, 1) := by decide +kernel
theorem dX12_assemble_213 : decode cX12_assemble 213 = .ok (.iaload, 1) := by decide +kernel
theorem dX12_assemble_214 : decode cX12_assemble 214 = .ok (.iconst (-1), 1) := by decide +kernel
theorem dX12_assemble_215 : decode cX12_assemble 215 = .ok (.if_icmp .ne 7, 3) := by decide +kernel
theorem dX12_assemble_218 : decode cX12_assemble 218 = .ok (.iconst 0, 1) := by decide +kernel
theorem dX12_assemble_219 : decode cX12_assemble 219 = .ok (.goto 4, 3) := by decide +kernel
theorem dX12_assemble_222 : decode cX12_assemble 222 = .ok (.iconst 1, 1) := by decide +kernel
theorem dX12_assemble_223 : decode cX12_assemble 223 = .ok (.iadd, 1) := by decide +kernel
theorem dX12_assemble_224 : decode cX12_assemble 224 = .ok (.istore_n 1, 1) := by decide +kernel
theorem dX12_assemble_225 : decode cX12_assemble 225 = .ok (.iinc 2 1, 3) := by decide +kernel
theorem dX12_assemble_228 : decode cX12_assemble 228 = .ok (.goto (-62), 3) := by decide +kernel
theorem dX12_assemble_231 : decode cX12_assemble 231 = .ok (.iload_n 1, 1) := by decide +kernel
theorem dX12_assemble_232 : decode cX12_assemble 232 = .ok (.ireturn, 1) := by decide +kernel
theorem dX12_fault_0 : decode cX12_fault 0 = .ok (.iload_n 1, 1) := by decide +kernel
theorem dX12_fault_1 : decode cX12_fault 1 = .ok (.ifCond .ne 10, 3) := by decide +kernel
theorem dX12_fault_4 : decode cX12_fault 4 = .ok (.aload_n 0, 1) := by decide +kernel
theorem dX12_fault_5 : decode cX12_fault 5 = .ok (.getfield 220, 3) := by decide +kernel
theorem dX12_fault_8 : decode cX12_fault 8 = .ok (.goto 16, 3) := by decide +kernel
theorem dX12_fault_11 : decode cX12_fault 11 = .ok (.iload_n 1, 1) := by decide +kernel
theorem dX12_fault_12 : decode cX12_fault 12 = .ok (.iconst 1, 1) := by decide +kernel
theorem dX12_fault_13 : decode cX12_fault 13 = .ok (.if_icmp .ne 10, 3) := by decide +kernel
theorem dX12_fault_16 : decode cX12_fault 16 = .ok (.aload_n 0, 1) := by decide +kernel
theorem dX12_fault_17 : decode cX12_fault 17 = .ok (.getfield 223, 3) := by decide +kernel
theorem dX12_fault_20 : decode cX12_fault 20 = .ok (.goto 4, 3) := by decide +kernel
theorem dX12_fault_23 : decode cX12_fault 23 = .ok (.iconst (-1), 1) := by decide +kernel
theorem dX12_fault_24 : decode cX12_fault 24 = .ok (.ireturn, 1) := by decide +kernel
theorem dX12_made_0 : decode cX12_made 0 = .ok (.iload_n 1, 1) := by decide +kernel
theorem dX12_made_1 : decode cX12_made 1 = .ok (.iconst 0, 1) := by decide +kernel
theorem dX12_made_2 : decode cX12_made 2 = .ok (.sipush 4095, 3) := by decide +kernel
theorem dX12_made_5 : decode cX12_made 5 = .ok (.invokestatic 15, 3) := by decide +kernel
theorem dX12_made_8 : decode cX12_made 8 = .ok (.ifCond .eq 12, 3) := by decide +kernel
theorem dX12_made_11 : decode cX12_made 11 = .ok (.aload_n 0, 1) := by decide +kernel
theorem dX12_made_12 : decode cX12_made 12 = .ok (.getfield 226, 3) := by decide +kernel
theorem dX12_made_15 : decode cX12_made 15 = .ok (.iload_n 1, 1) := by decide +kernel
theorem dX12_made_16 : decode cX12_made 16 = .ok (.iaload, 1) := by decide +kernel
theorem dX12_made_17 : decode cX12_made 17 = .ok (.goto 4, 3) := by decide +kernel
theorem dX12_made_20 : decode cX12_made 20 = .ok (.iconst (-1), 1) := by decide +kernel
theorem dX12_made_21 : decode cX12_made 21 = .ok (.ireturn, 1) := by decide +kernel
theorem dX12_near_0 : decode cX12_near 0 = .ok (.iload_n 0, 1) := by decide +kernel
theorem dX12_near_1 : decode cX12_near 1 = .ok (.iload_n 1, 1) := by decide +kernel
theorem dX12_near_2 : decode cX12_near 2 = .ok (.if_icmp .ge 7, 3) := by decide +kernel
theorem dX12_near_5 : decode cX12_near 5 = .ok (.iload_n 1, 1) := by decide +kernel
theorem dX12_near_6 : decode cX12_near 6 = .ok (.goto 13, 3) := by decide +kernel
theorem dX12_near_9 : decode cX12_near 9 = .ok (.iload_n 0, 1) := by decide +kernel
theorem dX12_near_10 : decode cX12_near 10 = .ok (.iload_n 2, 1) := by decide +kernel
theorem dX12_near_11 : decode cX12_near 11 = .ok (.if_icmp .le 7, 3) := by decide +kernel
theorem dX12_near_14 : decode cX12_near 14 = .ok (.iload_n 2, 1) := by decide +kernel
theorem dX12_near_15 : decode cX12_near 15 = .ok (.goto 4, 3) := by decide +kernel
theorem dX12_near_18 : decode cX12_near 18 = .ok (.iload_n 0, 1) := by decide +kernel
theorem dX12_near_19 : decode cX12_near 19 = .ok (.ireturn, 1) := by decide +kernel
theorem dX12_init_0 : decode cX12_init 0 = .ok (.aload_n 0, 1) := by decide +kernel
theorem dX12_init_1 : decode cX12_init 1 = .ok (.invokespecial 229, 3) := by decide +kernel
theorem dX12_init_4 : decode cX12_init 4 = .ok (.aload_n 0, 1) := by decide +kernel
theorem dX12_init_5 : decode cX12_init 5 = .ok (.sipush 2000, 3) := by decide +kernel
theorem dX12_init_8 : decode cX12_init 8 = .ok (.newarray .int, 2) := by decide +kernel
theorem dX12_init_10 : decode cX12_init 10 = .ok (.putfield 1, 3) := by decide +kernel
theorem dX12_init_13 : decode cX12_init 13 = .ok (.aload_n 0, 1) := by decide +kernel
theorem dX12_init_14 : decode cX12_init 14 = .ok (.sipush 2000, 3) := by decide +kernel
theorem dX12_init_17 : decode cX12_init 17 = .ok (.newarray .int, 2) := by decide +kernel
theorem dX12_init_19 : decode cX12_init 19 = .ok (.putfield 28, 3) := by decide +kernel
theorem dX12_init_22 : decode cX12_init 22 = .ok (.aload_n 0, 1) := by decide +kernel
theorem dX12_init_23 : decode cX12_init 23 = .ok (.iconst (-1), 1) := by decide +kernel
theorem dX12_init_24 : decode cX12_init 24 = .ok (.putfield 223, 3) := by decide +kernel
theorem dX12_init_27 : decode cX12_init 27 = .ok (.aload_n 0, 1) := by decide +kernel
theorem dX12_init_28 : decode cX12_init 28 = .ok (.sipush 1400, 3) := by decide +kernel
theorem dX12_init_31 : decode cX12_init 31 = .ok (.newarray .int, 2) := by decide +kernel
theorem dX12_init_33 : decode cX12_init 33 = .ok (.putfield 98, 3) := by decide +kernel
theorem dX12_init_36 : decode cX12_init 36 = .ok (.aload_n 0, 1) := by decide +kernel
theorem dX12_init_37 : decode cX12_init 37 = .ok (.sipush 200, 3) := by decide +kernel
theorem dX12_init_40 : decode cX12_init 40 = .ok (.newarray .int, 2) := by decide +kernel
theorem dX12_init_42 : decode cX12_init 42 = .ok (.putfield 95, 3) := by decide +kernel
theorem dX12_init_45 : decode cX12_init 45 = .ok (.aload_n 0, 1) := by decide +kernel
theorem dX12_init_46 : decode cX12_init 46 = .ok (.sipush 200, 3) := by decide +kernel
theorem dX12_init_49 : decode cX12_init 49 = .ok (.newarray .int, 2) := by decide +kernel
theorem dX12_init_51 : decode cX12_init 51 = .ok (.putfield 120, 3) := by decide +kernel
theorem dX12_init_54 : decode cX12_init 54 = .ok (.aload_n 0, 1) := by decide +kernel
theorem dX12_init_55 : decode cX12_init 55 = .ok (.sipush 200, 3) := by decide +kernel
theorem dX12_init_58 : decode cX12_init 58 = .ok (.newarray .boolean, 2) := by decide +kernel
theorem dX12_init_60 : decode cX12_init 60 = .ok (.putfield 116, 3) := by decide +kernel
theorem dX12_init_63 : decode cX12_init 63 = .ok (.aload_n 0, 1) := by decide +kernel
theorem dX12_init_64 : decode cX12_init 64 = .ok (.sipush 4096, 3) := by decide +kernel
theorem dX12_init_67 : decode cX12_init 67 = .ok (.newarray .int, 2) := by decide +kernel
theorem dX12_init_69 : decode cX12_init 69 = .ok (.putfield 199, 3) := by decide +kernel
theorem dX12_init_72 : decode cX12_init 72 = .ok (.aload_n 0, 1) := by decide +kernel
theorem dX12_init_73 : decode cX12_init 73 = .ok (.sipush 4096, 3) := by decide +kernel
theorem dX12_init_76 : decode cX12_init 76 = .ok (.newarray .boolean, 2) := by decide +kernel
theorem dX12_init_78 : decode cX12_init 78 = .ok (.putfield 196, 3) := by decide +kernel
theorem dX12_init_81 : decode cX12_init 81 = .ok (.aload_n 0, 1) := by decide +kernel
theorem dX12_init_82 : decode cX12_init 82 = .ok (.sipush 4096, 3) := by decide +kernel
theorem dX12_init_85 : decode cX12_init 85 = .ok (.newarray .boolean, 2) := by decide +kernel
theorem dX12_init_87 : decode cX12_init 87 = .ok (.putfield 193, 3) := by decide +kernel
theorem dX12_init_90 : decode cX12_init 90 = .ok (.aload_n 0, 1) := by decide +kernel
end
section
theorem dX12_init_91 : decode cX12_init 91 = .ok (.sipush 4096, 3) := by decide +kernel
theorem dX12_init_94 : decode cX12_init 94 = .ok (.newarray .int, 2) := by decide +kernel
theorem dX12_init_96 : decode cX12_init 96 = .ok (.putfield 226, 3) := by decide +kernel
theorem dX12_init_99 : decode cX12_init 99 = .ok (.aload_n 0, 1) := by decide +kernel
theorem dX12_init_100 : decode cX12_init 100 = .ok (.bipush 32, 2) := by decide +kernel
theorem dX12_init_102 : decode cX12_init 102 = .ok (.newarray .int, 2) := by decide +kernel
theorem dX12_init_104 : decode cX12_init 104 = .ok (.putfield 213, 3) := by decide +kernel
theorem dX12_init_107 : decode cX12_init 107 = .ok (.aload_n 0, 1) := by decide +kernel
theorem dX12_init_108 : decode cX12_init 108 = .ok (.bipush 8, 2) := by decide +kernel
theorem dX12_init_110 : decode cX12_init 110 = .ok (.newarray .int, 2) := by decide +kernel
theorem dX12_init_112 : decode cX12_init 112 = .ok (.putfield 234, 3) := by decide +kernel
theorem dX12_init_115 : decode cX12_init 115 = .ok (.aload_n 0, 1) := by decide +kernel
theorem dX12_init_116 : decode cX12_init 116 = .ok (.iconst (-1), 1) := by decide +kernel
theorem dX12_init_117 : decode cX12_init 117 = .ok (.putfield 237, 3) := by decide +kernel
theorem dX12_init_120 : decode cX12_init 120 = .ok (.aload_n 0, 1) := by decide +kernel
theorem dX12_init_121 : decode cX12_init 121 = .ok (.iload_n 1, 1) := by decide +kernel
theorem dX12_init_122 : decode cX12_init 122 = .ok (.iconst 1, 1) := by decide +kernel
theorem dX12_init_123 : decode cX12_init 123 = .ok (.bipush 6, 2) := by decide +kernel
theorem dX12_init_125 : decode cX12_init 125 = .ok (.invokestatic 240, 3) := by decide +kernel
theorem dX12_init_128 : decode cX12_init 128 = .ok (.putfield 243, 3) := by decide +kernel
theorem dX12_init_131 : decode cX12_init 131 = .ok (.aload_n 0, 1) := by decide +kernel
theorem dX12_init_132 : decode cX12_init 132 = .ok (.iload_n 2, 1) := by decide +kernel
theorem dX12_init_133 : decode cX12_init 133 = .ok (.iconst 1, 1) := by decide +kernel
theorem dX12_init_134 : decode cX12_init 134 = .ok (.iconst 4, 1) := by decide +kernel
theorem dX12_init_135 : decode cX12_init 135 = .ok (.invokestatic 240, 3) := by decide +kernel
theorem dX12_init_138 : decode cX12_init 138 = .ok (.putfield 246, 3) := by decide +kernel
theorem dX12_init_141 : decode cX12_init 141 = .ok (.aload_n 0, 1) := by decide +kernel
theorem dX12_init_142 : decode cX12_init 142 = .ok (.iload_n 3, 1) := by decide +kernel
theorem dX12_init_143 : decode cX12_init 143 = .ok (.iconst 1, 1) := by decide +kernel
theorem dX12_init_144 : decode cX12_init 144 = .ok (.bipush 64, 2) := by decide +kernel
theorem dX12_init_146 : decode cX12_init 146 = .ok (.invokestatic 240, 3) := by decide +kernel
theorem dX12_init_149 : decode cX12_init 149 = .ok (.putfield 249, 3) := by decide +kernel
theorem dX12_init_152 : decode cX12_init 152 = .ok (.aload_n 0, 1) := by decide +kernel
theorem dX12_init_153 : decode cX12_init 153 = .ok (.iload 4, 2) := by decide +kernel
theorem dX12_init_155 : decode cX12_init 155 = .ok (.iconst 1, 1) := by decide +kernel
theorem dX12_init_156 : decode cX12_init 156 = .ok (.bipush 64, 2) := by decide +kernel
theorem dX12_init_158 : decode cX12_init 158 = .ok (.invokestatic 240, 3) := by decide +kernel
theorem dX12_init_161 : decode cX12_init 161 = .ok (.putfield 252, 3) := by decide +kernel
theorem dX12_init_164 : decode cX12_init 164 = .ok (.aload_n 0, 1) := by decide +kernel
theorem dX12_init_165 : decode cX12_init 165 = .ok (.getfield 243, 3) := by decide +kernel
theorem dX12_init_168 : decode cX12_init 168 = .ok (.istore 5, 2) := by decide +kernel
theorem dX12_init_170 : decode cX12_init 170 = .ok (.aload_n 0, 1) := by decide +kernel
theorem dX12_init_171 : decode cX12_init 171 = .ok (.aload_n 0, 1) := by decide +kernel
theorem dX12_init_172 : decode cX12_init 172 = .ok (.getfield 246, 3) := by decide +kernel
theorem dX12_init_175 : decode cX12_init 175 = .ok (.sipush 4096, 3) := by decide +kernel
theorem dX12_init_178 : decode cX12_init 178 = .ok (.multianewarray 255 2, 4) := by decide +kernel
theorem dX12_init_182 : decode cX12_init 182 = .ok (.putfield 257, 3) := by decide +kernel
theorem dX12_init_185 : decode cX12_init 185 = .ok (.aload_n 0, 1) := by decide +kernel
theorem dX12_init_186 : decode cX12_init 186 = .ok (.iload 5, 2) := by decide +kernel
theorem dX12_init_188 : decode cX12_init 188 = .ok (.sipush 4096, 3) := by decide +kernel
theorem dX12_init_191 : decode cX12_init 191 = .ok (.multianewarray 255 2, 4) := by decide +kernel
theorem dX12_init_195 : decode cX12_init 195 = .ok (.putfield 260, 3) := by decide +kernel
theorem dX12_init_198 : decode cX12_init 198 = .ok (.aload_n 0, 1) := by decide +kernel
theorem dX12_init_199 : decode cX12_init 199 = .ok (.iload 5, 2) := by decide +kernel
theorem dX12_init_201 : decode cX12_init 201 = .ok (.sipush 1024, 3) := by decide +kernel
theorem dX12_init_204 : decode cX12_init 204 = .ok (.multianewarray 255 2, 4) := by decide +kernel
theorem dX12_init_208 : decode cX12_init 208 = .ok (.putfield 263, 3) := by decide +kernel
theorem dX12_init_211 : decode cX12_init 211 = .ok (.aload_n 0, 1) := by decide +kernel
theorem dX12_init_212 : decode cX12_init 212 = .ok (.aload_n 0, 1) := by decide +kernel
theorem dX12_init_213 : decode cX12_init 213 = .ok (.getfield 246, 3) := by decide +kernel
theorem dX12_init_216 : decode cX12_init 216 = .ok (.newarray .int, 2) := by decide +kernel
theorem dX12_init_218 : decode cX12_init 218 = .ok (.putfield 266, 3) := by decide +kernel
theorem dX12_init_221 : decode cX12_init 221 = .ok (.aload_n 0, 1) := by decide +kernel
theorem dX12_init_222 : decode cX12_init 222 = .ok (.aload_n 0, 1) := by decide +kernel
theorem dX12_init_223 : decode cX12_init 223 = .ok (.getfield 246, 3) := by decide +kernel
theorem dX12_init_226 : decode cX12_init 226 = .ok (.newarray .boolean, 2) := by decide +kernel
theorem dX12_init_228 : decode cX12_init 228 = .ok (.putfield 269, 3) := by decide +kernel
theorem dX12_init_231 : decode cX12_init 231 = .ok (.aload_n 0, 1) := by decide +kernel
theorem dX12_init_232 : decode cX12_init 232 = .ok (.aload_n 0, 1) := by decide +kernel
theorem dX12_init_233 : decode cX12_init 233 = .ok (.getfield 246, 3) := by decide +kernel
theorem dX12_init_236 : decode cX12_init 236 = .ok (.newarray .boolean, 2) := by decide +kernel
theorem dX12_init_238 : decode cX12_init 238 = .ok (.putfield 272, 3) := by decide +kernel
theorem dX12_init_241 : decode cX12_init 241 = .ok (.iconst 0, 1) := by decide +kernel
theorem dX12_init_242 : decode cX12_init 242 = .ok (.istore 6, 2) := by decide +kernel
theorem dX12_init_244 : decode cX12_init 244 = .ok (.iload 6, 2) := by decide +kernel
theorem dX12_init_246 : decode cX12_init 246 = .ok (.aload_n 0, 1) := by decide +kernel
theorem dX12_init_247 : decode cX12_init 247 = .ok (.getfield 246, 3) := by decide +kernel
theorem dX12_init_250 : decode cX12_init 250 = .ok (.if_icmp .ge 17, 3) := by decide +kernel
theorem dX12_init_253 : decode cX12_init 253 = .ok (.aload_n 0, 1) := by decide +kernel
theorem dX12_init_254 : decode cX12_init 254 = .ok (.getfield 266, 3) := by decide +kernel
theorem dX12_init_257 : decode cX12_init 257 = .ok (.iload 6, 2) := by decide +kernel
theorem dX12_init_259 : decode cX12_init 259 = .ok (.iconst (-1), 1) := by decide +kernel
theorem dX12_init_260 : decode cX12_init 260 = .ok (.iastore, 1) := by decide +kernel
theorem dX12_init_261 : decode cX12_init 261 = .ok (.iinc 6 1, 3) := by decide +kernel
theorem dX12_init_264 : decode cX12_init 264 = .ok (.goto (-20), 3) := by decide +kernel
theorem dX12_init_267 : decode cX12_init 267 = .ok (.aload_n 0, 1) := by decide +kernel
theorem dX12_init_268 : decode cX12_init 268 = .ok (.iload 5, 2) := by decide +kernel
theorem dX12_init_270 : decode cX12_init 270 = .ok (.newarray .int, 2) := by decide +kernel
theorem dX12_init_272 : decode cX12_init 272 = .ok (.putfield 275, 3) := by decide +kernel
theorem dX12_init_275 : decode cX12_init 275 = .ok (.aload_n 0, 1) := by decide +kernel
theorem dX12_init_276 : decode cX12_init 276 = .ok (.iload 5, 2) := by decide +kernel
theorem dX12_init_278 : decode cX12_init 278 = .ok (.newarray .int, 2) := by decide +kernel
theorem dX12_init_280 : decode cX12_init 280 = .ok (.putfield 278, 3) := by decide +kernel
theorem dX12_init_283 : decode cX12_init 283 = .ok (.aload_n 0, 1) := by decide +kernel
theorem dX12_init_284 : decode cX12_init 284 = .ok (.iload 5, 2) := by decide +kernel
theorem dX12_init_286 : decode cX12_init 286 = .ok (.newarray .int, 2) := by decide +kernel
theorem dX12_init_288 : decode cX12_init 288 = .ok (.putfield 281, 3) := by decide +kernel
theorem dX12_init_291 : decode cX12_init 291 = .ok (.aload_n 0, 1) := by decide +kernel
theorem dX12_init_292 : decode cX12_init 292 = .ok (.iload 5, 2) := by decide +kernel
theorem dX12_init_294 : decode cX12_init 294 = .ok (.newarray .int, 2) := by decide +kernel
theorem dX12_init_296 : decode cX12_init 296 = .ok (.putfield 284, 3) := by decide +kernel
theorem dX12_init_299 : decode cX12_init 299 = .ok (.aload_n 0, 1) := by decide +kernel
theorem dX12_init_300 : decode cX12_init 300 = .ok (.iload 5, 2) := by decide +kernel
theorem dX12_init_302 : decode cX12_init 302 = .ok (.newarray .int, 2) := by decide +kernel
theorem dX12_init_304 : decode cX12_init 304 = .ok (.putfield 287, 3) := by decide +kernel
theorem dX12_init_307 : decode cX12_init 307 = .ok (.aload_n 0, 1) := by decide +kernel
theorem dX12_init_308 : decode cX12_init 308 = .ok (.iload 5, 2) := by decide +kernel
theorem dX12_init_310 : decode cX12_init 310 = .ok (.newarray .int, 2) := by decide +kernel
theorem dX12_init_312 : decode cX12_init 312 = .ok (.putfield 290, 3) := by decide +kernel
theorem dX12_init_315 : decode cX12_init 315 = .ok (.aload_n 0, 1) := by decide +kernel
theorem dX12_init_316 : decode cX12_init 316 = .ok (.iload 5, 2) := by decide +kernel
theorem dX12_init_318 : decode cX12_init 318 = .ok (.newarray .int, 2) := by decide +kernel
theorem dX12_init_320 : decode cX12_init 320 = .ok (.putfield 293, 3) := by decide +kernel
theorem dX12_init_323 : decode cX12_init 323 = .ok (.aload_n 0, 1) := by decide +kernel
theorem dX12_init_324 : decode cX12_init 324 = .ok (.iload 5, 2) := by decide +kernel
theorem dX12_init_326 : decode cX12_init 326 = .ok (.newarray .int, 2) := by decide +kernel
theorem dX12_init_328 : decode cX12_init 328 = .ok (.putfield 296, 3) := by decide +kernel
theorem dX12_init_331 : decode cX12_init 331 = .ok (.aload_n 0, 1) := by decide +kernel
theorem dX12_init_332 : decode cX12_init 332 = .ok (.iload 5, 2) := by decide +kernel
theorem dX12_init_334 : decode cX12_init 334 = .ok (.bipush 16, 2) := by decide +kernel
theorem dX12_init_336 : decode cX12_init 336 = .ok (.multianewarray 255 2, 4) := by decide +kernel
theorem dX12_init_340 : decode cX12_init 340 = .ok (.putfield 299, 3) := by decide +kernel
theorem dX12_init_343 : decode cX12_init 343 = .ok (.aload_n 0, 1) := by decide +kernel
theorem dX12_init_344 : decode cX12_init 344 = .ok (.iload 5, 2) := by decide +kernel
theorem dX12_init_346 : decode cX12_init 346 = .ok (.newarray .int, 2) := by decide +kernel
theorem dX12_init_348 : decode cX12_init 348 = .ok (.putfield 302, 3) := by decide +kernel
theorem dX12_init_351 : decode cX12_init 351 = .ok (.aload_n 0, 1) := by decide +kernel
theorem dX12_init_352 : decode cX12_init 352 = .ok (.iload 5, 2) := by decide +kernel
theorem dX12_init_354 : decode cX12_init 354 = .ok (.newarray .int, 2) := by decide +kernel
theorem dX12_init_356 : decode cX12_init 356 = .ok (.putfield 305, 3) := by decide +kernel
theorem dX12_init_359 : decode cX12_init 359 = .ok (.aload_n 0, 1) := by decide +kernel
theorem dX12_init_360 : decode cX12_init 360 = .ok (.iload 5, 2) := by decide +kernel
theorem dX12_init_362 : decode cX12_init 362 = .ok (.bipush 16, 2) := by decide +kernel
theorem dX12_init_364 : decode cX12_init 364 = .ok (.multianewarray 255 2, 4) := by decide +kernel
theorem dX12_init_368 : decode cX12_init 368 = .ok (.putfield 308, 3) := by decide +kernel
theorem dX12_init_371 : decode cX12_init 371 = .ok (.aload_n 0, 1) := by decide +kernel
theorem dX12_init_372 : decode cX12_init 372 = .ok (.iload 5, 2) := by decide +kernel
theorem dX12_init_374 : decode cX12_init 374 = .ok (.newarray .int, 2) := by decide +kernel
theorem dX12_init_376 : decode cX12_init 376 = .ok (.putfield 311, 3) := by decide +kernel
theorem dX12_init_379 : decode cX12_init 379 = .ok (.aload_n 0, 1) := by decide +kernel
theorem dX12_init_380 : decode cX12_init 380 = .ok (.iload 5, 2) := by decide +kernel
theorem dX12_init_382 : decode cX12_init 382 = .ok (.sipush 500, 3) := by decide +kernel
theorem dX12_init_385 : decode cX12_init 385 = .ok (.multianewarray 255 2, 4) := by decide +kernel
theorem dX12_init_389 : decode cX12_init 389 = .ok (.putfield 314, 3) := by decide +kernel
theorem dX12_init_392 : decode cX12_init 392 = .ok (.aload_n 0, 1) := by decide +kernel
theorem dX12_init_393 : decode cX12_init 393 = .ok (.iload 5, 2) := by decide +kernel
theorem dX12_init_395 : decode cX12_init 395 = .ok (.newarray .int, 2) := by decide +kernel
theorem dX12_init_397 : decode cX12_init 397 = .ok (.putfield 317, 3) := by decide +kernel
theorem dX12_init_400 : decode cX12_init 400 = .ok (.aload_n 0, 1) := by decide +kernel
theorem dX12_init_401 : decode cX12_init 401 = .ok (.iload 5, 2) := by decide +kernel
theorem dX12_init_403 : decode cX12_init 403 = .ok (.newarray .int, 2) := by decide +kernel
theorem dX12_init_405 : decode cX12_init 405 = .ok (.putfield 320, 3) := by decide +kernel
theorem dX12_init_408 : decode cX12_init 408 = .ok (.aload_n 0, 1) := by decide +kernel
theorem dX12_init_409 : decode cX12_init 409 = .ok (.iload 5, 2) := by decide +kernel
theorem dX12_init_411 : decode cX12_init 411 = .ok (.newarray .int, 2) := by decide +kernel
theorem dX12_init_413 : decode cX12_init 413 = .ok (.putfield 323, 3) := by decide +kernel
theorem dX12_init_416 : decode cX12_init 416 = .ok (.aload_n 0, 1) := by decide +kernel
theorem dX12_init_417 : decode cX12_init 417 = .ok (.iload 5, 2) := by decide +kernel
theorem dX12_init_419 : decode cX12_init 419 = .ok (.newarray .int, 2) := by decide +kernel
theorem dX12_init_421 : decode cX12_init 421 = .ok (.putfield 326, 3) := by decide +kernel
theorem dX12_init_424 : decode cX12_init 424 = .ok (.aload_n 0, 1) := by decide +kernel
theorem dX12_init_425 : decode cX12_init 425 = .ok (.iload 5, 2) := by decide +kernel
theorem dX12_init_427 : decode cX12_init 427 = .ok (.newarray .int, 2) := by decide +kernel
theorem dX12_init_429 : decode cX12_init 429 = .ok (.putfield 329, 3) := by decide +kernel
theorem dX12_init_432 : decode cX12_init 432 = .ok (.aload_n 0, 1) := by decide +kernel
theorem dX12_init_433 : decode cX12_init 433 = .ok (.iload 5, 2) := by decide +kernel
theorem dX12_init_435 : decode cX12_init 435 = .ok (.newarray .int, 2) := by decide +kernel
theorem dX12_init_437 : decode cX12_init 437 = .ok (.putfield 332, 3) := by decide +kernel
theorem dX12_init_440 : decode cX12_init 440 = .ok (.aload_n 0, 1) := by decide +kernel
theorem dX12_init_441 : decode cX12_init 441 = .ok (.iload 5, 2) := by decide +kernel
theorem dX12_init_443 : decode cX12_init 443 = .ok (.newarray .boolean, 2) := by decide +kernel
theorem dX12_init_445 : decode cX12_init 445 = .ok (.putfield 335, 3) := by decide +kernel
theorem dX12_init_448 : decode cX12_init 448 = .ok (.iconst 0, 1) := by decide +kernel
theorem dX12_init_449 : decode cX12_init 449 = .ok (.istore 6, 2) := by decide +kernel
theorem dX12_init_451 : decode cX12_init 451 = .ok (.iload 6, 2) := by decide +kernel
theorem dX12_init_453 : decode cX12_init 453 = .ok (.iload 5, 2) := by decide +kernel
theorem dX12_init_455 : decode cX12_init 455 = .ok (.if_icmp .ge 17, 3) := by decide +kernel
theorem dX12_init_458 : decode cX12_init 458 = .ok (.aload_n 0, 1) := by decide +kernel
theorem dX12_init_459 : decode cX12_init 459 = .ok (.getfield 275, 3) := by decide +kernel
theorem dX12_init_462 : decode cX12_init 462 = .ok (.iload 6, 2) := by decide +kernel
theorem dX12_init_464 : decode cX12_init 464 = .ok (.iconst (-1), 1) := by decide +kernel
theorem dX12_init_465 : decode cX12_init 465 = .ok (.iastore, 1) := by decide +kernel
theorem dX12_init_466 : decode cX12_init 466 = .ok (.iinc 6 1, 3) := by decide +kernel
theorem dX12_init_469 : decode cX12_init 469 = .ok (.goto (-18), 3) := by decide +kernel
theorem dX12_init_472 : decode cX12_init 472 = .ok (.iconst 0, 1) := by decide +kernel
theorem dX12_init_473 : decode cX12_init 473 = .ok (.istore 6, 2) := by decide +kernel
theorem dX12_init_475 : decode cX12_init 475 = .ok (.iload 6, 2) := by decide +kernel
theorem dX12_init_477 : decode cX12_init 477 = .ok (.sipush 4096, 3) := by decide +kernel
theorem dX12_init_480 : decode cX12_init 480 = .ok (.if_icmp .ge 17, 3) := by decide +kernel
theorem dX12_init_483 : decode cX12_init 483 = .ok (.aload_n 0, 1) := by decide +kernel
theorem dX12_init_484 : decode cX12_init 484 = .ok (.getfield 226, 3) := by decide +kernel
theorem dX12_init_487 : decode cX12_init 487 = .ok (.iload 6, 2) := by decide +kernel
theorem dX12_init_489 : decode cX12_init 489 = .ok (.iconst (-1), 1) := by decide +kernel
theorem dX12_init_490 : decode cX12_init 490 = .ok (.iastore, 1) := by decide +kernel
theorem dX12_init_491 : decode cX12_init 491 = .ok (.iinc 6 1, 3) := by decide +kernel
theorem dX12_init_494 : decode cX12_init 494 = .ok (.goto (-19), 3) := by decide +kernel
theorem dX12_init_497 : decode cX12_init 497 = .ok (.return_, 1) := by decide +kernel
theorem dX12_isUser_0 : decode cX12_isUser 0 = .ok (.iload_n 1, 1) := by decide +kernel
theorem dX12_isUser_1 : decode cX12_isUser 1 = .ok (.iconst 0, 1) := by decide +kernel
theorem dX12_isUser_2 : decode cX12_isUser 2 = .ok (.aload_n 0, 1) := by decide +kernel
theorem dX12_isUser_3 : decode cX12_isUser 3 = .ok (.getfield 243, 3) := by decide +kernel
theorem dX12_isUser_6 : decode cX12_isUser 6 = .ok (.iconst 1, 1) := by decide +kernel
theorem dX12_isUser_7 : decode cX12_isUser 7 = .ok (.isub, 1) := by decide +kernel
theorem dX12_isUser_8 : decode cX12_isUser 8 = .ok (.invokestatic 15, 3) := by decide +kernel
theorem dX12_isUser_11 : decode cX12_isUser 11 = .ok (.ireturn, 1) := by decide +kernel
theorem dX12_isWord_0 : decode cX12_isWord 0 = .ok (.iload_n 0, 1) := by decide +kernel
theorem dX12_isWord_1 : decode cX12_isWord 1 = .ok (.iconst 0, 1) := by decide +kernel
theorem dX12_isWord_2 : decode cX12_isWord 2 = .ok (.sipush 4095, 3) := by decide +kernel
theorem dX12_isWord_5 : decode cX12_isWord 5 = .ok (.invokestatic 15, 3) := by decide +kernel
theorem dX12_isWord_8 : decode cX12_isWord 8 = .ok (.ireturn, 1) := by decide +kernel
theorem dX12_becomesReady_0 : decode cX12_becomesReady 0 = .ok (.aload_n 0, 1) := by decide +kernel
theorem dX12_becomesReady_1 : decode cX12_becomesReady 1 = .ok (.getfield 278, 3) := by decide +kernel
theorem dX12_becomesReady_4 : decode cX12_becomesReady 4 = .ok (.iload_n 1, 1) := by decide +kernel
theorem dX12_becomesReady_5 : decode cX12_becomesReady 5 = .ok (.iconst 1, 1) := by decide +kernel
theorem dX12_becomesReady_6 : decode cX12_becomesReady 6 = .ok (.iastore, 1) := by decide +kernel
theorem dX12_becomesReady_7 : decode cX12_becomesReady 7 = .ok (.aload_n 0, 1) := by decide +kernel
theorem dX12_becomesReady_8 : decode cX12_becomesReady 8 = .ok (.getfield 234, 3) := by decide +kernel
theorem dX12_becomesReady_11 : decode cX12_becomesReady 11 = .ok (.aload_n 0, 1) := by decide +kernel
theorem dX12_becomesReady_12 : decode cX12_becomesReady 12 = .ok (.getfield 338, 3) := by decide +kernel
theorem dX12_becomesReady_15 : decode cX12_becomesReady 15 = .ok (.iload_n 1, 1) := by decide +kernel
theorem dX12_becomesReady_16 : decode cX12_becomesReady 16 = .ok (.iastore, 1) := by decide +kernel
theorem dX12_becomesReady_17 : decode cX12_becomesReady 17 = .ok (.aload_n 0, 1) := by decide +kernel
theorem dX12_becomesReady_18 : decode cX12_becomesReady 18 = .ok (.dup, 1) := by decide +kernel
theorem dX12_becomesReady_19 : decode cX12_becomesReady 19 = .ok (.getfield 338, 3) := by decide +kernel
theorem dX12_becomesReady_22 : decode cX12_becomesReady 22 = .ok (.iconst 1, 1) := by decide +kernel
theorem dX12_becomesReady_23 : decode cX12_becomesReady 23 = .ok (.iadd, 1) := by decide +kernel
theorem dX12_becomesReady_24 : decode cX12_becomesReady 24 = .ok (.putfield 338, 3) := by decide +kernel
theorem dX12_becomesReady_27 : decode cX12_becomesReady 27 = .ok (.return_, 1) := by decide +kernel
theorem dX12_leavesQueue_0 : decode cX12_leavesQueue 0 = .ok (.iconst 0, 1) := by decide +kernel
theorem dX12_leavesQueue_1 : decode cX12_leavesQueue 1 = .ok (.istore_n 2, 1) := by decide +kernel
theorem dX12_leavesQueue_2 : decode cX12_leavesQueue 2 = .ok (.iconst 0, 1) := by decide +kernel
theorem dX12_leavesQueue_3 : decode cX12_leavesQueue 3 = .ok (.istore_n 3, 1) := by decide +kernel
theorem dX12_leavesQueue_4 : decode cX12_leavesQueue 4 = .ok (.iload_n 3, 1) := by decide +kernel
theorem dX12_leavesQueue_5 : decode cX12_leavesQueue 5 = .ok (.aload_n 0, 1) := by decide +kernel
theorem dX12_leavesQueue_6 : decode cX12_leavesQueue 6 = .ok (.getfield 338, 3) := by decide +kernel
theorem dX12_leavesQueue_9 : decode cX12_leavesQueue 9 = .ok (.if_icmp .ge 37, 3) := by decide +kernel
theorem dX12_leavesQueue_12 : decode cX12_leavesQueue 12 = .ok (.aload_n 0, 1) := by decide +kernel
theorem dX12_leavesQueue_13 : decode cX12_leavesQueue 13 = .ok (.getfield 234, 3) := by decide +kernel
theorem dX12_leavesQueue_16 : decode cX12_leavesQueue 16 = .ok (.iload_n 3, 1) := by decide +kernel
theorem dX12_leavesQueue_17 : decode cX12_leavesQueue 17 = .ok (.iaload, 1) := by decide +kernel
theorem dX12_leavesQueue_18 : decode cX12_leavesQueue 18 = .ok (.iload_n 1, 1) := by decide +kernel
theorem dX12_leavesQueue_19 : decode cX12_leavesQueue 19 = .ok (.if_icmp .ne 6, 3) := by decide +kernel
theorem dX12_leavesQueue_22 : decode cX12_leavesQueue 22 = .ok (.goto 18, 3) := by decide +kernel
theorem dX12_leavesQueue_25 : decode cX12_leavesQueue 25 = .ok (.aload_n 0, 1) := by decide +kernel
theorem dX12_leavesQueue_26 : decode cX12_leavesQueue 26 = .ok (.getfield 234, 3) := by decide +kernel
theorem dX12_leavesQueue_29 : decode cX12_leavesQueue 29 = .ok (.iload_n 2, 1) := by decide +kernel
theorem dX12_leavesQueue_30 : decode cX12_leavesQueue 30 = .ok (.aload_n 0, 1) := by decide +kernel
theorem dX12_leavesQueue_31 : decode cX12_leavesQueue 31 = .ok (.getfield 234, 3) := by decide +kernel
theorem dX12_leavesQueue_34 : decode cX12_leavesQueue 34 = .ok (.iload_n 3, 1) := by decide +kernel
theorem dX12_leavesQueue_35 : decode cX12_leavesQueue 35 = .ok (.iaload, 1) := by decide +kernel
theorem dX12_leavesQueue_36 : decode cX12_leavesQueue 36 = .ok (.iastore, 1) := by decide +kernel
theorem dX12_leavesQueue_37 : decode cX12_leavesQueue 37 = .ok (.iinc 2 1, 3) := by decide +kernel
theorem dX12_leavesQueue_40 : decode cX12_leavesQueue 40 = .ok (.iinc 3 1, 3) := by decide +kernel
theorem dX12_leavesQueue_43 : decode cX12_leavesQueue 43 = .ok (.goto (-39), 3) := by decide +kernel
theorem dX12_leavesQueue_46 : decode cX12_leavesQueue 46 = .ok (.aload_n 0, 1) := by decide +kernel
theorem dX12_leavesQueue_47 : decode cX12_leavesQueue 47 = .ok (.iload_n 2, 1) := by decide +kernel
theorem dX12_leavesQueue_48 : decode cX12_leavesQueue 48 = .ok (.putfield 338, 3) := by decide +kernel
theorem dX12_leavesQueue_51 : decode cX12_leavesQueue 51 = .ok (.return_, 1) := by decide +kernel
theorem dX12_rests_0 : decode cX12_rests 0 = .ok (.aload_n 0, 1) := by decide +kernel
theorem dX12_rests_1 : decode cX12_rests 1 = .ok (.iload_n 1, 1) := by decide +kernel
theorem dX12_rests_2 : decode cX12_rests 2 = .ok (.invokevirtual 341, 3) := by decide +kernel
theorem dX12_rests_5 : decode cX12_rests 5 = .ok (.ifCond .eq 38, 3) := by decide +kernel
theorem dX12_rests_8 : decode cX12_rests 8 = .ok (.aload_n 0, 1) := by decide +kernel
theorem dX12_rests_9 : decode cX12_rests 9 = .ok (.getfield 278, 3) := by decide +kernel
theorem dX12_rests_12 : decode cX12_rests 12 = .ok (.iload_n 1, 1) := by decide +kernel
theorem dX12_rests_13 : decode cX12_rests 13 = .ok (.iaload, 1) := by decide +kernel
theorem dX12_rests_14 : decode cX12_rests 14 = .ok (.ifCond .eq 25, 3) := by decide +kernel
theorem dX12_rests_17 : decode cX12_rests 17 = .ok (.aload_n 0, 1) := by decide +kernel
theorem dX12_rests_18 : decode cX12_rests 18 = .ok (.getfield 278, 3) := by decide +kernel
theorem dX12_rests_21 : decode cX12_rests 21 = .ok (.iload_n 1, 1) := by decide +kernel
theorem dX12_rests_22 : decode cX12_rests 22 = .ok (.iaload, 1) := by decide +kernel
theorem dX12_rests_23 : decode cX12_rests 23 = .ok (.bipush 6, 2) := by decide +kernel
theorem dX12_rests_25 : decode cX12_rests 25 = .ok (.if_icmp .eq 14, 3) := by decide +kernel
theorem dX12_rests_28 : decode cX12_rests 28 = .ok (.aload_n 0, 1) := by decide +kernel
theorem dX12_rests_29 : decode cX12_rests 29 = .ok (.getfield 278, 3) := by decide +kernel
theorem dX12_rests_32 : decode cX12_rests 32 = .ok (.iload_n 1, 1) := by decide +kernel
theorem dX12_rests_33 : decode cX12_rests 33 = .ok (.iaload, 1) := by decide +kernel
theorem dX12_rests_34 : decode cX12_rests 34 = .ok (.bipush 7, 2) := by decide +kernel
theorem dX12_rests_36 : decode cX12_rests 36 = .ok (.if_icmp .ne 7, 3) := by decide +kernel
theorem dX12_rests_39 : decode cX12_rests 39 = .ok (.iconst 1, 1) := by decide +kernel
theorem dX12_rests_40 : decode cX12_rests 40 = .ok (.goto 4, 3) := by decide +kernel
theorem dX12_rests_43 : decode cX12_rests 43 = .ok (.iconst 0, 1) := by decide +kernel
theorem dX12_rests_44 : decode cX12_rests 44 = .ok (.ireturn, 1) := by decide +kernel
theorem dX12_isMoved_0 : decode cX12_isMoved 0 = .ok (.aload_n 0, 1) := by decide +kernel
theorem dX12_isMoved_1 : decode cX12_isMoved 1 = .ok (.getfield 344, 3) := by decide +kernel
theorem dX12_isMoved_4 : decode cX12_isMoved 4 = .ok (.ifCond .le 15, 3) := by decide +kernel
theorem dX12_isMoved_7 : decode cX12_isMoved 7 = .ok (.aload_n 0, 1) := by decide +kernel
theorem dX12_isMoved_8 : decode cX12_isMoved 8 = .ok (.getfield 347, 3) := by decide +kernel
theorem dX12_isMoved_11 : decode cX12_isMoved 11 = .ok (.iload_n 1, 1) := by decide +kernel
theorem dX12_isMoved_12 : decode cX12_isMoved 12 = .ok (.if_icmp .ne 7, 3) := by decide +kernel
theorem dX12_isMoved_15 : decode cX12_isMoved 15 = .ok (.iconst 1, 1) := by decide +kernel
theorem dX12_isMoved_16 : decode cX12_isMoved 16 = .ok (.goto 4, 3) := by decide +kernel
theorem dX12_isMoved_19 : decode cX12_isMoved 19 = .ok (.iconst 0, 1) := by decide +kernel
theorem dX12_isMoved_20 : decode cX12_isMoved 20 = .ok (.ireturn, 1) := by decide +kernel
theorem dX12_mount_0 : decode cX12_mount 0 = .ok (.aload_n 0, 1) := by decide +kernel
theorem dX12_mount_1 : decode cX12_mount 1 = .ok (.iload_n 1, 1) := by decide +kernel
theorem dX12_mount_2 : decode cX12_mount 2 = .ok (.invokevirtual 350, 3) := by decide +kernel
theorem dX12_mount_5 : decode cX12_mount 5 = .ok (.ifCond .eq 11, 3) := by decide +kernel
theorem dX12_mount_8 : decode cX12_mount 8 = .ok (.aload_n 0, 1) := by decide +kernel
theorem dX12_mount_9 : decode cX12_mount 9 = .ok (.iload_n 1, 1) := by decide +kernel
theorem dX12_mount_10 : decode cX12_mount 10 = .ok (.invokevirtual 353, 3) := by decide +kernel
theorem dX12_mount_13 : decode cX12_mount 13 = .ok (.ifCond .eq 5, 3) := by decide +kernel
theorem dX12_mount_16 : decode cX12_mount 16 = .ok (.iconst 0, 1) := by decide +kernel
theorem dX12_mount_17 : decode cX12_mount 17 = .ok (.ireturn, 1) := by decide +kernel
theorem dX12_mount_18 : decode cX12_mount 18 = .ok (.aload_n 0, 1) := by decide +kernel
theorem dX12_mount_19 : decode cX12_mount 19 = .ok (.getfield 275, 3) := by decide +kernel
theorem dX12_mount_22 : decode cX12_mount 22 = .ok (.iload_n 1, 1) := by decide +kernel
theorem dX12_mount_23 : decode cX12_mount 23 = .ok (.iaload, 1) := by decide +kernel
theorem dX12_mount_24 : decode cX12_mount 24 = .ok (.iconst (-1), 1) := by decide +kernel
theorem dX12_mount_25 : decode cX12_mount 25 = .ok (.if_icmp .eq 13, 3) := by decide +kernel
theorem dX12_mount_28 : decode cX12_mount 28 = .ok (.aload_n 0, 1) := by decide +kernel
theorem dX12_mount_29 : decode cX12_mount 29 = .ok (.aload_n 0, 1) := by decide +kernel
theorem dX12_mount_30 : decode cX12_mount 30 = .ok (.getfield 275, 3) := by decide +kernel
theorem dX12_mount_33 : decode cX12_mount 33 = .ok (.iload_n 1, 1) := by decide +kernel
theorem dX12_mount_34 : decode cX12_mount 34 = .ok (.iaload, 1) := by decide +kernel
theorem dX12_mount_35 : decode cX12_mount 35 = .ok (.invokevirtual 356, 3) := by decide +kernel
theorem dX12_mount_38 : decode cX12_mount 38 = .ok (.iconst 0, 1) := by decide +kernel
theorem dX12_mount_39 : decode cX12_mount 39 = .ok (.istore_n 2, 1) := by decide +kernel
theorem dX12_mount_40 : decode cX12_mount 40 = .ok (.iload_n 2, 1) := by decide +kernel
theorem dX12_mount_41 : decode cX12_mount 41 = .ok (.sipush 4096, 3) := by decide +kernel
theorem dX12_mount_44 : decode cX12_mount 44 = .ok (.if_icmp .ge 37, 3) := by decide +kernel
theorem dX12_mount_47 : decode cX12_mount 47 = .ok (.aload_n 0, 1) := by decide +kernel
theorem dX12_mount_48 : decode cX12_mount 48 = .ok (.getfield 260, 3) := by decide +kernel
theorem dX12_mount_51 : decode cX12_mount 51 = .ok (.iload_n 1, 1) := by decide +kernel
theorem dX12_mount_52 : decode cX12_mount 52 = .ok (.aaload, 1) := by decide +kernel
theorem dX12_mount_53 : decode cX12_mount 53 = .ok (.iload_n 2, 1) := by decide +kernel
theorem dX12_mount_54 : decode cX12_mount 54 = .ok (.aload_n 0, 1) := by decide +kernel
theorem dX12_mount_55 : decode cX12_mount 55 = .ok (.getfield 226, 3) := by decide +kernel
theorem dX12_mount_58 : decode cX12_mount 58 = .ok (.iload_n 2, 1) := by decide +kernel
theorem dX12_mount_59 : decode cX12_mount 59 = .ok (.iaload, 1) := by decide +kernel
theorem dX12_mount_60 : decode cX12_mount 60 = .ok (.iconst (-1), 1) := by decide +kernel
theorem dX12_mount_61 : decode cX12_mount 61 = .ok (.if_icmp .ne 7, 3) := by decide +kernel
theorem dX12_mount_64 : decode cX12_mount 64 = .ok (.iconst 0, 1) := by decide +kernel
theorem dX12_mount_65 : decode cX12_mount 65 = .ok (.goto 9, 3) := by decide +kernel
theorem dX12_mount_68 : decode cX12_mount 68 = .ok (.aload_n 0, 1) := by decide +kernel
theorem dX12_mount_69 : decode cX12_mount 69 = .ok (.getfield 226, 3) := by decide +kernel
theorem dX12_mount_72 : decode cX12_mount 72 = .ok (.iload_n 2, 1) := by decide +kernel
theorem dX12_mount_73 : decode cX12_mount 73 = .ok (.iaload, 1) := by decide +kernel
theorem dX12_mount_74 : decode cX12_mount 74 = .ok (.iastore, 1) := by decide +kernel
theorem dX12_mount_75 : decode cX12_mount 75 = .ok (.iinc 2 1, 3) := by decide +kernel
theorem dX12_mount_78 : decode cX12_mount 78 = .ok (.goto (-38), 3) := by decide +kernel
theorem dX12_mount_81 : decode cX12_mount 81 = .ok (.aload_n 0, 1) := by decide +kernel
theorem dX12_mount_82 : decode cX12_mount 82 = .ok (.getfield 281, 3) := by decide +kernel
theorem dX12_mount_85 : decode cX12_mount 85 = .ok (.iload_n 1, 1) := by decide +kernel
theorem dX12_mount_86 : decode cX12_mount 86 = .ok (.iconst 0, 1) := by decide +kernel
theorem dX12_mount_87 : decode cX12_mount 87 = .ok (.iastore, 1) := by decide +kernel
theorem dX12_mount_88 : decode cX12_mount 88 = .ok (.aload_n 0, 1) := by decide +kernel
theorem dX12_mount_89 : decode cX12_mount 89 = .ok (.getfield 284, 3) := by decide +kernel
theorem dX12_mount_92 : decode cX12_mount 92 = .ok (.iload_n 1, 1) := by decide +kernel
theorem dX12_mount_93 : decode cX12_mount 93 = .ok (.iconst 0, 1) := by decide +kernel
theorem dX12_mount_94 : decode cX12_mount 94 = .ok (.iastore, 1) := by decide +kernel
theorem dX12_mount_95 : decode cX12_mount 95 = .ok (.aload_n 0, 1) := by decide +kernel
theorem dX12_mount_96 : decode cX12_mount 96 = .ok (.getfield 290, 3) := by decide +kernel
theorem dX12_mount_99 : decode cX12_mount 99 = .ok (.iload_n 1, 1) := by decide +kernel
theorem dX12_mount_100 : decode cX12_mount 100 = .ok (.iconst 0, 1) := by decide +kernel
theorem dX12_mount_101 : decode cX12_mount 101 = .ok (.iastore, 1) := by decide +kernel
theorem dX12_mount_102 : decode cX12_mount 102 = .ok (.aload_n 0, 1) := by decide +kernel
theorem dX12_mount_103 : decode cX12_mount 103 = .ok (.getfield 287, 3) := by decide +kernel
theorem dX12_mount_106 : decode cX12_mount 106 = .ok (.iload_n 1, 1) := by decide +kernel
theorem dX12_mount_107 : decode cX12_mount 107 = .ok (.sipush 128, 3) := by decide +kernel
theorem dX12_mount_110 : decode cX12_mount 110 = .ok (.iastore, 1) := by decide +kernel
theorem dX12_mount_111 : decode cX12_mount 111 = .ok (.aload_n 0, 1) := by decide +kernel
theorem dX12_mount_112 : decode cX12_mount 112 = .ok (.getfield 278, 3) := by decide +kernel
theorem dX12_mount_115 : decode cX12_mount 115 = .ok (.iload_n 1, 1) := by decide +kernel
theorem dX12_mount_116 : decode cX12_mount 116 = .ok (.bipush 6, 2) := by decide +kernel
theorem dX12_mount_118 : decode cX12_mount 118 = .ok (.iastore, 1) := by decide +kernel
theorem dX12_mount_119 : decode cX12_mount 119 = .ok (.iconst 1, 1) := by decide +kernel
theorem dX12_mount_120 : decode cX12_mount 120 = .ok (.ireturn, 1) := by decide +kernel
theorem dX12_nobodys_0 : decode cX12_nobodys 0 = .ok (.aload_n 0, 1) := by decide +kernel
theorem dX12_nobodys_1 : decode cX12_nobodys 1 = .ok (.getfield 275, 3) := by decide +kernel
theorem dX12_nobodys_4 : decode cX12_nobodys 4 = .ok (.aload_n 0, 1) := by decide +kernel
theorem dX12_nobodys_5 : decode cX12_nobodys 5 = .ok (.getfield 266, 3) := by decide +kernel
theorem dX12_nobodys_8 : decode cX12_nobodys 8 = .ok (.iload_n 1, 1) := by decide +kernel
theorem dX12_nobodys_9 : decode cX12_nobodys 9 = .ok (.iaload, 1) := by decide +kernel
theorem dX12_nobodys_10 : decode cX12_nobodys 10 = .ok (.iconst (-1), 1) := by decide +kernel
theorem dX12_nobodys_11 : decode cX12_nobodys 11 = .ok (.iastore, 1) := by decide +kernel
theorem dX12_nobodys_12 : decode cX12_nobodys 12 = .ok (.aload_n 0, 1) := by decide +kernel
theorem dX12_nobodys_13 : decode cX12_nobodys 13 = .ok (.getfield 266, 3) := by decide +kernel
theorem dX12_nobodys_16 : decode cX12_nobodys 16 = .ok (.iload_n 1, 1) := by decide +kernel
theorem dX12_nobodys_17 : decode cX12_nobodys 17 = .ok (.iconst (-1), 1) := by decide +kernel
theorem dX12_nobodys_18 : decode cX12_nobodys 18 = .ok (.iastore, 1) := by decide +kernel
theorem dX12_nobodys_19 : decode cX12_nobodys 19 = .ok (.aload_n 0, 1) := by decide +kernel
theorem dX12_nobodys_20 : decode cX12_nobodys 20 = .ok (.getfield 269, 3) := by decide +kernel
theorem dX12_nobodys_23 : decode cX12_nobodys 23 = .ok (.iload_n 1, 1) := by decide +kernel
theorem dX12_nobodys_24 : decode cX12_nobodys 24 = .ok (.iconst 0, 1) := by decide +kernel
theorem dX12_nobodys_25 : decode cX12_nobodys 25 = .ok (.bastore, 1) := by decide +kernel
theorem dX12_nobodys_26 : decode cX12_nobodys 26 = .ok (.aload_n 0, 1) := by decide +kernel
theorem dX12_nobodys_27 : decode cX12_nobodys 27 = .ok (.getfield 272, 3) := by decide +kernel
theorem dX12_nobodys_30 : decode cX12_nobodys 30 = .ok (.iload_n 1, 1) := by decide +kernel
theorem dX12_nobodys_31 : decode cX12_nobodys 31 = .ok (.iconst 0, 1) := by decide +kernel
theorem dX12_nobodys_32 : decode cX12_nobodys 32 = .ok (.bastore, 1) := by decide +kernel
theorem dX12_nobodys_33 : decode cX12_nobodys 33 = .ok (.return_, 1) := by decide +kernel
theorem dX12_begin_0 : decode cX12_begin 0 = .ok (.aload_n 0, 1) := by decide +kernel
theorem dX12_begin_1 : decode cX12_begin 1 = .ok (.iload_n 1, 1) := by decide +kernel
theorem dX12_begin_2 : decode cX12_begin 2 = .ok (.invokevirtual 350, 3) := by decide +kernel
theorem dX12_begin_5 : decode cX12_begin 5 = .ok (.ifCond .eq 19, 3) := by decide +kernel
theorem dX12_begin_8 : decode cX12_begin 8 = .ok (.aload_n 0, 1) := by decide +kernel
theorem dX12_begin_9 : decode cX12_begin 9 = .ok (.getfield 278, 3) := by decide +kernel
theorem dX12_begin_12 : decode cX12_begin 12 = .ok (.iload_n 1, 1) := by decide +kernel
theorem dX12_begin_13 : decode cX12_begin 13 = .ok (.iaload, 1) := by decide +kernel
theorem dX12_begin_14 : decode cX12_begin 14 = .ok (.ifCond .eq 10, 3) := by decide +kernel
theorem dX12_begin_17 : decode cX12_begin 17 = .ok (.iload_n 2, 1) := by decide +kernel
theorem dX12_begin_18 : decode cX12_begin 18 = .ok (.invokestatic 359, 3) := by decide +kernel
theorem dX12_begin_21 : decode cX12_begin 21 = .ok (.ifCond .ne 5, 3) := by decide +kernel
theorem dX12_begin_24 : decode cX12_begin 24 = .ok (.iconst 0, 1) := by decide +kernel
theorem dX12_begin_25 : decode cX12_begin 25 = .ok (.ireturn, 1) := by decide +kernel
theorem dX12_begin_26 : decode cX12_begin 26 = .ok (.aload_n 0, 1) := by decide +kernel
theorem dX12_begin_27 : decode cX12_begin 27 = .ok (.getfield 287, 3) := by decide +kernel
theorem dX12_begin_30 : decode cX12_begin 30 = .ok (.iload_n 1, 1) := by decide +kernel
theorem dX12_begin_31 : decode cX12_begin 31 = .ok (.iload_n 2, 1) := by decide +kernel
theorem dX12_begin_32 : decode cX12_begin 32 = .ok (.iastore, 1) := by decide +kernel
theorem dX12_begin_33 : decode cX12_begin 33 = .ok (.aload_n 0, 1) := by decide +kernel
theorem dX12_begin_34 : decode cX12_begin 34 = .ok (.iload_n 1, 1) := by decide +kernel
theorem dX12_begin_35 : decode cX12_begin 35 = .ok (.invokevirtual 362, 3) := by decide +kernel
theorem dX12_begin_38 : decode cX12_begin 38 = .ok (.iconst 1, 1) := by decide +kernel
theorem dX12_begin_39 : decode cX12_begin 39 = .ok (.ireturn, 1) := by decide +kernel
theorem dX12_halt_0 : decode cX12_halt 0 = .ok (.aload_n 0, 1) := by decide +kernel
theorem dX12_halt_1 : decode cX12_halt 1 = .ok (.iload_n 1, 1) := by decide +kernel
theorem dX12_halt_2 : decode cX12_halt 2 = .ok (.invokevirtual 341, 3) := by decide +kernel
theorem dX12_halt_5 : decode cX12_halt 5 = .ok (.ifCond .eq 17, 3) := by decide +kernel
theorem dX12_halt_8 : decode cX12_halt 8 = .ok (.aload_n 0, 1) := by decide +kernel
theorem dX12_halt_9 : decode cX12_halt 9 = .ok (.getfield 278, 3) := by decide +kernel
theorem dX12_halt_12 : decode cX12_halt 12 = .ok (.iload_n 1, 1) := by decide +kernel
theorem dX12_halt_13 : decode cX12_halt 13 = .ok (.iaload, 1) := by decide +kernel
theorem dX12_halt_14 : decode cX12_halt 14 = .ok (.iconst 1, 1) := by decide +kernel
theorem dX12_halt_15 : decode cX12_halt 15 = .ok (.iconst 4, 1) := by decide +kernel
theorem dX12_halt_16 : decode cX12_halt 16 = .ok (.invokestatic 15, 3) := by decide +kernel
theorem dX12_halt_19 : decode cX12_halt 19 = .ok (.ifCond .ne 5, 3) := by decide +kernel
theorem dX12_halt_22 : decode cX12_halt 22 = .ok (.iconst 0, 1) := by decide +kernel
theorem dX12_halt_23 : decode cX12_halt 23 = .ok (.ireturn, 1) := by decide +kernel
theorem dX12_halt_24 : decode cX12_halt 24 = .ok (.aload_n 0, 1) := by decide +kernel
theorem dX12_halt_25 : decode cX12_halt 25 = .ok (.iload_n 1, 1) := by decide +kernel
theorem dX12_halt_26 : decode cX12_halt 26 = .ok (.invokevirtual 365, 3) := by decide +kernel
theorem dX12_halt_29 : decode cX12_halt 29 = .ok (.aload_n 0, 1) := by decide +kernel
theorem dX12_halt_30 : decode cX12_halt 30 = .ok (.getfield 237, 3) := by decide +kernel
theorem dX12_halt_33 : decode cX12_halt 33 = .ok (.iload_n 1, 1) := by decide +kernel
theorem dX12_halt_34 : decode cX12_halt 34 = .ok (.if_icmp .ne 20, 3) := by decide +kernel
theorem dX12_halt_37 : decode cX12_halt 37 = .ok (.aload_n 0, 1) := by decide +kernel
theorem dX12_halt_38 : decode cX12_halt 38 = .ok (.getfield 272, 3) := by decide +kernel
theorem dX12_halt_41 : decode cX12_halt 41 = .ok (.aload_n 0, 1) := by decide +kernel
theorem dX12_halt_42 : decode cX12_halt 42 = .ok (.getfield 275, 3) := by decide +kernel
theorem dX12_halt_45 : decode cX12_halt 45 = .ok (.iload_n 1, 1) := by decide +kernel
theorem dX12_halt_46 : decode cX12_halt 46 = .ok (.iaload, 1) := by decide +kernel
theorem dX12_halt_47 : decode cX12_halt 47 = .ok (.iconst 1, 1) := by decide +kernel
theorem dX12_halt_48 : decode cX12_halt 48 = .ok (.bastore, 1) := by decide +kernel
theorem dX12_halt_49 : decode cX12_halt 49 = .ok (.aload_n 0, 1) := by decide +kernel
theorem dX12_halt_50 : decode cX12_halt 50 = .ok (.iconst (-1), 1) := by decide +kernel
theorem dX12_halt_51 : decode cX12_halt 51 = .ok (.putfield 237, 3) := by decide +kernel
theorem dX12_halt_54 : decode cX12_halt 54 = .ok (.aload_n 0, 1) := by decide +kernel
theorem dX12_halt_55 : decode cX12_halt 55 = .ok (.getfield 278, 3) := by decide +kernel
theorem dX12_halt_58 : decode cX12_halt 58 = .ok (.iload_n 1, 1) := by decide +kernel
theorem dX12_halt_59 : decode cX12_halt 59 = .ok (.bipush 6, 2) := by decide +kernel
theorem dX12_halt_61 : decode cX12_halt 61 = .ok (.iastore, 1) := by decide +kernel
theorem dX12_halt_62 : decode cX12_halt 62 = .ok (.iconst 1, 1) := by decide +kernel
theorem dX12_halt_63 : decode cX12_halt 63 = .ok (.ireturn, 1) := by decide +kernel
theorem dX12_key_0 : decode cX12_key 0 = .ok (.aload_n 0, 1) := by decide +kernel
theorem dX12_key_1 : decode cX12_key 1 = .ok (.iload_n 1, 1) := by decide +kernel
theorem dX12_key_2 : decode cX12_key 2 = .ok (.invokevirtual 341, 3) := by decide +kernel
theorem dX12_key_5 : decode cX12_key 5 = .ok (.ifCond .eq 13, 3) := by decide +kernel
theorem dX12_key_8 : decode cX12_key 8 = .ok (.iload_n 2, 1) := by decide +kernel
theorem dX12_key_9 : decode cX12_key 9 = .ok (.iconst 0, 1) := by decide +kernel
theorem dX12_key_10 : decode cX12_key 10 = .ok (.bipush 127, 2) := by decide +kernel
theorem dX12_key_12 : decode cX12_key 12 = .ok (.invokestatic 15, 3) := by decide +kernel
theorem dX12_key_15 : decode cX12_key 15 = .ok (.ifCond .ne 5, 3) := by decide +kernel
theorem dX12_key_18 : decode cX12_key 18 = .ok (.iconst 0, 1) := by decide +kernel
theorem dX12_key_19 : decode cX12_key 19 = .ok (.ireturn, 1) := by decide +kernel
theorem dX12_key_20 : decode cX12_key 20 = .ok (.aload_n 0, 1) := by decide +kernel
theorem dX12_key_21 : decode cX12_key 21 = .ok (.getfield 302, 3) := by decide +kernel
theorem dX12_key_24 : decode cX12_key 24 = .ok (.iload_n 1, 1) := by decide +kernel
theorem dX12_key_25 : decode cX12_key 25 = .ok (.iaload, 1) := by decide +kernel
theorem dX12_key_26 : decode cX12_key 26 = .ok (.bipush 16, 2) := by decide +kernel
theorem dX12_key_28 : decode cX12_key 28 = .ok (.if_icmp .ne 15, 3) := by decide +kernel
theorem dX12_key_31 : decode cX12_key 31 = .ok (.aload_n 0, 1) := by decide +kernel
theorem dX12_key_32 : decode cX12_key 32 = .ok (.getfield 305, 3) := by decide +kernel
theorem dX12_key_35 : decode cX12_key 35 = .ok (.iload_n 1, 1) := by decide +kernel
theorem dX12_key_36 : decode cX12_key 36 = .ok (.dup2, 1) := by decide +kernel
theorem dX12_key_37 : decode cX12_key 37 = .ok (.iaload, 1) := by decide +kernel
theorem dX12_key_38 : decode cX12_key 38 = .ok (.iconst 1, 1) := by decide +kernel
theorem dX12_key_39 : decode cX12_key 39 = .ok (.iadd, 1) := by decide +kernel
theorem dX12_key_40 : decode cX12_key 40 = .ok (.iastore, 1) := by decide +kernel
theorem dX12_key_41 : decode cX12_key 41 = .ok (.iconst 0, 1) := by decide +kernel
theorem dX12_key_42 : decode cX12_key 42 = .ok (.ireturn, 1) := by decide +kernel
theorem dX12_key_43 : decode cX12_key 43 = .ok (.aload_n 0, 1) := by decide +kernel
theorem dX12_key_44 : decode cX12_key 44 = .ok (.getfield 299, 3) := by decide +kernel
theorem dX12_key_47 : decode cX12_key 47 = .ok (.iload_n 1, 1) := by decide +kernel
theorem dX12_key_48 : decode cX12_key 48 = .ok (.aaload, 1) := by decide +kernel
theorem dX12_key_49 : decode cX12_key 49 = .ok (.aload_n 0, 1) := by decide +kernel
theorem dX12_key_50 : decode cX12_key 50 = .ok (.getfield 302, 3) := by decide +kernel
theorem dX12_key_53 : decode cX12_key 53 = .ok (.iload_n 1, 1) := by decide +kernel
theorem dX12_key_54 : decode cX12_key 54 = .ok (.iaload, 1) := by decide +kernel
theorem dX12_key_55 : decode cX12_key 55 = .ok (.iload_n 2, 1) := by decide +kernel
theorem dX12_key_56 : decode cX12_key 56 = .ok (.iastore, 1) := by decide +kernel
theorem dX12_key_57 : decode cX12_key 57 = .ok (.aload_n 0, 1) := by decide +kernel
theorem dX12_key_58 : decode cX12_key 58 = .ok (.getfield 302, 3) := by decide +kernel
theorem dX12_key_61 : decode cX12_key 61 = .ok (.iload_n 1, 1) := by decide +kernel
theorem dX12_key_62 : decode cX12_key 62 = .ok (.dup2, 1) := by decide +kernel
theorem dX12_key_63 : decode cX12_key 63 = .ok (.iaload, 1) := by decide +kernel
theorem dX12_key_64 : decode cX12_key 64 = .ok (.iconst 1, 1) := by decide +kernel
theorem dX12_key_65 : decode cX12_key 65 = .ok (.iadd, 1) := by decide +kernel
theorem dX12_key_66 : decode cX12_key 66 = .ok (.iastore, 1) := by decide +kernel
theorem dX12_key_67 : decode cX12_key 67 = .ok (.aload_n 0, 1) := by decide +kernel
theorem dX12_key_68 : decode cX12_key 68 = .ok (.getfield 278, 3) := by decide +kernel
theorem dX12_key_71 : decode cX12_key 71 = .ok (.iload_n 1, 1) := by decide +kernel
theorem dX12_key_72 : decode cX12_key 72 = .ok (.iaload, 1) := by decide +kernel
theorem dX12_key_73 : decode cX12_key 73 = .ok (.iconst 2, 1) := by decide +kernel
theorem dX12_key_74 : decode cX12_key 74 = .ok (.if_icmp .ne 8, 3) := by decide +kernel
theorem dX12_key_77 : decode cX12_key 77 = .ok (.aload_n 0, 1) := by decide +kernel
theorem dX12_key_78 : decode cX12_key 78 = .ok (.iload_n 1, 1) := by decide +kernel
theorem dX12_key_79 : decode cX12_key 79 = .ok (.invokevirtual 362, 3) := by decide +kernel
theorem dX12_key_82 : decode cX12_key 82 = .ok (.iconst 1, 1) := by decide +kernel
theorem dX12_key_83 : decode cX12_key 83 = .ok (.ireturn, 1) := by decide +kernel
theorem dX12_set_0 : decode cX12_set 0 = .ok (.aload_n 0, 1) := by decide +kernel
theorem dX12_set_1 : decode cX12_set 1 = .ok (.iload_n 1, 1) := by decide +kernel
theorem dX12_set_2 : decode cX12_set 2 = .ok (.invokevirtual 341, 3) := by decide +kernel
theorem dX12_set_5 : decode cX12_set 5 = .ok (.ifCond .eq 10, 3) := by decide +kernel
theorem dX12_set_8 : decode cX12_set 8 = .ok (.iload_n 2, 1) := by decide +kernel
theorem dX12_set_9 : decode cX12_set 9 = .ok (.invokestatic 359, 3) := by decide +kernel
theorem dX12_set_12 : decode cX12_set 12 = .ok (.ifCond .ne 5, 3) := by decide +kernel
theorem dX12_set_15 : decode cX12_set 15 = .ok (.iconst 0, 1) := by decide +kernel
theorem dX12_set_16 : decode cX12_set 16 = .ok (.ireturn, 1) := by decide +kernel
theorem dX12_set_17 : decode cX12_set 17 = .ok (.aload_n 0, 1) := by decide +kernel
theorem dX12_set_18 : decode cX12_set 18 = .ok (.getfield 293, 3) := by decide +kernel
theorem dX12_set_21 : decode cX12_set 21 = .ok (.iload_n 1, 1) := by decide +kernel
theorem dX12_set_22 : decode cX12_set 22 = .ok (.iload_n 2, 1) := by decide +kernel
theorem dX12_set_23 : decode cX12_set 23 = .ok (.iastore, 1) := by decide +kernel
theorem dX12_set_24 : decode cX12_set 24 = .ok (.iconst 1, 1) := by decide +kernel
theorem dX12_set_25 : decode cX12_set 25 = .ok (.ireturn, 1) := by decide +kernel
theorem dX12_deposit_0 : decode cX12_deposit 0 = .ok (.aload_n 0, 1) := by decide +kernel
theorem dX12_deposit_1 : decode cX12_deposit 1 = .ok (.iload_n 1, 1) := by decide +kernel
theorem dX12_deposit_2 : decode cX12_deposit 2 = .ok (.invokevirtual 350, 3) := by decide +kernel
theorem dX12_deposit_5 : decode cX12_deposit 5 = .ok (.ifCond .eq 25, 3) := by decide +kernel
theorem dX12_deposit_8 : decode cX12_deposit 8 = .ok (.aload_n 0, 1) := by decide +kernel
theorem dX12_deposit_9 : decode cX12_deposit 9 = .ok (.iload_n 1, 1) := by decide +kernel
theorem dX12_deposit_10 : decode cX12_deposit 10 = .ok (.invokevirtual 353, 3) := by decide +kernel
theorem dX12_deposit_13 : decode cX12_deposit 13 = .ok (.ifCond .ne 17, 3) := by decide +kernel
theorem dX12_deposit_16 : decode cX12_deposit 16 = .ok (.iload_n 2, 1) := by decide +kernel
theorem dX12_deposit_17 : decode cX12_deposit 17 = .ok (.invokestatic 359, 3) := by decide +kernel
theorem dX12_deposit_20 : decode cX12_deposit 20 = .ok (.ifCond .eq 10, 3) := by decide +kernel
theorem dX12_deposit_23 : decode cX12_deposit 23 = .ok (.iload_n 3, 1) := by decide +kernel
theorem dX12_deposit_24 : decode cX12_deposit 24 = .ok (.invokestatic 359, 3) := by decide +kernel
theorem dX12_deposit_27 : decode cX12_deposit 27 = .ok (.ifCond .ne 5, 3) := by decide +kernel
theorem dX12_deposit_30 : decode cX12_deposit 30 = .ok (.iconst 0, 1) := by decide +kernel
theorem dX12_deposit_31 : decode cX12_deposit 31 = .ok (.ireturn, 1) := by decide +kernel
theorem dX12_deposit_32 : decode cX12_deposit 32 = .ok (.aload_n 0, 1) := by decide +kernel
theorem dX12_deposit_33 : decode cX12_deposit 33 = .ok (.getfield 275, 3) := by decide +kernel
theorem dX12_deposit_36 : decode cX12_deposit 36 = .ok (.iload_n 1, 1) := by decide +kernel
theorem dX12_deposit_37 : decode cX12_deposit 37 = .ok (.iaload, 1) := by decide +kernel
theorem dX12_deposit_38 : decode cX12_deposit 38 = .ok (.iconst (-1), 1) := by decide +kernel
theorem dX12_deposit_39 : decode cX12_deposit 39 = .ok (.if_icmp .ne 15, 3) := by decide +kernel
theorem dX12_deposit_42 : decode cX12_deposit 42 = .ok (.aload_n 0, 1) := by decide +kernel
theorem dX12_deposit_43 : decode cX12_deposit 43 = .ok (.getfield 260, 3) := by decide +kernel
theorem dX12_deposit_46 : decode cX12_deposit 46 = .ok (.iload_n 1, 1) := by decide +kernel
theorem dX12_deposit_47 : decode cX12_deposit 47 = .ok (.aaload, 1) := by decide +kernel
theorem dX12_deposit_48 : decode cX12_deposit 48 = .ok (.iload_n 2, 1) := by decide +kernel
theorem dX12_deposit_49 : decode cX12_deposit 49 = .ok (.iload_n 3, 1) := by decide +kernel
theorem dX12_deposit_50 : decode cX12_deposit 50 = .ok (.iastore, 1) := by decide +kernel
theorem dX12_deposit_51 : decode cX12_deposit 51 = .ok (.goto 10, 3) := by decide +kernel
theorem dX12_deposit_54 : decode cX12_deposit 54 = .ok (.aload_n 0, 1) := by decide +kernel
theorem dX12_deposit_55 : decode cX12_deposit 55 = .ok (.iload_n 1, 1) := by decide +kernel
theorem dX12_deposit_56 : decode cX12_deposit 56 = .ok (.iload_n 2, 1) := by decide +kernel
theorem dX12_deposit_57 : decode cX12_deposit 57 = .ok (.iload_n 3, 1) := by decide +kernel
theorem dX12_deposit_58 : decode cX12_deposit 58 = .ok (.invokevirtual 368, 3) := by decide +kernel
theorem dX12_deposit_61 : decode cX12_deposit 61 = .ok (.iconst 1, 1) := by decide +kernel
theorem dX12_deposit_62 : decode cX12_deposit 62 = .ok (.ireturn, 1) := by decide +kernel
theorem dX12_store_0 : decode cX12_store 0 = .ok (.aload_n 0, 1) := by decide +kernel
theorem dX12_store_1 : decode cX12_store 1 = .ok (.getfield 257, 3) := by decide +kernel
theorem dX12_store_4 : decode cX12_store 4 = .ok (.aload_n 0, 1) := by decide +kernel
theorem dX12_store_5 : decode cX12_store 5 = .ok (.getfield 275, 3) := by decide +kernel
theorem dX12_store_8 : decode cX12_store 8 = .ok (.iload_n 1, 1) := by decide +kernel
theorem dX12_store_9 : decode cX12_store 9 = .ok (.iaload, 1) := by decide +kernel
theorem dX12_store_10 : decode cX12_store 10 = .ok (.aaload, 1) := by decide +kernel
theorem dX12_store_11 : decode cX12_store 11 = .ok (.iload_n 2, 1) := by decide +kernel
theorem dX12_store_12 : decode cX12_store 12 = .ok (.sipush 4095, 3) := by decide +kernel
theorem dX12_store_15 : decode cX12_store 15 = .ok (.iand, 1) := by decide +kernel
theorem dX12_store_16 : decode cX12_store 16 = .ok (.iload_n 3, 1) := by decide +kernel
theorem dX12_store_17 : decode cX12_store 17 = .ok (.sipush 4095, 3) := by decide +kernel
theorem dX12_store_20 : decode cX12_store 20 = .ok (.iand, 1) := by decide +kernel
theorem dX12_store_21 : decode cX12_store 21 = .ok (.iastore, 1) := by decide +kernel
theorem dX12_store_22 : decode cX12_store 22 = .ok (.aload_n 0, 1) := by decide +kernel
theorem dX12_store_23 : decode cX12_store 23 = .ok (.getfield 269, 3) := by decide +kernel
theorem dX12_store_26 : decode cX12_store 26 = .ok (.aload_n 0, 1) := by decide +kernel
theorem dX12_store_27 : decode cX12_store 27 = .ok (.getfield 275, 3) := by decide +kernel
theorem dX12_store_30 : decode cX12_store 30 = .ok (.iload_n 1, 1) := by decide +kernel
theorem dX12_store_31 : decode cX12_store 31 = .ok (.iaload, 1) := by decide +kernel
theorem dX12_store_32 : decode cX12_store 32 = .ok (.iconst 1, 1) := by decide +kernel
theorem dX12_store_33 : decode cX12_store 33 = .ok (.bastore, 1) := by decide +kernel
theorem dX12_store_34 : decode cX12_store 34 = .ok (.return_, 1) := by decide +kernel
theorem dX12_load_0 : decode cX12_load 0 = .ok (.aload_n 0, 1) := by decide +kernel
theorem dX12_load_1 : decode cX12_load 1 = .ok (.getfield 257, 3) := by decide +kernel
theorem dX12_load_4 : decode cX12_load 4 = .ok (.aload_n 0, 1) := by decide +kernel
theorem dX12_load_5 : decode cX12_load 5 = .ok (.getfield 275, 3) := by decide +kernel
theorem dX12_load_8 : decode cX12_load 8 = .ok (.iload_n 1, 1) := by decide +kernel
theorem dX12_load_9 : decode cX12_load 9 = .ok (.iaload, 1) := by decide +kernel
theorem dX12_load_10 : decode cX12_load 10 = .ok (.aaload, 1) := by decide +kernel
theorem dX12_load_11 : decode cX12_load 11 = .ok (.iload_n 2, 1) := by decide +kernel
theorem dX12_load_12 : decode cX12_load 12 = .ok (.sipush 4095, 3) := by decide +kernel
theorem dX12_load_15 : decode cX12_load 15 = .ok (.iand, 1) := by decide +kernel
theorem dX12_load_16 : decode cX12_load 16 = .ok (.iaload, 1) := by decide +kernel
theorem dX12_load_17 : decode cX12_load 17 = .ok (.ireturn, 1) := by decide +kernel
theorem dX12_run_0 : decode cX12_run 0 = .ok (.iload_n 1, 1) := by decide +kernel
theorem dX12_run_1 : decode cX12_run 1 = .ok (.iconst 1, 1) := by decide +kernel
theorem dX12_run_2 : decode cX12_run 2 = .ok (.sipush 20000, 3) := by decide +kernel
theorem dX12_run_5 : decode cX12_run 5 = .ok (.invokestatic 15, 3) := by decide +kernel
theorem dX12_run_8 : decode cX12_run 8 = .ok (.ifCond .ne 5, 3) := by decide +kernel
theorem dX12_run_11 : decode cX12_run 11 = .ok (.iconst (-1), 1) := by decide +kernel
theorem dX12_run_12 : decode cX12_run 12 = .ok (.ireturn, 1) := by decide +kernel
theorem dX12_run_13 : decode cX12_run 13 = .ok (.aload_n 0, 1) := by decide +kernel
theorem dX12_run_14 : decode cX12_run 14 = .ok (.getfield 372, 3) := by decide +kernel
theorem dX12_run_17 : decode cX12_run 17 = .ok (.istore_n 2, 1) := by decide +kernel
theorem dX12_run_18 : decode cX12_run 18 = .ok (.iconst 0, 1) := by decide +kernel
theorem dX12_run_19 : decode cX12_run 19 = .ok (.istore_n 3, 1) := by decide +kernel
theorem dX12_run_20 : decode cX12_run 20 = .ok (.iload_n 3, 1) := by decide +kernel
theorem dX12_run_21 : decode cX12_run 21 = .ok (.iload_n 1, 1) := by decide +kernel
theorem dX12_run_22 : decode cX12_run 22 = .ok (.if_icmp .ge 13, 3) := by decide +kernel
theorem dX12_run_25 : decode cX12_run 25 = .ok (.aload_n 0, 1) := by decide +kernel
theorem dX12_run_26 : decode cX12_run 26 = .ok (.invokevirtual 375, 3) := by decide +kernel
theorem dX12_run_29 : decode cX12_run 29 = .ok (.iinc 3 1, 3) := by decide +kernel
theorem dX12_run_32 : decode cX12_run 32 = .ok (.goto (-12), 3) := by decide +kernel
theorem dX12_run_35 : decode cX12_run 35 = .ok (.aload_n 0, 1) := by decide +kernel
theorem dX12_run_36 : decode cX12_run 36 = .ok (.getfield 372, 3) := by decide +kernel
theorem dX12_run_39 : decode cX12_run 39 = .ok (.iload_n 2, 1) := by decide +kernel
theorem dX12_run_40 : decode cX12_run 40 = .ok (.isub, 1) := by decide +kernel
theorem dX12_run_41 : decode cX12_run 41 = .ok (.ireturn, 1) := by decide +kernel
theorem dX12_tick_0 : decode cX12_tick 0 = .ok (.aload_n 0, 1) := by decide +kernel
theorem dX12_tick_1 : decode cX12_tick 1 = .ok (.dup, 1) := by decide +kernel
theorem dX12_tick_2 : decode cX12_tick 2 = .ok (.getfield 378, 3) := by decide +kernel
theorem dX12_tick_5 : decode cX12_tick 5 = .ok (.iconst 1, 1) := by decide +kernel
theorem dX12_tick_6 : decode cX12_tick 6 = .ok (.iadd, 1) := by decide +kernel
theorem dX12_tick_7 : decode cX12_tick 7 = .ok (.putfield 378, 3) := by decide +kernel
theorem dX12_tick_10 : decode cX12_tick 10 = .ok (.iconst 0, 1) := by decide +kernel
theorem dX12_tick_11 : decode cX12_tick 11 = .ok (.istore_n 1, 1) := by decide +kernel
theorem dX12_tick_12 : decode cX12_tick 12 = .ok (.iload_n 1, 1) := by decide +kernel
theorem dX12_tick_13 : decode cX12_tick 13 = .ok (.aload_n 0, 1) := by decide +kernel
theorem dX12_tick_14 : decode cX12_tick 14 = .ok (.getfield 243, 3) := by decide +kernel
theorem dX12_tick_17 : decode cX12_tick 17 = .ok (.if_icmp .ge 14, 3) := by decide +kernel
theorem dX12_tick_20 : decode cX12_tick 20 = .ok (.aload_n 0, 1) := by decide +kernel
theorem dX12_tick_21 : decode cX12_tick 21 = .ok (.iload_n 1, 1) := by decide +kernel
theorem dX12_tick_22 : decode cX12_tick 22 = .ok (.invokevirtual 381, 3) := by decide +kernel
theorem dX12_tick_25 : decode cX12_tick 25 = .ok (.iinc 1 1, 3) := by decide +kernel
theorem dX12_tick_28 : decode cX12_tick 28 = .ok (.goto (-16), 3) := by decide +kernel
theorem dX12_tick_31 : decode cX12_tick 31 = .ok (.aload_n 0, 1) := by decide +kernel
theorem dX12_tick_32 : decode cX12_tick 32 = .ok (.getfield 344, 3) := by decide +kernel
theorem dX12_tick_35 : decode cX12_tick 35 = .ok (.ifCond .le 7, 3) := by decide +kernel
theorem dX12_tick_38 : decode cX12_tick 38 = .ok (.aload_n 0, 1) := by decide +kernel
theorem dX12_tick_39 : decode cX12_tick 39 = .ok (.invokevirtual 384, 3) := by decide +kernel
theorem dX12_tick_42 : decode cX12_tick 42 = .ok (.aload_n 0, 1) := by decide +kernel
theorem dX12_tick_43 : decode cX12_tick 43 = .ok (.getfield 344, 3) := by decide +kernel
theorem dX12_tick_46 : decode cX12_tick 46 = .ok (.ifCond .ne 7, 3) := by decide +kernel
theorem dX12_tick_49 : decode cX12_tick 49 = .ok (.aload_n 0, 1) := by decide +kernel
theorem dX12_tick_50 : decode cX12_tick 50 = .ok (.invokevirtual 387, 3) := by decide +kernel
theorem dX12_tick_53 : decode cX12_tick 53 = .ok (.aload_n 0, 1) := by decide +kernel
theorem dX12_tick_54 : decode cX12_tick 54 = .ok (.invokevirtual 390, 3) := by decide +kernel
theorem dX12_tick_57 : decode cX12_tick 57 = .ok (.return_, 1) := by decide +kernel
theorem dX12_clocks_0 : decode cX12_clocks 0 = .ok (.aload_n 0, 1) := by decide +kernel
theorem dX12_clocks_1 : decode cX12_clocks 1 = .ok (.getfield 278, 3) := by decide +kernel
theorem dX12_clocks_4 : decode cX12_clocks 4 = .ok (.iload_n 1, 1) := by decide +kernel
theorem dX12_clocks_5 : decode cX12_clocks 5 = .ok (.iaload, 1) := by decide +kernel
theorem dX12_clocks_6 : decode cX12_clocks 6 = .ok (.iconst 4, 1) := by decide +kernel
theorem dX12_clocks_7 : decode cX12_clocks 7 = .ok (.if_icmp .ne 21, 3) := by decide +kernel
theorem dX12_clocks_10 : decode cX12_clocks 10 = .ok (.aload_n 0, 1) := by decide +kernel
theorem dX12_clocks_11 : decode cX12_clocks 11 = .ok (.getfield 378, 3) := by decide +kernel
theorem dX12_clocks_14 : decode cX12_clocks 14 = .ok (.aload_n 0, 1) := by decide +kernel
theorem dX12_clocks_15 : decode cX12_clocks 15 = .ok (.getfield 323, 3) := by decide +kernel
theorem dX12_clocks_18 : decode cX12_clocks 18 = .ok (.iload_n 1, 1) := by decide +kernel
theorem dX12_clocks_19 : decode cX12_clocks 19 = .ok (.iaload, 1) := by decide +kernel
theorem dX12_clocks_20 : decode cX12_clocks 20 = .ok (.if_icmp .lt 8, 3) := by decide +kernel
theorem dX12_clocks_23 : decode cX12_clocks 23 = .ok (.aload_n 0, 1) := by decide +kernel
theorem dX12_clocks_24 : decode cX12_clocks 24 = .ok (.iload_n 1, 1) := by decide +kernel
theorem dX12_clocks_25 : decode cX12_clocks 25 = .ok (.invokevirtual 362, 3) := by decide +kernel
theorem dX12_clocks_28 : decode cX12_clocks 28 = .ok (.aload_n 0, 1) := by decide +kernel
theorem dX12_clocks_29 : decode cX12_clocks 29 = .ok (.getfield 311, 3) := by decide +kernel
theorem dX12_clocks_32 : decode cX12_clocks 32 = .ok (.iload_n 1, 1) := by decide +kernel
theorem dX12_clocks_33 : decode cX12_clocks 33 = .ok (.iaload, 1) := by decide +kernel
theorem dX12_clocks_34 : decode cX12_clocks 34 = .ok (.ifCond .eq 16, 3) := by decide +kernel
theorem dX12_clocks_37 : decode cX12_clocks 37 = .ok (.aload_n 0, 1) := by decide +kernel
theorem dX12_clocks_38 : decode cX12_clocks 38 = .ok (.getfield 378, 3) := by decide +kernel
theorem dX12_clocks_41 : decode cX12_clocks 41 = .ok (.aload_n 0, 1) := by decide +kernel
theorem dX12_clocks_42 : decode cX12_clocks 42 = .ok (.getfield 320, 3) := by decide +kernel
theorem dX12_clocks_45 : decode cX12_clocks 45 = .ok (.iload_n 1, 1) := by decide +kernel
theorem dX12_clocks_46 : decode cX12_clocks 46 = .ok (.iaload, 1) := by decide +kernel
theorem dX12_clocks_47 : decode cX12_clocks 47 = .ok (.if_icmp .ge 4, 3) := by decide +kernel
theorem dX12_clocks_50 : decode cX12_clocks 50 = .ok (.return_, 1) := by decide +kernel
theorem dX12_clocks_51 : decode cX12_clocks 51 = .ok (.aload_n 0, 1) := by decide +kernel
theorem dX12_clocks_52 : decode cX12_clocks 52 = .ok (.getfield 317, 3) := by decide +kernel
theorem dX12_clocks_55 : decode cX12_clocks 55 = .ok (.iload_n 1, 1) := by decide +kernel
theorem dX12_clocks_56 : decode cX12_clocks 56 = .ok (.iaload, 1) := by decide +kernel
theorem dX12_clocks_57 : decode cX12_clocks 57 = .ok (.sipush 500, 3) := by decide +kernel
theorem dX12_clocks_60 : decode cX12_clocks 60 = .ok (.if_icmp .ge 24, 3) := by decide +kernel
theorem dX12_clocks_63 : decode cX12_clocks 63 = .ok (.aload_n 0, 1) := by decide +kernel
theorem dX12_clocks_64 : decode cX12_clocks 64 = .ok (.getfield 314, 3) := by decide +kernel
theorem dX12_clocks_67 : decode cX12_clocks 67 = .ok (.iload_n 1, 1) := by decide +kernel
theorem dX12_clocks_68 : decode cX12_clocks 68 = .ok (.aaload, 1) := by decide +kernel
theorem dX12_clocks_69 : decode cX12_clocks 69 = .ok (.aload_n 0, 1) := by decide +kernel
theorem dX12_clocks_70 : decode cX12_clocks 70 = .ok (.getfield 317, 3) := by decide +kernel
theorem dX12_clocks_73 : decode cX12_clocks 73 = .ok (.iload_n 1, 1) := by decide +kernel
theorem dX12_clocks_74 : decode cX12_clocks 74 = .ok (.iaload, 1) := by decide +kernel
theorem dX12_clocks_75 : decode cX12_clocks 75 = .ok (.aload_n 0, 1) := by decide +kernel
theorem dX12_clocks_76 : decode cX12_clocks 76 = .ok (.getfield 308, 3) := by decide +kernel
theorem dX12_clocks_79 : decode cX12_clocks 79 = .ok (.iload_n 1, 1) := by decide +kernel
theorem dX12_clocks_80 : decode cX12_clocks 80 = .ok (.aaload, 1) := by decide +kernel
theorem dX12_clocks_81 : decode cX12_clocks 81 = .ok (.iconst 0, 1) := by decide +kernel
theorem dX12_clocks_82 : decode cX12_clocks 82 = .ok (.iaload, 1) := by decide +kernel
theorem dX12_clocks_83 : decode cX12_clocks 83 = .ok (.iastore, 1) := by decide +kernel
theorem dX12_clocks_84 : decode cX12_clocks 84 = .ok (.aload_n 0, 1) := by decide +kernel
theorem dX12_clocks_85 : decode cX12_clocks 85 = .ok (.getfield 317, 3) := by decide +kernel
theorem dX12_clocks_88 : decode cX12_clocks 88 = .ok (.iload_n 1, 1) := by decide +kernel
theorem dX12_clocks_89 : decode cX12_clocks 89 = .ok (.dup2, 1) := by decide +kernel
theorem dX12_clocks_90 : decode cX12_clocks 90 = .ok (.iaload, 1) := by decide +kernel
theorem dX12_clocks_91 : decode cX12_clocks 91 = .ok (.iconst 1, 1) := by decide +kernel
theorem dX12_clocks_92 : decode cX12_clocks 92 = .ok (.iadd, 1) := by decide +kernel
theorem dX12_clocks_93 : decode cX12_clocks 93 = .ok (.iastore, 1) := by decide +kernel
theorem dX12_clocks_94 : decode cX12_clocks 94 = .ok (.aload_n 0, 1) := by decide +kernel
theorem dX12_clocks_95 : decode cX12_clocks 95 = .ok (.getfield 311, 3) := by decide +kernel
theorem dX12_clocks_98 : decode cX12_clocks 98 = .ok (.iload_n 1, 1) := by decide +kernel
theorem dX12_clocks_99 : decode cX12_clocks 99 = .ok (.dup2, 1) := by decide +kernel
theorem dX12_clocks_100 : decode cX12_clocks 100 = .ok (.iaload, 1) := by decide +kernel
theorem dX12_clocks_101 : decode cX12_clocks 101 = .ok (.iconst 1, 1) := by decide +kernel
theorem dX12_clocks_102 : decode cX12_clocks 102 = .ok (.isub, 1) := by decide +kernel
theorem dX12_clocks_103 : decode cX12_clocks 103 = .ok (.iastore, 1) := by decide +kernel
theorem dX12_clocks_104 : decode cX12_clocks 104 = .ok (.iconst 0, 1) := by decide +kernel
theorem dX12_clocks_105 : decode cX12_clocks 105 = .ok (.istore_n 2, 1) := by decide +kernel
theorem dX12_clocks_106 : decode cX12_clocks 106 = .ok (.iload_n 2, 1) := by decide +kernel
theorem dX12_clocks_107 : decode cX12_clocks 107 = .ok (.aload_n 0, 1) := by decide +kernel
theorem dX12_clocks_108 : decode cX12_clocks 108 = .ok (.getfield 311, 3) := by decide +kernel
theorem dX12_clocks_111 : decode cX12_clocks 111 = .ok (.iload_n 1, 1) := by decide +kernel
theorem dX12_clocks_112 : decode cX12_clocks 112 = .ok (.iaload, 1) := by decide +kernel
theorem dX12_clocks_113 : decode cX12_clocks 113 = .ok (.if_icmp .ge 27, 3) := by decide +kernel
theorem dX12_clocks_116 : decode cX12_clocks 116 = .ok (.aload_n 0, 1) := by decide +kernel
theorem dX12_clocks_117 : decode cX12_clocks 117 = .ok (.getfield 308, 3) := by decide +kernel
theorem dX12_clocks_120 : decode cX12_clocks 120 = .ok (.iload_n 1, 1) := by decide +kernel
theorem dX12_clocks_121 : decode cX12_clocks 121 = .ok (.aaload, 1) := by decide +kernel
theorem dX12_clocks_122 : decode cX12_clocks 122 = .ok (.iload_n 2, 1) := by decide +kernel
theorem dX12_clocks_123 : decode cX12_clocks 123 = .ok (.aload_n 0, 1) := by decide +kernel
theorem dX12_clocks_124 : decode cX12_clocks 124 = .ok (.getfield 308, 3) := by decide +kernel
theorem dX12_clocks_127 : decode cX12_clocks 127 = .ok (.iload_n 1, 1) := by decide +kernel
theorem dX12_clocks_128 : decode cX12_clocks 128 = .ok (.aaload, 1) := by decide +kernel
theorem dX12_clocks_129 : decode cX12_clocks 129 = .ok (.iload_n 2, 1) := by decide +kernel
theorem dX12_clocks_130 : decode cX12_clocks 130 = .ok (.iconst 1, 1) := by decide +kernel
theorem dX12_clocks_131 : decode cX12_clocks 131 = .ok (.iadd, 1) := by decide +kernel
theorem dX12_clocks_132 : decode cX12_clocks 132 = .ok (.iaload, 1) := by decide +kernel
theorem dX12_clocks_133 : decode cX12_clocks 133 = .ok (.iastore, 1) := by decide +kernel
theorem dX12_clocks_134 : decode cX12_clocks 134 = .ok (.iinc 2 1, 3) := by decide +kernel
theorem dX12_clocks_137 : decode cX12_clocks 137 = .ok (.goto (-31), 3) := by decide +kernel
theorem dX12_clocks_140 : decode cX12_clocks 140 = .ok (.aload_n 0, 1) := by decide +kernel
theorem dX12_clocks_141 : decode cX12_clocks 141 = .ok (.getfield 320, 3) := by decide +kernel
theorem dX12_clocks_144 : decode cX12_clocks 144 = .ok (.iload_n 1, 1) := by decide +kernel
theorem dX12_clocks_145 : decode cX12_clocks 145 = .ok (.aload_n 0, 1) := by decide +kernel
theorem dX12_clocks_146 : decode cX12_clocks 146 = .ok (.getfield 378, 3) := by decide +kernel
theorem dX12_clocks_149 : decode cX12_clocks 149 = .ok (.aload_n 0, 1) := by decide +kernel
theorem dX12_clocks_150 : decode cX12_clocks 150 = .ok (.getfield 252, 3) := by decide +kernel
theorem dX12_clocks_153 : decode cX12_clocks 153 = .ok (.iadd, 1) := by decide +kernel
theorem dX12_clocks_154 : decode cX12_clocks 154 = .ok (.iastore, 1) := by decide +kernel
theorem dX12_clocks_155 : decode cX12_clocks 155 = .ok (.aload_n 0, 1) := by decide +kernel
theorem dX12_clocks_156 : decode cX12_clocks 156 = .ok (.getfield 278, 3) := by decide +kernel
theorem dX12_clocks_159 : decode cX12_clocks 159 = .ok (.iload_n 1, 1) := by decide +kernel
theorem dX12_clocks_160 : decode cX12_clocks 160 = .ok (.iaload, 1) := by decide +kernel
theorem dX12_clocks_161 : decode cX12_clocks 161 = .ok (.iconst 3, 1) := by decide +kernel
theorem dX12_clocks_162 : decode cX12_clocks 162 = .ok (.if_icmp .ne 8, 3) := by decide +kernel
theorem dX12_clocks_165 : decode cX12_clocks 165 = .ok (.aload_n 0, 1) := by decide +kernel
theorem dX12_clocks_166 : decode cX12_clocks 166 = .ok (.iload_n 1, 1) := by decide +kernel
theorem dX12_clocks_167 : decode cX12_clocks 167 = .ok (.invokevirtual 362, 3) := by decide +kernel
theorem dX12_clocks_170 : decode cX12_clocks 170 = .ok (.return_, 1) := by decide +kernel
theorem dX12_moves_0 : decode cX12_moves 0 = .ok (.aload_n 0, 1) := by decide +kernel
theorem dX12_moves_1 : decode cX12_moves 1 = .ok (.getfield 347, 3) := by decide +kernel
theorem dX12_moves_4 : decode cX12_moves 4 = .ok (.istore_n 1, 1) := by decide +kernel
theorem dX12_moves_5 : decode cX12_moves 5 = .ok (.iconst 0, 1) := by decide +kernel
theorem dX12_moves_6 : decode cX12_moves 6 = .ok (.istore_n 2, 1) := by decide +kernel
theorem dX12_moves_7 : decode cX12_moves 7 = .ok (.iload_n 2, 1) := by decide +kernel
theorem dX12_moves_8 : decode cX12_moves 8 = .ok (.bipush 16, 2) := by decide +kernel
theorem dX12_moves_10 : decode cX12_moves 10 = .ok (.if_icmp .ge 165, 3) := by decide +kernel
theorem dX12_moves_13 : decode cX12_moves 13 = .ok (.aload_n 0, 1) := by decide +kernel
theorem dX12_moves_14 : decode cX12_moves 14 = .ok (.getfield 329, 3) := by decide +kernel
theorem dX12_moves_17 : decode cX12_moves 17 = .ok (.iload_n 1, 1) := by decide +kernel
theorem dX12_moves_18 : decode cX12_moves 18 = .ok (.iaload, 1) := by decide +kernel
theorem dX12_moves_19 : decode cX12_moves 19 = .ok (.aload_n 0, 1) := by decide +kernel
theorem dX12_moves_20 : decode cX12_moves 20 = .ok (.getfield 393, 3) := by decide +kernel
theorem dX12_moves_23 : decode cX12_moves 23 = .ok (.iadd, 1) := by decide +kernel
theorem dX12_moves_24 : decode cX12_moves 24 = .ok (.sipush 4095, 3) := by decide +kernel
theorem dX12_moves_27 : decode cX12_moves 27 = .ok (.iand, 1) := by decide +kernel
theorem dX12_moves_28 : decode cX12_moves 28 = .ok (.istore_n 3, 1) := by decide +kernel
theorem dX12_moves_29 : decode cX12_moves 29 = .ok (.sipush 128, 3) := by decide +kernel
theorem dX12_moves_32 : decode cX12_moves 32 = .ok (.aload_n 0, 1) := by decide +kernel
theorem dX12_moves_33 : decode cX12_moves 33 = .ok (.getfield 332, 3) := by decide +kernel
theorem dX12_moves_36 : decode cX12_moves 36 = .ok (.iload_n 1, 1) := by decide +kernel
theorem dX12_moves_37 : decode cX12_moves 37 = .ok (.iaload, 1) := by decide +kernel
theorem dX12_moves_38 : decode cX12_moves 38 = .ok (.imul, 1) := by decide +kernel
theorem dX12_moves_39 : decode cX12_moves 39 = .ok (.aload_n 0, 1) := by decide +kernel
theorem dX12_moves_40 : decode cX12_moves 40 = .ok (.getfield 393, 3) := by decide +kernel
theorem dX12_moves_43 : decode cX12_moves 43 = .ok (.iadd, 1) := by decide +kernel
theorem dX12_moves_44 : decode cX12_moves 44 = .ok (.istore 4, 2) := by decide +kernel
theorem dX12_moves_46 : decode cX12_moves 46 = .ok (.aload_n 0, 1) := by decide +kernel
theorem dX12_moves_47 : decode cX12_moves 47 = .ok (.getfield 344, 3) := by decide +kernel
theorem dX12_moves_50 : decode cX12_moves 50 = .ok (.iconst 1, 1) := by decide +kernel
theorem dX12_moves_51 : decode cX12_moves 51 = .ok (.if_icmp .ne 31, 3) := by decide +kernel
theorem dX12_moves_54 : decode cX12_moves 54 = .ok (.aload_n 0, 1) := by decide +kernel
theorem dX12_moves_55 : decode cX12_moves 55 = .ok (.getfield 260, 3) := by decide +kernel
theorem dX12_moves_58 : decode cX12_moves 58 = .ok (.iload_n 1, 1) := by decide +kernel
theorem dX12_moves_59 : decode cX12_moves 59 = .ok (.aaload, 1) := by decide +kernel
theorem dX12_moves_60 : decode cX12_moves 60 = .ok (.aload_n 0, 1) := by decide +kernel
theorem dX12_moves_61 : decode cX12_moves 61 = .ok (.getfield 393, 3) := by decide +kernel
end
section
theorem dX12_moves_64 : decode cX12_moves 64 = .ok (.aload_n 0, 1) := by decide +kernel
theorem dX12_moves_65 : decode cX12_moves 65 = .ok (.getfield 257, 3) := by decide +kernel
theorem dX12_moves_68 : decode cX12_moves 68 = .ok (.aload_n 0, 1) := by decide +kernel
theorem dX12_moves_69 : decode cX12_moves 69 = .ok (.getfield 396, 3) := by decide +kernel
theorem dX12_moves_72 : decode cX12_moves 72 = .ok (.aaload, 1) := by decide +kernel
theorem dX12_moves_73 : decode cX12_moves 73 = .ok (.aload_n 0, 1) := by decide +kernel
theorem dX12_moves_74 : decode cX12_moves 74 = .ok (.getfield 393, 3) := by decide +kernel
theorem dX12_moves_77 : decode cX12_moves 77 = .ok (.iaload, 1) := by decide +kernel
theorem dX12_moves_78 : decode cX12_moves 78 = .ok (.iastore, 1) := by decide +kernel
theorem dX12_moves_79 : decode cX12_moves 79 = .ok (.goto 80, 3) := by decide +kernel
theorem dX12_moves_82 : decode cX12_moves 82 = .ok (.aload_n 0, 1) := by decide +kernel
theorem dX12_moves_83 : decode cX12_moves 83 = .ok (.getfield 344, 3) := by decide +kernel
theorem dX12_moves_86 : decode cX12_moves 86 = .ok (.iconst 2, 1) := by decide +kernel
theorem dX12_moves_87 : decode cX12_moves 87 = .ok (.if_icmp .ne 31, 3) := by decide +kernel
theorem dX12_moves_90 : decode cX12_moves 90 = .ok (.aload_n 0, 1) := by decide +kernel
theorem dX12_moves_91 : decode cX12_moves 91 = .ok (.getfield 257, 3) := by decide +kernel
theorem dX12_moves_94 : decode cX12_moves 94 = .ok (.aload_n 0, 1) := by decide +kernel
theorem dX12_moves_95 : decode cX12_moves 95 = .ok (.getfield 396, 3) := by decide +kernel
theorem dX12_moves_98 : decode cX12_moves 98 = .ok (.aaload, 1) := by decide +kernel
theorem dX12_moves_99 : decode cX12_moves 99 = .ok (.aload_n 0, 1) := by decide +kernel
theorem dX12_moves_100 : decode cX12_moves 100 = .ok (.getfield 393, 3) := by decide +kernel
theorem dX12_moves_103 : decode cX12_moves 103 = .ok (.aload_n 0, 1) := by decide +kernel
theorem dX12_moves_104 : decode cX12_moves 104 = .ok (.getfield 260, 3) := by decide +kernel
theorem dX12_moves_107 : decode cX12_moves 107 = .ok (.iload_n 1, 1) := by decide +kernel
theorem dX12_moves_108 : decode cX12_moves 108 = .ok (.aaload, 1) := by decide +kernel
theorem dX12_moves_109 : decode cX12_moves 109 = .ok (.aload_n 0, 1) := by decide +kernel
theorem dX12_moves_110 : decode cX12_moves 110 = .ok (.getfield 393, 3) := by decide +kernel
theorem dX12_moves_113 : decode cX12_moves 113 = .ok (.iaload, 1) := by decide +kernel
theorem dX12_moves_114 : decode cX12_moves 114 = .ok (.iastore, 1) := by decide +kernel
theorem dX12_moves_115 : decode cX12_moves 115 = .ok (.goto 44, 3) := by decide +kernel
theorem dX12_moves_118 : decode cX12_moves 118 = .ok (.aload_n 0, 1) := by decide +kernel
theorem dX12_moves_119 : decode cX12_moves 119 = .ok (.getfield 344, 3) := by decide +kernel
theorem dX12_moves_122 : decode cX12_moves 122 = .ok (.iconst 3, 1) := by decide +kernel
theorem dX12_moves_123 : decode cX12_moves 123 = .ok (.if_icmp .ne 21, 3) := by decide +kernel
theorem dX12_moves_126 : decode cX12_moves 126 = .ok (.aload_n 0, 1) := by decide +kernel
theorem dX12_moves_127 : decode cX12_moves 127 = .ok (.iload_n 1, 1) := by decide +kernel
theorem dX12_moves_128 : decode cX12_moves 128 = .ok (.iload_n 3, 1) := by decide +kernel
theorem dX12_moves_129 : decode cX12_moves 129 = .ok (.aload_n 0, 1) := by decide +kernel
theorem dX12_moves_130 : decode cX12_moves 130 = .ok (.getfield 263, 3) := by decide +kernel
theorem dX12_moves_133 : decode cX12_moves 133 = .ok (.iload_n 1, 1) := by decide +kernel
theorem dX12_moves_134 : decode cX12_moves 134 = .ok (.aaload, 1) := by decide +kernel
theorem dX12_moves_135 : decode cX12_moves 135 = .ok (.iload 4, 2) := by decide +kernel
theorem dX12_moves_137 : decode cX12_moves 137 = .ok (.iaload, 1) := by decide +kernel
theorem dX12_moves_138 : decode cX12_moves 138 = .ok (.invokevirtual 368, 3) := by decide +kernel
theorem dX12_moves_141 : decode cX12_moves 141 = .ok (.goto 18, 3) := by decide +kernel
theorem dX12_moves_144 : decode cX12_moves 144 = .ok (.aload_n 0, 1) := by decide +kernel
theorem dX12_moves_145 : decode cX12_moves 145 = .ok (.getfield 263, 3) := by decide +kernel
theorem dX12_moves_148 : decode cX12_moves 148 = .ok (.iload_n 1, 1) := by decide +kernel
theorem dX12_moves_149 : decode cX12_moves 149 = .ok (.aaload, 1) := by decide +kernel
theorem dX12_moves_150 : decode cX12_moves 150 = .ok (.iload 4, 2) := by decide +kernel
theorem dX12_moves_152 : decode cX12_moves 152 = .ok (.aload_n 0, 1) := by decide +kernel
theorem dX12_moves_153 : decode cX12_moves 153 = .ok (.iload_n 1, 1) := by decide +kernel
theorem dX12_moves_154 : decode cX12_moves 154 = .ok (.iload_n 3, 1) := by decide +kernel
theorem dX12_moves_155 : decode cX12_moves 155 = .ok (.invokevirtual 399, 3) := by decide +kernel
theorem dX12_moves_158 : decode cX12_moves 158 = .ok (.iastore, 1) := by decide +kernel
theorem dX12_moves_159 : decode cX12_moves 159 = .ok (.aload_n 0, 1) := by decide +kernel
theorem dX12_moves_160 : decode cX12_moves 160 = .ok (.dup, 1) := by decide +kernel
theorem dX12_moves_161 : decode cX12_moves 161 = .ok (.getfield 393, 3) := by decide +kernel
theorem dX12_moves_164 : decode cX12_moves 164 = .ok (.iconst 1, 1) := by decide +kernel
theorem dX12_moves_165 : decode cX12_moves 165 = .ok (.iadd, 1) := by decide +kernel
theorem dX12_moves_166 : decode cX12_moves 166 = .ok (.putfield 393, 3) := by decide +kernel
theorem dX12_moves_169 : decode cX12_moves 169 = .ok (.iinc 2 1, 3) := by decide +kernel
theorem dX12_moves_172 : decode cX12_moves 172 = .ok (.goto (-165), 3) := by decide +kernel
theorem dX12_moves_175 : decode cX12_moves 175 = .ok (.aload_n 0, 1) := by decide +kernel
theorem dX12_moves_176 : decode cX12_moves 176 = .ok (.getfield 393, 3) := by decide +kernel
theorem dX12_moves_179 : decode cX12_moves 179 = .ok (.aload_n 0, 1) := by decide +kernel
theorem dX12_moves_180 : decode cX12_moves 180 = .ok (.getfield 344, 3) := by decide +kernel
theorem dX12_moves_183 : decode cX12_moves 183 = .ok (.iconst 3, 1) := by decide +kernel
theorem dX12_moves_184 : decode cX12_moves 184 = .ok (.if_icmp .ge 9, 3) := by decide +kernel
theorem dX12_moves_187 : decode cX12_moves 187 = .ok (.sipush 4096, 3) := by decide +kernel
theorem dX12_moves_190 : decode cX12_moves 190 = .ok (.goto 6, 3) := by decide +kernel
theorem dX12_moves_193 : decode cX12_moves 193 = .ok (.sipush 128, 3) := by decide +kernel
theorem dX12_moves_196 : decode cX12_moves 196 = .ok (.if_icmp .ne 8, 3) := by decide +kernel
theorem dX12_moves_199 : decode cX12_moves 199 = .ok (.aload_n 0, 1) := by decide +kernel
theorem dX12_moves_200 : decode cX12_moves 200 = .ok (.iload_n 1, 1) := by decide +kernel
theorem dX12_moves_201 : decode cX12_moves 201 = .ok (.invokevirtual 402, 3) := by decide +kernel
theorem dX12_moves_204 : decode cX12_moves 204 = .ok (.return_, 1) := by decide +kernel
theorem dX12_ends_0 : decode cX12_ends 0 = .ok (.aload_n 0, 1) := by decide +kernel
theorem dX12_ends_1 : decode cX12_ends 1 = .ok (.getfield 344, 3) := by decide +kernel
theorem dX12_ends_4 : decode cX12_ends 4 = .ok (.iconst 1, 1) := by decide +kernel
theorem dX12_ends_5 : decode cX12_ends 5 = .ok (.if_icmp .ne 24, 3) := by decide +kernel
theorem dX12_ends_8 : decode cX12_ends 8 = .ok (.aload_n 0, 1) := by decide +kernel
theorem dX12_ends_9 : decode cX12_ends 9 = .ok (.aload_n 0, 1) := by decide +kernel
theorem dX12_ends_10 : decode cX12_ends 10 = .ok (.getfield 396, 3) := by decide +kernel
theorem dX12_ends_13 : decode cX12_ends 13 = .ok (.invokevirtual 356, 3) := by decide +kernel
theorem dX12_ends_16 : decode cX12_ends 16 = .ok (.aload_n 0, 1) := by decide +kernel
theorem dX12_ends_17 : decode cX12_ends 17 = .ok (.dup, 1) := by decide +kernel
theorem dX12_ends_18 : decode cX12_ends 18 = .ok (.getfield 405, 3) := by decide +kernel
theorem dX12_ends_21 : decode cX12_ends 21 = .ok (.iconst 1, 1) := by decide +kernel
theorem dX12_ends_22 : decode cX12_ends 22 = .ok (.iadd, 1) := by decide +kernel
theorem dX12_ends_23 : decode cX12_ends 23 = .ok (.putfield 405, 3) := by decide +kernel
theorem dX12_ends_26 : decode cX12_ends 26 = .ok (.goto 118, 3) := by decide +kernel
theorem dX12_ends_29 : decode cX12_ends 29 = .ok (.aload_n 0, 1) := by decide +kernel
theorem dX12_ends_30 : decode cX12_ends 30 = .ok (.getfield 344, 3) := by decide +kernel
theorem dX12_ends_33 : decode cX12_ends 33 = .ok (.iconst 2, 1) := by decide +kernel
theorem dX12_ends_34 : decode cX12_ends 34 = .ok (.if_icmp .ne 56, 3) := by decide +kernel
theorem dX12_ends_37 : decode cX12_ends 37 = .ok (.aload_n 0, 1) := by decide +kernel
theorem dX12_ends_38 : decode cX12_ends 38 = .ok (.getfield 275, 3) := by decide +kernel
theorem dX12_ends_41 : decode cX12_ends 41 = .ok (.iload_n 1, 1) := by decide +kernel
theorem dX12_ends_42 : decode cX12_ends 42 = .ok (.aload_n 0, 1) := by decide +kernel
theorem dX12_ends_43 : decode cX12_ends 43 = .ok (.getfield 396, 3) := by decide +kernel
theorem dX12_ends_46 : decode cX12_ends 46 = .ok (.iastore, 1) := by decide +kernel
theorem dX12_ends_47 : decode cX12_ends 47 = .ok (.aload_n 0, 1) := by decide +kernel
theorem dX12_ends_48 : decode cX12_ends 48 = .ok (.getfield 266, 3) := by decide +kernel
theorem dX12_ends_51 : decode cX12_ends 51 = .ok (.aload_n 0, 1) := by decide +kernel
theorem dX12_ends_52 : decode cX12_ends 52 = .ok (.getfield 396, 3) := by decide +kernel
theorem dX12_ends_55 : decode cX12_ends 55 = .ok (.iload_n 1, 1) := by decide +kernel
theorem dX12_ends_56 : decode cX12_ends 56 = .ok (.iastore, 1) := by decide +kernel
theorem dX12_ends_57 : decode cX12_ends 57 = .ok (.aload_n 0, 1) := by decide +kernel
theorem dX12_ends_58 : decode cX12_ends 58 = .ok (.getfield 269, 3) := by decide +kernel
theorem dX12_ends_61 : decode cX12_ends 61 = .ok (.aload_n 0, 1) := by decide +kernel
theorem dX12_ends_62 : decode cX12_ends 62 = .ok (.getfield 396, 3) := by decide +kernel
theorem dX12_ends_65 : decode cX12_ends 65 = .ok (.iconst 0, 1) := by decide +kernel
theorem dX12_ends_66 : decode cX12_ends 66 = .ok (.bastore, 1) := by decide +kernel
theorem dX12_ends_67 : decode cX12_ends 67 = .ok (.aload_n 0, 1) := by decide +kernel
theorem dX12_ends_68 : decode cX12_ends 68 = .ok (.getfield 272, 3) := by decide +kernel
theorem dX12_ends_71 : decode cX12_ends 71 = .ok (.aload_n 0, 1) := by decide +kernel
theorem dX12_ends_72 : decode cX12_ends 72 = .ok (.getfield 396, 3) := by decide +kernel
theorem dX12_ends_75 : decode cX12_ends 75 = .ok (.iconst 0, 1) := by decide +kernel
theorem dX12_ends_76 : decode cX12_ends 76 = .ok (.bastore, 1) := by decide +kernel
theorem dX12_ends_77 : decode cX12_ends 77 = .ok (.aload_n 0, 1) := by decide +kernel
theorem dX12_ends_78 : decode cX12_ends 78 = .ok (.dup, 1) := by decide +kernel
theorem dX12_ends_79 : decode cX12_ends 79 = .ok (.getfield 408, 3) := by decide +kernel
theorem dX12_ends_82 : decode cX12_ends 82 = .ok (.iconst 1, 1) := by decide +kernel
theorem dX12_ends_83 : decode cX12_ends 83 = .ok (.iadd, 1) := by decide +kernel
theorem dX12_ends_84 : decode cX12_ends 84 = .ok (.putfield 408, 3) := by decide +kernel
theorem dX12_ends_87 : decode cX12_ends 87 = .ok (.goto 57, 3) := by decide +kernel
theorem dX12_ends_90 : decode cX12_ends 90 = .ok (.aload_n 0, 1) := by decide +kernel
theorem dX12_ends_91 : decode cX12_ends 91 = .ok (.getfield 281, 3) := by decide +kernel
theorem dX12_ends_94 : decode cX12_ends 94 = .ok (.iload_n 1, 1) := by decide +kernel
theorem dX12_ends_95 : decode cX12_ends 95 = .ok (.iconst 0, 1) := by decide +kernel
theorem dX12_ends_96 : decode cX12_ends 96 = .ok (.iastore, 1) := by decide +kernel
theorem dX12_ends_97 : decode cX12_ends 97 = .ok (.aload_n 0, 1) := by decide +kernel
theorem dX12_ends_98 : decode cX12_ends 98 = .ok (.getfield 296, 3) := by decide +kernel
theorem dX12_ends_101 : decode cX12_ends 101 = .ok (.iload_n 1, 1) := by decide +kernel
theorem dX12_ends_102 : decode cX12_ends 102 = .ok (.dup2, 1) := by decide +kernel
theorem dX12_ends_103 : decode cX12_ends 103 = .ok (.iaload, 1) := by decide +kernel
theorem dX12_ends_104 : decode cX12_ends 104 = .ok (.iconst 1, 1) := by decide +kernel
theorem dX12_ends_105 : decode cX12_ends 105 = .ok (.iadd, 1) := by decide +kernel
theorem dX12_ends_106 : decode cX12_ends 106 = .ok (.iastore, 1) := by decide +kernel
theorem dX12_ends_107 : decode cX12_ends 107 = .ok (.aload_n 0, 1) := by decide +kernel
theorem dX12_ends_108 : decode cX12_ends 108 = .ok (.dup, 1) := by decide +kernel
theorem dX12_ends_109 : decode cX12_ends 109 = .ok (.getfield 372, 3) := by decide +kernel
theorem dX12_ends_112 : decode cX12_ends 112 = .ok (.iconst 1, 1) := by decide +kernel
theorem dX12_ends_113 : decode cX12_ends 113 = .ok (.iadd, 1) := by decide +kernel
theorem dX12_ends_114 : decode cX12_ends 114 = .ok (.putfield 372, 3) := by decide +kernel
theorem dX12_ends_117 : decode cX12_ends 117 = .ok (.aload_n 0, 1) := by decide +kernel
theorem dX12_ends_118 : decode cX12_ends 118 = .ok (.dup, 1) := by decide +kernel
theorem dX12_ends_119 : decode cX12_ends 119 = .ok (.getfield 411, 3) := by decide +kernel
theorem dX12_ends_122 : decode cX12_ends 122 = .ok (.iconst 1, 1) := by decide +kernel
theorem dX12_ends_123 : decode cX12_ends 123 = .ok (.iadd, 1) := by decide +kernel
theorem dX12_ends_124 : decode cX12_ends 124 = .ok (.putfield 411, 3) := by decide +kernel
theorem dX12_ends_127 : decode cX12_ends 127 = .ok (.aload_n 0, 1) := by decide +kernel
theorem dX12_ends_128 : decode cX12_ends 128 = .ok (.getfield 272, 3) := by decide +kernel
theorem dX12_ends_131 : decode cX12_ends 131 = .ok (.aload_n 0, 1) := by decide +kernel
theorem dX12_ends_132 : decode cX12_ends 132 = .ok (.getfield 275, 3) := by decide +kernel
theorem dX12_ends_135 : decode cX12_ends 135 = .ok (.iload_n 1, 1) := by decide +kernel
theorem dX12_ends_136 : decode cX12_ends 136 = .ok (.iaload, 1) := by decide +kernel
theorem dX12_ends_137 : decode cX12_ends 137 = .ok (.iconst 1, 1) := by decide +kernel
theorem dX12_ends_138 : decode cX12_ends 138 = .ok (.bastore, 1) := by decide +kernel
theorem dX12_ends_139 : decode cX12_ends 139 = .ok (.aload_n 0, 1) := by decide +kernel
theorem dX12_ends_140 : decode cX12_ends 140 = .ok (.iload_n 1, 1) := by decide +kernel
theorem dX12_ends_141 : decode cX12_ends 141 = .ok (.invokevirtual 362, 3) := by decide +kernel
theorem dX12_ends_144 : decode cX12_ends 144 = .ok (.aload_n 0, 1) := by decide +kernel
theorem dX12_ends_145 : decode cX12_ends 145 = .ok (.aload_n 0, 1) := by decide +kernel
theorem dX12_ends_146 : decode cX12_ends 146 = .ok (.getfield 344, 3) := by decide +kernel
theorem dX12_ends_149 : decode cX12_ends 149 = .ok (.iconst 2, 1) := by decide +kernel
theorem dX12_ends_150 : decode cX12_ends 150 = .ok (.if_icmp .le 7, 3) := by decide +kernel
theorem dX12_ends_153 : decode cX12_ends 153 = .ok (.iconst 1, 1) := by decide +kernel
theorem dX12_ends_154 : decode cX12_ends 154 = .ok (.goto 4, 3) := by decide +kernel
theorem dX12_ends_157 : decode cX12_ends 157 = .ok (.iconst 0, 1) := by decide +kernel
theorem dX12_ends_158 : decode cX12_ends 158 = .ok (.putfield 414, 3) := by decide +kernel
theorem dX12_ends_161 : decode cX12_ends 161 = .ok (.aload_n 0, 1) := by decide +kernel
theorem dX12_ends_162 : decode cX12_ends 162 = .ok (.iconst 0, 1) := by decide +kernel
theorem dX12_ends_163 : decode cX12_ends 163 = .ok (.putfield 344, 3) := by decide +kernel
theorem dX12_ends_166 : decode cX12_ends 166 = .ok (.return_, 1) := by decide +kernel
theorem dX12_starts_0 : decode cX12_starts 0 = .ok (.aload_n 0, 1) := by decide +kernel
theorem dX12_starts_1 : decode cX12_starts 1 = .ok (.iload_n 1, 1) := by decide +kernel
theorem dX12_starts_2 : decode cX12_starts 2 = .ok (.putfield 344, 3) := by decide +kernel
theorem dX12_starts_5 : decode cX12_starts 5 = .ok (.aload_n 0, 1) := by decide +kernel
theorem dX12_starts_6 : decode cX12_starts 6 = .ok (.iload_n 2, 1) := by decide +kernel
theorem dX12_starts_7 : decode cX12_starts 7 = .ok (.putfield 347, 3) := by decide +kernel
theorem dX12_starts_10 : decode cX12_starts 10 = .ok (.aload_n 0, 1) := by decide +kernel
theorem dX12_starts_11 : decode cX12_starts 11 = .ok (.iload_n 3, 1) := by decide +kernel
theorem dX12_starts_12 : decode cX12_starts 12 = .ok (.putfield 396, 3) := by decide +kernel
theorem dX12_starts_15 : decode cX12_starts 15 = .ok (.aload_n 0, 1) := by decide +kernel
theorem dX12_starts_16 : decode cX12_starts 16 = .ok (.iconst 0, 1) := by decide +kernel
theorem dX12_starts_17 : decode cX12_starts 17 = .ok (.putfield 393, 3) := by decide +kernel
theorem dX12_starts_20 : decode cX12_starts 20 = .ok (.return_, 1) := by decide +kernel
theorem dX12_looksFor_0 : decode cX12_looksFor 0 = .ok (.aload_n 0, 1) := by decide +kernel
theorem dX12_looksFor_1 : decode cX12_looksFor 1 = .ok (.getfield 414, 3) := by decide +kernel
theorem dX12_looksFor_4 : decode cX12_looksFor 4 = .ok (.ifCond .eq 18, 3) := by decide +kernel
theorem dX12_looksFor_7 : decode cX12_looksFor 7 = .ok (.aload_n 0, 1) := by decide +kernel
theorem dX12_looksFor_8 : decode cX12_looksFor 8 = .ok (.invokevirtual 417, 3) := by decide +kernel
theorem dX12_looksFor_11 : decode cX12_looksFor 11 = .ok (.ifCond .ne 23, 3) := by decide +kernel
theorem dX12_looksFor_14 : decode cX12_looksFor 14 = .ok (.aload_n 0, 1) := by decide +kernel
theorem dX12_looksFor_15 : decode cX12_looksFor 15 = .ok (.invokevirtual 420, 3) := by decide +kernel
theorem dX12_looksFor_18 : decode cX12_looksFor 18 = .ok (.pop, 1) := by decide +kernel
theorem dX12_looksFor_19 : decode cX12_looksFor 19 = .ok (.goto 15, 3) := by decide +kernel
theorem dX12_looksFor_22 : decode cX12_looksFor 22 = .ok (.aload_n 0, 1) := by decide +kernel
theorem dX12_looksFor_23 : decode cX12_looksFor 23 = .ok (.invokevirtual 420, 3) := by decide +kernel
theorem dX12_looksFor_26 : decode cX12_looksFor 26 = .ok (.ifCond .ne 8, 3) := by decide +kernel
theorem dX12_looksFor_29 : decode cX12_looksFor 29 = .ok (.aload_n 0, 1) := by decide +kernel
theorem dX12_looksFor_30 : decode cX12_looksFor 30 = .ok (.invokevirtual 417, 3) := by decide +kernel
theorem dX12_looksFor_33 : decode cX12_looksFor 33 = .ok (.pop, 1) := by decide +kernel
theorem dX12_looksFor_34 : decode cX12_looksFor 34 = .ok (.return_, 1) := by decide +kernel
theorem dX12_blocksTask_0 : decode cX12_blocksTask 0 = .ok (.iconst (-1), 1) := by decide +kernel
theorem dX12_blocksTask_1 : decode cX12_blocksTask 1 = .ok (.istore_n 1, 1) := by decide +kernel
theorem dX12_blocksTask_2 : decode cX12_blocksTask 2 = .ok (.iconst 0, 1) := by decide +kernel
theorem dX12_blocksTask_3 : decode cX12_blocksTask 3 = .ok (.istore_n 2, 1) := by decide +kernel
theorem dX12_blocksTask_4 : decode cX12_blocksTask 4 = .ok (.iload_n 2, 1) := by decide +kernel
theorem dX12_blocksTask_5 : decode cX12_blocksTask 5 = .ok (.aload_n 0, 1) := by decide +kernel
theorem dX12_blocksTask_6 : decode cX12_blocksTask 6 = .ok (.getfield 243, 3) := by decide +kernel
theorem dX12_blocksTask_9 : decode cX12_blocksTask 9 = .ok (.if_icmp .ge 41, 3) := by decide +kernel
theorem dX12_blocksTask_12 : decode cX12_blocksTask 12 = .ok (.aload_n 0, 1) := by decide +kernel
theorem dX12_blocksTask_13 : decode cX12_blocksTask 13 = .ok (.getfield 278, 3) := by decide +kernel
theorem dX12_blocksTask_16 : decode cX12_blocksTask 16 = .ok (.iload_n 2, 1) := by decide +kernel
theorem dX12_blocksTask_17 : decode cX12_blocksTask 17 = .ok (.iaload, 1) := by decide +kernel
theorem dX12_blocksTask_18 : decode cX12_blocksTask 18 = .ok (.iconst 5, 1) := by decide +kernel
theorem dX12_blocksTask_19 : decode cX12_blocksTask 19 = .ok (.if_icmp .ne 25, 3) := by decide +kernel
theorem dX12_blocksTask_22 : decode cX12_blocksTask 22 = .ok (.iload_n 1, 1) := by decide +kernel
theorem dX12_blocksTask_23 : decode cX12_blocksTask 23 = .ok (.iconst (-1), 1) := by decide +kernel
theorem dX12_blocksTask_24 : decode cX12_blocksTask 24 = .ok (.if_icmp .eq 18, 3) := by decide +kernel
theorem dX12_blocksTask_27 : decode cX12_blocksTask 27 = .ok (.aload_n 0, 1) := by decide +kernel
theorem dX12_blocksTask_28 : decode cX12_blocksTask 28 = .ok (.getfield 326, 3) := by decide +kernel
theorem dX12_blocksTask_31 : decode cX12_blocksTask 31 = .ok (.iload_n 2, 1) := by decide +kernel
theorem dX12_blocksTask_32 : decode cX12_blocksTask 32 = .ok (.iaload, 1) := by decide +kernel
theorem dX12_blocksTask_33 : decode cX12_blocksTask 33 = .ok (.aload_n 0, 1) := by decide +kernel
theorem dX12_blocksTask_34 : decode cX12_blocksTask 34 = .ok (.getfield 326, 3) := by decide +kernel
theorem dX12_blocksTask_37 : decode cX12_blocksTask 37 = .ok (.iload_n 1, 1) := by decide +kernel
theorem dX12_blocksTask_38 : decode cX12_blocksTask 38 = .ok (.iaload, 1) := by decide +kernel
theorem dX12_blocksTask_39 : decode cX12_blocksTask 39 = .ok (.if_icmp .ge 5, 3) := by decide +kernel
theorem dX12_blocksTask_42 : decode cX12_blocksTask 42 = .ok (.iload_n 2, 1) := by decide +kernel
theorem dX12_blocksTask_43 : decode cX12_blocksTask 43 = .ok (.istore_n 1, 1) := by decide +kernel
theorem dX12_blocksTask_44 : decode cX12_blocksTask 44 = .ok (.iinc 2 1, 3) := by decide +kernel
theorem dX12_blocksTask_47 : decode cX12_blocksTask 47 = .ok (.goto (-43), 3) := by decide +kernel
theorem dX12_blocksTask_50 : decode cX12_blocksTask 50 = .ok (.iload_n 1, 1) := by decide +kernel
theorem dX12_blocksTask_51 : decode cX12_blocksTask 51 = .ok (.iconst (-1), 1) := by decide +kernel
theorem dX12_blocksTask_52 : decode cX12_blocksTask 52 = .ok (.if_icmp .eq 28, 3) := by decide +kernel
theorem dX12_blocksTask_55 : decode cX12_blocksTask 55 = .ok (.aload_n 0, 1) := by decide +kernel
theorem dX12_blocksTask_56 : decode cX12_blocksTask 56 = .ok (.aload_n 0, 1) := by decide +kernel
theorem dX12_blocksTask_57 : decode cX12_blocksTask 57 = .ok (.getfield 335, 3) := by decide +kernel
theorem dX12_blocksTask_60 : decode cX12_blocksTask 60 = .ok (.iload_n 1, 1) := by decide +kernel
theorem dX12_blocksTask_61 : decode cX12_blocksTask 61 = .ok (.baload, 1) := by decide +kernel
theorem dX12_blocksTask_62 : decode cX12_blocksTask 62 = .ok (.ifCond .eq 7, 3) := by decide +kernel
theorem dX12_blocksTask_65 : decode cX12_blocksTask 65 = .ok (.iconst 4, 1) := by decide +kernel
theorem dX12_blocksTask_66 : decode cX12_blocksTask 66 = .ok (.goto 4, 3) := by decide +kernel
theorem dX12_blocksTask_69 : decode cX12_blocksTask 69 = .ok (.iconst 3, 1) := by decide +kernel
theorem dX12_blocksTask_70 : decode cX12_blocksTask 70 = .ok (.iload_n 1, 1) := by decide +kernel
theorem dX12_blocksTask_71 : decode cX12_blocksTask 71 = .ok (.aload_n 0, 1) := by decide +kernel
theorem dX12_blocksTask_72 : decode cX12_blocksTask 72 = .ok (.getfield 275, 3) := by decide +kernel
theorem dX12_blocksTask_75 : decode cX12_blocksTask 75 = .ok (.iload_n 1, 1) := by decide +kernel
theorem dX12_blocksTask_76 : decode cX12_blocksTask 76 = .ok (.iaload, 1) := by decide +kernel
theorem dX12_blocksTask_77 : decode cX12_blocksTask 77 = .ok (.invokevirtual 423, 3) := by decide +kernel
theorem dX12_blocksTask_80 : decode cX12_blocksTask 80 = .ok (.iload_n 1, 1) := by decide +kernel
theorem dX12_blocksTask_81 : decode cX12_blocksTask 81 = .ok (.iconst (-1), 1) := by decide +kernel
theorem dX12_blocksTask_82 : decode cX12_blocksTask 82 = .ok (.if_icmp .eq 7, 3) := by decide +kernel
theorem dX12_blocksTask_85 : decode cX12_blocksTask 85 = .ok (.iconst 1, 1) := by decide +kernel
theorem dX12_blocksTask_86 : decode cX12_blocksTask 86 = .ok (.goto 4, 3) := by decide +kernel
theorem dX12_blocksTask_89 : decode cX12_blocksTask 89 = .ok (.iconst 0, 1) := by decide +kernel
theorem dX12_blocksTask_90 : decode cX12_blocksTask 90 = .ok (.ireturn, 1) := by decide +kernel
theorem dX12_queuesTask_0 : decode cX12_queuesTask 0 = .ok (.iconst (-1), 1) := by decide +kernel
theorem dX12_queuesTask_1 : decode cX12_queuesTask 1 = .ok (.istore_n 1, 1) := by decide +kernel
theorem dX12_queuesTask_2 : decode cX12_queuesTask 2 = .ok (.aload_n 0, 1) := by decide +kernel
theorem dX12_queuesTask_3 : decode cX12_queuesTask 3 = .ok (.getfield 338, 3) := by decide +kernel
theorem dX12_queuesTask_6 : decode cX12_queuesTask 6 = .ok (.iconst 1, 1) := by decide +kernel
theorem dX12_queuesTask_7 : decode cX12_queuesTask 7 = .ok (.isub, 1) := by decide +kernel
theorem dX12_queuesTask_8 : decode cX12_queuesTask 8 = .ok (.istore_n 2, 1) := by decide +kernel
theorem dX12_queuesTask_9 : decode cX12_queuesTask 9 = .ok (.iload_n 2, 1) := by decide +kernel
theorem dX12_queuesTask_10 : decode cX12_queuesTask 10 = .ok (.ifCond .lt 31, 3) := by decide +kernel
theorem dX12_queuesTask_13 : decode cX12_queuesTask 13 = .ok (.aload_n 0, 1) := by decide +kernel
theorem dX12_queuesTask_14 : decode cX12_queuesTask 14 = .ok (.getfield 275, 3) := by decide +kernel
theorem dX12_queuesTask_17 : decode cX12_queuesTask 17 = .ok (.aload_n 0, 1) := by decide +kernel
theorem dX12_queuesTask_18 : decode cX12_queuesTask 18 = .ok (.getfield 234, 3) := by decide +kernel
theorem dX12_queuesTask_21 : decode cX12_queuesTask 21 = .ok (.iload_n 2, 1) := by decide +kernel
theorem dX12_queuesTask_22 : decode cX12_queuesTask 22 = .ok (.iaload, 1) := by decide +kernel
theorem dX12_queuesTask_23 : decode cX12_queuesTask 23 = .ok (.iaload, 1) := by decide +kernel
theorem dX12_queuesTask_24 : decode cX12_queuesTask 24 = .ok (.iconst (-1), 1) := by decide +kernel
theorem dX12_queuesTask_25 : decode cX12_queuesTask 25 = .ok (.if_icmp .ne 10, 3) := by decide +kernel
theorem dX12_queuesTask_28 : decode cX12_queuesTask 28 = .ok (.aload_n 0, 1) := by decide +kernel
theorem dX12_queuesTask_29 : decode cX12_queuesTask 29 = .ok (.getfield 234, 3) := by decide +kernel
theorem dX12_queuesTask_32 : decode cX12_queuesTask 32 = .ok (.iload_n 2, 1) := by decide +kernel
theorem dX12_queuesTask_33 : decode cX12_queuesTask 33 = .ok (.iaload, 1) := by decide +kernel
theorem dX12_queuesTask_34 : decode cX12_queuesTask 34 = .ok (.istore_n 1, 1) := by decide +kernel
theorem dX12_queuesTask_35 : decode cX12_queuesTask 35 = .ok (.iinc 2 (-1), 3) := by decide +kernel
theorem dX12_queuesTask_38 : decode cX12_queuesTask 38 = .ok (.goto (-29), 3) := by decide +kernel
theorem dX12_queuesTask_41 : decode cX12_queuesTask 41 = .ok (.iload_n 1, 1) := by decide +kernel
theorem dX12_queuesTask_42 : decode cX12_queuesTask 42 = .ok (.iconst (-1), 1) := by decide +kernel
theorem dX12_queuesTask_43 : decode cX12_queuesTask 43 = .ok (.if_icmp .ne 5, 3) := by decide +kernel
theorem dX12_queuesTask_46 : decode cX12_queuesTask 46 = .ok (.iconst 0, 1) := by decide +kernel
theorem dX12_queuesTask_47 : decode cX12_queuesTask 47 = .ok (.ireturn, 1) := by decide +kernel
theorem dX12_queuesTask_48 : decode cX12_queuesTask 48 = .ok (.iconst (-1), 1) := by decide +kernel
theorem dX12_queuesTask_49 : decode cX12_queuesTask 49 = .ok (.istore_n 2, 1) := by decide +kernel
theorem dX12_queuesTask_50 : decode cX12_queuesTask 50 = .ok (.aload_n 0, 1) := by decide +kernel
theorem dX12_queuesTask_51 : decode cX12_queuesTask 51 = .ok (.getfield 246, 3) := by decide +kernel
theorem dX12_queuesTask_54 : decode cX12_queuesTask 54 = .ok (.iconst 1, 1) := by decide +kernel
theorem dX12_queuesTask_55 : decode cX12_queuesTask 55 = .ok (.isub, 1) := by decide +kernel
theorem dX12_queuesTask_56 : decode cX12_queuesTask 56 = .ok (.istore_n 3, 1) := by decide +kernel
theorem dX12_queuesTask_57 : decode cX12_queuesTask 57 = .ok (.iload_n 3, 1) := by decide +kernel
theorem dX12_queuesTask_58 : decode cX12_queuesTask 58 = .ok (.ifCond .lt 21, 3) := by decide +kernel
theorem dX12_queuesTask_61 : decode cX12_queuesTask 61 = .ok (.aload_n 0, 1) := by decide +kernel
theorem dX12_queuesTask_62 : decode cX12_queuesTask 62 = .ok (.getfield 266, 3) := by decide +kernel
theorem dX12_queuesTask_65 : decode cX12_queuesTask 65 = .ok (.iload_n 3, 1) := by decide +kernel
theorem dX12_queuesTask_66 : decode cX12_queuesTask 66 = .ok (.iaload, 1) := by decide +kernel
theorem dX12_queuesTask_67 : decode cX12_queuesTask 67 = .ok (.iconst (-1), 1) := by decide +kernel
theorem dX12_queuesTask_68 : decode cX12_queuesTask 68 = .ok (.if_icmp .ne 5, 3) := by decide +kernel
theorem dX12_queuesTask_71 : decode cX12_queuesTask 71 = .ok (.iload_n 3, 1) := by decide +kernel
theorem dX12_queuesTask_72 : decode cX12_queuesTask 72 = .ok (.istore_n 2, 1) := by decide +kernel
theorem dX12_queuesTask_73 : decode cX12_queuesTask 73 = .ok (.iinc 3 (-1), 3) := by decide +kernel
theorem dX12_queuesTask_76 : decode cX12_queuesTask 76 = .ok (.goto (-19), 3) := by decide +kernel
theorem dX12_queuesTask_79 : decode cX12_queuesTask 79 = .ok (.iload_n 2, 1) := by decide +kernel
theorem dX12_queuesTask_80 : decode cX12_queuesTask 80 = .ok (.iconst (-1), 1) := by decide +kernel
theorem dX12_queuesTask_81 : decode cX12_queuesTask 81 = .ok (.if_icmp .ne 8, 3) := by decide +kernel
theorem dX12_queuesTask_84 : decode cX12_queuesTask 84 = .ok (.aload_n 0, 1) := by decide +kernel
theorem dX12_queuesTask_85 : decode cX12_queuesTask 85 = .ok (.invokevirtual 426, 3) := by decide +kernel
theorem dX12_queuesTask_88 : decode cX12_queuesTask 88 = .ok (.istore_n 2, 1) := by decide +kernel
theorem dX12_queuesTask_89 : decode cX12_queuesTask 89 = .ok (.iload_n 2, 1) := by decide +kernel
theorem dX12_queuesTask_90 : decode cX12_queuesTask 90 = .ok (.iconst (-1), 1) := by decide +kernel
theorem dX12_queuesTask_91 : decode cX12_queuesTask 91 = .ok (.if_icmp .ne 5, 3) := by decide +kernel
theorem dX12_queuesTask_94 : decode cX12_queuesTask 94 = .ok (.iconst 0, 1) := by decide +kernel
theorem dX12_queuesTask_95 : decode cX12_queuesTask 95 = .ok (.ireturn, 1) := by decide +kernel
theorem dX12_queuesTask_96 : decode cX12_queuesTask 96 = .ok (.aload_n 0, 1) := by decide +kernel
theorem dX12_queuesTask_97 : decode cX12_queuesTask 97 = .ok (.getfield 266, 3) := by decide +kernel
theorem dX12_queuesTask_100 : decode cX12_queuesTask 100 = .ok (.iload_n 2, 1) := by decide +kernel
theorem dX12_queuesTask_101 : decode cX12_queuesTask 101 = .ok (.iaload, 1) := by decide +kernel
theorem dX12_queuesTask_102 : decode cX12_queuesTask 102 = .ok (.iconst (-1), 1) := by decide +kernel
theorem dX12_queuesTask_103 : decode cX12_queuesTask 103 = .ok (.if_icmp .eq 26, 3) := by decide +kernel
theorem dX12_queuesTask_106 : decode cX12_queuesTask 106 = .ok (.aload_n 0, 1) := by decide +kernel
theorem dX12_queuesTask_107 : decode cX12_queuesTask 107 = .ok (.getfield 269, 3) := by decide +kernel
theorem dX12_queuesTask_110 : decode cX12_queuesTask 110 = .ok (.iload_n 2, 1) := by decide +kernel
theorem dX12_queuesTask_111 : decode cX12_queuesTask 111 = .ok (.baload, 1) := by decide +kernel
theorem dX12_queuesTask_112 : decode cX12_queuesTask 112 = .ok (.ifCond .eq 17, 3) := by decide +kernel
theorem dX12_queuesTask_115 : decode cX12_queuesTask 115 = .ok (.aload_n 0, 1) := by decide +kernel
theorem dX12_queuesTask_116 : decode cX12_queuesTask 116 = .ok (.iconst 1, 1) := by decide +kernel
theorem dX12_queuesTask_117 : decode cX12_queuesTask 117 = .ok (.aload_n 0, 1) := by decide +kernel
theorem dX12_queuesTask_118 : decode cX12_queuesTask 118 = .ok (.getfield 266, 3) := by decide +kernel
theorem dX12_queuesTask_121 : decode cX12_queuesTask 121 = .ok (.iload_n 2, 1) := by decide +kernel
theorem dX12_queuesTask_122 : decode cX12_queuesTask 122 = .ok (.iaload, 1) := by decide +kernel
theorem dX12_queuesTask_123 : decode cX12_queuesTask 123 = .ok (.iload_n 2, 1) := by decide +kernel
theorem dX12_queuesTask_124 : decode cX12_queuesTask 124 = .ok (.invokevirtual 423, 3) := by decide +kernel
theorem dX12_queuesTask_127 : decode cX12_queuesTask 127 = .ok (.iconst 1, 1) := by decide +kernel
theorem dX12_queuesTask_128 : decode cX12_queuesTask 128 = .ok (.ireturn, 1) := by decide +kernel
theorem dX12_queuesTask_129 : decode cX12_queuesTask 129 = .ok (.aload_n 0, 1) := by decide +kernel
theorem dX12_queuesTask_130 : decode cX12_queuesTask 130 = .ok (.getfield 266, 3) := by decide +kernel
theorem dX12_queuesTask_133 : decode cX12_queuesTask 133 = .ok (.iload_n 2, 1) := by decide +kernel
theorem dX12_queuesTask_134 : decode cX12_queuesTask 134 = .ok (.iaload, 1) := by decide +kernel
theorem dX12_queuesTask_135 : decode cX12_queuesTask 135 = .ok (.iconst (-1), 1) := by decide +kernel
theorem dX12_queuesTask_136 : decode cX12_queuesTask 136 = .ok (.if_icmp .eq 8, 3) := by decide +kernel
theorem dX12_queuesTask_139 : decode cX12_queuesTask 139 = .ok (.aload_n 0, 1) := by decide +kernel
theorem dX12_queuesTask_140 : decode cX12_queuesTask 140 = .ok (.iload_n 2, 1) := by decide +kernel
theorem dX12_queuesTask_141 : decode cX12_queuesTask 141 = .ok (.invokevirtual 356, 3) := by decide +kernel
theorem dX12_queuesTask_144 : decode cX12_queuesTask 144 = .ok (.aload_n 0, 1) := by decide +kernel
theorem dX12_queuesTask_145 : decode cX12_queuesTask 145 = .ok (.iconst 2, 1) := by decide +kernel
theorem dX12_queuesTask_146 : decode cX12_queuesTask 146 = .ok (.iload_n 1, 1) := by decide +kernel
theorem dX12_queuesTask_147 : decode cX12_queuesTask 147 = .ok (.iload_n 2, 1) := by decide +kernel
theorem dX12_queuesTask_148 : decode cX12_queuesTask 148 = .ok (.invokevirtual 423, 3) := by decide +kernel
theorem dX12_queuesTask_151 : decode cX12_queuesTask 151 = .ok (.iconst 1, 1) := by decide +kernel
theorem dX12_queuesTask_152 : decode cX12_queuesTask 152 = .ok (.ireturn, 1) := by decide +kernel
theorem dX12_given_0 : decode cX12_given 0 = .ok (.iconst 0, 1) := by decide +kernel
theorem dX12_given_1 : decode cX12_given 1 = .ok (.istore_n 1, 1) := by decide +kernel
theorem dX12_given_2 : decode cX12_given 2 = .ok (.iload_n 1, 1) := by decide +kernel
theorem dX12_given_3 : decode cX12_given 3 = .ok (.aload_n 0, 1) := by decide +kernel
theorem dX12_given_4 : decode cX12_given 4 = .ok (.getfield 246, 3) := by decide +kernel
theorem dX12_given_7 : decode cX12_given 7 = .ok (.if_icmp .ge 41, 3) := by decide +kernel
theorem dX12_given_10 : decode cX12_given 10 = .ok (.aload_n 0, 1) := by decide +kernel
theorem dX12_given_11 : decode cX12_given 11 = .ok (.getfield 278, 3) := by decide +kernel
theorem dX12_given_14 : decode cX12_given 14 = .ok (.aload_n 0, 1) := by decide +kernel
theorem dX12_given_15 : decode cX12_given 15 = .ok (.getfield 266, 3) := by decide +kernel
theorem dX12_given_18 : decode cX12_given 18 = .ok (.iload_n 1, 1) := by decide +kernel
theorem dX12_given_19 : decode cX12_given 19 = .ok (.iaload, 1) := by decide +kernel
theorem dX12_given_20 : decode cX12_given 20 = .ok (.iaload, 1) := by decide +kernel
theorem dX12_given_21 : decode cX12_given 21 = .ok (.iconst 1, 1) := by decide +kernel
theorem dX12_given_22 : decode cX12_given 22 = .ok (.if_icmp .eq 20, 3) := by decide +kernel
theorem dX12_given_25 : decode cX12_given 25 = .ok (.aload_n 0, 1) := by decide +kernel
theorem dX12_given_26 : decode cX12_given 26 = .ok (.getfield 278, 3) := by decide +kernel
theorem dX12_given_29 : decode cX12_given 29 = .ok (.aload_n 0, 1) := by decide +kernel
theorem dX12_given_30 : decode cX12_given 30 = .ok (.getfield 266, 3) := by decide +kernel
theorem dX12_given_33 : decode cX12_given 33 = .ok (.iload_n 1, 1) := by decide +kernel
theorem dX12_given_34 : decode cX12_given 34 = .ok (.iaload, 1) := by decide +kernel
theorem dX12_given_35 : decode cX12_given 35 = .ok (.iaload, 1) := by decide +kernel
theorem dX12_given_36 : decode cX12_given 36 = .ok (.iconst 5, 1) := by decide +kernel
theorem dX12_given_37 : decode cX12_given 37 = .ok (.if_icmp .eq 5, 3) := by decide +kernel
theorem dX12_given_40 : decode cX12_given 40 = .ok (.iload_n 1, 1) := by decide +kernel
theorem dX12_given_41 : decode cX12_given 41 = .ok (.ireturn, 1) := by decide +kernel
theorem dX12_given_42 : decode cX12_given 42 = .ok (.iinc 1 1, 3) := by decide +kernel
theorem dX12_given_45 : decode cX12_given 45 = .ok (.goto (-43), 3) := by decide +kernel
theorem dX12_given_48 : decode cX12_given 48 = .ok (.iconst 0, 1) := by decide +kernel
theorem dX12_given_49 : decode cX12_given 49 = .ok (.istore_n 1, 1) := by decide +kernel
theorem dX12_given_50 : decode cX12_given 50 = .ok (.iload_n 1, 1) := by decide +kernel
theorem dX12_given_51 : decode cX12_given 51 = .ok (.aload_n 0, 1) := by decide +kernel
theorem dX12_given_52 : decode cX12_given 52 = .ok (.getfield 246, 3) := by decide +kernel
theorem dX12_given_55 : decode cX12_given 55 = .ok (.if_icmp .ge 48, 3) := by decide +kernel
theorem dX12_given_58 : decode cX12_given 58 = .ok (.aload_n 0, 1) := by decide +kernel
theorem dX12_given_59 : decode cX12_given 59 = .ok (.getfield 278, 3) := by decide +kernel
theorem dX12_given_62 : decode cX12_given 62 = .ok (.aload_n 0, 1) := by decide +kernel
theorem dX12_given_63 : decode cX12_given 63 = .ok (.getfield 266, 3) := by decide +kernel
theorem dX12_given_66 : decode cX12_given 66 = .ok (.iload_n 1, 1) := by decide +kernel
theorem dX12_given_67 : decode cX12_given 67 = .ok (.iaload, 1) := by decide +kernel
theorem dX12_given_68 : decode cX12_given 68 = .ok (.iaload, 1) := by decide +kernel
theorem dX12_given_69 : decode cX12_given 69 = .ok (.iconst 5, 1) := by decide +kernel
theorem dX12_given_70 : decode cX12_given 70 = .ok (.if_icmp .eq 27, 3) := by decide +kernel
theorem dX12_given_73 : decode cX12_given 73 = .ok (.aload_n 0, 1) := by decide +kernel
theorem dX12_given_74 : decode cX12_given 74 = .ok (.getfield 272, 3) := by decide +kernel
theorem dX12_given_77 : decode cX12_given 77 = .ok (.iload_n 1, 1) := by decide +kernel
theorem dX12_given_78 : decode cX12_given 78 = .ok (.baload, 1) := by decide +kernel
theorem dX12_given_79 : decode cX12_given 79 = .ok (.ifCond .eq 18, 3) := by decide +kernel
theorem dX12_given_82 : decode cX12_given 82 = .ok (.aload_n 0, 1) := by decide +kernel
theorem dX12_given_83 : decode cX12_given 83 = .ok (.getfield 266, 3) := by decide +kernel
theorem dX12_given_86 : decode cX12_given 86 = .ok (.iload_n 1, 1) := by decide +kernel
theorem dX12_given_87 : decode cX12_given 87 = .ok (.iaload, 1) := by decide +kernel
theorem dX12_given_88 : decode cX12_given 88 = .ok (.aload_n 0, 1) := by decide +kernel
theorem dX12_given_89 : decode cX12_given 89 = .ok (.getfield 237, 3) := by decide +kernel
theorem dX12_given_92 : decode cX12_given 92 = .ok (.if_icmp .eq 5, 3) := by decide +kernel
theorem dX12_given_95 : decode cX12_given 95 = .ok (.iload_n 1, 1) := by decide +kernel
theorem dX12_given_96 : decode cX12_given 96 = .ok (.ireturn, 1) := by decide +kernel
theorem dX12_given_97 : decode cX12_given 97 = .ok (.iinc 1 1, 3) := by decide +kernel
theorem dX12_given_100 : decode cX12_given 100 = .ok (.goto (-50), 3) := by decide +kernel
theorem dX12_given_103 : decode cX12_given 103 = .ok (.iconst (-1), 1) := by decide +kernel
theorem dX12_given_104 : decode cX12_given 104 = .ok (.ireturn, 1) := by decide +kernel
theorem dX12_processes_0 : decode cX12_processes 0 = .ok (.aload_n 0, 1) := by decide +kernel
theorem dX12_processes_1 : decode cX12_processes 1 = .ok (.getfield 237, 3) := by decide +kernel
theorem dX12_processes_4 : decode cX12_processes 4 = .ok (.iconst (-1), 1) := by decide +kernel
theorem dX12_processes_5 : decode cX12_processes 5 = .ok (.if_icmp .ne 100, 3) := by decide +kernel
theorem dX12_processes_8 : decode cX12_processes 8 = .ok (.iconst 0, 1) := by decide +kernel
theorem dX12_processes_9 : decode cX12_processes 9 = .ok (.istore_n 1, 1) := by decide +kernel
theorem dX12_processes_10 : decode cX12_processes 10 = .ok (.iload_n 1, 1) := by decide +kernel
theorem dX12_processes_11 : decode cX12_processes 11 = .ok (.aload_n 0, 1) := by decide +kernel
theorem dX12_processes_12 : decode cX12_processes 12 = .ok (.getfield 338, 3) := by decide +kernel
theorem dX12_processes_15 : decode cX12_processes 15 = .ok (.if_icmp .ge 55, 3) := by decide +kernel
theorem dX12_processes_18 : decode cX12_processes 18 = .ok (.aload_n 0, 1) := by decide +kernel
theorem dX12_processes_19 : decode cX12_processes 19 = .ok (.getfield 237, 3) := by decide +kernel
theorem dX12_processes_22 : decode cX12_processes 22 = .ok (.iconst (-1), 1) := by decide +kernel
theorem dX12_processes_23 : decode cX12_processes 23 = .ok (.if_icmp .ne 47, 3) := by decide +kernel
theorem dX12_processes_26 : decode cX12_processes 26 = .ok (.aload_n 0, 1) := by decide +kernel
theorem dX12_processes_27 : decode cX12_processes 27 = .ok (.getfield 234, 3) := by decide +kernel
theorem dX12_processes_30 : decode cX12_processes 30 = .ok (.iload_n 1, 1) := by decide +kernel
theorem dX12_processes_31 : decode cX12_processes 31 = .ok (.iaload, 1) := by decide +kernel
theorem dX12_processes_32 : decode cX12_processes 32 = .ok (.istore_n 2, 1) := by decide +kernel
theorem dX12_processes_33 : decode cX12_processes 33 = .ok (.aload_n 0, 1) := by decide +kernel
theorem dX12_processes_34 : decode cX12_processes 34 = .ok (.getfield 275, 3) := by decide +kernel
theorem dX12_processes_37 : decode cX12_processes 37 = .ok (.iload_n 2, 1) := by decide +kernel
theorem dX12_processes_38 : decode cX12_processes 38 = .ok (.iaload, 1) := by decide +kernel
theorem dX12_processes_39 : decode cX12_processes 39 = .ok (.iconst (-1), 1) := by decide +kernel
theorem dX12_processes_40 : decode cX12_processes 40 = .ok (.if_icmp .eq 24, 3) := by decide +kernel
theorem dX12_processes_43 : decode cX12_processes 43 = .ok (.aload_n 0, 1) := by decide +kernel
theorem dX12_processes_44 : decode cX12_processes 44 = .ok (.getfield 344, 3) := by decide +kernel
theorem dX12_processes_47 : decode cX12_processes 47 = .ok (.iconst 1, 1) := by decide +kernel
theorem dX12_processes_48 : decode cX12_processes 48 = .ok (.if_icmp .ne 11, 3) := by decide +kernel
theorem dX12_processes_51 : decode cX12_processes 51 = .ok (.aload_n 0, 1) := by decide +kernel
theorem dX12_processes_52 : decode cX12_processes 52 = .ok (.getfield 347, 3) := by decide +kernel
theorem dX12_processes_55 : decode cX12_processes 55 = .ok (.iload_n 2, 1) := by decide +kernel
theorem dX12_processes_56 : decode cX12_processes 56 = .ok (.if_icmp .eq 8, 3) := by decide +kernel
theorem dX12_processes_59 : decode cX12_processes 59 = .ok (.aload_n 0, 1) := by decide +kernel
theorem dX12_processes_60 : decode cX12_processes 60 = .ok (.iload_n 2, 1) := by decide +kernel
theorem dX12_processes_61 : decode cX12_processes 61 = .ok (.putfield 237, 3) := by decide +kernel
theorem dX12_processes_64 : decode cX12_processes 64 = .ok (.iinc 1 1, 3) := by decide +kernel
theorem dX12_processes_67 : decode cX12_processes 67 = .ok (.goto (-57), 3) := by decide +kernel
theorem dX12_processes_70 : decode cX12_processes 70 = .ok (.aload_n 0, 1) := by decide +kernel
theorem dX12_processes_71 : decode cX12_processes 71 = .ok (.getfield 237, 3) := by decide +kernel
theorem dX12_processes_74 : decode cX12_processes 74 = .ok (.iconst (-1), 1) := by decide +kernel
theorem dX12_processes_75 : decode cX12_processes 75 = .ok (.if_icmp .ne 14, 3) := by decide +kernel
theorem dX12_processes_78 : decode cX12_processes 78 = .ok (.aload_n 0, 1) := by decide +kernel
theorem dX12_processes_79 : decode cX12_processes 79 = .ok (.dup, 1) := by decide +kernel
theorem dX12_processes_80 : decode cX12_processes 80 = .ok (.getfield 429, 3) := by decide +kernel
theorem dX12_processes_83 : decode cX12_processes 83 = .ok (.iconst 1, 1) := by decide +kernel
theorem dX12_processes_84 : decode cX12_processes 84 = .ok (.iadd, 1) := by decide +kernel
theorem dX12_processes_85 : decode cX12_processes 85 = .ok (.putfield 429, 3) := by decide +kernel
theorem dX12_processes_88 : decode cX12_processes 88 = .ok (.return_, 1) := by decide +kernel
theorem dX12_processes_89 : decode cX12_processes 89 = .ok (.aload_n 0, 1) := by decide +kernel
theorem dX12_processes_90 : decode cX12_processes 90 = .ok (.aload_n 0, 1) := by decide +kernel
theorem dX12_processes_91 : decode cX12_processes 91 = .ok (.getfield 237, 3) := by decide +kernel
theorem dX12_processes_94 : decode cX12_processes 94 = .ok (.invokevirtual 365, 3) := by decide +kernel
theorem dX12_processes_97 : decode cX12_processes 97 = .ok (.aload_n 0, 1) := by decide +kernel
theorem dX12_processes_98 : decode cX12_processes 98 = .ok (.aload_n 0, 1) := by decide +kernel
theorem dX12_processes_99 : decode cX12_processes 99 = .ok (.getfield 249, 3) := by decide +kernel
theorem dX12_processes_102 : decode cX12_processes 102 = .ok (.putfield 432, 3) := by decide +kernel
theorem dX12_processes_105 : decode cX12_processes 105 = .ok (.aload_n 0, 1) := by decide +kernel
theorem dX12_processes_106 : decode cX12_processes 106 = .ok (.getfield 237, 3) := by decide +kernel
theorem dX12_processes_109 : decode cX12_processes 109 = .ok (.istore_n 1, 1) := by decide +kernel
theorem dX12_processes_110 : decode cX12_processes 110 = .ok (.aload_n 0, 1) := by decide +kernel
theorem dX12_processes_111 : decode cX12_processes 111 = .ok (.iload_n 1, 1) := by decide +kernel
theorem dX12_processes_112 : decode cX12_processes 112 = .ok (.invokevirtual 435, 3) := by decide +kernel
theorem dX12_processes_115 : decode cX12_processes 115 = .ok (.aload_n 0, 1) := by decide +kernel
theorem dX12_processes_116 : decode cX12_processes 116 = .ok (.dup, 1) := by decide +kernel
theorem dX12_processes_117 : decode cX12_processes 117 = .ok (.getfield 432, 3) := by decide +kernel
theorem dX12_processes_120 : decode cX12_processes 120 = .ok (.iconst 1, 1) := by decide +kernel
theorem dX12_processes_121 : decode cX12_processes 121 = .ok (.isub, 1) := by decide +kernel
theorem dX12_processes_122 : decode cX12_processes 122 = .ok (.putfield 432, 3) := by decide +kernel
theorem dX12_processes_125 : decode cX12_processes 125 = .ok (.aload_n 0, 1) := by decide +kernel
theorem dX12_processes_126 : decode cX12_processes 126 = .ok (.getfield 278, 3) := by decide +kernel
theorem dX12_processes_129 : decode cX12_processes 129 = .ok (.iload_n 1, 1) := by decide +kernel
theorem dX12_processes_130 : decode cX12_processes 130 = .ok (.iaload, 1) := by decide +kernel
theorem dX12_processes_131 : decode cX12_processes 131 = .ok (.iconst 1, 1) := by decide +kernel
theorem dX12_processes_132 : decode cX12_processes 132 = .ok (.if_icmp .eq 21, 3) := by decide +kernel
theorem dX12_processes_135 : decode cX12_processes 135 = .ok (.aload_n 0, 1) := by decide +kernel
theorem dX12_processes_136 : decode cX12_processes 136 = .ok (.getfield 272, 3) := by decide +kernel
theorem dX12_processes_139 : decode cX12_processes 139 = .ok (.aload_n 0, 1) := by decide +kernel
theorem dX12_processes_140 : decode cX12_processes 140 = .ok (.getfield 275, 3) := by decide +kernel
theorem dX12_processes_143 : decode cX12_processes 143 = .ok (.iload_n 1, 1) := by decide +kernel
theorem dX12_processes_144 : decode cX12_processes 144 = .ok (.iaload, 1) := by decide +kernel
theorem dX12_processes_145 : decode cX12_processes 145 = .ok (.iconst 1, 1) := by decide +kernel
theorem dX12_processes_146 : decode cX12_processes 146 = .ok (.bastore, 1) := by decide +kernel
theorem dX12_processes_147 : decode cX12_processes 147 = .ok (.aload_n 0, 1) := by decide +kernel
theorem dX12_processes_148 : decode cX12_processes 148 = .ok (.iconst (-1), 1) := by decide +kernel
theorem dX12_processes_149 : decode cX12_processes 149 = .ok (.putfield 237, 3) := by decide +kernel
theorem dX12_processes_152 : decode cX12_processes 152 = .ok (.return_, 1) := by decide +kernel
theorem dX12_processes_153 : decode cX12_processes 153 = .ok (.aload_n 0, 1) := by decide +kernel
theorem dX12_processes_154 : decode cX12_processes 154 = .ok (.getfield 432, 3) := by decide +kernel
theorem dX12_processes_157 : decode cX12_processes 157 = .ok (.ifCond .le 4, 3) := by decide +kernel
theorem dX12_processes_160 : decode cX12_processes 160 = .ok (.return_, 1) := by decide +kernel
theorem dX12_processes_161 : decode cX12_processes 161 = .ok (.aload_n 0, 1) := by decide +kernel
theorem dX12_processes_162 : decode cX12_processes 162 = .ok (.getfield 272, 3) := by decide +kernel
theorem dX12_processes_165 : decode cX12_processes 165 = .ok (.aload_n 0, 1) := by decide +kernel
theorem dX12_processes_166 : decode cX12_processes 166 = .ok (.getfield 275, 3) := by decide +kernel
theorem dX12_processes_169 : decode cX12_processes 169 = .ok (.iload_n 1, 1) := by decide +kernel
theorem dX12_processes_170 : decode cX12_processes 170 = .ok (.iaload, 1) := by decide +kernel
theorem dX12_processes_171 : decode cX12_processes 171 = .ok (.iconst 1, 1) := by decide +kernel
theorem dX12_processes_172 : decode cX12_processes 172 = .ok (.bastore, 1) := by decide +kernel
theorem dX12_processes_173 : decode cX12_processes 173 = .ok (.aload_n 0, 1) := by decide +kernel
theorem dX12_processes_174 : decode cX12_processes 174 = .ok (.getfield 338, 3) := by decide +kernel
theorem dX12_processes_177 : decode cX12_processes 177 = .ok (.ifCond .ne 12, 3) := by decide +kernel
theorem dX12_processes_180 : decode cX12_processes 180 = .ok (.aload_n 0, 1) := by decide +kernel
theorem dX12_processes_181 : decode cX12_processes 181 = .ok (.aload_n 0, 1) := by decide +kernel
theorem dX12_processes_182 : decode cX12_processes 182 = .ok (.getfield 249, 3) := by decide +kernel
theorem dX12_processes_185 : decode cX12_processes 185 = .ok (.putfield 432, 3) := by decide +kernel
theorem dX12_processes_188 : decode cX12_processes 188 = .ok (.return_, 1) := by decide +kernel
theorem dX12_processes_189 : decode cX12_processes 189 = .ok (.aload_n 0, 1) := by decide +kernel
theorem dX12_processes_190 : decode cX12_processes 190 = .ok (.iconst (-1), 1) := by decide +kernel
theorem dX12_processes_191 : decode cX12_processes 191 = .ok (.putfield 237, 3) := by decide +kernel
theorem dX12_processes_194 : decode cX12_processes 194 = .ok (.aload_n 0, 1) := by decide +kernel
theorem dX12_processes_195 : decode cX12_processes 195 = .ok (.iload_n 1, 1) := by decide +kernel
theorem dX12_processes_196 : decode cX12_processes 196 = .ok (.invokevirtual 362, 3) := by decide +kernel
theorem dX12_processes_199 : decode cX12_processes 199 = .ok (.return_, 1) := by decide +kernel
theorem dX12_word__0 : decode cX12_word_ 0 = .ok (.aload_n 0, 1) := by decide +kernel
theorem dX12_word__1 : decode cX12_word_ 1 = .ok (.iload_n 1, 1) := by decide +kernel
theorem dX12_word__2 : decode cX12_word_ 2 = .ok (.aload_n 0, 1) := by decide +kernel
theorem dX12_word__3 : decode cX12_word_ 3 = .ok (.getfield 287, 3) := by decide +kernel
theorem dX12_word__6 : decode cX12_word_ 6 = .ok (.iload_n 1, 1) := by decide +kernel
theorem dX12_word__7 : decode cX12_word_ 7 = .ok (.iaload, 1) := by decide +kernel
theorem dX12_word__8 : decode cX12_word_ 8 = .ok (.invokevirtual 399, 3) := by decide +kernel
theorem dX12_word__11 : decode cX12_word_ 11 = .ok (.istore_n 2, 1) := by decide +kernel
theorem dX12_word__12 : decode cX12_word_ 12 = .ok (.aload_n 0, 1) := by decide +kernel
theorem dX12_word__13 : decode cX12_word_ 13 = .ok (.getfield 287, 3) := by decide +kernel
theorem dX12_word__16 : decode cX12_word_ 16 = .ok (.iload_n 1, 1) := by decide +kernel
theorem dX12_word__17 : decode cX12_word_ 17 = .ok (.aload_n 0, 1) := by decide +kernel
theorem dX12_word__18 : decode cX12_word_ 18 = .ok (.getfield 287, 3) := by decide +kernel
theorem dX12_word__21 : decode cX12_word_ 21 = .ok (.iload_n 1, 1) := by decide +kernel
theorem dX12_word__22 : decode cX12_word_ 22 = .ok (.iaload, 1) := by decide +kernel
theorem dX12_word__23 : decode cX12_word_ 23 = .ok (.iconst 1, 1) := by decide +kernel
theorem dX12_word__24 : decode cX12_word_ 24 = .ok (.iadd, 1) := by decide +kernel
theorem dX12_word__25 : decode cX12_word_ 25 = .ok (.sipush 4095, 3) := by decide +kernel
theorem dX12_word__28 : decode cX12_word_ 28 = .ok (.iand, 1) := by decide +kernel
theorem dX12_word__29 : decode cX12_word_ 29 = .ok (.iastore, 1) := by decide +kernel
theorem dX12_word__30 : decode cX12_word_ 30 = .ok (.iload_n 2, 1) := by decide +kernel
theorem dX12_word__31 : decode cX12_word_ 31 = .ok (.ireturn, 1) := by decide +kernel
theorem dX12_step_0 : decode cX12_step 0 = .ok (.aload_n 0, 1) := by decide +kernel
theorem dX12_step_1 : decode cX12_step 1 = .ok (.getfield 287, 3) := by decide +kernel
theorem dX12_step_4 : decode cX12_step 4 = .ok (.iload_n 1, 1) := by decide +kernel
theorem dX12_step_5 : decode cX12_step 5 = .ok (.iaload, 1) := by decide +kernel
theorem dX12_step_6 : decode cX12_step 6 = .ok (.istore_n 2, 1) := by decide +kernel
theorem dX12_step_7 : decode cX12_step 7 = .ok (.aload_n 0, 1) := by decide +kernel
theorem dX12_step_8 : decode cX12_step 8 = .ok (.aload_n 0, 1) := by decide +kernel
theorem dX12_step_9 : decode cX12_step 9 = .ok (.iload_n 1, 1) := by decide +kernel
theorem dX12_step_10 : decode cX12_step 10 = .ok (.iload_n 2, 1) := by decide +kernel
theorem dX12_step_11 : decode cX12_step 11 = .ok (.invokevirtual 399, 3) := by decide +kernel
theorem dX12_step_14 : decode cX12_step 14 = .ok (.putfield 438, 3) := by decide +kernel
theorem dX12_step_17 : decode cX12_step 17 = .ok (.aload_n 0, 1) := by decide +kernel
theorem dX12_step_18 : decode cX12_step 18 = .ok (.invokevirtual 441, 3) := by decide +kernel
theorem dX12_step_21 : decode cX12_step 21 = .ok (.ifCond .eq 12, 3) := by decide +kernel
theorem dX12_step_24 : decode cX12_step 24 = .ok (.aload_n 0, 1) := by decide +kernel
theorem dX12_step_25 : decode cX12_step 25 = .ok (.getfield 278, 3) := by decide +kernel
theorem dX12_step_28 : decode cX12_step 28 = .ok (.iload_n 1, 1) := by decide +kernel
theorem dX12_step_29 : decode cX12_step 29 = .ok (.bipush 7, 2) := by decide +kernel
theorem dX12_step_31 : decode cX12_step 31 = .ok (.iastore, 1) := by decide +kernel
theorem dX12_step_32 : decode cX12_step 32 = .ok (.return_, 1) := by decide +kernel
theorem dX12_step_33 : decode cX12_step 33 = .ok (.aload_n 0, 1) := by decide +kernel
theorem dX12_step_34 : decode cX12_step 34 = .ok (.iload_n 1, 1) := by decide +kernel
theorem dX12_step_35 : decode cX12_step 35 = .ok (.invokevirtual 444, 3) := by decide +kernel
theorem dX12_step_38 : decode cX12_step 38 = .ok (.ifCond .eq 4, 3) := by decide +kernel
theorem dX12_step_41 : decode cX12_step 41 = .ok (.return_, 1) := by decide +kernel
theorem dX12_step_42 : decode cX12_step 42 = .ok (.aload_n 0, 1) := by decide +kernel
theorem dX12_step_43 : decode cX12_step 43 = .ok (.getfield 287, 3) := by decide +kernel
theorem dX12_step_46 : decode cX12_step 46 = .ok (.iload_n 1, 1) := by decide +kernel
theorem dX12_step_47 : decode cX12_step 47 = .ok (.iload_n 2, 1) := by decide +kernel
theorem dX12_step_48 : decode cX12_step 48 = .ok (.iconst 1, 1) := by decide +kernel
theorem dX12_step_49 : decode cX12_step 49 = .ok (.iadd, 1) := by decide +kernel
theorem dX12_step_50 : decode cX12_step 50 = .ok (.sipush 4095, 3) := by decide +kernel
theorem dX12_step_53 : decode cX12_step 53 = .ok (.iand, 1) := by decide +kernel
theorem dX12_step_54 : decode cX12_step 54 = .ok (.iastore, 1) := by decide +kernel
theorem dX12_step_55 : decode cX12_step 55 = .ok (.aload_n 0, 1) := by decide +kernel
theorem dX12_step_56 : decode cX12_step 56 = .ok (.getfield 438, 3) := by decide +kernel
theorem dX12_step_59 : decode cX12_step 59 = .ok (.bipush 9, 2) := by decide +kernel
theorem dX12_step_61 : decode cX12_step 61 = .ok (.ishr, 1) := by decide +kernel
theorem dX12_step_62 : decode cX12_step 62 = .ok (.istore_n 3, 1) := by decide +kernel
theorem dX12_step_63 : decode cX12_step 63 = .ok (.iconst 1, 1) := by decide +kernel
theorem dX12_step_64 : decode cX12_step 64 = .ok (.istore 4, 2) := by decide +kernel
theorem dX12_step_66 : decode cX12_step 66 = .ok (.iload_n 3, 1) := by decide +kernel
theorem dX12_step_67 : decode cX12_step 67 = .ok (.bipush 6, 2) := by decide +kernel
theorem dX12_step_69 : decode cX12_step 69 = .ok (.if_icmp .ge 13, 3) := by decide +kernel
theorem dX12_step_72 : decode cX12_step 72 = .ok (.aload_n 0, 1) := by decide +kernel
theorem dX12_step_73 : decode cX12_step 73 = .ok (.iload_n 1, 1) := by decide +kernel
theorem dX12_step_74 : decode cX12_step 74 = .ok (.iload_n 3, 1) := by decide +kernel
theorem dX12_step_75 : decode cX12_step 75 = .ok (.iload_n 2, 1) := by decide +kernel
theorem dX12_step_76 : decode cX12_step 76 = .ok (.invokevirtual 447, 3) := by decide +kernel
theorem dX12_step_79 : decode cX12_step 79 = .ok (.goto 60, 3) := by decide +kernel
theorem dX12_step_82 : decode cX12_step 82 = .ok (.iload_n 3, 1) := by decide +kernel
theorem dX12_step_83 : decode cX12_step 83 = .ok (.bipush 6, 2) := by decide +kernel
theorem dX12_step_85 : decode cX12_step 85 = .ok (.if_icmp .ne 13, 3) := by decide +kernel
theorem dX12_step_88 : decode cX12_step 88 = .ok (.aload_n 0, 1) := by decide +kernel
theorem dX12_step_89 : decode cX12_step 89 = .ok (.iload_n 1, 1) := by decide +kernel
theorem dX12_step_90 : decode cX12_step 90 = .ok (.invokevirtual 449, 3) := by decide +kernel
theorem dX12_step_93 : decode cX12_step 93 = .ok (.istore 4, 2) := by decide +kernel
theorem dX12_step_95 : decode cX12_step 95 = .ok (.goto 44, 3) := by decide +kernel
theorem dX12_step_98 : decode cX12_step 98 = .ok (.aload_n 0, 1) := by decide +kernel
theorem dX12_step_99 : decode cX12_step 99 = .ok (.getfield 438, 3) := by decide +kernel
theorem dX12_step_102 : decode cX12_step 102 = .ok (.sipush 256, 3) := by decide +kernel
theorem dX12_step_105 : decode cX12_step 105 = .ok (.iand, 1) := by decide +kernel
theorem dX12_step_106 : decode cX12_step 106 = .ok (.ifCond .ne 11, 3) := by decide +kernel
theorem dX12_step_109 : decode cX12_step 109 = .ok (.aload_n 0, 1) := by decide +kernel
theorem dX12_step_110 : decode cX12_step 110 = .ok (.iload_n 1, 1) := by decide +kernel
theorem dX12_step_111 : decode cX12_step 111 = .ok (.invokevirtual 452, 3) := by decide +kernel
theorem dX12_step_114 : decode cX12_step 114 = .ok (.goto 25, 3) := by decide +kernel
theorem dX12_step_117 : decode cX12_step 117 = .ok (.aload_n 0, 1) := by decide +kernel
theorem dX12_step_118 : decode cX12_step 118 = .ok (.getfield 438, 3) := by decide +kernel
theorem dX12_step_121 : decode cX12_step 121 = .ok (.iconst 1, 1) := by decide +kernel
theorem dX12_step_122 : decode cX12_step 122 = .ok (.iand, 1) := by decide +kernel
theorem dX12_step_123 : decode cX12_step 123 = .ok (.ifCond .ne 11, 3) := by decide +kernel
theorem dX12_step_126 : decode cX12_step 126 = .ok (.aload_n 0, 1) := by decide +kernel
theorem dX12_step_127 : decode cX12_step 127 = .ok (.iload_n 1, 1) := by decide +kernel
theorem dX12_step_128 : decode cX12_step 128 = .ok (.invokevirtual 455, 3) := by decide +kernel
theorem dX12_step_131 : decode cX12_step 131 = .ok (.goto 8, 3) := by decide +kernel
theorem dX12_step_134 : decode cX12_step 134 = .ok (.aload_n 0, 1) := by decide +kernel
theorem dX12_step_135 : decode cX12_step 135 = .ok (.iload_n 1, 1) := by decide +kernel
theorem dX12_step_136 : decode cX12_step 136 = .ok (.invokevirtual 457, 3) := by decide +kernel
theorem dX12_step_139 : decode cX12_step 139 = .ok (.iload 4, 2) := by decide +kernel
theorem dX12_step_141 : decode cX12_step 141 = .ok (.ifCond .ne 4, 3) := by decide +kernel
theorem dX12_step_144 : decode cX12_step 144 = .ok (.return_, 1) := by decide +kernel
theorem dX12_step_145 : decode cX12_step 145 = .ok (.aload_n 0, 1) := by decide +kernel
theorem dX12_step_146 : decode cX12_step 146 = .ok (.getfield 296, 3) := by decide +kernel
theorem dX12_step_149 : decode cX12_step 149 = .ok (.iload_n 1, 1) := by decide +kernel
theorem dX12_step_150 : decode cX12_step 150 = .ok (.dup2, 1) := by decide +kernel
theorem dX12_step_151 : decode cX12_step 151 = .ok (.iaload, 1) := by decide +kernel
theorem dX12_step_152 : decode cX12_step 152 = .ok (.iconst 1, 1) := by decide +kernel
theorem dX12_step_153 : decode cX12_step 153 = .ok (.iadd, 1) := by decide +kernel
theorem dX12_step_154 : decode cX12_step 154 = .ok (.iastore, 1) := by decide +kernel
theorem dX12_step_155 : decode cX12_step 155 = .ok (.aload_n 0, 1) := by decide +kernel
theorem dX12_step_156 : decode cX12_step 156 = .ok (.dup, 1) := by decide +kernel
theorem dX12_step_157 : decode cX12_step 157 = .ok (.getfield 372, 3) := by decide +kernel
theorem dX12_step_160 : decode cX12_step 160 = .ok (.iconst 1, 1) := by decide +kernel
theorem dX12_step_161 : decode cX12_step 161 = .ok (.iadd, 1) := by decide +kernel
theorem dX12_step_162 : decode cX12_step 162 = .ok (.putfield 372, 3) := by decide +kernel
theorem dX12_step_165 : decode cX12_step 165 = .ok (.return_, 1) := by decide +kernel
theorem dX12_isWrong_0 : decode cX12_isWrong 0 = .ok (.aload_n 0, 1) := by decide +kernel
theorem dX12_isWrong_1 : decode cX12_isWrong 1 = .ok (.getfield 438, 3) := by decide +kernel
theorem dX12_isWrong_4 : decode cX12_isWrong 4 = .ok (.bipush 9, 2) := by decide +kernel
theorem dX12_isWrong_6 : decode cX12_isWrong 6 = .ok (.ishr, 1) := by decide +kernel
theorem dX12_isWrong_7 : decode cX12_isWrong 7 = .ok (.bipush 7, 2) := by decide +kernel
theorem dX12_isWrong_9 : decode cX12_isWrong 9 = .ok (.if_icmp .ne 46, 3) := by decide +kernel
theorem dX12_isWrong_12 : decode cX12_isWrong 12 = .ok (.aload_n 0, 1) := by decide +kernel
theorem dX12_isWrong_13 : decode cX12_isWrong 13 = .ok (.getfield 438, 3) := by decide +kernel
theorem dX12_isWrong_16 : decode cX12_isWrong 16 = .ok (.sipush 257, 3) := by decide +kernel
theorem dX12_isWrong_19 : decode cX12_isWrong 19 = .ok (.iand, 1) := by decide +kernel
theorem dX12_isWrong_20 : decode cX12_isWrong 20 = .ok (.sipush 257, 3) := by decide +kernel
theorem dX12_isWrong_23 : decode cX12_isWrong 23 = .ok (.if_icmp .ne 32, 3) := by decide +kernel
theorem dX12_isWrong_26 : decode cX12_isWrong 26 = .ok (.aload_n 0, 1) := by decide +kernel
theorem dX12_isWrong_27 : decode cX12_isWrong 27 = .ok (.getfield 438, 3) := by decide +kernel
theorem dX12_isWrong_30 : decode cX12_isWrong 30 = .ok (.bipush 14, 2) := by decide +kernel
theorem dX12_isWrong_32 : decode cX12_isWrong 32 = .ok (.iand, 1) := by decide +kernel
theorem dX12_isWrong_33 : decode cX12_isWrong 33 = .ok (.iconst 2, 1) := by decide +kernel
theorem dX12_isWrong_34 : decode cX12_isWrong 34 = .ok (.if_icmp .eq 15, 3) := by decide +kernel
theorem dX12_isWrong_37 : decode cX12_isWrong 37 = .ok (.aload_n 0, 1) := by decide +kernel
theorem dX12_isWrong_38 : decode cX12_isWrong 38 = .ok (.getfield 438, 3) := by decide +kernel
theorem dX12_isWrong_41 : decode cX12_isWrong 41 = .ok (.bipush 14, 2) := by decide +kernel
theorem dX12_isWrong_43 : decode cX12_isWrong 43 = .ok (.iand, 1) := by decide +kernel
theorem dX12_isWrong_44 : decode cX12_isWrong 44 = .ok (.bipush 8, 2) := by decide +kernel
theorem dX12_isWrong_46 : decode cX12_isWrong 46 = .ok (.if_icmp .ne 7, 3) := by decide +kernel
theorem dX12_isWrong_49 : decode cX12_isWrong 49 = .ok (.iconst 1, 1) := by decide +kernel
theorem dX12_isWrong_50 : decode cX12_isWrong 50 = .ok (.goto 4, 3) := by decide +kernel
theorem dX12_isWrong_53 : decode cX12_isWrong 53 = .ok (.iconst 0, 1) := by decide +kernel
theorem dX12_isWrong_54 : decode cX12_isWrong 54 = .ok (.ireturn, 1) := by decide +kernel
theorem dX12_isWrong_55 : decode cX12_isWrong 55 = .ok (.aload_n 0, 1) := by decide +kernel
theorem dX12_isWrong_56 : decode cX12_isWrong 56 = .ok (.getfield 438, 3) := by decide +kernel
theorem dX12_isWrong_59 : decode cX12_isWrong 59 = .ok (.bipush 9, 2) := by decide +kernel
theorem dX12_isWrong_61 : decode cX12_isWrong 61 = .ok (.ishr, 1) := by decide +kernel
theorem dX12_isWrong_62 : decode cX12_isWrong 62 = .ok (.bipush 6, 2) := by decide +kernel
theorem dX12_isWrong_64 : decode cX12_isWrong 64 = .ok (.if_icmp .eq 5, 3) := by decide +kernel
theorem dX12_isWrong_67 : decode cX12_isWrong 67 = .ok (.iconst 0, 1) := by decide +kernel
theorem dX12_isWrong_68 : decode cX12_isWrong 68 = .ok (.ireturn, 1) := by decide +kernel
theorem dX12_isWrong_69 : decode cX12_isWrong 69 = .ok (.aload_n 0, 1) := by decide +kernel
theorem dX12_isWrong_70 : decode cX12_isWrong 70 = .ok (.getfield 438, 3) := by decide +kernel
theorem dX12_isWrong_73 : decode cX12_isWrong 73 = .ok (.lookupswitch 157 #[(3097, 155), (3098, 155), (3100, 155), (3102, 155), (3105, 155), (3106, 155), (3108, 155), (3110, 155), (3201, 155), (3202, 155), (3203, 155), (3212, 155), (3220, 155), (3228, 155), (3343, 155), (3344, 155), (3360, 155), (3361, 155)], 155) := by decide +kernel
theorem dX12_isWrong_228 : decode cX12_isWrong 228 = .ok (.iconst 0, 1) := by decide +kernel
theorem dX12_isWrong_229 : decode cX12_isWrong 229 = .ok (.ireturn, 1) := by decide +kernel
theorem dX12_isWrong_230 : decode cX12_isWrong 230 = .ok (.iconst 1, 1) := by decide +kernel
theorem dX12_isWrong_231 : decode cX12_isWrong 231 = .ok (.ireturn, 1) := by decide +kernel
theorem dX12_mustWait_0 : decode cX12_mustWait 0 = .ok (.aload_n 0, 1) := by decide +kernel
theorem dX12_mustWait_1 : decode cX12_mustWait 1 = .ok (.getfield 438, 3) := by decide +kernel
theorem dX12_mustWait_4 : decode cX12_mustWait 4 = .ok (.sipush 3100, 3) := by decide +kernel
theorem dX12_mustWait_7 : decode cX12_mustWait 7 = .ok (.if_icmp .eq 13, 3) := by decide +kernel
theorem dX12_mustWait_10 : decode cX12_mustWait 10 = .ok (.aload_n 0, 1) := by decide +kernel
theorem dX12_mustWait_11 : decode cX12_mustWait 11 = .ok (.getfield 438, 3) := by decide +kernel
theorem dX12_mustWait_14 : decode cX12_mustWait 14 = .ok (.sipush 3102, 3) := by decide +kernel
theorem dX12_mustWait_17 : decode cX12_mustWait 17 = .ok (.if_icmp .ne 19, 3) := by decide +kernel
theorem dX12_mustWait_20 : decode cX12_mustWait 20 = .ok (.aload_n 0, 1) := by decide +kernel
theorem dX12_mustWait_21 : decode cX12_mustWait 21 = .ok (.getfield 302, 3) := by decide +kernel
theorem dX12_mustWait_24 : decode cX12_mustWait 24 = .ok (.iload_n 1, 1) := by decide +kernel
theorem dX12_mustWait_25 : decode cX12_mustWait 25 = .ok (.iaload, 1) := by decide +kernel
theorem dX12_mustWait_26 : decode cX12_mustWait 26 = .ok (.ifCond .ne 10, 3) := by decide +kernel
theorem dX12_mustWait_29 : decode cX12_mustWait 29 = .ok (.aload_n 0, 1) := by decide +kernel
theorem dX12_mustWait_30 : decode cX12_mustWait 30 = .ok (.getfield 278, 3) := by decide +kernel
theorem dX12_mustWait_33 : decode cX12_mustWait 33 = .ok (.iload_n 1, 1) := by decide +kernel
theorem dX12_mustWait_34 : decode cX12_mustWait 34 = .ok (.iconst 2, 1) := by decide +kernel
theorem dX12_mustWait_35 : decode cX12_mustWait 35 = .ok (.iastore, 1) := by decide +kernel
theorem dX12_mustWait_36 : decode cX12_mustWait 36 = .ok (.aload_n 0, 1) := by decide +kernel
theorem dX12_mustWait_37 : decode cX12_mustWait 37 = .ok (.getfield 438, 3) := by decide +kernel
theorem dX12_mustWait_40 : decode cX12_mustWait 40 = .ok (.sipush 3108, 3) := by decide +kernel
theorem dX12_mustWait_43 : decode cX12_mustWait 43 = .ok (.if_icmp .eq 13, 3) := by decide +kernel
theorem dX12_mustWait_46 : decode cX12_mustWait 46 = .ok (.aload_n 0, 1) := by decide +kernel
theorem dX12_mustWait_47 : decode cX12_mustWait 47 = .ok (.getfield 438, 3) := by decide +kernel
theorem dX12_mustWait_50 : decode cX12_mustWait 50 = .ok (.sipush 3110, 3) := by decide +kernel
theorem dX12_mustWait_53 : decode cX12_mustWait 53 = .ok (.if_icmp .ne 21, 3) := by decide +kernel
theorem dX12_mustWait_56 : decode cX12_mustWait 56 = .ok (.aload_n 0, 1) := by decide +kernel
theorem dX12_mustWait_57 : decode cX12_mustWait 57 = .ok (.getfield 311, 3) := by decide +kernel
theorem dX12_mustWait_60 : decode cX12_mustWait 60 = .ok (.iload_n 1, 1) := by decide +kernel
theorem dX12_mustWait_61 : decode cX12_mustWait 61 = .ok (.iaload, 1) := by decide +kernel
theorem dX12_mustWait_62 : decode cX12_mustWait 62 = .ok (.bipush 16, 2) := by decide +kernel
theorem dX12_mustWait_64 : decode cX12_mustWait 64 = .ok (.if_icmp .ne 10, 3) := by decide +kernel
theorem dX12_mustWait_67 : decode cX12_mustWait 67 = .ok (.aload_n 0, 1) := by decide +kernel
theorem dX12_mustWait_68 : decode cX12_mustWait 68 = .ok (.getfield 278, 3) := by decide +kernel
theorem dX12_mustWait_71 : decode cX12_mustWait 71 = .ok (.iload_n 1, 1) := by decide +kernel
theorem dX12_mustWait_72 : decode cX12_mustWait 72 = .ok (.iconst 3, 1) := by decide +kernel
theorem dX12_mustWait_73 : decode cX12_mustWait 73 = .ok (.iastore, 1) := by decide +kernel
theorem dX12_mustWait_74 : decode cX12_mustWait 74 = .ok (.aload_n 0, 1) := by decide +kernel
theorem dX12_mustWait_75 : decode cX12_mustWait 75 = .ok (.getfield 278, 3) := by decide +kernel
theorem dX12_mustWait_78 : decode cX12_mustWait 78 = .ok (.iload_n 1, 1) := by decide +kernel
theorem dX12_mustWait_79 : decode cX12_mustWait 79 = .ok (.iaload, 1) := by decide +kernel
theorem dX12_mustWait_80 : decode cX12_mustWait 80 = .ok (.iconst 1, 1) := by decide +kernel
theorem dX12_mustWait_81 : decode cX12_mustWait 81 = .ok (.if_icmp .eq 7, 3) := by decide +kernel
theorem dX12_mustWait_84 : decode cX12_mustWait 84 = .ok (.iconst 1, 1) := by decide +kernel
theorem dX12_mustWait_85 : decode cX12_mustWait 85 = .ok (.goto 4, 3) := by decide +kernel
theorem dX12_mustWait_88 : decode cX12_mustWait 88 = .ok (.iconst 0, 1) := by decide +kernel
theorem dX12_mustWait_89 : decode cX12_mustWait 89 = .ok (.ireturn, 1) := by decide +kernel
theorem dX12_memory__0 : decode cX12_memory_ 0 = .ok (.aload_n 0, 1) := by decide +kernel
theorem dX12_memory__1 : decode cX12_memory_ 1 = .ok (.getfield 438, 3) := by decide +kernel
theorem dX12_memory__4 : decode cX12_memory_ 4 = .ok (.bipush 127, 2) := by decide +kernel
theorem dX12_memory__6 : decode cX12_memory_ 6 = .ok (.iand, 1) := by decide +kernel
theorem dX12_memory__7 : decode cX12_memory_ 7 = .ok (.aload_n 0, 1) := by decide +kernel
theorem dX12_memory__8 : decode cX12_memory_ 8 = .ok (.getfield 438, 3) := by decide +kernel
theorem dX12_memory__11 : decode cX12_memory_ 11 = .ok (.sipush 128, 3) := by decide +kernel
theorem dX12_memory__14 : decode cX12_memory_ 14 = .ok (.iand, 1) := by decide +kernel
theorem dX12_memory__15 : decode cX12_memory_ 15 = .ok (.ifCond .ne 7, 3) := by decide +kernel
theorem dX12_memory__18 : decode cX12_memory_ 18 = .ok (.iconst 0, 1) := by decide +kernel
theorem dX12_memory__19 : decode cX12_memory_ 19 = .ok (.goto 8, 3) := by decide +kernel
theorem dX12_memory__22 : decode cX12_memory_ 22 = .ok (.iload_n 3, 1) := by decide +kernel
theorem dX12_memory__23 : decode cX12_memory_ 23 = .ok (.sipush 3968, 3) := by decide +kernel
theorem dX12_memory__26 : decode cX12_memory_ 26 = .ok (.iand, 1) := by decide +kernel
theorem dX12_memory__27 : decode cX12_memory_ 27 = .ok (.ior, 1) := by decide +kernel
theorem dX12_memory__28 : decode cX12_memory_ 28 = .ok (.istore 4, 2) := by decide +kernel
theorem dX12_memory__30 : decode cX12_memory_ 30 = .ok (.aload_n 0, 1) := by decide +kernel
theorem dX12_memory__31 : decode cX12_memory_ 31 = .ok (.getfield 438, 3) := by decide +kernel
theorem dX12_memory__34 : decode cX12_memory_ 34 = .ok (.sipush 256, 3) := by decide +kernel
theorem dX12_memory__37 : decode cX12_memory_ 37 = .ok (.iand, 1) := by decide +kernel
theorem dX12_memory__38 : decode cX12_memory_ 38 = .ok (.ifCond .eq 40, 3) := by decide +kernel
theorem dX12_memory__41 : decode cX12_memory_ 41 = .ok (.iload 4, 2) := by decide +kernel
theorem dX12_memory__43 : decode cX12_memory_ 43 = .ok (.bipush 8, 2) := by decide +kernel
theorem dX12_memory__45 : decode cX12_memory_ 45 = .ok (.bipush 15, 2) := by decide +kernel
theorem dX12_memory__47 : decode cX12_memory_ 47 = .ok (.invokestatic 15, 3) := by decide +kernel
theorem dX12_memory__50 : decode cX12_memory_ 50 = .ok (.ifCond .eq 19, 3) := by decide +kernel
theorem dX12_memory__53 : decode cX12_memory_ 53 = .ok (.aload_n 0, 1) := by decide +kernel
theorem dX12_memory__54 : decode cX12_memory_ 54 = .ok (.iload_n 1, 1) := by decide +kernel
theorem dX12_memory__55 : decode cX12_memory_ 55 = .ok (.iload 4, 2) := by decide +kernel
theorem dX12_memory__57 : decode cX12_memory_ 57 = .ok (.aload_n 0, 1) := by decide +kernel
theorem dX12_memory__58 : decode cX12_memory_ 58 = .ok (.iload_n 1, 1) := by decide +kernel
theorem dX12_memory__59 : decode cX12_memory_ 59 = .ok (.iload 4, 2) := by decide +kernel
theorem dX12_memory__61 : decode cX12_memory_ 61 = .ok (.invokevirtual 399, 3) := by decide +kernel
theorem dX12_memory__64 : decode cX12_memory_ 64 = .ok (.iconst 1, 1) := by decide +kernel
theorem dX12_memory__65 : decode cX12_memory_ 65 = .ok (.iadd, 1) := by decide +kernel
theorem dX12_memory__66 : decode cX12_memory_ 66 = .ok (.invokevirtual 368, 3) := by decide +kernel
theorem dX12_memory__69 : decode cX12_memory_ 69 = .ok (.aload_n 0, 1) := by decide +kernel
theorem dX12_memory__70 : decode cX12_memory_ 70 = .ok (.iload_n 1, 1) := by decide +kernel
theorem dX12_memory__71 : decode cX12_memory_ 71 = .ok (.iload 4, 2) := by decide +kernel
theorem dX12_memory__73 : decode cX12_memory_ 73 = .ok (.invokevirtual 399, 3) := by decide +kernel
theorem dX12_memory__76 : decode cX12_memory_ 76 = .ok (.istore 4, 2) := by decide +kernel
theorem dX12_memory__78 : decode cX12_memory_ 78 = .ok (.iload_n 2, 1) := by decide +kernel
theorem dX12_memory__79 : decode cX12_memory_ 79 = .ok (.tableswitch 192 0 4 #[33, 52, 105, 139, 162], 33) := by decide +kernel
theorem dX12_memory__112 : decode cX12_memory_ 112 = .ok (.aload_n 0, 1) := by decide +kernel
theorem dX12_memory__113 : decode cX12_memory_ 113 = .ok (.getfield 281, 3) := by decide +kernel
theorem dX12_memory__116 : decode cX12_memory_ 116 = .ok (.iload_n 1, 1) := by decide +kernel
theorem dX12_memory__117 : decode cX12_memory_ 117 = .ok (.dup2, 1) := by decide +kernel
theorem dX12_memory__118 : decode cX12_memory_ 118 = .ok (.iaload, 1) := by decide +kernel
theorem dX12_memory__119 : decode cX12_memory_ 119 = .ok (.aload_n 0, 1) := by decide +kernel
theorem dX12_memory__120 : decode cX12_memory_ 120 = .ok (.iload_n 1, 1) := by decide +kernel
theorem dX12_memory__121 : decode cX12_memory_ 121 = .ok (.iload 4, 2) := by decide +kernel
theorem dX12_memory__123 : decode cX12_memory_ 123 = .ok (.invokevirtual 399, 3) := by decide +kernel
theorem dX12_memory__126 : decode cX12_memory_ 126 = .ok (.iand, 1) := by decide +kernel
theorem dX12_memory__127 : decode cX12_memory_ 127 = .ok (.iastore, 1) := by decide +kernel
theorem dX12_memory__128 : decode cX12_memory_ 128 = .ok (.goto 151, 3) := by decide +kernel
theorem dX12_memory__131 : decode cX12_memory_ 131 = .ok (.aload_n 0, 1) := by decide +kernel
theorem dX12_memory__132 : decode cX12_memory_ 132 = .ok (.getfield 281, 3) := by decide +kernel
theorem dX12_memory__135 : decode cX12_memory_ 135 = .ok (.iload_n 1, 1) := by decide +kernel
end
section
theorem dX12_memory__136 : decode cX12_memory_ 136 = .ok (.iaload, 1) := by decide +kernel
theorem dX12_memory__137 : decode cX12_memory_ 137 = .ok (.aload_n 0, 1) := by decide +kernel
theorem dX12_memory__138 : decode cX12_memory_ 138 = .ok (.iload_n 1, 1) := by decide +kernel
theorem dX12_memory__139 : decode cX12_memory_ 139 = .ok (.iload 4, 2) := by decide +kernel
theorem dX12_memory__141 : decode cX12_memory_ 141 = .ok (.invokevirtual 399, 3) := by decide +kernel
theorem dX12_memory__144 : decode cX12_memory_ 144 = .ok (.iadd, 1) := by decide +kernel
theorem dX12_memory__145 : decode cX12_memory_ 145 = .ok (.istore 5, 2) := by decide +kernel
theorem dX12_memory__147 : decode cX12_memory_ 147 = .ok (.iload 5, 2) := by decide +kernel
theorem dX12_memory__149 : decode cX12_memory_ 149 = .ok (.sipush 4095, 3) := by decide +kernel
theorem dX12_memory__152 : decode cX12_memory_ 152 = .ok (.if_icmp .le 17, 3) := by decide +kernel
theorem dX12_memory__155 : decode cX12_memory_ 155 = .ok (.aload_n 0, 1) := by decide +kernel
theorem dX12_memory__156 : decode cX12_memory_ 156 = .ok (.getfield 290, 3) := by decide +kernel
theorem dX12_memory__159 : decode cX12_memory_ 159 = .ok (.iload_n 1, 1) := by decide +kernel
theorem dX12_memory__160 : decode cX12_memory_ 160 = .ok (.iconst 1, 1) := by decide +kernel
theorem dX12_memory__161 : decode cX12_memory_ 161 = .ok (.aload_n 0, 1) := by decide +kernel
theorem dX12_memory__162 : decode cX12_memory_ 162 = .ok (.getfield 290, 3) := by decide +kernel
theorem dX12_memory__165 : decode cX12_memory_ 165 = .ok (.iload_n 1, 1) := by decide +kernel
theorem dX12_memory__166 : decode cX12_memory_ 166 = .ok (.iaload, 1) := by decide +kernel
theorem dX12_memory__167 : decode cX12_memory_ 167 = .ok (.isub, 1) := by decide +kernel
theorem dX12_memory__168 : decode cX12_memory_ 168 = .ok (.iastore, 1) := by decide +kernel
theorem dX12_memory__169 : decode cX12_memory_ 169 = .ok (.aload_n 0, 1) := by decide +kernel
theorem dX12_memory__170 : decode cX12_memory_ 170 = .ok (.getfield 281, 3) := by decide +kernel
theorem dX12_memory__173 : decode cX12_memory_ 173 = .ok (.iload_n 1, 1) := by decide +kernel
theorem dX12_memory__174 : decode cX12_memory_ 174 = .ok (.iload 5, 2) := by decide +kernel
theorem dX12_memory__176 : decode cX12_memory_ 176 = .ok (.sipush 4095, 3) := by decide +kernel
theorem dX12_memory__179 : decode cX12_memory_ 179 = .ok (.iand, 1) := by decide +kernel
theorem dX12_memory__180 : decode cX12_memory_ 180 = .ok (.iastore, 1) := by decide +kernel
theorem dX12_memory__181 : decode cX12_memory_ 181 = .ok (.goto 98, 3) := by decide +kernel
theorem dX12_memory__184 : decode cX12_memory_ 184 = .ok (.aload_n 0, 1) := by decide +kernel
theorem dX12_memory__185 : decode cX12_memory_ 185 = .ok (.iload_n 1, 1) := by decide +kernel
theorem dX12_memory__186 : decode cX12_memory_ 186 = .ok (.iload 4, 2) := by decide +kernel
theorem dX12_memory__188 : decode cX12_memory_ 188 = .ok (.aload_n 0, 1) := by decide +kernel
theorem dX12_memory__189 : decode cX12_memory_ 189 = .ok (.iload_n 1, 1) := by decide +kernel
theorem dX12_memory__190 : decode cX12_memory_ 190 = .ok (.iload 4, 2) := by decide +kernel
theorem dX12_memory__192 : decode cX12_memory_ 192 = .ok (.invokevirtual 399, 3) := by decide +kernel
theorem dX12_memory__195 : decode cX12_memory_ 195 = .ok (.iconst 1, 1) := by decide +kernel
theorem dX12_memory__196 : decode cX12_memory_ 196 = .ok (.iadd, 1) := by decide +kernel
theorem dX12_memory__197 : decode cX12_memory_ 197 = .ok (.invokevirtual 368, 3) := by decide +kernel
theorem dX12_memory__200 : decode cX12_memory_ 200 = .ok (.aload_n 0, 1) := by decide +kernel
theorem dX12_memory__201 : decode cX12_memory_ 201 = .ok (.iload_n 1, 1) := by decide +kernel
theorem dX12_memory__202 : decode cX12_memory_ 202 = .ok (.iload 4, 2) := by decide +kernel
theorem dX12_memory__204 : decode cX12_memory_ 204 = .ok (.invokevirtual 399, 3) := by decide +kernel
theorem dX12_memory__207 : decode cX12_memory_ 207 = .ok (.ifCond .ne 72, 3) := by decide +kernel
theorem dX12_memory__210 : decode cX12_memory_ 210 = .ok (.aload_n 0, 1) := by decide +kernel
theorem dX12_memory__211 : decode cX12_memory_ 211 = .ok (.iload_n 1, 1) := by decide +kernel
theorem dX12_memory__212 : decode cX12_memory_ 212 = .ok (.invokevirtual 460, 3) := by decide +kernel
theorem dX12_memory__215 : decode cX12_memory_ 215 = .ok (.goto 64, 3) := by decide +kernel
theorem dX12_memory__218 : decode cX12_memory_ 218 = .ok (.aload_n 0, 1) := by decide +kernel
theorem dX12_memory__219 : decode cX12_memory_ 219 = .ok (.iload_n 1, 1) := by decide +kernel
theorem dX12_memory__220 : decode cX12_memory_ 220 = .ok (.iload 4, 2) := by decide +kernel
theorem dX12_memory__222 : decode cX12_memory_ 222 = .ok (.aload_n 0, 1) := by decide +kernel
theorem dX12_memory__223 : decode cX12_memory_ 223 = .ok (.getfield 281, 3) := by decide +kernel
theorem dX12_memory__226 : decode cX12_memory_ 226 = .ok (.iload_n 1, 1) := by decide +kernel
theorem dX12_memory__227 : decode cX12_memory_ 227 = .ok (.iaload, 1) := by decide +kernel
theorem dX12_memory__228 : decode cX12_memory_ 228 = .ok (.invokevirtual 368, 3) := by decide +kernel
theorem dX12_memory__231 : decode cX12_memory_ 231 = .ok (.aload_n 0, 1) := by decide +kernel
theorem dX12_memory__232 : decode cX12_memory_ 232 = .ok (.getfield 281, 3) := by decide +kernel
theorem dX12_memory__235 : decode cX12_memory_ 235 = .ok (.iload_n 1, 1) := by decide +kernel
theorem dX12_memory__236 : decode cX12_memory_ 236 = .ok (.iconst 0, 1) := by decide +kernel
theorem dX12_memory__237 : decode cX12_memory_ 237 = .ok (.iastore, 1) := by decide +kernel
theorem dX12_memory__238 : decode cX12_memory_ 238 = .ok (.goto 41, 3) := by decide +kernel
theorem dX12_memory__241 : decode cX12_memory_ 241 = .ok (.aload_n 0, 1) := by decide +kernel
theorem dX12_memory__242 : decode cX12_memory_ 242 = .ok (.iload_n 1, 1) := by decide +kernel
theorem dX12_memory__243 : decode cX12_memory_ 243 = .ok (.iload 4, 2) := by decide +kernel
theorem dX12_memory__245 : decode cX12_memory_ 245 = .ok (.aload_n 0, 1) := by decide +kernel
theorem dX12_memory__246 : decode cX12_memory_ 246 = .ok (.getfield 287, 3) := by decide +kernel
theorem dX12_memory__249 : decode cX12_memory_ 249 = .ok (.iload_n 1, 1) := by decide +kernel
theorem dX12_memory__250 : decode cX12_memory_ 250 = .ok (.iaload, 1) := by decide +kernel
theorem dX12_memory__251 : decode cX12_memory_ 251 = .ok (.invokevirtual 368, 3) := by decide +kernel
theorem dX12_memory__254 : decode cX12_memory_ 254 = .ok (.aload_n 0, 1) := by decide +kernel
theorem dX12_memory__255 : decode cX12_memory_ 255 = .ok (.getfield 287, 3) := by decide +kernel
theorem dX12_memory__258 : decode cX12_memory_ 258 = .ok (.iload_n 1, 1) := by decide +kernel
theorem dX12_memory__259 : decode cX12_memory_ 259 = .ok (.iload 4, 2) := by decide +kernel
theorem dX12_memory__261 : decode cX12_memory_ 261 = .ok (.iconst 1, 1) := by decide +kernel
theorem dX12_memory__262 : decode cX12_memory_ 262 = .ok (.iadd, 1) := by decide +kernel
theorem dX12_memory__263 : decode cX12_memory_ 263 = .ok (.sipush 4095, 3) := by decide +kernel
theorem dX12_memory__266 : decode cX12_memory_ 266 = .ok (.iand, 1) := by decide +kernel
theorem dX12_memory__267 : decode cX12_memory_ 267 = .ok (.iastore, 1) := by decide +kernel
theorem dX12_memory__268 : decode cX12_memory_ 268 = .ok (.goto 11, 3) := by decide +kernel
theorem dX12_memory__271 : decode cX12_memory_ 271 = .ok (.aload_n 0, 1) := by decide +kernel
theorem dX12_memory__272 : decode cX12_memory_ 272 = .ok (.getfield 287, 3) := by decide +kernel
theorem dX12_memory__275 : decode cX12_memory_ 275 = .ok (.iload_n 1, 1) := by decide +kernel
theorem dX12_memory__276 : decode cX12_memory_ 276 = .ok (.iload 4, 2) := by decide +kernel
theorem dX12_memory__278 : decode cX12_memory_ 278 = .ok (.iastore, 1) := by decide +kernel
theorem dX12_memory__279 : decode cX12_memory_ 279 = .ok (.return_, 1) := by decide +kernel
theorem dX12_skip_0 : decode cX12_skip 0 = .ok (.aload_n 0, 1) := by decide +kernel
theorem dX12_skip_1 : decode cX12_skip 1 = .ok (.getfield 287, 3) := by decide +kernel
theorem dX12_skip_4 : decode cX12_skip 4 = .ok (.iload_n 1, 1) := by decide +kernel
theorem dX12_skip_5 : decode cX12_skip 5 = .ok (.aload_n 0, 1) := by decide +kernel
theorem dX12_skip_6 : decode cX12_skip 6 = .ok (.getfield 287, 3) := by decide +kernel
theorem dX12_skip_9 : decode cX12_skip 9 = .ok (.iload_n 1, 1) := by decide +kernel
theorem dX12_skip_10 : decode cX12_skip 10 = .ok (.iaload, 1) := by decide +kernel
theorem dX12_skip_11 : decode cX12_skip 11 = .ok (.iconst 1, 1) := by decide +kernel
theorem dX12_skip_12 : decode cX12_skip 12 = .ok (.iadd, 1) := by decide +kernel
theorem dX12_skip_13 : decode cX12_skip 13 = .ok (.sipush 4095, 3) := by decide +kernel
theorem dX12_skip_16 : decode cX12_skip 16 = .ok (.iand, 1) := by decide +kernel
theorem dX12_skip_17 : decode cX12_skip 17 = .ok (.iastore, 1) := by decide +kernel
theorem dX12_skip_18 : decode cX12_skip 18 = .ok (.return_, 1) := by decide +kernel
theorem dX12_has_0 : decode cX12_has 0 = .ok (.aload_n 0, 1) := by decide +kernel
theorem dX12_has_1 : decode cX12_has 1 = .ok (.getfield 438, 3) := by decide +kernel
theorem dX12_has_4 : decode cX12_has 4 = .ok (.iload_n 1, 1) := by decide +kernel
theorem dX12_has_5 : decode cX12_has 5 = .ok (.iand, 1) := by decide +kernel
theorem dX12_has_6 : decode cX12_has 6 = .ok (.ifCond .eq 7, 3) := by decide +kernel
theorem dX12_has_9 : decode cX12_has 9 = .ok (.iconst 1, 1) := by decide +kernel
theorem dX12_has_10 : decode cX12_has 10 = .ok (.goto 4, 3) := by decide +kernel
theorem dX12_has_13 : decode cX12_has 13 = .ok (.iconst 0, 1) := by decide +kernel
theorem dX12_has_14 : decode cX12_has 14 = .ok (.ireturn, 1) := by decide +kernel
theorem dX12_first_0 : decode cX12_first 0 = .ok (.aload_n 0, 1) := by decide +kernel
theorem dX12_first_1 : decode cX12_first 1 = .ok (.sipush 128, 3) := by decide +kernel
theorem dX12_first_4 : decode cX12_first 4 = .ok (.invokevirtual 463, 3) := by decide +kernel
theorem dX12_first_7 : decode cX12_first 7 = .ok (.ifCond .eq 10, 3) := by decide +kernel
theorem dX12_first_10 : decode cX12_first 10 = .ok (.aload_n 0, 1) := by decide +kernel
theorem dX12_first_11 : decode cX12_first 11 = .ok (.getfield 281, 3) := by decide +kernel
theorem dX12_first_14 : decode cX12_first 14 = .ok (.iload_n 1, 1) := by decide +kernel
theorem dX12_first_15 : decode cX12_first 15 = .ok (.iconst 0, 1) := by decide +kernel
theorem dX12_first_16 : decode cX12_first 16 = .ok (.iastore, 1) := by decide +kernel
theorem dX12_first_17 : decode cX12_first 17 = .ok (.aload_n 0, 1) := by decide +kernel
theorem dX12_first_18 : decode cX12_first 18 = .ok (.bipush 64, 2) := by decide +kernel
theorem dX12_first_20 : decode cX12_first 20 = .ok (.invokevirtual 463, 3) := by decide +kernel
theorem dX12_first_23 : decode cX12_first 23 = .ok (.ifCond .eq 10, 3) := by decide +kernel
theorem dX12_first_26 : decode cX12_first 26 = .ok (.aload_n 0, 1) := by decide +kernel
theorem dX12_first_27 : decode cX12_first 27 = .ok (.getfield 290, 3) := by decide +kernel
theorem dX12_first_30 : decode cX12_first 30 = .ok (.iload_n 1, 1) := by decide +kernel
theorem dX12_first_31 : decode cX12_first 31 = .ok (.iconst 0, 1) := by decide +kernel
theorem dX12_first_32 : decode cX12_first 32 = .ok (.iastore, 1) := by decide +kernel
theorem dX12_first_33 : decode cX12_first 33 = .ok (.aload_n 0, 1) := by decide +kernel
theorem dX12_first_34 : decode cX12_first 34 = .ok (.bipush 32, 2) := by decide +kernel
theorem dX12_first_36 : decode cX12_first 36 = .ok (.invokevirtual 463, 3) := by decide +kernel
theorem dX12_first_39 : decode cX12_first 39 = .ok (.ifCond .eq 19, 3) := by decide +kernel
theorem dX12_first_42 : decode cX12_first 42 = .ok (.aload_n 0, 1) := by decide +kernel
theorem dX12_first_43 : decode cX12_first 43 = .ok (.getfield 281, 3) := by decide +kernel
theorem dX12_first_46 : decode cX12_first 46 = .ok (.iload_n 1, 1) := by decide +kernel
theorem dX12_first_47 : decode cX12_first 47 = .ok (.sipush 4095, 3) := by decide +kernel
theorem dX12_first_50 : decode cX12_first 50 = .ok (.aload_n 0, 1) := by decide +kernel
theorem dX12_first_51 : decode cX12_first 51 = .ok (.getfield 281, 3) := by decide +kernel
theorem dX12_first_54 : decode cX12_first 54 = .ok (.iload_n 1, 1) := by decide +kernel
theorem dX12_first_55 : decode cX12_first 55 = .ok (.iaload, 1) := by decide +kernel
theorem dX12_first_56 : decode cX12_first 56 = .ok (.isub, 1) := by decide +kernel
theorem dX12_first_57 : decode cX12_first 57 = .ok (.iastore, 1) := by decide +kernel
theorem dX12_first_58 : decode cX12_first 58 = .ok (.aload_n 0, 1) := by decide +kernel
theorem dX12_first_59 : decode cX12_first 59 = .ok (.bipush 16, 2) := by decide +kernel
theorem dX12_first_61 : decode cX12_first 61 = .ok (.invokevirtual 463, 3) := by decide +kernel
theorem dX12_first_64 : decode cX12_first 64 = .ok (.ifCond .eq 17, 3) := by decide +kernel
theorem dX12_first_67 : decode cX12_first 67 = .ok (.aload_n 0, 1) := by decide +kernel
theorem dX12_first_68 : decode cX12_first 68 = .ok (.getfield 290, 3) := by decide +kernel
theorem dX12_first_71 : decode cX12_first 71 = .ok (.iload_n 1, 1) := by decide +kernel
theorem dX12_first_72 : decode cX12_first 72 = .ok (.iconst 1, 1) := by decide +kernel
theorem dX12_first_73 : decode cX12_first 73 = .ok (.aload_n 0, 1) := by decide +kernel
theorem dX12_first_74 : decode cX12_first 74 = .ok (.getfield 290, 3) := by decide +kernel
theorem dX12_first_77 : decode cX12_first 77 = .ok (.iload_n 1, 1) := by decide +kernel
theorem dX12_first_78 : decode cX12_first 78 = .ok (.iaload, 1) := by decide +kernel
theorem dX12_first_79 : decode cX12_first 79 = .ok (.isub, 1) := by decide +kernel
theorem dX12_first_80 : decode cX12_first 80 = .ok (.iastore, 1) := by decide +kernel
theorem dX12_first_81 : decode cX12_first 81 = .ok (.sipush 4096, 3) := by decide +kernel
theorem dX12_first_84 : decode cX12_first 84 = .ok (.aload_n 0, 1) := by decide +kernel
theorem dX12_first_85 : decode cX12_first 85 = .ok (.getfield 290, 3) := by decide +kernel
theorem dX12_first_88 : decode cX12_first 88 = .ok (.iload_n 1, 1) := by decide +kernel
theorem dX12_first_89 : decode cX12_first 89 = .ok (.iaload, 1) := by decide +kernel
theorem dX12_first_90 : decode cX12_first 90 = .ok (.imul, 1) := by decide +kernel
theorem dX12_first_91 : decode cX12_first 91 = .ok (.aload_n 0, 1) := by decide +kernel
theorem dX12_first_92 : decode cX12_first 92 = .ok (.getfield 281, 3) := by decide +kernel
theorem dX12_first_95 : decode cX12_first 95 = .ok (.iload_n 1, 1) := by decide +kernel
theorem dX12_first_96 : decode cX12_first 96 = .ok (.iaload, 1) := by decide +kernel
theorem dX12_first_97 : decode cX12_first 97 = .ok (.iadd, 1) := by decide +kernel
theorem dX12_first_98 : decode cX12_first 98 = .ok (.istore_n 2, 1) := by decide +kernel
theorem dX12_first_99 : decode cX12_first 99 = .ok (.aload_n 0, 1) := by decide +kernel
theorem dX12_first_100 : decode cX12_first 100 = .ok (.iconst 1, 1) := by decide +kernel
theorem dX12_first_101 : decode cX12_first 101 = .ok (.invokevirtual 463, 3) := by decide +kernel
theorem dX12_first_104 : decode cX12_first 104 = .ok (.ifCond .eq 11, 3) := by decide +kernel
theorem dX12_first_107 : decode cX12_first 107 = .ok (.iload_n 2, 1) := by decide +kernel
theorem dX12_first_108 : decode cX12_first 108 = .ok (.iconst 1, 1) := by decide +kernel
theorem dX12_first_109 : decode cX12_first 109 = .ok (.iadd, 1) := by decide +kernel
theorem dX12_first_110 : decode cX12_first 110 = .ok (.sipush 8191, 3) := by decide +kernel
theorem dX12_first_113 : decode cX12_first 113 = .ok (.iand, 1) := by decide +kernel
theorem dX12_first_114 : decode cX12_first 114 = .ok (.istore_n 2, 1) := by decide +kernel
theorem dX12_first_115 : decode cX12_first 115 = .ok (.aload_n 0, 1) := by decide +kernel
theorem dX12_first_116 : decode cX12_first 116 = .ok (.iconst 2, 1) := by decide +kernel
theorem dX12_first_117 : decode cX12_first 117 = .ok (.invokevirtual 463, 3) := by decide +kernel
theorem dX12_first_120 : decode cX12_first 120 = .ok (.ifCond .eq 7, 3) := by decide +kernel
theorem dX12_first_123 : decode cX12_first 123 = .ok (.iconst 2, 1) := by decide +kernel
theorem dX12_first_124 : decode cX12_first 124 = .ok (.goto 4, 3) := by decide +kernel
theorem dX12_first_127 : decode cX12_first 127 = .ok (.iconst 1, 1) := by decide +kernel
theorem dX12_first_128 : decode cX12_first 128 = .ok (.istore_n 3, 1) := by decide +kernel
theorem dX12_first_129 : decode cX12_first 129 = .ok (.iconst 0, 1) := by decide +kernel
theorem dX12_first_130 : decode cX12_first 130 = .ok (.istore 4, 2) := by decide +kernel
theorem dX12_first_132 : decode cX12_first 132 = .ok (.iload 4, 2) := by decide +kernel
theorem dX12_first_134 : decode cX12_first 134 = .ok (.iload_n 3, 1) := by decide +kernel
theorem dX12_first_135 : decode cX12_first 135 = .ok (.if_icmp .ge 58, 3) := by decide +kernel
theorem dX12_first_138 : decode cX12_first 138 = .ok (.aload_n 0, 1) := by decide +kernel
theorem dX12_first_139 : decode cX12_first 139 = .ok (.bipush 8, 2) := by decide +kernel
theorem dX12_first_141 : decode cX12_first 141 = .ok (.invokevirtual 463, 3) := by decide +kernel
theorem dX12_first_144 : decode cX12_first 144 = .ok (.aload_n 0, 1) := by decide +kernel
theorem dX12_first_145 : decode cX12_first 145 = .ok (.iconst 4, 1) := by decide +kernel
theorem dX12_first_146 : decode cX12_first 146 = .ok (.invokevirtual 463, 3) := by decide +kernel
theorem dX12_first_149 : decode cX12_first 149 = .ok (.if_icmp .eq 44, 3) := by decide +kernel
theorem dX12_first_152 : decode cX12_first 152 = .ok (.aload_n 0, 1) := by decide +kernel
theorem dX12_first_153 : decode cX12_first 153 = .ok (.bipush 8, 2) := by decide +kernel
theorem dX12_first_155 : decode cX12_first 155 = .ok (.invokevirtual 463, 3) := by decide +kernel
theorem dX12_first_158 : decode cX12_first 158 = .ok (.ifCond .eq 16, 3) := by decide +kernel
theorem dX12_first_161 : decode cX12_first 161 = .ok (.iload_n 2, 1) := by decide +kernel
theorem dX12_first_162 : decode cX12_first 162 = .ok (.iconst 1, 1) := by decide +kernel
theorem dX12_first_163 : decode cX12_first 163 = .ok (.ishr, 1) := by decide +kernel
theorem dX12_first_164 : decode cX12_first 164 = .ok (.iload_n 2, 1) := by decide +kernel
theorem dX12_first_165 : decode cX12_first 165 = .ok (.iconst 1, 1) := by decide +kernel
theorem dX12_first_166 : decode cX12_first 166 = .ok (.iand, 1) := by decide +kernel
theorem dX12_first_167 : decode cX12_first 167 = .ok (.bipush 12, 2) := by decide +kernel
theorem dX12_first_169 : decode cX12_first 169 = .ok (.ishl, 1) := by decide +kernel
theorem dX12_first_170 : decode cX12_first 170 = .ok (.ior, 1) := by decide +kernel
theorem dX12_first_171 : decode cX12_first 171 = .ok (.goto 15, 3) := by decide +kernel
theorem dX12_first_174 : decode cX12_first 174 = .ok (.iload_n 2, 1) := by decide +kernel
theorem dX12_first_175 : decode cX12_first 175 = .ok (.iconst 1, 1) := by decide +kernel
theorem dX12_first_176 : decode cX12_first 176 = .ok (.ishl, 1) := by decide +kernel
theorem dX12_first_177 : decode cX12_first 177 = .ok (.sipush 8191, 3) := by decide +kernel
theorem dX12_first_180 : decode cX12_first 180 = .ok (.iand, 1) := by decide +kernel
theorem dX12_first_181 : decode cX12_first 181 = .ok (.iload_n 2, 1) := by decide +kernel
theorem dX12_first_182 : decode cX12_first 182 = .ok (.bipush 12, 2) := by decide +kernel
theorem dX12_first_184 : decode cX12_first 184 = .ok (.ishr, 1) := by decide +kernel
theorem dX12_first_185 : decode cX12_first 185 = .ok (.ior, 1) := by decide +kernel
theorem dX12_first_186 : decode cX12_first 186 = .ok (.istore_n 2, 1) := by decide +kernel
theorem dX12_first_187 : decode cX12_first 187 = .ok (.iinc 4 1, 3) := by decide +kernel
theorem dX12_first_190 : decode cX12_first 190 = .ok (.goto (-58), 3) := by decide +kernel
theorem dX12_first_193 : decode cX12_first 193 = .ok (.aload_n 0, 1) := by decide +kernel
theorem dX12_first_194 : decode cX12_first 194 = .ok (.iconst 2, 1) := by decide +kernel
theorem dX12_first_195 : decode cX12_first 195 = .ok (.invokevirtual 463, 3) := by decide +kernel
theorem dX12_first_198 : decode cX12_first 198 = .ok (.ifCond .eq 42, 3) := by decide +kernel
theorem dX12_first_201 : decode cX12_first 201 = .ok (.aload_n 0, 1) := by decide +kernel
theorem dX12_first_202 : decode cX12_first 202 = .ok (.bipush 8, 2) := by decide +kernel
theorem dX12_first_204 : decode cX12_first 204 = .ok (.invokevirtual 463, 3) := by decide +kernel
theorem dX12_first_207 : decode cX12_first 207 = .ok (.ifCond .ne 33, 3) := by decide +kernel
theorem dX12_first_210 : decode cX12_first 210 = .ok (.aload_n 0, 1) := by decide +kernel
theorem dX12_first_211 : decode cX12_first 211 = .ok (.iconst 4, 1) := by decide +kernel
theorem dX12_first_212 : decode cX12_first 212 = .ok (.invokevirtual 463, 3) := by decide +kernel
theorem dX12_first_215 : decode cX12_first 215 = .ok (.ifCond .ne 25, 3) := by decide +kernel
theorem dX12_first_218 : decode cX12_first 218 = .ok (.iload_n 2, 1) := by decide +kernel
theorem dX12_first_219 : decode cX12_first 219 = .ok (.sipush 4096, 3) := by decide +kernel
theorem dX12_first_222 : decode cX12_first 222 = .ok (.iand, 1) := by decide +kernel
theorem dX12_first_223 : decode cX12_first 223 = .ok (.iload_n 2, 1) := by decide +kernel
theorem dX12_first_224 : decode cX12_first 224 = .ok (.bipush 63, 2) := by decide +kernel
theorem dX12_first_226 : decode cX12_first 226 = .ok (.iand, 1) := by decide +kernel
theorem dX12_first_227 : decode cX12_first 227 = .ok (.bipush 6, 2) := by decide +kernel
theorem dX12_first_229 : decode cX12_first 229 = .ok (.ishl, 1) := by decide +kernel
theorem dX12_first_230 : decode cX12_first 230 = .ok (.ior, 1) := by decide +kernel
theorem dX12_first_231 : decode cX12_first 231 = .ok (.iload_n 2, 1) := by decide +kernel
theorem dX12_first_232 : decode cX12_first 232 = .ok (.bipush 6, 2) := by decide +kernel
theorem dX12_first_234 : decode cX12_first 234 = .ok (.ishr, 1) := by decide +kernel
theorem dX12_first_235 : decode cX12_first 235 = .ok (.bipush 63, 2) := by decide +kernel
theorem dX12_first_237 : decode cX12_first 237 = .ok (.iand, 1) := by decide +kernel
theorem dX12_first_238 : decode cX12_first 238 = .ok (.ior, 1) := by decide +kernel
theorem dX12_first_239 : decode cX12_first 239 = .ok (.istore_n 2, 1) := by decide +kernel
theorem dX12_first_240 : decode cX12_first 240 = .ok (.aload_n 0, 1) := by decide +kernel
theorem dX12_first_241 : decode cX12_first 241 = .ok (.getfield 290, 3) := by decide +kernel
theorem dX12_first_244 : decode cX12_first 244 = .ok (.iload_n 1, 1) := by decide +kernel
theorem dX12_first_245 : decode cX12_first 245 = .ok (.iload_n 2, 1) := by decide +kernel
theorem dX12_first_246 : decode cX12_first 246 = .ok (.bipush 12, 2) := by decide +kernel
theorem dX12_first_248 : decode cX12_first 248 = .ok (.ishr, 1) := by decide +kernel
theorem dX12_first_249 : decode cX12_first 249 = .ok (.iastore, 1) := by decide +kernel
theorem dX12_first_250 : decode cX12_first 250 = .ok (.aload_n 0, 1) := by decide +kernel
theorem dX12_first_251 : decode cX12_first 251 = .ok (.getfield 281, 3) := by decide +kernel
theorem dX12_first_254 : decode cX12_first 254 = .ok (.iload_n 1, 1) := by decide +kernel
theorem dX12_first_255 : decode cX12_first 255 = .ok (.iload_n 2, 1) := by decide +kernel
theorem dX12_first_256 : decode cX12_first 256 = .ok (.sipush 4095, 3) := by decide +kernel
theorem dX12_first_259 : decode cX12_first 259 = .ok (.iand, 1) := by decide +kernel
theorem dX12_first_260 : decode cX12_first 260 = .ok (.iastore, 1) := by decide +kernel
theorem dX12_first_261 : decode cX12_first 261 = .ok (.return_, 1) := by decide +kernel
theorem dX12_second_0 : decode cX12_second 0 = .ok (.aload_n 0, 1) := by decide +kernel
theorem dX12_second_1 : decode cX12_second 1 = .ok (.bipush 64, 2) := by decide +kernel
theorem dX12_second_3 : decode cX12_second 3 = .ok (.invokevirtual 463, 3) := by decide +kernel
theorem dX12_second_6 : decode cX12_second 6 = .ok (.ifCond .eq 15, 3) := by decide +kernel
theorem dX12_second_9 : decode cX12_second 9 = .ok (.aload_n 0, 1) := by decide +kernel
theorem dX12_second_10 : decode cX12_second 10 = .ok (.getfield 281, 3) := by decide +kernel
theorem dX12_second_13 : decode cX12_second 13 = .ok (.iload_n 1, 1) := by decide +kernel
theorem dX12_second_14 : decode cX12_second 14 = .ok (.iaload, 1) := by decide +kernel
theorem dX12_second_15 : decode cX12_second 15 = .ok (.sipush 2047, 3) := by decide +kernel
theorem dX12_second_18 : decode cX12_second 18 = .ok (.if_icmp .gt 40, 3) := by decide +kernel
theorem dX12_second_21 : decode cX12_second 21 = .ok (.aload_n 0, 1) := by decide +kernel
theorem dX12_second_22 : decode cX12_second 22 = .ok (.bipush 32, 2) := by decide +kernel
theorem dX12_second_24 : decode cX12_second 24 = .ok (.invokevirtual 463, 3) := by decide +kernel
theorem dX12_second_27 : decode cX12_second 27 = .ok (.ifCond .eq 12, 3) := by decide +kernel
theorem dX12_second_30 : decode cX12_second 30 = .ok (.aload_n 0, 1) := by decide +kernel
theorem dX12_second_31 : decode cX12_second 31 = .ok (.getfield 281, 3) := by decide +kernel
theorem dX12_second_34 : decode cX12_second 34 = .ok (.iload_n 1, 1) := by decide +kernel
theorem dX12_second_35 : decode cX12_second 35 = .ok (.iaload, 1) := by decide +kernel
theorem dX12_second_36 : decode cX12_second 36 = .ok (.ifCond .eq 22, 3) := by decide +kernel
theorem dX12_second_39 : decode cX12_second 39 = .ok (.aload_n 0, 1) := by decide +kernel
theorem dX12_second_40 : decode cX12_second 40 = .ok (.bipush 16, 2) := by decide +kernel
theorem dX12_second_42 : decode cX12_second 42 = .ok (.invokevirtual 463, 3) := by decide +kernel
theorem dX12_second_45 : decode cX12_second 45 = .ok (.ifCond .eq 17, 3) := by decide +kernel
theorem dX12_second_48 : decode cX12_second 48 = .ok (.aload_n 0, 1) := by decide +kernel
theorem dX12_second_49 : decode cX12_second 49 = .ok (.getfield 290, 3) := by decide +kernel
theorem dX12_second_52 : decode cX12_second 52 = .ok (.iload_n 1, 1) := by decide +kernel
theorem dX12_second_53 : decode cX12_second 53 = .ok (.iaload, 1) := by decide +kernel
theorem dX12_second_54 : decode cX12_second 54 = .ok (.iconst 1, 1) := by decide +kernel
theorem dX12_second_55 : decode cX12_second 55 = .ok (.if_icmp .ne 7, 3) := by decide +kernel
theorem dX12_second_58 : decode cX12_second 58 = .ok (.iconst 1, 1) := by decide +kernel
theorem dX12_second_59 : decode cX12_second 59 = .ok (.goto 4, 3) := by decide +kernel
theorem dX12_second_62 : decode cX12_second 62 = .ok (.iconst 0, 1) := by decide +kernel
theorem dX12_second_63 : decode cX12_second 63 = .ok (.istore_n 2, 1) := by decide +kernel
theorem dX12_second_64 : decode cX12_second 64 = .ok (.iload_n 2, 1) := by decide +kernel
theorem dX12_second_65 : decode cX12_second 65 = .ok (.aload_n 0, 1) := by decide +kernel
theorem dX12_second_66 : decode cX12_second 66 = .ok (.bipush 8, 2) := by decide +kernel
theorem dX12_second_68 : decode cX12_second 68 = .ok (.invokevirtual 463, 3) := by decide +kernel
theorem dX12_second_71 : decode cX12_second 71 = .ok (.if_icmp .eq 8, 3) := by decide +kernel
theorem dX12_second_74 : decode cX12_second 74 = .ok (.aload_n 0, 1) := by decide +kernel
theorem dX12_second_75 : decode cX12_second 75 = .ok (.iload_n 1, 1) := by decide +kernel
theorem dX12_second_76 : decode cX12_second 76 = .ok (.invokevirtual 460, 3) := by decide +kernel
theorem dX12_second_79 : decode cX12_second 79 = .ok (.aload_n 0, 1) := by decide +kernel
theorem dX12_second_80 : decode cX12_second 80 = .ok (.sipush 128, 3) := by decide +kernel
theorem dX12_second_83 : decode cX12_second 83 = .ok (.invokevirtual 463, 3) := by decide +kernel
theorem dX12_second_86 : decode cX12_second 86 = .ok (.ifCond .eq 10, 3) := by decide +kernel
theorem dX12_second_89 : decode cX12_second 89 = .ok (.aload_n 0, 1) := by decide +kernel
theorem dX12_second_90 : decode cX12_second 90 = .ok (.getfield 281, 3) := by decide +kernel
theorem dX12_second_93 : decode cX12_second 93 = .ok (.iload_n 1, 1) := by decide +kernel
theorem dX12_second_94 : decode cX12_second 94 = .ok (.iconst 0, 1) := by decide +kernel
theorem dX12_second_95 : decode cX12_second 95 = .ok (.iastore, 1) := by decide +kernel
theorem dX12_second_96 : decode cX12_second 96 = .ok (.aload_n 0, 1) := by decide +kernel
theorem dX12_second_97 : decode cX12_second 97 = .ok (.iconst 4, 1) := by decide +kernel
theorem dX12_second_98 : decode cX12_second 98 = .ok (.invokevirtual 463, 3) := by decide +kernel
theorem dX12_second_101 : decode cX12_second 101 = .ok (.ifCond .eq 18, 3) := by decide +kernel
theorem dX12_second_104 : decode cX12_second 104 = .ok (.aload_n 0, 1) := by decide +kernel
theorem dX12_second_105 : decode cX12_second 105 = .ok (.getfield 281, 3) := by decide +kernel
theorem dX12_second_108 : decode cX12_second 108 = .ok (.iload_n 1, 1) := by decide +kernel
theorem dX12_second_109 : decode cX12_second 109 = .ok (.dup2, 1) := by decide +kernel
theorem dX12_second_110 : decode cX12_second 110 = .ok (.iaload, 1) := by decide +kernel
theorem dX12_second_111 : decode cX12_second 111 = .ok (.aload_n 0, 1) := by decide +kernel
theorem dX12_second_112 : decode cX12_second 112 = .ok (.getfield 293, 3) := by decide +kernel
theorem dX12_second_115 : decode cX12_second 115 = .ok (.iload_n 1, 1) := by decide +kernel
theorem dX12_second_116 : decode cX12_second 116 = .ok (.iaload, 1) := by decide +kernel
theorem dX12_second_117 : decode cX12_second 117 = .ok (.ior, 1) := by decide +kernel
theorem dX12_second_118 : decode cX12_second 118 = .ok (.iastore, 1) := by decide +kernel
theorem dX12_second_119 : decode cX12_second 119 = .ok (.aload_n 0, 1) := by decide +kernel
theorem dX12_second_120 : decode cX12_second 120 = .ok (.iconst 2, 1) := by decide +kernel
theorem dX12_second_121 : decode cX12_second 121 = .ok (.invokevirtual 463, 3) := by decide +kernel
theorem dX12_second_124 : decode cX12_second 124 = .ok (.ifCond .eq 11, 3) := by decide +kernel
theorem dX12_second_127 : decode cX12_second 127 = .ok (.aload_n 0, 1) := by decide +kernel
theorem dX12_second_128 : decode cX12_second 128 = .ok (.getfield 278, 3) := by decide +kernel
theorem dX12_second_131 : decode cX12_second 131 = .ok (.iload_n 1, 1) := by decide +kernel
theorem dX12_second_132 : decode cX12_second 132 = .ok (.bipush 6, 2) := by decide +kernel
theorem dX12_second_134 : decode cX12_second 134 = .ok (.iastore, 1) := by decide +kernel
theorem dX12_second_135 : decode cX12_second 135 = .ok (.return_, 1) := by decide +kernel
theorem dX12_third_0 : decode cX12_third 0 = .ok (.aload_n 0, 1) := by decide +kernel
theorem dX12_third_1 : decode cX12_third 1 = .ok (.sipush 128, 3) := by decide +kernel
theorem dX12_third_4 : decode cX12_third 4 = .ok (.invokevirtual 463, 3) := by decide +kernel
theorem dX12_third_7 : decode cX12_third 7 = .ok (.ifCond .eq 10, 3) := by decide +kernel
theorem dX12_third_10 : decode cX12_third 10 = .ok (.aload_n 0, 1) := by decide +kernel
theorem dX12_third_11 : decode cX12_third 11 = .ok (.getfield 281, 3) := by decide +kernel
theorem dX12_third_14 : decode cX12_third 14 = .ok (.iload_n 1, 1) := by decide +kernel
theorem dX12_third_15 : decode cX12_third 15 = .ok (.iconst 0, 1) := by decide +kernel
theorem dX12_third_16 : decode cX12_third 16 = .ok (.iastore, 1) := by decide +kernel
theorem dX12_third_17 : decode cX12_third 17 = .ok (.aload_n 0, 1) := by decide +kernel
theorem dX12_third_18 : decode cX12_third 18 = .ok (.bipush 64, 2) := by decide +kernel
theorem dX12_third_20 : decode cX12_third 20 = .ok (.invokevirtual 463, 3) := by decide +kernel
theorem dX12_third_23 : decode cX12_third 23 = .ok (.ifCond .eq 41, 3) := by decide +kernel
theorem dX12_third_26 : decode cX12_third 26 = .ok (.aload_n 0, 1) := by decide +kernel
theorem dX12_third_27 : decode cX12_third 27 = .ok (.bipush 16, 2) := by decide +kernel
theorem dX12_third_29 : decode cX12_third 29 = .ok (.invokevirtual 463, 3) := by decide +kernel
theorem dX12_third_32 : decode cX12_third 32 = .ok (.ifCond .eq 32, 3) := by decide +kernel
theorem dX12_third_35 : decode cX12_third 35 = .ok (.aload_n 0, 1) := by decide +kernel
theorem dX12_third_36 : decode cX12_third 36 = .ok (.getfield 281, 3) := by decide +kernel
theorem dX12_third_39 : decode cX12_third 39 = .ok (.iload_n 1, 1) := by decide +kernel
theorem dX12_third_40 : decode cX12_third 40 = .ok (.iaload, 1) := by decide +kernel
theorem dX12_third_41 : decode cX12_third 41 = .ok (.istore_n 2, 1) := by decide +kernel
theorem dX12_third_42 : decode cX12_third 42 = .ok (.aload_n 0, 1) := by decide +kernel
theorem dX12_third_43 : decode cX12_third 43 = .ok (.getfield 281, 3) := by decide +kernel
theorem dX12_third_46 : decode cX12_third 46 = .ok (.iload_n 1, 1) := by decide +kernel
theorem dX12_third_47 : decode cX12_third 47 = .ok (.aload_n 0, 1) := by decide +kernel
theorem dX12_third_48 : decode cX12_third 48 = .ok (.getfield 284, 3) := by decide +kernel
theorem dX12_third_51 : decode cX12_third 51 = .ok (.iload_n 1, 1) := by decide +kernel
theorem dX12_third_52 : decode cX12_third 52 = .ok (.iaload, 1) := by decide +kernel
theorem dX12_third_53 : decode cX12_third 53 = .ok (.iastore, 1) := by decide +kernel
theorem dX12_third_54 : decode cX12_third 54 = .ok (.aload_n 0, 1) := by decide +kernel
theorem dX12_third_55 : decode cX12_third 55 = .ok (.getfield 284, 3) := by decide +kernel
theorem dX12_third_58 : decode cX12_third 58 = .ok (.iload_n 1, 1) := by decide +kernel
theorem dX12_third_59 : decode cX12_third 59 = .ok (.iload_n 2, 1) := by decide +kernel
theorem dX12_third_60 : decode cX12_third 60 = .ok (.iastore, 1) := by decide +kernel
theorem dX12_third_61 : decode cX12_third 61 = .ok (.goto 58, 3) := by decide +kernel
theorem dX12_third_64 : decode cX12_third 64 = .ok (.aload_n 0, 1) := by decide +kernel
theorem dX12_third_65 : decode cX12_third 65 = .ok (.bipush 64, 2) := by decide +kernel
theorem dX12_third_67 : decode cX12_third 67 = .ok (.invokevirtual 463, 3) := by decide +kernel
theorem dX12_third_70 : decode cX12_third 70 = .ok (.ifCond .eq 21, 3) := by decide +kernel
theorem dX12_third_73 : decode cX12_third 73 = .ok (.aload_n 0, 1) := by decide +kernel
theorem dX12_third_74 : decode cX12_third 74 = .ok (.getfield 281, 3) := by decide +kernel
theorem dX12_third_77 : decode cX12_third 77 = .ok (.iload_n 1, 1) := by decide +kernel
theorem dX12_third_78 : decode cX12_third 78 = .ok (.dup2, 1) := by decide +kernel
theorem dX12_third_79 : decode cX12_third 79 = .ok (.iaload, 1) := by decide +kernel
theorem dX12_third_80 : decode cX12_third 80 = .ok (.aload_n 0, 1) := by decide +kernel
theorem dX12_third_81 : decode cX12_third 81 = .ok (.getfield 284, 3) := by decide +kernel
theorem dX12_third_84 : decode cX12_third 84 = .ok (.iload_n 1, 1) := by decide +kernel
theorem dX12_third_85 : decode cX12_third 85 = .ok (.iaload, 1) := by decide +kernel
theorem dX12_third_86 : decode cX12_third 86 = .ok (.ior, 1) := by decide +kernel
theorem dX12_third_87 : decode cX12_third 87 = .ok (.iastore, 1) := by decide +kernel
theorem dX12_third_88 : decode cX12_third 88 = .ok (.goto 31, 3) := by decide +kernel
theorem dX12_third_91 : decode cX12_third 91 = .ok (.aload_n 0, 1) := by decide +kernel
theorem dX12_third_92 : decode cX12_third 92 = .ok (.bipush 16, 2) := by decide +kernel
theorem dX12_third_94 : decode cX12_third 94 = .ok (.invokevirtual 463, 3) := by decide +kernel
theorem dX12_third_97 : decode cX12_third 97 = .ok (.ifCond .eq 22, 3) := by decide +kernel
theorem dX12_third_100 : decode cX12_third 100 = .ok (.aload_n 0, 1) := by decide +kernel
theorem dX12_third_101 : decode cX12_third 101 = .ok (.getfield 284, 3) := by decide +kernel
theorem dX12_third_104 : decode cX12_third 104 = .ok (.iload_n 1, 1) := by decide +kernel
theorem dX12_third_105 : decode cX12_third 105 = .ok (.aload_n 0, 1) := by decide +kernel
theorem dX12_third_106 : decode cX12_third 106 = .ok (.getfield 281, 3) := by decide +kernel
theorem dX12_third_109 : decode cX12_third 109 = .ok (.iload_n 1, 1) := by decide +kernel
theorem dX12_third_110 : decode cX12_third 110 = .ok (.iaload, 1) := by decide +kernel
theorem dX12_third_111 : decode cX12_third 111 = .ok (.iastore, 1) := by decide +kernel
theorem dX12_third_112 : decode cX12_third 112 = .ok (.aload_n 0, 1) := by decide +kernel
theorem dX12_third_113 : decode cX12_third 113 = .ok (.getfield 281, 3) := by decide +kernel
theorem dX12_third_116 : decode cX12_third 116 = .ok (.iload_n 1, 1) := by decide +kernel
theorem dX12_third_117 : decode cX12_third 117 = .ok (.iconst 0, 1) := by decide +kernel
theorem dX12_third_118 : decode cX12_third 118 = .ok (.iastore, 1) := by decide +kernel
theorem dX12_third_119 : decode cX12_third 119 = .ok (.aload_n 0, 1) := by decide +kernel
theorem dX12_third_120 : decode cX12_third 120 = .ok (.getfield 438, 3) := by decide +kernel
theorem dX12_third_123 : decode cX12_third 123 = .ok (.bipush 14, 2) := by decide +kernel
theorem dX12_third_125 : decode cX12_third 125 = .ok (.iand, 1) := by decide +kernel
theorem dX12_third_126 : decode cX12_third 126 = .ok (.istore_n 2, 1) := by decide +kernel
theorem dX12_third_127 : decode cX12_third 127 = .ok (.iload_n 2, 1) := by decide +kernel
theorem dX12_third_128 : decode cX12_third 128 = .ok (.ifCond .ne 4, 3) := by decide +kernel
theorem dX12_third_131 : decode cX12_third 131 = .ok (.return_, 1) := by decide +kernel
theorem dX12_third_132 : decode cX12_third 132 = .ok (.aload_n 0, 1) := by decide +kernel
theorem dX12_third_133 : decode cX12_third 133 = .ok (.iload_n 1, 1) := by decide +kernel
theorem dX12_third_134 : decode cX12_third 134 = .ok (.invokevirtual 466, 3) := by decide +kernel
theorem dX12_third_137 : decode cX12_third 137 = .ok (.istore_n 3, 1) := by decide +kernel
theorem dX12_third_138 : decode cX12_third 138 = .ok (.sipush 4096, 3) := by decide +kernel
theorem dX12_third_141 : decode cX12_third 141 = .ok (.aload_n 0, 1) := by decide +kernel
theorem dX12_third_142 : decode cX12_third 142 = .ok (.getfield 281, 3) := by decide +kernel
theorem dX12_third_145 : decode cX12_third 145 = .ok (.iload_n 1, 1) := by decide +kernel
theorem dX12_third_146 : decode cX12_third 146 = .ok (.iaload, 1) := by decide +kernel
theorem dX12_third_147 : decode cX12_third 147 = .ok (.imul, 1) := by decide +kernel
theorem dX12_third_148 : decode cX12_third 148 = .ok (.aload_n 0, 1) := by decide +kernel
theorem dX12_third_149 : decode cX12_third 149 = .ok (.getfield 284, 3) := by decide +kernel
theorem dX12_third_152 : decode cX12_third 152 = .ok (.iload_n 1, 1) := by decide +kernel
theorem dX12_third_153 : decode cX12_third 153 = .ok (.iaload, 1) := by decide +kernel
theorem dX12_third_154 : decode cX12_third 154 = .ok (.iadd, 1) := by decide +kernel
theorem dX12_third_155 : decode cX12_third 155 = .ok (.istore 4, 2) := by decide +kernel
theorem dX12_third_157 : decode cX12_third 157 = .ok (.iload_n 2, 1) := by decide +kernel
theorem dX12_third_158 : decode cX12_third 158 = .ok (.iconst 4, 1) := by decide +kernel
theorem dX12_third_159 : decode cX12_third 159 = .ok (.if_icmp .ne 30, 3) := by decide +kernel
theorem dX12_third_162 : decode cX12_third 162 = .ok (.iload_n 3, 1) := by decide +kernel
theorem dX12_third_163 : decode cX12_third 163 = .ok (.aload_n 0, 1) := by decide +kernel
theorem dX12_third_164 : decode cX12_third 164 = .ok (.getfield 284, 3) := by decide +kernel
theorem dX12_third_167 : decode cX12_third 167 = .ok (.iload_n 1, 1) := by decide +kernel
theorem dX12_third_168 : decode cX12_third 168 = .ok (.iaload, 1) := by decide +kernel
theorem dX12_third_169 : decode cX12_third 169 = .ok (.imul, 1) := by decide +kernel
theorem dX12_third_170 : decode cX12_third 170 = .ok (.aload_n 0, 1) := by decide +kernel
theorem dX12_third_171 : decode cX12_third 171 = .ok (.getfield 281, 3) := by decide +kernel
theorem dX12_third_174 : decode cX12_third 174 = .ok (.iload_n 1, 1) := by decide +kernel
theorem dX12_third_175 : decode cX12_third 175 = .ok (.iaload, 1) := by decide +kernel
theorem dX12_third_176 : decode cX12_third 176 = .ok (.iadd, 1) := by decide +kernel
theorem dX12_third_177 : decode cX12_third 177 = .ok (.istore 4, 2) := by decide +kernel
theorem dX12_third_179 : decode cX12_third 179 = .ok (.aload_n 0, 1) := by decide +kernel
theorem dX12_third_180 : decode cX12_third 180 = .ok (.getfield 290, 3) := by decide +kernel
theorem dX12_third_183 : decode cX12_third 183 = .ok (.iload_n 1, 1) := by decide +kernel
theorem dX12_third_184 : decode cX12_third 184 = .ok (.iconst 0, 1) := by decide +kernel
theorem dX12_third_185 : decode cX12_third 185 = .ok (.iastore, 1) := by decide +kernel
theorem dX12_third_186 : decode cX12_third 186 = .ok (.goto 138, 3) := by decide +kernel
theorem dX12_third_189 : decode cX12_third 189 = .ok (.iload_n 2, 1) := by decide +kernel
theorem dX12_third_190 : decode cX12_third 190 = .ok (.bipush 6, 2) := by decide +kernel
theorem dX12_third_192 : decode cX12_third 192 = .ok (.if_icmp .ne 46, 3) := by decide +kernel
theorem dX12_third_195 : decode cX12_third 195 = .ok (.aload_n 0, 1) := by decide +kernel
theorem dX12_third_196 : decode cX12_third 196 = .ok (.getfield 281, 3) := by decide +kernel
theorem dX12_third_199 : decode cX12_third 199 = .ok (.iload_n 1, 1) := by decide +kernel
theorem dX12_third_200 : decode cX12_third 200 = .ok (.iaload, 1) := by decide +kernel
theorem dX12_third_201 : decode cX12_third 201 = .ok (.iload_n 3, 1) := by decide +kernel
theorem dX12_third_202 : decode cX12_third 202 = .ok (.if_icmp .lt 11, 3) := by decide +kernel
theorem dX12_third_205 : decode cX12_third 205 = .ok (.aload_n 0, 1) := by decide +kernel
theorem dX12_third_206 : decode cX12_third 206 = .ok (.getfield 290, 3) := by decide +kernel
theorem dX12_third_209 : decode cX12_third 209 = .ok (.iload_n 1, 1) := by decide +kernel
theorem dX12_third_210 : decode cX12_third 210 = .ok (.iconst 1, 1) := by decide +kernel
theorem dX12_third_211 : decode cX12_third 211 = .ok (.iastore, 1) := by decide +kernel
theorem dX12_third_212 : decode cX12_third 212 = .ok (.return_, 1) := by decide +kernel
theorem dX12_third_213 : decode cX12_third 213 = .ok (.iload 4, 2) := by decide +kernel
theorem dX12_third_215 : decode cX12_third 215 = .ok (.iload_n 3, 1) := by decide +kernel
theorem dX12_third_216 : decode cX12_third 216 = .ok (.irem, 1) := by decide +kernel
theorem dX12_third_217 : decode cX12_third 217 = .ok (.sipush 4096, 3) := by decide +kernel
theorem dX12_third_220 : decode cX12_third 220 = .ok (.imul, 1) := by decide +kernel
theorem dX12_third_221 : decode cX12_third 221 = .ok (.iload 4, 2) := by decide +kernel
theorem dX12_third_223 : decode cX12_third 223 = .ok (.iload_n 3, 1) := by decide +kernel
theorem dX12_third_224 : decode cX12_third 224 = .ok (.idiv, 1) := by decide +kernel
theorem dX12_third_225 : decode cX12_third 225 = .ok (.iadd, 1) := by decide +kernel
theorem dX12_third_226 : decode cX12_third 226 = .ok (.istore 4, 2) := by decide +kernel
theorem dX12_third_228 : decode cX12_third 228 = .ok (.aload_n 0, 1) := by decide +kernel
theorem dX12_third_229 : decode cX12_third 229 = .ok (.getfield 290, 3) := by decide +kernel
theorem dX12_third_232 : decode cX12_third 232 = .ok (.iload_n 1, 1) := by decide +kernel
theorem dX12_third_233 : decode cX12_third 233 = .ok (.iconst 0, 1) := by decide +kernel
theorem dX12_third_234 : decode cX12_third 234 = .ok (.iastore, 1) := by decide +kernel
theorem dX12_third_235 : decode cX12_third 235 = .ok (.goto 89, 3) := by decide +kernel
theorem dX12_third_238 : decode cX12_third 238 = .ok (.iload_n 3, 1) := by decide +kernel
theorem dX12_third_239 : decode cX12_third 239 = .ok (.bipush 31, 2) := by decide +kernel
theorem dX12_third_241 : decode cX12_third 241 = .ok (.iand, 1) := by decide +kernel
theorem dX12_third_242 : decode cX12_third 242 = .ok (.iconst 1, 1) := by decide +kernel
theorem dX12_third_243 : decode cX12_third 243 = .ok (.iadd, 1) := by decide +kernel
theorem dX12_third_244 : decode cX12_third 244 = .ok (.istore 5, 2) := by decide +kernel
theorem dX12_third_246 : decode cX12_third 246 = .ok (.iload 5, 2) := by decide +kernel
theorem dX12_third_248 : decode cX12_third 248 = .ok (.ifCond .le 76, 3) := by decide +kernel
theorem dX12_third_251 : decode cX12_third 251 = .ok (.iload_n 2, 1) := by decide +kernel
theorem dX12_third_252 : decode cX12_third 252 = .ok (.bipush 10, 2) := by decide +kernel
theorem dX12_third_254 : decode cX12_third 254 = .ok (.if_icmp .ne 27, 3) := by decide +kernel
theorem dX12_third_257 : decode cX12_third 257 = .ok (.aload_n 0, 1) := by decide +kernel
theorem dX12_third_258 : decode cX12_third 258 = .ok (.getfield 290, 3) := by decide +kernel
theorem dX12_third_261 : decode cX12_third 261 = .ok (.iload_n 1, 1) := by decide +kernel
theorem dX12_third_262 : decode cX12_third 262 = .ok (.iload 4, 2) := by decide +kernel
theorem dX12_third_264 : decode cX12_third 264 = .ok (.bipush 23, 2) := by decide +kernel
theorem dX12_third_266 : decode cX12_third 266 = .ok (.ishr, 1) := by decide +kernel
theorem dX12_third_267 : decode cX12_third 267 = .ok (.iastore, 1) := by decide +kernel
theorem dX12_third_268 : decode cX12_third 268 = .ok (.iload 4, 2) := by decide +kernel
theorem dX12_third_270 : decode cX12_third 270 = .ok (.iconst 1, 1) := by decide +kernel
theorem dX12_third_271 : decode cX12_third 271 = .ok (.ishl, 1) := by decide +kernel
theorem dX12_third_272 : decode cX12_third 272 = .ok (.ldc_w 468, 3) := by decide +kernel
theorem dX12_third_275 : decode cX12_third 275 = .ok (.iand, 1) := by decide +kernel
theorem dX12_third_276 : decode cX12_third 276 = .ok (.istore 4, 2) := by decide +kernel
theorem dX12_third_278 : decode cX12_third 278 = .ok (.goto 40, 3) := by decide +kernel
theorem dX12_third_281 : decode cX12_third 281 = .ok (.aload_n 0, 1) := by decide +kernel
theorem dX12_third_282 : decode cX12_third 282 = .ok (.getfield 290, 3) := by decide +kernel
theorem dX12_third_285 : decode cX12_third 285 = .ok (.iload_n 1, 1) := by decide +kernel
theorem dX12_third_286 : decode cX12_third 286 = .ok (.iload_n 2, 1) := by decide +kernel
theorem dX12_third_287 : decode cX12_third 287 = .ok (.bipush 12, 2) := by decide +kernel
theorem dX12_third_289 : decode cX12_third 289 = .ok (.if_icmp .ne 11, 3) := by decide +kernel
theorem dX12_third_292 : decode cX12_third 292 = .ok (.iload 4, 2) := by decide +kernel
theorem dX12_third_294 : decode cX12_third 294 = .ok (.bipush 23, 2) := by decide +kernel
theorem dX12_third_296 : decode cX12_third 296 = .ok (.ishr, 1) := by decide +kernel
theorem dX12_third_297 : decode cX12_third 297 = .ok (.goto 4, 3) := by decide +kernel
theorem dX12_third_300 : decode cX12_third 300 = .ok (.iconst 0, 1) := by decide +kernel
theorem dX12_third_301 : decode cX12_third 301 = .ok (.iastore, 1) := by decide +kernel
theorem dX12_third_302 : decode cX12_third 302 = .ok (.iload 4, 2) := by decide +kernel
theorem dX12_third_304 : decode cX12_third 304 = .ok (.iconst 1, 1) := by decide +kernel
theorem dX12_third_305 : decode cX12_third 305 = .ok (.ishr, 1) := by decide +kernel
theorem dX12_third_306 : decode cX12_third 306 = .ok (.aload_n 0, 1) := by decide +kernel
theorem dX12_third_307 : decode cX12_third 307 = .ok (.getfield 290, 3) := by decide +kernel
theorem dX12_third_310 : decode cX12_third 310 = .ok (.iload_n 1, 1) := by decide +kernel
theorem dX12_third_311 : decode cX12_third 311 = .ok (.iaload, 1) := by decide +kernel
theorem dX12_third_312 : decode cX12_third 312 = .ok (.bipush 23, 2) := by decide +kernel
theorem dX12_third_314 : decode cX12_third 314 = .ok (.ishl, 1) := by decide +kernel
theorem dX12_third_315 : decode cX12_third 315 = .ok (.ior, 1) := by decide +kernel
theorem dX12_third_316 : decode cX12_third 316 = .ok (.istore 4, 2) := by decide +kernel
theorem dX12_third_318 : decode cX12_third 318 = .ok (.iinc 5 (-1), 3) := by decide +kernel
theorem dX12_third_321 : decode cX12_third 321 = .ok (.goto (-75), 3) := by decide +kernel
theorem dX12_third_324 : decode cX12_third 324 = .ok (.aload_n 0, 1) := by decide +kernel
theorem dX12_third_325 : decode cX12_third 325 = .ok (.getfield 281, 3) := by decide +kernel
theorem dX12_third_328 : decode cX12_third 328 = .ok (.iload_n 1, 1) := by decide +kernel
theorem dX12_third_329 : decode cX12_third 329 = .ok (.iload 4, 2) := by decide +kernel
theorem dX12_third_331 : decode cX12_third 331 = .ok (.bipush 12, 2) := by decide +kernel
theorem dX12_third_333 : decode cX12_third 333 = .ok (.ishr, 1) := by decide +kernel
theorem dX12_third_334 : decode cX12_third 334 = .ok (.iastore, 1) := by decide +kernel
theorem dX12_third_335 : decode cX12_third 335 = .ok (.aload_n 0, 1) := by decide +kernel
theorem dX12_third_336 : decode cX12_third 336 = .ok (.getfield 284, 3) := by decide +kernel
theorem dX12_third_339 : decode cX12_third 339 = .ok (.iload_n 1, 1) := by decide +kernel
theorem dX12_third_340 : decode cX12_third 340 = .ok (.iload 4, 2) := by decide +kernel
theorem dX12_third_342 : decode cX12_third 342 = .ok (.sipush 4095, 3) := by decide +kernel
theorem dX12_third_345 : decode cX12_third 345 = .ok (.iand, 1) := by decide +kernel
theorem dX12_third_346 : decode cX12_third 346 = .ok (.iastore, 1) := by decide +kernel
theorem dX12_third_347 : decode cX12_third 347 = .ok (.return_, 1) := by decide +kernel
theorem dX12_device_0 : decode cX12_device 0 = .ok (.aload_n 0, 1) := by decide +kernel
theorem dX12_device_1 : decode cX12_device 1 = .ok (.getfield 438, 3) := by decide +kernel
theorem dX12_device_4 : decode cX12_device 4 = .ok (.lookupswitch 367 #[(3097, 100), (3098, 117), (3100, 141), (3102, 165), (3105, 191), (3108, 199), (3110, 199), (3343, 280), (3344, 234), (3360, 290), (3361, 290)], 100) := by decide +kernel
theorem dX12_device_104 : decode cX12_device 104 = .ok (.aload_n 0, 1) := by decide +kernel
theorem dX12_device_105 : decode cX12_device 105 = .ok (.getfield 302, 3) := by decide +kernel
theorem dX12_device_108 : decode cX12_device 108 = .ok (.iload_n 1, 1) := by decide +kernel
theorem dX12_device_109 : decode cX12_device 109 = .ok (.iaload, 1) := by decide +kernel
theorem dX12_device_110 : decode cX12_device 110 = .ok (.ifCond .le 261, 3) := by decide +kernel
theorem dX12_device_113 : decode cX12_device 113 = .ok (.aload_n 0, 1) := by decide +kernel
theorem dX12_device_114 : decode cX12_device 114 = .ok (.iload_n 1, 1) := by decide +kernel
theorem dX12_device_115 : decode cX12_device 115 = .ok (.invokevirtual 460, 3) := by decide +kernel
theorem dX12_device_118 : decode cX12_device 118 = .ok (.goto 253, 3) := by decide +kernel
theorem dX12_device_121 : decode cX12_device 121 = .ok (.aload_n 0, 1) := by decide +kernel
theorem dX12_device_122 : decode cX12_device 122 = .ok (.getfield 281, 3) := by decide +kernel
theorem dX12_device_125 : decode cX12_device 125 = .ok (.iload_n 1, 1) := by decide +kernel
theorem dX12_device_126 : decode cX12_device 126 = .ok (.iconst 0, 1) := by decide +kernel
theorem dX12_device_127 : decode cX12_device 127 = .ok (.iastore, 1) := by decide +kernel
theorem dX12_device_128 : decode cX12_device 128 = .ok (.aload_n 0, 1) := by decide +kernel
theorem dX12_device_129 : decode cX12_device 129 = .ok (.getfield 302, 3) := by decide +kernel
theorem dX12_device_132 : decode cX12_device 132 = .ok (.iload_n 1, 1) := by decide +kernel
theorem dX12_device_133 : decode cX12_device 133 = .ok (.iaload, 1) := by decide +kernel
theorem dX12_device_134 : decode cX12_device 134 = .ok (.ifCond .le 237, 3) := by decide +kernel
theorem dX12_device_137 : decode cX12_device 137 = .ok (.aload_n 0, 1) := by decide +kernel
theorem dX12_device_138 : decode cX12_device 138 = .ok (.iload_n 1, 1) := by decide +kernel
theorem dX12_device_139 : decode cX12_device 139 = .ok (.invokevirtual 469, 3) := by decide +kernel
theorem dX12_device_142 : decode cX12_device 142 = .ok (.goto 229, 3) := by decide +kernel
theorem dX12_device_145 : decode cX12_device 145 = .ok (.aload_n 0, 1) := by decide +kernel
theorem dX12_device_146 : decode cX12_device 146 = .ok (.getfield 281, 3) := by decide +kernel
theorem dX12_device_149 : decode cX12_device 149 = .ok (.iload_n 1, 1) := by decide +kernel
theorem dX12_device_150 : decode cX12_device 150 = .ok (.dup2, 1) := by decide +kernel
theorem dX12_device_151 : decode cX12_device 151 = .ok (.iaload, 1) := by decide +kernel
theorem dX12_device_152 : decode cX12_device 152 = .ok (.aload_n 0, 1) := by decide +kernel
theorem dX12_device_153 : decode cX12_device 153 = .ok (.getfield 299, 3) := by decide +kernel
theorem dX12_device_156 : decode cX12_device 156 = .ok (.iload_n 1, 1) := by decide +kernel
theorem dX12_device_157 : decode cX12_device 157 = .ok (.aaload, 1) := by decide +kernel
theorem dX12_device_158 : decode cX12_device 158 = .ok (.iconst 0, 1) := by decide +kernel
theorem dX12_device_159 : decode cX12_device 159 = .ok (.iaload, 1) := by decide +kernel
theorem dX12_device_160 : decode cX12_device 160 = .ok (.sipush 128, 3) := by decide +kernel
theorem dX12_device_163 : decode cX12_device 163 = .ok (.ior, 1) := by decide +kernel
theorem dX12_device_164 : decode cX12_device 164 = .ok (.ior, 1) := by decide +kernel
theorem dX12_device_165 : decode cX12_device 165 = .ok (.iastore, 1) := by decide +kernel
theorem dX12_device_166 : decode cX12_device 166 = .ok (.goto 205, 3) := by decide +kernel
theorem dX12_device_169 : decode cX12_device 169 = .ok (.aload_n 0, 1) := by decide +kernel
theorem dX12_device_170 : decode cX12_device 170 = .ok (.getfield 281, 3) := by decide +kernel
theorem dX12_device_173 : decode cX12_device 173 = .ok (.iload_n 1, 1) := by decide +kernel
theorem dX12_device_174 : decode cX12_device 174 = .ok (.aload_n 0, 1) := by decide +kernel
theorem dX12_device_175 : decode cX12_device 175 = .ok (.getfield 299, 3) := by decide +kernel
theorem dX12_device_178 : decode cX12_device 178 = .ok (.iload_n 1, 1) := by decide +kernel
theorem dX12_device_179 : decode cX12_device 179 = .ok (.aaload, 1) := by decide +kernel
theorem dX12_device_180 : decode cX12_device 180 = .ok (.iconst 0, 1) := by decide +kernel
theorem dX12_device_181 : decode cX12_device 181 = .ok (.iaload, 1) := by decide +kernel
theorem dX12_device_182 : decode cX12_device 182 = .ok (.sipush 128, 3) := by decide +kernel
theorem dX12_device_185 : decode cX12_device 185 = .ok (.ior, 1) := by decide +kernel
theorem dX12_device_186 : decode cX12_device 186 = .ok (.iastore, 1) := by decide +kernel
theorem dX12_device_187 : decode cX12_device 187 = .ok (.aload_n 0, 1) := by decide +kernel
theorem dX12_device_188 : decode cX12_device 188 = .ok (.iload_n 1, 1) := by decide +kernel
theorem dX12_device_189 : decode cX12_device 189 = .ok (.invokevirtual 469, 3) := by decide +kernel
theorem dX12_device_192 : decode cX12_device 192 = .ok (.goto 179, 3) := by decide +kernel
theorem dX12_device_195 : decode cX12_device 195 = .ok (.aload_n 0, 1) := by decide +kernel
theorem dX12_device_196 : decode cX12_device 196 = .ok (.iload_n 1, 1) := by decide +kernel
theorem dX12_device_197 : decode cX12_device 197 = .ok (.invokevirtual 460, 3) := by decide +kernel
theorem dX12_device_200 : decode cX12_device 200 = .ok (.goto 171, 3) := by decide +kernel
theorem dX12_device_203 : decode cX12_device 203 = .ok (.aload_n 0, 1) := by decide +kernel
theorem dX12_device_204 : decode cX12_device 204 = .ok (.getfield 308, 3) := by decide +kernel
theorem dX12_device_207 : decode cX12_device 207 = .ok (.iload_n 1, 1) := by decide +kernel
theorem dX12_device_208 : decode cX12_device 208 = .ok (.aaload, 1) := by decide +kernel
theorem dX12_device_209 : decode cX12_device 209 = .ok (.aload_n 0, 1) := by decide +kernel
theorem dX12_device_210 : decode cX12_device 210 = .ok (.getfield 311, 3) := by decide +kernel
theorem dX12_device_213 : decode cX12_device 213 = .ok (.iload_n 1, 1) := by decide +kernel
theorem dX12_device_214 : decode cX12_device 214 = .ok (.iaload, 1) := by decide +kernel
theorem dX12_device_215 : decode cX12_device 215 = .ok (.aload_n 0, 1) := by decide +kernel
theorem dX12_device_216 : decode cX12_device 216 = .ok (.getfield 281, 3) := by decide +kernel
theorem dX12_device_219 : decode cX12_device 219 = .ok (.iload_n 1, 1) := by decide +kernel
theorem dX12_device_220 : decode cX12_device 220 = .ok (.iaload, 1) := by decide +kernel
theorem dX12_device_221 : decode cX12_device 221 = .ok (.bipush 127, 2) := by decide +kernel
theorem dX12_device_223 : decode cX12_device 223 = .ok (.iand, 1) := by decide +kernel
theorem dX12_device_224 : decode cX12_device 224 = .ok (.iastore, 1) := by decide +kernel
theorem dX12_device_225 : decode cX12_device 225 = .ok (.aload_n 0, 1) := by decide +kernel
theorem dX12_device_226 : decode cX12_device 226 = .ok (.getfield 311, 3) := by decide +kernel
theorem dX12_device_229 : decode cX12_device 229 = .ok (.iload_n 1, 1) := by decide +kernel
theorem dX12_device_230 : decode cX12_device 230 = .ok (.dup2, 1) := by decide +kernel
theorem dX12_device_231 : decode cX12_device 231 = .ok (.iaload, 1) := by decide +kernel
theorem dX12_device_232 : decode cX12_device 232 = .ok (.iconst 1, 1) := by decide +kernel
theorem dX12_device_233 : decode cX12_device 233 = .ok (.iadd, 1) := by decide +kernel
theorem dX12_device_234 : decode cX12_device 234 = .ok (.iastore, 1) := by decide +kernel
theorem dX12_device_235 : decode cX12_device 235 = .ok (.goto 136, 3) := by decide +kernel
theorem dX12_device_238 : decode cX12_device 238 = .ok (.aload_n 0, 1) := by decide +kernel
theorem dX12_device_239 : decode cX12_device 239 = .ok (.getfield 281, 3) := by decide +kernel
theorem dX12_device_242 : decode cX12_device 242 = .ok (.iload_n 1, 1) := by decide +kernel
theorem dX12_device_243 : decode cX12_device 243 = .ok (.iaload, 1) := by decide +kernel
theorem dX12_device_244 : decode cX12_device 244 = .ok (.ifCond .le 30, 3) := by decide +kernel
theorem dX12_device_247 : decode cX12_device 247 = .ok (.aload_n 0, 1) := by decide +kernel
theorem dX12_device_248 : decode cX12_device 248 = .ok (.getfield 278, 3) := by decide +kernel
theorem dX12_device_251 : decode cX12_device 251 = .ok (.iload_n 1, 1) := by decide +kernel
theorem dX12_device_252 : decode cX12_device 252 = .ok (.iconst 4, 1) := by decide +kernel
theorem dX12_device_253 : decode cX12_device 253 = .ok (.iastore, 1) := by decide +kernel
theorem dX12_device_254 : decode cX12_device 254 = .ok (.aload_n 0, 1) := by decide +kernel
theorem dX12_device_255 : decode cX12_device 255 = .ok (.getfield 323, 3) := by decide +kernel
theorem dX12_device_258 : decode cX12_device 258 = .ok (.iload_n 1, 1) := by decide +kernel
theorem dX12_device_259 : decode cX12_device 259 = .ok (.aload_n 0, 1) := by decide +kernel
theorem dX12_device_260 : decode cX12_device 260 = .ok (.getfield 378, 3) := by decide +kernel
theorem dX12_device_263 : decode cX12_device 263 = .ok (.bipush 16, 2) := by decide +kernel
theorem dX12_device_265 : decode cX12_device 265 = .ok (.aload_n 0, 1) := by decide +kernel
theorem dX12_device_266 : decode cX12_device 266 = .ok (.getfield 281, 3) := by decide +kernel
theorem dX12_device_269 : decode cX12_device 269 = .ok (.iload_n 1, 1) := by decide +kernel
theorem dX12_device_270 : decode cX12_device 270 = .ok (.iaload, 1) := by decide +kernel
theorem dX12_device_271 : decode cX12_device 271 = .ok (.imul, 1) := by decide +kernel
theorem dX12_device_272 : decode cX12_device 272 = .ok (.iadd, 1) := by decide +kernel
theorem dX12_device_273 : decode cX12_device 273 = .ok (.iastore, 1) := by decide +kernel
theorem dX12_device_274 : decode cX12_device 274 = .ok (.aload_n 0, 1) := by decide +kernel
theorem dX12_device_275 : decode cX12_device 275 = .ok (.getfield 281, 3) := by decide +kernel
theorem dX12_device_278 : decode cX12_device 278 = .ok (.iload_n 1, 1) := by decide +kernel
theorem dX12_device_279 : decode cX12_device 279 = .ok (.iconst 0, 1) := by decide +kernel
theorem dX12_device_280 : decode cX12_device 280 = .ok (.iastore, 1) := by decide +kernel
theorem dX12_device_281 : decode cX12_device 281 = .ok (.goto 90, 3) := by decide +kernel
theorem dX12_device_284 : decode cX12_device 284 = .ok (.aload_n 0, 1) := by decide +kernel
theorem dX12_device_285 : decode cX12_device 285 = .ok (.getfield 281, 3) := by decide +kernel
theorem dX12_device_288 : decode cX12_device 288 = .ok (.iload_n 1, 1) := by decide +kernel
theorem dX12_device_289 : decode cX12_device 289 = .ok (.iload_n 1, 1) := by decide +kernel
theorem dX12_device_290 : decode cX12_device 290 = .ok (.iastore, 1) := by decide +kernel
theorem dX12_device_291 : decode cX12_device 291 = .ok (.goto 80, 3) := by decide +kernel
theorem dX12_device_294 : decode cX12_device 294 = .ok (.aload_n 0, 1) := by decide +kernel
theorem dX12_device_295 : decode cX12_device 295 = .ok (.getfield 278, 3) := by decide +kernel
theorem dX12_device_298 : decode cX12_device 298 = .ok (.iload_n 1, 1) := by decide +kernel
theorem dX12_device_299 : decode cX12_device 299 = .ok (.iconst 5, 1) := by decide +kernel
theorem dX12_device_300 : decode cX12_device 300 = .ok (.iastore, 1) := by decide +kernel
theorem dX12_device_301 : decode cX12_device 301 = .ok (.aload_n 0, 1) := by decide +kernel
theorem dX12_device_302 : decode cX12_device 302 = .ok (.getfield 335, 3) := by decide +kernel
theorem dX12_device_305 : decode cX12_device 305 = .ok (.iload_n 1, 1) := by decide +kernel
theorem dX12_device_306 : decode cX12_device 306 = .ok (.aload_n 0, 1) := by decide +kernel
theorem dX12_device_307 : decode cX12_device 307 = .ok (.getfield 438, 3) := by decide +kernel
theorem dX12_device_310 : decode cX12_device 310 = .ok (.sipush 3361, 3) := by decide +kernel
theorem dX12_device_313 : decode cX12_device 313 = .ok (.if_icmp .ne 7, 3) := by decide +kernel
theorem dX12_device_316 : decode cX12_device 316 = .ok (.iconst 1, 1) := by decide +kernel
theorem dX12_device_317 : decode cX12_device 317 = .ok (.goto 4, 3) := by decide +kernel
theorem dX12_device_320 : decode cX12_device 320 = .ok (.iconst 0, 1) := by decide +kernel
theorem dX12_device_321 : decode cX12_device 321 = .ok (.bastore, 1) := by decide +kernel
theorem dX12_device_322 : decode cX12_device 322 = .ok (.aload_n 0, 1) := by decide +kernel
theorem dX12_device_323 : decode cX12_device 323 = .ok (.getfield 332, 3) := by decide +kernel
theorem dX12_device_326 : decode cX12_device 326 = .ok (.iload_n 1, 1) := by decide +kernel
theorem dX12_device_327 : decode cX12_device 327 = .ok (.aload_n 0, 1) := by decide +kernel
theorem dX12_device_328 : decode cX12_device 328 = .ok (.getfield 281, 3) := by decide +kernel
theorem dX12_device_331 : decode cX12_device 331 = .ok (.iload_n 1, 1) := by decide +kernel
theorem dX12_device_332 : decode cX12_device 332 = .ok (.iaload, 1) := by decide +kernel
theorem dX12_device_333 : decode cX12_device 333 = .ok (.bipush 7, 2) := by decide +kernel
theorem dX12_device_335 : decode cX12_device 335 = .ok (.iand, 1) := by decide +kernel
theorem dX12_device_336 : decode cX12_device 336 = .ok (.iastore, 1) := by decide +kernel
theorem dX12_device_337 : decode cX12_device 337 = .ok (.aload_n 0, 1) := by decide +kernel
theorem dX12_device_338 : decode cX12_device 338 = .ok (.getfield 329, 3) := by decide +kernel
theorem dX12_device_341 : decode cX12_device 341 = .ok (.iload_n 1, 1) := by decide +kernel
theorem dX12_device_342 : decode cX12_device 342 = .ok (.aload_n 0, 1) := by decide +kernel
theorem dX12_device_343 : decode cX12_device 343 = .ok (.getfield 284, 3) := by decide +kernel
theorem dX12_device_346 : decode cX12_device 346 = .ok (.iload_n 1, 1) := by decide +kernel
theorem dX12_device_347 : decode cX12_device 347 = .ok (.iaload, 1) := by decide +kernel
theorem dX12_device_348 : decode cX12_device 348 = .ok (.iastore, 1) := by decide +kernel
theorem dX12_device_349 : decode cX12_device 349 = .ok (.aload_n 0, 1) := by decide +kernel
theorem dX12_device_350 : decode cX12_device 350 = .ok (.getfield 326, 3) := by decide +kernel
theorem dX12_device_353 : decode cX12_device 353 = .ok (.iload_n 1, 1) := by decide +kernel
theorem dX12_device_354 : decode cX12_device 354 = .ok (.aload_n 0, 1) := by decide +kernel
theorem dX12_device_355 : decode cX12_device 355 = .ok (.getfield 472, 3) := by decide +kernel
theorem dX12_device_358 : decode cX12_device 358 = .ok (.iastore, 1) := by decide +kernel
theorem dX12_device_359 : decode cX12_device 359 = .ok (.aload_n 0, 1) := by decide +kernel
theorem dX12_device_360 : decode cX12_device 360 = .ok (.dup, 1) := by decide +kernel
theorem dX12_device_361 : decode cX12_device 361 = .ok (.getfield 472, 3) := by decide +kernel
theorem dX12_device_364 : decode cX12_device 364 = .ok (.iconst 1, 1) := by decide +kernel
theorem dX12_device_365 : decode cX12_device 365 = .ok (.iadd, 1) := by decide +kernel
theorem dX12_device_366 : decode cX12_device 366 = .ok (.putfield 472, 3) := by decide +kernel
theorem dX12_device_369 : decode cX12_device 369 = .ok (.iconst 0, 1) := by decide +kernel
theorem dX12_device_370 : decode cX12_device 370 = .ok (.ireturn, 1) := by decide +kernel
theorem dX12_device_371 : decode cX12_device 371 = .ok (.iconst 1, 1) := by decide +kernel
theorem dX12_device_372 : decode cX12_device 372 = .ok (.ireturn, 1) := by decide +kernel
theorem dX12_goes_0 : decode cX12_goes 0 = .ok (.aload_n 0, 1) := by decide +kernel
theorem dX12_goes_1 : decode cX12_goes 1 = .ok (.getfield 302, 3) := by decide +kernel
theorem dX12_goes_4 : decode cX12_goes 4 = .ok (.iload_n 1, 1) := by decide +kernel
theorem dX12_goes_5 : decode cX12_goes 5 = .ok (.dup2, 1) := by decide +kernel
theorem dX12_goes_6 : decode cX12_goes 6 = .ok (.iaload, 1) := by decide +kernel
theorem dX12_goes_7 : decode cX12_goes 7 = .ok (.iconst 1, 1) := by decide +kernel
theorem dX12_goes_8 : decode cX12_goes 8 = .ok (.isub, 1) := by decide +kernel
theorem dX12_goes_9 : decode cX12_goes 9 = .ok (.iastore, 1) := by decide +kernel
theorem dX12_goes_10 : decode cX12_goes 10 = .ok (.iconst 0, 1) := by decide +kernel
theorem dX12_goes_11 : decode cX12_goes 11 = .ok (.istore_n 2, 1) := by decide +kernel
theorem dX12_goes_12 : decode cX12_goes 12 = .ok (.iload_n 2, 1) := by decide +kernel
theorem dX12_goes_13 : decode cX12_goes 13 = .ok (.aload_n 0, 1) := by decide +kernel
theorem dX12_goes_14 : decode cX12_goes 14 = .ok (.getfield 302, 3) := by decide +kernel
theorem dX12_goes_17 : decode cX12_goes 17 = .ok (.iload_n 1, 1) := by decide +kernel
theorem dX12_goes_18 : decode cX12_goes 18 = .ok (.iaload, 1) := by decide +kernel
theorem dX12_goes_19 : decode cX12_goes 19 = .ok (.if_icmp .ge 27, 3) := by decide +kernel
theorem dX12_goes_22 : decode cX12_goes 22 = .ok (.aload_n 0, 1) := by decide +kernel
theorem dX12_goes_23 : decode cX12_goes 23 = .ok (.getfield 299, 3) := by decide +kernel
theorem dX12_goes_26 : decode cX12_goes 26 = .ok (.iload_n 1, 1) := by decide +kernel
theorem dX12_goes_27 : decode cX12_goes 27 = .ok (.aaload, 1) := by decide +kernel
theorem dX12_goes_28 : decode cX12_goes 28 = .ok (.iload_n 2, 1) := by decide +kernel
theorem dX12_goes_29 : decode cX12_goes 29 = .ok (.aload_n 0, 1) := by decide +kernel
theorem dX12_goes_30 : decode cX12_goes 30 = .ok (.getfield 299, 3) := by decide +kernel
theorem dX12_goes_33 : decode cX12_goes 33 = .ok (.iload_n 1, 1) := by decide +kernel
theorem dX12_goes_34 : decode cX12_goes 34 = .ok (.aaload, 1) := by decide +kernel
theorem dX12_goes_35 : decode cX12_goes 35 = .ok (.iload_n 2, 1) := by decide +kernel
theorem dX12_goes_36 : decode cX12_goes 36 = .ok (.iconst 1, 1) := by decide +kernel
theorem dX12_goes_37 : decode cX12_goes 37 = .ok (.iadd, 1) := by decide +kernel
theorem dX12_goes_38 : decode cX12_goes 38 = .ok (.iaload, 1) := by decide +kernel
theorem dX12_goes_39 : decode cX12_goes 39 = .ok (.iastore, 1) := by decide +kernel
theorem dX12_goes_40 : decode cX12_goes 40 = .ok (.iinc 2 1, 3) := by decide +kernel
theorem dX12_goes_43 : decode cX12_goes 43 = .ok (.goto (-31), 3) := by decide +kernel
theorem dX12_goes_46 : decode cX12_goes 46 = .ok (.return_, 1) := by decide +kernel
theorem dX12_user_0 : decode cX12_user 0 = .ok (.aload_n 0, 1) := by decide +kernel
theorem dX12_user_1 : decode cX12_user 1 = .ok (.iload_n 1, 1) := by decide +kernel
theorem dX12_user_2 : decode cX12_user 2 = .ok (.invokevirtual 341, 3) := by decide +kernel
theorem dX12_user_5 : decode cX12_user 5 = .ok (.ifCond .ne 5, 3) := by decide +kernel
theorem dX12_user_8 : decode cX12_user 8 = .ok (.iconst (-1), 1) := by decide +kernel
theorem dX12_user_9 : decode cX12_user 9 = .ok (.ireturn, 1) := by decide +kernel
theorem dX12_user_10 : decode cX12_user 10 = .ok (.iload_n 2, 1) := by decide +kernel
theorem dX12_user_11 : decode cX12_user 11 = .ok (.tableswitch 225 0 14 #[73, 80, 87, 94, 101, 108, 115, 122, 129, 136, 143, 173, 180, 187, 208], 73) := by decide +kernel
theorem dX12_user_84 : decode cX12_user 84 = .ok (.aload_n 0, 1) := by decide +kernel
theorem dX12_user_85 : decode cX12_user 85 = .ok (.getfield 278, 3) := by decide +kernel
theorem dX12_user_88 : decode cX12_user 88 = .ok (.iload_n 1, 1) := by decide +kernel
theorem dX12_user_89 : decode cX12_user 89 = .ok (.iaload, 1) := by decide +kernel
theorem dX12_user_90 : decode cX12_user 90 = .ok (.ireturn, 1) := by decide +kernel
theorem dX12_user_91 : decode cX12_user 91 = .ok (.aload_n 0, 1) := by decide +kernel
theorem dX12_user_92 : decode cX12_user 92 = .ok (.getfield 287, 3) := by decide +kernel
theorem dX12_user_95 : decode cX12_user 95 = .ok (.iload_n 1, 1) := by decide +kernel
theorem dX12_user_96 : decode cX12_user 96 = .ok (.iaload, 1) := by decide +kernel
theorem dX12_user_97 : decode cX12_user 97 = .ok (.ireturn, 1) := by decide +kernel
theorem dX12_user_98 : decode cX12_user 98 = .ok (.aload_n 0, 1) := by decide +kernel
theorem dX12_user_99 : decode cX12_user 99 = .ok (.getfield 281, 3) := by decide +kernel
theorem dX12_user_102 : decode cX12_user 102 = .ok (.iload_n 1, 1) := by decide +kernel
theorem dX12_user_103 : decode cX12_user 103 = .ok (.iaload, 1) := by decide +kernel
theorem dX12_user_104 : decode cX12_user 104 = .ok (.ireturn, 1) := by decide +kernel
theorem dX12_user_105 : decode cX12_user 105 = .ok (.aload_n 0, 1) := by decide +kernel
theorem dX12_user_106 : decode cX12_user 106 = .ok (.getfield 290, 3) := by decide +kernel
theorem dX12_user_109 : decode cX12_user 109 = .ok (.iload_n 1, 1) := by decide +kernel
theorem dX12_user_110 : decode cX12_user 110 = .ok (.iaload, 1) := by decide +kernel
theorem dX12_user_111 : decode cX12_user 111 = .ok (.ireturn, 1) := by decide +kernel
theorem dX12_user_112 : decode cX12_user 112 = .ok (.aload_n 0, 1) := by decide +kernel
theorem dX12_user_113 : decode cX12_user 113 = .ok (.getfield 284, 3) := by decide +kernel
theorem dX12_user_116 : decode cX12_user 116 = .ok (.iload_n 1, 1) := by decide +kernel
theorem dX12_user_117 : decode cX12_user 117 = .ok (.iaload, 1) := by decide +kernel
theorem dX12_user_118 : decode cX12_user 118 = .ok (.ireturn, 1) := by decide +kernel
theorem dX12_user_119 : decode cX12_user 119 = .ok (.aload_n 0, 1) := by decide +kernel
theorem dX12_user_120 : decode cX12_user 120 = .ok (.getfield 296, 3) := by decide +kernel
theorem dX12_user_123 : decode cX12_user 123 = .ok (.iload_n 1, 1) := by decide +kernel
theorem dX12_user_124 : decode cX12_user 124 = .ok (.iaload, 1) := by decide +kernel
theorem dX12_user_125 : decode cX12_user 125 = .ok (.ireturn, 1) := by decide +kernel
theorem dX12_user_126 : decode cX12_user 126 = .ok (.aload_n 0, 1) := by decide +kernel
theorem dX12_user_127 : decode cX12_user 127 = .ok (.getfield 302, 3) := by decide +kernel
theorem dX12_user_130 : decode cX12_user 130 = .ok (.iload_n 1, 1) := by decide +kernel
theorem dX12_user_131 : decode cX12_user 131 = .ok (.iaload, 1) := by decide +kernel
theorem dX12_user_132 : decode cX12_user 132 = .ok (.ireturn, 1) := by decide +kernel
theorem dX12_user_133 : decode cX12_user 133 = .ok (.aload_n 0, 1) := by decide +kernel
theorem dX12_user_134 : decode cX12_user 134 = .ok (.getfield 311, 3) := by decide +kernel
theorem dX12_user_137 : decode cX12_user 137 = .ok (.iload_n 1, 1) := by decide +kernel
theorem dX12_user_138 : decode cX12_user 138 = .ok (.iaload, 1) := by decide +kernel
end
section
theorem dX12_user_139 : decode cX12_user 139 = .ok (.ireturn, 1) := by decide +kernel
theorem dX12_user_140 : decode cX12_user 140 = .ok (.aload_n 0, 1) := by decide +kernel
theorem dX12_user_141 : decode cX12_user 141 = .ok (.getfield 317, 3) := by decide +kernel
theorem dX12_user_144 : decode cX12_user 144 = .ok (.iload_n 1, 1) := by decide +kernel
theorem dX12_user_145 : decode cX12_user 145 = .ok (.iaload, 1) := by decide +kernel
theorem dX12_user_146 : decode cX12_user 146 = .ok (.ireturn, 1) := by decide +kernel
theorem dX12_user_147 : decode cX12_user 147 = .ok (.aload_n 0, 1) := by decide +kernel
theorem dX12_user_148 : decode cX12_user 148 = .ok (.getfield 275, 3) := by decide +kernel
theorem dX12_user_151 : decode cX12_user 151 = .ok (.iload_n 1, 1) := by decide +kernel
theorem dX12_user_152 : decode cX12_user 152 = .ok (.iaload, 1) := by decide +kernel
theorem dX12_user_153 : decode cX12_user 153 = .ok (.ireturn, 1) := by decide +kernel
theorem dX12_user_154 : decode cX12_user 154 = .ok (.iconst 0, 1) := by decide +kernel
theorem dX12_user_155 : decode cX12_user 155 = .ok (.istore_n 3, 1) := by decide +kernel
theorem dX12_user_156 : decode cX12_user 156 = .ok (.iload_n 3, 1) := by decide +kernel
theorem dX12_user_157 : decode cX12_user 157 = .ok (.aload_n 0, 1) := by decide +kernel
theorem dX12_user_158 : decode cX12_user 158 = .ok (.getfield 338, 3) := by decide +kernel
theorem dX12_user_161 : decode cX12_user 161 = .ok (.if_icmp .ge 21, 3) := by decide +kernel
theorem dX12_user_164 : decode cX12_user 164 = .ok (.aload_n 0, 1) := by decide +kernel
theorem dX12_user_165 : decode cX12_user 165 = .ok (.getfield 234, 3) := by decide +kernel
theorem dX12_user_168 : decode cX12_user 168 = .ok (.iload_n 3, 1) := by decide +kernel
theorem dX12_user_169 : decode cX12_user 169 = .ok (.iaload, 1) := by decide +kernel
theorem dX12_user_170 : decode cX12_user 170 = .ok (.iload_n 1, 1) := by decide +kernel
theorem dX12_user_171 : decode cX12_user 171 = .ok (.if_icmp .ne 5, 3) := by decide +kernel
theorem dX12_user_174 : decode cX12_user 174 = .ok (.iload_n 3, 1) := by decide +kernel
theorem dX12_user_175 : decode cX12_user 175 = .ok (.ireturn, 1) := by decide +kernel
theorem dX12_user_176 : decode cX12_user 176 = .ok (.iinc 3 1, 3) := by decide +kernel
theorem dX12_user_179 : decode cX12_user 179 = .ok (.goto (-23), 3) := by decide +kernel
theorem dX12_user_182 : decode cX12_user 182 = .ok (.iconst (-1), 1) := by decide +kernel
theorem dX12_user_183 : decode cX12_user 183 = .ok (.ireturn, 1) := by decide +kernel
theorem dX12_user_184 : decode cX12_user 184 = .ok (.aload_n 0, 1) := by decide +kernel
theorem dX12_user_185 : decode cX12_user 185 = .ok (.getfield 305, 3) := by decide +kernel
theorem dX12_user_188 : decode cX12_user 188 = .ok (.iload_n 1, 1) := by decide +kernel
theorem dX12_user_189 : decode cX12_user 189 = .ok (.iaload, 1) := by decide +kernel
theorem dX12_user_190 : decode cX12_user 190 = .ok (.ireturn, 1) := by decide +kernel
theorem dX12_user_191 : decode cX12_user 191 = .ok (.aload_n 0, 1) := by decide +kernel
theorem dX12_user_192 : decode cX12_user 192 = .ok (.getfield 293, 3) := by decide +kernel
theorem dX12_user_195 : decode cX12_user 195 = .ok (.iload_n 1, 1) := by decide +kernel
theorem dX12_user_196 : decode cX12_user 196 = .ok (.iaload, 1) := by decide +kernel
theorem dX12_user_197 : decode cX12_user 197 = .ok (.ireturn, 1) := by decide +kernel
theorem dX12_user_198 : decode cX12_user 198 = .ok (.aload_n 0, 1) := by decide +kernel
theorem dX12_user_199 : decode cX12_user 199 = .ok (.getfield 278, 3) := by decide +kernel
theorem dX12_user_202 : decode cX12_user 202 = .ok (.iload_n 1, 1) := by decide +kernel
theorem dX12_user_203 : decode cX12_user 203 = .ok (.iaload, 1) := by decide +kernel
theorem dX12_user_204 : decode cX12_user 204 = .ok (.iconst 4, 1) := by decide +kernel
theorem dX12_user_205 : decode cX12_user 205 = .ok (.if_icmp .ne 12, 3) := by decide +kernel
theorem dX12_user_208 : decode cX12_user 208 = .ok (.aload_n 0, 1) := by decide +kernel
theorem dX12_user_209 : decode cX12_user 209 = .ok (.getfield 323, 3) := by decide +kernel
theorem dX12_user_212 : decode cX12_user 212 = .ok (.iload_n 1, 1) := by decide +kernel
theorem dX12_user_213 : decode cX12_user 213 = .ok (.iaload, 1) := by decide +kernel
theorem dX12_user_214 : decode cX12_user 214 = .ok (.goto 4, 3) := by decide +kernel
theorem dX12_user_217 : decode cX12_user 217 = .ok (.iconst (-1), 1) := by decide +kernel
theorem dX12_user_218 : decode cX12_user 218 = .ok (.ireturn, 1) := by decide +kernel
theorem dX12_user_219 : decode cX12_user 219 = .ok (.aload_n 0, 1) := by decide +kernel
theorem dX12_user_220 : decode cX12_user 220 = .ok (.getfield 237, 3) := by decide +kernel
theorem dX12_user_223 : decode cX12_user 223 = .ok (.iload_n 1, 1) := by decide +kernel
theorem dX12_user_224 : decode cX12_user 224 = .ok (.if_icmp .ne 10, 3) := by decide +kernel
theorem dX12_user_227 : decode cX12_user 227 = .ok (.aload_n 0, 1) := by decide +kernel
theorem dX12_user_228 : decode cX12_user 228 = .ok (.getfield 432, 3) := by decide +kernel
theorem dX12_user_231 : decode cX12_user 231 = .ok (.goto 4, 3) := by decide +kernel
theorem dX12_user_234 : decode cX12_user 234 = .ok (.iconst (-1), 1) := by decide +kernel
theorem dX12_user_235 : decode cX12_user 235 = .ok (.ireturn, 1) := by decide +kernel
theorem dX12_user_236 : decode cX12_user 236 = .ok (.iconst (-1), 1) := by decide +kernel
theorem dX12_user_237 : decode cX12_user 237 = .ok (.ireturn, 1) := by decide +kernel
theorem dX12_look__0 : decode cX12_look_ 0 = .ok (.iload_n 1, 1) := by decide +kernel
theorem dX12_look__1 : decode cX12_look_ 1 = .ok (.tableswitch 165 0 12 #[67, 72, 77, 82, 98, 114, 130, 135, 140, 145, 150, 155, 160], 67) := by decide +kernel
theorem dX12_look__68 : decode cX12_look_ 68 = .ok (.aload_n 0, 1) := by decide +kernel
theorem dX12_look__69 : decode cX12_look_ 69 = .ok (.getfield 378, 3) := by decide +kernel
theorem dX12_look__72 : decode cX12_look_ 72 = .ok (.ireturn, 1) := by decide +kernel
theorem dX12_look__73 : decode cX12_look_ 73 = .ok (.aload_n 0, 1) := by decide +kernel
theorem dX12_look__74 : decode cX12_look_ 74 = .ok (.getfield 237, 3) := by decide +kernel
theorem dX12_look__77 : decode cX12_look_ 77 = .ok (.ireturn, 1) := by decide +kernel
theorem dX12_look__78 : decode cX12_look_ 78 = .ok (.aload_n 0, 1) := by decide +kernel
theorem dX12_look__79 : decode cX12_look_ 79 = .ok (.getfield 344, 3) := by decide +kernel
theorem dX12_look__82 : decode cX12_look_ 82 = .ok (.ireturn, 1) := by decide +kernel
theorem dX12_look__83 : decode cX12_look_ 83 = .ok (.aload_n 0, 1) := by decide +kernel
theorem dX12_look__84 : decode cX12_look_ 84 = .ok (.getfield 344, 3) := by decide +kernel
theorem dX12_look__87 : decode cX12_look_ 87 = .ok (.ifCond .ne 7, 3) := by decide +kernel
theorem dX12_look__90 : decode cX12_look_ 90 = .ok (.iconst (-1), 1) := by decide +kernel
theorem dX12_look__91 : decode cX12_look_ 91 = .ok (.goto 7, 3) := by decide +kernel
theorem dX12_look__94 : decode cX12_look_ 94 = .ok (.aload_n 0, 1) := by decide +kernel
theorem dX12_look__95 : decode cX12_look_ 95 = .ok (.getfield 347, 3) := by decide +kernel
theorem dX12_look__98 : decode cX12_look_ 98 = .ok (.ireturn, 1) := by decide +kernel
theorem dX12_look__99 : decode cX12_look_ 99 = .ok (.aload_n 0, 1) := by decide +kernel
theorem dX12_look__100 : decode cX12_look_ 100 = .ok (.getfield 344, 3) := by decide +kernel
theorem dX12_look__103 : decode cX12_look_ 103 = .ok (.ifCond .ne 7, 3) := by decide +kernel
theorem dX12_look__106 : decode cX12_look_ 106 = .ok (.iconst 0, 1) := by decide +kernel
theorem dX12_look__107 : decode cX12_look_ 107 = .ok (.goto 7, 3) := by decide +kernel
theorem dX12_look__110 : decode cX12_look_ 110 = .ok (.aload_n 0, 1) := by decide +kernel
theorem dX12_look__111 : decode cX12_look_ 111 = .ok (.getfield 393, 3) := by decide +kernel
theorem dX12_look__114 : decode cX12_look_ 114 = .ok (.ireturn, 1) := by decide +kernel
theorem dX12_look__115 : decode cX12_look_ 115 = .ok (.aload_n 0, 1) := by decide +kernel
theorem dX12_look__116 : decode cX12_look_ 116 = .ok (.getfield 344, 3) := by decide +kernel
theorem dX12_look__119 : decode cX12_look_ 119 = .ok (.ifCond .ne 7, 3) := by decide +kernel
theorem dX12_look__122 : decode cX12_look_ 122 = .ok (.iconst (-1), 1) := by decide +kernel
theorem dX12_look__123 : decode cX12_look_ 123 = .ok (.goto 7, 3) := by decide +kernel
theorem dX12_look__126 : decode cX12_look_ 126 = .ok (.aload_n 0, 1) := by decide +kernel
theorem dX12_look__127 : decode cX12_look_ 127 = .ok (.getfield 396, 3) := by decide +kernel
theorem dX12_look__130 : decode cX12_look_ 130 = .ok (.ireturn, 1) := by decide +kernel
theorem dX12_look__131 : decode cX12_look_ 131 = .ok (.aload_n 0, 1) := by decide +kernel
theorem dX12_look__132 : decode cX12_look_ 132 = .ok (.getfield 408, 3) := by decide +kernel
theorem dX12_look__135 : decode cX12_look_ 135 = .ok (.ireturn, 1) := by decide +kernel
theorem dX12_look__136 : decode cX12_look_ 136 = .ok (.aload_n 0, 1) := by decide +kernel
theorem dX12_look__137 : decode cX12_look_ 137 = .ok (.getfield 405, 3) := by decide +kernel
theorem dX12_look__140 : decode cX12_look_ 140 = .ok (.ireturn, 1) := by decide +kernel
theorem dX12_look__141 : decode cX12_look_ 141 = .ok (.aload_n 0, 1) := by decide +kernel
theorem dX12_look__142 : decode cX12_look_ 142 = .ok (.getfield 429, 3) := by decide +kernel
theorem dX12_look__145 : decode cX12_look_ 145 = .ok (.ireturn, 1) := by decide +kernel
theorem dX12_look__146 : decode cX12_look_ 146 = .ok (.aload_n 0, 1) := by decide +kernel
theorem dX12_look__147 : decode cX12_look_ 147 = .ok (.getfield 338, 3) := by decide +kernel
theorem dX12_look__150 : decode cX12_look_ 150 = .ok (.ireturn, 1) := by decide +kernel
theorem dX12_look__151 : decode cX12_look_ 151 = .ok (.aload_n 0, 1) := by decide +kernel
theorem dX12_look__152 : decode cX12_look_ 152 = .ok (.getfield 372, 3) := by decide +kernel
theorem dX12_look__155 : decode cX12_look_ 155 = .ok (.ireturn, 1) := by decide +kernel
theorem dX12_look__156 : decode cX12_look_ 156 = .ok (.aload_n 0, 1) := by decide +kernel
theorem dX12_look__157 : decode cX12_look_ 157 = .ok (.getfield 7, 3) := by decide +kernel
theorem dX12_look__160 : decode cX12_look_ 160 = .ok (.ireturn, 1) := by decide +kernel
theorem dX12_look__161 : decode cX12_look_ 161 = .ok (.aload_n 0, 1) := by decide +kernel
theorem dX12_look__162 : decode cX12_look_ 162 = .ok (.getfield 411, 3) := by decide +kernel
theorem dX12_look__165 : decode cX12_look_ 165 = .ok (.ireturn, 1) := by decide +kernel
theorem dX12_look__166 : decode cX12_look_ 166 = .ok (.iconst (-1), 1) := by decide +kernel
theorem dX12_look__167 : decode cX12_look_ 167 = .ok (.ireturn, 1) := by decide +kernel
theorem dX12_word___0 : decode cX12_word__ 0 = .ok (.aload_n 0, 1) := by decide +kernel
theorem dX12_word___1 : decode cX12_word__ 1 = .ok (.iload_n 1, 1) := by decide +kernel
theorem dX12_word___2 : decode cX12_word__ 2 = .ok (.invokevirtual 341, 3) := by decide +kernel
theorem dX12_word___5 : decode cX12_word__ 5 = .ok (.ifCond .eq 10, 3) := by decide +kernel
theorem dX12_word___8 : decode cX12_word__ 8 = .ok (.iload_n 2, 1) := by decide +kernel
theorem dX12_word___9 : decode cX12_word__ 9 = .ok (.invokestatic 359, 3) := by decide +kernel
theorem dX12_word___12 : decode cX12_word__ 12 = .ok (.ifCond .ne 5, 3) := by decide +kernel
theorem dX12_word___15 : decode cX12_word__ 15 = .ok (.iconst (-1), 1) := by decide +kernel
theorem dX12_word___16 : decode cX12_word__ 16 = .ok (.ireturn, 1) := by decide +kernel
theorem dX12_word___17 : decode cX12_word__ 17 = .ok (.aload_n 0, 1) := by decide +kernel
theorem dX12_word___18 : decode cX12_word__ 18 = .ok (.getfield 275, 3) := by decide +kernel
theorem dX12_word___21 : decode cX12_word__ 21 = .ok (.iload_n 1, 1) := by decide +kernel
theorem dX12_word___22 : decode cX12_word__ 22 = .ok (.iaload, 1) := by decide +kernel
theorem dX12_word___23 : decode cX12_word__ 23 = .ok (.iconst (-1), 1) := by decide +kernel
theorem dX12_word___24 : decode cX12_word__ 24 = .ok (.if_icmp .ne 14, 3) := by decide +kernel
theorem dX12_word___27 : decode cX12_word__ 27 = .ok (.aload_n 0, 1) := by decide +kernel
theorem dX12_word___28 : decode cX12_word__ 28 = .ok (.getfield 260, 3) := by decide +kernel
theorem dX12_word___31 : decode cX12_word__ 31 = .ok (.iload_n 1, 1) := by decide +kernel
theorem dX12_word___32 : decode cX12_word__ 32 = .ok (.aaload, 1) := by decide +kernel
theorem dX12_word___33 : decode cX12_word__ 33 = .ok (.iload_n 2, 1) := by decide +kernel
theorem dX12_word___34 : decode cX12_word__ 34 = .ok (.iaload, 1) := by decide +kernel
theorem dX12_word___35 : decode cX12_word__ 35 = .ok (.goto 16, 3) := by decide +kernel
theorem dX12_word___38 : decode cX12_word__ 38 = .ok (.aload_n 0, 1) := by decide +kernel
theorem dX12_word___39 : decode cX12_word__ 39 = .ok (.getfield 257, 3) := by decide +kernel
theorem dX12_word___42 : decode cX12_word__ 42 = .ok (.aload_n 0, 1) := by decide +kernel
theorem dX12_word___43 : decode cX12_word__ 43 = .ok (.getfield 275, 3) := by decide +kernel
theorem dX12_word___46 : decode cX12_word__ 46 = .ok (.iload_n 1, 1) := by decide +kernel
theorem dX12_word___47 : decode cX12_word__ 47 = .ok (.iaload, 1) := by decide +kernel
theorem dX12_word___48 : decode cX12_word__ 48 = .ok (.aaload, 1) := by decide +kernel
theorem dX12_word___49 : decode cX12_word__ 49 = .ok (.iload_n 2, 1) := by decide +kernel
theorem dX12_word___50 : decode cX12_word__ 50 = .ok (.iaload, 1) := by decide +kernel
theorem dX12_word___51 : decode cX12_word__ 51 = .ok (.ireturn, 1) := by decide +kernel
theorem dX12_core_0 : decode cX12_core 0 = .ok (.iload_n 1, 1) := by decide +kernel
theorem dX12_core_1 : decode cX12_core 1 = .ok (.iconst 0, 1) := by decide +kernel
theorem dX12_core_2 : decode cX12_core 2 = .ok (.aload_n 0, 1) := by decide +kernel
theorem dX12_core_3 : decode cX12_core 3 = .ok (.getfield 246, 3) := by decide +kernel
theorem dX12_core_6 : decode cX12_core 6 = .ok (.iconst 1, 1) := by decide +kernel
theorem dX12_core_7 : decode cX12_core 7 = .ok (.isub, 1) := by decide +kernel
theorem dX12_core_8 : decode cX12_core 8 = .ok (.invokestatic 15, 3) := by decide +kernel
theorem dX12_core_11 : decode cX12_core 11 = .ok (.ifCond .eq 21, 3) := by decide +kernel
theorem dX12_core_14 : decode cX12_core 14 = .ok (.iload_n 2, 1) := by decide +kernel
theorem dX12_core_15 : decode cX12_core 15 = .ok (.invokestatic 359, 3) := by decide +kernel
theorem dX12_core_18 : decode cX12_core 18 = .ok (.ifCond .eq 14, 3) := by decide +kernel
theorem dX12_core_21 : decode cX12_core 21 = .ok (.aload_n 0, 1) := by decide +kernel
theorem dX12_core_22 : decode cX12_core 22 = .ok (.getfield 257, 3) := by decide +kernel
theorem dX12_core_25 : decode cX12_core 25 = .ok (.iload_n 1, 1) := by decide +kernel
theorem dX12_core_26 : decode cX12_core 26 = .ok (.aaload, 1) := by decide +kernel
theorem dX12_core_27 : decode cX12_core 27 = .ok (.iload_n 2, 1) := by decide +kernel
theorem dX12_core_28 : decode cX12_core 28 = .ok (.iaload, 1) := by decide +kernel
theorem dX12_core_29 : decode cX12_core 29 = .ok (.goto 4, 3) := by decide +kernel
theorem dX12_core_32 : decode cX12_core 32 = .ok (.iconst (-1), 1) := by decide +kernel
theorem dX12_core_33 : decode cX12_core 33 = .ok (.ireturn, 1) := by decide +kernel
theorem dX12_drum_0 : decode cX12_drum 0 = .ok (.aload_n 0, 1) := by decide +kernel
theorem dX12_drum_1 : decode cX12_drum 1 = .ok (.iload_n 1, 1) := by decide +kernel
theorem dX12_drum_2 : decode cX12_drum 2 = .ok (.invokevirtual 341, 3) := by decide +kernel
theorem dX12_drum_5 : decode cX12_drum 5 = .ok (.ifCond .eq 21, 3) := by decide +kernel
theorem dX12_drum_8 : decode cX12_drum 8 = .ok (.iload_n 2, 1) := by decide +kernel
theorem dX12_drum_9 : decode cX12_drum 9 = .ok (.invokestatic 359, 3) := by decide +kernel
theorem dX12_drum_12 : decode cX12_drum 12 = .ok (.ifCond .eq 14, 3) := by decide +kernel
theorem dX12_drum_15 : decode cX12_drum 15 = .ok (.aload_n 0, 1) := by decide +kernel
theorem dX12_drum_16 : decode cX12_drum 16 = .ok (.getfield 260, 3) := by decide +kernel
theorem dX12_drum_19 : decode cX12_drum 19 = .ok (.iload_n 1, 1) := by decide +kernel
theorem dX12_drum_20 : decode cX12_drum 20 = .ok (.aaload, 1) := by decide +kernel
theorem dX12_drum_21 : decode cX12_drum 21 = .ok (.iload_n 2, 1) := by decide +kernel
theorem dX12_drum_22 : decode cX12_drum 22 = .ok (.iaload, 1) := by decide +kernel
theorem dX12_drum_23 : decode cX12_drum 23 = .ok (.goto 4, 3) := by decide +kernel
theorem dX12_drum_26 : decode cX12_drum 26 = .ok (.iconst (-1), 1) := by decide +kernel
theorem dX12_drum_27 : decode cX12_drum 27 = .ok (.ireturn, 1) := by decide +kernel
theorem dX12_slot_0 : decode cX12_slot 0 = .ok (.iload_n 1, 1) := by decide +kernel
theorem dX12_slot_1 : decode cX12_slot 1 = .ok (.iconst 0, 1) := by decide +kernel
theorem dX12_slot_2 : decode cX12_slot 2 = .ok (.aload_n 0, 1) := by decide +kernel
theorem dX12_slot_3 : decode cX12_slot 3 = .ok (.getfield 246, 3) := by decide +kernel
theorem dX12_slot_6 : decode cX12_slot 6 = .ok (.iconst 1, 1) := by decide +kernel
theorem dX12_slot_7 : decode cX12_slot 7 = .ok (.isub, 1) := by decide +kernel
theorem dX12_slot_8 : decode cX12_slot 8 = .ok (.invokestatic 15, 3) := by decide +kernel
theorem dX12_slot_11 : decode cX12_slot 11 = .ok (.ifCond .ne 5, 3) := by decide +kernel
theorem dX12_slot_14 : decode cX12_slot 14 = .ok (.iconst (-1), 1) := by decide +kernel
theorem dX12_slot_15 : decode cX12_slot 15 = .ok (.ireturn, 1) := by decide +kernel
theorem dX12_slot_16 : decode cX12_slot 16 = .ok (.iload_n 2, 1) := by decide +kernel
theorem dX12_slot_17 : decode cX12_slot 17 = .ok (.tableswitch 64 0 2 #[27, 34, 49], 27) := by decide +kernel
theorem dX12_slot_44 : decode cX12_slot 44 = .ok (.aload_n 0, 1) := by decide +kernel
theorem dX12_slot_45 : decode cX12_slot 45 = .ok (.getfield 266, 3) := by decide +kernel
theorem dX12_slot_48 : decode cX12_slot 48 = .ok (.iload_n 1, 1) := by decide +kernel
theorem dX12_slot_49 : decode cX12_slot 49 = .ok (.iaload, 1) := by decide +kernel
theorem dX12_slot_50 : decode cX12_slot 50 = .ok (.ireturn, 1) := by decide +kernel
theorem dX12_slot_51 : decode cX12_slot 51 = .ok (.aload_n 0, 1) := by decide +kernel
theorem dX12_slot_52 : decode cX12_slot 52 = .ok (.getfield 269, 3) := by decide +kernel
theorem dX12_slot_55 : decode cX12_slot 55 = .ok (.iload_n 1, 1) := by decide +kernel
theorem dX12_slot_56 : decode cX12_slot 56 = .ok (.baload, 1) := by decide +kernel
theorem dX12_slot_57 : decode cX12_slot 57 = .ok (.ifCond .eq 7, 3) := by decide +kernel
theorem dX12_slot_60 : decode cX12_slot 60 = .ok (.iconst 1, 1) := by decide +kernel
theorem dX12_slot_61 : decode cX12_slot 61 = .ok (.goto 4, 3) := by decide +kernel
theorem dX12_slot_64 : decode cX12_slot 64 = .ok (.iconst 0, 1) := by decide +kernel
theorem dX12_slot_65 : decode cX12_slot 65 = .ok (.ireturn, 1) := by decide +kernel
theorem dX12_slot_66 : decode cX12_slot 66 = .ok (.aload_n 0, 1) := by decide +kernel
theorem dX12_slot_67 : decode cX12_slot 67 = .ok (.getfield 272, 3) := by decide +kernel
theorem dX12_slot_70 : decode cX12_slot 70 = .ok (.iload_n 1, 1) := by decide +kernel
theorem dX12_slot_71 : decode cX12_slot 71 = .ok (.baload, 1) := by decide +kernel
theorem dX12_slot_72 : decode cX12_slot 72 = .ok (.ifCond .eq 7, 3) := by decide +kernel
theorem dX12_slot_75 : decode cX12_slot 75 = .ok (.iconst 1, 1) := by decide +kernel
theorem dX12_slot_76 : decode cX12_slot 76 = .ok (.goto 4, 3) := by decide +kernel
theorem dX12_slot_79 : decode cX12_slot 79 = .ok (.iconst 0, 1) := by decide +kernel
theorem dX12_slot_80 : decode cX12_slot 80 = .ok (.ireturn, 1) := by decide +kernel
theorem dX12_slot_81 : decode cX12_slot 81 = .ok (.iconst (-1), 1) := by decide +kernel
theorem dX12_slot_82 : decode cX12_slot 82 = .ok (.ireturn, 1) := by decide +kernel
theorem dX12_block_0 : decode cX12_block 0 = .ok (.aload_n 0, 1) := by decide +kernel
theorem dX12_block_1 : decode cX12_block 1 = .ok (.iload_n 1, 1) := by decide +kernel
theorem dX12_block_2 : decode cX12_block 2 = .ok (.invokevirtual 341, 3) := by decide +kernel
theorem dX12_block_5 : decode cX12_block 5 = .ok (.ifCond .eq 40, 3) := by decide +kernel
theorem dX12_block_8 : decode cX12_block 8 = .ok (.iload_n 2, 1) := by decide +kernel
theorem dX12_block_9 : decode cX12_block 9 = .ok (.iconst 0, 1) := by decide +kernel
theorem dX12_block_10 : decode cX12_block 10 = .ok (.bipush 7, 2) := by decide +kernel
theorem dX12_block_12 : decode cX12_block 12 = .ok (.invokestatic 15, 3) := by decide +kernel
theorem dX12_block_15 : decode cX12_block 15 = .ok (.ifCond .eq 30, 3) := by decide +kernel
theorem dX12_block_18 : decode cX12_block 18 = .ok (.iload_n 3, 1) := by decide +kernel
theorem dX12_block_19 : decode cX12_block 19 = .ok (.iconst 0, 1) := by decide +kernel
theorem dX12_block_20 : decode cX12_block 20 = .ok (.bipush 127, 2) := by decide +kernel
theorem dX12_block_22 : decode cX12_block 22 = .ok (.invokestatic 15, 3) := by decide +kernel
theorem dX12_block_25 : decode cX12_block 25 = .ok (.ifCond .eq 20, 3) := by decide +kernel
theorem dX12_block_28 : decode cX12_block 28 = .ok (.aload_n 0, 1) := by decide +kernel
theorem dX12_block_29 : decode cX12_block 29 = .ok (.getfield 263, 3) := by decide +kernel
theorem dX12_block_32 : decode cX12_block 32 = .ok (.iload_n 1, 1) := by decide +kernel
theorem dX12_block_33 : decode cX12_block 33 = .ok (.aaload, 1) := by decide +kernel
theorem dX12_block_34 : decode cX12_block 34 = .ok (.sipush 128, 3) := by decide +kernel
theorem dX12_block_37 : decode cX12_block 37 = .ok (.iload_n 2, 1) := by decide +kernel
theorem dX12_block_38 : decode cX12_block 38 = .ok (.imul, 1) := by decide +kernel
theorem dX12_block_39 : decode cX12_block 39 = .ok (.iload_n 3, 1) := by decide +kernel
theorem dX12_block_40 : decode cX12_block 40 = .ok (.iadd, 1) := by decide +kernel
theorem dX12_block_41 : decode cX12_block 41 = .ok (.iaload, 1) := by decide +kernel
theorem dX12_block_42 : decode cX12_block 42 = .ok (.goto 4, 3) := by decide +kernel
theorem dX12_block_45 : decode cX12_block 45 = .ok (.iconst (-1), 1) := by decide +kernel
theorem dX12_block_46 : decode cX12_block 46 = .ok (.ireturn, 1) := by decide +kernel
theorem dX12_paper_0 : decode cX12_paper 0 = .ok (.aload_n 0, 1) := by decide +kernel
theorem dX12_paper_1 : decode cX12_paper 1 = .ok (.iload_n 1, 1) := by decide +kernel
theorem dX12_paper_2 : decode cX12_paper 2 = .ok (.invokevirtual 341, 3) := by decide +kernel
theorem dX12_paper_5 : decode cX12_paper 5 = .ok (.ifCond .eq 36, 3) := by decide +kernel
theorem dX12_paper_8 : decode cX12_paper 8 = .ok (.iload_n 2, 1) := by decide +kernel
theorem dX12_paper_9 : decode cX12_paper 9 = .ok (.iconst 0, 1) := by decide +kernel
theorem dX12_paper_10 : decode cX12_paper 10 = .ok (.aload_n 0, 1) := by decide +kernel
theorem dX12_paper_11 : decode cX12_paper 11 = .ok (.getfield 317, 3) := by decide +kernel
theorem dX12_paper_14 : decode cX12_paper 14 = .ok (.iload_n 1, 1) := by decide +kernel
theorem dX12_paper_15 : decode cX12_paper 15 = .ok (.iaload, 1) := by decide +kernel
theorem dX12_paper_16 : decode cX12_paper 16 = .ok (.sipush 500, 3) := by decide +kernel
theorem dX12_paper_19 : decode cX12_paper 19 = .ok (.invokestatic 475, 3) := by decide +kernel
theorem dX12_paper_22 : decode cX12_paper 22 = .ok (.iconst 1, 1) := by decide +kernel
theorem dX12_paper_23 : decode cX12_paper 23 = .ok (.isub, 1) := by decide +kernel
theorem dX12_paper_24 : decode cX12_paper 24 = .ok (.invokestatic 15, 3) := by decide +kernel
theorem dX12_paper_27 : decode cX12_paper 27 = .ok (.ifCond .eq 14, 3) := by decide +kernel
theorem dX12_paper_30 : decode cX12_paper 30 = .ok (.aload_n 0, 1) := by decide +kernel
theorem dX12_paper_31 : decode cX12_paper 31 = .ok (.getfield 314, 3) := by decide +kernel
theorem dX12_paper_34 : decode cX12_paper 34 = .ok (.iload_n 1, 1) := by decide +kernel
theorem dX12_paper_35 : decode cX12_paper 35 = .ok (.aaload, 1) := by decide +kernel
theorem dX12_paper_36 : decode cX12_paper 36 = .ok (.iload_n 2, 1) := by decide +kernel
theorem dX12_paper_37 : decode cX12_paper 37 = .ok (.iaload, 1) := by decide +kernel
theorem dX12_paper_38 : decode cX12_paper 38 = .ok (.goto 4, 3) := by decide +kernel
theorem dX12_paper_41 : decode cX12_paper 41 = .ok (.iconst (-1), 1) := by decide +kernel
theorem dX12_paper_42 : decode cX12_paper 42 = .ok (.ireturn, 1) := by decide +kernel
end
section
/-! LAYER 0: an abstract memory whose cells have numbers 0 .. n-1 (cell i lies at address B + i), abstract values, and the judgement V = 'the machine, at this pc with these locals, this stack and this memory, comes to the answer that was promised'. A row an instruction, over the kit's rows. Needs: lw_tbl (PART A), vwCl (names). -/
abbrev AV : Type := Int32 ⊕ Int64 ⊕ Option Nat ⊕ Nat
abbrev aI (x : Int32) : AV := Sum.inl x
abbrev aJ (x : Int64) : AV := Sum.inr (Sum.inl x)
abbrev aR (r : Option Nat) : AV := Sum.inr (Sum.inr (Sum.inl r))
abbrev aX (k : Nat) : AV := Sum.inr (Sum.inr (Sum.inr k))
/-- the base of the made cells; the addresses of the cells that were there (constants); the law's script: its length, its ints -/
abbrev BX : Type := Nat × (Nat → Nat) × Nat × (Nat → Int32)
/-- element types of the arrays, by their tags -/
def arrTys : List FieldType := [.int, .long, .boolean, .array .int, .object "ShareEight$User", .object "ShareEight$Slot"]
def av_v (B : BX) (a : AV) : Value := match a with
  | .inl x => .int x
  | .inr (.inl x) => .long x
  | .inr (.inr (.inl r)) => va_rf (r.map (fun i => B.1 + i))
  | .inr (.inr (.inr k)) => .ref (B.2.1 k)
def av_w (a : AV) : Bool := match a with
  | .inl _ => false
  | .inr (.inl _) => true
  | .inr (.inr _) => false
theorem av_cat (B : BX) (a : AV) : ((av_v B a).category == 2) = av_w a := by
  rcases a with x | x | r | k
  · rfl
  · rfl
  · cases r <;> rfl
  · rfl
theorem av_cat1 (B : BX) (a : AV) (h : av_w a = false) : (av_v B a).category = 1 := by
  rcases a with x | x | r | k
  · rfl
  · cases h
  · cases r <;> rfl
  · rfl
/-- arrays of ints (all small kinds too), of longs, of references -/
abbrev AA : Type := (Nat → Int32) ⊕ (Nat → Int64) ⊕ (Nat → Option Nat)
/-- a cell: an array (place of its type in the list of array types, length, contents), or an object (its class's number, its fields) -/
abbrev ACl : Type := (Nat × Nat × AA) ⊕ (Nat × List AV)
abbrev Mem : Type := Nat × (Nat → ACl)
/-- the base, the classes, the array classes -/
abbrev CG : Type := BX × va_G × List (ClassId × FieldType)
def aa_c (B : BX) (a : AA) : (Nat → Int32) ⊕ (Nat → Int64) ⊕ (Nat → UInt32) ⊕ (Nat → UInt64) ⊕ (Nat → Option Nat) := match a with
  | .inl f => .inl f
  | .inr (.inl f) => .inr (.inl f)
  | .inr (.inr f) => .inr (.inr (.inr (.inr (fun j => (f j).map (fun i => B.1 + i)))))
def ac_c (g : CG) (e : ACl) : va_E := match e with
  | .inl a => .inl ((g.2.2.getD a.1 default).1, a.2.1, aa_c g.1 a.2.2)
  | .inr o => .inr (o.1, o.2.map (av_v g.1))
def hw (g : CG) (μ : Mem) : va_W := (List.range μ.1).map (fun i => (g.1.1 + i, ac_c g (μ.2 i)))
theorem hw_at (g : CG) (μ : Mem) {i : Nat} (h : i < μ.1) : (hw g μ)[i]? = some (g.1.1 + i, ac_c g (μ.2 i)) := by
  simp [hw, List.getElem?_map, List.getElem?_range h]
theorem hw_len (g : CG) (μ : Mem) : (hw g μ).length = μ.1 := by simp [hw]
theorem hw_set (g : CG) (μ : Mem) {i : Nat} (e : ACl) : (hw g μ).set i (g.1.1 + i, ac_c g e) = hw g (μ.1, va_up μ.2 i e) := by
  apply List.ext_getElem?
  intro j
  by_cases hj : j < μ.1
  · rw [hw_at g (μ.1, va_up μ.2 i e) hj, List.getElem?_set]
    by_cases hij : i = j
    · subst hij
      simp [hw_len, hj, va_up]
    · rw [if_neg hij, hw_at g μ hj]
      simp [va_up, Ne.symm hij]
  · rw [List.getElem?_eq_none (by rw [List.length_set, hw_len]; omega), List.getElem?_eq_none (by rw [hw_len]; show μ.1 ≤ j; omega)]
theorem hw_D (g : CG) (μ : Mem) : va_D (fun q => g.1.1 ≤ q) (hw g μ) := by
  refine ⟨fun i j p q hi hj h => ?_, fun k q hk => ?_⟩
  · have h1 : i < μ.1 := by rw [← hw_len g μ]; exact (List.getElem?_eq_some_iff.mp hi).1
    have h2 : j < μ.1 := by rw [← hw_len g μ]; exact (List.getElem?_eq_some_iff.mp hj).1
    rw [hw_at g μ h1] at hi
    rw [hw_at g μ h2] at hj
    cases hi; cases hj
    have : g.1.1 + i = g.1.1 + j := h
    omega
  · have h1 : k < μ.1 := by rw [← hw_len g μ]; exact (List.getElem?_eq_some_iff.mp hk).1
    rw [hw_at g μ h1] at hk
    cases hk
    exact Nat.le_add_right _ _
abbrev Hold (g : CG) (μ : Mem) (H : Heap) : Prop := va_P g.2.1 vwCl (hw g μ) H
-- locals
abbrev LV : Type := List (Nat × AV)
def lvm (B : BX) (lv : LV) : List (Nat × Value) := lv.map (fun q => (q.1, av_v B q.2))
def lvg (lv : LV) (i : Nat) : Option AV := match lv with
  | [] => none
  | q :: t => if q.1 = i then some q.2 else lvg t i
def lvs (lv : LV) (i : Nat) (v : AV) : LV := (i, v) :: lv.filter (fun q => !(q.1 == i) && !(q.1 + 1 == i && av_w q.2))
def lvs2 (lv : LV) (i : Nat) (v : AV) : LV := (i, v) :: lv.filter (fun q => !(q.1 == i) && (!(q.1 == i + 1) && !(q.1 + 1 == i && av_w q.2)))
def lvle (a : LV) (b : LV) : Prop := match a with
  | [] => True
  | q :: t => lvg b q.1 = some q.2 ∧ lvle t b
theorem lvg_mem {lv : LV} {i : Nat} {v : AV} (h : lvg lv i = some v) : (i, v) ∈ lv := by
  induction lv with
  | nil => cases h
  | cons q t ih =>
    unfold lvg at h
    by_cases hq : q.1 = i
    · rw [if_pos hq] at h
      cases h
      rw [← hq]
      exact List.mem_cons_self
    · rw [if_neg hq] at h
      exact List.mem_cons_of_mem _ (ih h)
theorem lvg_at {B : BX} {ls : Array Slot} {nL : Nat} {lv : LV} (h : lv_has ls nL (lvm B lv)) {i : Nat} {v : AV} (hv : lvg lv i = some v) : ls[i]? = some (.val (av_v B v)) :=
  h.2.2 (i, av_v B v) (List.mem_map.mpr ⟨(i, v), lvg_mem hv, rfl⟩)
theorem lvm_le {B : BX} {ls : Array Slot} {nL : Nat} {a b : LV} (h : lv_has ls nL (lvm B b)) (hl : lvle a b) : lv_has ls nL (lvm B a) := by
  refine ⟨h.1, h.2.1, fun q hq => ?_⟩
  obtain ⟨p, hp, rfl⟩ := List.mem_map.mp hq
  have : lvg b p.1 = some p.2 := by
    clear hq
    induction a with
    | nil => cases hp
    | cons c t ih =>
      rcases List.mem_cons.mp hp with rfl | hp
      · exact hl.1
      · exact ih hl.2 hp
  exact lvg_at h this
theorem lvm_s (B : BX) (lv : LV) (i : Nat) (v : AV) : (i, av_v B v) :: (lvm B lv).filter (fun q => !(q.1 == i) && !(q.1 + 1 == i && q.2.category == 2)) = lvm B (lvs lv i v) := by
  simp [lvm, lvs, List.filter_map, Function.comp_def, av_cat]
theorem lvm_s2 (B : BX) (lv : LV) (i : Nat) (v : AV) : (i, av_v B v) :: (lvm B lv).filter (fun q => !(q.1 == i) && (!(q.1 == i + 1) && !(q.1 + 1 == i && q.2.category == 2))) = lvm B (lvs2 lv i v) := by
  simp [lvm, lvs2, List.filter_map, Function.comp_def, av_cat]
end
section
/-! THE CELLS THAT ARE THERE BEFORE: two static arrays, four texts (by program out of the Statement) -/
def x_fv : List Int32 := [0, 0, 0, 0, 0, 0, 512, 1024, 1536, 2048, 2560, 256, 0, 3584, 3712, 3648, 3616, 3600, 3592, 3588, 3594, 3590, 3586, 3585, 3617, 3664, 3904, 3872, 3912, 3880, 3856, 3864, 3848, 3844, 3842, 3857, 3905, 3921, 3845, 3847, 3851, 3853, 3855, 3097, 3098, 3100, 3102, 3105, 3110, 3344, 3343, 3360, 3361]
def x_cd : List Int32 := [0, 512, 1024, 1536, 2048, 2560, 256, 0, 3584, 3712, 3648, 3616, 3600, 3592, 3588, 3594, 3590, 3586, 3585, 3617, 3664, 3904, 3872, 3912, 3880, 3856, 3864, 3848, 3844, 3842, 3857, 3905, 3921, 3845, 3847, 3851, 3853, 3855, 3097, 3098, 3100, 3102, 3105, 3110, 3344, 3343, 3360, 3361]
def x_tx0 : String := "PAGE DECIMAL OCTAL ZBLOCK TEXT AND TAD ISZ DCA JMS JMP I Z NOP CLA CLL CMA CML RAR RAL RTR RTL BSW IAC CIA STL SMA SZA SPA SNA SNL SZL SKP OSR HLT MQL MQA SWP MUY DVI SHL ASR LSR KSF KCC KRS KRB TSF TLS SLEEP WHO RDB WRB "
def x_by0 : List Int32 := [80, 65, 71, 69, 32, 68, 69, 67, 73, 77, 65, 76, 32, 79, 67, 84, 65, 76, 32, 90, 66, 76, 79, 67, 75, 32, 84, 69, 88, 84, 32, 65, 78, 68, 32, 84, 65, 68, 32, 73, 83, 90, 32, 68, 67, 65, 32, 74, 77, 83, 32, 74, 77, 80, 32, 73, 32, 90, 32, 78, 79, 80, 32, 67, 76, 65, 32, 67, 76, 76, 32, 67, 77, 65, 32, 67, 77, 76, 32, 82, 65, 82, 32, 82, 65, 76, 32, 82, 84, 82, 32, 82, 84, 76, 32, 66, 83, 87, 32, 73, 65, 67, 32, 67, 73, 65, 32, 83, 84, 76, 32, 83, 77, 65, 32, 83, 90, 65, 32, 83, 80, 65, 32, 83, 78, 65, 32, 83, 78, 76, 32, 83, 90, 76, 32, 83, 75, 80, 32, 79, 83, 82, 32, 72, 76, 84, 32, 77, 81, 76, 32, 77, 81, 65, 32, 83, 87, 80, 32, 77, 85, 89, 32, 68, 86, 73, 32, 83, 72, 76, 32, 65, 83, 82, 32, 76, 83, 82, 32, 75, 83, 70, 32, 75, 67, 67, 32, 75, 82, 83, 32, 75, 82, 66, 32, 84, 83, 70, 32, 84, 76, 83, 32, 83, 76, 69, 69, 80, 32, 87, 72, 79, 32, 82, 68, 66, 32, 87, 82, 66, 32]
def x_tx1 : String := ",*=+-!&.()[];$"
def x_by1 : List Int32 := [44, 42, 61, 43, 45, 33, 38, 46, 40, 41, 91, 93, 59, 36]
def x_tx2 : String := "AND TAD ISZ DCA JMS JMP I Z NOP CLA CLL CMA CML RAR RAL RTR RTL BSW IAC CIA STL SMA SZA SPA SNA SNL SZL SKP OSR HLT MQL MQA SWP MUY DVI SHL ASR LSR KSF KCC KRS KRB TSF TLS SLEEP WHO RDB WRB "
def x_by2 : List Int32 := [65, 78, 68, 32, 84, 65, 68, 32, 73, 83, 90, 32, 68, 67, 65, 32, 74, 77, 83, 32, 74, 77, 80, 32, 73, 32, 90, 32, 78, 79, 80, 32, 67, 76, 65, 32, 67, 76, 76, 32, 67, 77, 65, 32, 67, 77, 76, 32, 82, 65, 82, 32, 82, 65, 76, 32, 82, 84, 82, 32, 82, 84, 76, 32, 66, 83, 87, 32, 73, 65, 67, 32, 67, 73, 65, 32, 83, 84, 76, 32, 83, 77, 65, 32, 83, 90, 65, 32, 83, 80, 65, 32, 83, 78, 65, 32, 83, 78, 76, 32, 83, 90, 76, 32, 83, 75, 80, 32, 79, 83, 82, 32, 72, 76, 84, 32, 77, 81, 76, 32, 77, 81, 65, 32, 83, 87, 80, 32, 77, 85, 89, 32, 68, 86, 73, 32, 83, 72, 76, 32, 65, 83, 82, 32, 76, 83, 82, 32, 75, 83, 70, 32, 75, 67, 67, 32, 75, 82, 83, 32, 75, 82, 66, 32, 84, 83, 70, 32, 84, 76, 83, 32, 83, 76, 69, 69, 80, 32, 87, 72, 79, 32, 82, 68, 66, 32, 87, 82, 66, 32]
def x_tx3 : String := "PAGE DECIMAL OCTAL ZBLOCK TEXT "
def x_by3 : List Int32 := [80, 65, 71, 69, 32, 68, 69, 67, 73, 77, 65, 76, 32, 79, 67, 84, 65, 76, 32, 90, 66, 76, 79, 67, 75, 32, 84, 69, 88, 84, 32]
def x_len : List Nat := [221, 14, 190, 31]
def x_byt : List (List Int32) := [x_by0, x_by1, x_by2, x_by3]
def Ext (g : CG) (U : State) : Prop :=
  va_Z "ShareEight$Names" "FIXED_VALUES" "[I" (.ref (g.1.2.1 0)) (fun q => g.1.1 ≤ q) U U.heap ∧
  va_T .int (g.1.2.1 0) 53 (fun j => .int (x_fv.getD j 0)) (fun q => g.1.1 ≤ q) U U.heap ∧
  va_Z "ShareEightModel" "CODES" "[I" (.ref (g.1.2.1 1)) (fun q => g.1.1 ≤ q) U U.heap ∧
  va_T .int (g.1.2.1 1) 48 (fun j => .int (x_cd.getD j 0)) (fun q => g.1.1 ≤ q) U U.heap ∧
  va_Z "java/lang/String" "COMPACT_STRINGS" "Z" (.int 1) (fun q => g.1.1 ≤ q) U U.heap ∧
  vk_S 4 x_len x_byt (fun i => g.1.2.1 (10 + i)) (fun i => g.1.2.1 (20 + i)) (fun q => g.1.1 ≤ q) U U.heap ∧
  va_T .int (g.1.2.1 2) g.1.2.2.1 (fun j => .int (g.1.2.2.2 j)) (fun q => g.1.1 ≤ q) U U.heap ∧
  (va_Z "jdk/internal/util/Preconditions" "SIOOBE_FORMATTER" "Ljava/util/function/BiFunction;" .null (fun q => g.1.1 ≤ q) U U.heap ∨ va_Z "jdk/internal/util/Preconditions" "SIOOBE_FORMATTER" "Ljava/util/function/BiFunction;" (.ref (g.1.2.1 30)) (fun q => g.1.1 ≤ q) U U.heap) ∧
  vk_R "ShareEight$Names" 32 x_tx0 (g.1.2.1 10) U ∧
  vk_R "ShareEight$Tokens" 89 x_tx1 (g.1.2.1 11) U ∧
  vk_R "ShareEightModel" 67 x_tx1 (g.1.2.1 11) U ∧
  vk_R "ShareEightModel" 101 x_tx2 (g.1.2.1 12) U ∧
  vk_R "ShareEightModel" 107 x_tx3 (g.1.2.1 13) U
theorem ext_mv {g : CG} {u U : State} (h : Ext g u) (hA : u.vm.Alike U.vm) (hR : ∀ own k tx a, vk_R own k tx a u → vk_R own k tx a U) (hk : ∀ q : Nat, q < u.heap.size → ¬ g.1.1 ≤ q → U.heap[q]? = u.heap[q]?) : Ext g U :=
  ⟨((h.1).moved hA).kept hk, ((h.2.1).moved hA).kept hk, ((h.2.2.1).moved hA).kept hk, ((h.2.2.2.1).moved hA).kept hk, ((h.2.2.2.2.1).moved hA).kept hk, ((h.2.2.2.2.2.1).moved hA).kept hk, ((h.2.2.2.2.2.2.1).moved hA).kept hk, (h.2.2.2.2.2.2.2.1).imp (fun z => (z.moved hA).kept hk) (fun z => (z.moved hA).kept hk), hR _ _ _ _ h.2.2.2.2.2.2.2.2.1, hR _ _ _ _ h.2.2.2.2.2.2.2.2.2.1, hR _ _ _ _ h.2.2.2.2.2.2.2.2.2.2.1, hR _ _ _ _ h.2.2.2.2.2.2.2.2.2.2.2.1, hR _ _ _ _ h.2.2.2.2.2.2.2.2.2.2.2.2⟩
theorem ext_warm {g : CG} {s U : State} (h : Ext g s) (hW : s.WarmedH U.vm) (hk : ∀ q : Nat, q < s.heap.size → ¬ g.1.1 ≤ q → U.heap[q]? = s.heap[q]?) : Ext g U := ext_mv h hW.alike (fun _ _ _ _ z => z.warm hW) hk
theorem ext_blind {g : CG} {U : State} (h : Ext g U) (f : JFrame) (mk : MethodId) (a : Array Value) : Ext g (U.calling f mk a) := ext_mv h (Vm.Alike.refl U.vm) (fun _ _ _ _ z => z.same rfl) (fun _ _ _ => rfl)
-- the words that every call carries, and the nest's
def goodW (w : Cond) : Bool := (w.onTables && w.keeps) || (match w with | .arrayClass _ => true | _ => false)
def nestW (w : Cond) : Bool := match w with
  | .fieldLinkNest .. => true
  | .methodLinkNest .. => true
  | .arrayOver _ => true
  | _ => false
def lw_ok : List Cond := lw_tbl.filter goodW
def lw_ns : List Cond := lw_tbl.filter nestW
theorem ok_good : GoodIn lw_ok lw_ok := by
  intro w hw
  refine ⟨hw, ?_⟩
  have h := (List.mem_filter.mp hw).2
  unfold goodW at h
  rw [Bool.or_eq_true] at h
  rcases h with h | h
  · exact Or.inl h
  · cases w <;> first | (exact Or.inr ⟨_, rfl⟩) | (cases h; done)
theorem ao_moved {ty : FieldType} {u U : State} (hvm : u.vm.Alike U.vm) (h : va_Nw (.arrayOver ty) u) : va_Nw (.arrayOver ty) U := by
  have e := Cond.arrayOver_setVmC (args := #[]) hvm ty
  have h2 : (Cond.arrayOver ty).before #[] (u.setVm U.vm) = true := by rw [e]; exact h
  exact h2
theorem ns_warm {s U : State} (hW : s.WarmedH U.vm) (h : ∀ w ∈ lw_ns, va_Nw w s) : ∀ w ∈ lw_ns, va_Nw w U := by
  intro w hw
  have h1 := h w hw
  have h2 := (List.mem_filter.mp hw).2
  cases w <;> first | (exact va_Nw.warmF hW h1) | (exact va_Nw.warmM hW h1) | (exact ao_moved hW.alike h1) | (cases h2; done)
theorem ns_same {U : State} (f : JFrame) (mk : MethodId) (a : Array Value) (h : ∀ w ∈ lw_ns, va_Nw w U) : ∀ w ∈ lw_ns, va_Nw w (U.calling f mk a) := by
  intro w hw
  have h1 := h w hw
  have h2 := (List.mem_filter.mp hw).2
  cases w <;> first | (exact va_Nw.same rfl rfl h1) | (exact ao_moved (Vm.Alike.refl U.vm) h1) | (cases h2; done)
end
section
/-! LAYER 0, the judgement -/
-- the context of a walk
abbrev CX : Type := Program × Launch × Env × Room × State × MethodId × Array Value × List Frame × Method × Code × (State → Prop)
def WX (x : CX) (H : Heap) (locs : List Loc) (k n : Nat) (f : JFrame) : Prop := match x with
  | (p, l, e, R, s, m, args, below, meth, c, Q) => W p l e R s m args below meth c H locs k n Q f
abbrev xs (x : CX) : State := x.2.2.2.2.1
abbrev xm (x : CX) : MethodId := x.2.2.2.2.2.1
abbrev xa (x : CX) : Array Value := x.2.2.2.2.2.2.1
abbrev xb (x : CX) : List Frame := x.2.2.2.2.2.2.2.1
abbrev xM (x : CX) : Method := x.2.2.2.2.2.2.2.2.1
abbrev xc (x : CX) : Code := x.2.2.2.2.2.2.2.2.2.1
abbrev xQ (x : CX) : State → Prop := x.2.2.2.2.2.2.2.2.2.2
/-- a method's fixed things: code, locals, class, name, answer's type, room -/
abbrev MI : Type := ByteArray × Nat × String × String × Option FieldType × Room
def Cx (x : CX) (l : Launch) (g : CG) (M : MI) : Prop :=
  x.1.tables.exec = Jvm.exec ∧ (xc x).code = M.1 ∧ (xc x).maxLocals = M.2.1 ∧ (xs x).vm.findClass M.2.2.1 = some (xm x).cls ∧ (∀ w ∈ lw_ok, w.before (xa x) (xs x) = true) ∧ va_K g.2.1 vwCl g.2.2 (xs x) ∧ (xM x).locks = false ∧ g.1.1 ≤ (xs x).heap.size ∧ x.2.1 = l ∧ x.2.2.2.1 = M.2.2.2.2.2 ∧ (xM x).sig.returnType = M.2.2.2.2.1 ∧ (xM x).name = M.2.2.2.1 ∧ g.2.2.map (fun q => q.2) = arrTys ∧ Ext g (xs x) ∧ (∀ w ∈ lw_ns, va_Nw w (xs x))
def V (x : CX) (g : CG) (nL k n : Nat) (μ : Mem) (pc : Nat) (lv : LV) (st : List AV) : Prop :=
  (xs x).heap.size + k = g.1.1 + μ.1 → ∀ (H : Heap) (locs : List Loc) (ls : Array Slot), Hold g μ H → va_S (fun q => g.1.1 ≤ q) (xs x).heap H locs → lv_has ls nL (lvm g.1 lv) → WX x H locs k n (F0 (xm x) pc ls (st.map (av_v g.1)))
end
section
theorem v_null {x : CX} {l : Launch} {g : CG} {M : MI} {nL k n : Nat} {μ : Mem} {pc : Nat} {lv : LV} {st : List AV} (C : Cx x l g M)  (d : decode M.1 pc = .ok (.aconst_null, 1)) (kk : V x g nL k n μ (pc + 1) lv (aR none :: st)) : V x g nL k n μ pc lv st := by
  obtain ⟨p, l0, e, R, s, m, args, below, meth, c, Q⟩ := x
  intro h0 H locs ls h1 h2 h3
  exact lv_null C.1 C.2.1 d (kk h0 H locs ls h1 h2 h3)
theorem v_iconst {x : CX} {l : Launch} {g : CG} {M : MI} {nL k n : Nat} {μ : Mem} {pc : Nat} {lv : LV} {st : List AV} (C : Cx x l g M) {z : Int} {v : Int32} (d : decode M.1 pc = .ok (.iconst z, 1)) (hv : Int32.ofInt z = v) (kk : V x g nL k n μ (pc + 1) lv (aI v :: st)) : V x g nL k n μ pc lv st := by
  obtain ⟨p, l0, e, R, s, m, args, below, meth, c, Q⟩ := x
  intro h0 H locs ls h1 h2 h3
  exact lv_iconst C.1 C.2.1 d hv (kk h0 H locs ls h1 h2 h3)
theorem v_bipush {x : CX} {l : Launch} {g : CG} {M : MI} {nL k n : Nat} {μ : Mem} {pc : Nat} {lv : LV} {st : List AV} (C : Cx x l g M) {z : Int} {v : Int32} (d : decode M.1 pc = .ok (.bipush z, 2)) (hv : (Int8.ofInt z).toInt32 = v) (kk : V x g nL k n μ (pc + 2) lv (aI v :: st)) : V x g nL k n μ pc lv st := by
  obtain ⟨p, l0, e, R, s, m, args, below, meth, c, Q⟩ := x
  intro h0 H locs ls h1 h2 h3
  exact lv_bipush C.1 C.2.1 d hv (kk h0 H locs ls h1 h2 h3)
theorem v_sipush {x : CX} {l : Launch} {g : CG} {M : MI} {nL k n : Nat} {μ : Mem} {pc : Nat} {lv : LV} {st : List AV} (C : Cx x l g M) {z : Int} {v : Int32} (d : decode M.1 pc = .ok (.sipush z, 3)) (hv : (Int16.ofInt z).toInt32 = v) (kk : V x g nL k n μ (pc + 3) lv (aI v :: st)) : V x g nL k n μ pc lv st := by
  obtain ⟨p, l0, e, R, s, m, args, below, meth, c, Q⟩ := x
  intro h0 H locs ls h1 h2 h3
  exact lv_sipush C.1 C.2.1 d hv (kk h0 H locs ls h1 h2 h3)
theorem v_lconst {x : CX} {l : Launch} {g : CG} {M : MI} {nL k n : Nat} {μ : Mem} {pc : Nat} {lv : LV} {st : List AV} (C : Cx x l g M) {z : Fin 2} {v : Int64} (d : decode M.1 pc = .ok (.lconst z, 1)) (hv : Int64.ofNat (z : Nat) = v) (kk : V x g nL k n μ (pc + 1) lv (aJ v :: st)) : V x g nL k n μ pc lv st := by
  obtain ⟨p, l0, e, R, s, m, args, below, meth, c, Q⟩ := x
  intro h0 H locs ls h1 h2 h3
  exact lv_lconst C.1 C.2.1 d hv (kk h0 H locs ls h1 h2 h3)
theorem v_ldc {x : CX} {l : Launch} {g : CG} {M : MI} {nL k n : Nat} {μ : Mem} {pc : Nat} {lv : LV} {st : List AV} (C : Cx x l g M) {idx : Nat} {v : Int32} (d : decode M.1 pc = .ok (.ldc idx, 2)) (hc : Cond.constant M.2.2.1 idx v ∈ lw_ok) (kk : V x g nL k n μ (pc + 2) lv (aI v :: st)) : V x g nL k n μ pc lv st := by
  obtain ⟨p, l0, e, R, s, m, args, below, meth, c, Q⟩ := x
  intro h0 H locs ls h1 h2 h3
  exact lv_ldc C.1 C.2.1 C.2.2.2.1 (C.2.2.2.2.1 _ hc) d (kk h0 H locs ls h1 h2 h3)
theorem v_iadd {x : CX} {l : Launch} {g : CG} {M : MI} {nL k n : Nat} {μ : Mem} {pc : Nat} {lv : LV} {st : List AV} (C : Cx x l g M) {a b : Int32} (d : decode M.1 pc = .ok (.iadd, 1)) (kk : V x g nL k n μ (pc + 1) lv (aI (a + b) :: st)) : V x g nL k n μ pc lv (aI b :: aI a :: st) := by
  obtain ⟨p, l0, e, R, s, m, args, below, meth, c, Q⟩ := x
  intro h0 H locs ls h1 h2 h3
  exact lv_iadd C.1 C.2.1 d (kk h0 H locs ls h1 h2 h3)
theorem v_isub {x : CX} {l : Launch} {g : CG} {M : MI} {nL k n : Nat} {μ : Mem} {pc : Nat} {lv : LV} {st : List AV} (C : Cx x l g M) {a b : Int32} (d : decode M.1 pc = .ok (.isub, 1)) (kk : V x g nL k n μ (pc + 1) lv (aI (a - b) :: st)) : V x g nL k n μ pc lv (aI b :: aI a :: st) := by
  obtain ⟨p, l0, e, R, s, m, args, below, meth, c, Q⟩ := x
  intro h0 H locs ls h1 h2 h3
  exact lv_isub C.1 C.2.1 d (kk h0 H locs ls h1 h2 h3)
theorem v_imul {x : CX} {l : Launch} {g : CG} {M : MI} {nL k n : Nat} {μ : Mem} {pc : Nat} {lv : LV} {st : List AV} (C : Cx x l g M) {a b : Int32} (d : decode M.1 pc = .ok (.imul, 1)) (kk : V x g nL k n μ (pc + 1) lv (aI (a * b) :: st)) : V x g nL k n μ pc lv (aI b :: aI a :: st) := by
  obtain ⟨p, l0, e, R, s, m, args, below, meth, c, Q⟩ := x
  intro h0 H locs ls h1 h2 h3
  exact lv_imul C.1 C.2.1 d (kk h0 H locs ls h1 h2 h3)
theorem v_iand {x : CX} {l : Launch} {g : CG} {M : MI} {nL k n : Nat} {μ : Mem} {pc : Nat} {lv : LV} {st : List AV} (C : Cx x l g M) {a b : Int32} (d : decode M.1 pc = .ok (.iand, 1)) (kk : V x g nL k n μ (pc + 1) lv (aI (a &&& b) :: st)) : V x g nL k n μ pc lv (aI b :: aI a :: st) := by
  obtain ⟨p, l0, e, R, s, m, args, below, meth, c, Q⟩ := x
  intro h0 H locs ls h1 h2 h3
  exact lv_iand C.1 C.2.1 d (kk h0 H locs ls h1 h2 h3)
theorem v_ior {x : CX} {l : Launch} {g : CG} {M : MI} {nL k n : Nat} {μ : Mem} {pc : Nat} {lv : LV} {st : List AV} (C : Cx x l g M) {a b : Int32} (d : decode M.1 pc = .ok (.ior, 1)) (kk : V x g nL k n μ (pc + 1) lv (aI (a ||| b) :: st)) : V x g nL k n μ pc lv (aI b :: aI a :: st) := by
  obtain ⟨p, l0, e, R, s, m, args, below, meth, c, Q⟩ := x
  intro h0 H locs ls h1 h2 h3
  exact lv_ior C.1 C.2.1 d (kk h0 H locs ls h1 h2 h3)
theorem v_ixor {x : CX} {l : Launch} {g : CG} {M : MI} {nL k n : Nat} {μ : Mem} {pc : Nat} {lv : LV} {st : List AV} (C : Cx x l g M) {a b : Int32} (d : decode M.1 pc = .ok (.ixor, 1)) (kk : V x g nL k n μ (pc + 1) lv (aI (a ^^^ b) :: st)) : V x g nL k n μ pc lv (aI b :: aI a :: st) := by
  obtain ⟨p, l0, e, R, s, m, args, below, meth, c, Q⟩ := x
  intro h0 H locs ls h1 h2 h3
  exact lv_ixor C.1 C.2.1 d (kk h0 H locs ls h1 h2 h3)
theorem v_ladd {x : CX} {l : Launch} {g : CG} {M : MI} {nL k n : Nat} {μ : Mem} {pc : Nat} {lv : LV} {st : List AV} (C : Cx x l g M) {a b : Int64} (d : decode M.1 pc = .ok (.ladd, 1)) (kk : V x g nL k n μ (pc + 1) lv (aJ (a + b) :: st)) : V x g nL k n μ pc lv (aJ b :: aJ a :: st) := by
  obtain ⟨p, l0, e, R, s, m, args, below, meth, c, Q⟩ := x
  intro h0 H locs ls h1 h2 h3
  exact lv_ladd C.1 C.2.1 d (kk h0 H locs ls h1 h2 h3)
theorem v_lsub {x : CX} {l : Launch} {g : CG} {M : MI} {nL k n : Nat} {μ : Mem} {pc : Nat} {lv : LV} {st : List AV} (C : Cx x l g M) {a b : Int64} (d : decode M.1 pc = .ok (.lsub, 1)) (kk : V x g nL k n μ (pc + 1) lv (aJ (a - b) :: st)) : V x g nL k n μ pc lv (aJ b :: aJ a :: st) := by
  obtain ⟨p, l0, e, R, s, m, args, below, meth, c, Q⟩ := x
  intro h0 H locs ls h1 h2 h3
  exact lv_lsub C.1 C.2.1 d (kk h0 H locs ls h1 h2 h3)
theorem v_lmul {x : CX} {l : Launch} {g : CG} {M : MI} {nL k n : Nat} {μ : Mem} {pc : Nat} {lv : LV} {st : List AV} (C : Cx x l g M) {a b : Int64} (d : decode M.1 pc = .ok (.lmul, 1)) (kk : V x g nL k n μ (pc + 1) lv (aJ (a * b) :: st)) : V x g nL k n μ pc lv (aJ b :: aJ a :: st) := by
  obtain ⟨p, l0, e, R, s, m, args, below, meth, c, Q⟩ := x
  intro h0 H locs ls h1 h2 h3
  exact lv_lmul C.1 C.2.1 d (kk h0 H locs ls h1 h2 h3)
theorem v_land {x : CX} {l : Launch} {g : CG} {M : MI} {nL k n : Nat} {μ : Mem} {pc : Nat} {lv : LV} {st : List AV} (C : Cx x l g M) {a b : Int64} (d : decode M.1 pc = .ok (.land, 1)) (kk : V x g nL k n μ (pc + 1) lv (aJ (a &&& b) :: st)) : V x g nL k n μ pc lv (aJ b :: aJ a :: st) := by
  obtain ⟨p, l0, e, R, s, m, args, below, meth, c, Q⟩ := x
  intro h0 H locs ls h1 h2 h3
  exact lv_land C.1 C.2.1 d (kk h0 H locs ls h1 h2 h3)
theorem v_lor {x : CX} {l : Launch} {g : CG} {M : MI} {nL k n : Nat} {μ : Mem} {pc : Nat} {lv : LV} {st : List AV} (C : Cx x l g M) {a b : Int64} (d : decode M.1 pc = .ok (.lor, 1)) (kk : V x g nL k n μ (pc + 1) lv (aJ (a ||| b) :: st)) : V x g nL k n μ pc lv (aJ b :: aJ a :: st) := by
  obtain ⟨p, l0, e, R, s, m, args, below, meth, c, Q⟩ := x
  intro h0 H locs ls h1 h2 h3
  exact lv_lor C.1 C.2.1 d (kk h0 H locs ls h1 h2 h3)
theorem v_lxor {x : CX} {l : Launch} {g : CG} {M : MI} {nL k n : Nat} {μ : Mem} {pc : Nat} {lv : LV} {st : List AV} (C : Cx x l g M) {a b : Int64} (d : decode M.1 pc = .ok (.lxor, 1)) (kk : V x g nL k n μ (pc + 1) lv (aJ (a ^^^ b) :: st)) : V x g nL k n μ pc lv (aJ b :: aJ a :: st) := by
  obtain ⟨p, l0, e, R, s, m, args, below, meth, c, Q⟩ := x
  intro h0 H locs ls h1 h2 h3
  exact lv_lxor C.1 C.2.1 d (kk h0 H locs ls h1 h2 h3)
theorem v_idiv {x : CX} {l : Launch} {g : CG} {M : MI} {nL k n : Nat} {μ : Mem} {pc : Nat} {lv : LV} {st : List AV} (C : Cx x l g M) {a b : Int32} (d : decode M.1 pc = .ok (.idiv, 1)) (hz : ¬ b = 0) (kk : V x g nL k n μ (pc + 1) lv (aI (a / b) :: st)) : V x g nL k n μ pc lv (aI b :: aI a :: st) := by
  obtain ⟨p, l0, e, R, s, m, args, below, meth, c, Q⟩ := x
  intro h0 H locs ls h1 h2 h3
  exact lv_idiv C.1 C.2.1 d hz (kk h0 H locs ls h1 h2 h3)
theorem v_irem {x : CX} {l : Launch} {g : CG} {M : MI} {nL k n : Nat} {μ : Mem} {pc : Nat} {lv : LV} {st : List AV} (C : Cx x l g M) {a b : Int32} (d : decode M.1 pc = .ok (.irem, 1)) (hz : ¬ b = 0) (kk : V x g nL k n μ (pc + 1) lv (aI (a - a / b * b) :: st)) : V x g nL k n μ pc lv (aI b :: aI a :: st) := by
  obtain ⟨p, l0, e, R, s, m, args, below, meth, c, Q⟩ := x
  intro h0 H locs ls h1 h2 h3
  exact lv_irem C.1 C.2.1 d hz (kk h0 H locs ls h1 h2 h3)
theorem v_ineg {x : CX} {l : Launch} {g : CG} {M : MI} {nL k n : Nat} {μ : Mem} {pc : Nat} {lv : LV} {st : List AV} (C : Cx x l g M) {a : Int32} (d : decode M.1 pc = .ok (.ineg, 1)) (kk : V x g nL k n μ (pc + 1) lv (aI (-a) :: st)) : V x g nL k n μ pc lv (aI a :: st) := by
  obtain ⟨p, l0, e, R, s, m, args, below, meth, c, Q⟩ := x
  intro h0 H locs ls h1 h2 h3
  exact lv_ineg C.1 C.2.1 d (kk h0 H locs ls h1 h2 h3)
theorem v_ishl {x : CX} {l : Launch} {g : CG} {M : MI} {nL k n : Nat} {μ : Mem} {pc : Nat} {lv : LV} {st : List AV} (C : Cx x l g M) {a b : Int32} (d : decode M.1 pc = .ok (.ishl, 1)) (kk : V x g nL k n μ (pc + 1) lv (aI (a <<< (b &&& 31)) :: st)) : V x g nL k n μ pc lv (aI b :: aI a :: st) := by
  obtain ⟨p, l0, e, R, s, m, args, below, meth, c, Q⟩ := x
  intro h0 H locs ls h1 h2 h3
  exact lv_ishl C.1 C.2.1 d (kk h0 H locs ls h1 h2 h3)
theorem v_ishr {x : CX} {l : Launch} {g : CG} {M : MI} {nL k n : Nat} {μ : Mem} {pc : Nat} {lv : LV} {st : List AV} (C : Cx x l g M) {a b : Int32} (d : decode M.1 pc = .ok (.ishr, 1)) (kk : V x g nL k n μ (pc + 1) lv (aI (a >>> (b &&& 31)) :: st)) : V x g nL k n μ pc lv (aI b :: aI a :: st) := by
  obtain ⟨p, l0, e, R, s, m, args, below, meth, c, Q⟩ := x
  intro h0 H locs ls h1 h2 h3
  exact lv_ishr C.1 C.2.1 d (kk h0 H locs ls h1 h2 h3)
theorem v_iushr {x : CX} {l : Launch} {g : CG} {M : MI} {nL k n : Nat} {μ : Mem} {pc : Nat} {lv : LV} {st : List AV} (C : Cx x l g M) {a b : Int32} (d : decode M.1 pc = .ok (.iushr, 1)) (kk : V x g nL k n μ (pc + 1) lv (aI ((a.toUInt32 >>> (b.toUInt32 &&& Int32.toUInt32 31)).toInt32) :: st)) : V x g nL k n μ pc lv (aI b :: aI a :: st) := by
  obtain ⟨p, l0, e, R, s, m, args, below, meth, c, Q⟩ := x
  intro h0 H locs ls h1 h2 h3
  exact lv_iushr C.1 C.2.1 d rfl (kk h0 H locs ls h1 h2 h3)
theorem v_lshl {x : CX} {l : Launch} {g : CG} {M : MI} {nL k n : Nat} {μ : Mem} {pc : Nat} {lv : LV} {st : List AV} (C : Cx x l g M) {a : Int64} {b : Int32} (d : decode M.1 pc = .ok (.lshl, 1)) (kk : V x g nL k n μ (pc + 1) lv (aJ (a <<< (b.toInt64 &&& 63)) :: st)) : V x g nL k n μ pc lv (aI b :: aJ a :: st) := by
  obtain ⟨p, l0, e, R, s, m, args, below, meth, c, Q⟩ := x
  intro h0 H locs ls h1 h2 h3
  exact lv_lshl C.1 C.2.1 d rfl (kk h0 H locs ls h1 h2 h3)
theorem v_i2l {x : CX} {l : Launch} {g : CG} {M : MI} {nL k n : Nat} {μ : Mem} {pc : Nat} {lv : LV} {st : List AV} (C : Cx x l g M) {a : Int32} (d : decode M.1 pc = .ok (.i2l, 1)) (kk : V x g nL k n μ (pc + 1) lv (aJ a.toInt64 :: st)) : V x g nL k n μ pc lv (aI a :: st) := by
  obtain ⟨p, l0, e, R, s, m, args, below, meth, c, Q⟩ := x
  intro h0 H locs ls h1 h2 h3
  exact lv_i2l C.1 C.2.1 d rfl (kk h0 H locs ls h1 h2 h3)
theorem v_i2c {x : CX} {l : Launch} {g : CG} {M : MI} {nL k n : Nat} {μ : Mem} {pc : Nat} {lv : LV} {st : List AV} (C : Cx x l g M) {a : Int32} (d : decode M.1 pc = .ok (.i2c, 1)) (kk : V x g nL k n μ (pc + 1) lv (aI (a.toUInt32 % 65536).toInt32 :: st)) : V x g nL k n μ pc lv (aI a :: st) := by
  obtain ⟨p, l0, e, R, s, m, args, below, meth, c, Q⟩ := x
  intro h0 H locs ls h1 h2 h3
  exact lv_i2c C.1 C.2.1 d rfl (kk h0 H locs ls h1 h2 h3)
theorem v_lcmp {x : CX} {l : Launch} {g : CG} {M : MI} {nL k n : Nat} {μ : Mem} {pc : Nat} {lv : LV} {st : List AV} (C : Cx x l g M) {a b : Int64} (d : decode M.1 pc = .ok (.lcmp, 1)) (kk : V x g nL k n μ (pc + 1) lv (aI (lg_cmp a b) :: st)) : V x g nL k n μ pc lv (aJ b :: aJ a :: st) := by
  obtain ⟨p, l0, e, R, s, m, args, below, meth, c, Q⟩ := x
  intro h0 H locs ls h1 h2 h3
  exact W.lcmp C.1 C.2.1 d (kk h0 H locs ls h1 h2 h3)
theorem v_dup {x : CX} {l : Launch} {g : CG} {M : MI} {nL k n : Nat} {μ : Mem} {pc : Nat} {lv : LV} {st : List AV} (C : Cx x l g M) {a : AV} (d : decode M.1 pc = .ok (.dup, 1)) (hw : av_w a = false) (kk : V x g nL k n μ (pc + 1) lv (a :: a :: st)) : V x g nL k n μ pc lv (a :: st) := by
  obtain ⟨p, l0, e, R, s, m, args, below, meth, c, Q⟩ := x
  intro h0 H locs ls h1 h2 h3
  exact lv_dup C.1 C.2.1 d (av_cat1 g.1 a hw) (kk h0 H locs ls h1 h2 h3)
theorem v_dup_x1 {x : CX} {l : Launch} {g : CG} {M : MI} {nL k n : Nat} {μ : Mem} {pc : Nat} {lv : LV} {st : List AV} (C : Cx x l g M) {a b : AV} (d : decode M.1 pc = .ok (.dup_x1, 1)) (hw : av_w a = false) (hw2 : av_w b = false) (kk : V x g nL k n μ (pc + 1) lv (a :: b :: a :: st)) : V x g nL k n μ pc lv (a :: b :: st) := by
  obtain ⟨p, l0, e, R, s, m, args, below, meth, c, Q⟩ := x
  intro h0 H locs ls h1 h2 h3
  exact lv_dup_x1 C.1 C.2.1 d (av_cat1 g.1 a hw) (av_cat1 g.1 b hw2) (kk h0 H locs ls h1 h2 h3)
theorem v_dup2 {x : CX} {l : Launch} {g : CG} {M : MI} {nL k n : Nat} {μ : Mem} {pc : Nat} {lv : LV} {st : List AV} (C : Cx x l g M) {a b : AV} (d : decode M.1 pc = .ok (.dup2, 1)) (hw : av_w a = false) (hw2 : av_w b = false) (kk : V x g nL k n μ (pc + 1) lv (a :: b :: a :: b :: st)) : V x g nL k n μ pc lv (a :: b :: st) := by
  obtain ⟨p, l0, e, R, s, m, args, below, meth, c, Q⟩ := x
  intro h0 H locs ls h1 h2 h3
  exact lv_dup2_11 C.1 C.2.1 d (av_cat1 g.1 a hw) (av_cat1 g.1 b hw2) (kk h0 H locs ls h1 h2 h3)
theorem v_pop {x : CX} {l : Launch} {g : CG} {M : MI} {nL k n : Nat} {μ : Mem} {pc : Nat} {lv : LV} {st : List AV} (C : Cx x l g M) {a : AV} (d : decode M.1 pc = .ok (.pop, 1)) (hw : av_w a = false) (kk : V x g nL k n μ (pc + 1) lv st) : V x g nL k n μ pc lv (a :: st) := by
  obtain ⟨p, l0, e, R, s, m, args, below, meth, c, Q⟩ := x
  intro h0 H locs ls h1 h2 h3
  exact lv_pop C.1 C.2.1 d (av_cat1 g.1 a hw) (kk h0 H locs ls h1 h2 h3)
theorem v_iload_n {x : CX} {l : Launch} {g : CG} {M : MI} {nL k n : Nat} {μ : Mem} {pc : Nat} {lv : LV} {st : List AV} (C : Cx x l g M) {i : Fin 4} {v : Int32} (d : decode M.1 pc = .ok (.iload_n i, 1)) (hl : lvg lv i.val = some (aI v)) (kk : V x g nL k n μ (pc + 1) lv (aI v :: st)) : V x g nL k n μ pc lv st := by
  obtain ⟨p, l0, e, R, s, m, args, below, meth, c, Q⟩ := x
  intro h0 H locs ls h1 h2 h3
  exact lv_iload_n C.1 C.2.1 d rfl (lvg_at h3 hl) (kk h0 H locs ls h1 h2 h3)
theorem v_iload {x : CX} {l : Launch} {g : CG} {M : MI} {nL k n : Nat} {μ : Mem} {pc : Nat} {lv : LV} {st : List AV} (C : Cx x l g M) {i : Nat} {v : Int32} (d : decode M.1 pc = .ok (.iload i, 2)) (hl : lvg lv i = some (aI v)) (kk : V x g nL k n μ (pc + 2) lv (aI v :: st)) : V x g nL k n μ pc lv st := by
  obtain ⟨p, l0, e, R, s, m, args, below, meth, c, Q⟩ := x
  intro h0 H locs ls h1 h2 h3
  exact lv_iload C.1 C.2.1 d (lvg_at h3 hl) (kk h0 H locs ls h1 h2 h3)
theorem v_lload_n {x : CX} {l : Launch} {g : CG} {M : MI} {nL k n : Nat} {μ : Mem} {pc : Nat} {lv : LV} {st : List AV} (C : Cx x l g M) {i : Fin 4} {v : Int64} (d : decode M.1 pc = .ok (.lload_n i, 1)) (hl : lvg lv i.val = some (aJ v)) (kk : V x g nL k n μ (pc + 1) lv (aJ v :: st)) : V x g nL k n μ pc lv st := by
  obtain ⟨p, l0, e, R, s, m, args, below, meth, c, Q⟩ := x
  intro h0 H locs ls h1 h2 h3
  exact lv_lload_n C.1 C.2.1 d rfl (lvg_at h3 hl) (kk h0 H locs ls h1 h2 h3)
theorem v_lload {x : CX} {l : Launch} {g : CG} {M : MI} {nL k n : Nat} {μ : Mem} {pc : Nat} {lv : LV} {st : List AV} (C : Cx x l g M) {i : Nat} {v : Int64} (d : decode M.1 pc = .ok (.lload i, 2)) (hl : lvg lv i = some (aJ v)) (kk : V x g nL k n μ (pc + 2) lv (aJ v :: st)) : V x g nL k n μ pc lv st := by
  obtain ⟨p, l0, e, R, s, m, args, below, meth, c, Q⟩ := x
  intro h0 H locs ls h1 h2 h3
  exact lv_lload C.1 C.2.1 d (lvg_at h3 hl) (kk h0 H locs ls h1 h2 h3)
theorem v_aload_n {x : CX} {l : Launch} {g : CG} {M : MI} {nL k n : Nat} {μ : Mem} {pc : Nat} {lv : LV} {st : List AV} (C : Cx x l g M) {i : Fin 4} {r : Option Nat} (d : decode M.1 pc = .ok (.aload_n i, 1)) (hl : lvg lv i.val = some (aR r)) (kk : V x g nL k n μ (pc + 1) lv (aR r :: st)) : V x g nL k n μ pc lv st := by
  obtain ⟨p, l0, e, R, s, m, args, below, meth, c, Q⟩ := x
  intro h0 H locs ls h1 h2 h3
  cases r with
  | none => exact lv_aload_nN C.1 C.2.1 d rfl (lvg_at h3 hl) (kk h0 H locs ls h1 h2 h3)
  | some a => exact lv_aload_n C.1 C.2.1 d rfl (lvg_at h3 hl) (kk h0 H locs ls h1 h2 h3)
theorem v_aload {x : CX} {l : Launch} {g : CG} {M : MI} {nL k n : Nat} {μ : Mem} {pc : Nat} {lv : LV} {st : List AV} (C : Cx x l g M) {i : Nat} {r : Option Nat} (d : decode M.1 pc = .ok (.aload i, 2)) (hl : lvg lv i = some (aR r)) (kk : V x g nL k n μ (pc + 2) lv (aR r :: st)) : V x g nL k n μ pc lv st := by
  obtain ⟨p, l0, e, R, s, m, args, below, meth, c, Q⟩ := x
  intro h0 H locs ls h1 h2 h3
  cases r with
  | none => exact lv_aloadN C.1 C.2.1 d (lvg_at h3 hl) (kk h0 H locs ls h1 h2 h3)
  | some a => exact lv_aload C.1 C.2.1 d (lvg_at h3 hl) (kk h0 H locs ls h1 h2 h3)
theorem v_istore_n {x : CX} {l : Launch} {g : CG} {M : MI} {nL k n : Nat} {μ : Mem} {pc : Nat} {lv : LV} {st : List AV} (C : Cx x l g M) {i : Fin 4} {v : Int32} (d : decode M.1 pc = .ok (.istore_n i, 1)) (hn : i.val < nL) (kk : V x g nL k n μ (pc + 1) (lvs lv i.val (aI v)) st) : V x g nL k n μ pc lv (aI v :: st) := by
  obtain ⟨p, l0, e, R, s, m, args, below, meth, c, Q⟩ := x
  intro h0 H locs ls h1 h2 h3
  exact lv_istore_n C.1 C.2.1 d rfl h3 hn (lvm_s g.1 lv i.val (aI v)) (fun ls2 h4 => kk h0 H locs ls2 h1 h2 h4)
theorem v_istore {x : CX} {l : Launch} {g : CG} {M : MI} {nL k n : Nat} {μ : Mem} {pc : Nat} {lv : LV} {st : List AV} (C : Cx x l g M) {i : Nat} {v : Int32} (d : decode M.1 pc = .ok (.istore i, 2)) (hn : i < nL) (kk : V x g nL k n μ (pc + 2) (lvs lv i (aI v)) st) : V x g nL k n μ pc lv (aI v :: st) := by
  obtain ⟨p, l0, e, R, s, m, args, below, meth, c, Q⟩ := x
  intro h0 H locs ls h1 h2 h3
  exact lv_istore C.1 C.2.1 d h3 hn (lvm_s g.1 lv i (aI v)) (fun ls2 h4 => kk h0 H locs ls2 h1 h2 h4)
theorem v_lstore_n {x : CX} {l : Launch} {g : CG} {M : MI} {nL k n : Nat} {μ : Mem} {pc : Nat} {lv : LV} {st : List AV} (C : Cx x l g M) {i : Fin 4} {v : Int64} (d : decode M.1 pc = .ok (.lstore_n i, 1)) (hn : i.val + 1 < nL) (kk : V x g nL k n μ (pc + 1) (lvs2 lv i.val (aJ v)) st) : V x g nL k n μ pc lv (aJ v :: st) := by
  obtain ⟨p, l0, e, R, s, m, args, below, meth, c, Q⟩ := x
  intro h0 H locs ls h1 h2 h3
  exact lv_lstore_n C.1 C.2.1 d rfl h3 hn (lvm_s2 g.1 lv i.val (aJ v)) (fun ls2 h4 => kk h0 H locs ls2 h1 h2 h4)
theorem v_lstore {x : CX} {l : Launch} {g : CG} {M : MI} {nL k n : Nat} {μ : Mem} {pc : Nat} {lv : LV} {st : List AV} (C : Cx x l g M) {i : Nat} {v : Int64} (d : decode M.1 pc = .ok (.lstore i, 2)) (hn : i + 1 < nL) (kk : V x g nL k n μ (pc + 2) (lvs2 lv i (aJ v)) st) : V x g nL k n μ pc lv (aJ v :: st) := by
  obtain ⟨p, l0, e, R, s, m, args, below, meth, c, Q⟩ := x
  intro h0 H locs ls h1 h2 h3
  exact lv_lstore C.1 C.2.1 d h3 hn (lvm_s2 g.1 lv i (aJ v)) (fun ls2 h4 => kk h0 H locs ls2 h1 h2 h4)
theorem v_astore_n {x : CX} {l : Launch} {g : CG} {M : MI} {nL k n : Nat} {μ : Mem} {pc : Nat} {lv : LV} {st : List AV} (C : Cx x l g M) {i : Fin 4} {r : Option Nat} (d : decode M.1 pc = .ok (.astore_n i, 1)) (hn : i.val < nL) (kk : V x g nL k n μ (pc + 1) (lvs lv i.val (aR r)) st) : V x g nL k n μ pc lv (aR r :: st) := by
  obtain ⟨p, l0, e, R, s, m, args, below, meth, c, Q⟩ := x
  intro h0 H locs ls h1 h2 h3
  cases r with
  | none => exact lv_astore_nN C.1 C.2.1 d rfl h3 hn (lvm_s g.1 lv i.val (aR none)) (fun ls2 h4 => kk h0 H locs ls2 h1 h2 h4)
  | some a => exact lv_astore_n C.1 C.2.1 d rfl h3 hn (lvm_s g.1 lv i.val (aR (some a))) (fun ls2 h4 => kk h0 H locs ls2 h1 h2 h4)
theorem v_astore {x : CX} {l : Launch} {g : CG} {M : MI} {nL k n : Nat} {μ : Mem} {pc : Nat} {lv : LV} {st : List AV} (C : Cx x l g M) {i : Nat} {r : Option Nat} (d : decode M.1 pc = .ok (.astore i, 2)) (hn : i < nL) (kk : V x g nL k n μ (pc + 2) (lvs lv i (aR r)) st) : V x g nL k n μ pc lv (aR r :: st) := by
  obtain ⟨p, l0, e, R, s, m, args, below, meth, c, Q⟩ := x
  intro h0 H locs ls h1 h2 h3
  cases r with
  | none => exact lv_astoreN C.1 C.2.1 d h3 hn (lvm_s g.1 lv i (aR none)) (fun ls2 h4 => kk h0 H locs ls2 h1 h2 h4)
  | some a => exact lv_astore C.1 C.2.1 d h3 hn (lvm_s g.1 lv i (aR (some a))) (fun ls2 h4 => kk h0 H locs ls2 h1 h2 h4)
theorem v_iinc {x : CX} {l : Launch} {g : CG} {M : MI} {nL k n : Nat} {μ : Mem} {pc : Nat} {lv : LV} {st : List AV} (C : Cx x l g M) {i : Nat} {z : Int} {a w : Int32} (d : decode M.1 pc = .ok (.iinc i z, 3)) (hl : lvg lv i = some (aI a)) (hv : Int32.ofInt z = w) (hn : i < nL) (kk : V x g nL k n μ (pc + 3) (lvs lv i (aI (a + w))) st) : V x g nL k n μ pc lv st := by
  obtain ⟨p, l0, e, R, s, m, args, below, meth, c, Q⟩ := x
  intro h0 H locs ls h1 h2 h3
  obtain ⟨j, hj⟩ := List.getElem?_of_mem (List.mem_map.mpr ⟨(i, aI a), lvg_mem hl, rfl⟩ : (i, av_v g.1 (aI a)) ∈ lvm g.1 lv)
  exact lv_iinc C.1 C.2.1 d h3 hj (by rw [hv]) hn (lvm_s g.1 lv i (aI (a + w))) (fun ls2 h4 => kk h0 H locs ls2 h1 h2 h4)
theorem v_icmp_eq {x : CX} {l : Launch} {g : CG} {M : MI} {nL k n : Nat} {μ : Mem} {pc : Nat} {lv : LV} {st : List AV} (C : Cx x l g M) {a b : Int32} {off : Int} {tgt : Nat} (d : decode M.1 pc = .ok (.if_icmp .eq off, 3)) (ht : (pc : Int) + off = (tgt : Int)) (kt : a = b → V x g nL k n μ tgt lv st) (kf : ¬ (a = b) → V x g nL k n μ (pc + 3) lv st) : V x g nL k n μ pc lv (aI b :: aI a :: st) := by
  obtain ⟨p, l0, e, R, s, m, args, below, meth, c, Q⟩ := x
  intro h0 H locs ls h1 h2 h3
  exact lv_icmp_eq C.1 C.2.1 d ht (fun q => kt q h0 H locs ls h1 h2 h3) (fun q => kf q h0 H locs ls h1 h2 h3)
theorem v_if_eq {x : CX} {l : Launch} {g : CG} {M : MI} {nL k n : Nat} {μ : Mem} {pc : Nat} {lv : LV} {st : List AV} (C : Cx x l g M) {a : Int32} {off : Int} {tgt : Nat} (d : decode M.1 pc = .ok (.ifCond .eq off, 3)) (ht : (pc : Int) + off = (tgt : Int)) (kt : a = 0 → V x g nL k n μ tgt lv st) (kf : ¬ (a = 0) → V x g nL k n μ (pc + 3) lv st) : V x g nL k n μ pc lv (aI a :: st) := by
  obtain ⟨p, l0, e, R, s, m, args, below, meth, c, Q⟩ := x
  intro h0 H locs ls h1 h2 h3
  exact lv_if_eq C.1 C.2.1 d ht (fun q => kt q h0 H locs ls h1 h2 h3) (fun q => kf q h0 H locs ls h1 h2 h3)
theorem v_icmp_ne {x : CX} {l : Launch} {g : CG} {M : MI} {nL k n : Nat} {μ : Mem} {pc : Nat} {lv : LV} {st : List AV} (C : Cx x l g M) {a b : Int32} {off : Int} {tgt : Nat} (d : decode M.1 pc = .ok (.if_icmp .ne off, 3)) (ht : (pc : Int) + off = (tgt : Int)) (kt : ¬ a = b → V x g nL k n μ tgt lv st) (kf : ¬ (¬ a = b) → V x g nL k n μ (pc + 3) lv st) : V x g nL k n μ pc lv (aI b :: aI a :: st) := by
  obtain ⟨p, l0, e, R, s, m, args, below, meth, c, Q⟩ := x
  intro h0 H locs ls h1 h2 h3
  exact lv_icmp_ne C.1 C.2.1 d ht (fun q => kt q h0 H locs ls h1 h2 h3) (fun q => kf (fun z => z q) h0 H locs ls h1 h2 h3)
theorem v_if_ne {x : CX} {l : Launch} {g : CG} {M : MI} {nL k n : Nat} {μ : Mem} {pc : Nat} {lv : LV} {st : List AV} (C : Cx x l g M) {a : Int32} {off : Int} {tgt : Nat} (d : decode M.1 pc = .ok (.ifCond .ne off, 3)) (ht : (pc : Int) + off = (tgt : Int)) (kt : ¬ a = 0 → V x g nL k n μ tgt lv st) (kf : ¬ (¬ a = 0) → V x g nL k n μ (pc + 3) lv st) : V x g nL k n μ pc lv (aI a :: st) := by
  obtain ⟨p, l0, e, R, s, m, args, below, meth, c, Q⟩ := x
  intro h0 H locs ls h1 h2 h3
  exact lv_if_ne C.1 C.2.1 d ht (fun q => kt q h0 H locs ls h1 h2 h3) (fun q => kf (fun z => z q) h0 H locs ls h1 h2 h3)
theorem v_icmp_lt {x : CX} {l : Launch} {g : CG} {M : MI} {nL k n : Nat} {μ : Mem} {pc : Nat} {lv : LV} {st : List AV} (C : Cx x l g M) {a b : Int32} {off : Int} {tgt : Nat} (d : decode M.1 pc = .ok (.if_icmp .lt off, 3)) (ht : (pc : Int) + off = (tgt : Int)) (kt : a < b → V x g nL k n μ tgt lv st) (kf : ¬ (a < b) → V x g nL k n μ (pc + 3) lv st) : V x g nL k n μ pc lv (aI b :: aI a :: st) := by
  obtain ⟨p, l0, e, R, s, m, args, below, meth, c, Q⟩ := x
  intro h0 H locs ls h1 h2 h3
  exact lv_icmp_lt C.1 C.2.1 d ht (fun q => kt q h0 H locs ls h1 h2 h3) (fun q => kf q h0 H locs ls h1 h2 h3)
theorem v_if_lt {x : CX} {l : Launch} {g : CG} {M : MI} {nL k n : Nat} {μ : Mem} {pc : Nat} {lv : LV} {st : List AV} (C : Cx x l g M) {a : Int32} {off : Int} {tgt : Nat} (d : decode M.1 pc = .ok (.ifCond .lt off, 3)) (ht : (pc : Int) + off = (tgt : Int)) (kt : a < 0 → V x g nL k n μ tgt lv st) (kf : ¬ (a < 0) → V x g nL k n μ (pc + 3) lv st) : V x g nL k n μ pc lv (aI a :: st) := by
  obtain ⟨p, l0, e, R, s, m, args, below, meth, c, Q⟩ := x
  intro h0 H locs ls h1 h2 h3
  exact lv_if_lt C.1 C.2.1 d ht (fun q => kt q h0 H locs ls h1 h2 h3) (fun q => kf q h0 H locs ls h1 h2 h3)
theorem v_icmp_ge {x : CX} {l : Launch} {g : CG} {M : MI} {nL k n : Nat} {μ : Mem} {pc : Nat} {lv : LV} {st : List AV} (C : Cx x l g M) {a b : Int32} {off : Int} {tgt : Nat} (d : decode M.1 pc = .ok (.if_icmp .ge off, 3)) (ht : (pc : Int) + off = (tgt : Int)) (kt : b ≤ a → V x g nL k n μ tgt lv st) (kf : ¬ (b ≤ a) → V x g nL k n μ (pc + 3) lv st) : V x g nL k n μ pc lv (aI b :: aI a :: st) := by
  obtain ⟨p, l0, e, R, s, m, args, below, meth, c, Q⟩ := x
  intro h0 H locs ls h1 h2 h3
  exact lv_icmp_ge C.1 C.2.1 d ht (fun q => kt q h0 H locs ls h1 h2 h3) (fun q => kf q h0 H locs ls h1 h2 h3)
theorem v_if_ge {x : CX} {l : Launch} {g : CG} {M : MI} {nL k n : Nat} {μ : Mem} {pc : Nat} {lv : LV} {st : List AV} (C : Cx x l g M) {a : Int32} {off : Int} {tgt : Nat} (d : decode M.1 pc = .ok (.ifCond .ge off, 3)) (ht : (pc : Int) + off = (tgt : Int)) (kt : 0 ≤ a → V x g nL k n μ tgt lv st) (kf : ¬ (0 ≤ a) → V x g nL k n μ (pc + 3) lv st) : V x g nL k n μ pc lv (aI a :: st) := by
  obtain ⟨p, l0, e, R, s, m, args, below, meth, c, Q⟩ := x
  intro h0 H locs ls h1 h2 h3
  exact lv_if_ge C.1 C.2.1 d ht (fun q => kt q h0 H locs ls h1 h2 h3) (fun q => kf q h0 H locs ls h1 h2 h3)
theorem v_icmp_gt {x : CX} {l : Launch} {g : CG} {M : MI} {nL k n : Nat} {μ : Mem} {pc : Nat} {lv : LV} {st : List AV} (C : Cx x l g M) {a b : Int32} {off : Int} {tgt : Nat} (d : decode M.1 pc = .ok (.if_icmp .gt off, 3)) (ht : (pc : Int) + off = (tgt : Int)) (kt : b < a → V x g nL k n μ tgt lv st) (kf : ¬ (b < a) → V x g nL k n μ (pc + 3) lv st) : V x g nL k n μ pc lv (aI b :: aI a :: st) := by
  obtain ⟨p, l0, e, R, s, m, args, below, meth, c, Q⟩ := x
  intro h0 H locs ls h1 h2 h3
  exact lv_icmp_gt C.1 C.2.1 d ht (fun q => kt q h0 H locs ls h1 h2 h3) (fun q => kf q h0 H locs ls h1 h2 h3)
theorem v_if_gt {x : CX} {l : Launch} {g : CG} {M : MI} {nL k n : Nat} {μ : Mem} {pc : Nat} {lv : LV} {st : List AV} (C : Cx x l g M) {a : Int32} {off : Int} {tgt : Nat} (d : decode M.1 pc = .ok (.ifCond .gt off, 3)) (ht : (pc : Int) + off = (tgt : Int)) (kt : 0 < a → V x g nL k n μ tgt lv st) (kf : ¬ (0 < a) → V x g nL k n μ (pc + 3) lv st) : V x g nL k n μ pc lv (aI a :: st) := by
  obtain ⟨p, l0, e, R, s, m, args, below, meth, c, Q⟩ := x
  intro h0 H locs ls h1 h2 h3
  exact lv_if_gt C.1 C.2.1 d ht (fun q => kt q h0 H locs ls h1 h2 h3) (fun q => kf q h0 H locs ls h1 h2 h3)
theorem v_icmp_le {x : CX} {l : Launch} {g : CG} {M : MI} {nL k n : Nat} {μ : Mem} {pc : Nat} {lv : LV} {st : List AV} (C : Cx x l g M) {a b : Int32} {off : Int} {tgt : Nat} (d : decode M.1 pc = .ok (.if_icmp .le off, 3)) (ht : (pc : Int) + off = (tgt : Int)) (kt : a ≤ b → V x g nL k n μ tgt lv st) (kf : ¬ (a ≤ b) → V x g nL k n μ (pc + 3) lv st) : V x g nL k n μ pc lv (aI b :: aI a :: st) := by
  obtain ⟨p, l0, e, R, s, m, args, below, meth, c, Q⟩ := x
  intro h0 H locs ls h1 h2 h3
  exact lv_icmp_le C.1 C.2.1 d ht (fun q => kt q h0 H locs ls h1 h2 h3) (fun q => kf q h0 H locs ls h1 h2 h3)
theorem v_if_le {x : CX} {l : Launch} {g : CG} {M : MI} {nL k n : Nat} {μ : Mem} {pc : Nat} {lv : LV} {st : List AV} (C : Cx x l g M) {a : Int32} {off : Int} {tgt : Nat} (d : decode M.1 pc = .ok (.ifCond .le off, 3)) (ht : (pc : Int) + off = (tgt : Int)) (kt : a ≤ 0 → V x g nL k n μ tgt lv st) (kf : ¬ (a ≤ 0) → V x g nL k n μ (pc + 3) lv st) : V x g nL k n μ pc lv (aI a :: st) := by
  obtain ⟨p, l0, e, R, s, m, args, below, meth, c, Q⟩ := x
  intro h0 H locs ls h1 h2 h3
  exact lv_if_le C.1 C.2.1 d ht (fun q => kt q h0 H locs ls h1 h2 h3) (fun q => kf q h0 H locs ls h1 h2 h3)
theorem rmap_inj {B : Nat} {a b : Option Nat} : a.map (fun i => B + i) = b.map (fun i => B + i) ↔ a = b := by
  cases a <;> cases b <;> simp
theorem v_acmp_eq {x : CX} {l : Launch} {g : CG} {M : MI} {nL k n : Nat} {μ : Mem} {pc : Nat} {lv : LV} {st : List AV} (C : Cx x l g M) {a b : Option Nat} {off : Int} {tgt : Nat} (d : decode M.1 pc = .ok (.if_acmp .eq off, 3)) (ht : (pc : Int) + off = (tgt : Int)) (kt : a = b → V x g nL k n μ tgt lv st) (kf : ¬ a = b → V x g nL k n μ (pc + 3) lv st) : V x g nL k n μ pc lv (aR b :: aR a :: st) := by
  obtain ⟨p, l0, e, R, s, m, args, below, meth, c, Q⟩ := x
  intro h0 H locs ls h1 h2 h3
  exact lv_acmp_eq C.1 C.2.1 d ht (fun q => kt (rmap_inj.mp q) h0 H locs ls h1 h2 h3) (fun q => kf (fun z => q (rmap_inj.mpr z)) h0 H locs ls h1 h2 h3)
theorem v_acmp_ne {x : CX} {l : Launch} {g : CG} {M : MI} {nL k n : Nat} {μ : Mem} {pc : Nat} {lv : LV} {st : List AV} (C : Cx x l g M) {a b : Option Nat} {off : Int} {tgt : Nat} (d : decode M.1 pc = .ok (.if_acmp .ne off, 3)) (ht : (pc : Int) + off = (tgt : Int)) (kt : ¬ a = b → V x g nL k n μ tgt lv st) (kf : ¬ ¬ a = b → V x g nL k n μ (pc + 3) lv st) : V x g nL k n μ pc lv (aR b :: aR a :: st) := by
  obtain ⟨p, l0, e, R, s, m, args, below, meth, c, Q⟩ := x
  intro h0 H locs ls h1 h2 h3
  exact lv_acmp_ne C.1 C.2.1 d ht (fun q => kt (fun z => q (rmap_inj.mpr z)) h0 H locs ls h1 h2 h3) (fun q => kf (fun z => z (rmap_inj.mp q)) h0 H locs ls h1 h2 h3)
theorem v_ifnull {x : CX} {l : Launch} {g : CG} {M : MI} {nL k n : Nat} {μ : Mem} {pc : Nat} {lv : LV} {st : List AV} (C : Cx x l g M) {r : Option Nat} {off : Int} {tgt : Nat} (d : decode M.1 pc = .ok (.ifnull off, 3)) (ht : (pc : Int) + off = (tgt : Int)) (kt : r = none → V x g nL k n μ tgt lv st) (kf : ¬ r = none → V x g nL k n μ (pc + 3) lv st) : V x g nL k n μ pc lv (aR r :: st) := by
  obtain ⟨p, l0, e, R, s, m, args, below, meth, c, Q⟩ := x
  intro h0 H locs ls h1 h2 h3
  cases r with
  | none => exact lv_ifnullN C.1 C.2.1 d ht (kt rfl h0 H locs ls h1 h2 h3)
  | some a => exact lv_ifnull C.1 C.2.1 d (kf (fun z => by cases z) h0 H locs ls h1 h2 h3)
theorem v_ifnonnull {x : CX} {l : Launch} {g : CG} {M : MI} {nL k n : Nat} {μ : Mem} {pc : Nat} {lv : LV} {st : List AV} (C : Cx x l g M) {r : Option Nat} {off : Int} {tgt : Nat} (d : decode M.1 pc = .ok (.ifnonnull off, 3)) (ht : (pc : Int) + off = (tgt : Int)) (kt : ¬ r = none → V x g nL k n μ tgt lv st) (kf : ¬ ¬ r = none → V x g nL k n μ (pc + 3) lv st) : V x g nL k n μ pc lv (aR r :: st) := by
  obtain ⟨p, l0, e, R, s, m, args, below, meth, c, Q⟩ := x
  intro h0 H locs ls h1 h2 h3
  cases r with
  | none => exact lv_ifnonnullN C.1 C.2.1 d (kf (fun z => z rfl) h0 H locs ls h1 h2 h3)
  | some a => exact lv_ifnonnull C.1 C.2.1 d ht (kt (fun z => by cases z) h0 H locs ls h1 h2 h3)
theorem v_goto {x : CX} {l : Launch} {g : CG} {M : MI} {nL k n : Nat} {μ : Mem} {pc : Nat} {lv : LV} {st : List AV} (C : Cx x l g M) {off : Int} {tgt : Nat} (d : decode M.1 pc = .ok (.goto off, 3)) (ht : (pc : Int) + off = (tgt : Int)) (kk : V x g nL k n μ tgt lv st) : V x g nL k n μ pc lv st := by
  obtain ⟨p, l0, e, R, s, m, args, below, meth, c, Q⟩ := x
  intro h0 H locs ls h1 h2 h3
  exact lv_goto C.1 C.2.1 d ht (kk h0 H locs ls h1 h2 h3)
theorem v_sub {x : CX} {g : CG} {nL k n : Nat} {μ : Mem} {pc : Nat} {lv lv2 : LV} {st : List AV} (hl : lvle lv2 lv) (kk : V x g nL k n μ pc lv2 st) : V x g nL k n μ pc lv st := fun h0 H locs ls h1 h2 h3 => kk h0 H locs ls h1 h2 (lvm_le h3 hl)
end
section
/-! LAYER 0, the heap: what the shallow functions read and write, and the rows of fields and arrays -/
def mfV (μ : Mem) (r : Option Nat) (ci kf : Nat) : Option AV := match r with
  | none => none
  | some a => if a < μ.1 then (match μ.2 a with
    | .inr (c, fs) => if c = ci then fs[kf]? else none
    | .inl _ => none) else none
def mfI (μ : Mem) (r : Option Nat) (ci kf : Nat) : Option Int32 := match mfV μ r ci kf with
  | some (.inl x) => some x
  | _ => none
def mfJ (μ : Mem) (r : Option Nat) (ci kf : Nat) : Option Int64 := match mfV μ r ci kf with
  | some (.inr (.inl x)) => some x
  | _ => none
def mfR (μ : Mem) (r : Option Nat) (ci kf : Nat) : Option (Option Nat) := match mfV μ r ci kf with
  | some (.inr (.inr (.inl x))) => some x
  | _ => none
def mpV (μ : Mem) (r : Option Nat) (ci kf : Nat) (v : AV) : Option Mem := match r with
  | none => none
  | some a => if a < μ.1 then (match μ.2 a with
    | .inr (c, fs) => if c = ci ∧ kf < fs.length then some (μ.1, va_up μ.2 a (.inr (ci, fs.set kf v))) else none
    | .inl _ => none) else none
def mpI (μ : Mem) (r : Option Nat) (ci kf : Nat) (x : Int32) : Option Mem := mpV μ r ci kf (aI x)
def mpJ (μ : Mem) (r : Option Nat) (ci kf : Nat) (x : Int64) : Option Mem := mpV μ r ci kf (aJ x)
def mpR (μ : Mem) (r : Option Nat) (ci kf : Nat) (x : Option Nat) : Option Mem := mpV μ r ci kf (aR x)
def mpZ (μ : Mem) (r : Option Nat) (ci kf : Nat) (x : Int32) : Option Mem := if x = 0 ∨ x = 1 then mpV μ r ci kf (aI x) else none
/-- a receiver: an object of class ci -/
def mck (μ : Mem) (r : Option Nat) (ci : Nat) : Option Nat := match r with
  | none => none
  | some a => if a < μ.1 then (match μ.2 a with
    | .inr (c, _) => if c = ci then some a else none
    | .inl _ => none) else none
def maV (μ : Mem) (t : Nat) (r : Option Nat) : Option (Nat × AA) := match r with
  | none => none
  | some a => if a < μ.1 then (match μ.2 a with
    | .inl (t2, n, f) => if t2 = t then some (n, f) else none
    | .inr _ => none) else none
def maI (μ : Mem) (t : Nat) (r : Option Nat) (i : Int32) : Option Int32 := match maV μ t r with
  | some (n, .inl f) => if i < 0 ∨ n ≤ i.toNatClampNeg then none else some (f i.toNatClampNeg)
  | _ => none
def maJ (μ : Mem) (t : Nat) (r : Option Nat) (i : Int32) : Option Int64 := match maV μ t r with
  | some (n, .inr (.inl f)) => if i < 0 ∨ n ≤ i.toNatClampNeg then none else some (f i.toNatClampNeg)
  | _ => none
def maR (μ : Mem) (t : Nat) (r : Option Nat) (i : Int32) : Option (Option Nat) := match maV μ t r with
  | some (n, .inr (.inr f)) => if i < 0 ∨ n ≤ i.toNatClampNeg then none else some (f i.toNatClampNeg)
  | _ => none
def mbV (μ : Mem) (t : Nat) (r : Option Nat) (n : Nat) (f : AA) : Option Mem := match r with
  | none => none
  | some a => some (μ.1, va_up μ.2 a (.inl (t, n, f)))
def mbI (μ : Mem) (t : Nat) (r : Option Nat) (i x : Int32) : Option Mem := match maV μ t r with
  | some (n, .inl f) => if i < 0 ∨ n ≤ i.toNatClampNeg then none else mbV μ t r n (.inl (upd f i.toNatClampNeg x))
  | _ => none
def mbZ (μ : Mem) (t : Nat) (r : Option Nat) (i x : Int32) : Option Mem := match maV μ t r with
  | some (n, .inl f) => if i < 0 ∨ n ≤ i.toNatClampNeg then none else if x = 0 ∨ x = 1 then mbV μ t r n (.inl (upd f i.toNatClampNeg x)) else none
  | _ => none
def mbJ (μ : Mem) (t : Nat) (r : Option Nat) (i : Int32) (x : Int64) : Option Mem := match maV μ t r with
  | some (n, .inr (.inl f)) => if i < 0 ∨ n ≤ i.toNatClampNeg then none else mbV μ t r n (.inr (.inl (vp_updL f i.toNatClampNeg x)))
  | _ => none
/-- the value is null or an object of class ci -/
def mbR (μ : Mem) (t ci : Nat) (r : Option Nat) (i : Int32) (x : Option Nat) : Option Mem := match maV μ t r with
  | some (n, .inr (.inr f)) => if i < 0 ∨ n ≤ i.toNatClampNeg then none else if x = none ∨ mck μ x ci = x then mbV μ t r n (.inr (.inr (va_up f i.toNatClampNeg x))) else none
  | _ => none
def mal (μ : Mem) (r : Option Nat) : Option Int32 := match r with
  | none => none
  | some a => if a < μ.1 then (match μ.2 a with
    | .inl (t, n, _) => if t < 6 then some (Int32.ofNat n) else none
    | .inr _ => none) else none
def retZ (x : Int32) (μ : Mem) : Option (Int32 × Mem) := if x = 0 ∨ x = 1 then some (x, μ) else none
theorem ob {α β : Type} {o : Option α} {f : α → Option β} {r : β} (h : o.bind f = some r) : ∃ v, o = some v ∧ f v = some r := Option.bind_eq_some_iff.mp h
theorem ifT {c : Prop} [Decidable c] {α : Type} {a b r : α} (h : (if c then a else b) = r) (hc : c) : a = r := by rw [if_pos hc] at h; exact h
theorem ifF {c : Prop} [Decidable c] {α : Type} {a b r : α} (h : (if c then a else b) = r) (hc : ¬ c) : b = r := by rw [if_neg hc] at h; exact h
theorem oz {c : Prop} [Decidable c] {α : Type} {a : Option α} {r : α} (h : (if c then none else a) = some r) : ¬ c ∧ a = some r := by
  by_cases hc : c
  · rw [if_pos hc] at h; cases h
  · rw [if_neg hc] at h; exact ⟨hc, h⟩
theorem oy {c : Prop} [Decidable c] {α : Type} {a : Option α} {r : α} (h : (if c then a else none) = some r) : c ∧ a = some r := by
  by_cases hc : c
  · rw [if_pos hc] at h; exact ⟨hc, h⟩
  · rw [if_neg hc] at h; cases h
theorem mfV_spec {μ : Mem} {r : Option Nat} {ci kf : Nat} {v : AV} (h : mfV μ r ci kf = some v) : ∃ a fs, r = some a ∧ a < μ.1 ∧ μ.2 a = .inr (ci, fs) ∧ fs[kf]? = some v := by
  cases r with
  | none => cases h
  | some a =>
    unfold mfV at h
    obtain ⟨ha, h⟩ := oy h
    rcases hc : μ.2 a with y | ⟨c, fs⟩
    · rw [hc] at h; cases h
    · rw [hc] at h
      dsimp only at h
      obtain ⟨h0, h9⟩ := oy h
      subst h0
      exact ⟨a, fs, rfl, ha, hc, h9⟩
theorem mfI_spec {μ : Mem} {r : Option Nat} {ci kf : Nat} {v : Int32} (h : mfI μ r ci kf = some v) : mfV μ r ci kf = some (aI v) := by
  unfold mfI at h
  split at h
  · rename_i x e; cases h; exact e
  · cases h
theorem mfJ_spec {μ : Mem} {r : Option Nat} {ci kf : Nat} {v : Int64} (h : mfJ μ r ci kf = some v) : mfV μ r ci kf = some (aJ v) := by
  unfold mfJ at h
  split at h
  · rename_i x e; cases h; exact e
  · cases h
theorem mfR_spec {μ : Mem} {r : Option Nat} {ci kf : Nat} {v : Option Nat} (h : mfR μ r ci kf = some v) : mfV μ r ci kf = some (aR v) := by
  unfold mfR at h
  split at h
  · rename_i x e; cases h; exact e
  · cases h
theorem mpV_spec {μ μ' : Mem} {r : Option Nat} {ci kf : Nat} {v : AV} (h : mpV μ r ci kf v = some μ') : ∃ a fs, r = some a ∧ a < μ.1 ∧ μ.2 a = .inr (ci, fs) ∧ kf < fs.length ∧ μ' = (μ.1, va_up μ.2 a (.inr (ci, fs.set kf v))) := by
  cases r with
  | none => cases h
  | some a =>
    unfold mpV at h
    obtain ⟨ha, h⟩ := oy h
    rcases hc : μ.2 a with y | ⟨c, fs⟩
    · rw [hc] at h; cases h
    · rw [hc] at h
      dsimp only at h
      obtain ⟨⟨h0, hk⟩, h9⟩ := oy h
      subst h0
      exact ⟨a, fs, rfl, ha, hc, hk, (Option.some.inj h9).symm⟩
theorem maV_spec {μ : Mem} {t : Nat} {r : Option Nat} {n : Nat} {f : AA} (h : maV μ t r = some (n, f)) : ∃ a, r = some a ∧ a < μ.1 ∧ μ.2 a = .inl (t, n, f) := by
  cases r with
  | none => cases h
  | some a =>
    unfold maV at h
    obtain ⟨ha, h⟩ := oy h
    rcases hc : μ.2 a with ⟨t2, n2, f2⟩ | y
    · rw [hc] at h
      dsimp only at h
      obtain ⟨h0, h9⟩ := oy h
      clear h
      subst h0
      cases h9
      exact ⟨a, rfl, ha, hc⟩
    · rw [hc] at h; cases h
theorem mck_spec {μ : Mem} {r : Option Nat} {ci b : Nat} (h : mck μ r ci = some b) : ∃ fs, r = some b ∧ b < μ.1 ∧ μ.2 b = .inr (ci, fs) := by
  cases r with
  | none => cases h
  | some a =>
    unfold mck at h
    obtain ⟨ha, h⟩ := oy h
    rcases hc : μ.2 a with y | ⟨c, fs⟩
    · rw [hc] at h; cases h
    · rw [hc] at h
      dsimp only at h
      obtain ⟨h0, h9⟩ := oy h
      clear h
      subst h0
      cases h9
      exact ⟨fs, rfl, ha, hc⟩
abbrev Cty {x : CX} {l : Launch} {g : CG} {M : MI} (C : Cx x l g M) : g.2.2.map (fun q => q.2) = arrTys := C.2.2.2.2.2.2.2.2.2.2.2.2.1
abbrev Cex {x : CX} {l : Launch} {g : CG} {M : MI} (C : Cx x l g M) : Ext g (xs x) := C.2.2.2.2.2.2.2.2.2.2.2.2.2.1
abbrev Cns {x : CX} {l : Launch} {g : CG} {M : MI} (C : Cx x l g M) : ∀ w ∈ lw_ns, va_Nw w (xs x) := C.2.2.2.2.2.2.2.2.2.2.2.2.2.2
/-- what a getfield needs: the class of number ci, its field kf, the link -/
def GF (own : String) (idx ci kf : Nat) : Prop := ∃ (C : String) (T : u_T) (N : Nat), vwCl[ci]? = some (C, T, N) ∧ kf < N ∧ (∀ w ∈ u_ws C T N, w ∈ lw_ok) ∧ (T kf).1 = C ∧ (Cond.fieldLink own idx C (T kf).2.1 (T kf).2.2.1 ∈ lw_ok ∨ ∃ host, Cond.fieldLinkNest own idx C (T kf).2.1 (T kf).2.2.1 host ∈ lw_ns)
def PF (own mn : String) (idx ci kf : Nat) (ty : FieldType) : Prop := ∃ (C : String) (T : u_T) (N : Nat) (ty0 : Nat → FieldType), vwCl[ci]? = some (C, T, N) ∧ kf < N ∧ (∀ w ∈ u_ws C T N, w ∈ lw_ok) ∧ (T kf).1 = C ∧ (∀ k, k < N → parseFieldDescriptor (T k).2.2.1 = some (ty0 k)) ∧ (∀ a, a < N → ∀ b, b < N → a ≠ b → (T a).2.1 ≠ (T b).2.1) ∧ parseFieldDescriptor (T kf).2.2.1 = some ty ∧ (((T kf).2.2.2 = false ∧ (Cond.fieldLink own idx C (T kf).2.1 (T kf).2.2.1 ∈ lw_ok ∨ ∃ host, Cond.fieldLinkNest own idx C (T kf).2.1 (T kf).2.2.1 host ∈ lw_ns)) ∨ ((T kf).2.2.2 = true ∧ mn = "<init>" ∧ C = own ∧ Cond.fieldLink own idx C (T kf).2.1 (T kf).2.2.1 ∈ lw_ok))
theorem v_getV {x : CX} {l : Launch} {g : CG} {M : MI} {nL k n : Nat} {μ : Mem} {pc : Nat} {lv : LV} {st : List AV} (C : Cx x l g M) {idx ci kf : Nat} {r : Option Nat} {v : AV} (d : decode M.1 pc = .ok (.getfield idx, 3)) (gf : GF M.2.2.1 idx ci kf) (e : mfV μ r ci kf = some v) (kk : V x g nL k n μ (pc + 3) lv (v :: st)) : V x g nL k n μ pc lv (aR r :: st) := by
  obtain ⟨p, l0, e0, R, s, m, args, below, meth, c, Q⟩ := x
  intro h0 H locs ls h1 h2 h3
  obtain ⟨a, fs, rfl, ha, hc, hv⟩ := mfV_spec e
  obtain ⟨Cn, T, N, q1, q2, q3, q4, q5⟩ := gf
  have hat : (hw g μ)[a]? = some (g.1.1 + a, .inr (ci, fs.map (av_v g.1))) := by rw [hw_at g μ ha, hc]; rfl
  have hfv : (fs.map (av_v g.1))[kf]? = some (av_v g.1 v) := by rw [List.getElem?_map, hv]; rfl
  rcases q5 with q5 | ⟨host, q5⟩
  · exact va_get C.1 C.2.1 C.2.2.2.2.1 q3 C.2.2.2.1 C.2.2.2.2.2.1 h1 a hat q1 kf q2 (C.2.2.2.2.1 _ q5) (by rw [q4]; exact fun _ z => z) hfv d (kk h0 H locs ls h1 h2 h3)
  · exact va_getN C.1 C.2.1 C.2.2.2.2.1 q3 C.2.2.2.1 C.2.2.2.2.2.1 h1 a hat q1 kf q2 (va_Nw.use rfl (Cns C _ q5)) (by rw [q4]; exact fun _ z => z) hfv d (kk h0 H locs ls h1 h2 h3)
theorem v_getI {x : CX} {l : Launch} {g : CG} {M : MI} {nL k n : Nat} {μ : Mem} {pc : Nat} {lv : LV} {st : List AV} (C : Cx x l g M) {idx ci kf : Nat} {r : Option Nat} {v : Int32} (d : decode M.1 pc = .ok (.getfield idx, 3)) (gf : GF M.2.2.1 idx ci kf) (e : mfI μ r ci kf = some v) (kk : V x g nL k n μ (pc + 3) lv (aI v :: st)) : V x g nL k n μ pc lv (aR r :: st) := v_getV C d gf (mfI_spec e) kk
theorem v_getJ {x : CX} {l : Launch} {g : CG} {M : MI} {nL k n : Nat} {μ : Mem} {pc : Nat} {lv : LV} {st : List AV} (C : Cx x l g M) {idx ci kf : Nat} {r : Option Nat} {v : Int64} (d : decode M.1 pc = .ok (.getfield idx, 3)) (gf : GF M.2.2.1 idx ci kf) (e : mfJ μ r ci kf = some v) (kk : V x g nL k n μ (pc + 3) lv (aJ v :: st)) : V x g nL k n μ pc lv (aR r :: st) := v_getV C d gf (mfJ_spec e) kk
theorem v_getR {x : CX} {l : Launch} {g : CG} {M : MI} {nL k n : Nat} {μ : Mem} {pc : Nat} {lv : LV} {st : List AV} (C : Cx x l g M) {idx ci kf : Nat} {r v : Option Nat} (d : decode M.1 pc = .ok (.getfield idx, 3)) (gf : GF M.2.2.1 idx ci kf) (e : mfR μ r ci kf = some v) (kk : V x g nL k n μ (pc + 3) lv (aR v :: st)) : V x g nL k n μ pc lv (aR r :: st) := v_getV C d gf (mfR_spec e) kk
theorem hold_set {g : CG} {μ : Mem} {H1 : Heap} {a : Nat} {E : ACl} {w : Nat × va_E} (hw0 : w = (g.1.1 + a, ac_c g E)) (h : va_P g.2.1 vwCl ((hw g μ).set a w) H1) : Hold g (μ.1, va_up μ.2 a E) H1 := by
  subst hw0
  rw [hw_set] at h
  exact h
theorem v_putV {x : CX} {l : Launch} {g : CG} {M : MI} {nL k n : Nat} {μ μ' : Mem} {pc : Nat} {lv : LV} {st : List AV} (C : Cx x l g M) {idx ci kf : Nat} {ty : FieldType} {r : Option Nat} {v : AV} (hn : narrow ty (av_v g.1 v) = av_v g.1 v) (hf : fits ty (av_v g.1 v) = true) (d : decode M.1 pc = .ok (.putfield idx, 3)) (pf : PF M.2.2.1 M.2.2.2.1 idx ci kf ty) (e : mpV μ r ci kf v = some μ') (kk : V x g nL k n μ' (pc + 3) lv st) : V x g nL k n μ pc lv (v :: aR r :: st) := by
  obtain ⟨p, l0, e0, R, s, m, args, below, meth, c, Q⟩ := x
  intro h0 H locs ls h1 h2 h3
  obtain ⟨a, fs, rfl, ha, hc, hk, rfl⟩ := mpV_spec e
  obtain ⟨Cn, T, N, ty0, q1, q2, q3, q4, q6, q7, q8, q5⟩ := pf
  have hat : (hw g μ)[a]? = some (g.1.1 + a, .inr (ci, fs.map (av_v g.1))) := by rw [hw_at g μ ha, hc]; rfl
  have hl : kf < (fs.map (av_v g.1)).length := by rw [List.length_map]; exact hk
  have fin : ∀ (H1 : Heap) (locs1 : List Loc), va_P g.2.1 vwCl ((hw g μ).set a (g.1.1 + a, .inr (ci, (fs.map (av_v g.1)).set kf (av_v g.1 v)))) H1 → va_D (fun q => g.1.1 ≤ q) ((hw g μ).set a (g.1.1 + a, .inr (ci, (fs.map (av_v g.1)).set kf (av_v g.1 v)))) → va_S (fun q => g.1.1 ≤ q) s.heap H1 locs1 → W p l0 e0 R s m args below meth c H1 locs1 k n Q (F0 m (pc + 3) ls (st.map (av_v g.1))) := fun H1 locs1 y _ w =>
    kk h0 H1 locs1 ls (hold_set (E := .inr (ci, fs.set kf v)) (by show _ = (_, Sum.inr (ci, (fs.set kf v).map (av_v g.1))); rw [List.map_set]) y) w h3
  have hsame : ∀ y, s.fieldFound? (T kf).1 (T kf).2.1 (T kf).2.2.1 = some y → s.fieldFound? Cn (T kf).2.1 (T kf).2.2.1 = some y := by rw [q4]; exact fun _ z => z
  rcases q5 with ⟨q5, q9 | ⟨host, q9⟩⟩ | ⟨q5, q9, q10, q11⟩
  · exact va_put C.1 C.2.1 C.2.2.2.2.1 q3 ty0 q6 q7 C.2.2.2.1 C.2.2.2.2.2.1 h1 (hw_D g μ) h2 a hat q1 kf q2 (C.2.2.2.2.1 _ q9) hsame q5 q8 hn hf hl d fin
  · exact va_putN C.1 C.2.1 C.2.2.2.2.1 q3 ty0 q6 q7 C.2.2.2.1 C.2.2.2.2.2.1 h1 (hw_D g μ) h2 a hat q1 kf q2 (va_Nw.use rfl (Cns C _ q9)) hsame q5 q8 hn hf hl d fin
  · exact va_putF C.1 C.2.1 C.2.2.2.2.1 q3 ty0 q6 q7 C.2.2.2.1 C.2.2.2.2.2.1 h1 (hw_D g μ) h2 a hat q1 kf q2 (C.2.2.2.2.1 _ q11) hsame q5 (C.2.2.2.2.2.2.2.2.2.2.2.1.trans q9) (q4.trans q10) q8 hn hf hl d fin
theorem v_putI {x : CX} {l : Launch} {g : CG} {M : MI} {nL k n : Nat} {μ μ2 : Mem} {pc : Nat} {lv : LV} {st : List AV} (C : Cx x l g M) {idx ci kf : Nat} {r : Option Nat} {v : Int32} (d : decode M.1 pc = .ok (.putfield idx, 3)) (pf : PF M.2.2.1 M.2.2.2.1 idx ci kf .int) (e : mpI μ r ci kf v = some μ2) (kk : V x g nL k n μ2 (pc + 3) lv st) : V x g nL k n μ pc lv (aI v :: aR r :: st) := v_putV C rfl rfl d pf e kk
theorem v_putJ {x : CX} {l : Launch} {g : CG} {M : MI} {nL k n : Nat} {μ μ2 : Mem} {pc : Nat} {lv : LV} {st : List AV} (C : Cx x l g M) {idx ci kf : Nat} {r : Option Nat} {v : Int64} (d : decode M.1 pc = .ok (.putfield idx, 3)) (pf : PF M.2.2.1 M.2.2.2.1 idx ci kf .long) (e : mpJ μ r ci kf v = some μ2) (kk : V x g nL k n μ2 (pc + 3) lv st) : V x g nL k n μ pc lv (aJ v :: aR r :: st) := v_putV C rfl rfl d pf e kk
theorem v_putR {x : CX} {l : Launch} {g : CG} {M : MI} {nL k n : Nat} {μ μ2 : Mem} {pc : Nat} {lv : LV} {st : List AV} (C : Cx x l g M) {idx ci kf : Nat} {ty : FieldType} {r v : Option Nat} (d : decode M.1 pc = .ok (.putfield idx, 3)) (pf : PF M.2.2.1 M.2.2.2.1 idx ci kf ty) (hty : refKind ty = true) (e : mpR μ r ci kf v = some μ2) (kk : V x g nL k n μ2 (pc + 3) lv st) : V x g nL k n μ pc lv (aR v :: aR r :: st) := by
  refine v_putV C ?_ ?_ d pf e kk
  · cases ty <;> first | (cases hty; done) | (cases v <;> rfl)
  · cases ty <;> first | (cases hty; done) | (cases v <;> rfl)
theorem bool_nar {x : Int32} (h : x = 0 ∨ x = 1) : narrow .boolean (.int x) = .int x ∧ fits .boolean (.int x) = true := by
  rcases h with rfl | rfl
  · exact ⟨rfl, rfl⟩
  · exact ⟨rfl, rfl⟩
theorem v_putZ {x : CX} {l : Launch} {g : CG} {M : MI} {nL k n : Nat} {μ μ2 : Mem} {pc : Nat} {lv : LV} {st : List AV} (C : Cx x l g M) {idx ci kf : Nat} {r : Option Nat} {v : Int32} (d : decode M.1 pc = .ok (.putfield idx, 3)) (pf : PF M.2.2.1 M.2.2.2.1 idx ci kf .boolean) (e : mpZ μ r ci kf v = some μ2) (kk : V x g nL k n μ2 (pc + 3) lv st) : V x g nL k n μ pc lv (aI v :: aR r :: st) := by
  unfold mpZ at e
  obtain ⟨hb, e⟩ := oy e
  exact v_putV C (bool_nar hb).1 (bool_nar hb).2 d pf e kk
end
section
/-! LAYER 0, arrays -/
theorem tyat {g : CG} (h : g.2.2.map (fun q => q.2) = arrTys) {t : Nat} {ty : FieldType} (ht : arrTys[t]? = some ty) : g.2.2[t]? = some ((g.2.2.getD t default).1, ty) := by
  have h1 : (g.2.2.map (fun q => q.2))[t]? = some ty := by rw [h]; exact ht
  rw [List.getElem?_map] at h1
  cases hq : g.2.2[t]? with
  | none => rw [hq] at h1; cases h1
  | some q =>
    rw [hq] at h1
    have h2 : q.2 = ty := Option.some.inj h1
    rw [List.getD_eq_getElem?_getD, hq]
    show some q = some (q.1, ty)
    rw [← h2]
theorem arr_at {g : CG} {μ : Mem} {a t n : Nat} {f : AA} (ha : a < μ.1) (hc : μ.2 a = .inl (t, n, f)) : (hw g μ)[a]? = some (g.1.1 + a, .inl ((g.2.2.getD t default).1, n, aa_c g.1 f)) := by rw [hw_at g μ ha, hc]; rfl
theorem v_iaload {x : CX} {l : Launch} {g : CG} {M : MI} {nL k n : Nat} {μ : Mem} {pc : Nat} {lv : LV} {st : List AV} (C : Cx x l g M) {i : Int32} {r : Option Nat} {v : Int32} (d : decode M.1 pc = .ok (.iaload, 1)) (e : maI μ 0 r i = some v) (kk : V x g nL k n μ (pc + 1) lv (aI v :: st)) : V x g nL k n μ pc lv (aI i :: aR r :: st) := by
  obtain ⟨p, l0, e0, R, s, m, args, below, meth, c, Q⟩ := x
  intro h0 H locs ls h1 h2 h3
  unfold maI at e
  split at e
  · rename_i N f ev
    obtain ⟨hin, e⟩ := oz e
    cases e
    obtain ⟨a, rfl, ha, hc⟩ := maV_spec ev
    exact va_iald C.1 C.2.1 C.2.2.2.2.2.1 h1 a 0 (arr_at ha hc) (tyat (Cty C) (t := 0) rfl) hin d (kk h0 H locs ls h1 h2 h3)
  · cases e
theorem v_baload {x : CX} {l : Launch} {g : CG} {M : MI} {nL k n : Nat} {μ : Mem} {pc : Nat} {lv : LV} {st : List AV} (C : Cx x l g M) {i : Int32} {r : Option Nat} {v : Int32} (d : decode M.1 pc = .ok (.baload, 1)) (e : maI μ 2 r i = some v) (kk : V x g nL k n μ (pc + 1) lv (aI v :: st)) : V x g nL k n μ pc lv (aI i :: aR r :: st) := by
  obtain ⟨p, l0, e0, R, s, m, args, below, meth, c, Q⟩ := x
  intro h0 H locs ls h1 h2 h3
  unfold maI at e
  split at e
  · rename_i N f ev
    obtain ⟨hin, e⟩ := oz e
    cases e
    obtain ⟨a, rfl, ha, hc⟩ := maV_spec ev
    exact va_zald C.1 C.2.1 C.2.2.2.2.2.1 h1 a 2 (arr_at ha hc) (tyat (Cty C) (t := 2) rfl) hin d (kk h0 H locs ls h1 h2 h3)
  · cases e
theorem v_laload {x : CX} {l : Launch} {g : CG} {M : MI} {nL k n : Nat} {μ : Mem} {pc : Nat} {lv : LV} {st : List AV} (C : Cx x l g M) {i : Int32} {r : Option Nat} {v : Int64} (d : decode M.1 pc = .ok (.laload, 1)) (e : maJ μ 1 r i = some v) (kk : V x g nL k n μ (pc + 1) lv (aJ v :: st)) : V x g nL k n μ pc lv (aI i :: aR r :: st) := by
  obtain ⟨p, l0, e0, R, s, m, args, below, meth, c, Q⟩ := x
  intro h0 H locs ls h1 h2 h3
  unfold maJ at e
  split at e
  · rename_i N f ev
    obtain ⟨hin, e⟩ := oz e
    cases e
    obtain ⟨a, rfl, ha, hc⟩ := maV_spec ev
    exact va_lald C.1 C.2.1 C.2.2.2.2.2.1 h1 a 1 (arr_at ha hc) (tyat (Cty C) (t := 1) rfl) hin d (kk h0 H locs ls h1 h2 h3)
  · cases e
theorem v_aaload4 {x : CX} {l : Launch} {g : CG} {M : MI} {nL k n : Nat} {μ : Mem} {pc : Nat} {lv : LV} {st : List AV} (C : Cx x l g M) {i : Int32} {r : Option Nat} {v : Option Nat} (d : decode M.1 pc = .ok (.aaload, 1)) (e : maR μ 4 r i = some v) (kk : V x g nL k n μ (pc + 1) lv (aR v :: st)) : V x g nL k n μ pc lv (aI i :: aR r :: st) := by
  obtain ⟨p, l0, e0, R, s, m, args, below, meth, c, Q⟩ := x
  intro h0 H locs ls h1 h2 h3
  unfold maR at e
  split at e
  · rename_i N f ev
    obtain ⟨hin, e⟩ := oz e
    cases e
    obtain ⟨a, rfl, ha, hc⟩ := maV_spec ev
    exact va_aldq C.1 C.2.1 C.2.2.2.2.2.1 h1 a 4 (arr_at ha hc) (tyat (Cty C) (t := 4) rfl) hin d (kk h0 H locs ls h1 h2 h3)
  · cases e
theorem v_aaload5 {x : CX} {l : Launch} {g : CG} {M : MI} {nL k n : Nat} {μ : Mem} {pc : Nat} {lv : LV} {st : List AV} (C : Cx x l g M) {i : Int32} {r : Option Nat} {v : Option Nat} (d : decode M.1 pc = .ok (.aaload, 1)) (e : maR μ 5 r i = some v) (kk : V x g nL k n μ (pc + 1) lv (aR v :: st)) : V x g nL k n μ pc lv (aI i :: aR r :: st) := by
  obtain ⟨p, l0, e0, R, s, m, args, below, meth, c, Q⟩ := x
  intro h0 H locs ls h1 h2 h3
  unfold maR at e
  split at e
  · rename_i N f ev
    obtain ⟨hin, e⟩ := oz e
    cases e
    obtain ⟨a, rfl, ha, hc⟩ := maV_spec ev
    exact va_aldq C.1 C.2.1 C.2.2.2.2.2.1 h1 a 5 (arr_at ha hc) (tyat (Cty C) (t := 5) rfl) hin d (kk h0 H locs ls h1 h2 h3)
  · cases e
theorem nar_bool {x : Int32} (h : x = 0 ∨ x = 1) : vp_nar .boolean x = x := by
  rcases h with rfl | rfl <;> rfl
theorem v_iastore {x : CX} {l : Launch} {g : CG} {M : MI} {nL k n : Nat} {μ μ2 : Mem} {pc : Nat} {lv : LV} {st : List AV} (C : Cx x l g M) {i : Int32} {r : Option Nat} {v : Int32} (d : decode M.1 pc = .ok (.iastore, 1)) (e : mbI μ 0 r i v = some μ2) (kk : V x g nL k n μ2 (pc + 1) lv st) : V x g nL k n μ pc lv (aI v :: aI i :: aR r :: st) := by
  obtain ⟨p, l0, e0, R, s, m, args, below, meth, c, Q⟩ := x
  intro h0 H locs ls h1 h2 h3
  unfold mbI at e
  split at e
  · rename_i N f ev
    obtain ⟨hin, e⟩ := oz e
    obtain ⟨a, rfl, ha, hc⟩ := maV_spec ev
    cases e
    exact va_iast C.1 C.2.1 C.2.2.2.2.2.1 h1 (hw_D g μ) h2 a 0 (arr_at ha hc) (tyat (Cty C) (t := 0) rfl) hin d (fun H1 locs1 y _ w => kk h0 H1 locs1 ls (hold_set (E := .inl (0, N, .inl (upd f i.toNatClampNeg v))) (by rfl) y) w h3)
  · cases e
theorem v_bastore {x : CX} {l : Launch} {g : CG} {M : MI} {nL k n : Nat} {μ μ2 : Mem} {pc : Nat} {lv : LV} {st : List AV} (C : Cx x l g M) {i : Int32} {r : Option Nat} {v : Int32} (d : decode M.1 pc = .ok (.bastore, 1)) (e : mbZ μ 2 r i v = some μ2) (kk : V x g nL k n μ2 (pc + 1) lv st) : V x g nL k n μ pc lv (aI v :: aI i :: aR r :: st) := by
  obtain ⟨p, l0, e0, R, s, m, args, below, meth, c, Q⟩ := x
  intro h0 H locs ls h1 h2 h3
  unfold mbZ at e
  split at e
  · rename_i N f ev
    obtain ⟨hin, e⟩ := oz e
    obtain ⟨hz, e⟩ := oy e
    obtain ⟨a, rfl, ha, hc⟩ := maV_spec ev
    cases e
    exact va_zast C.1 C.2.1 C.2.2.2.2.2.1 h1 (hw_D g μ) h2 a 2 (arr_at ha hc) (tyat (Cty C) (t := 2) rfl) hin d (fun H1 locs1 y _ w => kk h0 H1 locs1 ls (hold_set (E := .inl (2, N, .inl (upd f i.toNatClampNeg v))) (by rw [nar_bool hz]; rfl) y) w h3)
  · cases e
theorem v_lastore {x : CX} {l : Launch} {g : CG} {M : MI} {nL k n : Nat} {μ μ2 : Mem} {pc : Nat} {lv : LV} {st : List AV} (C : Cx x l g M) {i : Int32} {r : Option Nat} {v : Int64} (d : decode M.1 pc = .ok (.lastore, 1)) (e : mbJ μ 1 r i v = some μ2) (kk : V x g nL k n μ2 (pc + 1) lv st) : V x g nL k n μ pc lv (aJ v :: aI i :: aR r :: st) := by
  obtain ⟨p, l0, e0, R, s, m, args, below, meth, c, Q⟩ := x
  intro h0 H locs ls h1 h2 h3
  unfold mbJ at e
  split at e
  · rename_i N f ev
    obtain ⟨hin, e⟩ := oz e
    obtain ⟨a, rfl, ha, hc⟩ := maV_spec ev
    cases e
    exact va_last C.1 C.2.1 C.2.2.2.2.2.1 h1 (hw_D g μ) h2 a 1 (arr_at ha hc) (tyat (Cty C) (t := 1) rfl) hin d (fun H1 locs1 y _ w => kk h0 H1 locs1 ls (hold_set (E := .inl (1, N, .inr (.inl (vp_updL f i.toNatClampNeg v)))) (by rfl) y) w h3)
  · cases e
theorem v_alen {x : CX} {l : Launch} {g : CG} {M : MI} {nL k n : Nat} {μ : Mem} {pc : Nat} {lv : LV} {st : List AV} (C : Cx x l g M) {r : Option Nat} {v : Int32} (d : decode M.1 pc = .ok (.arraylength, 1)) (e : mal μ r = some v) (kk : V x g nL k n μ (pc + 1) lv (aI v :: st)) : V x g nL k n μ pc lv (aR r :: st) := by
  obtain ⟨p, l0, e0, R, s, m, args, below, meth, c, Q⟩ := x
  intro h0 H locs ls h1 h2 h3
  cases r with
  | none => cases e
  | some a =>
    unfold mal at e
    obtain ⟨ha, e⟩ := oy e
    rcases hc : μ.2 a with ⟨t, N, f⟩ | y
    · rw [hc] at e
      dsimp only at e
      obtain ⟨ht, e⟩ := oy e
      have hty : arrTys[t]? = some (arrTys.getD t .int) := by
        rw [List.getD_eq_getElem?_getD]
        have : t < arrTys.length := ht
        rw [List.getElem?_eq_getElem this]
        rfl
      exact va_alen C.1 C.2.1 C.2.2.2.2.2.1 h1 a t (arr_at ha hc) (tyat (Cty C) hty) (Option.some.inj e) d (kk h0 H locs ls h1 h2 h3)
    · rw [hc] at e; cases e
end
section
/-! LAYER 0, contracts, calls, returns -/
/-- a method's contract: from μ it answers r and leaves μ' -/
def CtB (g : CG) (μ : Mem) (U : State) : Prop := U.heap.size = g.1.1 + μ.1 ∧ Hold g μ U.heap ∧ va_K g.2.1 vwCl g.2.2 U ∧ g.2.2.map (fun q => q.2) = arrTys ∧ Ext g U ∧ (∀ w ∈ lw_ns, va_Nw w U)
def CtP (g : CG) (av : List AV) (μ : Mem) : Array Value → State → Prop := va_Pc (av.map (av_v g.1)) (CtB g μ)
def CtQ (g : CG) (M : MI) (μ : Mem) (r : Option AV) (μ' : Mem) : Array Value → State → Outcome → State → Prop := fun _ st oc t => oc = .returned (r.map (av_v g.1)) ∧ μ'.1 = μ.1 + M.2.2.2.2.2.cells ∧ Hold g μ' t.heap ∧ va_F (fun q => g.1.1 ≤ q) st t
def Ct (l : Launch) (y : MethodName) (M : MI) (g : CG) (av : List AV) (μ : Mem) (r : Option AV) (μ' : Mem) : Prop := Met l y (.code y M.1 M.2.1 M.2.2.2.2.1 :: lw_ok) M.2.2.2.2.2 (CtP g av μ) (CtQ g M μ r μ') M.2.2.2.2.2.cells M.2.2.2.2.2.slots (fun q => g.1.1 ≤ q)
/-- what the walk has promised: the contract's end -/
def Prom (x : CX) (g : CG) (M : MI) (μ : Mem) (r : Option AV) (μ' : Mem) : Prop := (xs x).heap.size = g.1.1 + μ.1 ∧ xQ x = MQ (xb x) (CtQ g M μ r μ') (xa x) (xs x) M.2.2.2.2.2.cells M.2.2.2.2.2.slots (fun q => g.1.1 ≤ q)
def stw (_ : BX) (st : List AV) : Nat := (st.map (fun a => if av_w a then 2 else 1)).sum
theorem stw_eq (g : BX) (st : List AV) : ((st.map (av_v g)).map fun v => v.category).sum = stw g st := by
  unfold stw
  rw [List.map_map]
  congr 1
  apply List.map_congr_left
  intro a _
  rcases a with x | x | r | k
  · rfl
  · rfl
  · cases r <;> rfl
  · rfl
/-- the locals at a method's entry -/
def lva (i : Nat) (av : List AV) : LV := match av with
  | [] => []
  | a :: r => (i, a) :: lva (if av_w a then i + 2 else i + 1) r
theorem av_cat2 (B : BX) (a : AV) : (av_v B a).category = 2 ↔ av_w a = true := by
  have h := av_cat B a
  rw [← h]
  simp
theorem lva_eq (B : BX) (av : List AV) : ∀ i, lv_args i (av.map (av_v B)) = lvm B (lva i av) := by
  induction av with
  | nil => intro i; rfl
  | cons a r ih =>
    intro i
    show (i, av_v B a) :: lv_args (if (av_v B a).category = 2 then i + 2 else i + 1) (r.map (av_v B)) = (i, av_v B a) :: lvm B (lva (if av_w a then i + 2 else i + 1) r)
    rw [ih]
    by_cases hw : av_w a = true
    · rw [if_pos ((av_cat2 B a).mpr hw), if_pos hw]
    · rw [if_neg (fun z => hw ((av_cat2 B a).mp z)), if_neg hw]
theorem lgs_eq (B : BX) (av : List AV) : (lg_sl (av.map (av_v B))).length = stw B av := by
  induction av with
  | nil => rfl
  | cons a r ih =>
    show (lg_sl (av_v B a :: r.map (av_v B))).length = (if av_w a then 2 else 1) + stw B r
    unfold lg_sl at ih ⊢
    rw [List.flatMap_cons, List.length_append, ih]
    congr 1
    by_cases hw : av_w a = true
    · rw [if_pos ((av_cat2 B a).mpr hw), if_pos hw]; rfl
    · rw [if_neg (fun z => hw ((av_cat2 B a).mp z)), if_neg hw]; rfl
theorem ct_of {l : Launch} {y : MethodName} {M : MI} {g : CG} {av : List AV} {μ : Mem} {r : Option AV} {μ' : Mem} (hy : plainName y.cls = true ∧ y.cls = M.2.2.1 ∧ y.name = M.2.2.2.1) (hn : stw g.1 av ≤ M.2.1) (h : ∀ x : CX, Cx x l g M → Prom x g M μ r μ' → V x g M.2.1 0 0 μ 0 (lva 0 av) []) : Ct l y M g av μ r μ' := by
  refine Met.ofW (cc := M.1) (maxL := M.2.1) (ret := M.2.2.2.2.1) hy.1 rfl ?_
  intro p e s m args below meth c s₁ B hml hv
  obtain ⟨rfl, hsz, hP, hK, hty, hE, hN⟩ := hv
  have hts := atoms_spec B.pre
  have hown : s.vm.findClass M.2.2.1 = some m.cls := by rw [← hy.2.1]; exact findClass_of_methodNamed B.named
  have C : Cx (p, l, e, M.2.2.2.2.2, s, m, (av.map (av_v g.1)).toArray, below, meth, c, MQ below (CtQ g M μ r μ') (av.map (av_v g.1)).toArray s M.2.2.2.2.2.cells M.2.2.2.2.2.slots (fun q => g.1.1 ≤ q)) l g M := ⟨B.exec, B.bytes, hml, hown, fun w hw => hts w (List.mem_cons_of_mem _ hw), hK, B.notSynchronized, by show g.1.1 ≤ s.heap.size; omega, rfl, rfl, B.returns, (name_of_methodNamed B.named B.method).1.trans hy.2.2, hty, hE, hN⟩
  have K := h _ C ⟨hsz, rfl⟩ (by show s.heap.size + 0 = _; omega) s.heap [] _ hP va_S.rf (by rw [← lva_eq]; exact lv_entry _ (by rw [lgs_eq]; exact hn))
  rw [lg_entry_eq]
  exact K
theorem v_end {x : CX} {l : Launch} {g : CG} {M : MI} {k n : Nat} {μ0 μ : Mem} {r : Option AV} {H : Heap} {locs : List Loc} (C : Cx x l g M) (F : Prom x g M μ0 r μ) (hk : k = M.2.2.2.2.2.cells) (h0 : (xs x).heap.size + k = g.1.1 + μ.1) (h1 : Hold g μ H) (h2 : va_S (fun q => g.1.1 ≤ q) (xs x).heap H locs) (t : State) (ht : t.heap = H) : CtQ g M μ0 r μ (xa x) (xs x) (.returned (r.map (av_v g.1))) t :=
  ⟨rfl, by have := F.1; omega, by rw [ht]; exact h1, h2.F ht⟩
theorem v_vret {x : CX} {l : Launch} {g : CG} {M : MI} {nL k n : Nat} {μ0 μ μ9 : Mem} {pc : Nat} {lv : LV} {rv : Unit} (C : Cx x l g M) (F : Prom x g M μ0 none μ9) (hM : M.2.2.2.2.1 = none ∧ k = M.2.2.2.2.2.cells ∧ n ≤ M.2.2.2.2.2.slots) (d : decode M.1 pc = .ok (.return_, 1)) (h : some ((), μ) = some (rv, μ9)) : V x g nL k n μ pc lv [] := by
  cases h
  obtain ⟨p, l0, e, R, s, m, args, below, meth, c, Q⟩ := x
  intro h0 H locs ls h1 h2 h3
  obtain ⟨hr, rfl, hn⟩ := hM
  have hQ : Q = MQ below (CtQ g M μ0 none μ) args s M.2.2.2.2.2.cells M.2.2.2.2.2.slots (fun q => g.1.1 ≤ q) := F.2
  show W p l0 e R s m args below meth c H locs M.2.2.2.2.2.cells n Q (F0 m pc ls ([].map (av_v g.1)))
  rw [hQ]
  exact W.widen (Nat.le_refl _) hn (W.vret C.1 C.2.1 (C.2.2.2.2.2.2.2.2.2.2.1.trans hr) (fun t ht _ => v_end (r := none) (n := n) C F rfl h0 h1 h2 t ht) h2.2.2 d C.2.2.2.2.2.2.1)
theorem v_iret {x : CX} {l : Launch} {g : CG} {M : MI} {nL k n : Nat} {μ0 μ μ9 : Mem} {pc : Nat} {lv : LV} {v rv : Int32} (C : Cx x l g M) (F : Prom x g M μ0 (some (aI rv)) μ9) (hM : M.2.2.2.2.1 = some .int ∧ k = M.2.2.2.2.2.cells ∧ n ≤ M.2.2.2.2.2.slots) (d : decode M.1 pc = .ok (.ireturn, 1)) (h : some (v, μ) = some (rv, μ9)) : V x g nL k n μ pc lv [aI v] := by
  cases h
  obtain ⟨p, l0, e, R, s, m, args, below, meth, c, Q⟩ := x
  intro h0 H locs ls h1 h2 h3
  obtain ⟨hr, rfl, hn⟩ := hM
  have hQ : Q = MQ below (CtQ g M μ0 (some (aI v)) μ) args s M.2.2.2.2.2.cells M.2.2.2.2.2.slots (fun q => g.1.1 ≤ q) := F.2
  show W p l0 e R s m args below meth c H locs M.2.2.2.2.2.cells n Q (F0 m pc ls ([aI v].map (av_v g.1)))
  rw [hQ]
  exact W.widen (Nat.le_refl _) hn (W.iret C.1 C.2.1 (C.2.2.2.2.2.2.2.2.2.2.1.trans hr) (fun t ht _ => v_end (r := some (aI v)) (n := n) C F rfl h0 h1 h2 t ht) h2.2.2 d C.2.2.2.2.2.2.1)
theorem v_lret {x : CX} {l : Launch} {g : CG} {M : MI} {nL k n : Nat} {μ0 μ μ9 : Mem} {pc : Nat} {lv : LV} {v rv : Int64} (C : Cx x l g M) (F : Prom x g M μ0 (some (aJ rv)) μ9) (hM : M.2.2.2.2.1 = some .long ∧ k = M.2.2.2.2.2.cells ∧ n ≤ M.2.2.2.2.2.slots) (d : decode M.1 pc = .ok (.lreturn, 1)) (h : some (v, μ) = some (rv, μ9)) : V x g nL k n μ pc lv [aJ v] := by
  cases h
  obtain ⟨p, l0, e, R, s, m, args, below, meth, c, Q⟩ := x
  intro h0 H locs ls h1 h2 h3
  obtain ⟨hr, rfl, hn⟩ := hM
  have hQ : Q = MQ below (CtQ g M μ0 (some (aJ v)) μ) args s M.2.2.2.2.2.cells M.2.2.2.2.2.slots (fun q => g.1.1 ≤ q) := F.2
  show W p l0 e R s m args below meth c H locs M.2.2.2.2.2.cells n Q (F0 m pc ls ([aJ v].map (av_v g.1)))
  rw [hQ]
  exact W.widen (Nat.le_refl _) hn (W.lret C.1 C.2.1 (C.2.2.2.2.2.2.2.2.2.2.1.trans hr) (fun t ht _ => v_end (r := some (aJ v)) (n := n) C F rfl h0 h1 h2 t ht) h2.2.2 d C.2.2.2.2.2.2.1)
theorem v_zret {x : CX} {l : Launch} {g : CG} {M : MI} {nL k n : Nat} {μ0 μ μ9 : Mem} {pc : Nat} {lv : LV} {v rv : Int32} (C : Cx x l g M) (F : Prom x g M μ0 (some (aI rv)) μ9) (hM : M.2.2.2.2.1 = some .boolean ∧ k = M.2.2.2.2.2.cells ∧ n ≤ M.2.2.2.2.2.slots) (d : decode M.1 pc = .ok (.ireturn, 1)) (h : retZ v μ = some (rv, μ9)) : V x g nL k n μ pc lv [aI v] := by
  unfold retZ at h
  obtain ⟨hz, h⟩ := oy h
  cases h
  obtain ⟨p, l0, e, R, s, m, args, below, meth, c, Q⟩ := x
  intro h0 H locs ls h1 h2 h3
  obtain ⟨hr, rfl, hn⟩ := hM
  have hQ : Q = MQ below (CtQ g M μ0 (some (aI v)) μ) args s M.2.2.2.2.2.cells M.2.2.2.2.2.slots (fun q => g.1.1 ≤ q) := F.2
  show W p l0 e R s m args below meth c H locs M.2.2.2.2.2.cells n Q (F0 m pc ls ([aI v].map (av_v g.1)))
  rw [hQ]
  exact W.widen (Nat.le_refl _) hn (W.zret C.1 C.2.1 (C.2.2.2.2.2.2.2.2.2.2.1.trans hr) (bool_nar hz).1 (fun t ht _ => v_end (r := some (aI v)) (n := n) C F rfl h0 h1 h2 t ht) h2.2.2 d C.2.2.2.2.2.2.1)
theorem v_aret {x : CX} {l : Launch} {g : CG} {M : MI} {nL k n : Nat} {μ0 μ μ9 : Mem} {pc : Nat} {lv : LV} {v rv : Option Nat} {Cn : String} (C : Cx x l g M) (F : Prom x g M μ0 (some (aR rv)) μ9) (hM : M.2.2.2.2.1 = some (.object Cn) ∧ k = M.2.2.2.2.2.cells ∧ n ≤ M.2.2.2.2.2.slots) (d : decode M.1 pc = .ok (.areturn, 1)) (h : some (v, μ) = some (rv, μ9)) : V x g nL k n μ pc lv [aR v] := by
  cases h
  obtain ⟨p, l0, e, R, s, m, args, below, meth, c, Q⟩ := x
  intro h0 H locs ls h1 h2 h3
  obtain ⟨hr, rfl, hn⟩ := hM
  have hQ : Q = MQ below (CtQ g M μ0 (some (aR v)) μ) args s M.2.2.2.2.2.cells M.2.2.2.2.2.slots (fun q => g.1.1 ≤ q) := F.2
  show W p l0 e R s m args below meth c H locs M.2.2.2.2.2.cells n Q (F0 m pc ls ([aR v].map (av_v g.1)))
  rw [hQ]
  refine W.widen (Nat.le_refl _) hn (W.aret C.1 C.2.1 (C.2.2.2.2.2.2.2.2.2.2.1.trans hr) (Or.inl ⟨_, rfl⟩) ?_ (fun t ht _ => v_end (r := some (aR v)) (n := n) C F rfl h0 h1 h2 t ht) h2.2.2 d C.2.2.2.2.2.2.1)
  cases v with
  | none => exact Or.inl rfl
  | some a => exact Or.inr ⟨_, rfl⟩
end
section
/-! LAYER 0, calls -/
def CfB (own : String) (idx : Nat) (y : MethodName) (M : MI) (n : Nat) : Prop := Cond.code y M.1 M.2.1 M.2.2.2.2.1 ∈ lw_ok ∧ Cond.initialized y.cls ∈ lw_ok ∧ (Cond.methodLink own idx y ∈ lw_ok ∨ ∃ host, Cond.methodLinkNest own idx y host ∈ lw_ns) ∧ y.cls ≠ "java/lang/invoke/MethodHandle" ∧ y.cls ≠ "java/lang/invoke/VarHandle" ∧ (parseMethodDescriptor y.desc).map (fun d => d.parameters.length) = some n
def CfV (own : String) (idx ci : Nat) (y : MethodName) (M : MI) (n : Nat) : Prop := CfB own idx y M n ∧ Cond.instanceMethod y ∈ lw_ok ∧ Cond.selects y.cls y y ∈ lw_ok ∧ ∃ T N, vwCl[ci]? = some (y.cls, T, N)
def CfS (own : String) (idx : Nat) (y : MethodName) (M : MI) (n : Nat) : Prop := CfB own idx y M n ∧ Cond.static y ∈ lw_ok
def CfI (own : String) (idx : Nat) (y : MethodName) (M : MI) (n : Nat) : Prop := CfB own idx y M n ∧ y.name = "<init>" ∧ Cond.instanceMethod y ∈ lw_ok
/-- room: the callee's fits the caller's -/
def Rm (M M' : MI) (k n : Nat) : Prop := (M'.2.2.2.2.2.frames + 1 ≤ M.2.2.2.2.2.frames ∧ 8 + (M'.2.1 + 11) + M'.2.2.2.2.2.locals ≤ M.2.2.2.2.2.locals) ∧ k + M'.2.2.2.2.2.cells ≤ M.2.2.2.2.2.cells ∧ n + M'.2.2.2.2.2.slots ≤ M.2.2.2.2.2.slots
theorem ws_good {y : MethodName} {M : MI} (h : Cond.code y M.1 M.2.1 M.2.2.2.2.1 ∈ lw_ok) : GoodIn lw_ok (.code y M.1 M.2.1 M.2.2.2.2.1 :: lw_ok) := by
  intro w hw
  rcases List.mem_cons.mp hw with rfl | hw
  · exact ok_good _ h
  · exact ok_good _ hw
theorem hold_size {g : CG} {μ : Mem} {H : Heap} (hB : g.1.1 ≤ H.size) (h : Hold g μ H) : g.1.1 + μ.1 ≤ H.size := by
  cases hn : μ.1 with
  | zero => exact hB
  | succ a =>
    have ha : a < μ.1 := by omega
    have h1 := h a _ (hw_at g μ ha)
    have : g.1.1 + a < H.size := by
      unfold va_at at h1
      dsimp only at h1
      split at h1
      · exact (Array.getElem?_eq_some_iff.mp h1).1
      · obtain ⟨r, -, cell, hc, -⟩ := h1
        exact (Array.getElem?_eq_some_iff.mp hc).1
    omega
theorem ctP_pre {x : CX} {l : Launch} {g : CG} {M : MI} {μ : Mem} {av : List AV} {H : Heap} {locs : List Loc} (C : Cx x l g M) (hz : H.size = g.1.1 + μ.1) (h1 : Hold g μ H) (h2 : va_S (fun q => g.1.1 ≤ q) (xs x).heap H locs) : PreS (xs x) H (CtP g av μ) (av.map (av_v g.1)) := by
  refine ⟨fun a U f mk q => ?_, fun U hU hW => ?_⟩
  · obtain ⟨q0, q1, q2, q3, q4, q5, q6⟩ := q
    exact ⟨q0, q1, q2, va_K.moved (u := U) (U := U.calling f mk a) (Vm.Alike.refl U.vm) q3, q4, ext_blind q5 f mk a, ns_same f mk a q6⟩
  · exact ⟨rfl, by rw [hU]; exact hz, by rw [hU]; exact h1, va_K.moved hW.alike C.2.2.2.2.2.1, Cty C, ext_warm (Cex C) hW (fun q a b => by rw [hU]; exact h2.2.1 q a b), ns_warm hW (Cns C)⟩
/-- the heap's size is known from the room that was used -/
theorem w_size {p : Program} {l : Launch} {e : Env} {R : Room} {s : State} {m : MethodId} {args : Array Value} {below : List Frame} {meth : Method} {c : Code} {H : Heap} {locs : List Loc} {k n : Nat} {Q : State → Prop} {f : JFrame} (kk : H.size ≤ s.heap.size + k → W p l e R s m args below meth c H locs k n Q f) : W p l e R s m args below meth c H locs k n Q f := fun T hT X => kk (by rw [← hT]; exact X.heapSize) T hT X
theorem v_back {x : CX} {l : Launch} {g : CG} {M M' : MI} {nL k n : Nat} {μ μ' : Mem} {pc : Nat} {lv : LV} {st : List AV} {r : Option AV} {H : Heap} {locs : List Loc} {ls : Array Slot} {st0 : List Value} {a : Array Value} (C : Cx x l g M) (h0 : (xs x).heap.size + k = g.1.1 + μ.1) (hz : H.size = g.1.1 + μ.1) (h2 : va_S (fun q => g.1.1 ≤ q) (xs x).heap H locs) (h3 : lv_has ls nL (lvm g.1 lv))
    (hr : va_Run x.1 x.2.1 x.2.2.1 x.2.2.2.1 (xs x) (xm x) (xa x) (xb x) (xM x) (xc x) H locs k n M'.2.2.2.2.2.cells M'.2.2.2.2.2.slots (F0 (xm x) pc ls st0) (st.map (av_v g.1)) (CtQ g M' μ r μ' a) (fun q => g.1.1 ≤ q))
    (kk : V x g nL (k + M'.2.2.2.2.2.cells) (n + M'.2.2.2.2.2.slots) μ' (pc + 3) lv (r.toList ++ st)) : WX x H locs k n (F0 (xm x) pc ls st0) := by
  obtain ⟨p, l0, e, R, s, m, args, below, meth, c, Q⟩ := x
  intro T hT X
  obtain ⟨v, st₀, t, T', L, h5, X', hL, e1, e2, ⟨hv, hc, hb, hz2, hk2⟩, stp⟩ := hr T hT X
  cases hv
  rw [h5] at hz2 hk2
  have hS : va_S (fun q => g.1.1 ≤ q) s.heap T'.heap (locs ++ L) := ⟨Nat.le_trans h2.1 (by rw [e1]; exact hz2), fun q a b => by rw [e1, hk2 q (Nat.lt_of_lt_of_le a h2.1) b]; exact h2.2.1 q a b, fun q hq => by
      rcases List.mem_append.mp hq with h | h
      · exact h2.2.2 q h
      · exact hL q h⟩
  obtain ⟨t2, a1, b1⟩ := kk (by show s.heap.size + (k + _) = _; rw [hc]; have : s.heap.size + k = g.1.1 + μ.1 := h0; omega) T'.heap (locs ++ L) ls (by rw [e1]; exact hb) hS h3 T' rfl X'
  refine ⟨t2, stp t2 ?_, b1⟩
  have he : (r.toList ++ st).map (av_v g.1) = (r.map (av_v g.1)).toList ++ st.map (av_v g.1) := by cases r <;> rfl
  rw [he] at a1
  exact a1
theorem v_sz {x : CX} {l : Launch} {g : CG} {M : MI} {nL k n : Nat} {μ : Mem} {pc : Nat} {lv : LV} {st : List AV} (C : Cx x l g M) (kk : ∀ (H : Heap) (locs : List Loc) (ls : Array Slot), (xs x).heap.size + k = g.1.1 + μ.1 → H.size = g.1.1 + μ.1 → Hold g μ H → va_S (fun q => g.1.1 ≤ q) (xs x).heap H locs → lv_has ls nL (lvm g.1 lv) → WX x H locs k n (F0 (xm x) pc ls (st.map (av_v g.1)))) : V x g nL k n μ pc lv st := by
  intro h0 H locs ls h1 h2 h3
  obtain ⟨p, l0, e, R, s, m, args, below, meth, c, Q⟩ := x
  refine w_size fun hz => ?_
  refine kk H locs ls h0 ?_ h1 h2 h3
  have a1 : g.1.1 ≤ H.size := Nat.le_trans C.2.2.2.2.2.2.2.1 h2.1
  have a2 := hold_size a1 h1
  have a3 : s.heap.size + k = g.1.1 + μ.1 := h0
  omega
theorem v_callV {x : CX} {l : Launch} {g : CG} {M M' : MI} {nL k n idx ci nn b' : Nat} {μ μ' : Mem} {pc : Nat} {lv : LV} {st stk As : List AV} {y : MethodName} {b : Option Nat} {r : Option AV} (C : Cx x l g M) (d : decode M.1 pc = .ok (.invokevirtual idx, 3)) (cf : CfV M.2.2.1 idx ci y M' nn) (hR : Rm M M' k n) (hL : M.2.1 = nL ∧ As.length = nn) (e0 : mck μ b ci = some b') (hst : stk = As.reverse ++ aR b :: st) (hw8 : stw g.1 st ≤ 8) (hc : Ct l y M' g (aR (some b') :: As) μ r μ') (kk : V x g nL (k + M'.2.2.2.2.2.cells) (n + M'.2.2.2.2.2.slots) μ' (pc + 3) lv (r.toList ++ st)) : V x g nL k n μ pc lv stk := by
  refine v_sz C fun H locs ls h0 hz h1 h2 h3 => ?_
  obtain ⟨fs, rfl, hb, hcell⟩ := mck_spec e0
  have pre := ctP_pre (av := aR (some b') :: As) C hz h1 h2
  have hat : (hw g μ)[b']? = some (g.1.1 + b', .inr (ci, fs.map (av_v g.1))) := by rw [hw_at g μ hb, hcell]; rfl
  refine v_back C h0 hz h2 h3 (a := ((aR (some b') :: As).map (av_v g.1)).toArray) ?_ kk
  obtain ⟨p, l0, e, R, s, m, args, below, meth, c, Q⟩ := x
  obtain ⟨⟨c1, c2, c3, c4, c5, c6⟩, c7, c8, T, N, c9⟩ := cf
  obtain ⟨hR1, hR2⟩ := hR
  have hRR : R = M.2.2.2.2.2 := C.2.2.2.2.2.2.2.2.2.1
  have hll : l0 = l := C.2.2.2.2.2.2.2.2.1
  subst hll
  have hstack : (F0 m pc ls (stk.map (av_v g.1))).stack = (As.map (av_v g.1)).reverse ++ .ref (g.1.1 + b') :: st.map (av_v g.1) := by
    subst hst
    show (As.reverse ++ aR (some b') :: st).map (av_v g.1) = _
    rw [List.map_append, List.map_reverse]
    rfl
  have hpv : PreV s H y.cls (g.1.1 + b') (CtP g (aR (some b') :: As) μ) (As.map (av_v g.1)) := ⟨pre.1, va_recv C.2.2.2.2.2.1 h1 c9 hat, pre.2⟩
  have fix : CallFix p m c M.1 M.2.1 s args lw_ok M.2.2.1 := ⟨C.1, C.2.1, C.2.2.1, C.2.2.2.1, C.2.2.2.2.1⟩
  have hsz : (F0 m pc ls (stk.map (av_v g.1))).locals.size = M.2.1 := by rw [hL.1]; exact h3.1
  have hlen : (As.map (av_v g.1)).length = nn := by rw [List.length_map]; exact hL.2
  have hw0 : 2 * (F0 m pc ls (stk.map (av_v g.1))).monitorRoom + ((st.map (av_v g.1)).map fun v => v.category).sum ≤ 8 := by show 2 * 0 + _ ≤ 8; rw [Nat.mul_zero, Nat.zero_add, stw_eq]; exact hw8
  rcases c3 with c3 | ⟨host, c3⟩
  · exact va_runV fix hc ⟨callB_of nn C.2.2.2.2.1 (ws_good c1) rfl rfl rfl (C.2.2.2.2.1 _ c2) (C.2.2.2.2.1 _ c3) ⟨c4, c5, c6⟩ (by rw [hRR]; exact hR1), C.2.2.2.2.1 _ c7, C.2.2.2.2.1 _ c8⟩ hpv rfl hlen hsz hstack hw0 d (by rw [hRR]; exact hR2)
  · exact va_runVN fix hc ⟨va_cnB nn C.2.2.2.2.1 (ws_good c1) rfl rfl rfl (Cns C _ c3) (C.2.2.2.2.1 _ c2) ⟨c4, c5, c6⟩ (by rw [hRR]; exact hR1), C.2.2.2.2.1 _ c7, C.2.2.2.2.1 _ c8⟩ hpv rfl hlen hsz hstack hw0 d (by rw [hRR]; exact hR2)
theorem v_callS {x : CX} {l : Launch} {g : CG} {M M' : MI} {nL k n idx nn : Nat} {μ μ' : Mem} {pc : Nat} {lv : LV} {st stk As : List AV} {y : MethodName} {r : Option AV} (C : Cx x l g M) (d : decode M.1 pc = .ok (.invokestatic idx, 3)) (cf : CfS M.2.2.1 idx y M' nn) (hR : Rm M M' k n) (hL : M.2.1 = nL ∧ As.length = nn) (hst : stk = As.reverse ++ st) (hw8 : stw g.1 st ≤ 8) (hc : Ct l y M' g As μ r μ') (kk : V x g nL (k + M'.2.2.2.2.2.cells) (n + M'.2.2.2.2.2.slots) μ' (pc + 3) lv (r.toList ++ st)) : V x g nL k n μ pc lv stk := by
  refine v_sz C fun H locs ls h0 hz h1 h2 h3 => ?_
  have pre := ctP_pre (av := As) C hz h1 h2
  refine v_back C h0 hz h2 h3 (a := (As.map (av_v g.1)).toArray) ?_ kk
  obtain ⟨p, l0, e, R, s, m, args, below, meth, c, Q⟩ := x
  obtain ⟨⟨c1, c2, c3, c4, c5, c6⟩, c7⟩ := cf
  obtain ⟨hR1, hR2⟩ := hR
  have hRR : R = M.2.2.2.2.2 := C.2.2.2.2.2.2.2.2.2.1
  have hll : l0 = l := C.2.2.2.2.2.2.2.2.1
  subst hll
  have hstack : (F0 m pc ls (stk.map (av_v g.1))).stack = (As.map (av_v g.1)).reverse ++ st.map (av_v g.1) := by
    subst hst
    show (As.reverse ++ st).map (av_v g.1) = _
    rw [List.map_append, List.map_reverse]
  have fix : CallFix p m c M.1 M.2.1 s args lw_ok M.2.2.1 := ⟨C.1, C.2.1, C.2.2.1, C.2.2.2.1, C.2.2.2.2.1⟩
  have hsz : (F0 m pc ls (stk.map (av_v g.1))).locals.size = M.2.1 := by rw [hL.1]; exact h3.1
  have hlen : (As.map (av_v g.1)).length = nn := by rw [List.length_map]; exact hL.2
  have hw0 : 2 * (F0 m pc ls (stk.map (av_v g.1))).monitorRoom + ((st.map (av_v g.1)).map fun v => v.category).sum ≤ 8 := by show 2 * 0 + _ ≤ 8; rw [Nat.mul_zero, Nat.zero_add, stw_eq]; exact hw8
  rcases c3 with c3 | ⟨host, c3⟩
  · exact va_runS fix hc ⟨callB_of nn C.2.2.2.2.1 (ws_good c1) rfl rfl rfl (C.2.2.2.2.1 _ c2) (C.2.2.2.2.1 _ c3) ⟨c4, c5, c6⟩ (by rw [hRR]; exact hR1), C.2.2.2.2.1 _ c7⟩ pre rfl hlen hsz hstack hw0 d (by rw [hRR]; exact hR2)
  · exact va_runSN fix hc ⟨va_cnB nn C.2.2.2.2.1 (ws_good c1) rfl rfl rfl (Cns C _ c3) (C.2.2.2.2.1 _ c2) ⟨c4, c5, c6⟩ (by rw [hRR]; exact hR1), C.2.2.2.2.1 _ c7, trivial⟩ pre rfl hlen hsz hstack hw0 d (by rw [hRR]; exact hR2)
theorem v_callI {x : CX} {l : Launch} {g : CG} {M M' : MI} {nL k n idx nn b' : Nat} {μ μ' : Mem} {pc : Nat} {lv : LV} {st stk As : List AV} {y : MethodName} (C : Cx x l g M) (d : decode M.1 pc = .ok (.invokespecial idx, 3)) (cf : CfI M.2.2.1 idx y M' nn) (hret : M'.2.2.2.2.1 = none) (hR : Rm M M' k n) (hL : M.2.1 = nL ∧ As.length = nn) (hst : stk = As.reverse ++ aR (some b') :: st) (hw8 : stw g.1 st ≤ 8) (hc : Ct l y M' g (aR (some b') :: As) μ none μ') (kk : V x g nL (k + M'.2.2.2.2.2.cells) (n + M'.2.2.2.2.2.slots) μ' (pc + 3) lv st) : V x g nL k n μ pc lv stk := by
  refine v_sz C fun H locs ls h0 hz h1 h2 h3 => ?_
  have pre := ctP_pre (av := aR (some b') :: As) C hz h1 h2
  refine v_back C h0 hz h2 h3 (r := none) (a := ((aR (some b') :: As).map (av_v g.1)).toArray) ?_ kk
  obtain ⟨p, l0, e, R, s, m, args, below, meth, c, Q⟩ := x
  obtain ⟨⟨c1, c2, c3, c4, c5, c6⟩, c7, c8⟩ := cf
  obtain ⟨hR1, hR2⟩ := hR
  have hRR : R = M.2.2.2.2.2 := C.2.2.2.2.2.2.2.2.2.1
  have hll : l0 = l := C.2.2.2.2.2.2.2.2.1
  subst hll
  have hstack : (F0 m pc ls (stk.map (av_v g.1))).stack = (As.map (av_v g.1)).reverse ++ .ref (g.1.1 + b') :: st.map (av_v g.1) := by
    subst hst
    show (As.reverse ++ aR (some b') :: st).map (av_v g.1) = _
    rw [List.map_append, List.map_reverse]
    rfl
  have fix : CallFix p m c M.1 M.2.1 s args lw_ok M.2.2.1 := ⟨C.1, C.2.1, C.2.2.1, C.2.2.2.1, C.2.2.2.2.1⟩
  have hsz : (F0 m pc ls (stk.map (av_v g.1))).locals.size = M.2.1 := by rw [hL.1]; exact h3.1
  have hlen : (As.map (av_v g.1)).length = nn := by rw [List.length_map]; exact hL.2
  have hw0 : 2 * (F0 m pc ls (stk.map (av_v g.1))).monitorRoom + ((st.map (av_v g.1)).map fun v => v.category).sum ≤ 8 := by show 2 * 0 + _ ≤ 8; rw [Nat.mul_zero, Nat.zero_add, stw_eq]; exact hw8
  have c1' : Cond.code y M'.1 M'.2.1 none ∈ lw_ok := by rw [← hret]; exact c1
  rcases c3 with c3 | ⟨host, c3⟩
  · exact va_runI (bytes := M'.1) (maxL := M'.2.1) fix hc ⟨callB_of nn C.2.2.2.2.1 (ws_good c1) (by rw [hret]) rfl rfl (C.2.2.2.2.1 _ c2) (C.2.2.2.2.1 _ c3) ⟨c4, c5, c6⟩ (by rw [hRR]; exact hR1), c7, C.2.2.2.2.1 _ c8⟩ pre rfl hlen hsz hstack hw0 d (by rw [hRR]; exact hR2)
  · exact va_runIN (bytes := M'.1) (maxL := M'.2.1) fix hc ⟨va_cnB nn C.2.2.2.2.1 (ws_good c1) (by rw [hret]) rfl rfl (Cns C _ c3) (C.2.2.2.2.1 _ c2) ⟨c4, c5, c6⟩ (by rw [hRR]; exact hR1), c7, C.2.2.2.2.1 _ c8⟩ pre rfl hlen hsz hstack hw0 d (by rw [hRR]; exact hR2)
end
section
/-! LAYER 0, switches, arrays of references, new cells -/
def sel (a : Int32) (cs : List (Int32 × Nat)) (dt : Nat) : Nat := match cs with
  | [] => dt
  | q :: r => if a = q.1 then q.2 else sel a r dt
theorem sel_look (pc : Nat) (a : Int32) (cs : List (Int32 × Nat)) (dt : Nat) (df : Int) (hd : (pc : Int) + df = (dt : Int)) : (pc : Int) + Op.lookupswitch.offset (cs.map (fun q => (q.1.toInt, (q.2 : Int) - (pc : Int)))) df a.toInt = ((sel a cs dt : Nat) : Int) := by
  induction cs with
  | nil => exact hd
  | cons q r ih =>
    rw [List.map_cons, Op.lookupswitch.offset_cons]
    unfold sel
    by_cases h : a = q.1
    · rw [if_pos (by rw [h]), if_pos h]; omega
    · rw [if_neg (fun z => h (Int32.toInt_inj.mp z).symm), if_neg h]; exact ih
theorem v_lookupswitch {x : CX} {l : Launch} {g : CG} {M : MI} {nL k n : Nat} {μ : Mem} {pc : Nat} {lv : LV} {st : List AV} (C : Cx x l g M) {a : Int32} {df : Int} {ps : Array (Int × Int)} {len dt : Nat} (cs : List (Int32 × Nat)) (d : decode M.1 pc = .ok (.lookupswitch df ps, len)) (hp : (ps.toList.zip (ps.toList.drop 1)).all (fun (a, next) => a.1 < next.1) = true) (hc : ps.toList = cs.map (fun q => (q.1.toInt, (q.2 : Int) - (pc : Int)))) (hd : (pc : Int) + df = (dt : Int)) (kk : V x g nL k n μ (sel a cs dt) lv st) : V x g nL k n μ pc lv (aI a :: st) := by
  obtain ⟨p, l0, e, R, s, m, args, below, meth, c, Q⟩ := x
  intro h0 H locs ls h1 h2 h3
  exact lv_lookup C.1 C.2.1 d hp rfl (by rw [hc]; exact sel_look pc a cs dt df hd) (kk h0 H locs ls h1 h2 h3)
theorem v_case {x : CX} {g : CG} {nL k n : Nat} {μ : Mem} {lv : LV} {st : List AV} {a k0 : Int32} {t dt : Nat} {cs : List (Int32 × Nat)} (kt : a = k0 → V x g nL k n μ t lv st) (kf : ¬ a = k0 → V x g nL k n μ (sel a cs dt) lv st) : V x g nL k n μ (sel a ((k0, t) :: cs) dt) lv st := by
  unfold sel
  by_cases h : a = k0
  · rw [if_pos h]; exact kt h
  · rw [if_neg h]; exact kf h
theorem sel_tab (a : Int32) (dt : Nat) : ∀ (ts : List Nat) (lo : Int) (cs : List (Int32 × Nat)), cs.map (fun q => q.1.toInt) = (List.range ts.length).map (fun (i : Nat) => lo + (i : Int)) → cs.map (fun q => q.2) = ts → sel a cs dt = if a.toInt < lo ∨ lo + ts.length ≤ a.toInt then dt else ts.getD (a.toInt - lo).toNat dt := by
  intro ts
  induction ts with
  | nil =>
    intro lo cs h1 h2
    cases cs with
    | nil => unfold sel; rw [if_pos (by simp only [List.length_nil]; omega)]
    | cons q r => cases h2
  | cons t ts ih =>
    intro lo cs h1 h2
    cases cs with
    | nil => cases h2
    | cons q r =>
      rw [List.length_cons, List.range_succ_eq_map, List.map_cons, List.map_cons, List.map_map] at h1
      injection h1 with h3 h4
      injection h2 with h5 h6
      have h3 : q.1.toInt = lo := by rw [h3]; simp
      have h5 : q.2 = t := h5
      unfold sel
      by_cases h : a = q.1
      · rw [if_pos h, h, h3, if_neg (by simp only [List.length_cons]; omega), h5]
        simp
      · rw [if_neg h]
        have hne : a.toInt ≠ lo := fun z => h (Int32.toInt_inj.mp (z.trans h3.symm))
        rw [ih (lo + 1) r (by rw [h4]; apply List.map_congr_left; intro i _; simp only [Function.comp_apply]; omega) h6]
        simp only [List.length_cons]
        by_cases c1 : a.toInt < lo
        · rw [if_pos (Or.inl (by omega)), if_pos (Or.inl c1)]
        · by_cases c2 : lo + (↑(ts.length + 1) : Int) ≤ a.toInt
          · rw [if_pos (Or.inr (by omega)), if_pos (Or.inr c2)]
          · rw [if_neg (by omega), if_neg (by omega)]
            have : (a.toInt - lo).toNat = (a.toInt - (lo + 1)).toNat + 1 := by omega
            rw [this, List.getD_cons_succ]
theorem v_tableswitch {x : CX} {l : Launch} {g : CG} {M : MI} {nL k n : Nat} {μ : Mem} {pc : Nat} {lv : LV} {st : List AV} (C : Cx x l g M) {a : Int32} {df lo hi : Int} {offs : Array Int} {len dt : Nat} (cs : List (Int32 × Nat)) (d : decode M.1 pc = .ok (.tableswitch df lo hi offs, len)) (h1 : cs.map (fun q => q.1.toInt) = (List.range cs.length).map (fun (i : Nat) => lo + (i : Int))) (h2 : offs.toList = cs.map (fun q => (q.2 : Int) - (pc : Int))) (hh : hi + 1 = lo + (cs.length : Int)) (hd : (pc : Int) + df = (dt : Int)) (kk : V x g nL k n μ (sel a cs dt) lv st) : V x g nL k n μ pc lv (aI a :: st) := by
  obtain ⟨p, l0, e, R, s, m, args, below, meth, c, Q⟩ := x
  intro h0 H locs ls h5 h6 h7
  have hs := sel_tab a dt (cs.map (fun q => q.2)) lo cs (by rw [List.length_map]; exact h1) rfl
  rw [List.length_map] at hs
  by_cases c1 : a.toInt < lo ∨ hi < a.toInt
  · rw [if_pos (by omega)] at hs
    exact lv_tableOut C.1 C.2.1 d c1 (by rw [hs] at *; exact hd) (by have := kk h0 H locs ls h5 h6 h7; rw [hs] at this; exact this)
  · rw [if_neg (by omega)] at hs
    have hlt : (a.toInt - lo).toNat < cs.length := by omega
    have ho : offs[(a.toInt - lo).toNat]? = some ((cs[(a.toInt - lo).toNat].2 : Int) - (pc : Int)) := by
      rw [← Array.getElem?_toList, h2, List.getElem?_map, List.getElem?_eq_getElem hlt]; rfl
    have hg : (cs.map (fun q => q.2)).getD (a.toInt - lo).toNat dt = cs[(a.toInt - lo).toNat].2 := by
      rw [List.getD_eq_getElem?_getD, List.getElem?_map, List.getElem?_eq_getElem hlt]; rfl
    rw [hg] at hs
    exact lv_tableIn C.1 C.2.1 d (fun z => c1 (Or.inl z)) (fun z => c1 (Or.inr z)) ho (by rw [← hs]; omega : (pc : Int) + ((cs[(a.toInt - lo).toNat].2 : Int) - (pc : Int)) = ((sel a cs dt : Nat) : Int)) (kk h0 H locs ls h5 h6 h7)
end
section
/-! LAYER 0, arrays of references, new cells -/
theorem v_aaload3 {x : CX} {l : Launch} {g : CG} {M : MI} {nL k n : Nat} {μ : Mem} {pc : Nat} {lv : LV} {st : List AV} (C : Cx x l g M) {i : Int32} {r v : Option Nat} (d : decode M.1 pc = .ok (.aaload, 1)) (e : maR μ 3 r i = some v) (kk : V x g nL k n μ (pc + 1) lv (aR v :: st)) : V x g nL k n μ pc lv (aI i :: aR r :: st) := by
  obtain ⟨p, l0, e0, R, s, m, args, below, meth, c, Q⟩ := x
  intro h0 H locs ls h1 h2 h3
  unfold maR at e
  split at e
  · rename_i N f ev
    obtain ⟨hin, e⟩ := oz e
    cases e
    obtain ⟨a, rfl, ha, hc⟩ := maV_spec ev
    have hlt : i.toNatClampNeg < N := Nat.not_le.mp fun q => hin (Or.inr q)
    have hat := arr_at (g := g) ha hc
    have hty := tyat (Cty C) (t := 3) (ty := .array .int) rfl
    exact W.aald (v := va_rf ((f i.toNatClampNeg).map (fun j => g.1.1 + j))) (ty := .array .int) C.1 C.2.1 (h1 a _ hat) ((C.2.2.2.2.2.1.2 3 _ hty).1 N (fun j => va_rf ((f j).map (fun q => g.1.1 + q)))) rfl (fun q => by cases q) (by show ¬ (i < 0 ∨ (arrV _ _ _).slots.size ≤ _); rw [arrV_size]; exact hin) (by show (arrV _ _ _).slots[_]? = _; rw [arrV_read _ _ hlt]) rfl rfl d (kk h0 H locs ls h1 h2 h3)
  · cases e
theorem v_aastV {x : CX} {l : Launch} {g : CG} {M : MI} {nL k n : Nat} {μ μ2 : Mem} {pc : Nat} {lv : LV} {st : List AV} (C : Cx x l g M) {t ci : Nat} {rr : vw_C} {i : Int32} {r v : Option Nat} (hq : vwCl[ci]? = some rr ∧ arrTys[t]? = some (.object rr.1)) (d : decode M.1 pc = .ok (.aastore, 1)) (e : mbR μ t ci r i v = some μ2) (kk : V x g nL k n μ2 (pc + 1) lv st) : V x g nL k n μ pc lv (aR v :: aI i :: aR r :: st) := by
  obtain ⟨p, l0, e0, R, s, m, args, below, meth, c, Q⟩ := x
  intro h0 H locs ls h1 h2 h3
  unfold mbR at e
  split at e
  · rename_i N f ev
    obtain ⟨hin, e⟩ := oz e
    obtain ⟨hz, e⟩ := oy e
    obtain ⟨a, rfl, ha, hc⟩ := maV_spec ev
    cases e
    have hat := arr_at (g := g) ha hc
    have hty := tyat (Cty C) hq.2
    cases v with
    | none =>
      exact va_astqN C.1 C.2.1 C.2.2.2.2.2.1 h1 (hw_D g μ) h2 a t hat hty hin d (fun H1 locs1 y _ w => kk h0 H1 locs1 ls (hold_set (E := .inl (t, N, .inr (.inr (va_up f i.toNatClampNeg none)))) (by
        show _ = (_, Sum.inl (_, N, Sum.inr (Sum.inr (Sum.inr (Sum.inr (fun j => (va_up f i.toNatClampNeg none j).map (fun q => g.1.1 + q)))))))
        congr 8
        funext j
        unfold va_up
        by_cases hj : j = i.toNatClampNeg
        · rw [if_pos hj, if_pos hj]; rfl
        · rw [if_neg hj, if_neg hj]) y) w h3)
    | some b =>
      have hz2 : mck μ (some b) ci = some b := by
        rcases hz with hz | hz
        · cases hz
        · exact hz
      obtain ⟨fs, -, hb, hcb⟩ := mck_spec hz2
      have hab : (hw g μ)[b]? = some (g.1.1 + b, .inr (ci, fs.map (av_v g.1))) := by rw [hw_at g μ hb, hcb]; rfl
      exact va_astq C.1 C.2.1 C.2.2.2.2.2.1 h1 (hw_D g μ) h2 a t b ci hat hty hab hq.1 hin d (fun H1 locs1 y _ w => kk h0 H1 locs1 ls (hold_set (E := .inl (t, N, .inr (.inr (va_up f i.toNatClampNeg (some b))))) (by
        show _ = (_, Sum.inl (_, N, Sum.inr (Sum.inr (Sum.inr (Sum.inr (fun j => (va_up f i.toNatClampNeg (some b) j).map (fun q => g.1.1 + q)))))))
        congr 8
        funext j
        unfold va_up
        by_cases hj : j = i.toNatClampNeg
        · rw [if_pos hj, if_pos hj]; rfl
        · rw [if_neg hj, if_neg hj]) y) w h3)
  · cases e
/-- a new cell -/
def madd (μ : Mem) (E : ACl) : Mem := (μ.1 + 1, va_up μ.2 μ.1 E)
theorem hw_push (g : CG) (μ : Mem) (E : ACl) : hw g (madd μ E) = hw g μ ++ [(g.1.1 + μ.1, ac_c g E)] := by
  unfold hw madd
  dsimp only
  rw [List.range_succ, List.map_append]
  congr 1
  · apply List.map_congr_left
    intro i hi
    have : i < μ.1 := List.mem_range.mp hi
    rw [va_up_ne _ _ (by omega : i ≠ μ.1)]
  · simp [va_up]
theorem new_at {g : CG} {μ : Mem} {q : Nat} {e : va_E} {H1 : Heap} (hD : va_D (fun q => g.1.1 ≤ q) (hw g μ ++ [(q, e)])) (hP : va_P g.2.1 vwCl (hw g μ ++ [(q, e)]) H1) (hz : H1.size ≤ g.1.1 + μ.1 + 1) : q = g.1.1 + μ.1 := by
  have hlast : (hw g μ ++ [(q, e)])[μ.1]? = some (q, e) := by
    rw [List.getElem?_append_right (by rw [hw_len]; exact Nat.le_refl _), hw_len]
    simp
  have h1 : g.1.1 ≤ q := hD.2 μ.1 _ hlast
  have h2 : q < H1.size := (hP μ.1 _ hlast).lt
  by_cases h : q < g.1.1 + μ.1
  · have ha : q - g.1.1 < μ.1 := by omega
    have hat : (hw g μ ++ [(q, e)])[q - g.1.1]? = some (g.1.1 + (q - g.1.1), ac_c g (μ.2 (q - g.1.1))) := by
      rw [List.getElem?_append_left (by rw [hw_len]; exact ha)]
      exact hw_at g μ ha
    have := hD.1 (q - g.1.1) μ.1 _ _ hat hlast (by show g.1.1 + (q - g.1.1) = q; omega)
    omega
  · omega
/-- what a new object needs -/
def NF (own : String) (idx ci N : Nat) (fs : List AV) : Prop := ∃ (C : String) (T : u_T) (ty : Nat → FieldType), vwCl[ci]? = some (C, T, N) ∧ (∀ w ∈ u_ws C T N, w ∈ lw_ok) ∧ (∀ k, k < N → parseFieldDescriptor (T k).2.2.1 = some (ty k)) ∧ Cond.classLink own idx C ∈ lw_ok ∧ Cond.instantiable C N ∈ lw_ok ∧ Cond.initialized C ∈ lw_ok ∧ ∀ (B : BX) (j : Nat), j < N → defaultValue (ty j) = vp_V (fs.map (av_v B)) j
theorem v_new {x : CX} {l : Launch} {g : CG} {M : MI} {nL k n idx ci N : Nat} {μ : Mem} {pc : Nat} {lv : LV} {st : List AV} (fs : List AV) (C : Cx x l g M) (d : decode M.1 pc = .ok (.new idx, 3)) (nf : NF M.2.2.1 idx ci N fs) (hR : k + 1 ≤ M.2.2.2.2.2.cells ∧ n + N ≤ M.2.2.2.2.2.slots) (kk : V x g nL (k + 1) (n + N) (madd μ (.inr (ci, fs))) (pc + 3) lv (aR (some μ.1) :: st)) : V x g nL k n μ pc lv st := by
  obtain ⟨p, l0, e0, R, s, m, args, below, meth, c, Q⟩ := x
  intro h0 H locs ls h1 h2 h3
  obtain ⟨Cn, T, ty, q1, q2, q3, q4, q5, q6, q7⟩ := nf
  have hRR : R = M.2.2.2.2.2 := C.2.2.2.2.2.2.2.2.2.1
  have h00 : s.heap.size + k = g.1.1 + μ.1 := h0
  have hB : g.1.1 ≤ s.heap.size := C.2.2.2.2.2.2.2.1
  refine va_new (fs := fs.map (av_v g.1)) C.1 C.2.1 C.2.2.2.2.1 q2 ty q3 C.2.2.2.1 (C.2.2.2.2.1 _ q4) (C.2.2.2.2.1 _ q5) (C.2.2.2.2.1 _ q6) C.2.2.2.2.2.1 h1 (hw_D g μ) h2 (fun q hq => Nat.le_trans hB hq) q1 (q7 g.1) (by rw [hRR]; exact hR.1) (by rw [hRR]; exact hR.2) d fun q H1 hP hD hS => ?_
  refine w_size fun hz => ?_
  have hq := new_at hD hP (by omega)
  subst hq
  exact kk (by show s.heap.size + (k + 1) = g.1.1 + (μ.1 + 1); omega) H1 locs ls (by rw [Hold, hw_push]; exact hP) hS h3
/-- the class of a new array is the known one -/
theorem cls_at {g : CG} {U : State} {t : Nat} {cA : ClassId} {ty : FieldType} (hK : va_K g.2.1 vwCl (g.2.2 ++ [(cA, ty)]) U) (hty : g.2.2[t]? = some ((g.2.2.getD t default).1, ty)) : cA = (g.2.2.getD t default).1 := by
  have h1 := (hK.2 t _ (by rw [List.getElem?_append_left (List.getElem?_eq_some_iff.mp hty).1]; exact hty)).2
  have h2 := (hK.2 g.2.2.length (cA, ty) (by rw [List.getElem?_append_right (Nat.le_refl _)]; simp)).2
  cases ty
  all_goals first
    | exact Option.some.inj (h2.symm.trans h1)
    | (obtain ⟨_, _, _, _, _, e1⟩ := h1; obtain ⟨_, _, _, _, _, e2⟩ := h2; exact Option.some.inj (e2.symm.trans e1))
theorem v_newaV {x : CX} {l : Launch} {g : CG} {M : MI} {nL k n t N : Nat} {μ : Mem} {pc : Nat} {lv : LV} {st : List AV} {atype : ArrayType} {ty : FieldType} {i : Int32} (a0 : AA) (C : Cx x l g M) (ht : arrTys[t]? = some ty ∧ newarray.typeOf atype = ty ∧ Cond.arrayClass ty ∈ lw_ok) (ha : ∀ (B : BX) (cA : ClassId), vp_cell cA (N, aa_c B a0) = arrV cA N (fun _ => defaultValue ty)) (d : decode M.1 pc = .ok (.newarray atype, 2)) (hn : ¬ i < 0 ∧ i.toNatClampNeg = N) (hbytes : N * componentBytes ty ≤ 536870912) (hR : k + 1 ≤ M.2.2.2.2.2.cells ∧ n + N ≤ M.2.2.2.2.2.slots) (kk : V x g nL (k + 1) (n + N) (madd μ (.inl (t, N, a0))) (pc + 2) lv (aR (some μ.1) :: st)) : V x g nL k n μ pc lv (aI i :: st) := by
  obtain ⟨p, l0, e0, R, s, m, args, below, meth, c, Q⟩ := x
  intro h0 H locs ls h1 h2 h3
  have hRR : R = M.2.2.2.2.2 := C.2.2.2.2.2.2.2.2.2.1
  have h00 : s.heap.size + k = g.1.1 + μ.1 := h0
  have hB : g.1.1 ≤ s.heap.size := C.2.2.2.2.2.2.2.1
  refine va_newa C.1 C.2.1 (by rw [ht.2.1]; exact C.2.2.2.2.1 _ ht.2.2) ht.2.1 C.2.2.2.2.2.1 h1 (hw_D g μ) h2 (fun q hq => Nat.le_trans hB hq) (ha g.1) hn.1 hn.2 hbytes (by rw [hRR]; exact hR.1) (by rw [hRR]; exact hR.2) d fun q cA H1 hK hP hD hS => ?_
  refine w_size fun hz => ?_
  have hq := new_at hD hP (by omega)
  have hc := cls_at hK (tyat (Cty C) ht.1)
  subst hq
  subst hc
  exact kk (by show s.heap.size + (k + 1) = g.1.1 + (μ.1 + 1); omega) H1 locs ls (by rw [Hold, hw_push]; exact hP) hS h3
theorem arr_i (N : Nat) (ty : FieldType) (h : defaultValue ty = .int 0) (B : BX) (cA : ClassId) : vp_cell cA (N, aa_c B (.inl (fun _ => 0))) = arrV cA N (fun _ => defaultValue ty) := by
  rw [h]
  rfl
theorem arr_j (N : Nat) (B : BX) (cA : ClassId) : vp_cell cA (N, aa_c B (.inr (.inl (fun _ => 0)))) = arrV cA N (fun _ => defaultValue .long) := rfl
def mnaI (μ : Mem) (t N : Nat) : Mem := madd μ (.inl (t, N, .inl (fun _ => 0)))
def mnaJ (μ : Mem) (N : Nat) : Mem := madd μ (.inl (1, N, .inr (.inl (fun _ => 0))))
def mnaR (μ : Mem) (t N : Nat) : Mem := madd μ (.inl (t, N, .inr (.inr (fun _ => none))))
theorem v_newaI {x : CX} {l : Launch} {g : CG} {M : MI} {nL k n N : Nat} {μ : Mem} {pc : Nat} {lv : LV} {st : List AV} {i : Int32} (C : Cx x l g M) (d : decode M.1 pc = .ok (.newarray .int, 2)) (hm : Cond.arrayClass .int ∈ lw_ok) (hn : ¬ i < 0 ∧ i.toNatClampNeg = N) (hbytes : N * 4 ≤ 536870912) (hR : k + 1 ≤ M.2.2.2.2.2.cells ∧ n + N ≤ M.2.2.2.2.2.slots) (kk : V x g nL (k + 1) (n + N) (mnaI μ 0 N) (pc + 2) lv (aR (some μ.1) :: st)) : V x g nL k n μ pc lv (aI i :: st) :=
  v_newaV (atype := .int) (ty := .int) (.inl (fun _ => 0)) C ⟨rfl, rfl, hm⟩ (arr_i N .int rfl) d hn hbytes hR kk
theorem v_newaZ {x : CX} {l : Launch} {g : CG} {M : MI} {nL k n N : Nat} {μ : Mem} {pc : Nat} {lv : LV} {st : List AV} {i : Int32} (C : Cx x l g M) (d : decode M.1 pc = .ok (.newarray .boolean, 2)) (hm : Cond.arrayClass .boolean ∈ lw_ok) (hn : ¬ i < 0 ∧ i.toNatClampNeg = N) (hbytes : N * 1 ≤ 536870912) (hR : k + 1 ≤ M.2.2.2.2.2.cells ∧ n + N ≤ M.2.2.2.2.2.slots) (kk : V x g nL (k + 1) (n + N) (mnaI μ 2 N) (pc + 2) lv (aR (some μ.1) :: st)) : V x g nL k n μ pc lv (aI i :: st) :=
  v_newaV (atype := .boolean) (ty := .boolean) (.inl (fun _ => 0)) C ⟨rfl, rfl, hm⟩ (arr_i N .boolean rfl) d hn hbytes hR kk
theorem v_newaJ {x : CX} {l : Launch} {g : CG} {M : MI} {nL k n N : Nat} {μ : Mem} {pc : Nat} {lv : LV} {st : List AV} {i : Int32} (C : Cx x l g M) (d : decode M.1 pc = .ok (.newarray .long, 2)) (hm : Cond.arrayClass .long ∈ lw_ok) (hn : ¬ i < 0 ∧ i.toNatClampNeg = N) (hbytes : N * 8 ≤ 536870912) (hR : k + 1 ≤ M.2.2.2.2.2.cells ∧ n + N ≤ M.2.2.2.2.2.slots) (kk : V x g nL (k + 1) (n + N) (mnaJ μ N) (pc + 2) lv (aR (some μ.1) :: st)) : V x g nL k n μ pc lv (aI i :: st) :=
  v_newaV (atype := .long) (ty := .long) (.inr (.inl (fun _ => 0))) C ⟨rfl, rfl, hm⟩ (arr_j N) d hn hbytes hR kk
theorem v_newaR {x : CX} {l : Launch} {g : CG} {M : MI} {nL k n t idx N : Nat} {μ : Mem} {pc : Nat} {lv : LV} {st : List AV} {i : Int32} {Cn : String} (C : Cx x l g M) (d : decode M.1 pc = .ok (.anewarray idx, 3)) (ht : arrTys[t]? = some (.object Cn) ∧ Cond.classLink M.2.2.1 idx Cn ∈ lw_ok ∧ Cond.arrayOver (.object Cn) ∈ lw_ns) (hn : ¬ i < 0 ∧ i.toNatClampNeg = N) (hbytes : N * 4 ≤ 536870912) (hR : k + 1 ≤ M.2.2.2.2.2.cells ∧ n + N ≤ M.2.2.2.2.2.slots) (kk : V x g nL (k + 1) (n + N) (mnaR μ t N) (pc + 3) lv (aR (some μ.1) :: st)) : V x g nL k n μ pc lv (aI i :: st) := by
  obtain ⟨p, l0, e0, R, s, m, args, below, meth, c, Q⟩ := x
  intro h0 H locs ls h1 h2 h3
  have hRR : R = M.2.2.2.2.2 := C.2.2.2.2.2.2.2.2.2.1
  have h00 : s.heap.size + k = g.1.1 + μ.1 := h0
  have hB : g.1.1 ≤ s.heap.size := C.2.2.2.2.2.2.2.1
  refine va_newq C.1 C.2.1 C.2.2.2.1 (C.2.2.2.2.1 _ ht.2.1) (Cns C _ ht.2.2) C.2.2.2.2.2.1 h1 (hw_D g μ) h2 (fun q hq => Nat.le_trans hB hq) hn.1 hn.2 hbytes (by rw [hRR]; exact hR.1) (by rw [hRR]; exact hR.2) d fun q cA H1 hK hP hD hS => ?_
  refine w_size fun hz => ?_
  have hq := new_at hD hP (by omega)
  have hc := cls_at hK (tyat (Cty C) ht.1)
  subst hq
  subst hc
  exact kk (by show s.heap.size + (k + 1) = g.1.1 + (μ.1 + 1); omega) H1 locs ls (by rw [Hold, mnaR, hw_push]; exact hP) hS h3
theorem v_objInit {x : CX} {l : Launch} {g : CG} {M : MI} {nL k n idx a : Nat} {μ : Mem} {pc : Nat} {lv : LV} {st : List AV} (C : Cx x l g M) (d : decode M.1 pc = .ok (.invokespecial idx, 3)) (hw : Cond.methodLink M.2.2.1 idx Lib.objectInit ∈ lw_ok ∧ Cond.instanceMethod Lib.objectInit ∈ lw_ok ∧ Cond.code Lib.objectInit ⟨#[0xb1]⟩ 1 none ∈ lw_ok) (hL : M.2.1 = nL) (hR : 1 ≤ M.2.2.2.2.2.frames ∧ 0 + stw g.1 st + 12 ≤ M.2.2.2.2.2.locals) (kk : V x g nL k n μ (pc + 3) lv st) : V x g nL k n μ pc lv (aR (some a) :: st) := by
  obtain ⟨p, l0, e0, R, s, m, args, below, meth, c, Q⟩ := x
  intro h0 H locs ls h1 h2 h3
  have hRR : R = M.2.2.2.2.2 := C.2.2.2.2.2.2.2.2.2.1
  exact W.objInit C.1 C.2.1 C.2.2.2.1 (C.2.2.2.2.1 _ hw.1) (C.2.2.2.2.1 _ hw.2.1) (C.2.2.2.2.1 _ hw.2.2) (g := F0 m pc ls ((aR (some a) :: st).map (av_v g.1))) rfl (by rw [C.2.2.1, hL]; exact h3.1) rfl d (by rw [hRR]; exact hR.1) (by rw [hRR]; show 2 * 0 + _ + 12 ≤ _; rw [stw_eq]; exact hR.2) (kk h0 H locs ls h1 h2 h3)
theorem v_objInitR {x : CX} {l : Launch} {g : CG} {M : MI} {nL k n idx ci b' : Nat} {μ : Mem} {pc : Nat} {lv : LV} {st : List AV} {r : Option Nat} (C : Cx x l g M) (d : decode M.1 pc = .ok (.invokespecial idx, 3)) (hw : Cond.methodLink M.2.2.1 idx Lib.objectInit ∈ lw_ok ∧ Cond.instanceMethod Lib.objectInit ∈ lw_ok ∧ Cond.code Lib.objectInit ⟨#[0xb1]⟩ 1 none ∈ lw_ok) (hL : M.2.1 = nL) (hR : 1 ≤ M.2.2.2.2.2.frames ∧ 0 + stw g.1 st + 12 ≤ M.2.2.2.2.2.locals) (e0 : mck μ r ci = some b') (kk : V x g nL k n μ (pc + 3) lv st) : V x g nL k n μ pc lv (aR r :: st) := by
  obtain ⟨fs, rfl, -, -⟩ := mck_spec e0
  exact v_objInit C d hw hL hR kk
theorem v_wid {x : CX} {g : CG} {nL k n n' : Nat} {μ : Mem} {pc : Nat} {lv : LV} {st : List AV} (h : n ≤ n') (kk : V x g nL k n' μ pc lv st) : V x g nL k n μ pc lv st := by
  obtain ⟨p, l0, e0, R, s, m, args, below, meth, c, Q⟩ := x
  exact fun h0 H locs ls h1 h2 h3 => W.widen (Nat.le_refl _) h (kk h0 H locs ls h1 h2 h3)
theorem v_eqk {x : CX} {g : CG} {nL k k' n : Nat} {μ : Mem} {pc : Nat} {lv : LV} {st : List AV} (h : k = k') (kk : V x g nL k' n μ pc lv st) : V x g nL k n μ pc lv st := by
  subst h; exact kk
theorem v_caseD {x : CX} {g : CG} {nL k n : Nat} {μ : Mem} {lv : LV} {st : List AV} {a : Int32} {dt : Nat} (kk : V x g nL k n μ dt lv st) : V x g nL k n μ (sel a [] dt) lv st := kk
end
section
/-! LAYER 0, new int[n][m] (after the block of the printed names) -/
theorem vr_outer (c : ClassId) (N h0 : Nat) : ∀ i : Nat, Jvm.Free.Multi.outerC c N h0 i = arrV c N (fun j => va_rf (if j < i then some (h0 + 1 + j) else none))
  | 0 => by
    show ({ cls := c, slots := Array.replicate N .null, vm := .none } : Cell) = _
    rw [arrV_new]
    refine congrArg (arrV c N) (funext fun j => ?_)
    simp [va_rf]
  | i + 1 => by
    show (Jvm.Free.Multi.outerC c N h0 i).setSlot i (.ref (h0 + 1 + i)) = _
    rw [vr_outer c N h0 i, arrV_store]
    refine congrArg (arrV c N) (funext fun j => ?_)
    by_cases e : j = i
    · subst e
      simp [updV, va_rf]
    · by_cases h : j < i
      · simp [updV, e, h, Nat.lt_succ_of_lt h]
      · simp [updV, e, h, show ¬ j < i + 1 by omega]
def mmna (μ : Mem) (N K : Nat) : Mem := (μ.1 + 1 + N, fun a => if a = μ.1 then .inl (3, N, .inr (.inr (fun i => if i < N then some (μ.1 + 1 + i) else none))) else if μ.1 < a ∧ a ≤ μ.1 + N then .inl (0, K, .inl (fun _ => 0)) else μ.2 a)
theorem v_mna {x : CX} {l : Launch} {g : CG} {M : MI} {nL k n idx N K : Nat} {μ : Mem} {pc : Nat} {lv : LV} {st : List AV} {i j : Int32} (C : Cx x l g M) (d : decode M.1 pc = .ok (.multianewarray idx 2, 4)) (hw3 : Cond.classLink M.2.2.1 idx "[[I" ∈ lw_ok ∧ Cond.arrayOver (.array .int) ∈ lw_ns ∧ Cond.arrayClass .int ∈ lw_ok) (hi : ¬ i < 0 ∧ i.toNatClampNeg = N) (hj : ¬ j < 0 ∧ j.toNatClampNeg = K) (hb : N ≤ 1000 ∧ K ≤ 5000) (hR : k + (1 + N) ≤ M.2.2.2.2.2.cells ∧ n + (N + N * K) ≤ M.2.2.2.2.2.slots) (kk : V x g nL (k + (1 + N)) (n + (N + N * K)) (mmna μ N K) (pc + 4) lv (aR (some μ.1) :: st)) : V x g nL k n μ pc lv (aI j :: aI i :: st) := by
  refine v_sz C fun H locs ls h0 hsz h1 h2 h3 => ?_
  obtain ⟨p, l0, e0, R, s, m, args, below, meth, c, Q⟩ := x
  have hRR : R = M.2.2.2.2.2 := C.2.2.2.2.2.2.2.2.2.1
  have h00 : s.heap.size + k = g.1.1 + μ.1 := h0
  have hB : g.1.1 ≤ s.heap.size := C.2.2.2.2.2.2.2.1
  obtain ⟨hi0, rfl⟩ := hi
  obtain ⟨hj0, rfl⟩ := hj
  intro T hT Xs
  obtain ⟨vm₁, cA, comp, -, fA, fC, hO, -, X', step⟩ := Xs.multianewarray2F (ty := .int) C.1 C.2.2.2.1 (C.2.2.2.2.1 _ hw3.1) (Cns C _ hw3.2.1) (C.2.2.2.2.1 _ hw3.2.2) (g := F0 m pc ls (.int j :: .int i :: st.map (av_v g.1))) rfl (by rw [C.2.1]; exact d) rfl hi0 hj0 (by omega) (by show j.toNatClampNeg * 4 ≤ _; omega) (by omega) rfl rfl (by rw [hRR]; exact hR.1) (by rw [hRR]; exact hR.2)
  have hty3 := tyat (Cty C) (t := 3) (ty := .array .int) rfl
  have hty0 := tyat (Cty C) (t := 0) (ty := .int) rfl
  have c3 : cA = (g.2.2.getD 3 default).1 := Option.some.inj (fA.symm.trans (C.2.2.2.2.2.1.2 3 _ hty3).2)
  have c0 : comp = (g.2.2.getD 0 default).1 := Option.some.inj (fC.symm.trans (C.2.2.2.2.2.1.2 0 _ hty0).2)
  generalize hF : Jvm.Free.Multi.fill (T.setVm vm₁) cA comp i.toNatClampNeg j.toNatClampNeg (defaultValue .int) i.toNatClampNeg = F at X' step
  have hTh : (T.setVm vm₁).heap = H := hT
  obtain ⟨f1, f2, -, -⟩ := Jvm.Free.Multi.fill_facts (T.setVm vm₁) cA comp i.toNatClampNeg j.toNatClampNeg (defaultValue .int) i.toNatClampNeg
  rw [hF, hTh] at f1 f2
  have hold : ∀ y : Nat, y < H.size → F.heap[y]? = H[y]? := fun y hy => by
    have := Jvm.Free.Multi.fill_old (T.setVm vm₁) cA comp i.toNatClampNeg j.toNatClampNeg (defaultValue .int) (a := y) (by rw [hTh]; exact hy) i.toNatClampNeg
    rw [hF, hTh] at this
    exact this
  have hrow : ∀ q : Nat, q < i.toNatClampNeg → F.heap[H.size + 1 + q]? = some (vp_cell comp (j.toNatClampNeg, .inl (fun _ => 0))) := fun q hq => by
    have := Jvm.Free.Multi.fill_inner (T.setVm vm₁) cA comp i.toNatClampNeg j.toNatClampNeg (defaultValue .int) i.toNatClampNeg q hq
    rw [hF, hTh] at this
    rw [this]
    exact congrArg some (arrV_new comp j.toNatClampNeg (.int 0))
  have hout : Jvm.Free.Multi.outerC cA i.toNatClampNeg H.size i.toNatClampNeg = vp_cell cA (i.toNatClampNeg, .inr (.inr (.inr (.inr (fun q => if q < i.toNatClampNeg then some (H.size + 1 + q) else none))))) := by
    rw [vp_cell_q]
    exact vr_outer cA i.toNatClampNeg H.size i.toNatClampNeg
  rw [hout] at f2
  have hnew : Hold g (mmna μ i.toNatClampNeg j.toNatClampNeg) F.heap := by
    intro q y hy
    have hq : q < (mmna μ i.toNatClampNeg j.toNatClampNeg).1 := by rw [← hw_len g]; exact (List.getElem?_eq_some_iff.mp hy).1
    rw [hw_at g _ hq] at hy
    cases hy
    have hq2 : q < μ.1 + 1 + i.toNatClampNeg := hq
    by_cases q1 : q = μ.1
    · subst q1
      show va_at _ _ (g.1.1 + μ.1, ac_c g (if μ.1 = μ.1 then _ else _)) _
      rw [if_pos rfl]
      show F.heap[g.1.1 + μ.1]? = some (vp_cell (g.2.2.getD 3 default).1 (i.toNatClampNeg, .inr (.inr (.inr (.inr (fun q => (if q < i.toNatClampNeg then some (μ.1 + 1 + q) else none).map (fun z => g.1.1 + z)))))))
      rw [← hsz, f2, c3]
      congr 7
      funext q
      by_cases hh : q < i.toNatClampNeg
      · rw [if_pos hh, if_pos hh]; show some _ = some (g.1.1 + (μ.1 + 1 + q)); congr 1; omega
      · rw [if_neg hh, if_neg hh]; rfl
    · by_cases q3 : q < μ.1
      · have e1 : (mmna μ i.toNatClampNeg j.toNatClampNeg).2 q = μ.2 q := by
          show (if q = μ.1 then _ else if μ.1 < q ∧ q ≤ μ.1 + i.toNatClampNeg then _ else μ.2 q) = _
          rw [if_neg q1, if_neg (by omega)]
        rw [e1]
        have h5 := h1 q _ (hw_at g μ q3)
        exact h5.kept (hold _ (by omega))
      · have e1 : (mmna μ i.toNatClampNeg j.toNatClampNeg).2 q = .inl (0, j.toNatClampNeg, .inl (fun _ => 0)) := by
          show (if q = μ.1 then _ else if μ.1 < q ∧ q ≤ μ.1 + i.toNatClampNeg then _ else μ.2 q) = _
          rw [if_neg q1, if_pos (by omega)]
        rw [e1]
        have h5 := hrow (q - μ.1 - 1) (by omega)
        rw [show H.size + 1 + (q - μ.1 - 1) = g.1.1 + q by omega, c0] at h5
        exact h5
  have hS : va_S (fun q => g.1.1 ≤ q) s.heap F.heap locs := ⟨by rw [f1]; have := h2.1; have e9 : s.heap.size ≤ H.size := this; omega, fun y a b => (hold y (Nat.lt_of_lt_of_le a h2.1)).trans (h2.2.1 y a b), h2.2.2⟩
  rw [Nat.add_assoc k, Nat.add_assoc n] at X'
  obtain ⟨t, a1, b1⟩ := kk (by show s.heap.size + (k + (1 + i.toNatClampNeg)) = g.1.1 + (μ.1 + 1 + i.toNatClampNeg); omega) F.heap locs ls hnew hS h3 F rfl X'
  refine ⟨t, step t ?_, b1⟩
  have e : T.heap.size = H.size := by rw [hT]
  rw [e, hsz]
  exact a1
end
section
/-! LAYER 0, the cells that are there before -/
theorem v_getsX0 {x : CX} {l : Launch} {g : CG} {M : MI} {nL k n idx : Nat} {μ : Mem} {pc : Nat} {lv : LV} {st : List AV} (C : Cx x l g M) (d : decode M.1 pc = .ok (.getstatic idx, 3)) (hl : Cond.fieldLink M.2.2.1 idx "ShareEight$Names" "FIXED_VALUES" "[I" ∈ lw_ok) (kk : V x g nL k n μ (pc + 3) lv (aX 0 :: st)) : V x g nL k n μ pc lv st := by
  obtain ⟨p, l0, e0, R, s, m, args, below, meth, c, Q⟩ := x
  intro h0 H locs ls h1 h2 h3
  exact va_gets C.1 C.2.1 (Cex C).1 h2 C.2.2.2.1 (C.2.2.2.2.1 _ hl) (fun _ z => z) d (kk h0 H locs ls h1 h2 h3)
theorem v_getsX1 {x : CX} {l : Launch} {g : CG} {M : MI} {nL k n idx : Nat} {μ : Mem} {pc : Nat} {lv : LV} {st : List AV} (C : Cx x l g M) (d : decode M.1 pc = .ok (.getstatic idx, 3)) (hl : Cond.fieldLink M.2.2.1 idx "ShareEightModel" "CODES" "[I" ∈ lw_ok) (kk : V x g nL k n μ (pc + 3) lv (aX 1 :: st)) : V x g nL k n μ pc lv st := by
  obtain ⟨p, l0, e0, R, s, m, args, below, meth, c, Q⟩ := x
  intro h0 H locs ls h1 h2 h3
  exact va_gets C.1 C.2.1 (Cex C).2.2.1 h2 C.2.2.2.1 (C.2.2.2.2.1 _ hl) (fun _ z => z) d (kk h0 H locs ls h1 h2 h3)
theorem v_getsC {x : CX} {l : Launch} {g : CG} {M : MI} {nL k n idx : Nat} {μ : Mem} {pc : Nat} {lv : LV} {st : List AV} (C : Cx x l g M) (d : decode M.1 pc = .ok (.getstatic idx, 3)) (hl : Cond.fieldLink M.2.2.1 idx "java/lang/String" "COMPACT_STRINGS" "Z" ∈ lw_ok) (kk : V x g nL k n μ (pc + 3) lv (aI 1 :: st)) : V x g nL k n μ pc lv st := by
  obtain ⟨p, l0, e0, R, s, m, args, below, meth, c, Q⟩ := x
  intro h0 H locs ls h1 h2 h3
  exact va_gets C.1 C.2.1 (Cex C).2.2.2.2.1 h2 C.2.2.2.1 (C.2.2.2.2.1 _ hl) (fun _ z => z) d (kk h0 H locs ls h1 h2 h3)
theorem v_getsF {x : CX} {l : Launch} {g : CG} {M : MI} {nL k n idx : Nat} {μ : Mem} {pc : Nat} {lv : LV} {st : List AV} (C : Cx x l g M) (d : decode M.1 pc = .ok (.getstatic idx, 3)) (hl : Cond.fieldLink M.2.2.1 idx "jdk/internal/util/Preconditions" "SIOOBE_FORMATTER" "Ljava/util/function/BiFunction;" ∈ lw_ok) (kk : ∀ o : AV, (o = aR none ∨ o = aX 30) → V x g nL k n μ (pc + 3) lv (o :: st)) : V x g nL k n μ pc lv st := by
  obtain ⟨p, l0, e0, R, s, m, args, below, meth, c, Q⟩ := x
  intro h0 H locs ls h1 h2 h3
  rcases (Cex C).2.2.2.2.2.2.2.1 with hz | hz
  · exact va_gets C.1 C.2.1 hz h2 C.2.2.2.1 (C.2.2.2.2.1 _ hl) (fun _ z => z) d (kk (aR none) (Or.inl rfl) h0 H locs ls h1 h2 h3)
  · exact va_gets C.1 C.2.1 hz h2 C.2.2.2.1 (C.2.2.2.2.1 _ hl) (fun _ z => z) d (kk (aX 30) (Or.inr rfl) h0 H locs ls h1 h2 h3)
/-- what an int array that was there holds -/
def xI (L : List Int32) (i : Int32) : Option Int32 := if i < 0 ∨ L.length ≤ i.toNatClampNeg then none else some (L.getD i.toNatClampNeg 0)
theorem v_xi0 {x : CX} {l : Launch} {g : CG} {M : MI} {nL k n : Nat} {μ : Mem} {pc : Nat} {lv : LV} {st : List AV} {i v : Int32} (C : Cx x l g M) (d : decode M.1 pc = .ok (.iaload, 1)) (e : xI x_fv i = some v) (kk : V x g nL k n μ (pc + 1) lv (aI v :: st)) : V x g nL k n μ pc lv (aI i :: aX 0 :: st) := by
  obtain ⟨p, l0, e0, R, s, m, args, below, meth, c, Q⟩ := x
  intro h0 H locs ls h1 h2 h3
  obtain ⟨hin, e⟩ := oz e
  exact va_ti C.1 C.2.1 (Cex C).2.1 h2 hin (congrArg Value.int (Option.some.inj e)) d (kk h0 H locs ls h1 h2 h3)
theorem v_xi1 {x : CX} {l : Launch} {g : CG} {M : MI} {nL k n : Nat} {μ : Mem} {pc : Nat} {lv : LV} {st : List AV} {i v : Int32} (C : Cx x l g M) (d : decode M.1 pc = .ok (.iaload, 1)) (e : xI x_cd i = some v) (kk : V x g nL k n μ (pc + 1) lv (aI v :: st)) : V x g nL k n μ pc lv (aI i :: aX 1 :: st) := by
  obtain ⟨p, l0, e0, R, s, m, args, below, meth, c, Q⟩ := x
  intro h0 H locs ls h1 h2 h3
  obtain ⟨hin, e⟩ := oz e
  exact va_ti C.1 C.2.1 (Cex C).2.2.2.1 h2 hin (congrArg Value.int (Option.some.inj e)) d (kk h0 H locs ls h1 h2 h3)
theorem v_xl0 {x : CX} {l : Launch} {g : CG} {M : MI} {nL k n : Nat} {μ : Mem} {pc : Nat} {lv : LV} {st : List AV} (C : Cx x l g M) (d : decode M.1 pc = .ok (.arraylength, 1)) (kk : V x g nL k n μ (pc + 1) lv (aI 53 :: st)) : V x g nL k n μ pc lv (aX 0 :: st) := by
  obtain ⟨p, l0, e0, R, s, m, args, below, meth, c, Q⟩ := x
  intro h0 H locs ls h1 h2 h3
  exact va_tlen C.1 C.2.1 (Cex C).2.1 h2 rfl d (kk h0 H locs ls h1 h2 h3)
/-- the law's script -/
def xS (g : CG) (i : Int32) : Option Int32 := if i < 0 ∨ g.1.2.2.1 ≤ i.toNatClampNeg then none else some (g.1.2.2.2 i.toNatClampNeg)
theorem v_xi2 {x : CX} {l : Launch} {g : CG} {M : MI} {nL k n : Nat} {μ : Mem} {pc : Nat} {lv : LV} {st : List AV} {i v : Int32} (C : Cx x l g M) (d : decode M.1 pc = .ok (.iaload, 1)) (e : xS g i = some v) (kk : V x g nL k n μ (pc + 1) lv (aI v :: st)) : V x g nL k n μ pc lv (aI i :: aX 2 :: st) := by
  obtain ⟨p, l0, e0, R, s, m, args, below, meth, c, Q⟩ := x
  intro h0 H locs ls h1 h2 h3
  obtain ⟨hin, e⟩ := oz e
  exact va_ti C.1 C.2.1 (Cex C).2.2.2.2.2.2.1 h2 hin (congrArg Value.int (Option.some.inj e)) d (kk h0 H locs ls h1 h2 h3)
theorem v_xl2 {x : CX} {l : Launch} {g : CG} {M : MI} {nL k n : Nat} {μ : Mem} {pc : Nat} {lv : LV} {st : List AV} (C : Cx x l g M) (d : decode M.1 pc = .ok (.arraylength, 1)) (kk : V x g nL k n μ (pc + 1) lv (aI (Int32.ofNat g.1.2.2.1) :: st)) : V x g nL k n μ pc lv (aX 2 :: st) := by
  obtain ⟨p, l0, e0, R, s, m, args, below, meth, c, Q⟩ := x
  intro h0 H locs ls h1 h2 h3
  exact va_tlen C.1 C.2.1 (Cex C).2.2.2.2.2.2.1 h2 rfl d (kk h0 H locs ls h1 h2 h3)
-- texts: text i is 10 + i, its bytes are 20 + i
theorem v_aloadX_n {x : CX} {l : Launch} {g : CG} {M : MI} {nL k n : Nat} {μ : Mem} {pc : Nat} {lv : LV} {st : List AV} (C : Cx x l g M) {i : Fin 4} {r : Nat} (d : decode M.1 pc = .ok (.aload_n i, 1)) (hl : lvg lv i.val = some (aX r)) (kk : V x g nL k n μ (pc + 1) lv (aX r :: st)) : V x g nL k n μ pc lv st := by
  obtain ⟨p, l0, e0, R, s, m, args, below, meth, c, Q⟩ := x
  intro h0 H locs ls h1 h2 h3
  exact lv_aload_n C.1 C.2.1 d rfl (lvg_at h3 hl) (kk h0 H locs ls h1 h2 h3)
theorem v_ldcX {x : CX} {l : Launch} {g : CG} {M : MI} {nL k n idx i : Nat} {μ : Mem} {pc : Nat} {lv : LV} {st : List AV} {tx : String} (C : Cx x l g M) (d : decode M.1 pc = .ok (.ldc idx, 2)) (hR : vk_R M.2.2.1 idx tx (g.1.2.1 i) (xs x)) (kk : V x g nL k n μ (pc + 2) lv (aX i :: st)) : V x g nL k n μ pc lv st := by
  obtain ⟨p, l0, e0, R, s, m, args, below, meth, c, Q⟩ := x
  intro h0 H locs ls h1 h2 h3
  exact va_ldcS C.1 C.2.1 C.2.2.2.1 hR d (kk h0 H locs ls h1 h2 h3)
theorem v_xval {x : CX} {l : Launch} {g : CG} {M : MI} {nL k n idx i : Nat} {μ : Mem} {pc : Nat} {lv : LV} {st : List AV} (C : Cx x l g M) (d : decode M.1 pc = .ok (.getfield idx, 3)) (hi : i < 4) (hl : Cond.fieldLink M.2.2.1 idx "java/lang/String" "value" "[B" ∈ lw_ok) (kk : V x g nL k n μ (pc + 3) lv (aX (20 + i) :: st)) : V x g nL k n μ pc lv (aX (10 + i) :: st) := by
  obtain ⟨p, l0, e0, R, s, m, args, below, meth, c, Q⟩ := x
  intro h0 H locs ls h1 h2 h3
  exact vk_getf C.1 C.2.1 ((Cex C).2.2.2.2.2.1.1 i hi).2.2.1 h2 C.2.2.2.1 (C.2.2.2.2.1 _ hl) (fun _ z => z) d (kk h0 H locs ls h1 h2 h3)
theorem v_xcod {x : CX} {l : Launch} {g : CG} {M : MI} {nL k n idx i : Nat} {μ : Mem} {pc : Nat} {lv : LV} {st : List AV} (C : Cx x l g M) (d : decode M.1 pc = .ok (.getfield idx, 3)) (hi : i < 4) (hl : Cond.fieldLink M.2.2.1 idx "java/lang/String" "coder" "B" ∈ lw_ok) (kk : V x g nL k n μ (pc + 3) lv (aI 0 :: st)) : V x g nL k n μ pc lv (aX (10 + i) :: st) := by
  obtain ⟨p, l0, e0, R, s, m, args, below, meth, c, Q⟩ := x
  intro h0 H locs ls h1 h2 h3
  exact vk_getf C.1 C.2.1 ((Cex C).2.2.2.2.2.1.1 i hi).2.1 h2 C.2.2.2.1 (C.2.2.2.2.1 _ hl) (fun _ z => z) d (kk h0 H locs ls h1 h2 h3)
theorem v_xlb {x : CX} {l : Launch} {g : CG} {M : MI} {nL k n i : Nat} {μ : Mem} {pc : Nat} {lv : LV} {st : List AV} (C : Cx x l g M) (d : decode M.1 pc = .ok (.arraylength, 1)) (hi : i < 4) (kk : V x g nL k n μ (pc + 1) lv (aI (Int32.ofNat (x_len.getD i 0)) :: st)) : V x g nL k n μ pc lv (aX (20 + i) :: st) := by
  obtain ⟨p, l0, e0, R, s, m, args, below, meth, c, Q⟩ := x
  intro h0 H locs ls h1 h2 h3
  exact va_tlen C.1 C.2.1 ((Cex C).2.2.2.2.2.1.1 i hi).2.2.2 h2 rfl d (kk h0 H locs ls h1 h2 h3)
theorem v_xbl {x : CX} {l : Launch} {g : CG} {M : MI} {nL k n i : Nat} {μ : Mem} {pc : Nat} {lv : LV} {st : List AV} {j : Int32} (C : Cx x l g M) (d : decode M.1 pc = .ok (.baload, 1)) (hi : i < 4) (hj : ¬ (j < 0 ∨ x_len.getD i 0 ≤ j.toNatClampNeg)) (kk : V x g nL k n μ (pc + 1) lv (aI ((x_byt.getD i []).getD j.toNatClampNeg 0) :: st)) : V x g nL k n μ pc lv (aI j :: aX (20 + i) :: st) := by
  obtain ⟨p, l0, e0, R, s, m, args, below, meth, c, Q⟩ := x
  intro h0 H locs ls h1 h2 h3
  exact va_tb C.1 C.2.1 ((Cex C).2.2.2.2.2.1.1 i hi).2.2.2 h2 hj rfl d (kk h0 H locs ls h1 h2 h3)
end
section
/-! LAYER 1: the methods, their rooms (by program) -/
def mi_J0_coder_7d493 : MI := (cJ0_coder_7d493, 1, RJ0, "coder", (some .byte), { frames := 0, cells := 0, slots := 0, locals := 0 })
def mi_J0_length_8abf5 : MI := (cJ0_length_8abf5, 1, RJ0, "length", (some .int), { frames := 1, cells := 0, slots := 0, locals := 20 })
def mi_J0_isLatin1_aae02 : MI := (cJ0_isLatin1_aae02, 1, RJ0, "isLatin1", (some .boolean), { frames := 0, cells := 0, slots := 0, locals := 0 })
def mi_J3_checkIndex_8e157 : MI := (cJ3_checkIndex_8e157, 3, RJ3, "checkIndex", (some .int), { frames := 0, cells := 0, slots := 0, locals := 0 })
def mi_J0_checkIndex_df160 : MI := (cJ0_checkIndex_df160, 2, RJ0, "checkIndex", none, { frames := 1, cells := 0, slots := 0, locals := 22 })
def mi_J1_charAt_3b067 : MI := (cJ1_charAt_3b067, 2, RJ1, "charAt", (some .char), { frames := 2, cells := 0, slots := 0, locals := 43 })
def mi_J0_charAt_5068e : MI := (cJ0_charAt_5068e, 2, RJ0, "charAt", (some .char), { frames := 3, cells := 0, slots := 0, locals := 64 })
def mi_J7_fill_53178 : MI := (cJ7_fill_53178, 4, RJ7, "fill", none, { frames := 0, cells := 0, slots := 0, locals := 0 })
def mi_J9_min_7cf53 : MI := (cJ9_min_7cf53, 2, RJ9, "min", (some .int), { frames := 0, cells := 0, slots := 0, locals := 0 })
def mi_J9_max_7cf53 : MI := (cJ9_max_7cf53, 2, RJ9, "max", (some .int), { frames := 0, cells := 0, slots := 0, locals := 0 })
def mi_J1_canEncode_9a6ad : MI := (cJ1_canEncode_9a6ad, 1, RJ1, "canEncode", (some .boolean), { frames := 0, cells := 0, slots := 0, locals := 0 })
def mi_J1_indexOfChar_4cfef : MI := (cJ1_indexOfChar_4cfef, 6, RJ1, "indexOfChar", (some .int), { frames := 0, cells := 0, slots := 0, locals := 0 })
def mi_J1_indexOf_4cfef : MI := (cJ1_indexOf_4cfef, 4, RJ1, "indexOf", (some .int), { frames := 1, cells := 0, slots := 0, locals := 25 })
def mi_J0_indexOf_7cf53 : MI := (cJ0_indexOf_7cf53, 3, RJ0, "indexOf", (some .int), { frames := 2, cells := 0, slots := 0, locals := 48 })
def mi_J0_indexOf_0f7a4 : MI := (cJ0_indexOf_0f7a4, 2, RJ0, "indexOf", (some .int), { frames := 3, cells := 0, slots := 0, locals := 70 })
theorem ok_at {w : Cond} (i : Nat) (h : tables_1[i]? = some w) (hg : goodW w = true) : w ∈ lw_ok := List.mem_filter.mpr ⟨List.mem_append_right _ (List.mem_of_getElem? h), hg⟩
theorem ok_list {ws : List Cond} (is : List Nat) (h : is.map (fun i => tables_1[i]?) = ws.map some) (hg : ws.all goodW = true) : ∀ w ∈ ws, w ∈ lw_ok := by
  intro w hw
  have h1 : some w ∈ is.map (fun i => tables_1[i]?) := by rw [h]; exact List.mem_map.mpr ⟨w, hw, rfl⟩
  obtain ⟨i, -, hi⟩ := List.mem_map.mp h1
  exact ok_at i hi (List.all_eq_true.mp hg w hw)
theorem ns_at {w : Cond} (i : Nat) (h : tables_1[i]? = some w) (hg : nestW w = true) : w ∈ lw_ns := List.mem_filter.mpr ⟨List.mem_append_right _ (List.mem_of_getElem? h), hg⟩
theorem sel_at {y : MethodName} (i : Nat) (h : (k2_sels lw_privs)[i]? = some (Cond.selects y.cls y y)) (hg : goodW (Cond.selects y.cls y y) = true) : Cond.selects y.cls y y ∈ lw_ok := List.mem_filter.mpr ⟨List.mem_append_left _ (List.mem_of_getElem? h), hg⟩

theorem tin1 {w : Cond} (h : w ∈ tables_1_1) : w ∈ tables_1 := (List.mem_append_left _ h)
theorem ok1 {w : Cond} (i : Nat) (h : tables_1_1[i]? = some w) (hg : goodW w = true) : w ∈ lw_ok := List.mem_filter.mpr ⟨List.mem_append_right _ (tin1 (List.mem_of_getElem? h)), hg⟩
theorem ns1 {w : Cond} (i : Nat) (h : tables_1_1[i]? = some w) (hg : nestW w = true) : w ∈ lw_ns := List.mem_filter.mpr ⟨List.mem_append_right _ (tin1 (List.mem_of_getElem? h)), hg⟩
theorem tin2 {w : Cond} (h : w ∈ tables_1_2) : w ∈ tables_1 := (List.mem_append_right _ (List.mem_append_left _ h))
theorem ok2 {w : Cond} (i : Nat) (h : tables_1_2[i]? = some w) (hg : goodW w = true) : w ∈ lw_ok := List.mem_filter.mpr ⟨List.mem_append_right _ (tin2 (List.mem_of_getElem? h)), hg⟩
theorem ns2 {w : Cond} (i : Nat) (h : tables_1_2[i]? = some w) (hg : nestW w = true) : w ∈ lw_ns := List.mem_filter.mpr ⟨List.mem_append_right _ (tin2 (List.mem_of_getElem? h)), hg⟩
theorem tin3 {w : Cond} (h : w ∈ tables_1_3) : w ∈ tables_1 := (List.mem_append_right _ (List.mem_append_right _ (List.mem_append_left _ h)))
theorem ok3 {w : Cond} (i : Nat) (h : tables_1_3[i]? = some w) (hg : goodW w = true) : w ∈ lw_ok := List.mem_filter.mpr ⟨List.mem_append_right _ (tin3 (List.mem_of_getElem? h)), hg⟩
theorem ns3 {w : Cond} (i : Nat) (h : tables_1_3[i]? = some w) (hg : nestW w = true) : w ∈ lw_ns := List.mem_filter.mpr ⟨List.mem_append_right _ (tin3 (List.mem_of_getElem? h)), hg⟩
theorem tin4 {w : Cond} (h : w ∈ tables_1_4) : w ∈ tables_1 := (List.mem_append_right _ (List.mem_append_right _ (List.mem_append_right _ (List.mem_append_left _ h))))
theorem ok4 {w : Cond} (i : Nat) (h : tables_1_4[i]? = some w) (hg : goodW w = true) : w ∈ lw_ok := List.mem_filter.mpr ⟨List.mem_append_right _ (tin4 (List.mem_of_getElem? h)), hg⟩
theorem ns4 {w : Cond} (i : Nat) (h : tables_1_4[i]? = some w) (hg : nestW w = true) : w ∈ lw_ns := List.mem_filter.mpr ⟨List.mem_append_right _ (tin4 (List.mem_of_getElem? h)), hg⟩
theorem tin5 {w : Cond} (h : w ∈ tables_1_5) : w ∈ tables_1 := (List.mem_append_right _ (List.mem_append_right _ (List.mem_append_right _ (List.mem_append_right _ (List.mem_append_left _ h)))))
theorem ok5 {w : Cond} (i : Nat) (h : tables_1_5[i]? = some w) (hg : goodW w = true) : w ∈ lw_ok := List.mem_filter.mpr ⟨List.mem_append_right _ (tin5 (List.mem_of_getElem? h)), hg⟩
theorem ns5 {w : Cond} (i : Nat) (h : tables_1_5[i]? = some w) (hg : nestW w = true) : w ∈ lw_ns := List.mem_filter.mpr ⟨List.mem_append_right _ (tin5 (List.mem_of_getElem? h)), hg⟩
theorem tin6 {w : Cond} (h : w ∈ tables_1_6) : w ∈ tables_1 := (List.mem_append_right _ (List.mem_append_right _ (List.mem_append_right _ (List.mem_append_right _ (List.mem_append_right _ (List.mem_append_left _ h))))))
theorem ok6 {w : Cond} (i : Nat) (h : tables_1_6[i]? = some w) (hg : goodW w = true) : w ∈ lw_ok := List.mem_filter.mpr ⟨List.mem_append_right _ (tin6 (List.mem_of_getElem? h)), hg⟩
theorem ns6 {w : Cond} (i : Nat) (h : tables_1_6[i]? = some w) (hg : nestW w = true) : w ∈ lw_ns := List.mem_filter.mpr ⟨List.mem_append_right _ (tin6 (List.mem_of_getElem? h)), hg⟩
theorem tin7 {w : Cond} (h : w ∈ tables_1_7) : w ∈ tables_1 := (List.mem_append_right _ (List.mem_append_right _ (List.mem_append_right _ (List.mem_append_right _ (List.mem_append_right _ (List.mem_append_right _ (List.mem_append_left _ h)))))))
theorem ok7 {w : Cond} (i : Nat) (h : tables_1_7[i]? = some w) (hg : goodW w = true) : w ∈ lw_ok := List.mem_filter.mpr ⟨List.mem_append_right _ (tin7 (List.mem_of_getElem? h)), hg⟩
theorem ns7 {w : Cond} (i : Nat) (h : tables_1_7[i]? = some w) (hg : nestW w = true) : w ∈ lw_ns := List.mem_filter.mpr ⟨List.mem_append_right _ (tin7 (List.mem_of_getElem? h)), hg⟩
theorem tin8 {w : Cond} (h : w ∈ tables_1_8) : w ∈ tables_1 := (List.mem_append_right _ (List.mem_append_right _ (List.mem_append_right _ (List.mem_append_right _ (List.mem_append_right _ (List.mem_append_right _ (List.mem_append_right _ h)))))))
theorem ok8 {w : Cond} (i : Nat) (h : tables_1_8[i]? = some w) (hg : goodW w = true) : w ∈ lw_ok := List.mem_filter.mpr ⟨List.mem_append_right _ (tin8 (List.mem_of_getElem? h)), hg⟩
theorem ns8 {w : Cond} (i : Nat) (h : tables_1_8[i]? = some w) (hg : nestW w = true) : w ∈ lw_ns := List.mem_filter.mpr ⟨List.mem_append_right _ (tin8 (List.mem_of_getElem? h)), hg⟩
end
section
/-! LAYER 0, the JDK's methods of texts, Math, Arrays.fill -/
theorem v_nret {x : CX} {l : Launch} {g : CG} {M : MI} {nL k n : Nat} {μ0 μ μ9 : Mem} {pc : Nat} {lv : LV} {v rv : Int32} {ty : FieldType} (C : Cx x l g M) (F : Prom x g M μ0 (some (aI rv)) μ9) (hM : M.2.2.2.2.1 = some ty ∧ k = M.2.2.2.2.2.cells ∧ n ≤ M.2.2.2.2.2.slots) (hz : narrow ty (.int v) = .int v) (d : decode M.1 pc = .ok (.ireturn, 1)) (h : some (v, μ) = some (rv, μ9)) : V x g nL k n μ pc lv [aI v] := by
  cases h
  obtain ⟨p, l0, e, R, s, m, args, below, meth, c, Q⟩ := x
  intro h0 H locs ls h1 h2 h3
  obtain ⟨hr, rfl, hn⟩ := hM
  have hQ : Q = MQ below (CtQ g M μ0 (some (aI v)) μ) args s M.2.2.2.2.2.cells M.2.2.2.2.2.slots (fun q => g.1.1 ≤ q) := F.2
  show W p l0 e R s m args below meth c H locs M.2.2.2.2.2.cells n Q (F0 m pc ls ([aI v].map (av_v g.1)))
  rw [hQ]
  exact W.widen (Nat.le_refl _) hn (W.zret C.1 C.2.1 (C.2.2.2.2.2.2.2.2.2.2.1.trans hr) hz (fun t ht _ => v_end (r := some (aI v)) (n := n) C F rfl h0 h1 h2 t ht) h2.2.2 d C.2.2.2.2.2.2.1)
theorem v_i2b {x : CX} {l : Launch} {g : CG} {M : MI} {nL k n : Nat} {μ : Mem} {pc : Nat} {lv : LV} {st : List AV} (C : Cx x l g M) {a : Int32} (d : decode M.1 pc = .ok (.i2b, 1)) (kk : V x g nL k n μ (pc + 1) lv (aI a.toInt8.toInt32 :: st)) : V x g nL k n μ pc lv (aI a :: st) := by
  obtain ⟨p, l0, e, R, s, m, args, below, meth, c, Q⟩ := x
  intro h0 H locs ls h1 h2 h3
  exact lv_i2b C.1 C.2.1 d rfl (kk h0 H locs ls h1 h2 h3)
def CfX (own : String) (idx : Nat) (y : MethodName) (M : MI) (n : Nat) : Prop := CfB own idx y M n ∧ Cond.instanceMethod y ∈ lw_ok ∧ Cond.selects y.cls y y ∈ lw_ok ∧ y.cls = "java/lang/String"
theorem v_callX {x : CX} {l : Launch} {g : CG} {M M' : MI} {nL k n idx nn b' : Nat} {μ μ' : Mem} {pc : Nat} {lv : LV} {st stk As : List AV} {y : MethodName} {r : Option AV} (C : Cx x l g M) (d : decode M.1 pc = .ok (.invokevirtual idx, 3)) (cf : CfX M.2.2.1 idx y M' nn) (hR : Rm M M' k n) (hL : M.2.1 = nL ∧ As.length = nn) (hrec : ∃ i, i < 4 ∧ b' = 10 + i) (hst : stk = As.reverse ++ aX b' :: st) (hw8 : stw g.1 st ≤ 8) (hc : Ct l y M' g (aX b' :: As) μ r μ') (kk : V x g nL (k + M'.2.2.2.2.2.cells) (n + M'.2.2.2.2.2.slots) μ' (pc + 3) lv (r.toList ++ st)) : V x g nL k n μ pc lv stk := by
  refine v_sz C fun H locs ls h0 hz h1 h2 h3 => ?_
  obtain ⟨i, hi, rfl⟩ := hrec
  have pre := ctP_pre (av := aX (10 + i) :: As) C hz h1 h2
  refine v_back C h0 hz h2 h3 (a := ((aX (10 + i) :: As).map (av_v g.1)).toArray) ?_ kk
  obtain ⟨p, l0, e, R, s, m, args, below, meth, c, Q⟩ := x
  obtain ⟨⟨c1, c2, c3, c4, c5, c6⟩, c7, c8, c9⟩ := cf
  obtain ⟨hR1, hR2⟩ := hR
  have hRR : R = M.2.2.2.2.2 := C.2.2.2.2.2.2.2.2.2.1
  have hll : l0 = l := C.2.2.2.2.2.2.2.2.1
  subst hll
  have hstack : (F0 m pc ls (stk.map (av_v g.1))).stack = (As.map (av_v g.1)).reverse ++ .ref (g.1.2.1 (10 + i)) :: st.map (av_v g.1) := by
    subst hst
    show (As.reverse ++ aX (10 + i) :: st).map (av_v g.1) = _
    rw [List.map_append, List.map_reverse]
    rfl
  have hpv : PreV s H y.cls (g.1.2.1 (10 + i)) (CtP g (aX (10 + i) :: As) μ) (As.map (av_v g.1)) := ⟨pre.1, by rw [c9]; exact vk_recv (i := i) (Cex C).2.2.2.2.2.1 hi h2, pre.2⟩
  have fix : CallFix p m c M.1 M.2.1 s args lw_ok M.2.2.1 := ⟨C.1, C.2.1, C.2.2.1, C.2.2.2.1, C.2.2.2.2.1⟩
  have hsz : (F0 m pc ls (stk.map (av_v g.1))).locals.size = M.2.1 := by rw [hL.1]; exact h3.1
  have hlen : (As.map (av_v g.1)).length = nn := by rw [List.length_map]; exact hL.2
  have hw0 : 2 * (F0 m pc ls (stk.map (av_v g.1))).monitorRoom + ((st.map (av_v g.1)).map fun v => v.category).sum ≤ 8 := by show 2 * 0 + _ ≤ 8; rw [Nat.mul_zero, Nat.zero_add, stw_eq]; exact hw8
  rcases c3 with c3 | ⟨host, c3⟩
  · exact va_runV fix hc ⟨callB_of nn C.2.2.2.2.1 (ws_good c1) rfl rfl rfl (C.2.2.2.2.1 _ c2) (C.2.2.2.2.1 _ c3) ⟨c4, c5, c6⟩ (by rw [hRR]; exact hR1), C.2.2.2.2.1 _ c7, C.2.2.2.2.1 _ c8⟩ hpv rfl hlen hsz hstack hw0 d (by rw [hRR]; exact hR2)
  · exact va_runVN fix hc ⟨va_cnB nn C.2.2.2.2.1 (ws_good c1) rfl rfl rfl (Cns C _ c3) (C.2.2.2.2.1 _ c2) ⟨c4, c5, c6⟩ (by rw [hRR]; exact hR1), C.2.2.2.2.1 _ c7, C.2.2.2.2.1 _ c8⟩ hpv rfl hlen hsz hstack hw0 d (by rw [hRR]; exact hR2)
theorem c_coder (l : Launch) (g : CG) {i : Nat} (hi : i < 4) (μ : Mem) : Ct l yJ0_coder_7d493 mi_J0_coder_7d493 g [aX (10 + i)] μ (some (aI 0)) μ := ct_of ⟨by decide, rfl, rfl⟩ (Nat.le_of_ble_eq_true rfl) fun x C F => by
  refine v_getsC C dJ0_coder_7d493_0 (ok1 53 (by decide +kernel) rfl) ?_
  refine v_if_eq (tgt := 13) C dJ0_coder_7d493_3 (by decide) (fun c => absurd c (by decide)) (fun c => ?_)
  refine v_aloadX_n C dJ0_coder_7d493_6 rfl ?_
  refine v_xcod C dJ0_coder_7d493_7 hi (ok8 93 (by decide +kernel) rfl) ?_
  refine v_goto (tgt := 14) C dJ0_coder_7d493_10 (by decide) ?_
  exact v_nret C F ⟨rfl, rfl, Nat.le_refl _⟩ rfl dJ0_coder_7d493_14 rfl
theorem c_isL (l : Launch) (g : CG) {i : Nat} (hi : i < 4) (μ : Mem) : Ct l yJ0_isLatin1_aae02 mi_J0_isLatin1_aae02 g [aX (10 + i)] μ (some (aI 1)) μ := ct_of ⟨by decide, rfl, rfl⟩ (Nat.le_of_ble_eq_true rfl) fun x C F => by
  refine v_getsC C dJ0_isLatin1_aae02_0 (ok1 53 (by decide +kernel) rfl) ?_
  refine v_if_eq (tgt := 17) C dJ0_isLatin1_aae02_3 (by decide) (fun c => absurd c (by decide)) (fun c => ?_)
  refine v_aloadX_n C dJ0_isLatin1_aae02_6 rfl ?_
  refine v_xcod C dJ0_isLatin1_aae02_7 hi (ok8 93 (by decide +kernel) rfl) ?_
  refine v_if_ne (tgt := 17) C dJ0_isLatin1_aae02_10 (by decide) (fun c => absurd rfl c) (fun c => ?_)
  refine v_iconst (v := 1) C dJ0_isLatin1_aae02_13 rfl ?_
  refine v_goto (tgt := 18) C dJ0_isLatin1_aae02_14 (by decide) ?_
  exact v_nret C F ⟨rfl, rfl, Nat.le_refl _⟩ rfl dJ0_isLatin1_aae02_18 rfl
def slen (i : Nat) : Nat := x_len.getD i 0
theorem shr0 (a : Int32) : a >>> ((0 : Int32) &&& 31) = a := by
  show a >>> (0 : Int32) = a
  exact Int32.toBitVec_inj.mp (by simp)
theorem c_len (l : Launch) (g : CG) {i : Nat} (hi : i < 4) (μ : Mem) : Ct l yJ0_length_8abf5 mi_J0_length_8abf5 g [aX (10 + i)] μ (some (aI (Int32.ofNat (slen i)))) μ := ct_of ⟨by decide, rfl, rfl⟩ (Nat.le_of_ble_eq_true rfl) fun x C F => by
  refine v_aloadX_n C dJ0_length_8abf5_0 rfl ?_
  refine v_xval C dJ0_length_8abf5_1 hi (ok8 92 (by decide +kernel) rfl) ?_
  refine v_xlb C dJ0_length_8abf5_4 hi ?_
  refine v_aloadX_n C dJ0_length_8abf5_5 rfl ?_
  refine v_callX (As := []) C dJ0_length_8abf5_6 ⟨⟨(ok1 52 (by decide +kernel) rfl), (ok1 4 (by decide +kernel) rfl), Or.inl (ok1 49 (by decide +kernel) rfl), by decide, by decide, rfl⟩, (ok1 50 (by decide +kernel) rfl), (ok1 51 (by decide +kernel) rfl), rfl⟩ ⟨⟨Nat.le_of_ble_eq_true rfl, Nat.le_of_ble_eq_true rfl⟩, Nat.le_of_ble_eq_true rfl, Nat.le_of_ble_eq_true rfl⟩ ⟨rfl, rfl⟩ ⟨i, hi, rfl⟩ rfl (Nat.le_of_ble_eq_true rfl) (c_coder _ _ hi _) ?_
  refine v_ishr C dJ0_length_8abf5_9 ?_
  refine v_iret C F ⟨rfl, rfl, Nat.le_refl _⟩ dJ0_length_8abf5_10 ?_
  rw [shr0]
  rfl
theorem c_pchk (l : Launch) (g : CG) {a b : Int32} (h1 : ¬ a < 0) (h2 : a < b) {o : AV} (ho : o = aR none ∨ o = aX 30) (μ : Mem) : Ct l yJ3_checkIndex_8e157 mi_J3_checkIndex_8e157 g [aI a, aI b, o] μ (some (aI a)) μ := ct_of ⟨by decide, rfl, rfl⟩ (by rcases ho with rfl | rfl <;> exact Nat.le_of_ble_eq_true rfl) fun x C F => by
  refine v_iload_n C dJ3_checkIndex_8e157_0 rfl ?_
  refine v_if_lt (tgt := 9) C dJ3_checkIndex_8e157_1 (by decide) (fun c => absurd c h1) (fun c => ?_)
  refine v_iload_n C dJ3_checkIndex_8e157_4 rfl ?_
  refine v_iload_n C dJ3_checkIndex_8e157_5 rfl ?_
  refine v_icmp_lt (tgt := 16) C dJ3_checkIndex_8e157_6 (by decide) (fun c => ?_) (fun c => absurd h2 c)
  refine v_iload_n C dJ3_checkIndex_8e157_16 rfl ?_
  exact v_iret C F ⟨rfl, rfl, Nat.le_refl _⟩ dJ3_checkIndex_8e157_17 rfl
theorem c_chk (l : Launch) (g : CG) {a b : Int32} (h1 : ¬ a < 0) (h2 : a < b) (μ : Mem) : Ct l yJ0_checkIndex_df160 mi_J0_checkIndex_df160 g [aI a, aI b] μ none μ := ct_of ⟨by decide, rfl, rfl⟩ (Nat.le_of_ble_eq_true rfl) fun x C F => by
  refine v_iload_n C dJ0_checkIndex_df160_0 rfl ?_
  refine v_iload_n C dJ0_checkIndex_df160_1 rfl ?_
  refine v_getsF C dJ0_checkIndex_df160_2 (ok1 69 (by decide +kernel) rfl) fun o ho => ?_
  refine v_callS (As := [_, _, _]) C dJ0_checkIndex_df160_5 ⟨⟨(ok1 73 (by decide +kernel) rfl), (ok1 6 (by decide +kernel) rfl), Or.inl (ok1 71 (by decide +kernel) rfl), by decide, by decide, rfl⟩, (ok1 72 (by decide +kernel) rfl)⟩ ⟨⟨Nat.le_of_ble_eq_true rfl, Nat.le_of_ble_eq_true rfl⟩, Nat.le_of_ble_eq_true rfl, Nat.le_of_ble_eq_true rfl⟩ ⟨rfl, rfl⟩ rfl (Nat.le_of_ble_eq_true rfl) (c_pchk _ _ h1 h2 ho _) ?_
  refine v_pop C dJ0_checkIndex_df160_8 rfl ?_
  exact v_vret C F ⟨rfl, rfl, Nat.le_refl _⟩ dJ0_checkIndex_df160_9 rfl
/-- charAt -/
def schr (i : Nat) (j : Int32) : Int32 := (((x_byt.getD i []).getD j.toNatClampNeg 0 &&& 255).toUInt32 % 65536).toInt32
theorem lt_len {i : Nat} (hi : i < 4) {j : Int32} (h : ¬ (j < 0 ∨ slen i ≤ j.toNatClampNeg)) : ¬ j < 0 ∧ j < Int32.ofNat (slen i) := by
  refine ⟨fun z => h (Or.inl z), ?_⟩
  have h0 : ¬ j < 0 := fun z => h (Or.inl z)
  have h1 : j.toNatClampNeg < slen i := Nat.not_le.mp fun z => h (Or.inr z)
  have hs : slen i < 1000 := by
    rcases i with _ | _ | _ | _ | i
    · decide
    · decide
    · decide
    · decide
    · omega
  obtain ⟨q, hq, rfl⟩ := nI_of h0
  rw [nI_clamp hq] at h1
  exact nI_lt h1 (by omega)
theorem c_lchr (l : Launch) (g : CG) {i : Nat} (hi : i < 4) {j : Int32} (hj : ¬ (j < 0 ∨ slen i ≤ j.toNatClampNeg)) (μ : Mem) : Ct l yJ1_charAt_3b067 mi_J1_charAt_3b067 g [aX (20 + i), aI j] μ (some (aI (schr i j))) μ := ct_of ⟨by decide, rfl, rfl⟩ (Nat.le_of_ble_eq_true rfl) fun x C F => by
  obtain ⟨h1, h2⟩ := lt_len hi hj
  refine v_iload_n C dJ1_charAt_3b067_0 rfl ?_
  refine v_aloadX_n C dJ1_charAt_3b067_1 rfl ?_
  refine v_xlb C dJ1_charAt_3b067_2 hi ?_
  refine v_callS (As := [_, _]) C dJ1_charAt_3b067_3 ⟨⟨(ok1 68 (by decide +kernel) rfl), (ok1 4 (by decide +kernel) rfl), Or.inl (ok1 66 (by decide +kernel) rfl), by decide, by decide, rfl⟩, (ok1 67 (by decide +kernel) rfl)⟩ ⟨⟨Nat.le_of_ble_eq_true rfl, Nat.le_of_ble_eq_true rfl⟩, Nat.le_of_ble_eq_true rfl, Nat.le_of_ble_eq_true rfl⟩ ⟨rfl, rfl⟩ rfl (Nat.le_of_ble_eq_true rfl) (c_chk _ _ h1 h2 _) ?_
  refine v_aloadX_n C dJ1_charAt_3b067_6 rfl ?_
  refine v_iload_n C dJ1_charAt_3b067_7 rfl ?_
  refine v_xbl C dJ1_charAt_3b067_8 hi hj ?_
  refine v_sipush (v := 255) C dJ1_charAt_3b067_9 rfl ?_
  refine v_iand C dJ1_charAt_3b067_12 ?_
  refine v_i2c C dJ1_charAt_3b067_13 ?_
  exact v_nret C F ⟨rfl, rfl, Nat.le_refl _⟩ (pk_nc _) dJ1_charAt_3b067_14 rfl
theorem c_chr (l : Launch) (g : CG) {i : Nat} (hi : i < 4) {j : Int32} (hj : ¬ (j < 0 ∨ slen i ≤ j.toNatClampNeg)) (μ : Mem) : Ct l yJ0_charAt_5068e mi_J0_charAt_5068e g [aX (10 + i), aI j] μ (some (aI (schr i j))) μ := ct_of ⟨by decide, rfl, rfl⟩ (Nat.le_of_ble_eq_true rfl) fun x C F => by
  refine v_aloadX_n C dJ0_charAt_5068e_0 rfl ?_
  refine v_callX (As := []) C dJ0_charAt_5068e_1 ⟨⟨(ok1 62 (by decide +kernel) rfl), (ok1 4 (by decide +kernel) rfl), Or.inl (ok1 59 (by decide +kernel) rfl), by decide, by decide, rfl⟩, (ok1 60 (by decide +kernel) rfl), (ok1 61 (by decide +kernel) rfl), rfl⟩ ⟨⟨Nat.le_of_ble_eq_true rfl, Nat.le_of_ble_eq_true rfl⟩, Nat.le_of_ble_eq_true rfl, Nat.le_of_ble_eq_true rfl⟩ ⟨rfl, rfl⟩ ⟨i, hi, rfl⟩ rfl (Nat.le_of_ble_eq_true rfl) (c_isL _ _ hi _) ?_
  refine v_if_eq (tgt := 16) C dJ0_charAt_5068e_4 (by decide) (fun c => absurd c (by decide)) (fun c => ?_)
  refine v_aloadX_n C dJ0_charAt_5068e_7 rfl ?_
  refine v_xval C dJ0_charAt_5068e_8 hi (ok8 92 (by decide +kernel) rfl) ?_
  refine v_iload_n C dJ0_charAt_5068e_11 rfl ?_
  refine v_callS (As := [_, _]) C dJ0_charAt_5068e_12 ⟨⟨(ok1 65 (by decide +kernel) rfl), (ok1 5 (by decide +kernel) rfl), Or.inl (ok1 63 (by decide +kernel) rfl), by decide, by decide, rfl⟩, (ok1 64 (by decide +kernel) rfl)⟩ ⟨⟨Nat.le_of_ble_eq_true rfl, Nat.le_of_ble_eq_true rfl⟩, Nat.le_of_ble_eq_true rfl, Nat.le_of_ble_eq_true rfl⟩ ⟨rfl, rfl⟩ rfl (Nat.le_of_ble_eq_true rfl) (c_lchr _ _ hi hj _) ?_
  exact v_nret C F ⟨rfl, rfl, Nat.le_refl _⟩ (pk_nc _) dJ0_charAt_5068e_15 rfl
def mmax (a b : Int32) : Int32 := if a < b then b else a
def mmin (a b : Int32) : Int32 := if b < a then b else a
theorem v_mmax {x : CX} {l : Launch} {g : CG} {M : MI} {nL k n idx : Nat} {μ : Mem} {pc : Nat} {lv : LV} {st : List AV} {a b : Int32} (C : Cx x l g M) (d : decode M.1 pc = .ok (.invokestatic idx, 3)) (hw : Cond.methodLink M.2.2.1 idx Lib.Math.max.name ∈ lw_ok ∧ Cond.static Lib.Math.max.name ∈ lw_ok ∧ Cond.initialized "java/lang/Math" ∈ lw_ok ∧ Cond.code Lib.Math.max.name Lib.Math.max.code 2 (some .int) ∈ lw_ok) (hL : M.2.1 = nL) (hR : (1 ≤ M.2.2.2.2.2.frames ∧ stw g.1 st + 13 ≤ M.2.2.2.2.2.locals) ∧ k ≤ M.2.2.2.2.2.cells ∧ n ≤ M.2.2.2.2.2.slots) (kk : V x g nL k n μ (pc + 3) lv (aI (mmax a b) :: st)) : V x g nL k n μ pc lv (aI b :: aI a :: st) := by
  obtain ⟨p, l0, e, R, s, m, args, below, meth, c, Q⟩ := x
  intro h0 H locs ls h1 h2 h3
  have hRR : R = M.2.2.2.2.2 := C.2.2.2.2.2.2.2.2.2.1
  exact va_mmax C.1 C.2.1 (by rw [C.2.2.1, hL]; exact h3.1.symm) C.2.2.2.1 (C.2.2.2.2.1 _ hw.1) (C.2.2.2.2.1 _ hw.2.1) (C.2.2.2.2.1 _ hw.2.2.1) (C.2.2.2.2.1 _ hw.2.2.2) (by rw [hRR]; exact hR.1.1) (by rw [hRR, stw_eq]; exact hR.1.2) (by rw [hRR]; exact hR.2.1) (by rw [hRR]; exact hR.2.2) d (kk h0 H locs ls h1 h2 h3)
theorem v_mmin {x : CX} {l : Launch} {g : CG} {M : MI} {nL k n idx : Nat} {μ : Mem} {pc : Nat} {lv : LV} {st : List AV} {a b : Int32} (C : Cx x l g M) (d : decode M.1 pc = .ok (.invokestatic idx, 3)) (hw : Cond.methodLink M.2.2.1 idx Lib.Math.min.name ∈ lw_ok ∧ Cond.static Lib.Math.min.name ∈ lw_ok ∧ Cond.initialized "java/lang/Math" ∈ lw_ok ∧ Cond.code Lib.Math.min.name Lib.Math.min.code 2 (some .int) ∈ lw_ok) (hL : M.2.1 = nL) (hR : (1 ≤ M.2.2.2.2.2.frames ∧ stw g.1 st + 13 ≤ M.2.2.2.2.2.locals) ∧ k ≤ M.2.2.2.2.2.cells ∧ n ≤ M.2.2.2.2.2.slots) (kk : V x g nL k n μ (pc + 3) lv (aI (mmin a b) :: st)) : V x g nL k n μ pc lv (aI b :: aI a :: st) := by
  obtain ⟨p, l0, e, R, s, m, args, below, meth, c, Q⟩ := x
  intro h0 H locs ls h1 h2 h3
  have hRR : R = M.2.2.2.2.2 := C.2.2.2.2.2.2.2.2.2.1
  exact va_mmin C.1 C.2.1 (by rw [C.2.2.1, hL]; exact h3.1.symm) C.2.2.2.1 (C.2.2.2.2.1 _ hw.1) (C.2.2.2.2.1 _ hw.2.1) (C.2.2.2.2.1 _ hw.2.2.1) (C.2.2.2.2.1 _ hw.2.2.2) (by rw [hRR]; exact hR.1.1) (by rw [hRR, stw_eq]; exact hR.1.2) (by rw [hRR]; exact hR.2.1) (by rw [hRR]; exact hR.2.2) d (kk h0 H locs ls h1 h2 h3)
def mcpy (μ : Mem) (r : Option Nat) (sp : Int32) (q : Option Nat) (dp n : Int32) : Option Mem := match maV μ 0 r, maV μ 0 q with
  | some (n0, .inl f), some (n1, .inl h) => if sp < 0 ∨ dp < 0 ∨ n < 0 ∨ n0 < sp.toNatClampNeg + n.toNatClampNeg ∨ n1 < dp.toNatClampNeg + n.toNatClampNeg then none else mbV μ 0 q n1 (.inl (va_cpy f h sp.toNatClampNeg dp.toNatClampNeg n.toNatClampNeg))
  | _, _ => none
theorem v_acopy {x : CX} {l : Launch} {g : CG} {M : MI} {nL k n idx : Nat} {μ μ2 : Mem} {pc : Nat} {lv : LV} {st : List AV} {r q : Option Nat} {sp dp m0 : Int32} (C : Cx x l g M) (d : decode M.1 pc = .ok (.invokestatic idx, 3)) (hw : Cond.methodLink M.2.2.1 idx arraycopyName ∈ lw_ok ∧ Cond.native arraycopyName ∈ lw_ok ∧ Cond.static arraycopyName ∈ lw_ok ∧ Cond.initialized "java/lang/System" ∈ lw_ok) (hL : M.2.1 = nL) (hR : 1 ≤ M.2.2.2.2.2.frames ∧ stw g.1 st + (nativeFrameWords "java/lang/System" "arraycopy" 5 + 11) ≤ M.2.2.2.2.2.locals) (e : mcpy μ r sp q dp m0 = some μ2) (kk : V x g nL k n μ2 (pc + 3) lv st) : V x g nL k n μ pc lv (aI m0 :: aI dp :: aR q :: aI sp :: aR r :: st) := by
  obtain ⟨p, l0, e0, R, s, m, args, below, meth, c, Q⟩ := x
  intro h0 H locs ls h1 h2 h3
  have hRR : R = M.2.2.2.2.2 := C.2.2.2.2.2.2.2.2.2.1
  unfold mcpy at e
  split at e
  · rename_i n0 f n1 h ev ev2
    obtain ⟨hin, e⟩ := oz e
    obtain ⟨a, rfl, ha, hc⟩ := maV_spec ev
    obtain ⟨b, rfl, hb, hc2⟩ := maV_spec ev2
    cases e
    have hfit : ∀ i, i < m0.toNatClampNeg → fits .int (.int (f (sp.toNatClampNeg + i))) = true := fun _ _ => rfl
    exact va_copyi C.1 C.2.1 (by rw [C.2.2.1, hL]; exact h3.1.symm) C.2.2.2.1 (C.2.2.2.2.1 _ hw.1) (C.2.2.2.2.1 _ hw.2.1) (C.2.2.2.2.1 _ hw.2.2.1) (C.2.2.2.2.1 _ hw.2.2.2) C.2.2.2.2.2.1 h1 (hw_D g μ) h2 a b 0 0 (arr_at ha hc) (arr_at hb hc2) (tyat (Cty C) (t := 0) (ty := .int) rfl) (tyat (Cty C) (t := 0) (ty := .int) rfl) rfl (fun z => hin (Or.inl z)) (fun z => hin (Or.inr (Or.inl z))) (fun z => hin (Or.inr (Or.inr (Or.inl z)))) (by omega) (by omega) hfit (by rw [hRR]; exact hR.1) (by rw [hRR, stw_eq]; exact hR.2) d (fun H1 locs1 y _ w => kk h0 H1 locs1 ls (hold_set (E := .inl (0, n1, .inl (va_cpy f h sp.toNatClampNeg dp.toNatClampNeg m0.toNatClampNeg))) rfl y) w h3)
  · cases e
end
section
/-! LAYER 0, indexOf; what the texts' methods answer -/
def canE (c : Int32) : Int32 := if c < 0 then 0 else if 255 < c then 0 else 1
theorem c_can (l : Launch) (g : CG) (c : Int32) (μ : Mem) : Ct l yJ1_canEncode_9a6ad mi_J1_canEncode_9a6ad g [aI c] μ (some (aI (canE c))) μ := ct_of ⟨by decide, rfl, rfl⟩ (Nat.le_of_ble_eq_true rfl) fun x C F => by
  refine v_iload_n C dJ1_canEncode_9a6ad_0 rfl ?_
  refine v_if_lt (tgt := 15) C dJ1_canEncode_9a6ad_1 (by decide) (fun h1 => ?_) (fun h1 => ?_)
  · refine v_iconst (v := 0) C dJ1_canEncode_9a6ad_15 rfl ?_
    exact v_nret C F ⟨rfl, rfl, Nat.le_refl _⟩ rfl dJ1_canEncode_9a6ad_16 (by unfold canE; rw [if_pos h1])
  · refine v_iload_n C dJ1_canEncode_9a6ad_4 rfl ?_
    refine v_sipush (v := 255) C dJ1_canEncode_9a6ad_5 rfl ?_
    refine v_icmp_gt (tgt := 15) C dJ1_canEncode_9a6ad_8 (by decide) (fun h2 => ?_) (fun h2 => ?_)
    · refine v_iconst (v := 0) C dJ1_canEncode_9a6ad_15 rfl ?_
      exact v_nret C F ⟨rfl, rfl, Nat.le_refl _⟩ rfl dJ1_canEncode_9a6ad_16 (by unfold canE; rw [if_neg h1, if_pos h2])
    · refine v_iconst (v := 1) C dJ1_canEncode_9a6ad_11 rfl ?_
      refine v_goto (tgt := 16) C dJ1_canEncode_9a6ad_12 (by decide) ?_
      exact v_nret C F ⟨rfl, rfl, Nat.le_refl _⟩ rfl dJ1_canEncode_9a6ad_16 (by unfold canE; rw [if_neg h1, if_neg h2])
def ixc (L : List Int32) (c : Int32) (mx : Nat) : Nat → Nat → Int32
  | 0, _ => -1
  | n + 1, j => if mx ≤ j then -1 else if ¬ L.getD j 0 = c then ixc L c mx n (j + 1) else Int32.ofNat j
theorem slen_lt {i : Nat} (hi : i < 4) : slen i < 1000 := by
  rcases i with _ | _ | _ | _ | i
  · decide
  · decide
  · decide
  · decide
  · omega
theorem p_lixc {x : CX} {l : Launch} {g : CG} {i : Nat} (hi : i < 4) {ch fr c rv : Int32} {μ0 μ : Mem} (C : Cx x l g mi_J1_indexOfChar_4cfef) (F : Prom x g mi_J1_indexOfChar_4cfef μ0 (some (aI rv)) μ) : ∀ (n j : Nat), slen i < j + n → ixc (x_byt.getD i []) c (slen i) n j = rv → j ≤ slen i → V x g 6 0 0 μ 7 [(5, aI (nI j)), (4, aI c), (0, aX (20 + i)), (1, aI ch), (2, aI fr), (3, aI (nI (slen i)))] [] := by
  have hs := slen_lt hi
  intro n
  induction n with
  | zero => intro j h1 h2 h3; omega
  | succ n ih =>
    intro j h1 h2 h3
    unfold ixc at h2
    refine v_iload C dJ1_indexOfChar_4cfef_7 rfl ?_
    refine v_iload_n C dJ1_indexOfChar_4cfef_9 rfl ?_
    refine v_icmp_ge (tgt := 31) C dJ1_indexOfChar_4cfef_10 (by decide) (fun c1 => ?_) (fun c1 => ?_)
    · rw [nI_leI (by omega) (by omega)] at c1
      rw [if_pos c1] at h2
      refine v_iconst (v := -1) C dJ1_indexOfChar_4cfef_31 rfl ?_
      exact v_iret C F ⟨rfl, rfl, Nat.le_refl _⟩ dJ1_indexOfChar_4cfef_32 (by rw [← h2])
    · rw [nI_leI (by omega) (by omega)] at c1
      rw [if_neg c1] at h2
      refine v_aloadX_n C dJ1_indexOfChar_4cfef_13 rfl ?_
      refine v_iload C dJ1_indexOfChar_4cfef_14 rfl ?_
      refine v_xbl C dJ1_indexOfChar_4cfef_16 hi (nI_in (N := slen i) (by omega) (by omega)) ?_
      rw [nI_clamp (by omega : j < 2 ^ 31)]
      refine v_iload C dJ1_indexOfChar_4cfef_17 rfl ?_
      refine v_icmp_ne (tgt := 25) C dJ1_indexOfChar_4cfef_19 (by decide) (fun c2 => ?_) (fun c2 => ?_)
      · rw [if_pos c2] at h2
        refine v_iinc (w := 1) C dJ1_indexOfChar_4cfef_25 rfl rfl (by decide) ?_
        refine v_goto (tgt := 7) C dJ1_indexOfChar_4cfef_28 (by decide) ?_
        rw [nI_1]
        exact ih (j + 1) (by omega) h2 (by omega)
      · rw [if_neg c2] at h2
        refine v_iload C dJ1_indexOfChar_4cfef_22 rfl ?_
        exact v_iret C F ⟨rfl, rfl, Nat.le_refl _⟩ dJ1_indexOfChar_4cfef_24 (by rw [← h2]; rfl)
theorem c_lixc (l : Launch) (g : CG) {i : Nat} (hi : i < 4) (ch : Int32) {j : Nat} (hj : j ≤ slen i) (μ : Mem) : Ct l yJ1_indexOfChar_4cfef mi_J1_indexOfChar_4cfef g [aX (20 + i), aI ch, aI (nI j), aI (nI (slen i))] μ (some (aI (ixc (x_byt.getD i []) ch.toInt8.toInt32 (slen i) (slen i + 1) j))) μ := ct_of ⟨by decide, rfl, rfl⟩ (Nat.le_of_ble_eq_true rfl) fun x C F => by
  refine v_iload_n C dJ1_indexOfChar_4cfef_0 rfl ?_
  refine v_i2b C dJ1_indexOfChar_4cfef_1 ?_
  refine v_istore C dJ1_indexOfChar_4cfef_2 (by decide) ?_
  refine v_iload_n C dJ1_indexOfChar_4cfef_4 rfl ?_
  refine v_istore C dJ1_indexOfChar_4cfef_5 (by decide) ?_
  exact p_lixc hi C F (slen i + 1) j (by omega) rfl hj
/-- indexOf from a place on -/
def six (i : Nat) (ch fr : Int32) : Int32 := if canE ch = 0 then -1 else if mmax fr 0 < nI (slen i) then ixc (x_byt.getD i []) ch.toInt8.toInt32 (slen i) (slen i + 1) (mmax fr 0).toNatClampNeg else -1
theorem mmin_self (a : Int32) : mmin a a = a := by unfold mmin; split <;> rfl
theorem c_lix (l : Launch) (g : CG) {i : Nat} (hi : i < 4) (ch fr : Int32) (μ : Mem) : Ct l yJ1_indexOf_4cfef mi_J1_indexOf_4cfef g [aX (20 + i), aI ch, aI fr, aI (nI (slen i))] μ (some (aI (six i ch fr))) μ := ct_of ⟨by decide, rfl, rfl⟩ (Nat.le_of_ble_eq_true rfl) fun x C F => by
  have hs := slen_lt hi
  refine v_iload_n C dJ1_indexOf_4cfef_0 rfl ?_
  refine v_callS (As := [_]) C dJ1_indexOf_4cfef_1 ⟨⟨(ok3 117 (by decide +kernel) rfl), (ok1 5 (by decide +kernel) rfl), Or.inl (ok3 115 (by decide +kernel) rfl), by decide, by decide, rfl⟩, (ok3 116 (by decide +kernel) rfl)⟩ ⟨⟨Nat.le_of_ble_eq_true rfl, Nat.le_of_ble_eq_true rfl⟩, Nat.le_of_ble_eq_true rfl, Nat.le_of_ble_eq_true rfl⟩ ⟨rfl, rfl⟩ rfl (Nat.le_of_ble_eq_true rfl) (c_can _ _ _ _) ?_
  refine v_if_ne (tgt := 9) C dJ1_indexOf_4cfef_4 (by decide) (fun c1 => ?_) (fun c1 => ?_)
  · refine v_iload_n C dJ1_indexOf_4cfef_9 rfl ?_
    refine v_iconst (v := 0) C dJ1_indexOf_4cfef_10 rfl ?_
    refine v_mmax C dJ1_indexOf_4cfef_11 ⟨(ok3 118 (by decide +kernel) rfl), (ok1 219 (by decide +kernel) rfl), (ok1 12 (by decide +kernel) rfl), (ok1 220 (by decide +kernel) rfl)⟩ rfl ⟨⟨Nat.le_of_ble_eq_true rfl, Nat.le_of_ble_eq_true rfl⟩, Nat.le_of_ble_eq_true rfl, Nat.le_of_ble_eq_true rfl⟩ ?_
    refine v_istore_n C dJ1_indexOf_4cfef_14 (by decide) ?_
    refine v_iload_n C dJ1_indexOf_4cfef_15 rfl ?_
    refine v_aloadX_n C dJ1_indexOf_4cfef_16 rfl ?_
    refine v_xlb C dJ1_indexOf_4cfef_17 hi ?_
    refine v_mmin C dJ1_indexOf_4cfef_18 ⟨(ok3 119 (by decide +kernel) rfl), (ok1 216 (by decide +kernel) rfl), (ok1 12 (by decide +kernel) rfl), (ok1 217 (by decide +kernel) rfl)⟩ rfl ⟨⟨Nat.le_of_ble_eq_true rfl, Nat.le_of_ble_eq_true rfl⟩, Nat.le_of_ble_eq_true rfl, Nat.le_of_ble_eq_true rfl⟩ ?_
    rw [show mmin (nI (slen i)) (Int32.ofNat (x_len.getD i 0)) = nI (slen i) from mmin_self _]
    refine v_istore_n C dJ1_indexOf_4cfef_21 (by decide) ?_
    refine v_iload_n C dJ1_indexOf_4cfef_22 rfl ?_
    refine v_iload_n C dJ1_indexOf_4cfef_23 rfl ?_
    refine v_icmp_lt (tgt := 29) C dJ1_indexOf_4cfef_24 (by decide) (fun c2 => ?_) (fun c2 => ?_)
    · have h0 : ¬ mmax fr 0 < 0 := by
        unfold mmax
        split
        · decide
        · assumption
      obtain ⟨j, hj, he⟩ := nI_of h0
      have hu : six i ch fr = ixc (x_byt.getD i []) ch.toInt8.toInt32 (slen i) (slen i + 1) j := by
        unfold six
        rw [if_neg c1, if_pos c2, he, nI_clamp hj]
      rw [hu] at F
      rw [he] at c2 ⊢
      rw [nI_ltI hj (by omega)] at c2
      refine v_aloadX_n C dJ1_indexOf_4cfef_29 rfl ?_
      refine v_iload_n C dJ1_indexOf_4cfef_30 rfl ?_
      refine v_iload_n C dJ1_indexOf_4cfef_31 rfl ?_
      refine v_iload_n C dJ1_indexOf_4cfef_32 rfl ?_
      refine v_callS (As := [_, _, _, _]) C dJ1_indexOf_4cfef_33 ⟨⟨(ok3 122 (by decide +kernel) rfl), (ok1 5 (by decide +kernel) rfl), Or.inl (ok3 120 (by decide +kernel) rfl), by decide, by decide, rfl⟩, (ok3 121 (by decide +kernel) rfl)⟩ ⟨⟨Nat.le_of_ble_eq_true rfl, Nat.le_of_ble_eq_true rfl⟩, Nat.le_of_ble_eq_true rfl, Nat.le_of_ble_eq_true rfl⟩ ⟨rfl, rfl⟩ rfl (Nat.le_of_ble_eq_true rfl) (c_lixc _ _ hi _ (by omega) _) ?_
      exact v_iret C F ⟨rfl, rfl, Nat.le_refl _⟩ dJ1_indexOf_4cfef_36 rfl
    · refine v_iconst (v := -1) C dJ1_indexOf_4cfef_27 rfl ?_
      exact v_iret C F ⟨rfl, rfl, Nat.le_refl _⟩ dJ1_indexOf_4cfef_28 (by unfold six; rw [if_neg c1, if_neg c2])
  · refine v_iconst (v := -1) C dJ1_indexOf_4cfef_7 rfl ?_
    exact v_iret C F ⟨rfl, rfl, Nat.le_refl _⟩ dJ1_indexOf_4cfef_8 (by unfold six; rw [if_pos (Classical.not_not.mp c1)])
theorem c_ix2 (l : Launch) (g : CG) {i : Nat} (hi : i < 4) (ch fr : Int32) (μ : Mem) : Ct l yJ0_indexOf_7cf53 mi_J0_indexOf_7cf53 g [aX (10 + i), aI ch, aI fr] μ (some (aI (six i ch fr))) μ := ct_of ⟨by decide, rfl, rfl⟩ (Nat.le_of_ble_eq_true rfl) fun x C F => by
  refine v_aloadX_n C dJ0_indexOf_7cf53_0 rfl ?_
  refine v_callX (As := []) C dJ0_indexOf_7cf53_1 ⟨⟨(ok1 62 (by decide +kernel) rfl), (ok1 4 (by decide +kernel) rfl), Or.inl (ok1 59 (by decide +kernel) rfl), by decide, by decide, rfl⟩, (ok1 60 (by decide +kernel) rfl), (ok1 61 (by decide +kernel) rfl), rfl⟩ ⟨⟨Nat.le_of_ble_eq_true rfl, Nat.le_of_ble_eq_true rfl⟩, Nat.le_of_ble_eq_true rfl, Nat.le_of_ble_eq_true rfl⟩ ⟨rfl, rfl⟩ ⟨i, hi, rfl⟩ rfl (Nat.le_of_ble_eq_true rfl) (c_isL _ _ hi _) ?_
  refine v_if_eq (tgt := 23) C dJ0_indexOf_7cf53_4 (by decide) (fun c => absurd c (by decide)) (fun c => ?_)
  refine v_aloadX_n C dJ0_indexOf_7cf53_7 rfl ?_
  refine v_xval C dJ0_indexOf_7cf53_8 hi (ok8 92 (by decide +kernel) rfl) ?_
  refine v_iload_n C dJ0_indexOf_7cf53_11 rfl ?_
  refine v_iload_n C dJ0_indexOf_7cf53_12 rfl ?_
  refine v_aloadX_n C dJ0_indexOf_7cf53_13 rfl ?_
  refine v_callX (As := []) C dJ0_indexOf_7cf53_14 ⟨⟨(ok1 48 (by decide +kernel) rfl), (ok1 4 (by decide +kernel) rfl), Or.inl (ok3 111 (by decide +kernel) rfl), by decide, by decide, rfl⟩, (ok1 46 (by decide +kernel) rfl), (ok1 47 (by decide +kernel) rfl), rfl⟩ ⟨⟨Nat.le_of_ble_eq_true rfl, Nat.le_of_ble_eq_true rfl⟩, Nat.le_of_ble_eq_true rfl, Nat.le_of_ble_eq_true rfl⟩ ⟨rfl, rfl⟩ ⟨i, hi, rfl⟩ rfl (Nat.le_of_ble_eq_true rfl) (c_len _ _ hi _) ?_
  refine v_callS (As := [_, _, _, _]) C dJ0_indexOf_7cf53_17 ⟨⟨(ok3 114 (by decide +kernel) rfl), (ok1 5 (by decide +kernel) rfl), Or.inl (ok3 112 (by decide +kernel) rfl), by decide, by decide, rfl⟩, (ok3 113 (by decide +kernel) rfl)⟩ ⟨⟨Nat.le_of_ble_eq_true rfl, Nat.le_of_ble_eq_true rfl⟩, Nat.le_of_ble_eq_true rfl, Nat.le_of_ble_eq_true rfl⟩ ⟨rfl, rfl⟩ rfl (Nat.le_of_ble_eq_true rfl) (c_lix _ _ hi _ _ _) ?_
  refine v_goto (tgt := 36) C dJ0_indexOf_7cf53_20 (by decide) ?_
  exact v_iret C F ⟨rfl, rfl, Nat.le_refl _⟩ dJ0_indexOf_7cf53_36 rfl
theorem c_ix1 (l : Launch) (g : CG) {i : Nat} (hi : i < 4) (ch : Int32) (μ : Mem) : Ct l yJ0_indexOf_0f7a4 mi_J0_indexOf_0f7a4 g [aX (10 + i), aI ch] μ (some (aI (six i ch 0))) μ := ct_of ⟨by decide, rfl, rfl⟩ (Nat.le_of_ble_eq_true rfl) fun x C F => by
  refine v_aloadX_n C dJ0_indexOf_0f7a4_0 rfl ?_
  refine v_iload_n C dJ0_indexOf_0f7a4_1 rfl ?_
  refine v_iconst (v := 0) C dJ0_indexOf_0f7a4_2 rfl ?_
  refine v_callX (As := [_, _]) C dJ0_indexOf_0f7a4_3 ⟨⟨(ok3 110 (by decide +kernel) rfl), (ok1 4 (by decide +kernel) rfl), Or.inl (ok3 107 (by decide +kernel) rfl), by decide, by decide, rfl⟩, (ok3 108 (by decide +kernel) rfl), (ok3 109 (by decide +kernel) rfl), rfl⟩ ⟨⟨Nat.le_of_ble_eq_true rfl, Nat.le_of_ble_eq_true rfl⟩, Nat.le_of_ble_eq_true rfl, Nat.le_of_ble_eq_true rfl⟩ ⟨rfl, rfl⟩ ⟨i, hi, rfl⟩ rfl (Nat.le_of_ble_eq_true rfl) (c_ix2 _ _ hi _ _ _) ?_
  exact v_iret C F ⟨rfl, rfl, Nat.le_refl _⟩ dJ0_indexOf_0f7a4_6 rfl
-- what the shallow functions use
def sLen (k : Nat) : Option Int32 := if 10 ≤ k ∧ k < 14 then some (nI (slen (k - 10))) else none
def sChr (k : Nat) (j : Int32) : Option Int32 := if 10 ≤ k ∧ k < 14 ∧ ¬ (j < 0 ∨ slen (k - 10) ≤ j.toNatClampNeg) then some (schr (k - 10) j) else none
def sIx1 (k : Nat) (c : Int32) : Option Int32 := if 10 ≤ k ∧ k < 14 then some (six (k - 10) c 0) else none
def sIx2 (k : Nat) (c fr : Int32) : Option Int32 := if 10 ≤ k ∧ k < 14 then some (six (k - 10) c fr) else none
theorem xt {k : Nat} (h : 10 ≤ k) (h2 : k < 14) : ∃ i, i < 4 ∧ k = 10 + i := ⟨k - 10, by omega, by omega⟩
theorem xsLen {k : Nat} {q : Int32} (e : sLen k = some q) : ∃ i, i < 4 ∧ k = 10 + i := xt (oy e).1.1 (oy e).1.2
theorem xsChr {k : Nat} {j q : Int32} (e : sChr k j = some q) : ∃ i, i < 4 ∧ k = 10 + i := xt (oy e).1.1 (oy e).1.2.1
theorem xsIx1 {k : Nat} {j q : Int32} (e : sIx1 k j = some q) : ∃ i, i < 4 ∧ k = 10 + i := xt (oy e).1.1 (oy e).1.2
theorem xsIx2 {k : Nat} {j f q : Int32} (e : sIx2 k j f = some q) : ∃ i, i < 4 ∧ k = 10 + i := xt (oy e).1.1 (oy e).1.2
theorem csLen {l : Launch} {g : CG} {μ : Mem} {k : Nat} {q : Int32} (e : sLen k = some q) : Ct l yJ0_length_8abf5 mi_J0_length_8abf5 g [aX k] μ (some (aI q)) μ := by
  obtain ⟨i, hi, rfl⟩ := xsLen e
  have e2 := (oy e).2
  rw [Nat.add_sub_cancel_left] at e2
  cases e2
  exact c_len l g hi μ
theorem csChr {l : Launch} {g : CG} {μ : Mem} {k : Nat} {j q : Int32} (e : sChr k j = some q) : Ct l yJ0_charAt_5068e mi_J0_charAt_5068e g [aX k, aI j] μ (some (aI q)) μ := by
  obtain ⟨i, hi, rfl⟩ := xsChr e
  have e2 := (oy e).2
  have e3 := (oy e).1.2.2
  rw [Nat.add_sub_cancel_left] at e2 e3
  cases e2
  exact c_chr l g hi e3 μ
theorem csIx1 {l : Launch} {g : CG} {μ : Mem} {k : Nat} {j q : Int32} (e : sIx1 k j = some q) : Ct l yJ0_indexOf_0f7a4 mi_J0_indexOf_0f7a4 g [aX k, aI j] μ (some (aI q)) μ := by
  obtain ⟨i, hi, rfl⟩ := xsIx1 e
  have e2 := (oy e).2
  rw [Nat.add_sub_cancel_left] at e2
  cases e2
  exact c_ix1 l g hi j μ
theorem csIx2 {l : Launch} {g : CG} {μ : Mem} {k : Nat} {j f q : Int32} (e : sIx2 k j f = some q) : Ct l yJ0_indexOf_7cf53 mi_J0_indexOf_7cf53 g [aX k, aI j, aI f] μ (some (aI q)) μ := by
  obtain ⟨i, hi, rfl⟩ := xsIx2 e
  have e2 := (oy e).2
  rw [Nat.add_sub_cancel_left] at e2
  cases e2
  exact c_ix2 l g hi j f μ
end
section
theorem v_sb {x : CX} {g : CG} {nL k n : Nat} {μ : Mem} {pc : Nat} {lv lv2 : LV} {st : List AV} (kk : V x g nL k n μ pc lv2 st) (hl : lvle lv2 lv) : V x g nL k n μ pc lv st := v_sub hl kk
end
