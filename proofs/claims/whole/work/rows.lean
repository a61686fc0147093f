section
-- ===== PART A: goes FIRST, ahead of the names: the tables' words, and 'selects' of the private methods out of them =====
/-- a private method of a class that the tables say can be made, by its rows of tables_1 -/
def lw_okq (q : MethodName × Nat) : Prop := (q.1.cls ≠ "java/lang/invoke/MethodHandle" ∧ q.1.cls ≠ "java/lang/invoke/VarHandle") ∧ Cond.instantiable q.1.cls q.2 ∈ tables_1 ∧ Cond.privateMethod q.1 ∈ tables_1 ∧ Cond.instanceMethod q.1 ∈ tables_1
theorem lw_p0 : lw_okq (⟨"WhoseStreet$Ride", "goOn", "(LWhoseStreet$Meeting;)V"⟩, 7) := ⟨⟨by decide +kernel, by decide +kernel⟩, List.mem_of_getElem? (i := 38) (by decide +kernel), List.mem_of_getElem? (i := 529) (by decide +kernel), List.mem_of_getElem? (i := 530) (by decide +kernel)⟩
theorem lw_p1 : lw_okq (⟨"WhoseStreet$Ride", "sees", "(LWhoseStreet$Meeting;)Z"⟩, 7) := ⟨⟨by decide +kernel, by decide +kernel⟩, List.mem_of_getElem? (i := 38) (by decide +kernel), List.mem_of_getElem? (i := 533) (by decide +kernel), List.mem_of_getElem? (i := 534) (by decide +kernel)⟩
theorem lw_p2 : lw_okq (⟨"WhoseStreet$Ride", "notice", "(Z)V"⟩, 7) := ⟨⟨by decide +kernel, by decide +kernel⟩, List.mem_of_getElem? (i := 38) (by decide +kernel), List.mem_of_getElem? (i := 537) (by decide +kernel), List.mem_of_getElem? (i := 538) (by decide +kernel)⟩
theorem lw_p3 : lw_okq (⟨"WhoseStreet$Ride", "brake", "(I)V"⟩, 7) := ⟨⟨by decide +kernel, by decide +kernel⟩, List.mem_of_getElem? (i := 38) (by decide +kernel), List.mem_of_getElem? (i := 544) (by decide +kernel), List.mem_of_getElem? (i := 545) (by decide +kernel)⟩
theorem lw_p4 : lw_okq (⟨"WhoseStreet", "meetingOf", "(I)LWhoseStreet$Meeting;"⟩, 13) := ⟨⟨by decide +kernel, by decide +kernel⟩, List.mem_of_getElem? (i := 28) (by decide +kernel), List.mem_of_getElem? (i := 558) (by decide +kernel), List.mem_of_getElem? (i := 559) (by decide +kernel)⟩
theorem lw_p5 : lw_okq (⟨"WhoseStreet$Ride", "findSafeSpeed", "(LWhoseStreet$Meeting;)I"⟩, 7) := ⟨⟨by decide +kernel, by decide +kernel⟩, List.mem_of_getElem? (i := 38) (by decide +kernel), List.mem_of_getElem? (i := 570) (by decide +kernel), List.mem_of_getElem? (i := 571) (by decide +kernel)⟩
theorem lw_p6 : lw_okq (⟨"WhoseStreet$Tape", "isLetter", "(I)Z"⟩, 8) := ⟨⟨by decide +kernel, by decide +kernel⟩, List.mem_of_getElem? (i := 68) (by decide +kernel), List.mem_of_getElem? (i := 619) (by decide +kernel), List.mem_of_getElem? (i := 620) (by decide +kernel)⟩
theorem lw_p7 : lw_okq (⟨"WhoseStreet$Tape", "takeWord", "()V"⟩, 8) := ⟨⟨by decide +kernel, by decide +kernel⟩, List.mem_of_getElem? (i := 68) (by decide +kernel), List.mem_of_getElem? (i := 623) (by decide +kernel), List.mem_of_getElem? (i := 624) (by decide +kernel)⟩
theorem lw_p8 : lw_okq (⟨"WhoseStreet$Tape", "wordOf", "(J)I"⟩, 8) := ⟨⟨by decide +kernel, by decide +kernel⟩, List.mem_of_getElem? (i := 68) (by decide +kernel), List.mem_of_getElem? (i := 627) (by decide +kernel), List.mem_of_getElem? (i := 628) (by decide +kernel)⟩
theorem lw_p9 : lw_okq (⟨"WhoseStreet$Tape", "isDigit", "(I)Z"⟩, 8) := ⟨⟨by decide +kernel, by decide +kernel⟩, List.mem_of_getElem? (i := 68) (by decide +kernel), List.mem_of_getElem? (i := 631) (by decide +kernel), List.mem_of_getElem? (i := 632) (by decide +kernel)⟩
theorem lw_p10 : lw_okq (⟨"WhoseStreet$Tape", "takeNumber", "()V"⟩, 8) := ⟨⟨by decide +kernel, by decide +kernel⟩, List.mem_of_getElem? (i := 68) (by decide +kernel), List.mem_of_getElem? (i := 635) (by decide +kernel), List.mem_of_getElem? (i := 636) (by decide +kernel)⟩
theorem lw_p11 : lw_okq (⟨"WhoseStreet$Reader", "readLine", "(I)V"⟩, 9) := ⟨⟨by decide +kernel, by decide +kernel⟩, List.mem_of_getElem? (i := 159) (by decide +kernel), List.mem_of_getElem? (i := 697) (by decide +kernel), List.mem_of_getElem? (i := 698) (by decide +kernel)⟩
theorem lw_p12 : lw_okq (⟨"WhoseStreet$Reader", "wrong", "(I)V"⟩, 9) := ⟨⟨by decide +kernel, by decide +kernel⟩, List.mem_of_getElem? (i := 159) (by decide +kernel), List.mem_of_getElem? (i := 701) (by decide +kernel), List.mem_of_getElem? (i := 702) (by decide +kernel)⟩
theorem lw_p13 : lw_okq (⟨"WhoseStreet$Reader", "write", "(I)V"⟩, 9) := ⟨⟨by decide +kernel, by decide +kernel⟩, List.mem_of_getElem? (i := 159) (by decide +kernel), List.mem_of_getElem? (i := 705) (by decide +kernel), List.mem_of_getElem? (i := 706) (by decide +kernel)⟩
theorem lw_p14 : lw_okq (⟨"WhoseStreet$Reader", "readWhatFor", "(I)V"⟩, 9) := ⟨⟨by decide +kernel, by decide +kernel⟩, List.mem_of_getElem? (i := 159) (by decide +kernel), List.mem_of_getElem? (i := 710) (by decide +kernel), List.mem_of_getElem? (i := 711) (by decide +kernel)⟩
theorem lw_p15 : lw_okq (⟨"WhoseStreet$Reader", "readNewName", "()V"⟩, 9) := ⟨⟨by decide +kernel, by decide +kernel⟩, List.mem_of_getElem? (i := 159) (by decide +kernel), List.mem_of_getElem? (i := 714) (by decide +kernel), List.mem_of_getElem? (i := 715) (by decide +kernel)⟩
def lw_privs_1 : List (MethodName × Nat) := [(⟨"WhoseStreet$Ride", "goOn", "(LWhoseStreet$Meeting;)V"⟩, 7), (⟨"WhoseStreet$Ride", "sees", "(LWhoseStreet$Meeting;)Z"⟩, 7), (⟨"WhoseStreet$Ride", "notice", "(Z)V"⟩, 7), (⟨"WhoseStreet$Ride", "brake", "(I)V"⟩, 7), (⟨"WhoseStreet", "meetingOf", "(I)LWhoseStreet$Meeting;"⟩, 13), (⟨"WhoseStreet$Ride", "findSafeSpeed", "(LWhoseStreet$Meeting;)I"⟩, 7), (⟨"WhoseStreet$Tape", "isLetter", "(I)Z"⟩, 8), (⟨"WhoseStreet$Tape", "takeWord", "()V"⟩, 8), (⟨"WhoseStreet$Tape", "wordOf", "(J)I"⟩, 8), (⟨"WhoseStreet$Tape", "isDigit", "(I)Z"⟩, 8), (⟨"WhoseStreet$Tape", "takeNumber", "()V"⟩, 8), (⟨"WhoseStreet$Reader", "readLine", "(I)V"⟩, 9), (⟨"WhoseStreet$Reader", "wrong", "(I)V"⟩, 9), (⟨"WhoseStreet$Reader", "write", "(I)V"⟩, 9), (⟨"WhoseStreet$Reader", "readWhatFor", "(I)V"⟩, 9), (⟨"WhoseStreet$Reader", "readNewName", "()V"⟩, 9)]
theorem lw_r1 : ∀ q ∈ lw_privs_1, lw_okq q := List.forall_mem_cons.mpr ⟨lw_p0, List.forall_mem_cons.mpr ⟨lw_p1, List.forall_mem_cons.mpr ⟨lw_p2, List.forall_mem_cons.mpr ⟨lw_p3, List.forall_mem_cons.mpr ⟨lw_p4, List.forall_mem_cons.mpr ⟨lw_p5, List.forall_mem_cons.mpr ⟨lw_p6, List.forall_mem_cons.mpr ⟨lw_p7, List.forall_mem_cons.mpr ⟨lw_p8, List.forall_mem_cons.mpr ⟨lw_p9, List.forall_mem_cons.mpr ⟨lw_p10, List.forall_mem_cons.mpr ⟨lw_p11, List.forall_mem_cons.mpr ⟨lw_p12, List.forall_mem_cons.mpr ⟨lw_p13, List.forall_mem_cons.mpr ⟨lw_p14, List.forall_mem_cons.mpr ⟨lw_p15, fun _ h => absurd h List.not_mem_nil⟩⟩⟩⟩⟩⟩⟩⟩⟩⟩⟩⟩⟩⟩⟩⟩
theorem lw_p16 : lw_okq (⟨"WhoseStreet$Reader", "nameOf", "(J)I"⟩, 9) := ⟨⟨by decide +kernel, by decide +kernel⟩, List.mem_of_getElem? (i := 159) (by decide +kernel), List.mem_of_getElem? (i := 718) (by decide +kernel), List.mem_of_getElem? (i := 719) (by decide +kernel)⟩
theorem lw_p17 : lw_okq (⟨"WhoseStreet$Reader", "readLimit", "()V"⟩, 9) := ⟨⟨by decide +kernel, by decide +kernel⟩, List.mem_of_getElem? (i := 159) (by decide +kernel), List.mem_of_getElem? (i := 722) (by decide +kernel), List.mem_of_getElem? (i := 723) (by decide +kernel)⟩
theorem lw_p18 : lw_okq (⟨"WhoseStreet$Reader", "readWho", "()V"⟩, 9) := ⟨⟨by decide +kernel, by decide +kernel⟩, List.mem_of_getElem? (i := 159) (by decide +kernel), List.mem_of_getElem? (i := 727) (by decide +kernel), List.mem_of_getElem? (i := 728) (by decide +kernel)⟩
theorem lw_p19 : lw_okq (⟨"WhoseStreet$Reader", "expect", "(I)V"⟩, 9) := ⟨⟨by decide +kernel, by decide +kernel⟩, List.mem_of_getElem? (i := 159) (by decide +kernel), List.mem_of_getElem? (i := 731) (by decide +kernel), List.mem_of_getElem? (i := 732) (by decide +kernel)⟩
theorem lw_p20 : lw_okq (⟨"WhoseStreet$Reader", "readExpression", "()V"⟩, 9) := ⟨⟨by decide +kernel, by decide +kernel⟩, List.mem_of_getElem? (i := 159) (by decide +kernel), List.mem_of_getElem? (i := 735) (by decide +kernel), List.mem_of_getElem? (i := 736) (by decide +kernel)⟩
theorem lw_p21 : lw_okq (⟨"WhoseStreet$Reader", "readPart", "()Z"⟩, 9) := ⟨⟨by decide +kernel, by decide +kernel⟩, List.mem_of_getElem? (i := 159) (by decide +kernel), List.mem_of_getElem? (i := 739) (by decide +kernel), List.mem_of_getElem? (i := 740) (by decide +kernel)⟩
theorem lw_p22 : lw_okq (⟨"WhoseStreet$Reader", "hold", "(I)V"⟩, 9) := ⟨⟨by decide +kernel, by decide +kernel⟩, List.mem_of_getElem? (i := 159) (by decide +kernel), List.mem_of_getElem? (i := 743) (by decide +kernel), List.mem_of_getElem? (i := 744) (by decide +kernel)⟩
theorem lw_p23 : lw_okq (⟨"WhoseStreet$Reader", "writeNots", "()V"⟩, 9) := ⟨⟨by decide +kernel, by decide +kernel⟩, List.mem_of_getElem? (i := 159) (by decide +kernel), List.mem_of_getElem? (i := 747) (by decide +kernel), List.mem_of_getElem? (i := 748) (by decide +kernel)⟩
theorem lw_p24 : lw_okq (⟨"WhoseStreet$Reader", "lastWaiting", "()I"⟩, 9) := ⟨⟨by decide +kernel, by decide +kernel⟩, List.mem_of_getElem? (i := 159) (by decide +kernel), List.mem_of_getElem? (i := 751) (by decide +kernel), List.mem_of_getElem? (i := 752) (by decide +kernel)⟩
theorem lw_p25 : lw_okq (⟨"WhoseStreet$Reader", "closeBracket", "()V"⟩, 9) := ⟨⟨by decide +kernel, by decide +kernel⟩, List.mem_of_getElem? (i := 159) (by decide +kernel), List.mem_of_getElem? (i := 755) (by decide +kernel), List.mem_of_getElem? (i := 756) (by decide +kernel)⟩
theorem lw_p26 : lw_okq (⟨"WhoseStreet$Reader", "writeWaiting", "(I)V"⟩, 9) := ⟨⟨by decide +kernel, by decide +kernel⟩, List.mem_of_getElem? (i := 159) (by decide +kernel), List.mem_of_getElem? (i := 759) (by decide +kernel), List.mem_of_getElem? (i := 760) (by decide +kernel)⟩
theorem lw_p27 : lw_okq (⟨"WhoseStreet$Reader", "readOperator", "()V"⟩, 9) := ⟨⟨by decide +kernel, by decide +kernel⟩, List.mem_of_getElem? (i := 159) (by decide +kernel), List.mem_of_getElem? (i := 766) (by decide +kernel), List.mem_of_getElem? (i := 767) (by decide +kernel)⟩
theorem lw_p28 : lw_okq (⟨"WhoseStreet", "viewNow", "()I"⟩, 13) := ⟨⟨by decide +kernel, by decide +kernel⟩, List.mem_of_getElem? (i := 28) (by decide +kernel), List.mem_of_getElem? (i := 815) (by decide +kernel), List.mem_of_getElem? (i := 816) (by decide +kernel)⟩
theorem lw_p29 : lw_okq (⟨"WhoseStreet$Book", "lawOf", "(II)I"⟩, 11) := ⟨⟨by decide +kernel, by decide +kernel⟩, List.mem_of_getElem? (i := 194) (by decide +kernel), List.mem_of_getElem? (i := 823) (by decide +kernel), List.mem_of_getElem? (i := 824) (by decide +kernel)⟩
theorem lw_p30 : lw_okq (⟨"WhoseStreet$Book", "workNamesAndLimit", "([ILWhoseStreet$Meeting;)V"⟩, 11) := ⟨⟨by decide +kernel, by decide +kernel⟩, List.mem_of_getElem? (i := 194) (by decide +kernel), List.mem_of_getElem? (i := 827) (by decide +kernel), List.mem_of_getElem? (i := 828) (by decide +kernel)⟩
theorem lw_p31 : lw_okq (⟨"WhoseStreet$Book", "work", "([IIILWhoseStreet$Meeting;)I"⟩, 11) := ⟨⟨by decide +kernel, by decide +kernel⟩, List.mem_of_getElem? (i := 194) (by decide +kernel), List.mem_of_getElem? (i := 831) (by decide +kernel), List.mem_of_getElem? (i := 832) (by decide +kernel)⟩
def lw_privs_2 : List (MethodName × Nat) := [(⟨"WhoseStreet$Reader", "nameOf", "(J)I"⟩, 9), (⟨"WhoseStreet$Reader", "readLimit", "()V"⟩, 9), (⟨"WhoseStreet$Reader", "readWho", "()V"⟩, 9), (⟨"WhoseStreet$Reader", "expect", "(I)V"⟩, 9), (⟨"WhoseStreet$Reader", "readExpression", "()V"⟩, 9), (⟨"WhoseStreet$Reader", "readPart", "()Z"⟩, 9), (⟨"WhoseStreet$Reader", "hold", "(I)V"⟩, 9), (⟨"WhoseStreet$Reader", "writeNots", "()V"⟩, 9), (⟨"WhoseStreet$Reader", "lastWaiting", "()I"⟩, 9), (⟨"WhoseStreet$Reader", "closeBracket", "()V"⟩, 9), (⟨"WhoseStreet$Reader", "writeWaiting", "(I)V"⟩, 9), (⟨"WhoseStreet$Reader", "readOperator", "()V"⟩, 9), (⟨"WhoseStreet", "viewNow", "()I"⟩, 13), (⟨"WhoseStreet$Book", "lawOf", "(II)I"⟩, 11), (⟨"WhoseStreet$Book", "workNamesAndLimit", "([ILWhoseStreet$Meeting;)V"⟩, 11), (⟨"WhoseStreet$Book", "work", "([IIILWhoseStreet$Meeting;)I"⟩, 11)]
theorem lw_r2 : ∀ q ∈ lw_privs_2, lw_okq q := List.forall_mem_cons.mpr ⟨lw_p16, List.forall_mem_cons.mpr ⟨lw_p17, List.forall_mem_cons.mpr ⟨lw_p18, List.forall_mem_cons.mpr ⟨lw_p19, List.forall_mem_cons.mpr ⟨lw_p20, List.forall_mem_cons.mpr ⟨lw_p21, List.forall_mem_cons.mpr ⟨lw_p22, List.forall_mem_cons.mpr ⟨lw_p23, List.forall_mem_cons.mpr ⟨lw_p24, List.forall_mem_cons.mpr ⟨lw_p25, List.forall_mem_cons.mpr ⟨lw_p26, List.forall_mem_cons.mpr ⟨lw_p27, List.forall_mem_cons.mpr ⟨lw_p28, List.forall_mem_cons.mpr ⟨lw_p29, List.forall_mem_cons.mpr ⟨lw_p30, List.forall_mem_cons.mpr ⟨lw_p31, fun _ h => absurd h List.not_mem_nil⟩⟩⟩⟩⟩⟩⟩⟩⟩⟩⟩⟩⟩⟩⟩⟩
theorem lw_p32 : lw_okq (⟨"WhoseStreet$Book", "operate", "(I)V"⟩, 11) := ⟨⟨by decide +kernel, by decide +kernel⟩, List.mem_of_getElem? (i := 194) (by decide +kernel), List.mem_of_getElem? (i := 835) (by decide +kernel), List.mem_of_getElem? (i := 836) (by decide +kernel)⟩
theorem lw_p33 : lw_okq (⟨"WhoseStreet$Book", "pop", "()I"⟩, 11) := ⟨⟨by decide +kernel, by decide +kernel⟩, List.mem_of_getElem? (i := 194) (by decide +kernel), List.mem_of_getElem? (i := 839) (by decide +kernel), List.mem_of_getElem? (i := 840) (by decide +kernel)⟩
theorem lw_p34 : lw_okq (⟨"WhoseStreet$Book", "push", "(I)V"⟩, 11) := ⟨⟨by decide +kernel, by decide +kernel⟩, List.mem_of_getElem? (i := 194) (by decide +kernel), List.mem_of_getElem? (i := 843) (by decide +kernel), List.mem_of_getElem? (i := 844) (by decide +kernel)⟩
theorem lw_p35 : lw_okq (⟨"WhoseStreet$Book", "fact", "(ILWhoseStreet$Meeting;)I"⟩, 11) := ⟨⟨by decide +kernel, by decide +kernel⟩, List.mem_of_getElem? (i := 194) (by decide +kernel), List.mem_of_getElem? (i := 847) (by decide +kernel), List.mem_of_getElem? (i := 848) (by decide +kernel)⟩
theorem lw_p36 : lw_okq (⟨"WhoseStreet$Book", "findFault", "([ILWhoseStreet$Meeting;)V"⟩, 11) := ⟨⟨by decide +kernel, by decide +kernel⟩, List.mem_of_getElem? (i := 194) (by decide +kernel), List.mem_of_getElem? (i := 855) (by decide +kernel), List.mem_of_getElem? (i := 856) (by decide +kernel)⟩
theorem lw_p37 : lw_okq (⟨"WhoseStreet$Bench", "keepAll", "()V"⟩, 7) := ⟨⟨by decide +kernel, by decide +kernel⟩, List.mem_of_getElem? (i := 241) (by decide +kernel), List.mem_of_getElem? (i := 879) (by decide +kernel), List.mem_of_getElem? (i := 880) (by decide +kernel)⟩
theorem lw_p38 : lw_okq (⟨"WhoseStreet$Bench", "ruleOut", "(II)V"⟩, 7) := ⟨⟨by decide +kernel, by decide +kernel⟩, List.mem_of_getElem? (i := 241) (by decide +kernel), List.mem_of_getElem? (i := 884) (by decide +kernel), List.mem_of_getElem? (i := 885) (by decide +kernel)⟩
theorem lw_p39 : lw_okq (⟨"WhoseStreet$Bench", "keepThoseOf", "(IZ)V"⟩, 7) := ⟨⟨by decide +kernel, by decide +kernel⟩, List.mem_of_getElem? (i := 241) (by decide +kernel), List.mem_of_getElem? (i := 894) (by decide +kernel), List.mem_of_getElem? (i := 895) (by decide +kernel)⟩
theorem lw_p40 : lw_okq (⟨"WhoseStreet$Bench", "allHave", "(I)Z"⟩, 7) := ⟨⟨by decide +kernel, by decide +kernel⟩, List.mem_of_getElem? (i := 241) (by decide +kernel), List.mem_of_getElem? (i := 917) (by decide +kernel), List.mem_of_getElem? (i := 918) (by decide +kernel)⟩
theorem lw_p41 : lw_okq (⟨"WhoseStreet$Corner", "arrange", "(I)Z"⟩, 8) := ⟨⟨by decide +kernel, by decide +kernel⟩, List.mem_of_getElem? (i := 273) (by decide +kernel), List.mem_of_getElem? (i := 958) (by decide +kernel), List.mem_of_getElem? (i := 959) (by decide +kernel)⟩
theorem lw_p42 : lw_okq (⟨"WhoseStreet$Corner", "mayJoin", "(II)Z"⟩, 8) := ⟨⟨by decide +kernel, by decide +kernel⟩, List.mem_of_getElem? (i := 273) (by decide +kernel), List.mem_of_getElem? (i := 965) (by decide +kernel), List.mem_of_getElem? (i := 966) (by decide +kernel)⟩
theorem lw_p43 : lw_okq (⟨"WhoseStreet$Corner", "compare", "(II)V"⟩, 8) := ⟨⟨by decide +kernel, by decide +kernel⟩, List.mem_of_getElem? (i := 273) (by decide +kernel), List.mem_of_getElem? (i := 970) (by decide +kernel), List.mem_of_getElem? (i := 971) (by decide +kernel)⟩
theorem lw_p44 : lw_okq (⟨"WhoseStreet$Corner", "round", "(I)I"⟩, 8) := ⟨⟨by decide +kernel, by decide +kernel⟩, List.mem_of_getElem? (i := 273) (by decide +kernel), List.mem_of_getElem? (i := 974) (by decide +kernel), List.mem_of_getElem? (i := 975) (by decide +kernel)⟩
theorem lw_p45 : lw_okq (⟨"WhoseStreet$Corner", "waitingOf", "(III)I"⟩, 8) := ⟨⟨by decide +kernel, by decide +kernel⟩, List.mem_of_getElem? (i := 273) (by decide +kernel), List.mem_of_getElem? (i := 978) (by decide +kernel), List.mem_of_getElem? (i := 979) (by decide +kernel)⟩
theorem lw_p46 : lw_okq (⟨"WhoseStreet$House", "yesFor", "(I)I"⟩, 7) := ⟨⟨by decide +kernel, by decide +kernel⟩, List.mem_of_getElem? (i := 306) (by decide +kernel), List.mem_of_getElem? (i := 1016) (by decide +kernel), List.mem_of_getElem? (i := 1017) (by decide +kernel)⟩
theorem lw_p47 : lw_okq (⟨"WhoseStreet$House", "poll", "()V"⟩, 7) := ⟨⟨by decide +kernel, by decide +kernel⟩, List.mem_of_getElem? (i := 306) (by decide +kernel), List.mem_of_getElem? (i := 1020) (by decide +kernel), List.mem_of_getElem? (i := 1021) (by decide +kernel)⟩
def lw_privs_3 : List (MethodName × Nat) := [(⟨"WhoseStreet$Book", "operate", "(I)V"⟩, 11), (⟨"WhoseStreet$Book", "pop", "()I"⟩, 11), (⟨"WhoseStreet$Book", "push", "(I)V"⟩, 11), (⟨"WhoseStreet$Book", "fact", "(ILWhoseStreet$Meeting;)I"⟩, 11), (⟨"WhoseStreet$Book", "findFault", "([ILWhoseStreet$Meeting;)V"⟩, 11), (⟨"WhoseStreet$Bench", "keepAll", "()V"⟩, 7), (⟨"WhoseStreet$Bench", "ruleOut", "(II)V"⟩, 7), (⟨"WhoseStreet$Bench", "keepThoseOf", "(IZ)V"⟩, 7), (⟨"WhoseStreet$Bench", "allHave", "(I)Z"⟩, 7), (⟨"WhoseStreet$Corner", "arrange", "(I)Z"⟩, 8), (⟨"WhoseStreet$Corner", "mayJoin", "(II)Z"⟩, 8), (⟨"WhoseStreet$Corner", "compare", "(II)V"⟩, 8), (⟨"WhoseStreet$Corner", "round", "(I)I"⟩, 8), (⟨"WhoseStreet$Corner", "waitingOf", "(III)I"⟩, 8), (⟨"WhoseStreet$House", "yesFor", "(I)I"⟩, 7), (⟨"WhoseStreet$House", "poll", "()V"⟩, 7)]
theorem lw_r3 : ∀ q ∈ lw_privs_3, lw_okq q := List.forall_mem_cons.mpr ⟨lw_p32, List.forall_mem_cons.mpr ⟨lw_p33, List.forall_mem_cons.mpr ⟨lw_p34, List.forall_mem_cons.mpr ⟨lw_p35, List.forall_mem_cons.mpr ⟨lw_p36, List.forall_mem_cons.mpr ⟨lw_p37, List.forall_mem_cons.mpr ⟨lw_p38, List.forall_mem_cons.mpr ⟨lw_p39, List.forall_mem_cons.mpr ⟨lw_p40, List.forall_mem_cons.mpr ⟨lw_p41, List.forall_mem_cons.mpr ⟨lw_p42, List.forall_mem_cons.mpr ⟨lw_p43, List.forall_mem_cons.mpr ⟨lw_p44, List.forall_mem_cons.mpr ⟨lw_p45, List.forall_mem_cons.mpr ⟨lw_p46, List.forall_mem_cons.mpr ⟨lw_p47, fun _ h => absurd h List.not_mem_nil⟩⟩⟩⟩⟩⟩⟩⟩⟩⟩⟩⟩⟩⟩⟩⟩
theorem lw_p48 : lw_okq (⟨"WhoseStreet$House", "addUp", "(I)V"⟩, 7) := ⟨⟨by decide +kernel, by decide +kernel⟩, List.mem_of_getElem? (i := 306) (by decide +kernel), List.mem_of_getElem? (i := 1025) (by decide +kernel), List.mem_of_getElem? (i := 1026) (by decide +kernel)⟩
theorem lw_p49 : lw_okq (⟨"WhoseStreet$House", "isMore", "(I)Z"⟩, 7) := ⟨⟨by decide +kernel, by decide +kernel⟩, List.mem_of_getElem? (i := 306) (by decide +kernel), List.mem_of_getElem? (i := 1029) (by decide +kernel), List.mem_of_getElem? (i := 1030) (by decide +kernel)⟩
theorem lw_p50 : lw_okq (⟨"WhoseStreet$Town", "findPlans", "()V"⟩, 11) := ⟨⟨by decide +kernel, by decide +kernel⟩, List.mem_of_getElem? (i := 351) (by decide +kernel), List.mem_of_getElem? (i := 1094) (by decide +kernel), List.mem_of_getElem? (i := 1095) (by decide +kernel)⟩
theorem lw_p51 : lw_okq (⟨"WhoseStreet$Town", "tripsBy", "(I)I"⟩, 11) := ⟨⟨by decide +kernel, by decide +kernel⟩, List.mem_of_getElem? (i := 351) (by decide +kernel), List.mem_of_getElem? (i := 1099) (by decide +kernel), List.mem_of_getElem? (i := 1100) (by decide +kernel)⟩
theorem lw_p52 : lw_okq (⟨"WhoseStreet$Town", "join", "(II)V"⟩, 11) := ⟨⟨by decide +kernel, by decide +kernel⟩, List.mem_of_getElem? (i := 351) (by decide +kernel), List.mem_of_getElem? (i := 1103) (by decide +kernel), List.mem_of_getElem? (i := 1104) (by decide +kernel)⟩
theorem lw_p53 : lw_okq (⟨"WhoseStreet$Town", "groupOf", "(I)I"⟩, 11) := ⟨⟨by decide +kernel, by decide +kernel⟩, List.mem_of_getElem? (i := 351) (by decide +kernel), List.mem_of_getElem? (i := 1107) (by decide +kernel), List.mem_of_getElem? (i := 1108) (by decide +kernel)⟩
theorem lw_p54 : lw_okq (⟨"WhoseStreet$Town", "decide", "(IIIII)V"⟩, 11) := ⟨⟨by decide +kernel, by decide +kernel⟩, List.mem_of_getElem? (i := 351) (by decide +kernel), List.mem_of_getElem? (i := 1111) (by decide +kernel), List.mem_of_getElem? (i := 1112) (by decide +kernel)⟩
theorem lw_p55 : lw_okq (⟨"WhoseStreet$Town", "weigh", "(IIII)V"⟩, 11) := ⟨⟨by decide +kernel, by decide +kernel⟩, List.mem_of_getElem? (i := 351) (by decide +kernel), List.mem_of_getElem? (i := 1115) (by decide +kernel), List.mem_of_getElem? (i := 1116) (by decide +kernel)⟩
theorem lw_p56 : lw_okq (⟨"WhoseStreet$Town", "isTold", "(I)Z"⟩, 11) := ⟨⟨by decide +kernel, by decide +kernel⟩, List.mem_of_getElem? (i := 351) (by decide +kernel), List.mem_of_getElem? (i := 1119) (by decide +kernel), List.mem_of_getElem? (i := 1120) (by decide +kernel)⟩
theorem lw_p57 : lw_okq (⟨"WhoseStreet$Town", "isBetter", "(II)Z"⟩, 11) := ⟨⟨by decide +kernel, by decide +kernel⟩, List.mem_of_getElem? (i := 351) (by decide +kernel), List.mem_of_getElem? (i := 1123) (by decide +kernel), List.mem_of_getElem? (i := 1124) (by decide +kernel)⟩
theorem lw_p58 : lw_okq (⟨"WhoseStreet", "meetingsMet", "()I"⟩, 13) := ⟨⟨by decide +kernel, by decide +kernel⟩, List.mem_of_getElem? (i := 28) (by decide +kernel), List.mem_of_getElem? (i := 1146) (by decide +kernel), List.mem_of_getElem? (i := 1147) (by decide +kernel)⟩
theorem lw_p59 : lw_okq (⟨"java/lang/Throwable", "fillInStackTrace", "(I)Ljava/lang/Throwable;"⟩, 6) := ⟨⟨by decide +kernel, by decide +kernel⟩, List.mem_of_getElem? (i := 1195) (by decide +kernel), List.mem_of_getElem? (i := 1193) (by decide +kernel), List.mem_of_getElem? (i := 1194) (by decide +kernel)⟩
theorem lw_p60 : lw_okq (⟨"WhoseStreetModel", "lay", "(J)V"⟩, 80) := ⟨⟨by decide +kernel, by decide +kernel⟩, List.mem_of_getElem? (i := 1235) (by decide +kernel), List.mem_of_getElem? (i := 1233) (by decide +kernel), List.mem_of_getElem? (i := 1234) (by decide +kernel)⟩
theorem lw_p61 : lw_okq (⟨"WhoseStreetModel", "cutAll", "()V"⟩, 80) := ⟨⟨by decide +kernel, by decide +kernel⟩, List.mem_of_getElem? (i := 1235) (by decide +kernel), List.mem_of_getElem? (i := 1509) (by decide +kernel), List.mem_of_getElem? (i := 1510) (by decide +kernel)⟩
theorem lw_p62 : lw_okq (⟨"WhoseStreetModel", "readLine", "()V"⟩, 80) := ⟨⟨by decide +kernel, by decide +kernel⟩, List.mem_of_getElem? (i := 1235) (by decide +kernel), List.mem_of_getElem? (i := 1528) (by decide +kernel), List.mem_of_getElem? (i := 1529) (by decide +kernel)⟩
theorem lw_p63 : lw_okq (⟨"WhoseStreetModel", "isWord", "(I)Z"⟩, 80) := ⟨⟨by decide +kernel, by decide +kernel⟩, List.mem_of_getElem? (i := 1235) (by decide +kernel), List.mem_of_getElem? (i := 1532) (by decide +kernel), List.mem_of_getElem? (i := 1533) (by decide +kernel)⟩
def lw_privs_4 : List (MethodName × Nat) := [(⟨"WhoseStreet$House", "addUp", "(I)V"⟩, 7), (⟨"WhoseStreet$House", "isMore", "(I)Z"⟩, 7), (⟨"WhoseStreet$Town", "findPlans", "()V"⟩, 11), (⟨"WhoseStreet$Town", "tripsBy", "(I)I"⟩, 11), (⟨"WhoseStreet$Town", "join", "(II)V"⟩, 11), (⟨"WhoseStreet$Town", "groupOf", "(I)I"⟩, 11), (⟨"WhoseStreet$Town", "decide", "(IIIII)V"⟩, 11), (⟨"WhoseStreet$Town", "weigh", "(IIII)V"⟩, 11), (⟨"WhoseStreet$Town", "isTold", "(I)Z"⟩, 11), (⟨"WhoseStreet$Town", "isBetter", "(II)Z"⟩, 11), (⟨"WhoseStreet", "meetingsMet", "()I"⟩, 13), (⟨"java/lang/Throwable", "fillInStackTrace", "(I)Ljava/lang/Throwable;"⟩, 6), (⟨"WhoseStreetModel", "lay", "(J)V"⟩, 80), (⟨"WhoseStreetModel", "cutAll", "()V"⟩, 80), (⟨"WhoseStreetModel", "readLine", "()V"⟩, 80), (⟨"WhoseStreetModel", "isWord", "(I)Z"⟩, 80)]
theorem lw_r4 : ∀ q ∈ lw_privs_4, lw_okq q := List.forall_mem_cons.mpr ⟨lw_p48, List.forall_mem_cons.mpr ⟨lw_p49, List.forall_mem_cons.mpr ⟨lw_p50, List.forall_mem_cons.mpr ⟨lw_p51, List.forall_mem_cons.mpr ⟨lw_p52, List.forall_mem_cons.mpr ⟨lw_p53, List.forall_mem_cons.mpr ⟨lw_p54, List.forall_mem_cons.mpr ⟨lw_p55, List.forall_mem_cons.mpr ⟨lw_p56, List.forall_mem_cons.mpr ⟨lw_p57, List.forall_mem_cons.mpr ⟨lw_p58, List.forall_mem_cons.mpr ⟨lw_p59, List.forall_mem_cons.mpr ⟨lw_p60, List.forall_mem_cons.mpr ⟨lw_p61, List.forall_mem_cons.mpr ⟨lw_p62, List.forall_mem_cons.mpr ⟨lw_p63, fun _ h => absurd h List.not_mem_nil⟩⟩⟩⟩⟩⟩⟩⟩⟩⟩⟩⟩⟩⟩⟩⟩
theorem lw_p64 : lw_okq (⟨"WhoseStreetModel", "wrong", "(I)V"⟩, 80) := ⟨⟨by decide +kernel, by decide +kernel⟩, List.mem_of_getElem? (i := 1235) (by decide +kernel), List.mem_of_getElem? (i := 1536) (by decide +kernel), List.mem_of_getElem? (i := 1537) (by decide +kernel)⟩
theorem lw_p65 : lw_okq (⟨"WhoseStreetModel", "readLet", "(I)V"⟩, 80) := ⟨⟨by decide +kernel, by decide +kernel⟩, List.mem_of_getElem? (i := 1235) (by decide +kernel), List.mem_of_getElem? (i := 1540) (by decide +kernel), List.mem_of_getElem? (i := 1541) (by decide +kernel)⟩
theorem lw_p66 : lw_okq (⟨"WhoseStreetModel", "isName", "()Z"⟩, 80) := ⟨⟨by decide +kernel, by decide +kernel⟩, List.mem_of_getElem? (i := 1235) (by decide +kernel), List.mem_of_getElem? (i := 1544) (by decide +kernel), List.mem_of_getElem? (i := 1545) (by decide +kernel)⟩
theorem lw_p67 : lw_okq (⟨"WhoseStreetModel", "findName", "()I"⟩, 80) := ⟨⟨by decide +kernel, by decide +kernel⟩, List.mem_of_getElem? (i := 1235) (by decide +kernel), List.mem_of_getElem? (i := 1548) (by decide +kernel), List.mem_of_getElem? (i := 1549) (by decide +kernel)⟩
theorem lw_p68 : lw_okq (⟨"WhoseStreetModel", "takeSign", "(I)V"⟩, 80) := ⟨⟨by decide +kernel, by decide +kernel⟩, List.mem_of_getElem? (i := 1235) (by decide +kernel), List.mem_of_getElem? (i := 1552) (by decide +kernel), List.mem_of_getElem? (i := 1553) (by decide +kernel)⟩
theorem lw_p69 : lw_okq (⟨"WhoseStreetModel", "isSign", "(I)Z"⟩, 80) := ⟨⟨by decide +kernel, by decide +kernel⟩, List.mem_of_getElem? (i := 1235) (by decide +kernel), List.mem_of_getElem? (i := 1556) (by decide +kernel), List.mem_of_getElem? (i := 1557) (by decide +kernel)⟩
theorem lw_p70 : lw_okq (⟨"WhoseStreetModel", "readTests", "()I"⟩, 80) := ⟨⟨by decide +kernel, by decide +kernel⟩, List.mem_of_getElem? (i := 1235) (by decide +kernel), List.mem_of_getElem? (i := 1560) (by decide +kernel), List.mem_of_getElem? (i := 1561) (by decide +kernel)⟩
theorem lw_p71 : lw_okq (⟨"WhoseStreetModel", "all", "(I)V"⟩, 80) := ⟨⟨by decide +kernel, by decide +kernel⟩, List.mem_of_getElem? (i := 1235) (by decide +kernel), List.mem_of_getElem? (i := 1564) (by decide +kernel), List.mem_of_getElem? (i := 1565) (by decide +kernel)⟩
theorem lw_p72 : lw_okq (⟨"WhoseStreetModel", "test", "(I)V"⟩, 80) := ⟨⟨by decide +kernel, by decide +kernel⟩, List.mem_of_getElem? (i := 1235) (by decide +kernel), List.mem_of_getElem? (i := 1568) (by decide +kernel), List.mem_of_getElem? (i := 1569) (by decide +kernel)⟩
theorem lw_p73 : lw_okq (⟨"WhoseStreetModel", "sums", "(I)V"⟩, 80) := ⟨⟨by decide +kernel, by decide +kernel⟩, List.mem_of_getElem? (i := 1235) (by decide +kernel), List.mem_of_getElem? (i := 1572) (by decide +kernel), List.mem_of_getElem? (i := 1573) (by decide +kernel)⟩
theorem lw_p74 : lw_okq (⟨"WhoseStreetModel", "products", "(I)V"⟩, 80) := ⟨⟨by decide +kernel, by decide +kernel⟩, List.mem_of_getElem? (i := 1235) (by decide +kernel), List.mem_of_getElem? (i := 1576) (by decide +kernel), List.mem_of_getElem? (i := 1577) (by decide +kernel)⟩
theorem lw_p75 : lw_okq (⟨"WhoseStreetModel", "takePart", "(I)V"⟩, 80) := ⟨⟨by decide +kernel, by decide +kernel⟩, List.mem_of_getElem? (i := 1235) (by decide +kernel), List.mem_of_getElem? (i := 1580) (by decide +kernel), List.mem_of_getElem? (i := 1581) (by decide +kernel)⟩
theorem lw_p76 : lw_okq (⟨"WhoseStreetModel", "hasWord", "(I)Z"⟩, 80) := ⟨⟨by decide +kernel, by decide +kernel⟩, List.mem_of_getElem? (i := 1235) (by decide +kernel), List.mem_of_getElem? (i := 1584) (by decide +kernel), List.mem_of_getElem? (i := 1585) (by decide +kernel)⟩
theorem lw_p77 : lw_okq (⟨"WhoseStreetModel", "emit", "(II)V"⟩, 80) := ⟨⟨by decide +kernel, by decide +kernel⟩, List.mem_of_getElem? (i := 1235) (by decide +kernel), List.mem_of_getElem? (i := 1588) (by decide +kernel), List.mem_of_getElem? (i := 1589) (by decide +kernel)⟩
theorem lw_p78 : lw_okq (⟨"WhoseStreetModel", "hasSign", "(I)Z"⟩, 80) := ⟨⟨by decide +kernel, by decide +kernel⟩, List.mem_of_getElem? (i := 1235) (by decide +kernel), List.mem_of_getElem? (i := 1592) (by decide +kernel), List.mem_of_getElem? (i := 1593) (by decide +kernel)⟩
theorem lw_p79 : lw_okq (⟨"WhoseStreetModel", "takeNumber", "(II)I"⟩, 80) := ⟨⟨by decide +kernel, by decide +kernel⟩, List.mem_of_getElem? (i := 1235) (by decide +kernel), List.mem_of_getElem? (i := 1596) (by decide +kernel), List.mem_of_getElem? (i := 1597) (by decide +kernel)⟩
def lw_privs_5 : List (MethodName × Nat) := [(⟨"WhoseStreetModel", "wrong", "(I)V"⟩, 80), (⟨"WhoseStreetModel", "readLet", "(I)V"⟩, 80), (⟨"WhoseStreetModel", "isName", "()Z"⟩, 80), (⟨"WhoseStreetModel", "findName", "()I"⟩, 80), (⟨"WhoseStreetModel", "takeSign", "(I)V"⟩, 80), (⟨"WhoseStreetModel", "isSign", "(I)Z"⟩, 80), (⟨"WhoseStreetModel", "readTests", "()I"⟩, 80), (⟨"WhoseStreetModel", "all", "(I)V"⟩, 80), (⟨"WhoseStreetModel", "test", "(I)V"⟩, 80), (⟨"WhoseStreetModel", "sums", "(I)V"⟩, 80), (⟨"WhoseStreetModel", "products", "(I)V"⟩, 80), (⟨"WhoseStreetModel", "takePart", "(I)V"⟩, 80), (⟨"WhoseStreetModel", "hasWord", "(I)Z"⟩, 80), (⟨"WhoseStreetModel", "emit", "(II)V"⟩, 80), (⟨"WhoseStreetModel", "hasSign", "(I)Z"⟩, 80), (⟨"WhoseStreetModel", "takeNumber", "(II)I"⟩, 80)]
theorem lw_r5 : ∀ q ∈ lw_privs_5, lw_okq q := List.forall_mem_cons.mpr ⟨lw_p64, List.forall_mem_cons.mpr ⟨lw_p65, List.forall_mem_cons.mpr ⟨lw_p66, List.forall_mem_cons.mpr ⟨lw_p67, List.forall_mem_cons.mpr ⟨lw_p68, List.forall_mem_cons.mpr ⟨lw_p69, List.forall_mem_cons.mpr ⟨lw_p70, List.forall_mem_cons.mpr ⟨lw_p71, List.forall_mem_cons.mpr ⟨lw_p72, List.forall_mem_cons.mpr ⟨lw_p73, List.forall_mem_cons.mpr ⟨lw_p74, List.forall_mem_cons.mpr ⟨lw_p75, List.forall_mem_cons.mpr ⟨lw_p76, List.forall_mem_cons.mpr ⟨lw_p77, List.forall_mem_cons.mpr ⟨lw_p78, List.forall_mem_cons.mpr ⟨lw_p79, fun _ h => absurd h List.not_mem_nil⟩⟩⟩⟩⟩⟩⟩⟩⟩⟩⟩⟩⟩⟩⟩⟩
theorem lw_p80 : lw_okq (⟨"WhoseStreetModel", "takeWho", "()I"⟩, 80) := ⟨⟨by decide +kernel, by decide +kernel⟩, List.mem_of_getElem? (i := 1235) (by decide +kernel), List.mem_of_getElem? (i := 1600) (by decide +kernel), List.mem_of_getElem? (i := 1601) (by decide +kernel)⟩
theorem lw_p81 : lw_okq (⟨"WhoseStreetModel", "takeWord", "(I)V"⟩, 80) := ⟨⟨by decide +kernel, by decide +kernel⟩, List.mem_of_getElem? (i := 1235) (by decide +kernel), List.mem_of_getElem? (i := 1604) (by decide +kernel), List.mem_of_getElem? (i := 1605) (by decide +kernel)⟩
theorem lw_p82 : lw_okq (⟨"WhoseStreetModel", "keeps", "(I)V"⟩, 80) := ⟨⟨by decide +kernel, by decide +kernel⟩, List.mem_of_getElem? (i := 1235) (by decide +kernel), List.mem_of_getElem? (i := 1608) (by decide +kernel), List.mem_of_getElem? (i := 1609) (by decide +kernel)⟩
theorem lw_p83 : lw_okq (⟨"WhoseStreetModel", "isMeeting", "(I)Z"⟩, 80) := ⟨⟨by decide +kernel, by decide +kernel⟩, List.mem_of_getElem? (i := 1235) (by decide +kernel), List.mem_of_getElem? (i := 1634) (by decide +kernel), List.mem_of_getElem? (i := 1635) (by decide +kernel)⟩
theorem lw_p84 : lw_okq (⟨"WhoseStreetModel", "safeSpeed", "(I)I"⟩, 80) := ⟨⟨by decide +kernel, by decide +kernel⟩, List.mem_of_getElem? (i := 1235) (by decide +kernel), List.mem_of_getElem? (i := 1642) (by decide +kernel), List.mem_of_getElem? (i := 1643) (by decide +kernel)⟩
theorem lw_p85 : lw_okq (⟨"WhoseStreetModel", "goesThrough", "(II)V"⟩, 80) := ⟨⟨by decide +kernel, by decide +kernel⟩, List.mem_of_getElem? (i := 1235) (by decide +kernel), List.mem_of_getElem? (i := 1646) (by decide +kernel), List.mem_of_getElem? (i := 1647) (by decide +kernel)⟩
theorem lw_p86 : lw_okq (⟨"WhoseStreetModel", "isHidden", "(III)Z"⟩, 80) := ⟨⟨by decide +kernel, by decide +kernel⟩, List.mem_of_getElem? (i := 1235) (by decide +kernel), List.mem_of_getElem? (i := 1650) (by decide +kernel), List.mem_of_getElem? (i := 1651) (by decide +kernel)⟩
theorem lw_p87 : lw_okq (⟨"WhoseStreetModel", "signsOf", "(I)I"⟩, 80) := ⟨⟨by decide +kernel, by decide +kernel⟩, List.mem_of_getElem? (i := 1235) (by decide +kernel), List.mem_of_getElem? (i := 1657) (by decide +kernel), List.mem_of_getElem? (i := 1658) (by decide +kernel)⟩
theorem lw_p88 : lw_okq (⟨"WhoseStreetModel", "seenOf", "()I"⟩, 80) := ⟨⟨by decide +kernel, by decide +kernel⟩, List.mem_of_getElem? (i := 1235) (by decide +kernel), List.mem_of_getElem? (i := 1661) (by decide +kernel), List.mem_of_getElem? (i := 1662) (by decide +kernel)⟩
theorem lw_p89 : lw_okq (⟨"WhoseStreetModel", "says", "(II)V"⟩, 80) := ⟨⟨by decide +kernel, by decide +kernel⟩, List.mem_of_getElem? (i := 1235) (by decide +kernel), List.mem_of_getElem? (i := 1673) (by decide +kernel), List.mem_of_getElem? (i := 1674) (by decide +kernel)⟩
theorem lw_p90 : lw_okq (⟨"WhoseStreetModel", "lawIn", "(I)I"⟩, 80) := ⟨⟨by decide +kernel, by decide +kernel⟩, List.mem_of_getElem? (i := 1235) (by decide +kernel), List.mem_of_getElem? (i := 1677) (by decide +kernel), List.mem_of_getElem? (i := 1678) (by decide +kernel)⟩
theorem lw_p91 : lw_okq (⟨"WhoseStreetModel", "viewYear", "()I"⟩, 80) := ⟨⟨by decide +kernel, by decide +kernel⟩, List.mem_of_getElem? (i := 1235) (by decide +kernel), List.mem_of_getElem? (i := 1681) (by decide +kernel), List.mem_of_getElem? (i := 1682) (by decide +kernel)⟩
theorem lw_p92 : lw_okq (⟨"WhoseStreetModel", "knows", "(II)V"⟩, 80) := ⟨⟨by decide +kernel, by decide +kernel⟩, List.mem_of_getElem? (i := 1235) (by decide +kernel), List.mem_of_getElem? (i := 1685) (by decide +kernel), List.mem_of_getElem? (i := 1686) (by decide +kernel)⟩
theorem lw_p93 : lw_okq (⟨"WhoseStreetModel", "worth", "(I)I"⟩, 80) := ⟨⟨by decide +kernel, by decide +kernel⟩, List.mem_of_getElem? (i := 1235) (by decide +kernel), List.mem_of_getElem? (i := 1689) (by decide +kernel), List.mem_of_getElem? (i := 1690) (by decide +kernel)⟩
theorem lw_p94 : lw_okq (⟨"WhoseStreetModel", "findSigns", "()V"⟩, 80) := ⟨⟨by decide +kernel, by decide +kernel⟩, List.mem_of_getElem? (i := 1235) (by decide +kernel), List.mem_of_getElem? (i := 1708) (by decide +kernel), List.mem_of_getElem? (i := 1709) (by decide +kernel)⟩
theorem lw_p95 : lw_okq (⟨"WhoseStreetModel", "findCustoms", "(I)I"⟩, 80) := ⟨⟨by decide +kernel, by decide +kernel⟩, List.mem_of_getElem? (i := 1235) (by decide +kernel), List.mem_of_getElem? (i := 1712) (by decide +kernel), List.mem_of_getElem? (i := 1713) (by decide +kernel)⟩
def lw_privs_6 : List (MethodName × Nat) := [(⟨"WhoseStreetModel", "takeWho", "()I"⟩, 80), (⟨"WhoseStreetModel", "takeWord", "(I)V"⟩, 80), (⟨"WhoseStreetModel", "keeps", "(I)V"⟩, 80), (⟨"WhoseStreetModel", "isMeeting", "(I)Z"⟩, 80), (⟨"WhoseStreetModel", "safeSpeed", "(I)I"⟩, 80), (⟨"WhoseStreetModel", "goesThrough", "(II)V"⟩, 80), (⟨"WhoseStreetModel", "isHidden", "(III)Z"⟩, 80), (⟨"WhoseStreetModel", "signsOf", "(I)I"⟩, 80), (⟨"WhoseStreetModel", "seenOf", "()I"⟩, 80), (⟨"WhoseStreetModel", "says", "(II)V"⟩, 80), (⟨"WhoseStreetModel", "lawIn", "(I)I"⟩, 80), (⟨"WhoseStreetModel", "viewYear", "()I"⟩, 80), (⟨"WhoseStreetModel", "knows", "(II)V"⟩, 80), (⟨"WhoseStreetModel", "worth", "(I)I"⟩, 80), (⟨"WhoseStreetModel", "findSigns", "()V"⟩, 80), (⟨"WhoseStreetModel", "findCustoms", "(I)I"⟩, 80)]
theorem lw_r6 : ∀ q ∈ lw_privs_6, lw_okq q := List.forall_mem_cons.mpr ⟨lw_p80, List.forall_mem_cons.mpr ⟨lw_p81, List.forall_mem_cons.mpr ⟨lw_p82, List.forall_mem_cons.mpr ⟨lw_p83, List.forall_mem_cons.mpr ⟨lw_p84, List.forall_mem_cons.mpr ⟨lw_p85, List.forall_mem_cons.mpr ⟨lw_p86, List.forall_mem_cons.mpr ⟨lw_p87, List.forall_mem_cons.mpr ⟨lw_p88, List.forall_mem_cons.mpr ⟨lw_p89, List.forall_mem_cons.mpr ⟨lw_p90, List.forall_mem_cons.mpr ⟨lw_p91, List.forall_mem_cons.mpr ⟨lw_p92, List.forall_mem_cons.mpr ⟨lw_p93, List.forall_mem_cons.mpr ⟨lw_p94, List.forall_mem_cons.mpr ⟨lw_p95, fun _ h => absurd h List.not_mem_nil⟩⟩⟩⟩⟩⟩⟩⟩⟩⟩⟩⟩⟩⟩⟩⟩
theorem lw_p96 : lw_okq (⟨"WhoseStreetModel", "isSo", "(II)Z"⟩, 80) := ⟨⟨by decide +kernel, by decide +kernel⟩, List.mem_of_getElem? (i := 1235) (by decide +kernel), List.mem_of_getElem? (i := 1716) (by decide +kernel), List.mem_of_getElem? (i := 1717) (by decide +kernel)⟩
theorem lw_p97 : lw_okq (⟨"WhoseStreetModel", "findLights", "(I)V"⟩, 80) := ⟨⟨by decide +kernel, by decide +kernel⟩, List.mem_of_getElem? (i := 1235) (by decide +kernel), List.mem_of_getElem? (i := 1746) (by decide +kernel), List.mem_of_getElem? (i := 1747) (by decide +kernel)⟩
theorem lw_p98 : lw_okq (⟨"WhoseStreetModel", "arePhases", "(I)Z"⟩, 80) := ⟨⟨by decide +kernel, by decide +kernel⟩, List.mem_of_getElem? (i := 1235) (by decide +kernel), List.mem_of_getElem? (i := 1750) (by decide +kernel), List.mem_of_getElem? (i := 1751) (by decide +kernel)⟩
theorem lw_p99 : lw_okq (⟨"WhoseStreetModel", "roundOf", "(II)I"⟩, 80) := ⟨⟨by decide +kernel, by decide +kernel⟩, List.mem_of_getElem? (i := 1235) (by decide +kernel), List.mem_of_getElem? (i := 1757) (by decide +kernel), List.mem_of_getElem? (i := 1758) (by decide +kernel)⟩
theorem lw_p100 : lw_okq (⟨"WhoseStreetModel", "needOf", "(I)I"⟩, 80) := ⟨⟨by decide +kernel, by decide +kernel⟩, List.mem_of_getElem? (i := 1235) (by decide +kernel), List.mem_of_getElem? (i := 1761) (by decide +kernel), List.mem_of_getElem? (i := 1762) (by decide +kernel)⟩
theorem lw_p101 : lw_okq (⟨"WhoseStreetModel", "waitingOf", "(III)I"⟩, 80) := ⟨⟨by decide +kernel, by decide +kernel⟩, List.mem_of_getElem? (i := 1235) (by decide +kernel), List.mem_of_getElem? (i := 1765) (by decide +kernel), List.mem_of_getElem? (i := 1766) (by decide +kernel)⟩
theorem lw_p102 : lw_okq (⟨"WhoseStreetModel", "isPassed", "(I)Z"⟩, 80) := ⟨⟨by decide +kernel, by decide +kernel⟩, List.mem_of_getElem? (i := 1235) (by decide +kernel), List.mem_of_getElem? (i := 1784) (by decide +kernel), List.mem_of_getElem? (i := 1785) (by decide +kernel)⟩
theorem lw_p103 : lw_okq (⟨"WhoseStreetModel", "votes", "(IZ)I"⟩, 80) := ⟨⟨by decide +kernel, by decide +kernel⟩, List.mem_of_getElem? (i := 1235) (by decide +kernel), List.mem_of_getElem? (i := 1788) (by decide +kernel), List.mem_of_getElem? (i := 1789) (by decide +kernel)⟩
theorem lw_p104 : lw_okq (⟨"WhoseStreetModel", "harmOf", "(I)I"⟩, 80) := ⟨⟨by decide +kernel, by decide +kernel⟩, List.mem_of_getElem? (i := 1235) (by decide +kernel), List.mem_of_getElem? (i := 1823) (by decide +kernel), List.mem_of_getElem? (i := 1824) (by decide +kernel)⟩
theorem lw_p105 : lw_okq (⟨"WhoseStreetModel", "doneTo", "(II)I"⟩, 80) := ⟨⟨by decide +kernel, by decide +kernel⟩, List.mem_of_getElem? (i := 1235) (by decide +kernel), List.mem_of_getElem? (i := 1827) (by decide +kernel), List.mem_of_getElem? (i := 1828) (by decide +kernel)⟩
theorem lw_p106 : lw_okq (⟨"WhoseStreetModel", "lateBy", "(I)I"⟩, 80) := ⟨⟨by decide +kernel, by decide +kernel⟩, List.mem_of_getElem? (i := 1235) (by decide +kernel), List.mem_of_getElem? (i := 1831) (by decide +kernel), List.mem_of_getElem? (i := 1832) (by decide +kernel)⟩
theorem lw_p107 : lw_okq (⟨"WhoseStreetModel", "goes", "(III)Z"⟩, 80) := ⟨⟨by decide +kernel, by decide +kernel⟩, List.mem_of_getElem? (i := 1235) (by decide +kernel), List.mem_of_getElem? (i := 1835) (by decide +kernel), List.mem_of_getElem? (i := 1836) (by decide +kernel)⟩
theorem lw_p108 : lw_okq (⟨"WhoseStreetModel", "comesTo", "(III)I"⟩, 80) := ⟨⟨by decide +kernel, by decide +kernel⟩, List.mem_of_getElem? (i := 1235) (by decide +kernel), List.mem_of_getElem? (i := 1839) (by decide +kernel), List.mem_of_getElem? (i := 1840) (by decide +kernel)⟩
theorem lw_p109 : lw_okq (⟨"WhoseStreetModel", "rulingsSeen", "()I"⟩, 80) := ⟨⟨by decide +kernel, by decide +kernel⟩, List.mem_of_getElem? (i := 1235) (by decide +kernel), List.mem_of_getElem? (i := 1847) (by decide +kernel), List.mem_of_getElem? (i := 1848) (by decide +kernel)⟩
theorem lw_p110 : lw_okq (⟨"WhoseStreetModel", "metMany", "()I"⟩, 80) := ⟨⟨by decide +kernel, by decide +kernel⟩, List.mem_of_getElem? (i := 1235) (by decide +kernel), List.mem_of_getElem? (i := 1854) (by decide +kernel), List.mem_of_getElem? (i := 1855) (by decide +kernel)⟩
def lw_privs_7 : List (MethodName × Nat) := [(⟨"WhoseStreetModel", "isSo", "(II)Z"⟩, 80), (⟨"WhoseStreetModel", "findLights", "(I)V"⟩, 80), (⟨"WhoseStreetModel", "arePhases", "(I)Z"⟩, 80), (⟨"WhoseStreetModel", "roundOf", "(II)I"⟩, 80), (⟨"WhoseStreetModel", "needOf", "(I)I"⟩, 80), (⟨"WhoseStreetModel", "waitingOf", "(III)I"⟩, 80), (⟨"WhoseStreetModel", "isPassed", "(I)Z"⟩, 80), (⟨"WhoseStreetModel", "votes", "(IZ)I"⟩, 80), (⟨"WhoseStreetModel", "harmOf", "(I)I"⟩, 80), (⟨"WhoseStreetModel", "doneTo", "(II)I"⟩, 80), (⟨"WhoseStreetModel", "lateBy", "(I)I"⟩, 80), (⟨"WhoseStreetModel", "goes", "(III)Z"⟩, 80), (⟨"WhoseStreetModel", "comesTo", "(III)I"⟩, 80), (⟨"WhoseStreetModel", "rulingsSeen", "()I"⟩, 80), (⟨"WhoseStreetModel", "metMany", "()I"⟩, 80)]
theorem lw_r7 : ∀ q ∈ lw_privs_7, lw_okq q := List.forall_mem_cons.mpr ⟨lw_p96, List.forall_mem_cons.mpr ⟨lw_p97, List.forall_mem_cons.mpr ⟨lw_p98, List.forall_mem_cons.mpr ⟨lw_p99, List.forall_mem_cons.mpr ⟨lw_p100, List.forall_mem_cons.mpr ⟨lw_p101, List.forall_mem_cons.mpr ⟨lw_p102, List.forall_mem_cons.mpr ⟨lw_p103, List.forall_mem_cons.mpr ⟨lw_p104, List.forall_mem_cons.mpr ⟨lw_p105, List.forall_mem_cons.mpr ⟨lw_p106, List.forall_mem_cons.mpr ⟨lw_p107, List.forall_mem_cons.mpr ⟨lw_p108, List.forall_mem_cons.mpr ⟨lw_p109, List.forall_mem_cons.mpr ⟨lw_p110, fun _ h => absurd h List.not_mem_nil⟩⟩⟩⟩⟩⟩⟩⟩⟩⟩⟩⟩⟩⟩⟩
def lw_privs : List (MethodName × Nat) := lw_privs_1 ++ (lw_privs_2 ++ (lw_privs_3 ++ (lw_privs_4 ++ (lw_privs_5 ++ (lw_privs_6 ++ (lw_privs_7))))))
def lw_tbl : List Cond := k2_sels lw_privs ++ tables_1
theorem lw_privs_ok : ∀ q ∈ lw_privs, lw_okq q := by
  show ∀ q ∈ lw_privs_1 ++ (lw_privs_2 ++ (lw_privs_3 ++ (lw_privs_4 ++ (lw_privs_5 ++ (lw_privs_6 ++ (lw_privs_7)))))), lw_okq q
  exact List.forall_mem_append.mpr ⟨lw_r1, List.forall_mem_append.mpr ⟨lw_r2, List.forall_mem_append.mpr ⟨lw_r3, List.forall_mem_append.mpr ⟨lw_r4, List.forall_mem_append.mpr ⟨lw_r5, List.forall_mem_append.mpr ⟨lw_r6, lw_r7⟩⟩⟩⟩⟩⟩
end
section
def RX0 : String := "WhoseStreet$Bench"
def TX0 : u_T := fun k => match k with
  | 0 => ("WhoseStreet$Bench", "cases", "[LWhoseStreet$Meeting;", true)
  | 1 => ("WhoseStreet$Bench", "years", "[I", true)
  | 2 => ("WhoseStreet$Bench", "drivers", "[Z", true)
  | 3 => ("WhoseStreet$Bench", "customs", "[I", true)
  | 4 => ("WhoseStreet$Bench", "left", "[I", true)
  | 5 => ("WhoseStreet$Bench", "rulings", "I", false)
  | _ => ("WhoseStreet$Bench", "kept", "I", false)
def tyX0 : Nat → FieldType := fun k => match k with
  | 0 => .array (.object "WhoseStreet$Meeting")
  | 1 => .array .int
  | 2 => .array .boolean
  | 3 => .array .int
  | 4 => .array .int
  | 5 => .int
  | _ => .int
abbrev wsX00 : List Cond := u_ws RX0 TX0 7
theorem nmX0 : ∀ a, a < 7 → ∀ b, b < 7 → a ≠ b → (TX0 a).2.1 ≠ (TX0 b).2.1 := by decide +kernel
theorem tyX0_ok : ∀ k, k < 7 → parseFieldDescriptor (TX0 k).2.2.1 = some (tyX0 k) := by decide +kernel
abbrev cX0_init : ByteArray := prog_2_method_1_code
def yX0_init : MethodName := ⟨RX0, "<init>", "()V"⟩
abbrev cX0_add : ByteArray := prog_2_method_2_code
def yX0_add : MethodName := ⟨RX0, "add", "(LWhoseStreet$Meeting;IZ)Z"⟩
abbrev cX0_toldBy : ByteArray := prog_2_method_3_code
def yX0_toldBy : MethodName := ⟨RX0, "toldBy", "(I)I"⟩
abbrev cX0_keepFrom : ByteArray := prog_2_method_4_code
def yX0_keepFrom : MethodName := ⟨RX0, "keepFrom", "(II)V"⟩
abbrev cX0_judge : ByteArray := prog_2_method_5_code
def yX0_judge : MethodName := ⟨RX0, "judge", "(LWhoseStreet$Meeting;)I"⟩
abbrev cX0_firstYearOf : ByteArray := prog_2_method_6_code
def yX0_firstYearOf : MethodName := ⟨RX0, "firstYearOf", "(II)I"⟩
abbrev cX0_keepAll : ByteArray := prog_2_method_7_code
def yX0_keepAll : MethodName := ⟨RX0, "keepAll", "()V"⟩
abbrev cX0_ruleOut : ByteArray := prog_2_method_8_code
def yX0_ruleOut : MethodName := ⟨RX0, "ruleOut", "(II)V"⟩
abbrev cX0_keepThoseOf : ByteArray := prog_2_method_9_code
def yX0_keepThoseOf : MethodName := ⟨RX0, "keepThoseOf", "(IZ)V"⟩
abbrev cX0_allHave : ByteArray := prog_2_method_10_code
def yX0_allHave : MethodName := ⟨RX0, "allHave", "(I)Z"⟩
abbrev cX0_isSo : ByteArray := prog_2_method_11_code
def yX0_isSo : MethodName := ⟨RX0, "isSo", "(II)Z"⟩
def RX1 : String := "WhoseStreet$Book"
def TX1 : u_T := fun k => match k with
  | 0 => ("WhoseStreet$Book", "told", "[LWhoseStreet$Law;", true)
  | 1 => ("WhoseStreet$Book", "names", "[I", true)
  | 2 => ("WhoseStreet$Book", "stack", "[I", true)
  | 3 => ("WhoseStreet$Book", "laws", "I", false)
  | 4 => ("WhoseStreet$Book", "who", "I", false)
  | 5 => ("WhoseStreet$Book", "why", "I", false)
  | 6 => ("WhoseStreet$Book", "limit", "I", false)
  | 7 => ("WhoseStreet$Book", "which", "I", false)
  | 8 => ("WhoseStreet$Book", "top", "I", false)
  | 9 => ("WhoseStreet$Book", "yearAsked", "I", false)
  | _ => ("WhoseStreet$Book", "limitInForce", "I", false)
def tyX1 : Nat → FieldType := fun k => match k with
  | 0 => .array (.object "WhoseStreet$Law")
  | 1 => .array .int
  | 2 => .array .int
  | 3 => .int
  | 4 => .int
  | 5 => .int
  | 6 => .int
  | 7 => .int
  | 8 => .int
  | 9 => .int
  | _ => .int
abbrev wsX10 : List Cond := u_ws RX1 TX1 11
theorem nmX1 : ∀ a, a < 11 → ∀ b, b < 11 → a ≠ b → (TX1 a).2.1 ≠ (TX1 b).2.1 := by decide +kernel
theorem tyX1_ok : ∀ k, k < 11 → parseFieldDescriptor (TX1 k).2.2.1 = some (tyX1 k) := by decide +kernel
abbrev cX1_init : ByteArray := prog_3_method_1_code
def yX1_init : MethodName := ⟨RX1, "<init>", "()V"⟩
abbrev cX1_isFull : ByteArray := prog_3_method_2_code
def yX1_isFull : MethodName := ⟨RX1, "isFull", "()Z"⟩
abbrev cX1_add : ByteArray := prog_3_method_3_code
def yX1_add : MethodName := ⟨RX1, "add", "(LWhoseStreet$Law;)V"⟩
abbrev cX1_judge : ByteArray := prog_3_method_4_code
def yX1_judge : MethodName := ⟨RX1, "judge", "(LWhoseStreet$Meeting;II)V"⟩
abbrev cX1_lawOf : ByteArray := prog_3_method_5_code
def yX1_lawOf : MethodName := ⟨RX1, "lawOf", "(II)I"⟩
abbrev cX1_workNamesAndLimit : ByteArray := prog_3_method_6_code
def yX1_workNamesAndLimit : MethodName := ⟨RX1, "workNamesAndLimit", "([ILWhoseStreet$Meeting;)V"⟩
abbrev cX1_findFault : ByteArray := prog_3_method_7_code
def yX1_findFault : MethodName := ⟨RX1, "findFault", "([ILWhoseStreet$Meeting;)V"⟩
abbrev cX1_work : ByteArray := prog_3_method_8_code
def yX1_work : MethodName := ⟨RX1, "work", "([IIILWhoseStreet$Meeting;)I"⟩
abbrev cX1_fact : ByteArray := prog_3_method_9_code
def yX1_fact : MethodName := ⟨RX1, "fact", "(ILWhoseStreet$Meeting;)I"⟩
abbrev cX1_operate : ByteArray := prog_3_method_10_code
def yX1_operate : MethodName := ⟨RX1, "operate", "(I)V"⟩
abbrev cX1_push : ByteArray := prog_3_method_11_code
def yX1_push : MethodName := ⟨RX1, "push", "(I)V"⟩
abbrev cX1_pop : ByteArray := prog_3_method_12_code
def yX1_pop : MethodName := ⟨RX1, "pop", "()I"⟩
def RX2 : String := "WhoseStreet$Corner"
def TX2 : u_T := fun k => match k with
  | 0 => ("WhoseStreet$Corner", "needs", "[I", true)
  | 1 => ("WhoseStreet$Corner", "comes", "[I", true)
  | 2 => ("WhoseStreet$Corner", "mates", "[I", true)
  | 3 => ("WhoseStreet$Corner", "lengths", "[I", true)
  | 4 => ("WhoseStreet$Corner", "phases", "I", false)
  | 5 => ("WhoseStreet$Corner", "best", "I", false)
  | 6 => ("WhoseStreet$Corner", "bestRound", "I", false)
  | _ => ("WhoseStreet$Corner", "bestWaiting", "I", false)
def tyX2 : Nat → FieldType := fun k => match k with
  | 0 => .array .int
  | 1 => .array .int
  | 2 => .array .int
  | 3 => .array .int
  | 4 => .int
  | 5 => .int
  | 6 => .int
  | _ => .int
abbrev wsX20 : List Cond := u_ws RX2 TX2 8
theorem nmX2 : ∀ a, a < 8 → ∀ b, b < 8 → a ≠ b → (TX2 a).2.1 ≠ (TX2 b).2.1 := by decide +kernel
theorem tyX2_ok : ∀ k, k < 8 → parseFieldDescriptor (TX2 k).2.2.1 = some (tyX2 k) := by decide +kernel
abbrev cX2_init : ByteArray := prog_4_method_1_code
def yX2_init : MethodName := ⟨RX2, "<init>", "()V"⟩
abbrev cX2_tell : ByteArray := prog_4_method_2_code
def yX2_tell : MethodName := ⟨RX2, "tell", "(III)V"⟩
abbrev cX2_pair : ByteArray := prog_4_method_3_code
def yX2_pair : MethodName := ⟨RX2, "pair", "(IIZ)V"⟩
abbrev cX2_isTold : ByteArray := prog_4_method_4_code
def yX2_isTold : MethodName := ⟨RX2, "isTold", "(I)Z"⟩
abbrev cX2_streams : ByteArray := prog_4_method_5_code
def yX2_streams : MethodName := ⟨RX2, "streams", "()I"⟩
abbrev cX2_findBest : ByteArray := prog_4_method_6_code
def yX2_findBest : MethodName := ⟨RX2, "findBest", "(I)Z"⟩
abbrev cX2_bestPhaseOf : ByteArray := prog_4_method_7_code
def yX2_bestPhaseOf : MethodName := ⟨RX2, "bestPhaseOf", "(I)I"⟩
abbrev cX2_bestWaitingOf : ByteArray := prog_4_method_8_code
def yX2_bestWaitingOf : MethodName := ⟨RX2, "bestWaitingOf", "(II)I"⟩
abbrev cX2_compare : ByteArray := prog_4_method_9_code
def yX2_compare : MethodName := ⟨RX2, "compare", "(II)V"⟩
abbrev cX2_arrange : ByteArray := prog_4_method_10_code
def yX2_arrange : MethodName := ⟨RX2, "arrange", "(I)Z"⟩
abbrev cX2_mayJoin : ByteArray := prog_4_method_11_code
def yX2_mayJoin : MethodName := ⟨RX2, "mayJoin", "(II)Z"⟩
abbrev cX2_round : ByteArray := prog_4_method_12_code
def yX2_round : MethodName := ⟨RX2, "round", "(I)I"⟩
abbrev cX2_waitingOf : ByteArray := prog_4_method_13_code
def yX2_waitingOf : MethodName := ⟨RX2, "waitingOf", "(III)I"⟩
abbrev cX2_phaseOf : ByteArray := prog_4_method_14_code
def yX2_phaseOf : MethodName := ⟨RX2, "phaseOf", "(II)I"⟩
abbrev cX2_isStream : ByteArray := prog_4_method_15_code
def yX2_isStream : MethodName := ⟨RX2, "isStream", "(I)Z"⟩
def RX3 : String := "WhoseStreet$House"
def TX3 : u_T := fun k => match k with
  | 0 => ("WhoseStreet$House", "heads", "[I", true)
  | 1 => ("WhoseStreet$House", "leanings", "[I", true)
  | 2 => ("WhoseStreet$House", "yes", "[I", true)
  | 3 => ("WhoseStreet$House", "sums", "[I", true)
  | 4 => ("WhoseStreet$House", "stale", "Z", false)
  | 5 => ("WhoseStreet$House", "allHeads", "I", false)
  | _ => ("WhoseStreet$House", "classes", "I", false)
def tyX3 : Nat → FieldType := fun k => match k with
  | 0 => .array .int
  | 1 => .array .int
  | 2 => .array .int
  | 3 => .array .int
  | 4 => .boolean
  | 5 => .int
  | _ => .int
abbrev wsX30 : List Cond := u_ws RX3 TX3 7
theorem nmX3 : ∀ a, a < 7 → ∀ b, b < 7 → a ≠ b → (TX3 a).2.1 ≠ (TX3 b).2.1 := by decide +kernel
theorem tyX3_ok : ∀ k, k < 7 → parseFieldDescriptor (TX3 k).2.2.1 = some (tyX3 k) := by decide +kernel
abbrev cX3_init : ByteArray := prog_5_method_1_code
def yX3_init : MethodName := ⟨RX3, "<init>", "()V"⟩
abbrev cX3_add : ByteArray := prog_5_method_2_code
def yX3_add : MethodName := ⟨RX3, "add", "(I)I"⟩
abbrev cX3_lean : ByteArray := prog_5_method_3_code
def yX3_lean : MethodName := ⟨RX3, "lean", "(III)V"⟩
abbrev cX3_isCarried : ByteArray := prog_5_method_4_code
def yX3_isCarried : MethodName := ⟨RX3, "isCarried", "(I)Z"⟩
abbrev cX3_mostLeft : ByteArray := prog_5_method_5_code
def yX3_mostLeft : MethodName := ⟨RX3, "mostLeft", "(I)I"⟩
abbrev cX3_isMore : ByteArray := prog_5_method_6_code
def yX3_isMore : MethodName := ⟨RX3, "isMore", "(I)Z"⟩
abbrev cX3_yesFor : ByteArray := prog_5_method_7_code
def yX3_yesFor : MethodName := ⟨RX3, "yesFor", "(I)I"⟩
abbrev cX3_poll : ByteArray := prog_5_method_8_code
def yX3_poll : MethodName := ⟨RX3, "poll", "()V"⟩
abbrev cX3_addUp : ByteArray := prog_5_method_9_code
def yX3_addUp : MethodName := ⟨RX3, "addUp", "(I)V"⟩
def RX4 : String := "WhoseStreet$Law"
def TX4 : u_T := fun k => match k with
  | 0 => ("WhoseStreet$Law", "told", "I", true)
  | 1 => ("WhoseStreet$Law", "from", "I", true)
  | _ => ("WhoseStreet$Law", "code", "[I", true)
def tyX4 : Nat → FieldType := fun k => match k with
  | 0 => .int
  | 1 => .int
  | _ => .array .int
abbrev wsX40 : List Cond := u_ws RX4 TX4 3
theorem nmX4 : ∀ a, a < 3 → ∀ b, b < 3 → a ≠ b → (TX4 a).2.1 ≠ (TX4 b).2.1 := by decide +kernel
theorem tyX4_ok : ∀ k, k < 3 → parseFieldDescriptor (TX4 k).2.2.1 = some (tyX4 k) := by decide +kernel
abbrev cX4_init : ByteArray := prog_6_method_1_code
def yX4_init : MethodName := ⟨RX4, "<init>", "(II[I)V"⟩
def RX5 : String := "WhoseStreet$Ledger"
def TX5 : u_T := fun k => match k with
  | 0 => ("WhoseStreet$Ledger", "hurt", "[I", true)
  | _ => ("WhoseStreet$Ledger", "walked", "[I", true)
def tyX5 : Nat → FieldType := fun k => match k with
  | 0 => .array .int
  | _ => .array .int
abbrev wsX50 : List Cond := u_ws RX5 TX5 2
theorem nmX5 : ∀ a, a < 2 → ∀ b, b < 2 → a ≠ b → (TX5 a).2.1 ≠ (TX5 b).2.1 := by decide +kernel
theorem tyX5_ok : ∀ k, k < 2 → parseFieldDescriptor (TX5 k).2.2.1 = some (tyX5 k) := by decide +kernel
abbrev cX5_init : ByteArray := prog_7_method_1_code
def yX5_init : MethodName := ⟨RX5, "<init>", "()V"⟩
abbrev cX5_write : ByteArray := prog_7_method_2_code
def yX5_write : MethodName := ⟨RX5, "write", "(IIII)V"⟩
abbrev cX5_compare : ByteArray := prog_7_method_3_code
def yX5_compare : MethodName := ⟨RX5, "compare", "(III)I"⟩
def RX6 : String := "WhoseStreet$Meeting"
def TX6 : u_T := fun k => match k with
  | 0 => ("WhoseStreet$Meeting", "x", "I", true)
  | 1 => ("WhoseStreet$Meeting", "speed", "I", true)
  | 2 => ("WhoseStreet$Meeting", "reacts", "I", true)
  | 3 => ("WhoseStreet$Meeting", "y", "I", true)
  | 4 => ("WhoseStreet$Meeting", "pace", "I", true)
  | 5 => ("WhoseStreet$Meeting", "looks", "Z", true)
  | 6 => ("WhoseStreet$Meeting", "kind", "I", true)
  | 7 => ("WhoseStreet$Meeting", "sx", "I", false)
  | 8 => ("WhoseStreet$Meeting", "sy", "I", false)
  | 9 => ("WhoseStreet$Meeting", "floor", "I", false)
  | 10 => ("WhoseStreet$Meeting", "width", "I", false)
  | 11 => ("WhoseStreet$Meeting", "met", "I", false)
  | 12 => ("WhoseStreet$Meeting", "first", "I", false)
  | 13 => ("WhoseStreet$Meeting", "stopped", "I", false)
  | 14 => ("WhoseStreet$Meeting", "metSpeed", "I", false)
  | _ => ("WhoseStreet$Meeting", "safe", "I", false)
def tyX6 : Nat → FieldType := fun k => match k with
  | 0 => .int
  | 1 => .int
  | 2 => .int
  | 3 => .int
  | 4 => .int
  | 5 => .boolean
  | 6 => .int
  | 7 => .int
  | 8 => .int
  | 9 => .int
  | 10 => .int
  | 11 => .int
  | 12 => .int
  | 13 => .int
  | 14 => .int
  | _ => .int
abbrev wsX60 : List Cond := u_ws RX6 TX6 16
theorem nmX6 : ∀ a, a < 16 → ∀ b, b < 16 → a ≠ b → (TX6 a).2.1 ≠ (TX6 b).2.1 := by decide +kernel
theorem tyX6_ok : ∀ k, k < 16 → parseFieldDescriptor (TX6 k).2.2.1 = some (tyX6 k) := by decide +kernel
abbrev cX6_init : ByteArray := prog_8_method_1_code
def yX6_init : MethodName := ⟨RX6, "<init>", "(IIIIII)V"⟩
abbrev cX6_end : ByteArray := prog_8_method_2_code
def yX6_end : MethodName := ⟨RX6, "end", "()I"⟩
abbrev cX6_seen : ByteArray := prog_8_method_3_code
def yX6_seen : MethodName := ⟨RX6, "seen", "()I"⟩
abbrev cX6_signs : ByteArray := prog_8_method_4_code
def yX6_signs : MethodName := ⟨RX6, "signs", "()I"⟩
abbrev cX6_words : ByteArray := prog_8_method_5_code
def yX6_words : MethodName := ⟨RX6, "words", "()I"⟩
abbrev cX6_fact : ByteArray := prog_8_method_6_code
def yX6_fact : MethodName := ⟨RX6, "fact", "(I)I"⟩
abbrev cX6_bit : ByteArray := prog_8_method_7_code
def yX6_bit : MethodName := ⟨RX6, "bit", "(IZ)I"⟩
def RX7 : String := "WhoseStreet$Reader"
def TX7 : u_T := fun k => match k with
  | 0 => ("WhoseStreet$Reader", "names", "[J", true)
  | 1 => ("WhoseStreet$Reader", "code", "[I", true)
  | 2 => ("WhoseStreet$Reader", "waiting", "[I", true)
  | 3 => ("WhoseStreet$Reader", "tape", "LWhoseStreet$Tape;", false)
  | 4 => ("WhoseStreet$Reader", "namesTold", "I", false)
  | 5 => ("WhoseStreet$Reader", "size", "I", false)
  | 6 => ("WhoseStreet$Reader", "waits", "I", false)
  | 7 => ("WhoseStreet$Reader", "around", "I", false)
  | _ => ("WhoseStreet$Reader", "fault", "I", false)
def tyX7 : Nat → FieldType := fun k => match k with
  | 0 => .array .long
  | 1 => .array .int
  | 2 => .array .int
  | 3 => .object "WhoseStreet$Tape"
  | 4 => .int
  | 5 => .int
  | 6 => .int
  | 7 => .int
  | _ => .int
abbrev wsX70 : List Cond := u_ws RX7 TX7 9
theorem nmX7 : ∀ a, a < 9 → ∀ b, b < 9 → a ≠ b → (TX7 a).2.1 ≠ (TX7 b).2.1 := by decide +kernel
theorem tyX7_ok : ∀ k, k < 9 → parseFieldDescriptor (TX7 k).2.2.1 = some (tyX7 k) := by decide +kernel
abbrev cX7_init : ByteArray := prog_9_method_1_code
def yX7_init : MethodName := ⟨RX7, "<init>", "()V"⟩
abbrev cX7_read : ByteArray := prog_9_method_2_code
def yX7_read : MethodName := ⟨RX7, "read", "(LWhoseStreet$Tape;)I"⟩
abbrev cX7_written : ByteArray := prog_9_method_3_code
def yX7_written : MethodName := ⟨RX7, "written", "()[I"⟩
abbrev cX7_readLine : ByteArray := prog_9_method_4_code
def yX7_readLine : MethodName := ⟨RX7, "readLine", "(I)V"⟩
abbrev cX7_readWhatFor : ByteArray := prog_9_method_5_code
def yX7_readWhatFor : MethodName := ⟨RX7, "readWhatFor", "(I)V"⟩
abbrev cX7_readNewName : ByteArray := prog_9_method_6_code
def yX7_readNewName : MethodName := ⟨RX7, "readNewName", "()V"⟩
abbrev cX7_readLimit : ByteArray := prog_9_method_7_code
def yX7_readLimit : MethodName := ⟨RX7, "readLimit", "()V"⟩
abbrev cX7_readWho : ByteArray := prog_9_method_8_code
def yX7_readWho : MethodName := ⟨RX7, "readWho", "()V"⟩
abbrev cX7_expect : ByteArray := prog_9_method_9_code
def yX7_expect : MethodName := ⟨RX7, "expect", "(I)V"⟩
abbrev cX7_readExpression : ByteArray := prog_9_method_10_code
def yX7_readExpression : MethodName := ⟨RX7, "readExpression", "()V"⟩
abbrev cX7_readPart : ByteArray := prog_9_method_11_code
def yX7_readPart : MethodName := ⟨RX7, "readPart", "()Z"⟩
abbrev cX7_writeNots : ByteArray := prog_9_method_12_code
def yX7_writeNots : MethodName := ⟨RX7, "writeNots", "()V"⟩
abbrev cX7_closeBracket : ByteArray := prog_9_method_13_code
def yX7_closeBracket : MethodName := ⟨RX7, "closeBracket", "()V"⟩
abbrev cX7_readOperator : ByteArray := prog_9_method_14_code
def yX7_readOperator : MethodName := ⟨RX7, "readOperator", "()V"⟩
abbrev cX7_writeWaiting : ByteArray := prog_9_method_15_code
def yX7_writeWaiting : MethodName := ⟨RX7, "writeWaiting", "(I)V"⟩
abbrev cX7_lastWaiting : ByteArray := prog_9_method_16_code
def yX7_lastWaiting : MethodName := ⟨RX7, "lastWaiting", "()I"⟩
abbrev cX7_hold : ByteArray := prog_9_method_17_code
def yX7_hold : MethodName := ⟨RX7, "hold", "(I)V"⟩
abbrev cX7_nameOf : ByteArray := prog_9_method_18_code
def yX7_nameOf : MethodName := ⟨RX7, "nameOf", "(J)I"⟩
abbrev cX7_write : ByteArray := prog_9_method_19_code
def yX7_write : MethodName := ⟨RX7, "write", "(I)V"⟩
abbrev cX7_wrong : ByteArray := prog_9_method_20_code
def yX7_wrong : MethodName := ⟨RX7, "wrong", "(I)V"⟩
abbrev cX7_rank : ByteArray := prog_9_method_21_code
def yX7_rank : MethodName := ⟨RX7, "rank", "(I)I"⟩
def RX8 : String := "WhoseStreet$Ride"
def TX8 : u_T := fun k => match k with
  | 0 => ("WhoseStreet$Ride", "x", "I", false)
  | 1 => ("WhoseStreet$Ride", "y", "I", false)
  | 2 => ("WhoseStreet$Ride", "v", "I", false)
  | 3 => ("WhoseStreet$Ride", "t", "I", false)
  | 4 => ("WhoseStreet$Ride", "first", "I", false)
  | 5 => ("WhoseStreet$Ride", "stopped", "I", false)
  | _ => ("WhoseStreet$Ride", "met", "I", false)
def tyX8 : Nat → FieldType := fun k => match k with
  | 0 => .int
  | 1 => .int
  | 2 => .int
  | 3 => .int
  | 4 => .int
  | 5 => .int
  | _ => .int
abbrev wsX80 : List Cond := u_ws RX8 TX8 7
theorem nmX8 : ∀ a, a < 7 → ∀ b, b < 7 → a ≠ b → (TX8 a).2.1 ≠ (TX8 b).2.1 := by decide +kernel
theorem tyX8_ok : ∀ k, k < 7 → parseFieldDescriptor (TX8 k).2.2.1 = some (tyX8 k) := by decide +kernel
abbrev cX8_init : ByteArray := prog_10_method_1_code
def yX8_init : MethodName := ⟨RX8, "<init>", "()V"⟩
abbrev cX8_settle : ByteArray := prog_10_method_2_code
def yX8_settle : MethodName := ⟨RX8, "settle", "(LWhoseStreet$Meeting;)V"⟩
abbrev cX8_safeSpeed : ByteArray := prog_10_method_3_code
def yX8_safeSpeed : MethodName := ⟨RX8, "safeSpeed", "(LWhoseStreet$Meeting;)I"⟩
abbrev cX8_findSafeSpeed : ByteArray := prog_10_method_4_code
def yX8_findSafeSpeed : MethodName := ⟨RX8, "findSafeSpeed", "(LWhoseStreet$Meeting;)I"⟩
abbrev cX8_go : ByteArray := prog_10_method_5_code
def yX8_go : MethodName := ⟨RX8, "go", "(LWhoseStreet$Meeting;II)V"⟩
abbrev cX8_goOn : ByteArray := prog_10_method_6_code
def yX8_goOn : MethodName := ⟨RX8, "goOn", "(LWhoseStreet$Meeting;)V"⟩
abbrev cX8_notice : ByteArray := prog_10_method_7_code
def yX8_notice : MethodName := ⟨RX8, "notice", "(Z)V"⟩
abbrev cX8_brake : ByteArray := prog_10_method_8_code
def yX8_brake : MethodName := ⟨RX8, "brake", "(I)V"⟩
abbrev cX8_sees : ByteArray := prog_10_method_9_code
def yX8_sees : MethodName := ⟨RX8, "sees", "(LWhoseStreet$Meeting;)Z"⟩
def RX9 : String := "WhoseStreet$Tape"
def TX9 : u_T := fun k => match k with
  | 0 => ("WhoseStreet$Tape", "signs", "[B", true)
  | 1 => ("WhoseStreet$Tape", "wordKeys", "[J", true)
  | 2 => ("WhoseStreet$Tape", "size", "I", false)
  | 3 => ("WhoseStreet$Tape", "next", "I", false)
  | 4 => ("WhoseStreet$Tape", "token", "I", false)
  | 5 => ("WhoseStreet$Tape", "place", "I", false)
  | 6 => ("WhoseStreet$Tape", "number", "I", false)
  | _ => ("WhoseStreet$Tape", "key", "J", false)
def tyX9 : Nat → FieldType := fun k => match k with
  | 0 => .array .byte
  | 1 => .array .long
  | 2 => .int
  | 3 => .int
  | 4 => .int
  | 5 => .int
  | 6 => .int
  | _ => .long
abbrev wsX90 : List Cond := u_ws RX9 TX9 8
theorem nmX9 : ∀ a, a < 8 → ∀ b, b < 8 → a ≠ b → (TX9 a).2.1 ≠ (TX9 b).2.1 := by decide +kernel
theorem tyX9_ok : ∀ k, k < 8 → parseFieldDescriptor (TX9 k).2.2.1 = some (tyX9 k) := by decide +kernel
abbrev cX9_init : ByteArray := prog_11_method_1_code
def yX9_init : MethodName := ⟨RX9, "<init>", "()V"⟩
abbrev cX9_put : ByteArray := prog_11_method_2_code
def yX9_put : MethodName := ⟨RX9, "put", "(J)V"⟩
abbrev cX9_start : ByteArray := prog_11_method_3_code
def yX9_start : MethodName := ⟨RX9, "start", "()V"⟩
abbrev cX9_advance : ByteArray := prog_11_method_4_code
def yX9_advance : MethodName := ⟨RX9, "advance", "()V"⟩
abbrev cX9_takeWord : ByteArray := prog_11_method_5_code
def yX9_takeWord : MethodName := ⟨RX9, "takeWord", "()V"⟩
abbrev cX9_takeNumber : ByteArray := prog_11_method_6_code
def yX9_takeNumber : MethodName := ⟨RX9, "takeNumber", "()V"⟩
abbrev cX9_wordOf : ByteArray := prog_11_method_7_code
def yX9_wordOf : MethodName := ⟨RX9, "wordOf", "(J)I"⟩
abbrev cX9_isLetter : ByteArray := prog_11_method_8_code
def yX9_isLetter : MethodName := ⟨RX9, "isLetter", "(I)Z"⟩
abbrev cX9_isDigit : ByteArray := prog_11_method_9_code
def yX9_isDigit : MethodName := ⟨RX9, "isDigit", "(I)Z"⟩
abbrev cX9_withLetter : ByteArray := prog_11_method_10_code
def yX9_withLetter : MethodName := ⟨RX9, "withLetter", "(JC)J"⟩
def RX10 : String := "WhoseStreet$Town"
def TX10 : u_T := fun k => match k with
  | 0 => ("WhoseStreet$Town", "ends", "[I", true)
  | 1 => ("WhoseStreet$Town", "hurt", "[I", true)
  | 2 => ("WhoseStreet$Town", "from", "[I", true)
  | 3 => ("WhoseStreet$Town", "to", "[I", true)
  | 4 => ("WhoseStreet$Town", "led", "[I", true)
  | 5 => ("WhoseStreet$Town", "group", "[I", true)
  | 6 => ("WhoseStreet$Town", "sums", "[I", true)
  | 7 => ("WhoseStreet$Town", "numbers", "[I", true)
  | 8 => ("WhoseStreet$Town", "stale", "Z", false)
  | 9 => ("WhoseStreet$Town", "told", "I", false)
  | _ => ("WhoseStreet$Town", "trips", "I", false)
def tyX10 : Nat → FieldType := fun k => match k with
  | 0 => .array .int
  | 1 => .array .int
  | 2 => .array .int
  | 3 => .array .int
  | 4 => .array .int
  | 5 => .array .int
  | 6 => .array .int
  | 7 => .array .int
  | 8 => .boolean
  | 9 => .int
  | _ => .int
abbrev wsX100 : List Cond := u_ws RX10 TX10 11
theorem nmX10 : ∀ a, a < 11 → ∀ b, b < 11 → a ≠ b → (TX10 a).2.1 ≠ (TX10 b).2.1 := by decide +kernel
theorem tyX10_ok : ∀ k, k < 11 → parseFieldDescriptor (TX10 k).2.2.1 = some (tyX10 k) := by decide +kernel
abbrev cX10_init : ByteArray := prog_12_method_1_code
def yX10_init : MethodName := ⟨RX10, "<init>", "()V"⟩
abbrev cX10_lay : ByteArray := prog_12_method_2_code
def yX10_lay : MethodName := ⟨RX10, "lay", "(III)V"⟩
abbrev cX10_tellHurt : ByteArray := prog_12_method_3_code
def yX10_tellHurt : MethodName := ⟨RX10, "tellHurt", "(IIII)V"⟩
abbrev cX10_addTrip : ByteArray := prog_12_method_4_code
def yX10_addTrip : MethodName := ⟨RX10, "addTrip", "(II)I"⟩
abbrev cX10_bestLate : ByteArray := prog_12_method_5_code
def yX10_bestLate : MethodName := ⟨RX10, "bestLate", "(I)I"⟩
abbrev cX10_sumWith : ByteArray := prog_12_method_6_code
def yX10_sumWith : MethodName := ⟨RX10, "sumWith", "(I)I"⟩
abbrev cX10_doneWith : ByteArray := prog_12_method_7_code
def yX10_doneWith : MethodName := ⟨RX10, "doneWith", "(II)I"⟩
abbrev cX10_isBetter : ByteArray := prog_12_method_8_code
def yX10_isBetter : MethodName := ⟨RX10, "isBetter", "(II)Z"⟩
abbrev cX10_findPlans : ByteArray := prog_12_method_9_code
def yX10_findPlans : MethodName := ⟨RX10, "findPlans", "()V"⟩
abbrev cX10_decide : ByteArray := prog_12_method_10_code
def yX10_decide : MethodName := ⟨RX10, "decide", "(IIIII)V"⟩
abbrev cX10_weigh : ByteArray := prog_12_method_11_code
def yX10_weigh : MethodName := ⟨RX10, "weigh", "(IIII)V"⟩
abbrev cX10_tripsBy : ByteArray := prog_12_method_12_code
def yX10_tripsBy : MethodName := ⟨RX10, "tripsBy", "(I)I"⟩
abbrev cX10_join : ByteArray := prog_12_method_13_code
def yX10_join : MethodName := ⟨RX10, "join", "(II)V"⟩
abbrev cX10_groupOf : ByteArray := prog_12_method_14_code
def yX10_groupOf : MethodName := ⟨RX10, "groupOf", "(I)I"⟩
abbrev cX10_isTold : ByteArray := prog_12_method_15_code
def yX10_isTold : MethodName := ⟨RX10, "isTold", "(I)Z"⟩
def RX11 : String := "WhoseStreet"
def TX11 : u_T := fun k => match k with
  | 0 => ("WhoseStreet", "meetings", "[LWhoseStreet$Meeting;", true)
  | 1 => ("WhoseStreet", "ride", "LWhoseStreet$Ride;", true)
  | 2 => ("WhoseStreet", "tape", "LWhoseStreet$Tape;", true)
  | 3 => ("WhoseStreet", "reader", "LWhoseStreet$Reader;", true)
  | 4 => ("WhoseStreet", "book", "LWhoseStreet$Book;", true)
  | 5 => ("WhoseStreet", "bench", "LWhoseStreet$Bench;", true)
  | 6 => ("WhoseStreet", "corner", "LWhoseStreet$Corner;", true)
  | 7 => ("WhoseStreet", "house", "LWhoseStreet$House;", true)
  | 8 => ("WhoseStreet", "ledger", "LWhoseStreet$Ledger;", true)
  | 9 => ("WhoseStreet", "town", "LWhoseStreet$Town;", true)
  | 10 => ("WhoseStreet", "meetingsTold", "I", false)
  | 11 => ("WhoseStreet", "now", "I", false)
  | _ => ("WhoseStreet", "viewTold", "I", false)
def tyX11 : Nat → FieldType := fun k => match k with
  | 0 => .array (.object "WhoseStreet$Meeting")
  | 1 => .object "WhoseStreet$Ride"
  | 2 => .object "WhoseStreet$Tape"
  | 3 => .object "WhoseStreet$Reader"
  | 4 => .object "WhoseStreet$Book"
  | 5 => .object "WhoseStreet$Bench"
  | 6 => .object "WhoseStreet$Corner"
  | 7 => .object "WhoseStreet$House"
  | 8 => .object "WhoseStreet$Ledger"
  | 9 => .object "WhoseStreet$Town"
  | 10 => .int
  | 11 => .int
  | _ => .int
abbrev wsX110 : List Cond := u_ws RX11 TX11 13
theorem nmX11 : ∀ a, a < 13 → ∀ b, b < 13 → a ≠ b → (TX11 a).2.1 ≠ (TX11 b).2.1 := by decide +kernel
theorem tyX11_ok : ∀ k, k < 13 → parseFieldDescriptor (TX11 k).2.2.1 = some (tyX11 k) := by decide +kernel
abbrev cX11_init : ByteArray := prog_1_method_1_code
def yX11_init : MethodName := ⟨RX11, "<init>", "()V"⟩
abbrev cX11_years : ByteArray := prog_1_method_2_code
def yX11_years : MethodName := ⟨RX11, "years", "(I)I"⟩
abbrev cX11_view : ByteArray := prog_1_method_3_code
def yX11_view : MethodName := ⟨RX11, "view", "(I)Z"⟩
abbrev cX11_meeting : ByteArray := prog_1_method_4_code
def yX11_meeting : MethodName := ⟨RX11, "meeting", "(IIIIIII)I"⟩
abbrev cX11_stand : ByteArray := prog_1_method_5_code
def yX11_stand : MethodName := ⟨RX11, "stand", "(IIIII)Z"⟩
abbrev cX11_look : ByteArray := prog_1_method_6_code
def yX11_look : MethodName := ⟨RX11, "look", "(II)I"⟩
abbrev cX11_at : ByteArray := prog_1_method_7_code
def yX11_at : MethodName := ⟨RX11, "at", "(III)I"⟩
abbrev cX11_feed : ByteArray := prog_1_method_8_code
def yX11_feed : MethodName := ⟨RX11, "feed", "(JJJ)I"⟩
abbrev cX11_law : ByteArray := prog_1_method_9_code
def yX11_law : MethodName := ⟨RX11, "law", "(I)I"⟩
abbrev cX11_whose : ByteArray := prog_1_method_10_code
def yX11_whose : MethodName := ⟨RX11, "whose", "(III)I"⟩
abbrev cX11_changes : ByteArray := prog_1_method_11_code
def yX11_changes : MethodName := ⟨RX11, "changes", "(II)I"⟩
abbrev cX11_ruling : ByteArray := prog_1_method_12_code
def yX11_ruling : MethodName := ⟨RX11, "ruling", "(IZ)Z"⟩
abbrev cX11_customs : ByteArray := prog_1_method_13_code
def yX11_customs : MethodName := ⟨RX11, "customs", "(I)I"⟩
abbrev cX11_held : ByteArray := prog_1_method_14_code
def yX11_held : MethodName := ⟨RX11, "held", "(II)I"⟩
abbrev cX11_since : ByteArray := prog_1_method_15_code
def yX11_since : MethodName := ⟨RX11, "since", "(I)I"⟩
abbrev cX11_stream : ByteArray := prog_1_method_16_code
def yX11_stream : MethodName := ⟨RX11, "stream", "(IIIII)Z"⟩
abbrev cX11_together : ByteArray := prog_1_method_17_code
def yX11_together : MethodName := ⟨RX11, "together", "(IIZ)Z"⟩
abbrev cX11_lights : ByteArray := prog_1_method_18_code
def yX11_lights : MethodName := ⟨RX11, "lights", "(II)I"⟩
abbrev cX11_voters : ByteArray := prog_1_method_19_code
def yX11_voters : MethodName := ⟨RX11, "voters", "(I)I"⟩
abbrev cX11_leans : ByteArray := prog_1_method_20_code
def yX11_leans : MethodName := ⟨RX11, "leans", "(III)Z"⟩
abbrev cX11_passes : ByteArray := prog_1_method_21_code
def yX11_passes : MethodName := ⟨RX11, "passes", "(I)I"⟩
abbrev cX11_most : ByteArray := prog_1_method_22_code
def yX11_most : MethodName := ⟨RX11, "most", "(I)I"⟩
abbrev cX11_counted : ByteArray := prog_1_method_23_code
def yX11_counted : MethodName := ⟨RX11, "counted", "(IIII)Z"⟩
abbrev cX11_fell : ByteArray := prog_1_method_24_code
def yX11_fell : MethodName := ⟨RX11, "fell", "(III)I"⟩
abbrev cX11_street : ByteArray := prog_1_method_25_code
def yX11_street : MethodName := ⟨RX11, "street", "(IIIIII)Z"⟩
abbrev cX11_trip : ByteArray := prog_1_method_26_code
def yX11_trip : MethodName := ⟨RX11, "trip", "(II)I"⟩
abbrev cX11_plan : ByteArray := prog_1_method_27_code
def yX11_plan : MethodName := ⟨RX11, "plan", "(II)I"⟩
abbrev cX11_count : ByteArray := prog_1_method_28_code
def yX11_count : MethodName := ⟨RX11, "count", "(I)I"⟩
abbrev cX11_viewNow : ByteArray := prog_1_method_29_code
def yX11_viewNow : MethodName := ⟨RX11, "viewNow", "()I"⟩
abbrev cX11_meetingOf : ByteArray := prog_1_method_30_code
def yX11_meetingOf : MethodName := ⟨RX11, "meetingOf", "(I)LWhoseStreet$Meeting;"⟩
abbrev cX11_meetingsMet : ByteArray := prog_1_method_31_code
def yX11_meetingsMet : MethodName := ⟨RX11, "meetingsMet", "()I"⟩
abbrev cX11_within : ByteArray := prog_1_method_32_code
def yX11_within : MethodName := ⟨RX11, "within", "(III)Z"⟩
abbrev cX11_up : ByteArray := prog_1_method_33_code
def yX11_up : MethodName := ⟨RX11, "up", "(II)I"⟩
def RX12 : String := "WhoseStreetModel"
def TX12 : u_T := fun k => match k with
  | 0 => ("WhoseStreetModel", "thrown", "I", false)
  | 1 => ("WhoseStreetModel", "tape", "[I", true)
  | 2 => ("WhoseStreetModel", "taped", "I", false)
  | 3 => ("WhoseStreetModel", "size", "I", false)
  | 4 => ("WhoseStreetModel", "sort", "[I", true)
  | 5 => ("WhoseStreetModel", "place", "[I", true)
  | 6 => ("WhoseStreetModel", "value", "[J", true)
  | 7 => ("WhoseStreetModel", "at", "I", false)
  | 8 => ("WhoseStreetModel", "fault", "I", false)
  | 9 => ("WhoseStreetModel", "words", "[J", true)
  | 10 => ("WhoseStreetModel", "laws", "I", false)
  | 11 => ("WhoseStreetModel", "lawFor", "[I", true)
  | 12 => ("WhoseStreetModel", "lawOn", "[I", true)
  | 13 => ("WhoseStreetModel", "lines", "[I", true)
  | 14 => ("WhoseStreetModel", "lineKind", "[I", true)
  | 15 => ("WhoseStreetModel", "lineN", "[I", true)
  | 16 => ("WhoseStreetModel", "lineAt", "[I", true)
  | 17 => ("WhoseStreetModel", "names", "I", false)
  | 18 => ("WhoseStreetModel", "name", "[J", true)
  | 19 => ("WhoseStreetModel", "codes", "I", false)
  | 20 => ("WhoseStreetModel", "op", "[I", true)
  | 21 => ("WhoseStreetModel", "one", "[I", true)
  | 22 => ("WhoseStreetModel", "known", "[I", true)
  | 23 => ("WhoseStreetModel", "named", "[I", true)
  | 24 => ("WhoseStreetModel", "pile", "[I", true)
  | 25 => ("WhoseStreetModel", "now", "I", false)
  | 26 => ("WhoseStreetModel", "viewed", "I", false)
  | 27 => ("WhoseStreetModel", "meetings", "I", false)
  | 28 => ("WhoseStreetModel", "yearOf", "[I", true)
  | 29 => ("WhoseStreetModel", "carX", "[I", true)
  | 30 => ("WhoseStreetModel", "speedOf", "[I", true)
  | 31 => ("WhoseStreetModel", "reactsOf", "[I", true)
  | 32 => ("WhoseStreetModel", "walkerY", "[I", true)
  | 33 => ("WhoseStreetModel", "paceOf", "[I", true)
  | 34 => ("WhoseStreetModel", "looksOf", "[I", true)
  | 35 => ("WhoseStreetModel", "standX", "[I", true)
  | 36 => ("WhoseStreetModel", "standY", "[I", true)
  | 37 => ("WhoseStreetModel", "floorOf", "[I", true)
  | 38 => ("WhoseStreetModel", "widthOf", "[I", true)
  | 39 => ("WhoseStreetModel", "carAt", "[I", true)
  | 40 => ("WhoseStreetModel", "walkerAt", "[I", true)
  | 41 => ("WhoseStreetModel", "wentAt", "[I", true)
  | 42 => ("WhoseStreetModel", "ended", "I", false)
  | 43 => ("WhoseStreetModel", "areMet", "Z", false)
  | 44 => ("WhoseStreetModel", "firstSeen", "I", false)
  | 45 => ("WhoseStreetModel", "stopped", "I", false)
  | 46 => ("WhoseStreetModel", "saidWho", "I", false)
  | 47 => ("WhoseStreetModel", "saidLine", "I", false)
  | 48 => ("WhoseStreetModel", "saidLimit", "I", false)
  | 49 => ("WhoseStreetModel", "rulings", "I", false)
  | 50 => ("WhoseStreetModel", "rulingOf", "[I", true)
  | 51 => ("WhoseStreetModel", "isDriver", "[Z", true)
  | 52 => ("WhoseStreetModel", "ruledIn", "[I", true)
  | 53 => ("WhoseStreetModel", "signs", "[I", true)
  | 54 => ("WhoseStreetModel", "customA", "[I", true)
  | 55 => ("WhoseStreetModel", "customB", "[I", true)
  | 56 => ("WhoseStreetModel", "isPossible", "[Z", true)
  | 57 => ("WhoseStreetModel", "isStream", "[Z", true)
  | 58 => ("WhoseStreetModel", "streamWidth", "[I", true)
  | 59 => ("WhoseStreetModel", "slowOf", "[I", true)
  | 60 => ("WhoseStreetModel", "greenOf", "[I", true)
  | 61 => ("WhoseStreetModel", "comes", "[I", true)
  | 62 => ("WhoseStreetModel", "mayBoth", "[Z", true)
  | 63 => ("WhoseStreetModel", "bestCode", "I", false)
  | 64 => ("WhoseStreetModel", "bestRound", "I", false)
  | 65 => ("WhoseStreetModel", "bestWaiting", "I", false)
  | 66 => ("WhoseStreetModel", "lengths", "[I", true)
  | 67 => ("WhoseStreetModel", "classes", "I", false)
  | 68 => ("WhoseStreetModel", "heads", "[I", true)
  | 69 => ("WhoseStreetModel", "leanings", "[I", true)
  | 70 => ("WhoseStreetModel", "hurt", "[I", true)
  | 71 => ("WhoseStreetModel", "walked", "[I", true)
  | 72 => ("WhoseStreetModel", "isStreet", "[Z", true)
  | 73 => ("WhoseStreetModel", "endA", "[I", true)
  | 74 => ("WhoseStreetModel", "endB", "[I", true)
  | 75 => ("WhoseStreetModel", "harm", "[I", true)
  | 76 => ("WhoseStreetModel", "trips", "I", false)
  | 77 => ("WhoseStreetModel", "tripFrom", "[I", true)
  | 78 => ("WhoseStreetModel", "tripTo", "[I", true)
  | _ => ("WhoseStreetModel", "power", "[I", true)
def tyX12 : Nat → FieldType := fun k => match k with
  | 0 => .int
  | 1 => .array .int
  | 2 => .int
  | 3 => .int
  | 4 => .array .int
  | 5 => .array .int
  | 6 => .array .long
  | 7 => .int
  | 8 => .int
  | 9 => .array .long
  | 10 => .int
  | 11 => .array .int
  | 12 => .array .int
  | 13 => .array .int
  | 14 => .array .int
  | 15 => .array .int
  | 16 => .array .int
  | 17 => .int
  | 18 => .array .long
  | 19 => .int
  | 20 => .array .int
  | 21 => .array .int
  | 22 => .array .int
  | 23 => .array .int
  | 24 => .array .int
  | 25 => .int
  | 26 => .int
  | 27 => .int
  | 28 => .array .int
  | 29 => .array .int
  | 30 => .array .int
  | 31 => .array .int
  | 32 => .array .int
  | 33 => .array .int
  | 34 => .array .int
  | 35 => .array .int
  | 36 => .array .int
  | 37 => .array .int
  | 38 => .array .int
  | 39 => .array .int
  | 40 => .array .int
  | 41 => .array .int
  | 42 => .int
  | 43 => .boolean
  | 44 => .int
  | 45 => .int
  | 46 => .int
  | 47 => .int
  | 48 => .int
  | 49 => .int
  | 50 => .array .int
  | 51 => .array .boolean
  | 52 => .array .int
  | 53 => .array .int
  | 54 => .array .int
  | 55 => .array .int
  | 56 => .array .boolean
  | 57 => .array .boolean
  | 58 => .array .int
  | 59 => .array .int
  | 60 => .array .int
  | 61 => .array .int
  | 62 => .array .boolean
  | 63 => .int
  | 64 => .int
  | 65 => .int
  | 66 => .array .int
  | 67 => .int
  | 68 => .array .int
  | 69 => .array .int
  | 70 => .array .int
  | 71 => .array .int
  | 72 => .array .boolean
  | 73 => .array .int
  | 74 => .array .int
  | 75 => .array .int
  | 76 => .int
  | 77 => .array .int
  | 78 => .array .int
  | _ => .array .int
abbrev wsX120 : List Cond := u_ws RX12 TX12 80
theorem nmX12 : ∀ a, a < 80 → ∀ b, b < 80 → a ≠ b → (TX12 a).2.1 ≠ (TX12 b).2.1 := by decide +kernel
theorem tyX12_ok : ∀ k, k < 80 → parseFieldDescriptor (TX12 k).2.2.1 = some (tyX12 k) := by decide +kernel
abbrev cX12_thrown : ByteArray := prog_14_method_1_code
def yX12_thrown : MethodName := ⟨RX12, "thrown", "()I"⟩
abbrev cX12_feed : ByteArray := prog_14_method_2_code
def yX12_feed : MethodName := ⟨RX12, "feed", "(JJJ)I"⟩
abbrev cX12_lay : ByteArray := prog_14_method_3_code
def yX12_lay : MethodName := ⟨RX12, "lay", "(J)V"⟩
abbrev cX12_init : ByteArray := prog_14_method_4_code
def yX12_init : MethodName := ⟨RX12, "<init>", "()V"⟩
abbrev cX12_isLetter : ByteArray := prog_14_method_5_code
def yX12_isLetter : MethodName := ⟨RX12, "isLetter", "(I)Z"⟩
abbrev cX12_isDigit : ByteArray := prog_14_method_6_code
def yX12_isDigit : MethodName := ⟨RX12, "isDigit", "(I)Z"⟩
abbrev cX12_rank : ByteArray := prog_14_method_7_code
def yX12_rank : MethodName := ⟨RX12, "rank", "(I)I"⟩
abbrev cX12_isSignOf : ByteArray := prog_14_method_8_code
def yX12_isSignOf : MethodName := ⟨RX12, "isSignOf", "(I)Z"⟩
abbrev cX12_cutAll : ByteArray := prog_14_method_9_code
def yX12_cutAll : MethodName := ⟨RX12, "cutAll", "()V"⟩
abbrev cX12_wrong : ByteArray := prog_14_method_10_code
def yX12_wrong : MethodName := ⟨RX12, "wrong", "(I)V"⟩
abbrev cX12_isSign : ByteArray := prog_14_method_11_code
def yX12_isSign : MethodName := ⟨RX12, "isSign", "(I)Z"⟩
abbrev cX12_isWord : ByteArray := prog_14_method_12_code
def yX12_isWord : MethodName := ⟨RX12, "isWord", "(I)Z"⟩
abbrev cX12_takeSign : ByteArray := prog_14_method_13_code
def yX12_takeSign : MethodName := ⟨RX12, "takeSign", "(I)V"⟩
abbrev cX12_hasSign : ByteArray := prog_14_method_14_code
def yX12_hasSign : MethodName := ⟨RX12, "hasSign", "(I)Z"⟩
abbrev cX12_hasWord : ByteArray := prog_14_method_15_code
def yX12_hasWord : MethodName := ⟨RX12, "hasWord", "(I)Z"⟩
abbrev cX12_takeWord : ByteArray := prog_14_method_16_code
def yX12_takeWord : MethodName := ⟨RX12, "takeWord", "(I)V"⟩
abbrev cX12_emit : ByteArray := prog_14_method_17_code
def yX12_emit : MethodName := ⟨RX12, "emit", "(II)V"⟩
abbrev cX12_law : ByteArray := prog_14_method_18_code
def yX12_law : MethodName := ⟨RX12, "law", "(I)I"⟩
abbrev cX12_keeps : ByteArray := prog_14_method_19_code
def yX12_keeps : MethodName := ⟨RX12, "keeps", "(I)V"⟩
abbrev cX12_takeNumber : ByteArray := prog_14_method_20_code
def yX12_takeNumber : MethodName := ⟨RX12, "takeNumber", "(II)I"⟩
abbrev cX12_isName : ByteArray := prog_14_method_21_code
def yX12_isName : MethodName := ⟨RX12, "isName", "()Z"⟩
abbrev cX12_findName : ByteArray := prog_14_method_22_code
def yX12_findName : MethodName := ⟨RX12, "findName", "()I"⟩
abbrev cX12_readLine : ByteArray := prog_14_method_23_code
def yX12_readLine : MethodName := ⟨RX12, "readLine", "()V"⟩
abbrev cX12_takeWho : ByteArray := prog_14_method_24_code
def yX12_takeWho : MethodName := ⟨RX12, "takeWho", "()I"⟩
abbrev cX12_readLet : ByteArray := prog_14_method_25_code
def yX12_readLet : MethodName := ⟨RX12, "readLet", "(I)V"⟩
abbrev cX12_readTests : ByteArray := prog_14_method_26_code
def yX12_readTests : MethodName := ⟨RX12, "readTests", "()I"⟩
abbrev cX12_all : ByteArray := prog_14_method_27_code
def yX12_all : MethodName := ⟨RX12, "all", "(I)V"⟩
abbrev cX12_test : ByteArray := prog_14_method_28_code
def yX12_test : MethodName := ⟨RX12, "test", "(I)V"⟩
abbrev cX12_sums : ByteArray := prog_14_method_29_code
def yX12_sums : MethodName := ⟨RX12, "sums", "(I)V"⟩
abbrev cX12_products : ByteArray := prog_14_method_30_code
def yX12_products : MethodName := ⟨RX12, "products", "(I)V"⟩
abbrev cX12_takePart : ByteArray := prog_14_method_31_code
def yX12_takePart : MethodName := ⟨RX12, "takePart", "(I)V"⟩
abbrev cX12_worth : ByteArray := prog_14_method_32_code
def yX12_worth : MethodName := ⟨RX12, "worth", "(I)I"⟩
abbrev cX12_both : ByteArray := prog_14_method_33_code
def yX12_both : MethodName := ⟨RX12, "both", "(III)I"⟩
abbrev cX12_within : ByteArray := prog_14_method_34_code
def yX12_within : MethodName := ⟨RX12, "within", "(III)Z"⟩
abbrev cX12_isYear : ByteArray := prog_14_method_35_code
def yX12_isYear : MethodName := ⟨RX12, "isYear", "(I)Z"⟩
abbrev cX12_years : ByteArray := prog_14_method_36_code
def yX12_years : MethodName := ⟨RX12, "years", "(I)I"⟩
abbrev cX12_view : ByteArray := prog_14_method_37_code
def yX12_view : MethodName := ⟨RX12, "view", "(I)Z"⟩
abbrev cX12_viewYear : ByteArray := prog_14_method_38_code
def yX12_viewYear : MethodName := ⟨RX12, "viewYear", "()I"⟩
abbrev cX12_isMeeting : ByteArray := prog_14_method_39_code
def yX12_isMeeting : MethodName := ⟨RX12, "isMeeting", "(I)Z"⟩
abbrev cX12_meeting : ByteArray := prog_14_method_40_code
def yX12_meeting : MethodName := ⟨RX12, "meeting", "(IIIIIII)I"⟩
abbrev cX12_stand : ByteArray := prog_14_method_41_code
def yX12_stand : MethodName := ⟨RX12, "stand", "(IIIII)Z"⟩
abbrev cX12_isHidden : ByteArray := prog_14_method_42_code
def yX12_isHidden : MethodName := ⟨RX12, "isHidden", "(III)Z"⟩
abbrev cX12_upwards : ByteArray := prog_14_method_43_code
def yX12_upwards : MethodName := ⟨RX12, "upwards", "(II)I"⟩
abbrev cX12_goesThrough : ByteArray := prog_14_method_44_code
def yX12_goesThrough : MethodName := ⟨RX12, "goesThrough", "(II)V"⟩
abbrev cX12_safeSpeed : ByteArray := prog_14_method_45_code
def yX12_safeSpeed : MethodName := ⟨RX12, "safeSpeed", "(I)I"⟩
abbrev cX12_seenOf : ByteArray := prog_14_method_46_code
def yX12_seenOf : MethodName := ⟨RX12, "seenOf", "()I"⟩
abbrev cX12_signsOf : ByteArray := prog_14_method_47_code
def yX12_signsOf : MethodName := ⟨RX12, "signsOf", "(I)I"⟩
abbrev cX12_look : ByteArray := prog_14_method_48_code
def yX12_look : MethodName := ⟨RX12, "look", "(II)I"⟩
abbrev cX12_at : ByteArray := prog_14_method_49_code
def yX12_at : MethodName := ⟨RX12, "at", "(III)I"⟩
abbrev cX12_lawIn : ByteArray := prog_14_method_50_code
def yX12_lawIn : MethodName := ⟨RX12, "lawIn", "(I)I"⟩
abbrev cX12_knows : ByteArray := prog_14_method_51_code
def yX12_knows : MethodName := ⟨RX12, "knows", "(II)V"⟩
abbrev cX12_says : ByteArray := prog_14_method_52_code
def yX12_says : MethodName := ⟨RX12, "says", "(II)V"⟩
abbrev cX12_whose : ByteArray := prog_14_method_53_code
def yX12_whose : MethodName := ⟨RX12, "whose", "(III)I"⟩
abbrev cX12_changes : ByteArray := prog_14_method_54_code
def yX12_changes : MethodName := ⟨RX12, "changes", "(II)I"⟩
abbrev cX12_ruling : ByteArray := prog_14_method_55_code
def yX12_ruling : MethodName := ⟨RX12, "ruling", "(IZ)Z"⟩
abbrev cX12_has : ByteArray := prog_14_method_56_code
def yX12_has : MethodName := ⟨RX12, "has", "(II)Z"⟩
abbrev cX12_isSo : ByteArray := prog_14_method_57_code
def yX12_isSo : MethodName := ⟨RX12, "isSo", "(II)Z"⟩
abbrev cX12_findSigns : ByteArray := prog_14_method_58_code
def yX12_findSigns : MethodName := ⟨RX12, "findSigns", "()V"⟩
abbrev cX12_findCustoms : ByteArray := prog_14_method_59_code
def yX12_findCustoms : MethodName := ⟨RX12, "findCustoms", "(I)I"⟩
abbrev cX12_customs : ByteArray := prog_14_method_60_code
def yX12_customs : MethodName := ⟨RX12, "customs", "(I)I"⟩
abbrev cX12_held : ByteArray := prog_14_method_61_code
def yX12_held : MethodName := ⟨RX12, "held", "(II)I"⟩
abbrev cX12_since : ByteArray := prog_14_method_62_code
def yX12_since : MethodName := ⟨RX12, "since", "(I)I"⟩
abbrev cX12_isStreamNumber : ByteArray := prog_14_method_63_code
def yX12_isStreamNumber : MethodName := ⟨RX12, "isStreamNumber", "(I)Z"⟩
abbrev cX12_stream : ByteArray := prog_14_method_64_code
def yX12_stream : MethodName := ⟨RX12, "stream", "(IIIII)Z"⟩
abbrev cX12_together : ByteArray := prog_14_method_65_code
def yX12_together : MethodName := ⟨RX12, "together", "(IIZ)Z"⟩
abbrev cX12_needOf : ByteArray := prog_14_method_66_code
def yX12_needOf : MethodName := ⟨RX12, "needOf", "(I)I"⟩
abbrev cX12_phaseOf : ByteArray := prog_14_method_67_code
def yX12_phaseOf : MethodName := ⟨RX12, "phaseOf", "(II)I"⟩
abbrev cX12_arePhases : ByteArray := prog_14_method_68_code
def yX12_arePhases : MethodName := ⟨RX12, "arePhases", "(I)Z"⟩
abbrev cX12_roundOf : ByteArray := prog_14_method_69_code
def yX12_roundOf : MethodName := ⟨RX12, "roundOf", "(II)I"⟩
abbrev cX12_waitingOf : ByteArray := prog_14_method_70_code
def yX12_waitingOf : MethodName := ⟨RX12, "waitingOf", "(III)I"⟩
abbrev cX12_findLights : ByteArray := prog_14_method_71_code
def yX12_findLights : MethodName := ⟨RX12, "findLights", "(I)V"⟩
abbrev cX12_lights : ByteArray := prog_14_method_72_code
def yX12_lights : MethodName := ⟨RX12, "lights", "(II)I"⟩
abbrev cX12_voters : ByteArray := prog_14_method_73_code
def yX12_voters : MethodName := ⟨RX12, "voters", "(I)I"⟩
abbrev cX12_leans : ByteArray := prog_14_method_74_code
def yX12_leans : MethodName := ⟨RX12, "leans", "(III)Z"⟩
abbrev cX12_votes : ByteArray := prog_14_method_75_code
def yX12_votes : MethodName := ⟨RX12, "votes", "(IZ)I"⟩
abbrev cX12_isPassed : ByteArray := prog_14_method_76_code
def yX12_isPassed : MethodName := ⟨RX12, "isPassed", "(I)Z"⟩
abbrev cX12_isClauses : ByteArray := prog_14_method_77_code
def yX12_isClauses : MethodName := ⟨RX12, "isClauses", "(I)Z"⟩
abbrev cX12_passes : ByteArray := prog_14_method_78_code
def yX12_passes : MethodName := ⟨RX12, "passes", "(I)I"⟩
abbrev cX12_bits : ByteArray := prog_14_method_79_code
def yX12_bits : MethodName := ⟨RX12, "bits", "(I)I"⟩
abbrev cX12_most : ByteArray := prog_14_method_80_code
def yX12_most : MethodName := ⟨RX12, "most", "(I)I"⟩
abbrev cX12_counted : ByteArray := prog_14_method_81_code
def yX12_counted : MethodName := ⟨RX12, "counted", "(IIII)Z"⟩
abbrev cX12_fell : ByteArray := prog_14_method_82_code
def yX12_fell : MethodName := ⟨RX12, "fell", "(III)I"⟩
abbrev cX12_isPlace : ByteArray := prog_14_method_83_code
def yX12_isPlace : MethodName := ⟨RX12, "isPlace", "(I)Z"⟩
abbrev cX12_street : ByteArray := prog_14_method_84_code
def yX12_street : MethodName := ⟨RX12, "street", "(IIIIII)Z"⟩
abbrev cX12_trip : ByteArray := prog_14_method_85_code
def yX12_trip : MethodName := ⟨RX12, "trip", "(II)I"⟩
abbrev cX12_doneTo : ByteArray := prog_14_method_86_code
def yX12_doneTo : MethodName := ⟨RX12, "doneTo", "(II)I"⟩
abbrev cX12_comesTo : ByteArray := prog_14_method_87_code
def yX12_comesTo : MethodName := ⟨RX12, "comesTo", "(III)I"⟩
abbrev cX12_goes : ByteArray := prog_14_method_88_code
def yX12_goes : MethodName := ⟨RX12, "goes", "(III)Z"⟩
abbrev cX12_lateBy : ByteArray := prog_14_method_89_code
def yX12_lateBy : MethodName := ⟨RX12, "lateBy", "(I)I"⟩
abbrev cX12_harmOf : ByteArray := prog_14_method_90_code
def yX12_harmOf : MethodName := ⟨RX12, "harmOf", "(I)I"⟩
abbrev cX12_plan : ByteArray := prog_14_method_91_code
def yX12_plan : MethodName := ⟨RX12, "plan", "(II)I"⟩
abbrev cX12_manyOf : ByteArray := prog_14_method_92_code
def yX12_manyOf : MethodName := ⟨RX12, "manyOf", "([Z)I"⟩
abbrev cX12_rulingsSeen : ByteArray := prog_14_method_93_code
def yX12_rulingsSeen : MethodName := ⟨RX12, "rulingsSeen", "()I"⟩
abbrev cX12_metMany : ByteArray := prog_14_method_94_code
def yX12_metMany : MethodName := ⟨RX12, "metMany", "()I"⟩
abbrev cX12_count : ByteArray := prog_14_method_95_code
def yX12_count : MethodName := ⟨RX12, "count", "(I)I"⟩
def RJ11 : String := "java/lang/Character"
def TJ11 : u_T := fun k => match k with
  | _ => ("", "", "", false)
def tyJ11 : Nat → FieldType := fun k => match k with
  | _ => .int
abbrev wsJ110 : List Cond := u_ws RJ11 TJ11 0
theorem nmJ11 : ∀ a, a < 0 → ∀ b, b < 0 → a ≠ b → (TJ11 a).2.1 ≠ (TJ11 b).2.1 := by decide +kernel
theorem tyJ11_ok : ∀ k, k < 0 → parseFieldDescriptor (TJ11 k).2.2.1 = some (tyJ11 k) := by decide +kernel
abbrev cJ11_isValidCodePoint_9a6ad : ByteArray := prog_15_method_11_code
def yJ11_isValidCodePoint_9a6ad : MethodName := ⟨RJ11, "isValidCodePoint", "(I)Z"⟩
abbrev cJ11_highSurrogate_5068e : ByteArray := prog_15_method_28_code
def yJ11_highSurrogate_5068e : MethodName := ⟨RJ11, "highSurrogate", "(I)C"⟩
abbrev cJ11_lowSurrogate_5068e : ByteArray := prog_15_method_29_code
def yJ11_lowSurrogate_5068e : MethodName := ⟨RJ11, "lowSurrogate", "(I)C"⟩
def RJx8e188 : String := "java/lang/Cloneable"
def TJx8e188 : u_T := fun k => match k with
  | _ => ("", "", "", false)
def tyJx8e188 : Nat → FieldType := fun k => match k with
  | _ => .int
abbrev wsJx8e1880 : List Cond := u_ws RJx8e188 TJx8e188 0
theorem nmJx8e188 : ∀ a, a < 0 → ∀ b, b < 0 → a ≠ b → (TJx8e188 a).2.1 ≠ (TJx8e188 b).2.1 := by decide +kernel
theorem tyJx8e188_ok : ∀ k, k < 0 → parseFieldDescriptor (TJx8e188 k).2.2.1 = some (tyJx8e188 k) := by decide +kernel
def RJ6 : String := "java/lang/Integer"
def TJ6 : u_T := fun k => match k with
  | _ => ("", "", "", false)
def tyJ6 : Nat → FieldType := fun k => match k with
  | _ => .int
abbrev wsJ60 : List Cond := u_ws RJ6 TJ6 0
theorem nmJ6 : ∀ a, a < 0 → ∀ b, b < 0 → a ≠ b → (TJ6 a).2.1 ≠ (TJ6 b).2.1 := by decide +kernel
theorem tyJ6_ok : ∀ k, k < 0 → parseFieldDescriptor (TJ6 k).2.2.1 = some (tyJ6 k) := by decide +kernel
abbrev cJ6_bitCount_0f7a4 : ByteArray := prog_18_method_49_code
def yJ6_bitCount_0f7a4 : MethodName := ⟨RJ6, "bitCount", "(I)I"⟩
def RJ9 : String := "java/lang/Math"
def TJ9 : u_T := fun k => match k with
  | _ => ("", "", "", false)
def tyJ9 : Nat → FieldType := fun k => match k with
  | _ => .int
abbrev wsJ90 : List Cond := u_ws RJ9 TJ9 0
theorem nmJ9 : ∀ a, a < 0 → ∀ b, b < 0 → a ≠ b → (TJ9 a).2.1 ≠ (TJ9 b).2.1 := by decide +kernel
theorem tyJ9_ok : ∀ k, k < 0 → parseFieldDescriptor (TJ9 k).2.2.1 = some (tyJ9 k) := by decide +kernel
abbrev cJ9_max_7cf53 : ByteArray := prog_19_method_65_code
def yJ9_max_7cf53 : MethodName := ⟨RJ9, "max", "(II)I"⟩
abbrev cJ9_min_7cf53 : ByteArray := prog_19_method_69_code
def yJ9_min_7cf53 : MethodName := ⟨RJ9, "min", "(II)I"⟩
def RJ0 : String := "java/lang/String"
def TJ0 : u_T := fun k => match k with
  | _ => ("", "", "", false)
def tyJ0 : Nat → FieldType := fun k => match k with
  | _ => .int
abbrev wsJ00 : List Cond := u_ws RJ0 TJ0 0
theorem nmJ0 : ∀ a, a < 0 → ∀ b, b < 0 → a ≠ b → (TJ0 a).2.1 ≠ (TJ0 b).2.1 := by decide +kernel
theorem tyJ0_ok : ∀ k, k < 0 → parseFieldDescriptor (TJ0 k).2.2.1 = some (tyJ0 k) := by decide +kernel
abbrev cJ0_length_8abf5 : ByteArray := prog_21_method_54_code
def yJ0_length_8abf5 : MethodName := ⟨RJ0, "length", "()I"⟩
abbrev cJ0_charAt_5068e : ByteArray := prog_21_method_56_code
def yJ0_charAt_5068e : MethodName := ⟨RJ0, "charAt", "(I)C"⟩
abbrev cJ0_indexOf_0f7a4 : ByteArray := prog_21_method_79_code
def yJ0_indexOf_0f7a4 : MethodName := ⟨RJ0, "indexOf", "(I)I"⟩
abbrev cJ0_indexOf_7cf53 : ByteArray := prog_21_method_80_code
def yJ0_indexOf_7cf53 : MethodName := ⟨RJ0, "indexOf", "(II)I"⟩
abbrev cJ0_coder_7d493 : ByteArray := prog_21_method_152_code
def yJ0_coder_7d493 : MethodName := ⟨RJ0, "coder", "()B"⟩
abbrev cJ0_isLatin1_aae02 : ByteArray := prog_21_method_154_code
def yJ0_isLatin1_aae02 : MethodName := ⟨RJ0, "isLatin1", "()Z"⟩
abbrev cJ0_checkIndex_df160 : ByteArray := prog_21_method_155_code
def yJ0_checkIndex_df160 : MethodName := ⟨RJ0, "checkIndex", "(II)V"⟩
abbrev cJ0_checkBoundsBeginEnd_23922 : ByteArray := prog_21_method_158_code
def yJ0_checkBoundsBeginEnd_23922 : MethodName := ⟨RJ0, "checkBoundsBeginEnd", "(III)V"⟩
def RJ1 : String := "java/lang/StringLatin1"
def TJ1 : u_T := fun k => match k with
  | _ => ("", "", "", false)
def tyJ1 : Nat → FieldType := fun k => match k with
  | _ => .int
abbrev wsJ10 : List Cond := u_ws RJ1 TJ1 0
theorem nmJ1 : ∀ a, a < 0 → ∀ b, b < 0 → a ≠ b → (TJ1 a).2.1 ≠ (TJ1 b).2.1 := by decide +kernel
theorem tyJ1_ok : ∀ k, k < 0 → parseFieldDescriptor (TJ1 k).2.2.1 = some (tyJ1 k) := by decide +kernel
abbrev cJ1_charAt_3b067 : ByteArray := prog_22_method_2_code
def yJ1_charAt_3b067 : MethodName := ⟨RJ1, "charAt", "([BI)C"⟩
abbrev cJ1_canEncode_9a6ad : ByteArray := prog_22_method_4_code
def yJ1_canEncode_9a6ad : MethodName := ⟨RJ1, "canEncode", "(I)Z"⟩
abbrev cJ1_indexOf_4cfef : ByteArray := prog_22_method_22_code
def yJ1_indexOf_4cfef : MethodName := ⟨RJ1, "indexOf", "([BIII)I"⟩
abbrev cJ1_indexOfChar_4cfef : ByteArray := prog_22_method_23_code
def yJ1_indexOfChar_4cfef : MethodName := ⟨RJ1, "indexOfChar", "([BIII)I"⟩
def RJ2 : String := "java/lang/StringUTF16"
def TJ2 : u_T := fun k => match k with
  | _ => ("", "", "", false)
def tyJ2 : Nat → FieldType := fun k => match k with
  | _ => .int
abbrev wsJ20 : List Cond := u_ws RJ2 TJ2 0
theorem nmJ2 : ∀ a, a < 0 → ∀ b, b < 0 → a ≠ b → (TJ2 a).2.1 ≠ (TJ2 b).2.1 := by decide +kernel
theorem tyJ2_ok : ∀ k, k < 0 → parseFieldDescriptor (TJ2 k).2.2.1 = some (tyJ2 k) := by decide +kernel
abbrev cJ2_getChar_3b067 : ByteArray := prog_23_method_5_code
def yJ2_getChar_3b067 : MethodName := ⟨RJ2, "getChar", "([BI)C"⟩
abbrev cJ2_length_9d52b : ByteArray := prog_23_method_6_code
def yJ2_length_9d52b : MethodName := ⟨RJ2, "length", "([B)I"⟩
abbrev cJ2_indexOf_4cfef : ByteArray := prog_23_method_40_code
def yJ2_indexOf_4cfef : MethodName := ⟨RJ2, "indexOf", "([BIII)I"⟩
abbrev cJ2_indexOfChar_4cfef : ByteArray := prog_23_method_47_code
def yJ2_indexOfChar_4cfef : MethodName := ⟨RJ2, "indexOfChar", "([BIII)I"⟩
abbrev cJ2_indexOfCharUnsafe_4cfef : ByteArray := prog_23_method_48_code
def yJ2_indexOfCharUnsafe_4cfef : MethodName := ⟨RJ2, "indexOfCharUnsafe", "([BIII)I"⟩
abbrev cJ2_indexOfSupplementary_4cfef : ByteArray := prog_23_method_49_code
def yJ2_indexOfSupplementary_4cfef : MethodName := ⟨RJ2, "indexOfSupplementary", "([BIII)I"⟩
abbrev cJ2_charAt_3b067 : ByteArray := prog_23_method_83_code
def yJ2_charAt_3b067 : MethodName := ⟨RJ2, "charAt", "([BI)C"⟩
abbrev cJ2_checkIndex_2214a : ByteArray := prog_23_method_91_code
def yJ2_checkIndex_2214a : MethodName := ⟨RJ2, "checkIndex", "(I[B)V"⟩
abbrev cJ2_checkBoundsBeginEnd_d044e : ByteArray := prog_23_method_93_code
def yJ2_checkBoundsBeginEnd_d044e : MethodName := ⟨RJ2, "checkBoundsBeginEnd", "(II[B)V"⟩
def RJ10 : String := "java/lang/System"
def TJ10 : u_T := fun k => match k with
  | _ => ("", "", "", false)
def tyJ10 : Nat → FieldType := fun k => match k with
  | _ => .int
abbrev wsJ100 : List Cond := u_ws RJ10 TJ10 0
theorem nmJ10 : ∀ a, a < 0 → ∀ b, b < 0 → a ≠ b → (TJ10 a).2.1 ≠ (TJ10 b).2.1 := by decide +kernel
theorem tyJ10_ok : ∀ k, k < 0 → parseFieldDescriptor (TJ10 k).2.2.1 = some (tyJ10 k) := by decide +kernel
def RJ7 : String := "java/util/Arrays"
def TJ7 : u_T := fun k => match k with
  | _ => ("", "", "", false)
def tyJ7 : Nat → FieldType := fun k => match k with
  | _ => .int
abbrev wsJ70 : List Cond := u_ws RJ7 TJ7 0
theorem nmJ7 : ∀ a, a < 0 → ∀ b, b < 0 → a ≠ b → (TJ7 a).2.1 ≠ (TJ7 b).2.1 := by decide +kernel
theorem tyJ7_ok : ∀ k, k < 0 → parseFieldDescriptor (TJ7 k).2.2.1 = some (tyJ7 k) := by decide +kernel
abbrev cJ7_fill_53178 : ByteArray := prog_26_method_103_code
def yJ7_fill_53178 : MethodName := ⟨RJ7, "fill", "([II)V"⟩
abbrev cJ7_copyOf_59c91 : ByteArray := prog_26_method_123_code
def yJ7_copyOf_59c91 : MethodName := ⟨RJ7, "copyOf", "([II)[I"⟩
def RJ3 : String := "jdk/internal/util/Preconditions"
def TJ3 : u_T := fun k => match k with
  | _ => ("", "", "", false)
def tyJ3 : Nat → FieldType := fun k => match k with
  | _ => .int
abbrev wsJ30 : List Cond := u_ws RJ3 TJ3 0
theorem nmJ3 : ∀ a, a < 0 → ∀ b, b < 0 → a ≠ b → (TJ3 a).2.1 ≠ (TJ3 b).2.1 := by decide +kernel
theorem tyJ3_ok : ∀ k, k < 0 → parseFieldDescriptor (TJ3 k).2.2.1 = some (tyJ3 k) := by decide +kernel
abbrev cJ3_checkIndex_8e157 : ByteArray := prog_28_method_11_code
def yJ3_checkIndex_8e157 : MethodName := ⟨RJ3, "checkIndex", "(IILjava/util/function/BiFunction;)I"⟩
abbrev cJ3_checkFromToIndex_8c36e : ByteArray := prog_28_method_12_code
def yJ3_checkFromToIndex_8c36e : MethodName := ⟨RJ3, "checkFromToIndex", "(IIILjava/util/function/BiFunction;)I"⟩
def RL : String := "WhoseStreetLaw"
abbrev cL_at : ByteArray := method_3_code
def yL_at : MethodName := ⟨RL, "at", "(LWhoseStreet;III[J)I"⟩
abbrev cL_law : ByteArray := code
def yL_law : MethodName := ⟨RL, "law", "([I)Z"⟩
abbrev vwCl : List vw_C := [(RX0, TX0, 7), (RX1, TX1, 11), (RX2, TX2, 8), (RX3, TX3, 7), (RX4, TX4, 3), (RX5, TX5, 2), (RX6, TX6, 16), (RX7, TX7, 9), (RX8, TX8, 7), (RX9, TX9, 8), (RX10, TX10, 11), (RX11, TX11, 13), (RX12, TX12, 80)]
end
section
def zNs : List (String × Nat × MethodName × String) := [("WhoseStreet", 17, ⟨"WhoseStreet$Ride", "<init>", "()V"⟩, "WhoseStreet"), ("WhoseStreet", 31, ⟨"WhoseStreet$Reader", "<init>", "()V"⟩, "WhoseStreet"), ("WhoseStreet", 38, ⟨"WhoseStreet$Book", "<init>", "()V"⟩, "WhoseStreet"), ("WhoseStreet", 52, ⟨"WhoseStreet$Corner", "<init>", "()V"⟩, "WhoseStreet"), ("WhoseStreet", 59, ⟨"WhoseStreet$House", "<init>", "()V"⟩, "WhoseStreet"), ("WhoseStreet", 73, ⟨"WhoseStreet$Town", "<init>", "()V"⟩, "WhoseStreet"), ("WhoseStreet$Ride", 73, ⟨"WhoseStreet", "up", "(II)I"⟩, "WhoseStreet"), ("WhoseStreet$Ride", 90, ⟨"WhoseStreet", "within", "(III)Z"⟩, "WhoseStreet"), ("WhoseStreet$Tape", 33, ⟨"WhoseStreet", "within", "(III)Z"⟩, "WhoseStreet"), ("WhoseStreet$Reader", 92, ⟨"WhoseStreet", "within", "(III)Z"⟩, "WhoseStreet"), ("WhoseStreet$Bench", 63, ⟨"WhoseStreet", "within", "(III)Z"⟩, "WhoseStreet"), ("WhoseStreet$House", 35, ⟨"WhoseStreet", "within", "(III)Z"⟩, "WhoseStreet"), ("WhoseStreet$Ledger", 24, ⟨"WhoseStreet", "within", "(III)Z"⟩, "WhoseStreet"), ("WhoseStreet$Town", 40, ⟨"WhoseStreet", "within", "(III)Z"⟩, "WhoseStreet")]
/-! The small heap: cells by their addresses, with tags for array types (0 int, 1 long, 2 byte, 3 boolean, 4 Meeting[], 5 Law[], 6 an int array that nobody writes); zH: (how many cells the machine's heap has, addresses of constants), cells -/
abbrev zE : Type := (Nat × vp_A) ⊕ (Nat × List Value)
abbrev zH : Type := (Nat × (Nat → Nat)) × (Nat → Option zE)
abbrev zG : Type := va_G × (Nat → ClassId) × Nat × (Nat → Nat)
def zset (h : zH) (a : Nat) (c : zE) : zH := (h.1, fun q => if q = a then some c else h.2 q)
def znew (h : zH) (c : zE) : zH := ((h.1.1 + 1, h.1.2), fun q => if q = h.1.1 then some c else h.2 q)
def zcv (dA : Nat → ClassId) (c : zE) : va_E := match c with
  | .inl a => .inl (dA a.1, a.2)
  | .inr o => .inr o
def zwr (c : zE) : Prop := match c with
  | .inl a => a.1 ≠ 6
  | .inr _ => True
def zR (G : zG) (h : zH) (H : Heap) : Prop := H.size = h.1.1 ∧ G.2.2.2 = h.1.2 ∧ G.2.2.1 ≤ H.size ∧ ∀ (a : Nat) (c : zE), h.2 a = some c → va_at G.1 vwCl (a, zcv G.2.1 c) H ∧ (zwr c → G.2.2.1 ≤ a)
def zT (dA : Nat → ClassId) : List (ClassId × FieldType) := [(dA 0, .int), (dA 1, .long), (dA 2, .byte), (dA 3, .boolean), (dA 4, .object "WhoseStreet$Meeting"), (dA 5, .object "WhoseStreet$Law"), (dA 6, .int)]
abbrev zK (G : zG) (s : State) : Prop := va_K G.1 vwCl (zT G.2.1) s
def zB : List Cond := lw_tbl.filter goodWord
theorem zmem {w : Cond} (i : Nat) (h : lw_tbl[i]? = some w) (g : goodWord w = true) : w ∈ zB := List.mem_filter.mpr ⟨List.mem_of_getElem? h, g⟩
theorem zB_good {w : Cond} (h : w ∈ zB) : (w.onTables && w.keeps) = true ∨ ∃ ty, w = .arrayClass ty := good_of_word (List.mem_filter.mp h).2
/-- what lies outside: links to private members of nest mates, arrays of our classes, the one static array -/
def zX (G : zG) (s : State) (H : Heap) : Prop := (∀ q ∈ zNs, va_Nw (.methodLinkNest q.1 q.2.1 q.2.2.1 q.2.2.2) s) ∧ va_AO "WhoseStreet$Meeting" s ∧ va_AO "WhoseStreet$Law" s ∧ va_Z "WhoseStreet$Ride" "BRAKES" "[I" (.ref (G.2.2.2 0)) (fun q => G.2.2.1 ≤ q) s H
theorem zX.moved {G : zG} {s U : State} {H H1 : Heap} (h : zX G s H) (hW : s.WarmedH U.vm) (hq : ∀ a : Nat, a < H.size → ¬ G.2.2.1 ≤ a → H1[a]? = H[a]?) : zX G U H1 :=
  ⟨fun q hm => va_Nw.warmM hW (h.1 q hm), va_AO.moved hW.alike h.2.1, va_AO.moved hW.alike h.2.2.1, (va_Z.moved hW.alike h.2.2.2).kept hq⟩
def zws (y : MethodName) (cc : ByteArray) (nL : Nat) (ret : Option FieldType) : List Cond := .code y cc nL ret :: zB
theorem zws_in {y : MethodName} {cc : ByteArray} {nL : Nat} {ret : Option FieldType} (h : Cond.code y cc nL ret ∈ zB) : GoodIn zB (zws y cc nL ret) := fun w hw => by
  rcases List.mem_cons.mp hw with rfl | hw
  · exact ⟨h, zB_good h⟩
  · exact ⟨hw, zB_good hw⟩
def zPc (G : zG) (av : List Value) (h : zH) : Array Value → State → Prop := va_Pc av (fun U => zR G h U.heap ∧ zK G U ∧ zX G U U.heap)
def zQ (G : zG) (v : Option Value) (h' : zH) : Array Value → State → Outcome → State → Prop := fun _ st o t => o = .returned v ∧ zR G h' t.heap ∧ va_F (fun q => G.2.2.1 ≤ q) st t
/-- a method's contract: called with av on h it gives back v and leaves h'; d frames, mc cells, ms slots -/
def zOk (d mc ms : Nat) (y : MethodName) (cc : ByteArray) (nL : Nat) (ret : Option FieldType) (av : List Value) (h : zH) (v : Option Value) (h' : zH) : Prop :=
  ∀ (l : Launch) (G : zG) (F L : Nat), d ≤ F → 40 * d ≤ L → Met l y (zws y cc nL ret) { frames := F, cells := mc, slots := ms, locals := L } (zPc G av h) (zQ G v h') mc ms (fun q => G.2.2.1 ≤ q)
def zC (y : MethodName) (cc : ByteArray) (nL : Nat) (ret : Option FieldType) (G : zG) (p : Program) (s : State) (m : MethodId) (args : Array Value) (meth : Method) (c : Code) : Prop :=
  p.tables.exec = Jvm.exec ∧ c.code = cc ∧ c.maxLocals = nL ∧ s.vm.findClass y.cls = some m.cls ∧ (∀ w ∈ zB, w.before args s = true) ∧ meth.sig.returnType = ret ∧ meth.locks = false ∧ meth.name = y.name ∧ zK G s ∧ zX G s s.heap ∧ G.2.2.1 ≤ s.heap.size
/-- the machine at pc with locals lv and stack st on the heap h comes to the end with v and h' -/
def zW (y : MethodName) (cc : ByteArray) (nL : Nat) (ret : Option FieldType) (d mc ms pc : Nat) (lv : List (Nat × Value)) (st : List Value) (h : zH) (v : Option Value) (h' : zH) : Prop :=
  ∀ (G : zG) (p : Program) (l : Launch) (e : Env) (R : Room) (s : State) (m : MethodId) (args : Array Value) (below : List Frame) (meth : Method) (c : Code) (H : Heap) (locs : List Loc) (cells slots : Nat) (ls : Array Slot),
    zC y cc nL ret G p s m args meth c → zR G h H → va_S (fun q => G.2.2.1 ≤ q) s.heap H locs → lv_has ls nL lv → d ≤ R.frames → 40 * d ≤ R.locals → cells + mc ≤ R.cells → slots + ms ≤ R.slots →
    W p l e R s m args below meth c H locs cells slots (MQ below (zQ G v h') args s R.cells R.slots (fun q => G.2.2.1 ≤ q)) (F0 m pc ls st)
theorem zOk.of {d mc ms : Nat} {y : MethodName} {cc : ByteArray} {nL : Nat} {ret : Option FieldType} {av : List Value} {h : zH} {v : Option Value} {h' : zH} (hpl : plainName y.cls = true) (hn : (lg_sl av).length ≤ nL) (k : zW y cc nL ret d mc ms 0 (lv_args 0 av) [] h v h') : zOk d mc ms y cc nL ret av h v h' := by
  intro l G F L hF hL
  refine Met.ofW (cc := cc) (maxL := nL) (ret := ret) hpl rfl ?_
  intro p e s m args below meth c s₁ B hml hv
  obtain ⟨rfl, hR, hK, hX⟩ := hv
  have hts := atoms_spec (ws := zws y cc nL ret) B.pre
  have hown : s.vm.findClass y.cls = some m.cls := findClass_of_methodNamed B.named
  have hin : meth.name = y.name := (name_of_methodNamed B.named B.method).1
  have hl := lv_entry av (n := nL) hn
  rw [lg_entry_eq]
  exact k G p l e _ s m _ below meth c s.heap [] 0 0 _ ⟨B.exec, B.bytes, hml, hown, fun w hw => hts w (List.mem_cons_of_mem _ hw), B.returns, B.notSynchronized, hin, hK, hX, hR.2.2.1⟩ hR va_S.rf hl hF hL (by show 0 + mc ≤ mc; omega) (by show 0 + ms ≤ ms; omega)

section ZR
variable {y : MethodName} {cc : ByteArray} {nL : Nat} {ret : Option FieldType} {d mc ms pc : Nat} {lv : List (Nat × Value)} {st : List Value} {h : zH} {v : Option Value} {h' : zH}

theorem z_iconst {n : Int} {x : Int32} (hd : decode cc pc = .ok (.iconst n, 1)) (hv : Int32.ofInt n = x) (k : zW y cc nL ret d mc ms (pc + 1) lv (.int x :: st) h v h') : zW y cc nL ret d mc ms pc lv (st) h v h' := by
  intro G p l e R s m args below meth c H locs cells slots ls C hR hS hl h1 h2 h3 h4
  exact lv_iconst C.1 C.2.1 hd hv (k G p l e R s m args below meth c H locs cells slots ls C hR hS hl h1 h2 h3 h4)
theorem z_bipush {n : Int} {x : Int32} (hd : decode cc pc = .ok (.bipush n, 2)) (hv : (Int8.ofInt n).toInt32 = x) (k : zW y cc nL ret d mc ms (pc + 2) lv (.int x :: st) h v h') : zW y cc nL ret d mc ms pc lv (st) h v h' := by
  intro G p l e R s m args below meth c H locs cells slots ls C hR hS hl h1 h2 h3 h4
  exact lv_bipush C.1 C.2.1 hd hv (k G p l e R s m args below meth c H locs cells slots ls C hR hS hl h1 h2 h3 h4)
theorem z_sipush {n : Int} {x : Int32} (hd : decode cc pc = .ok (.sipush n, 3)) (hv : (Int16.ofInt n).toInt32 = x) (k : zW y cc nL ret d mc ms (pc + 3) lv (.int x :: st) h v h') : zW y cc nL ret d mc ms pc lv (st) h v h' := by
  intro G p l e R s m args below meth c H locs cells slots ls C hR hS hl h1 h2 h3 h4
  exact lv_sipush C.1 C.2.1 hd hv (k G p l e R s m args below meth c H locs cells slots ls C hR hS hl h1 h2 h3 h4)
theorem z_lconst {n : Fin 2} {x : Int64} (hd : decode cc pc = .ok (.lconst n, 1)) (hv : Int64.ofNat (n : Nat) = x) (k : zW y cc nL ret d mc ms (pc + 1) lv (.long x :: st) h v h') : zW y cc nL ret d mc ms pc lv (st) h v h' := by
  intro G p l e R s m args below meth c H locs cells slots ls C hR hS hl h1 h2 h3 h4
  exact lv_lconst C.1 C.2.1 hd hv (k G p l e R s m args below meth c H locs cells slots ls C hR hS hl h1 h2 h3 h4)
theorem z_iload_n {j : Fin 4} {i : Nat} {x : Int32} (q : Nat) (hd : decode cc pc = .ok (.iload_n j, 1)) (hi : (j : Nat) = i) (hq : lv[q]? = some (i, .int x)) (k : zW y cc nL ret d mc ms (pc + 1) lv (.int x :: st) h v h') : zW y cc nL ret d mc ms pc lv (st) h v h' := by
  intro G p l e R s m args below meth c H locs cells slots ls C hR hS hl h1 h2 h3 h4
  exact lv_iload_n C.1 C.2.1 hd hi (lv_at hl q hq) (k G p l e R s m args below meth c H locs cells slots ls C hR hS hl h1 h2 h3 h4)
theorem z_iload {i : Nat} {x : Int32} (q : Nat) (hd : decode cc pc = .ok (.iload i, 2)) (hq : lv[q]? = some (i, .int x)) (k : zW y cc nL ret d mc ms (pc + 2) lv (.int x :: st) h v h') : zW y cc nL ret d mc ms pc lv (st) h v h' := by
  intro G p l e R s m args below meth c H locs cells slots ls C hR hS hl h1 h2 h3 h4
  exact lv_iload C.1 C.2.1 hd (lv_at hl q hq) (k G p l e R s m args below meth c H locs cells slots ls C hR hS hl h1 h2 h3 h4)
theorem z_istore_n {j : Fin 4} {i : Nat} {x : Int32} {lv' : List (Nat × Value)} (hd : decode cc pc = .ok (.istore_n j, 1)) (hi : (j : Nat) = i) (hn : i < nL) (hl' : (i, Value.int x) :: lv.filter (fun q => !(q.1 == i) && !(q.1 + 1 == i && q.2.category == 2)) = lv') (k : zW y cc nL ret d mc ms (pc + 1) lv' st h v h') : zW y cc nL ret d mc ms pc lv (.int x :: st) h v h' := by
  intro G p l e R s m args below meth c H locs cells slots ls C hR hS hl h1 h2 h3 h4
  exact lv_istore_n C.1 C.2.1 hd hi hl hn hl' (fun ls hl => k G p l e R s m args below meth c H locs cells slots ls C hR hS hl h1 h2 h3 h4)
theorem z_istore {i : Nat} {x : Int32} {lv' : List (Nat × Value)} (hd : decode cc pc = .ok (.istore i, 2)) (hn : i < nL) (hl' : (i, Value.int x) :: lv.filter (fun q => !(q.1 == i) && !(q.1 + 1 == i && q.2.category == 2)) = lv') (k : zW y cc nL ret d mc ms (pc + 2) lv' st h v h') : zW y cc nL ret d mc ms pc lv (.int x :: st) h v h' := by
  intro G p l e R s m args below meth c H locs cells slots ls C hR hS hl h1 h2 h3 h4
  exact lv_istore C.1 C.2.1 hd hl hn hl' (fun ls hl => k G p l e R s m args below meth c H locs cells slots ls C hR hS hl h1 h2 h3 h4)
theorem z_lload_n {j : Fin 4} {i : Nat} {x : Int64} (q : Nat) (hd : decode cc pc = .ok (.lload_n j, 1)) (hi : (j : Nat) = i) (hq : lv[q]? = some (i, .long x)) (k : zW y cc nL ret d mc ms (pc + 1) lv (.long x :: st) h v h') : zW y cc nL ret d mc ms pc lv (st) h v h' := by
  intro G p l e R s m args below meth c H locs cells slots ls C hR hS hl h1 h2 h3 h4
  exact lv_lload_n C.1 C.2.1 hd hi (lv_at hl q hq) (k G p l e R s m args below meth c H locs cells slots ls C hR hS hl h1 h2 h3 h4)
theorem z_lload {i : Nat} {x : Int64} (q : Nat) (hd : decode cc pc = .ok (.lload i, 2)) (hq : lv[q]? = some (i, .long x)) (k : zW y cc nL ret d mc ms (pc + 2) lv (.long x :: st) h v h') : zW y cc nL ret d mc ms pc lv (st) h v h' := by
  intro G p l e R s m args below meth c H locs cells slots ls C hR hS hl h1 h2 h3 h4
  exact lv_lload C.1 C.2.1 hd (lv_at hl q hq) (k G p l e R s m args below meth c H locs cells slots ls C hR hS hl h1 h2 h3 h4)
theorem z_lstore_n {j : Fin 4} {i : Nat} {x : Int64} {lv' : List (Nat × Value)} (hd : decode cc pc = .ok (.lstore_n j, 1)) (hi : (j : Nat) = i) (hn : i + 1 < nL) (hl' : (i, Value.long x) :: lv.filter (fun q => !(q.1 == i) && (!(q.1 == i + 1) && !(q.1 + 1 == i && q.2.category == 2))) = lv') (k : zW y cc nL ret d mc ms (pc + 1) lv' st h v h') : zW y cc nL ret d mc ms pc lv (.long x :: st) h v h' := by
  intro G p l e R s m args below meth c H locs cells slots ls C hR hS hl h1 h2 h3 h4
  exact lv_lstore_n C.1 C.2.1 hd hi hl hn hl' (fun ls hl => k G p l e R s m args below meth c H locs cells slots ls C hR hS hl h1 h2 h3 h4)
theorem z_lstore {i : Nat} {x : Int64} {lv' : List (Nat × Value)} (hd : decode cc pc = .ok (.lstore i, 2)) (hn : i + 1 < nL) (hl' : (i, Value.long x) :: lv.filter (fun q => !(q.1 == i) && (!(q.1 == i + 1) && !(q.1 + 1 == i && q.2.category == 2))) = lv') (k : zW y cc nL ret d mc ms (pc + 2) lv' st h v h') : zW y cc nL ret d mc ms pc lv (.long x :: st) h v h' := by
  intro G p l e R s m args below meth c H locs cells slots ls C hR hS hl h1 h2 h3 h4
  exact lv_lstore C.1 C.2.1 hd hl hn hl' (fun ls hl => k G p l e R s m args below meth c H locs cells slots ls C hR hS hl h1 h2 h3 h4)
theorem z_aload_n {j : Fin 4} {i : Nat} {x : Nat} (q : Nat) (hd : decode cc pc = .ok (.aload_n j, 1)) (hi : (j : Nat) = i) (hq : lv[q]? = some (i, .ref x)) (k : zW y cc nL ret d mc ms (pc + 1) lv (.ref x :: st) h v h') : zW y cc nL ret d mc ms pc lv (st) h v h' := by
  intro G p l e R s m args below meth c H locs cells slots ls C hR hS hl h1 h2 h3 h4
  exact lv_aload_n C.1 C.2.1 hd hi (lv_at hl q hq) (k G p l e R s m args below meth c H locs cells slots ls C hR hS hl h1 h2 h3 h4)
theorem z_aload {i : Nat} {x : Nat} (q : Nat) (hd : decode cc pc = .ok (.aload i, 2)) (hq : lv[q]? = some (i, .ref x)) (k : zW y cc nL ret d mc ms (pc + 2) lv (.ref x :: st) h v h') : zW y cc nL ret d mc ms pc lv (st) h v h' := by
  intro G p l e R s m args below meth c H locs cells slots ls C hR hS hl h1 h2 h3 h4
  exact lv_aload C.1 C.2.1 hd (lv_at hl q hq) (k G p l e R s m args below meth c H locs cells slots ls C hR hS hl h1 h2 h3 h4)
theorem z_astore_n {j : Fin 4} {i : Nat} {x : Nat} {lv' : List (Nat × Value)} (hd : decode cc pc = .ok (.astore_n j, 1)) (hi : (j : Nat) = i) (hn : i < nL) (hl' : (i, Value.ref x) :: lv.filter (fun q => !(q.1 == i) && !(q.1 + 1 == i && q.2.category == 2)) = lv') (k : zW y cc nL ret d mc ms (pc + 1) lv' st h v h') : zW y cc nL ret d mc ms pc lv (.ref x :: st) h v h' := by
  intro G p l e R s m args below meth c H locs cells slots ls C hR hS hl h1 h2 h3 h4
  exact lv_astore_n C.1 C.2.1 hd hi hl hn hl' (fun ls hl => k G p l e R s m args below meth c H locs cells slots ls C hR hS hl h1 h2 h3 h4)
theorem z_astore {i : Nat} {x : Nat} {lv' : List (Nat × Value)} (hd : decode cc pc = .ok (.astore i, 2)) (hn : i < nL) (hl' : (i, Value.ref x) :: lv.filter (fun q => !(q.1 == i) && !(q.1 + 1 == i && q.2.category == 2)) = lv') (k : zW y cc nL ret d mc ms (pc + 2) lv' st h v h') : zW y cc nL ret d mc ms pc lv (.ref x :: st) h v h' := by
  intro G p l e R s m args below meth c H locs cells slots ls C hR hS hl h1 h2 h3 h4
  exact lv_astore C.1 C.2.1 hd hl hn hl' (fun ls hl => k G p l e R s m args below meth c H locs cells slots ls C hR hS hl h1 h2 h3 h4)
theorem z_aload_nQ {j : Fin 4} {i : Nat} {x : Option Nat} (q : Nat) (hd : decode cc pc = .ok (.aload_n j, 1)) (hi : (j : Nat) = i) (hq : lv[q]? = some (i, va_rf x)) (k : zW y cc nL ret d mc ms (pc + 1) lv (va_rf x :: st) h v h') : zW y cc nL ret d mc ms pc lv st h v h' := by
  intro G p l e R s m args below meth c H locs cells slots ls C hR hS hl h1 h2 h3 h4
  cases x with
  | none => exact lv_aload_nN C.1 C.2.1 hd hi (lv_at hl q hq) (k G p l e R s m args below meth c H locs cells slots ls C hR hS hl h1 h2 h3 h4)
  | some x => exact lv_aload_n C.1 C.2.1 hd hi (lv_at hl q hq) (k G p l e R s m args below meth c H locs cells slots ls C hR hS hl h1 h2 h3 h4)
theorem z_aloadQ {i : Nat} {x : Option Nat} (q : Nat) (hd : decode cc pc = .ok (.aload i, 2)) (hq : lv[q]? = some (i, va_rf x)) (k : zW y cc nL ret d mc ms (pc + 2) lv (va_rf x :: st) h v h') : zW y cc nL ret d mc ms pc lv st h v h' := by
  intro G p l e R s m args below meth c H locs cells slots ls C hR hS hl h1 h2 h3 h4
  cases x with
  | none => exact lv_aloadN C.1 C.2.1 hd (lv_at hl q hq) (k G p l e R s m args below meth c H locs cells slots ls C hR hS hl h1 h2 h3 h4)
  | some x => exact lv_aload C.1 C.2.1 hd (lv_at hl q hq) (k G p l e R s m args below meth c H locs cells slots ls C hR hS hl h1 h2 h3 h4)
theorem z_astore_nQ {j : Fin 4} {i : Nat} {x : Option Nat} {lv' : List (Nat × Value)} (hd : decode cc pc = .ok (.astore_n j, 1)) (hi : (j : Nat) = i) (hn : i < nL) (hl' : (i, va_rf x) :: lv.filter (fun q => !(q.1 == i) && !(q.1 + 1 == i && q.2.category == 2)) = lv') (k : zW y cc nL ret d mc ms (pc + 1) lv' st h v h') : zW y cc nL ret d mc ms pc lv (va_rf x :: st) h v h' := by
  intro G p l e R s m args below meth c H locs cells slots ls C hR hS hl h1 h2 h3 h4
  cases x with
  | none => exact lv_astore_nN C.1 C.2.1 hd hi hl hn hl' (fun ls hl => k G p l e R s m args below meth c H locs cells slots ls C hR hS hl h1 h2 h3 h4)
  | some x => exact lv_astore_n C.1 C.2.1 hd hi hl hn hl' (fun ls hl => k G p l e R s m args below meth c H locs cells slots ls C hR hS hl h1 h2 h3 h4)
theorem z_astoreQ {i : Nat} {x : Option Nat} {lv' : List (Nat × Value)} (hd : decode cc pc = .ok (.astore i, 2)) (hn : i < nL) (hl' : (i, va_rf x) :: lv.filter (fun q => !(q.1 == i) && !(q.1 + 1 == i && q.2.category == 2)) = lv') (k : zW y cc nL ret d mc ms (pc + 2) lv' st h v h') : zW y cc nL ret d mc ms pc lv (va_rf x :: st) h v h' := by
  intro G p l e R s m args below meth c H locs cells slots ls C hR hS hl h1 h2 h3 h4
  cases x with
  | none => exact lv_astoreN C.1 C.2.1 hd hl hn hl' (fun ls hl => k G p l e R s m args below meth c H locs cells slots ls C hR hS hl h1 h2 h3 h4)
  | some x => exact lv_astore C.1 C.2.1 hd hl hn hl' (fun ls hl => k G p l e R s m args below meth c H locs cells slots ls C hR hS hl h1 h2 h3 h4)
theorem z_iinc {i : Nat} {n : Int} {x x' : Int32} {lv' : List (Nat × Value)} (q : Nat) (hd : decode cc pc = .ok (.iinc i n, 3)) (hq : lv[q]? = some (i, .int x)) (hv : x + Int32.ofInt n = x') (hn : i < nL) (hl' : (i, Value.int x') :: lv.filter (fun q => !(q.1 == i) && !(q.1 + 1 == i && q.2.category == 2)) = lv') (k : zW y cc nL ret d mc ms (pc + 3) lv' st h v h') : zW y cc nL ret d mc ms pc lv st h v h' := by
  intro G p l e R s m args below meth c H locs cells slots ls C hR hS hl h1 h2 h3 h4
  exact lv_iinc C.1 C.2.1 hd hl (k := q) hq hv hn hl' (fun ls hl => k G p l e R s m args below meth c H locs cells slots ls C hR hS hl h1 h2 h3 h4)
theorem z_iadd {x z : Int32} (hd : decode cc pc = .ok (.iadd, 1)) (k : zW y cc nL ret d mc ms (pc + 1) lv (.int (x + z) :: st) h v h') : zW y cc nL ret d mc ms pc lv (.int z :: .int x :: st) h v h' := by
  intro G p l e R s m args below meth c H locs cells slots ls C hR hS hl h1 h2 h3 h4
  exact lv_iadd C.1 C.2.1 hd (k G p l e R s m args below meth c H locs cells slots ls C hR hS hl h1 h2 h3 h4)
theorem z_isub {x z : Int32} (hd : decode cc pc = .ok (.isub, 1)) (k : zW y cc nL ret d mc ms (pc + 1) lv (.int (x - z) :: st) h v h') : zW y cc nL ret d mc ms pc lv (.int z :: .int x :: st) h v h' := by
  intro G p l e R s m args below meth c H locs cells slots ls C hR hS hl h1 h2 h3 h4
  exact lv_isub C.1 C.2.1 hd (k G p l e R s m args below meth c H locs cells slots ls C hR hS hl h1 h2 h3 h4)
theorem z_imul {x z : Int32} (hd : decode cc pc = .ok (.imul, 1)) (k : zW y cc nL ret d mc ms (pc + 1) lv (.int (x * z) :: st) h v h') : zW y cc nL ret d mc ms pc lv (.int z :: .int x :: st) h v h' := by
  intro G p l e R s m args below meth c H locs cells slots ls C hR hS hl h1 h2 h3 h4
  exact lv_imul C.1 C.2.1 hd (k G p l e R s m args below meth c H locs cells slots ls C hR hS hl h1 h2 h3 h4)
theorem z_iand {x z : Int32} (hd : decode cc pc = .ok (.iand, 1)) (k : zW y cc nL ret d mc ms (pc + 1) lv (.int (x &&& z) :: st) h v h') : zW y cc nL ret d mc ms pc lv (.int z :: .int x :: st) h v h' := by
  intro G p l e R s m args below meth c H locs cells slots ls C hR hS hl h1 h2 h3 h4
  exact lv_iand C.1 C.2.1 hd (k G p l e R s m args below meth c H locs cells slots ls C hR hS hl h1 h2 h3 h4)
theorem z_ior {x z : Int32} (hd : decode cc pc = .ok (.ior, 1)) (k : zW y cc nL ret d mc ms (pc + 1) lv (.int (x ||| z) :: st) h v h') : zW y cc nL ret d mc ms pc lv (.int z :: .int x :: st) h v h' := by
  intro G p l e R s m args below meth c H locs cells slots ls C hR hS hl h1 h2 h3 h4
  exact lv_ior C.1 C.2.1 hd (k G p l e R s m args below meth c H locs cells slots ls C hR hS hl h1 h2 h3 h4)
theorem z_ixor {x z : Int32} (hd : decode cc pc = .ok (.ixor, 1)) (k : zW y cc nL ret d mc ms (pc + 1) lv (.int (x ^^^ z) :: st) h v h') : zW y cc nL ret d mc ms pc lv (.int z :: .int x :: st) h v h' := by
  intro G p l e R s m args below meth c H locs cells slots ls C hR hS hl h1 h2 h3 h4
  exact lv_ixor C.1 C.2.1 hd (k G p l e R s m args below meth c H locs cells slots ls C hR hS hl h1 h2 h3 h4)
theorem z_ladd {x z : Int64} (hd : decode cc pc = .ok (.ladd, 1)) (k : zW y cc nL ret d mc ms (pc + 1) lv (.long (x + z) :: st) h v h') : zW y cc nL ret d mc ms pc lv (.long z :: .long x :: st) h v h' := by
  intro G p l e R s m args below meth c H locs cells slots ls C hR hS hl h1 h2 h3 h4
  exact lv_ladd C.1 C.2.1 hd (k G p l e R s m args below meth c H locs cells slots ls C hR hS hl h1 h2 h3 h4)
theorem z_lsub {x z : Int64} (hd : decode cc pc = .ok (.lsub, 1)) (k : zW y cc nL ret d mc ms (pc + 1) lv (.long (x - z) :: st) h v h') : zW y cc nL ret d mc ms pc lv (.long z :: .long x :: st) h v h' := by
  intro G p l e R s m args below meth c H locs cells slots ls C hR hS hl h1 h2 h3 h4
  exact lv_lsub C.1 C.2.1 hd (k G p l e R s m args below meth c H locs cells slots ls C hR hS hl h1 h2 h3 h4)
theorem z_lmul {x z : Int64} (hd : decode cc pc = .ok (.lmul, 1)) (k : zW y cc nL ret d mc ms (pc + 1) lv (.long (x * z) :: st) h v h') : zW y cc nL ret d mc ms pc lv (.long z :: .long x :: st) h v h' := by
  intro G p l e R s m args below meth c H locs cells slots ls C hR hS hl h1 h2 h3 h4
  exact lv_lmul C.1 C.2.1 hd (k G p l e R s m args below meth c H locs cells slots ls C hR hS hl h1 h2 h3 h4)
theorem z_land {x z : Int64} (hd : decode cc pc = .ok (.land, 1)) (k : zW y cc nL ret d mc ms (pc + 1) lv (.long (x &&& z) :: st) h v h') : zW y cc nL ret d mc ms pc lv (.long z :: .long x :: st) h v h' := by
  intro G p l e R s m args below meth c H locs cells slots ls C hR hS hl h1 h2 h3 h4
  exact lv_land C.1 C.2.1 hd (k G p l e R s m args below meth c H locs cells slots ls C hR hS hl h1 h2 h3 h4)
theorem z_lor {x z : Int64} (hd : decode cc pc = .ok (.lor, 1)) (k : zW y cc nL ret d mc ms (pc + 1) lv (.long (x ||| z) :: st) h v h') : zW y cc nL ret d mc ms pc lv (.long z :: .long x :: st) h v h' := by
  intro G p l e R s m args below meth c H locs cells slots ls C hR hS hl h1 h2 h3 h4
  exact lv_lor C.1 C.2.1 hd (k G p l e R s m args below meth c H locs cells slots ls C hR hS hl h1 h2 h3 h4)
theorem z_idiv {x z : Int32} (hd : decode cc pc = .ok (.idiv, 1)) (hz : ¬ z = 0) (k : zW y cc nL ret d mc ms (pc + 1) lv (.int (x / z) :: st) h v h') : zW y cc nL ret d mc ms pc lv (.int z :: .int x :: st) h v h' := by
  intro G p l e R s m args below meth c H locs cells slots ls C hR hS hl h1 h2 h3 h4
  exact lv_idiv C.1 C.2.1 hd hz (k G p l e R s m args below meth c H locs cells slots ls C hR hS hl h1 h2 h3 h4)
theorem z_irem {x z : Int32} (hd : decode cc pc = .ok (.irem, 1)) (hz : ¬ z = 0) (k : zW y cc nL ret d mc ms (pc + 1) lv (.int (x - x / z * z) :: st) h v h') : zW y cc nL ret d mc ms pc lv (.int z :: .int x :: st) h v h' := by
  intro G p l e R s m args below meth c H locs cells slots ls C hR hS hl h1 h2 h3 h4
  exact lv_irem C.1 C.2.1 hd hz (k G p l e R s m args below meth c H locs cells slots ls C hR hS hl h1 h2 h3 h4)
theorem z_ineg {x : Int32} (hd : decode cc pc = .ok (.ineg, 1)) (k : zW y cc nL ret d mc ms (pc + 1) lv (.int (-x) :: st) h v h') : zW y cc nL ret d mc ms pc lv (.int x :: st) h v h' := by
  intro G p l e R s m args below meth c H locs cells slots ls C hR hS hl h1 h2 h3 h4
  exact lv_ineg C.1 C.2.1 hd (k G p l e R s m args below meth c H locs cells slots ls C hR hS hl h1 h2 h3 h4)
theorem z_ishl {x z : Int32} (hd : decode cc pc = .ok (.ishl, 1)) (k : zW y cc nL ret d mc ms (pc + 1) lv (.int (x <<< (z &&& 31)) :: st) h v h') : zW y cc nL ret d mc ms pc lv (.int z :: .int x :: st) h v h' := by
  intro G p l e R s m args below meth c H locs cells slots ls C hR hS hl h1 h2 h3 h4
  exact lv_ishl C.1 C.2.1 hd (k G p l e R s m args below meth c H locs cells slots ls C hR hS hl h1 h2 h3 h4)
theorem z_ishr {x z : Int32} (hd : decode cc pc = .ok (.ishr, 1)) (k : zW y cc nL ret d mc ms (pc + 1) lv (.int (x >>> (z &&& 31)) :: st) h v h') : zW y cc nL ret d mc ms pc lv (.int z :: .int x :: st) h v h' := by
  intro G p l e R s m args below meth c H locs cells slots ls C hR hS hl h1 h2 h3 h4
  exact lv_ishr C.1 C.2.1 hd (k G p l e R s m args below meth c H locs cells slots ls C hR hS hl h1 h2 h3 h4)
theorem z_iushr {x z : Int32} (hd : decode cc pc = .ok (.iushr, 1)) (k : zW y cc nL ret d mc ms (pc + 1) lv (.int (x.toUInt32 >>> (z.toUInt32 &&& Int32.toUInt32 31)).toInt32 :: st) h v h') : zW y cc nL ret d mc ms pc lv (.int z :: .int x :: st) h v h' := by
  intro G p l e R s m args below meth c H locs cells slots ls C hR hS hl h1 h2 h3 h4
  exact lv_iushr C.1 C.2.1 hd rfl (k G p l e R s m args below meth c H locs cells slots ls C hR hS hl h1 h2 h3 h4)
theorem z_lushr {x : Int64} {z : Int32} (hd : decode cc pc = .ok (.lushr, 1)) (k : zW y cc nL ret d mc ms (pc + 1) lv (.long (x.toUInt64 >>> (z.toInt64.toUInt64 &&& Int64.toUInt64 63)).toInt64 :: st) h v h') : zW y cc nL ret d mc ms pc lv (.int z :: .long x :: st) h v h' := by
  intro G p l e R s m args below meth c H locs cells slots ls C hR hS hl h1 h2 h3 h4
  exact lv_lushr C.1 C.2.1 hd rfl (k G p l e R s m args below meth c H locs cells slots ls C hR hS hl h1 h2 h3 h4)
theorem z_lshl {x : Int64} {z : Int32} (hd : decode cc pc = .ok (.lshl, 1)) (k : zW y cc nL ret d mc ms (pc + 1) lv (.long (x <<< (z.toInt64 &&& 63)) :: st) h v h') : zW y cc nL ret d mc ms pc lv (.int z :: .long x :: st) h v h' := by
  intro G p l e R s m args below meth c H locs cells slots ls C hR hS hl h1 h2 h3 h4
  exact lv_lshl C.1 C.2.1 hd rfl (k G p l e R s m args below meth c H locs cells slots ls C hR hS hl h1 h2 h3 h4)
theorem z_lshr {x : Int64} {z : Int32} (hd : decode cc pc = .ok (.lshr, 1)) (k : zW y cc nL ret d mc ms (pc + 1) lv (.long (x >>> (z.toInt64 &&& 63)) :: st) h v h') : zW y cc nL ret d mc ms pc lv (.int z :: .long x :: st) h v h' := by
  intro G p l e R s m args below meth c H locs cells slots ls C hR hS hl h1 h2 h3 h4
  exact lv_lshr C.1 C.2.1 hd rfl (k G p l e R s m args below meth c H locs cells slots ls C hR hS hl h1 h2 h3 h4)
theorem z_i2l {x : Int32} (hd : decode cc pc = .ok (.i2l, 1)) (k : zW y cc nL ret d mc ms (pc + 1) lv (.long x.toInt64 :: st) h v h') : zW y cc nL ret d mc ms pc lv (.int x :: st) h v h' := by
  intro G p l e R s m args below meth c H locs cells slots ls C hR hS hl h1 h2 h3 h4
  exact lv_i2l C.1 C.2.1 hd rfl (k G p l e R s m args below meth c H locs cells slots ls C hR hS hl h1 h2 h3 h4)
theorem z_l2i {x : Int64} (hd : decode cc pc = .ok (.l2i, 1)) (k : zW y cc nL ret d mc ms (pc + 1) lv (.int x.toInt32 :: st) h v h') : zW y cc nL ret d mc ms pc lv (.long x :: st) h v h' := by
  intro G p l e R s m args below meth c H locs cells slots ls C hR hS hl h1 h2 h3 h4
  exact lv_l2i C.1 C.2.1 hd rfl (k G p l e R s m args below meth c H locs cells slots ls C hR hS hl h1 h2 h3 h4)
theorem z_i2b {x : Int32} (hd : decode cc pc = .ok (.i2b, 1)) (k : zW y cc nL ret d mc ms (pc + 1) lv (.int x.toInt8.toInt32 :: st) h v h') : zW y cc nL ret d mc ms pc lv (.int x :: st) h v h' := by
  intro G p l e R s m args below meth c H locs cells slots ls C hR hS hl h1 h2 h3 h4
  exact lv_i2b C.1 C.2.1 hd rfl (k G p l e R s m args below meth c H locs cells slots ls C hR hS hl h1 h2 h3 h4)
theorem z_i2c {x : Int32} (hd : decode cc pc = .ok (.i2c, 1)) (k : zW y cc nL ret d mc ms (pc + 1) lv (.int (x.toUInt32 % 65536).toInt32 :: st) h v h') : zW y cc nL ret d mc ms pc lv (.int x :: st) h v h' := by
  intro G p l e R s m args below meth c H locs cells slots ls C hR hS hl h1 h2 h3 h4
  exact lv_i2c C.1 C.2.1 hd rfl (k G p l e R s m args below meth c H locs cells slots ls C hR hS hl h1 h2 h3 h4)
theorem z_dup {a : Value} (hd : decode cc pc = .ok (.dup, 1)) (ha : a.category = 1) (k : zW y cc nL ret d mc ms (pc + 1) lv (a :: a :: st) h v h') : zW y cc nL ret d mc ms pc lv (a :: st) h v h' := by
  intro G p l e R s m args below meth c H locs cells slots ls C hR hS hl h1 h2 h3 h4
  exact lv_dup C.1 C.2.1 hd ha (k G p l e R s m args below meth c H locs cells slots ls C hR hS hl h1 h2 h3 h4)
theorem z_pop {a : Value} (hd : decode cc pc = .ok (.pop, 1)) (ha : a.category = 1) (k : zW y cc nL ret d mc ms (pc + 1) lv (st) h v h') : zW y cc nL ret d mc ms pc lv (a :: st) h v h' := by
  intro G p l e R s m args below meth c H locs cells slots ls C hR hS hl h1 h2 h3 h4
  exact lv_pop C.1 C.2.1 hd ha (k G p l e R s m args below meth c H locs cells slots ls C hR hS hl h1 h2 h3 h4)
theorem z_dup2 {a b : Value} (hd : decode cc pc = .ok (.dup2, 1)) (ha : a.category = 1) (hb : b.category = 1) (k : zW y cc nL ret d mc ms (pc + 1) lv (a :: b :: a :: b :: st) h v h') : zW y cc nL ret d mc ms pc lv (a :: b :: st) h v h' := by
  intro G p l e R s m args below meth c H locs cells slots ls C hR hS hl h1 h2 h3 h4
  exact lv_dup2_11 C.1 C.2.1 hd ha hb (k G p l e R s m args below meth c H locs cells slots ls C hR hS hl h1 h2 h3 h4)
theorem z_null  (hd : decode cc pc = .ok (.aconst_null, 1)) (k : zW y cc nL ret d mc ms (pc + 1) lv (va_rf none :: st) h v h') : zW y cc nL ret d mc ms pc lv (st) h v h' := by
  intro G p l e R s m args below meth c H locs cells slots ls C hR hS hl h1 h2 h3 h4
  exact lv_null C.1 C.2.1 hd (k G p l e R s m args below meth c H locs cells slots ls C hR hS hl h1 h2 h3 h4)
theorem z_if_eq {x : Int32} {off : Int} (tgt : Nat) (hd : decode cc pc = .ok (.ifCond .eq off, 3)) (ht : (pc : Int) + off = (tgt : Int)) (kt : x = 0 → zW y cc nL ret d mc ms tgt lv st h v h') (kf : ¬ x = 0 → zW y cc nL ret d mc ms (pc + 3) lv st h v h') : zW y cc nL ret d mc ms pc lv (.int x :: st) h v h' := by
  intro G p l e R s m args below meth c H locs cells slots ls C hR hS hl h1 h2 h3 h4
  exact lv_if_eq C.1 C.2.1 hd ht (fun q => kt q G p l e R s m args below meth c H locs cells slots ls C hR hS hl h1 h2 h3 h4) (fun q => kf q G p l e R s m args below meth c H locs cells slots ls C hR hS hl h1 h2 h3 h4)
theorem z_icmp_eq {x z : Int32} {off : Int} (tgt : Nat) (hd : decode cc pc = .ok (.if_icmp .eq off, 3)) (ht : (pc : Int) + off = (tgt : Int)) (kt : x = z → zW y cc nL ret d mc ms tgt lv st h v h') (kf : ¬ x = z → zW y cc nL ret d mc ms (pc + 3) lv st h v h') : zW y cc nL ret d mc ms pc lv (.int z :: .int x :: st) h v h' := by
  intro G p l e R s m args below meth c H locs cells slots ls C hR hS hl h1 h2 h3 h4
  exact lv_icmp_eq C.1 C.2.1 hd ht (fun q => kt q G p l e R s m args below meth c H locs cells slots ls C hR hS hl h1 h2 h3 h4) (fun q => kf q G p l e R s m args below meth c H locs cells slots ls C hR hS hl h1 h2 h3 h4)
theorem z_if_ne {x : Int32} {off : Int} (tgt : Nat) (hd : decode cc pc = .ok (.ifCond .ne off, 3)) (ht : (pc : Int) + off = (tgt : Int)) (kt : ¬ x = 0 → zW y cc nL ret d mc ms tgt lv st h v h') (kf : x = 0 → zW y cc nL ret d mc ms (pc + 3) lv st h v h') : zW y cc nL ret d mc ms pc lv (.int x :: st) h v h' := by
  intro G p l e R s m args below meth c H locs cells slots ls C hR hS hl h1 h2 h3 h4
  exact lv_if_ne C.1 C.2.1 hd ht (fun q => kt q G p l e R s m args below meth c H locs cells slots ls C hR hS hl h1 h2 h3 h4) (fun q => kf q G p l e R s m args below meth c H locs cells slots ls C hR hS hl h1 h2 h3 h4)
theorem z_icmp_ne {x z : Int32} {off : Int} (tgt : Nat) (hd : decode cc pc = .ok (.if_icmp .ne off, 3)) (ht : (pc : Int) + off = (tgt : Int)) (kt : ¬ x = z → zW y cc nL ret d mc ms tgt lv st h v h') (kf : x = z → zW y cc nL ret d mc ms (pc + 3) lv st h v h') : zW y cc nL ret d mc ms pc lv (.int z :: .int x :: st) h v h' := by
  intro G p l e R s m args below meth c H locs cells slots ls C hR hS hl h1 h2 h3 h4
  exact lv_icmp_ne C.1 C.2.1 hd ht (fun q => kt q G p l e R s m args below meth c H locs cells slots ls C hR hS hl h1 h2 h3 h4) (fun q => kf q G p l e R s m args below meth c H locs cells slots ls C hR hS hl h1 h2 h3 h4)
theorem z_if_lt {x : Int32} {off : Int} (tgt : Nat) (hd : decode cc pc = .ok (.ifCond .lt off, 3)) (ht : (pc : Int) + off = (tgt : Int)) (kt : x < 0 → zW y cc nL ret d mc ms tgt lv st h v h') (kf : ¬ x < 0 → zW y cc nL ret d mc ms (pc + 3) lv st h v h') : zW y cc nL ret d mc ms pc lv (.int x :: st) h v h' := by
  intro G p l e R s m args below meth c H locs cells slots ls C hR hS hl h1 h2 h3 h4
  exact lv_if_lt C.1 C.2.1 hd ht (fun q => kt q G p l e R s m args below meth c H locs cells slots ls C hR hS hl h1 h2 h3 h4) (fun q => kf q G p l e R s m args below meth c H locs cells slots ls C hR hS hl h1 h2 h3 h4)
theorem z_icmp_lt {x z : Int32} {off : Int} (tgt : Nat) (hd : decode cc pc = .ok (.if_icmp .lt off, 3)) (ht : (pc : Int) + off = (tgt : Int)) (kt : x < z → zW y cc nL ret d mc ms tgt lv st h v h') (kf : ¬ x < z → zW y cc nL ret d mc ms (pc + 3) lv st h v h') : zW y cc nL ret d mc ms pc lv (.int z :: .int x :: st) h v h' := by
  intro G p l e R s m args below meth c H locs cells slots ls C hR hS hl h1 h2 h3 h4
  exact lv_icmp_lt C.1 C.2.1 hd ht (fun q => kt q G p l e R s m args below meth c H locs cells slots ls C hR hS hl h1 h2 h3 h4) (fun q => kf q G p l e R s m args below meth c H locs cells slots ls C hR hS hl h1 h2 h3 h4)
theorem z_if_ge {x : Int32} {off : Int} (tgt : Nat) (hd : decode cc pc = .ok (.ifCond .ge off, 3)) (ht : (pc : Int) + off = (tgt : Int)) (kt : 0 ≤ x → zW y cc nL ret d mc ms tgt lv st h v h') (kf : ¬ 0 ≤ x → zW y cc nL ret d mc ms (pc + 3) lv st h v h') : zW y cc nL ret d mc ms pc lv (.int x :: st) h v h' := by
  intro G p l e R s m args below meth c H locs cells slots ls C hR hS hl h1 h2 h3 h4
  exact lv_if_ge C.1 C.2.1 hd ht (fun q => kt q G p l e R s m args below meth c H locs cells slots ls C hR hS hl h1 h2 h3 h4) (fun q => kf q G p l e R s m args below meth c H locs cells slots ls C hR hS hl h1 h2 h3 h4)
theorem z_icmp_ge {x z : Int32} {off : Int} (tgt : Nat) (hd : decode cc pc = .ok (.if_icmp .ge off, 3)) (ht : (pc : Int) + off = (tgt : Int)) (kt : z ≤ x → zW y cc nL ret d mc ms tgt lv st h v h') (kf : ¬ z ≤ x → zW y cc nL ret d mc ms (pc + 3) lv st h v h') : zW y cc nL ret d mc ms pc lv (.int z :: .int x :: st) h v h' := by
  intro G p l e R s m args below meth c H locs cells slots ls C hR hS hl h1 h2 h3 h4
  exact lv_icmp_ge C.1 C.2.1 hd ht (fun q => kt q G p l e R s m args below meth c H locs cells slots ls C hR hS hl h1 h2 h3 h4) (fun q => kf q G p l e R s m args below meth c H locs cells slots ls C hR hS hl h1 h2 h3 h4)
theorem z_if_gt {x : Int32} {off : Int} (tgt : Nat) (hd : decode cc pc = .ok (.ifCond .gt off, 3)) (ht : (pc : Int) + off = (tgt : Int)) (kt : 0 < x → zW y cc nL ret d mc ms tgt lv st h v h') (kf : ¬ 0 < x → zW y cc nL ret d mc ms (pc + 3) lv st h v h') : zW y cc nL ret d mc ms pc lv (.int x :: st) h v h' := by
  intro G p l e R s m args below meth c H locs cells slots ls C hR hS hl h1 h2 h3 h4
  exact lv_if_gt C.1 C.2.1 hd ht (fun q => kt q G p l e R s m args below meth c H locs cells slots ls C hR hS hl h1 h2 h3 h4) (fun q => kf q G p l e R s m args below meth c H locs cells slots ls C hR hS hl h1 h2 h3 h4)
theorem z_icmp_gt {x z : Int32} {off : Int} (tgt : Nat) (hd : decode cc pc = .ok (.if_icmp .gt off, 3)) (ht : (pc : Int) + off = (tgt : Int)) (kt : z < x → zW y cc nL ret d mc ms tgt lv st h v h') (kf : ¬ z < x → zW y cc nL ret d mc ms (pc + 3) lv st h v h') : zW y cc nL ret d mc ms pc lv (.int z :: .int x :: st) h v h' := by
  intro G p l e R s m args below meth c H locs cells slots ls C hR hS hl h1 h2 h3 h4
  exact lv_icmp_gt C.1 C.2.1 hd ht (fun q => kt q G p l e R s m args below meth c H locs cells slots ls C hR hS hl h1 h2 h3 h4) (fun q => kf q G p l e R s m args below meth c H locs cells slots ls C hR hS hl h1 h2 h3 h4)
theorem z_if_le {x : Int32} {off : Int} (tgt : Nat) (hd : decode cc pc = .ok (.ifCond .le off, 3)) (ht : (pc : Int) + off = (tgt : Int)) (kt : x ≤ 0 → zW y cc nL ret d mc ms tgt lv st h v h') (kf : ¬ x ≤ 0 → zW y cc nL ret d mc ms (pc + 3) lv st h v h') : zW y cc nL ret d mc ms pc lv (.int x :: st) h v h' := by
  intro G p l e R s m args below meth c H locs cells slots ls C hR hS hl h1 h2 h3 h4
  exact lv_if_le C.1 C.2.1 hd ht (fun q => kt q G p l e R s m args below meth c H locs cells slots ls C hR hS hl h1 h2 h3 h4) (fun q => kf q G p l e R s m args below meth c H locs cells slots ls C hR hS hl h1 h2 h3 h4)
theorem z_icmp_le {x z : Int32} {off : Int} (tgt : Nat) (hd : decode cc pc = .ok (.if_icmp .le off, 3)) (ht : (pc : Int) + off = (tgt : Int)) (kt : x ≤ z → zW y cc nL ret d mc ms tgt lv st h v h') (kf : ¬ x ≤ z → zW y cc nL ret d mc ms (pc + 3) lv st h v h') : zW y cc nL ret d mc ms pc lv (.int z :: .int x :: st) h v h' := by
  intro G p l e R s m args below meth c H locs cells slots ls C hR hS hl h1 h2 h3 h4
  exact lv_icmp_le C.1 C.2.1 hd ht (fun q => kt q G p l e R s m args below meth c H locs cells slots ls C hR hS hl h1 h2 h3 h4) (fun q => kf q G p l e R s m args below meth c H locs cells slots ls C hR hS hl h1 h2 h3 h4)
theorem z_goto {off : Int} (tgt : Nat) (hd : decode cc pc = .ok (.goto off, 3)) (ht : (pc : Int) + off = (tgt : Int)) (k : zW y cc nL ret d mc ms tgt lv st h v h') : zW y cc nL ret d mc ms pc lv st h v h' := by
  intro G p l e R s m args below meth c H locs cells slots ls C hR hS hl h1 h2 h3 h4
  exact lv_goto C.1 C.2.1 hd ht (k G p l e R s m args below meth c H locs cells slots ls C hR hS hl h1 h2 h3 h4)
theorem z_ifnull {x : Option Nat} {off : Int} (tgt : Nat) (hd : decode cc pc = .ok (.ifnull off, 3)) (ht : (pc : Int) + off = (tgt : Int)) (kt : x = none → zW y cc nL ret d mc ms tgt lv st h v h') (kf : ∀ a, x = some a → zW y cc nL ret d mc ms (pc + 3) lv st h v h') : zW y cc nL ret d mc ms pc lv (va_rf x :: st) h v h' := by
  intro G p l e R s m args below meth c H locs cells slots ls C hR hS hl h1 h2 h3 h4
  cases x with
  | none => exact lv_ifnullN C.1 C.2.1 hd ht (kt rfl G p l e R s m args below meth c H locs cells slots ls C hR hS hl h1 h2 h3 h4)
  | some a => exact lv_ifnull C.1 C.2.1 hd (kf a rfl G p l e R s m args below meth c H locs cells slots ls C hR hS hl h1 h2 h3 h4)
theorem z_ifnonnull {x : Option Nat} {off : Int} (tgt : Nat) (hd : decode cc pc = .ok (.ifnonnull off, 3)) (ht : (pc : Int) + off = (tgt : Int)) (kt : ∀ a, x = some a → zW y cc nL ret d mc ms tgt lv st h v h') (kf : x = none → zW y cc nL ret d mc ms (pc + 3) lv st h v h') : zW y cc nL ret d mc ms pc lv (va_rf x :: st) h v h' := by
  intro G p l e R s m args below meth c H locs cells slots ls C hR hS hl h1 h2 h3 h4
  cases x with
  | none => exact lv_ifnonnullN C.1 C.2.1 hd (kf rfl G p l e R s m args below meth c H locs cells slots ls C hR hS hl h1 h2 h3 h4)
  | some a => exact lv_ifnonnull C.1 C.2.1 hd ht (kt a rfl G p l e R s m args below meth c H locs cells slots ls C hR hS hl h1 h2 h3 h4)
theorem z_lcmp {x z : Int64} (hd : decode cc pc = .ok (.lcmp, 1)) (k : zW y cc nL ret d mc ms (pc + 1) lv (.int (lg_cmp x z) :: st) h v h') : zW y cc nL ret d mc ms pc lv (.long z :: .long x :: st) h v h' := by
  intro G p l e R s m args below meth c H locs cells slots ls C hR hS hl h1 h2 h3 h4
  exact W.lcmp C.1 C.2.1 hd (k G p l e R s m args below meth c H locs cells slots ls C hR hS hl h1 h2 h3 h4)
theorem z_ldc {idx : Nat} {x : Int32} (hd : decode cc pc = .ok (.ldc idx, 2)) (hw : Cond.constant y.cls idx x ∈ zB) (k : zW y cc nL ret d mc ms (pc + 2) lv (.int x :: st) h v h') : zW y cc nL ret d mc ms pc lv st h v h' := by
  intro G p l e R s m args below meth c H locs cells slots ls C hR hS hl h1 h2 h3 h4
  exact lv_ldc C.1 C.2.1 C.2.2.2.1 (C.2.2.2.2.1 _ hw) hd (k G p l e R s m args below meth c H locs cells slots ls C hR hS hl h1 h2 h3 h4)
theorem z_ldcw {idx : Nat} {x : Int32} (hd : decode cc pc = .ok (.ldc_w idx, 3)) (hw : Cond.constant y.cls idx x ∈ zB) (k : zW y cc nL ret d mc ms (pc + 3) lv (.int x :: st) h v h') : zW y cc nL ret d mc ms pc lv st h v h' := by
  intro G p l e R s m args below meth c H locs cells slots ls C hR hS hl h1 h2 h3 h4
  exact lv_ldcw C.1 C.2.1 C.2.2.2.1 (C.2.2.2.2.1 _ hw) hd (k G p l e R s m args below meth c H locs cells slots ls C hR hS hl h1 h2 h3 h4)
theorem z_ldc2 {idx : Nat} {x : Int64} (hd : decode cc pc = .ok (.ldc2_w idx, 3)) (hw : Cond.constantLong y.cls idx x ∈ zB) (k : zW y cc nL ret d mc ms (pc + 3) lv (.long x :: st) h v h') : zW y cc nL ret d mc ms pc lv st h v h' := by
  intro G p l e R s m args below meth c H locs cells slots ls C hR hS hl h1 h2 h3 h4
  exact lv_ldc2 C.1 C.2.1 C.2.2.2.1 (C.2.2.2.2.1 _ hw) hd (k G p l e R s m args below meth c H locs cells slots ls C hR hS hl h1 h2 h3 h4)
theorem z_sub (qs : List Nat) {lv' : List (Nat × Value)} (hs : lv_pick lv qs = lv') (k : zW y cc nL ret d mc ms pc lv' st h v h') : zW y cc nL ret d mc ms pc lv st h v h' := by
  intro G p l e R s m args below meth c H locs cells slots ls C hR hS hl h1 h2 h3 h4
  exact k G p l e R s m args below meth c H locs cells slots ls C hR hS (lv_sub hl qs hs) h1 h2 h3 h4
theorem z_mono {d' mc' ms' : Nat} (hd : d' ≤ d) (hm : mc' ≤ mc) (hs : ms' ≤ ms) (k : zW y cc nL ret d' mc' ms' pc lv st h v h') : zW y cc nL ret d mc ms pc lv st h v h' := by
  intro G p l e R s m args below meth c H locs cells slots ls C hR hS hl h1 h2 h3 h4
  exact k G p l e R s m args below meth c H locs cells slots ls C hR hS hl (by omega) (by omega) (by omega) (by omega)
theorem z_ireturn {x : Int32} (hr : ret = some .int) (hd : decode cc pc = .ok (.ireturn, 1)) : zW y cc nL ret d mc ms pc lv [.int x] h (some (.int x)) h := by
  intro G p l e R s m args below meth c H locs cells slots ls C hR hS hl h1 h2 h3 h4
  refine W.widen (k := R.cells) (n := R.slots) (by omega) (by omega) ?_
  exact W.iret C.1 C.2.1 (C.2.2.2.2.2.1.trans hr) (fun t ht hW => ⟨rfl, by rw [ht]; exact hR, hS.F ht⟩) hS.2.2 hd (hlocks := C.2.2.2.2.2.2.1)
theorem z_lreturn {x : Int64} (hr : ret = some .long) (hd : decode cc pc = .ok (.lreturn, 1)) : zW y cc nL ret d mc ms pc lv [.long x] h (some (.long x)) h := by
  intro G p l e R s m args below meth c H locs cells slots ls C hR hS hl h1 h2 h3 h4
  refine W.widen (k := R.cells) (n := R.slots) (by omega) (by omega) ?_
  exact W.lret C.1 C.2.1 (C.2.2.2.2.2.1.trans hr) (fun t ht hW => ⟨rfl, by rw [ht]; exact hR, hS.F ht⟩) hS.2.2 hd (hlocks := C.2.2.2.2.2.2.1)
theorem z_zreturn {x : Int32} (hr : ret = some .boolean) (hd : decode cc pc = .ok (.ireturn, 1)) (hx : x = 0 ∨ x = 1) : zW y cc nL ret d mc ms pc lv [.int x] h (some (.int x)) h := by
  intro G p l e R s m args below meth c H locs cells slots ls C hR hS hl h1 h2 h3 h4
  refine W.widen (k := R.cells) (n := R.slots) (by omega) (by omega) ?_
  exact W.zret C.1 C.2.1 (C.2.2.2.2.2.1.trans hr) (by rcases hx with rfl | rfl <;> rfl) (fun t ht hW => ⟨rfl, by rw [ht]; exact hR, hS.F ht⟩) hS.2.2 hd (hlocks := C.2.2.2.2.2.2.1)
theorem z_areturn {x : Value} {rt : FieldType} (hr : ret = some rt) (hrt : (∃ n, rt = .object n) ∨ ∃ t, rt = .array t) (hx : x = .null ∨ ∃ a, x = .ref a) (hd : decode cc pc = .ok (.areturn, 1)) : zW y cc nL ret d mc ms pc lv [x] h (some x) h := by
  intro G p l e R s m args below meth c H locs cells slots ls C hR hS hl h1 h2 h3 h4
  refine W.widen (k := R.cells) (n := R.slots) (by omega) (by omega) ?_
  exact W.aret C.1 C.2.1 (C.2.2.2.2.2.1.trans hr) hrt hx (fun t ht hW => ⟨rfl, by rw [ht]; exact hR, hS.F ht⟩) hS.2.2 hd (hlocks := C.2.2.2.2.2.2.1)
theorem z_return (hr : ret = none) (hd : decode cc pc = .ok (.return_, 1)) : zW y cc nL ret d mc ms pc lv [] h none h := by
  intro G p l e R s m args below meth c H locs cells slots ls C hR hS hl h1 h2 h3 h4
  refine W.widen (k := R.cells) (n := R.slots) (by omega) (by omega) ?_
  exact W.vret C.1 C.2.1 (C.2.2.2.2.2.1.trans hr) (fun t ht hW => ⟨rfl, by rw [ht]; exact hR, hS.F ht⟩) hS.2.2 hd (hlocks := C.2.2.2.2.2.2.1)
end ZR
end
section
theorem zR.one {G : zG} {h : zH} {H : Heap} {a : Nat} {c : zE} (hR : zR G h H) (ha : h.2 a = some c) : va_P G.1 vwCl [(a, zcv G.2.1 c)] H := by
  intro k q hk
  have hz : k < 1 := (List.getElem?_eq_some_iff.mp hk).1
  rw [show k = 0 by omega] at hk
  cases hk
  exact (hR.2.2.2 a c ha).1
theorem zR.put {G : zG} {h : zH} {H H1 : Heap} {a : Nat} {c' : zE} (hR : zR G h H) (hb : G.2.2.1 ≤ a) (z : H1.size = H.size) (oq : ∀ q : Nat, q ≠ a → H1[q]? = H[q]?) (he : va_at G.1 vwCl (a, zcv G.2.1 c') H1) : zR G (zset h a c') H1 := by
  refine ⟨z.trans hR.1, hR.2.1, by rw [z]; exact hR.2.2.1, fun q c hq => ?_⟩
  by_cases hqa : q = a
  · subst hqa
    have hc : c' = c := by simpa [zset] using hq
    subst hc
    exact ⟨he, fun _ => hb⟩
  · have hq' : h.2 q = some c := by simpa [zset, hqa] using hq
    obtain ⟨h1, h2⟩ := hR.2.2.2 q c hq'
    exact ⟨h1.kept (oq q hqa), h2⟩
theorem zR.push {G : zG} {h : zH} {H H1 : Heap} {c' : zE} (hR : zR G h H) (z : H1.size = H.size + 1) (oq : ∀ q : Nat, q < H.size → H1[q]? = H[q]?) (he : va_at G.1 vwCl (H.size, zcv G.2.1 c') H1) : zR G (znew h c') H1 := by
  refine ⟨by rw [z, hR.1]; rfl, hR.2.1, by have := hR.2.2.1; omega, fun q c hq => ?_⟩
  by_cases hqa : q = h.1.1
  · subst hqa
    have hc : c' = c := by simpa [znew] using hq
    subst hc
    rw [← hR.1]
    exact ⟨he, fun _ => hR.2.2.1⟩
  · have hq' : h.2 q = some c := by simpa [znew, hqa] using hq
    obtain ⟨h1, h2⟩ := hR.2.2.2 q c hq'
    exact ⟨h1.kept (oq q h1.lt), h2⟩
/-! the small machine's own reads and writes -/
def gV (h : zH) (o ci k : Nat) : Option Value := match h.2 o with
  | some (.inr (c, fs)) => if c = ci then fs[k]? else none
  | _ => none
def vI (v : Value) : Option Int32 := match v with
  | .int x => some x
  | _ => none
def vL (v : Value) : Option Int64 := match v with
  | .long x => some x
  | _ => none
def vR (v : Value) : Option Nat := match v with
  | .ref x => some x
  | _ => none
def gI (h : zH) (o ci k : Nat) : Option Int32 := (gV h o ci k).bind vI
def gL (h : zH) (o ci k : Nat) : Option Int64 := (gV h o ci k).bind vL
def gR (h : zH) (o ci k : Nat) : Option Nat := (gV h o ci k).bind vR
def pF (h : zH) (o ci k : Nat) (v : Value) : Option zH := match h.2 o with
  | some (.inr (c, fs)) => if c = ci ∧ k < fs.length then some (zset h o (.inr (c, fs.set k v))) else none
  | _ => none
def pZ (h : zH) (o ci k : Nat) (x : Int32) : Option zH := if x = 0 ∨ x = 1 then pF h o ci k (.int x) else none
def aI (h : zH) (a : Nat) (i : Int32) : Option Int32 := match h.2 a with
  | some (.inl (t, n, .inl f)) => if (t = 0 ∨ t = 6) ∧ ¬ i < 0 ∧ i.toNatClampNeg < n then some (f i.toNatClampNeg) else none
  | _ => none
def aB (h : zH) (a : Nat) (i : Int32) : Option Int32 := match h.2 a with
  | some (.inl (t, n, .inl f)) => if t = 2 ∧ ¬ i < 0 ∧ i.toNatClampNeg < n then some (f i.toNatClampNeg) else none
  | _ => none
def aZ (h : zH) (a : Nat) (i : Int32) : Option Int32 := match h.2 a with
  | some (.inl (t, n, .inl f)) => if t = 3 ∧ ¬ i < 0 ∧ i.toNatClampNeg < n then some (f i.toNatClampNeg) else none
  | _ => none
def aL (h : zH) (a : Nat) (i : Int32) : Option Int64 := match h.2 a with
  | some (.inl (t, n, .inr (.inl f))) => if t = 1 ∧ ¬ i < 0 ∧ i.toNatClampNeg < n then some (f i.toNatClampNeg) else none
  | _ => none
def aQ (h : zH) (a : Nat) (i : Int32) : Option (Option Nat) := match h.2 a with
  | some (.inl (t, n, .inr (.inr (.inr (.inr f))))) => if (t = 4 ∨ t = 5) ∧ ¬ i < 0 ∧ i.toNatClampNeg < n then some (f i.toNatClampNeg) else none
  | _ => none
def aN (h : zH) (a : Nat) : Option Int32 := match h.2 a with
  | some (.inl (t, n, _)) => if t < 7 then some (Int32.ofNat n) else none
  | _ => none
def sI (h : zH) (a : Nat) (i x : Int32) : Option zH := match h.2 a with
  | some (.inl (t, n, .inl f)) => if t = 0 ∧ ¬ i < 0 ∧ i.toNatClampNeg < n then some (zset h a (.inl (t, n, .inl (upd f i.toNatClampNeg x)))) else none
  | _ => none
def sB (h : zH) (a : Nat) (i x : Int32) : Option zH := match h.2 a with
  | some (.inl (t, n, .inl f)) => if t = 2 ∧ ¬ i < 0 ∧ i.toNatClampNeg < n then some (zset h a (.inl (t, n, .inl (upd f i.toNatClampNeg (x.toInt8.toInt32))))) else none
  | _ => none
def sZ (h : zH) (a : Nat) (i x : Int32) : Option zH := match h.2 a with
  | some (.inl (t, n, .inl f)) => if t = 3 ∧ ¬ i < 0 ∧ i.toNatClampNeg < n ∧ (x = 0 ∨ x = 1) then some (zset h a (.inl (t, n, .inl (upd f i.toNatClampNeg x)))) else none
  | _ => none
def sL (h : zH) (a : Nat) (i : Int32) (x : Int64) : Option zH := match h.2 a with
  | some (.inl (t, n, .inr (.inl f))) => if t = 1 ∧ ¬ i < 0 ∧ i.toNatClampNeg < n then some (zset h a (.inl (t, n, .inr (.inl (vp_updL f i.toNatClampNeg x))))) else none
  | _ => none
def zob (h : zH) (o ci : Nat) : Bool := match h.2 o with
  | some (.inr (c, _)) => decide (c = ci)
  | _ => false
def sQ (h : zH) (a : Nat) (i : Int32) (x : Nat) : Option zH := match h.2 a with
  | some (.inl (t, n, .inr (.inr (.inr (.inr f))))) => if (t = 4 ∧ zob h x 6 = true ∨ t = 5 ∧ zob h x 4 = true) ∧ ¬ i < 0 ∧ i.toNatClampNeg < n then some (zset h a (.inl (t, n, .inr (.inr (.inr (.inr (va_up f i.toNatClampNeg (some x)))))))) else none
  | _ => none
/-- a new array of ints (tag 0), longs (1), bytes (2), booleans (3), references (4, 5) -/
def zblank (t : Nat) (n : Nat) : zE := if t = 1 then .inl (t, n, .inr (.inl (fun _ => 0))) else if t = 4 ∨ t = 5 then .inl (t, n, .inr (.inr (.inr (.inr (fun _ => none))))) else .inl (t, n, .inl (fun _ => 0))
/-! what the tables say of a class, of a field's link -/
def zCl (ci : Nat) (C : String) (T : u_T) (N : Nat) (ty : Nat → FieldType) : Prop := vwCl[ci]? = some (C, T, N) ∧ (∀ w ∈ u_ws C T N, w ∈ zB) ∧ (∀ k, k < N → parseFieldDescriptor (T k).2.2.1 = some (ty k)) ∧ (∀ a, a < N → ∀ b, b < N → a ≠ b → (T a).2.1 ≠ (T b).2.1)
def zFd (own : String) (idx ci k : Nat) (ty : FieldType) (fin : Bool) (dcl : String) : Prop := ∃ (C : String) (T : u_T) (N : Nat) (ty0 : Nat → FieldType), zCl ci C T N ty0 ∧ k < N ∧ Cond.fieldLink own idx (T k).1 (T k).2.1 (T k).2.2.1 ∈ zB ∧ ty0 k = ty ∧ (T k).2.2.2 = fin ∧ (T k).1 = dcl
theorem zFd.of {own : String} {idx ci k : Nat} {ty : FieldType} {fin : Bool} {dcl C : String} {T : u_T} {N : Nat} {ty0 : Nat → FieldType} (h : zCl ci C T N ty0) (hk : k < N) (hl : Cond.fieldLink own idx (T k).1 (T k).2.1 (T k).2.2.1 ∈ zB) (h1 : ty0 k = ty) (h2 : (T k).2.2.2 = fin) (h3 : (T k).1 = dcl) : zFd own idx ci k ty fin dcl := ⟨C, T, N, ty0, h, hk, hl, h1, h2, h3⟩
theorem zst_i (cA : ClassId) (n : Nat) (f : Nat → Int32) (k : Nat) (x : Int32) : (vp_cell cA (n, .inl f)).setSlot k (.int x) = vp_cell cA (n, .inl (upd f k x)) := by
  rw [vp_cell_i, vp_cell_i, arrV_store]
  congr 1
  funext q
  by_cases hq : q = k
  · subst hq
    simp [updV, upd]
  · simp [updV, upd, hq]
theorem zst_l (cA : ClassId) (n : Nat) (f : Nat → Int64) (k : Nat) (x : Int64) : (vp_cell cA (n, .inr (.inl f))).setSlot k (.long x) = vp_cell cA (n, .inr (.inl (vp_updL f k x))) := by
  rw [vp_cell_l, vp_cell_l, arrV_store]
  congr 1
  funext q
  by_cases hq : q = k
  · subst hq
    simp [updV, vp_updL]
  · simp [updV, vp_updL, hq]
theorem zst_q (cA : ClassId) (n : Nat) (f : Nat → Option Nat) (k : Nat) (x : Nat) : (vp_cell cA (n, .inr (.inr (.inr (.inr f))))).setSlot k (.ref x) = vp_cell cA (n, .inr (.inr (.inr (.inr (va_up f k (some x)))))) := by
  rw [vp_cell_q, vp_cell_q, arrV_store]
  congr 1
  funext q
  by_cases hq : q = k
  · subst hq
    simp [updV, va_up, va_rf]
  · simp [updV, va_up, hq]
section ZH
variable {y : MethodName} {cc : ByteArray} {nL : Nat} {ret : Option FieldType} {d mc ms pc : Nat} {lv : List (Nat × Value)} {st : List Value} {h : zH} {v : Option Value} {h' : zH}
theorem gV_spec {o ci k : Nat} {x : Value} (hg : gV h o ci k = some x) : ∃ fs, h.2 o = some (.inr (ci, fs)) ∧ fs[k]? = some x := by
  unfold gV at hg
  split at hg
  · rename_i c fs heq
    split at hg
    · rename_i hc
      subst hc
      exact ⟨fs, heq, hg⟩
    · cases hg
  · cases hg
theorem gI_spec {o ci k : Nat} {x : Int32} (hg : gI h o ci k = some x) : gV h o ci k = some (.int x) := by
  unfold gI at hg
  cases hv : gV h o ci k with
  | none => rw [hv] at hg; cases hg
  | some w =>
    rw [hv] at hg
    cases w <;> simp [vI] at hg
    subst hg; rfl
theorem gL_spec {o ci k : Nat} {x : Int64} (hg : gL h o ci k = some x) : gV h o ci k = some (.long x) := by
  unfold gL at hg
  cases hv : gV h o ci k with
  | none => rw [hv] at hg; cases hg
  | some w =>
    rw [hv] at hg
    cases w <;> simp [vL] at hg
    subst hg; rfl
theorem gR_spec {o ci k : Nat} {x : Nat} (hg : gR h o ci k = some x) : gV h o ci k = some (.ref x) := by
  unfold gR at hg
  cases hv : gV h o ci k with
  | none => rw [hv] at hg; cases hg
  | some w =>
    rw [hv] at hg
    cases w <;> simp [vR] at hg
    subst hg; rfl
theorem z_get {o ci k idx : Nat} {ty : FieldType} {fin : Bool} {dcl : String} {x : Value} (hd : decode cc pc = .ok (.getfield idx, 3)) (hf : zFd y.cls idx ci k ty fin dcl) (hg : gV h o ci k = some x) (kk : zW y cc nL ret d mc ms (pc + 3) lv (x :: st) h v h') : zW y cc nL ret d mc ms pc lv (.ref o :: st) h v h' := by
  obtain ⟨C9, T, N, ty0, ⟨hc, hw, -, -⟩, hk, hl9, -, -, -⟩ := hf
  obtain ⟨fs, ho, hx⟩ := gV_spec hg
  intro G p l e R s m args below meth c H locs cells slots ls C hR hS hl h1 h2 h3 h4
  exact va_get (C := C9) (T := T) (N := N) (ci := ci) C.1 C.2.1 C.2.2.2.2.1 hw C.2.2.2.1 C.2.2.2.2.2.2.2.2.1 (hR.one ho) 0 rfl hc k hk (C.2.2.2.2.1 _ hl9) (fun _ q => q) hx hd (kk G p l e R s m args below meth c H locs cells slots ls C hR hS hl h1 h2 h3 h4)
theorem z_getI {o ci k idx : Nat} {ty : FieldType} {fin : Bool} {dcl : String} {x : Int32} (hd : decode cc pc = .ok (.getfield idx, 3)) (hf : zFd y.cls idx ci k ty fin dcl) (hg : gI h o ci k = some x) (kk : zW y cc nL ret d mc ms (pc + 3) lv (.int x :: st) h v h') : zW y cc nL ret d mc ms pc lv (.ref o :: st) h v h' := z_get hd hf (gI_spec hg) kk
theorem z_getL {o ci k idx : Nat} {ty : FieldType} {fin : Bool} {dcl : String} {x : Int64} (hd : decode cc pc = .ok (.getfield idx, 3)) (hf : zFd y.cls idx ci k ty fin dcl) (hg : gL h o ci k = some x) (kk : zW y cc nL ret d mc ms (pc + 3) lv (.long x :: st) h v h') : zW y cc nL ret d mc ms pc lv (.ref o :: st) h v h' := z_get hd hf (gL_spec hg) kk
theorem z_getR {o ci k idx : Nat} {ty : FieldType} {fin : Bool} {dcl : String} {x : Nat} (hd : decode cc pc = .ok (.getfield idx, 3)) (hf : zFd y.cls idx ci k ty fin dcl) (hg : gR h o ci k = some x) (kk : zW y cc nL ret d mc ms (pc + 3) lv (.ref x :: st) h v h') : zW y cc nL ret d mc ms pc lv (.ref o :: st) h v h' := z_get hd hf (gR_spec hg) kk
theorem pF_spec {o ci k : Nat} {x : Value} {g : zH} (hg : pF h o ci k x = some g) : ∃ fs, h.2 o = some (.inr (ci, fs)) ∧ k < fs.length ∧ g = zset h o (.inr (ci, fs.set k x)) := by
  unfold pF at hg
  split at hg
  · rename_i c fs heq
    split at hg
    · rename_i hc
      obtain ⟨rfl, hl⟩ := hc
      cases hg
      exact ⟨fs, heq, hl, rfl⟩
    · cases hg
  · cases hg
theorem z_put {o ci k idx : Nat} {ty : FieldType} {dcl : String} {x : Value} {g : zH} (hd : decode cc pc = .ok (.putfield idx, 3)) (hf : zFd y.cls idx ci k ty false dcl) (hn : narrow ty x = x) (hfit : fits ty x = true) (hg : pF h o ci k x = some g) (kk : zW y cc nL ret d mc ms (pc + 3) lv st g v h') : zW y cc nL ret d mc ms pc lv (x :: .ref o :: st) h v h' := by
  obtain ⟨C9, T, N, ty0, ⟨hc, hw, hty, hnm⟩, hk, hl9, rfl, hfin, -⟩ := hf
  obtain ⟨fs, ho, hlen, rfl⟩ := pF_spec hg
  intro G p l e R s m args below meth c H locs cells slots ls C hR hS hl h1 h2 h3 h4
  have hts := C.2.2.2.2.1
  have hown := C.2.2.2.1
  have hK := C.2.2.2.2.2.2.2.2.1
  have hap := va_apart (own := y.cls) hts hw ty0 hty hnm hK hc
  obtain ⟨⟨r, g1, cell, q1, q2, q3, q4⟩, hwr⟩ := hR.2.2.2 o _ ho
  have hr : r = (C9, T, N) := Option.some.inj (g1.symm.trans hc)
  subst hr
  obtain ⟨hSl, hfc, kC, hkC, hkind⟩ := hK.1 ci _ hc
  obtain ⟨cf, kf, fi, f, hi, hsl⟩ := hSl k hk
  have hlay := hts _ (hw _ (u_in_lay hk))
  unfold u_lay at hlay
  rw [if_neg (by rw [hfin]; decide)] at hlay
  have hst := (u_facts hfc hkC (u_lays hts hw hk) hi).1
  have h6 := u_store hfc hkC hkind hlay hi (hty k hk) hn hfit
  refine W.putK C.1 C.2.1 (f := f) ⟨hown, hts _ hl9, ⟨_, _, _, hi⟩, hst⟩ (by rw [q2]; exact h6) q1 q3 (by rw [hsl]; exact k2_hasslot (q4 k hk)) rfl rfl hd fun H' e1 e2 e3 => ?_
  rw [hsl] at e1 ⊢
  refine kk G p l e R s m args below meth c H' _ cells slots ls C (hR.put (hwr trivial) e2 e3 ?_) (hS.put e2 e3 (hwr trivial)) hl h1 h2 h3 h4
  exact ⟨_, hc, t_OB.to (V := updV (vp_V fs) k x) ⟨_, e1, q2, q3, t_set q4 hap hk x⟩ (fun j _ => vp_updV_set hlen x j)⟩
theorem z_putF {o ci k idx : Nat} {ty : FieldType} {x : Value} {g : zH} (hd : decode cc pc = .ok (.putfield idx, 3)) (hf : zFd y.cls idx ci k ty true y.cls) (hini : y.name = "<init>") (hn : narrow ty x = x) (hfit : fits ty x = true) (hg : pF h o ci k x = some g) (kk : zW y cc nL ret d mc ms (pc + 3) lv st g v h') : zW y cc nL ret d mc ms pc lv (x :: .ref o :: st) h v h' := by
  obtain ⟨C9, T, N, ty0, ⟨hc, hw, hty, hnm⟩, hk, hl9, rfl, hfin, hdcl⟩ := hf
  obtain ⟨fs, ho, hlen, rfl⟩ := pF_spec hg
  intro G p l e R s m args below meth c H locs cells slots ls C hR hS hl h1 h2 h3 h4
  have hts := C.2.2.2.2.1
  have hown := C.2.2.2.1
  have hK := C.2.2.2.2.2.2.2.2.1
  have hap := va_apart (own := y.cls) hts hw ty0 hty hnm hK hc
  obtain ⟨⟨r, g1, cell, q1, q2, q3, q4⟩, hwr⟩ := hR.2.2.2 o _ ho
  have hr : r = (C9, T, N) := Option.some.inj (g1.symm.trans hc)
  subst hr
  obtain ⟨hSl, hfc, kC, hkC, hkind⟩ := hK.1 ci _ hc
  obtain ⟨cf, kf, fi, f, hi, hsl⟩ := hSl k hk
  have hlay := hts _ (hw _ (u_in_lay hk))
  unfold u_lay at hlay
  rw [if_pos hfin] at hlay
  have hst := (u_facts hfc hkC (u_lays hts hw hk) hi).1
  have hcf : m.cls = cf := by
    obtain ⟨_, _, c', _, _, _, -, -, hf', -, -, -, hown2, -⟩ := Cond.laysFinal_spec hlay
    have e1 : c' = cf := by have := hi.symm.trans hf'; simp at this; exact this.1.symm
    rw [hdcl] at hown2
    rw [← e1]; exact Option.some.inj (hown.symm.trans hown2)
  have h6 := u_fits hfc hkC hkind (Or.inr hlay) hi (hty k hk) hn hfit
  refine W.putFinK C.1 C.2.1 hown (hts _ hl9) hi hst hcf (C.2.2.2.2.2.2.2.1.trans hini) (by rw [q2]; exact h6) q1 q3 (by rw [hsl]; exact k2_hasslot (q4 k hk)) rfl rfl hd fun H' e1 e2 e3 => ?_
  rw [hsl] at e1 ⊢
  refine kk G p l e R s m args below meth c H' _ cells slots ls C (hR.put (hwr trivial) e2 e3 ?_) (hS.put e2 e3 (hwr trivial)) hl h1 h2 h3 h4
  exact ⟨_, hc, t_OB.to (V := updV (vp_V fs) k x) ⟨_, e1, q2, q3, t_set q4 hap hk x⟩ (fun j _ => vp_updV_set hlen x j)⟩
theorem zin {i : Int32} {n : Nat} (h0 : ¬ i < 0) (hl : i.toNatClampNeg < n) : vp_in i n := fun q => q.elim h0 (fun q => Nat.not_le.mpr hl q)
theorem z_iaload {a : Nat} {i x : Int32} (hd : decode cc pc = .ok (.iaload, 1)) (hg : aI h a i = some x) (kk : zW y cc nL ret d mc ms (pc + 1) lv (.int x :: st) h v h') : zW y cc nL ret d mc ms pc lv (.int i :: .ref a :: st) h v h' := by
  intro G p l e R s m args below meth c H locs cells slots ls C hR hS hl h1 h2 h3 h4
  unfold aI at hg
  split at hg
  · rename_i t n f heq
    split at hg
    · rename_i hc
      cases hg
      obtain ⟨rfl | rfl, h0, hlt⟩ := hc
      · exact va_iald C.1 C.2.1 C.2.2.2.2.2.2.2.2.1 (hR.one heq) 0 0 rfl rfl (zin h0 hlt) hd (kk G p l e R s m args below meth c H locs cells slots ls C hR hS hl h1 h2 h3 h4)
      · exact va_iald C.1 C.2.1 C.2.2.2.2.2.2.2.2.1 (hR.one heq) 0 6 rfl rfl (zin h0 hlt) hd (kk G p l e R s m args below meth c H locs cells slots ls C hR hS hl h1 h2 h3 h4)
    · cases hg
  · cases hg
theorem z_baload {a : Nat} {i x : Int32} (hd : decode cc pc = .ok (.baload, 1)) (hg : aB h a i = some x) (kk : zW y cc nL ret d mc ms (pc + 1) lv (.int x :: st) h v h') : zW y cc nL ret d mc ms pc lv (.int i :: .ref a :: st) h v h' := by
  intro G p l e R s m args below meth c H locs cells slots ls C hR hS hl h1 h2 h3 h4
  unfold aB at hg
  split at hg
  · rename_i t n f heq
    split at hg
    · rename_i hc
      cases hg
      obtain ⟨rfl, h0, hlt⟩ := hc
      exact va_bald C.1 C.2.1 C.2.2.2.2.2.2.2.2.1 (hR.one heq) 0 2 rfl rfl (zin h0 hlt) hd (kk G p l e R s m args below meth c H locs cells slots ls C hR hS hl h1 h2 h3 h4)
    · cases hg
  · cases hg
theorem z_zaload {a : Nat} {i x : Int32} (hd : decode cc pc = .ok (.baload, 1)) (hg : aZ h a i = some x) (kk : zW y cc nL ret d mc ms (pc + 1) lv (.int x :: st) h v h') : zW y cc nL ret d mc ms pc lv (.int i :: .ref a :: st) h v h' := by
  intro G p l e R s m args below meth c H locs cells slots ls C hR hS hl h1 h2 h3 h4
  unfold aZ at hg
  split at hg
  · rename_i t n f heq
    split at hg
    · rename_i hc
      cases hg
      obtain ⟨rfl, h0, hlt⟩ := hc
      exact va_zald C.1 C.2.1 C.2.2.2.2.2.2.2.2.1 (hR.one heq) 0 3 rfl rfl (zin h0 hlt) hd (kk G p l e R s m args below meth c H locs cells slots ls C hR hS hl h1 h2 h3 h4)
    · cases hg
  · cases hg
theorem z_laload {a : Nat} {i : Int32} {x : Int64} (hd : decode cc pc = .ok (.laload, 1)) (hg : aL h a i = some x) (kk : zW y cc nL ret d mc ms (pc + 1) lv (.long x :: st) h v h') : zW y cc nL ret d mc ms pc lv (.int i :: .ref a :: st) h v h' := by
  intro G p l e R s m args below meth c H locs cells slots ls C hR hS hl h1 h2 h3 h4
  unfold aL at hg
  split at hg
  · rename_i t n f heq
    split at hg
    · rename_i hc
      cases hg
      obtain ⟨rfl, h0, hlt⟩ := hc
      exact va_lald C.1 C.2.1 C.2.2.2.2.2.2.2.2.1 (hR.one heq) 0 1 rfl rfl (zin h0 hlt) hd (kk G p l e R s m args below meth c H locs cells slots ls C hR hS hl h1 h2 h3 h4)
    · cases hg
  · cases hg
theorem z_aaload {a : Nat} {i : Int32} {x : Option Nat} (hd : decode cc pc = .ok (.aaload, 1)) (hg : aQ h a i = some x) (kk : zW y cc nL ret d mc ms (pc + 1) lv (va_rf x :: st) h v h') : zW y cc nL ret d mc ms pc lv (.int i :: .ref a :: st) h v h' := by
  intro G p l e R s m args below meth c H locs cells slots ls C hR hS hl h1 h2 h3 h4
  unfold aQ at hg
  split at hg
  · rename_i t n f heq
    split at hg
    · rename_i hc
      cases hg
      obtain ⟨rfl | rfl, h0, hlt⟩ := hc
      · exact va_aldq C.1 C.2.1 C.2.2.2.2.2.2.2.2.1 (hR.one heq) 0 4 rfl rfl (zin h0 hlt) hd (kk G p l e R s m args below meth c H locs cells slots ls C hR hS hl h1 h2 h3 h4)
      · exact va_aldq C.1 C.2.1 C.2.2.2.2.2.2.2.2.1 (hR.one heq) 0 5 rfl rfl (zin h0 hlt) hd (kk G p l e R s m args below meth c H locs cells slots ls C hR hS hl h1 h2 h3 h4)
    · cases hg
  · cases hg
theorem z_alen {a : Nat} {x : Int32} (hd : decode cc pc = .ok (.arraylength, 1)) (hg : aN h a = some x) (kk : zW y cc nL ret d mc ms (pc + 1) lv (.int x :: st) h v h') : zW y cc nL ret d mc ms pc lv (.ref a :: st) h v h' := by
  intro G p l e R s m args below meth c H locs cells slots ls C hR hS hl h1 h2 h3 h4
  unfold aN at hg
  split at hg
  · rename_i t n f heq
    split at hg
    · rename_i hc
      cases hg
      have hh : ∃ ty, (zT G.2.1)[t]? = some (G.2.1 t, ty) := by
        match t, hc with
        | 0, _ => exact ⟨_, rfl⟩
        | 1, _ => exact ⟨_, rfl⟩
        | 2, _ => exact ⟨_, rfl⟩
        | 3, _ => exact ⟨_, rfl⟩
        | 4, _ => exact ⟨_, rfl⟩
        | 5, _ => exact ⟨_, rfl⟩
        | 6, _ => exact ⟨_, rfl⟩
        | t + 7, hc => omega
      obtain ⟨ty, hty⟩ := hh
      exact va_alen C.1 C.2.1 C.2.2.2.2.2.2.2.2.1 (hR.one heq) 0 t rfl hty rfl hd (kk G p l e R s m args below meth c H locs cells slots ls C hR hS hl h1 h2 h3 h4)
    · cases hg
  · cases hg
theorem z_iastore {a : Nat} {i x : Int32} {g : zH} (hd : decode cc pc = .ok (.iastore, 1)) (hg : sI h a i x = some g) (kk : zW y cc nL ret d mc ms (pc + 1) lv st g v h') : zW y cc nL ret d mc ms pc lv (.int x :: .int i :: .ref a :: st) h v h' := by
  intro G p l e R s m args below meth c H locs cells slots ls C hR hS hl h1 h2 h3 h4
  unfold sI at hg
  split at hg
  · rename_i t n f heq
    split at hg
    · rename_i hc
      cases hg
      obtain ⟨rfl, h0, hlt⟩ := hc
      obtain ⟨he, hwr⟩ := hR.2.2.2 a _ heq
      have hb := hwr (by show (0 : Nat) ≠ 6; decide)
      refine W.iast C.1 C.2.1 he ((C.2.2.2.2.2.2.2.2.1.2 0 _ rfl).1 n (fun j => .int (f j))) (fun q => by cases q) (by show ¬ (i < 0 ∨ (arrV _ _ _).slots.size ≤ _); rw [arrV_size]; exact zin h0 hlt) rfl rfl hd fun H1 e1 z oq => ?_
      refine kk G p l e R s m args below meth c H1 _ cells slots ls C (hR.put hb z oq ?_) (hS.put z oq hb) hl h1 h2 h3 h4
      exact e1.trans (congrArg some (zst_i _ _ _ _ _))
    · cases hg
  · cases hg
theorem z_lastore {a : Nat} {i : Int32} {x : Int64} {g : zH} (hd : decode cc pc = .ok (.lastore, 1)) (hg : sL h a i x = some g) (kk : zW y cc nL ret d mc ms (pc + 1) lv st g v h') : zW y cc nL ret d mc ms pc lv (.long x :: .int i :: .ref a :: st) h v h' := by
  intro G p l e R s m args below meth c H locs cells slots ls C hR hS hl h1 h2 h3 h4
  unfold sL at hg
  split at hg
  · rename_i t n f heq
    split at hg
    · rename_i hc
      cases hg
      obtain ⟨rfl, h0, hlt⟩ := hc
      obtain ⟨he, hwr⟩ := hR.2.2.2 a _ heq
      have hb := hwr (by show (1 : Nat) ≠ 6; decide)
      refine W.last C.1 C.2.1 he ((C.2.2.2.2.2.2.2.2.1.2 1 _ rfl).1 n (fun j => .long (f j))) (fun q => by cases q) (by show ¬ (i < 0 ∨ (arrV _ _ _).slots.size ≤ _); rw [arrV_size]; exact zin h0 hlt) rfl rfl hd fun H1 e1 z oq => ?_
      refine kk G p l e R s m args below meth c H1 _ cells slots ls C (hR.put hb z oq ?_) (hS.put z oq hb) hl h1 h2 h3 h4
      exact e1.trans (congrArg some (zst_l _ _ _ _ _))
    · cases hg
  · cases hg
theorem z_bastore {a : Nat} {i x : Int32} {g : zH} (hd : decode cc pc = .ok (.bastore, 1)) (hg : sB h a i x = some g) (kk : zW y cc nL ret d mc ms (pc + 1) lv st g v h') : zW y cc nL ret d mc ms pc lv (.int x :: .int i :: .ref a :: st) h v h' := by
  intro G p l e R s m args below meth c H locs cells slots ls C hR hS hl h1 h2 h3 h4
  unfold sB at hg
  split at hg
  · rename_i t n f heq
    split at hg
    · rename_i hc
      cases hg
      obtain ⟨rfl, h0, hlt⟩ := hc
      obtain ⟨he, hwr⟩ := hR.2.2.2 a _ heq
      have hb := hwr (by show (2 : Nat) ≠ 6; decide)
      refine W.bast C.1 C.2.1 he ((C.2.2.2.2.2.2.2.2.1.2 2 _ rfl).1 n (fun j => .int (f j))) (fun q => by cases q) (by show ¬ (i < 0 ∨ (arrV _ _ _).slots.size ≤ _); rw [arrV_size]; exact zin h0 hlt) rfl rfl hd fun H1 e1 z oq => ?_
      refine kk G p l e R s m args below meth c H1 _ cells slots ls C (hR.put hb z oq ?_) (hS.put z oq hb) hl h1 h2 h3 h4
      exact e1.trans (congrArg some (zst_i _ _ _ _ _))
    · cases hg
  · cases hg
theorem z_zastore {a : Nat} {i x : Int32} {g : zH} (hd : decode cc pc = .ok (.bastore, 1)) (hg : sZ h a i x = some g) (kk : zW y cc nL ret d mc ms (pc + 1) lv st g v h') : zW y cc nL ret d mc ms pc lv (.int x :: .int i :: .ref a :: st) h v h' := by
  intro G p l e R s m args below meth c H locs cells slots ls C hR hS hl h1 h2 h3 h4
  unfold sZ at hg
  split at hg
  · rename_i t n f heq
    split at hg
    · rename_i hc
      cases hg
      obtain ⟨rfl, h0, hlt, hx⟩ := hc
      obtain ⟨he, hwr⟩ := hR.2.2.2 a _ heq
      have hb := hwr (by show (3 : Nat) ≠ 6; decide)
      refine W.zast C.1 C.2.1 he ((C.2.2.2.2.2.2.2.2.1.2 3 _ rfl).1 n (fun j => .int (f j))) (fun q => by cases q) (by show ¬ (i < 0 ∨ (arrV _ _ _).slots.size ≤ _); rw [arrV_size]; exact zin h0 hlt) rfl rfl hd fun H1 e1 z oq => ?_
      refine kk G p l e R s m args below meth c H1 _ cells slots ls C (hR.put hb z oq ?_) (hS.put z oq hb) hl h1 h2 h3 h4
      have hnx : narrow .boolean (.int x) = .int x := by rcases hx with rfl | rfl <;> rfl
      rw [hnx] at e1
      exact e1.trans (congrArg some (zst_i _ _ _ _ _))
    · cases hg
  · cases hg
theorem zob_spec {o ci : Nat} (hz : zob h o ci = true) : ∃ fs, h.2 o = some (.inr (ci, fs)) := by
  unfold zob at hz
  split at hz
  · rename_i c fs heq
    have : c = ci := by simpa using hz
    subst this
    exact ⟨_, heq⟩
  · cases hz
theorem z_aastore {a : Nat} {i : Int32} {x : Nat} {g : zH} (hd : decode cc pc = .ok (.aastore, 1)) (hg : sQ h a i x = some g) (kk : zW y cc nL ret d mc ms (pc + 1) lv st g v h') : zW y cc nL ret d mc ms pc lv (.ref x :: .int i :: .ref a :: st) h v h' := by
  intro G p l e R s m args below meth c H locs cells slots ls C hR hS hl h1 h2 h3 h4
  unfold sQ at hg
  split at hg
  · rename_i t n f heq
    split at hg
    · rename_i hc
      cases hg
      obtain ⟨hc, h0, hlt⟩ := hc
      obtain ⟨he, hwr⟩ := hR.2.2.2 a _ heq
      have hb : G.2.2.1 ≤ a := hwr (by show t ≠ 6; rcases hc with ⟨rfl, _⟩ | ⟨rfl, _⟩ <;> decide)
      have hh : ∃ (ci : Nat) (r : vw_C) (fs : List Value), vwCl[ci]? = some r ∧ h.2 x = some (.inr (ci, fs)) ∧ (zT G.2.1)[t]? = some (G.2.1 t, .object r.1) := by
        rcases hc with ⟨rfl, hz⟩ | ⟨rfl, hz⟩
        · obtain ⟨fs, hz⟩ := zob_spec hz
          exact ⟨6, _, fs, rfl, hz, rfl⟩
        · obtain ⟨fs, hz⟩ := zob_spec hz
          exact ⟨4, _, fs, rfl, hz, rfl⟩
      obtain ⟨ci, r, fs, hcl, hx, hty⟩ := hh
      have hK := C.2.2.2.2.2.2.2.2.1
      obtain ⟨⟨r', hr', cellV, g1, g2, g3, -⟩, -⟩ := hR.2.2.2 x _ hx
      have hcls := (hK.1 ci r hcl).2
      obtain ⟨kA, comp, k1, k2, k3, -⟩ := (hK.2 t _ hty).2
      have hcomp : comp = G.1.1 ci := Option.some.inj (k3.symm.trans hcls.1)
      subst hcomp
      obtain ⟨kC, hkC, -⟩ := hcls.2
      refine W.aast C.1 C.2.1 he (fun q h => by cases h) (fun h => by cases h) k1 k2 rfl hkC ⟨h0, by show _ < (arrV _ _ _).slots.size; rw [arrV_size]; exact hlt⟩ g1 (fun q h => by rw [g3] at h; cases h) (by rw [g2]; exact hkC) (by rw [g2]; exact va_assign hcls) rfl rfl hd fun H1 e1 z oq => ?_
      refine kk G p l e R s m args below meth c H1 _ cells slots ls C (hR.put hb z oq ?_) (hS.put z oq hb) hl h1 h2 h3 h4
      exact e1.trans (congrArg some (zst_q _ _ _ _ _))
    · cases hg
  · cases hg
end ZH
end
section
section ZN
variable {y : MethodName} {cc : ByteArray} {nL : Nat} {ret : Option FieldType} {d mc ms pc : Nat} {lv : List (Nat × Value)} {st : List Value} {h : zH} {v : Option Value} {h' : zH}
theorem z_new {ci idx N : Nat} {C9 : String} {T : u_T} {ty0 : Nat → FieldType} (fs : List Value) (hd : decode cc pc = .ok (.new idx, 3)) (hc : zCl ci C9 T N ty0) (hl1 : Cond.classLink y.cls idx C9 ∈ zB) (hl2 : Cond.instantiable C9 N ∈ zB) (hl3 : Cond.initialized C9 ∈ zB) (hfs : ∀ j, j < N → defaultValue (ty0 j) = vp_V fs j)
    (kk : zW y cc nL ret d mc ms (pc + 3) lv (.ref h.1.1 :: st) (znew h (.inr (ci, fs))) v h') : zW y cc nL ret d (mc + 1) (ms + N) pc lv st h v h' := by
  obtain ⟨hc, hw, hty, hnm⟩ := hc
  intro G p l e R s m args below meth c H locs cells slots ls C hR hS hl h1 h2 h3 h4
  have hts := C.2.2.2.2.1
  have hKn := C.2.2.2.2.2.2.2.2.1.1 ci _ hc
  refine W.newcK C.1 C.2.1 C.2.2.2.1 (hts _ hl1) (hts _ hl2) (hts _ hl3) rfl hd (by omega) (by omega) hKn.2.1 hR.1 fun H1 kC hkC e1 z1 o1 => ?_
  rw [← hR.1] at e1 z1 o1
  refine kk G p l e R s m args below meth c H1 locs (cells + 1) (slots + N) ls C (hR.push z1 o1 ?_) ⟨Nat.le_trans hS.1 (by omega), fun x q1 q2 => (o1 x (Nat.lt_of_lt_of_le q1 hS.1)).trans (hS.2.1 x q1 q2), hS.2.2⟩ hl h1 h2 (by omega) (by omega)
  exact ⟨_, hc, (u_born ty0 hts hw hKn hkC e1 hty).to hfs⟩
def zaty (t : Nat) : FieldType := match t with
  | 0 => .int
  | 1 => .long
  | 2 => .byte
  | _ => .boolean
theorem z_newarray {atype : ArrayType} {n : Int32} {N : Nat} (t : Nat) (ht : t < 4) (hd : decode cc pc = .ok (.newarray atype, 2)) (hty : newarray.typeOf atype = zaty t) (hw : Cond.arrayClass (zaty t) ∈ zB) (h0 : ¬ n < 0) (hN : n.toNatClampNeg = N) (hb : N ≤ 60000000)
    (kk : zW y cc nL ret d mc ms (pc + 2) lv (.ref h.1.1 :: st) (znew h (zblank t N)) v h') : zW y cc nL ret d (mc + 1) (ms + N) pc lv (.int n :: st) h v h' := by
  intro G p l e R s m args below meth c H locs cells slots ls C hR hS hl h1 h2 h3 h4
  have hts := C.2.2.2.2.1
  have hK := C.2.2.2.2.2.2.2.2.1
  have hby : componentBytes (newarray.typeOf atype) ≤ 8 := by rw [hty]; match t, ht with
    | 0, _ => decide
    | 1, _ => decide
    | 2, _ => decide
    | 3, _ => decide
  refine va_newaK C.1 C.2.1 (by rw [hty]; exact hts _ hw) rfl hd rfl h0 hN (Nat.le_trans (Nat.mul_le_mul hb hby) (by decide)) (by omega) (by omega) hR.1 fun H1 cA e1 z1 o1 hAr hNm => ?_
  rw [hty] at e1 hAr hNm
  rw [← hR.1] at e1 z1 o1
  have hcA : cA = G.2.1 t := by
    have hh : (zT G.2.1)[t]? = some (G.2.1 t, zaty t) := by match t, ht with
      | 0, _ => rfl
      | 1, _ => rfl
      | 2, _ => rfl
      | 3, _ => rfl
    have h9 := (hK.2 t _ hh).2
    match t, ht, h9, hNm with
    | 0, _, h9, hNm => exact Option.some.inj (hNm.symm.trans h9)
    | 1, _, h9, hNm => exact Option.some.inj (hNm.symm.trans h9)
    | 2, _, h9, hNm => exact Option.some.inj (hNm.symm.trans h9)
    | 3, _, h9, hNm => exact Option.some.inj (hNm.symm.trans h9)
  subst hcA
  refine kk G p l e R s m args below meth c H1 locs (cells + 1) (slots + N) ls C (hR.push z1 o1 ?_) ⟨Nat.le_trans hS.1 (by omega), fun x q1 q2 => (o1 x (Nat.lt_of_lt_of_le q1 hS.1)).trans (hS.2.1 x q1 q2), hS.2.2⟩ hl h1 h2 (by omega) (by omega)
  match t, ht, e1 with
  | 0, _, e1 => exact e1
  | 1, _, e1 => exact e1
  | 2, _, e1 => exact e1
  | 3, _, e1 => exact e1
theorem z_anewarray {C9 : String} {idx : Nat} {n : Int32} {N : Nat} (t : Nat) (ht : (t = 4 ∧ C9 = "WhoseStreet$Meeting") ∨ (t = 5 ∧ C9 = "WhoseStreet$Law")) (hd : decode cc pc = .ok (.anewarray idx, 3)) (hl1 : Cond.classLink y.cls idx C9 ∈ zB) (h0 : ¬ n < 0) (hN : n.toNatClampNeg = N) (hb : N ≤ 60000000)
    (kk : zW y cc nL ret d mc ms (pc + 3) lv (.ref h.1.1 :: st) (znew h (zblank t N)) v h') : zW y cc nL ret d (mc + 1) (ms + N) pc lv (.int n :: st) h v h' := by
  intro G p l e R s m args below meth c H locs cells slots ls C hR hS hl h1 h2 h3 h4
  have hts := C.2.2.2.2.1
  have hK := C.2.2.2.2.2.2.2.2.1
  have hX := C.2.2.2.2.2.2.2.2.2.1
  have hov : va_AO C9 s := by
    rcases ht with ⟨-, rfl⟩ | ⟨-, rfl⟩
    · exact hX.2.1
    · exact hX.2.2.1
  refine W.anew C.1 C.2.1 C.2.2.2.1 (hts _ hl1) (va_AO.use hov) rfl hd rfl h0 (by rw [hN]; omega) (by omega) (by rw [hN]; omega) fun cA kA comp f1 f2 f3 f4 => ?_
  rw [hN]
  generalize hH1 : H.push ({ cls := cA, slots := Array.replicate N .null, vm := .none } : Cell) = H1
  have z1 : H1.size = H.size + 1 := by rw [← hH1, Array.size_push]
  have e1 : H1[H.size]? = some (arrV cA N (fun _ => .null)) := by rw [← hH1, Array.getElem?_push_size, ← arrV_new]
  have o1 : ∀ q : Nat, q < H.size → H1[q]? = H[q]? := fun q hq => by rw [← hH1, Array.getElem?_push, if_neg (Nat.ne_of_lt hq)]
  have hcA : cA = G.2.1 t := by
    rcases ht with ⟨rfl, rfl⟩ | ⟨rfl, rfl⟩
    · obtain ⟨_, _, _, _, _, g⟩ := (hK.2 4 _ rfl).2
      exact Option.some.inj (f1.symm.trans g)
    · obtain ⟨_, _, _, _, _, g⟩ := (hK.2 5 _ rfl).2
      exact Option.some.inj (f1.symm.trans g)
  subst hcA
  rw [hR.1]
  refine kk G p l e R s m args below meth c H1 locs (cells + 1) (slots + N) ls C (hR.push z1 o1 ?_) ⟨Nat.le_trans hS.1 (by omega), fun x q1 q2 => (o1 x (Nat.lt_of_lt_of_le q1 hS.1)).trans (hS.2.1 x q1 q2), hS.2.2⟩ hl h1 h2 (by omega) (by omega)
  rcases ht with ⟨rfl, rfl⟩ | ⟨rfl, rfl⟩ <;> exact e1
theorem z_brakes {idx : Nat} (hd : decode cc pc = .ok (.getstatic idx, 3)) (hl1 : Cond.fieldLink y.cls idx "WhoseStreet$Ride" "BRAKES" "[I" ∈ zB) (kk : zW y cc nL ret d mc ms (pc + 3) lv (.ref (h.1.2 0) :: st) h v h') : zW y cc nL ret d mc ms pc lv st h v h' := by
  intro G p l e R s m args below meth c H locs cells slots ls C hR hS hl h1 h2 h3 h4
  have hX := C.2.2.2.2.2.2.2.2.2.1
  refine va_gets C.1 C.2.1 (v := .ref (h.1.2 0)) (by rw [← hR.2.1]; exact hX.2.2.2) hS C.2.2.2.1 (C.2.2.2.2.1 _ hl1) (fun _ q => q) hd (kk G p l e R s m args below meth c H locs cells slots ls C hR hS hl h1 h2 h3 h4)
theorem z_objInit {a idx : Nat} (hd : decode cc pc = .ok (.invokespecial idx, 3)) (hl1 : Cond.methodLink y.cls idx objectInit ∈ zB) (hl2 : Cond.instanceMethod objectInit ∈ zB) (hl3 : Cond.code objectInit ⟨#[0xb1]⟩ 1 none ∈ zB) (hdd : 1 ≤ d) (hst : (st.map fun v => v.category).sum ≤ 8)
    (kk : zW y cc nL ret d mc ms (pc + 3) lv st h v h') : zW y cc nL ret d mc ms pc lv (.ref a :: st) h v h' := by
  intro G p l e R s m args below meth c H locs cells slots ls C hR hS hl h1 h2 h3 h4
  have hts := C.2.2.2.2.1
  refine W.objInit C.1 C.2.1 C.2.2.2.1 (hts _ hl1) (hts _ hl2) (hts _ hl3) rfl (by rw [C.2.2.1]; exact hl.1) rfl hd (by omega) (by show 2 * 0 + _ + 12 ≤ _; omega) ?_
  exact kk G p l e R s m args below meth c H locs cells slots ls C hR hS hl h1 h2 h3 h4
theorem z_mmax {idx : Nat} {x z : Int32} (hd : decode cc pc = .ok (.invokestatic idx, 3)) (hl1 : Cond.methodLink y.cls idx Lib.Math.max.name ∈ zB) (hl2 : Cond.static Lib.Math.max.name ∈ zB) (hl3 : Cond.initialized "java/lang/Math" ∈ zB) (hl4 : Cond.code Lib.Math.max.name Lib.Math.max.code 2 (some .int) ∈ zB) (hdd : 1 ≤ d) (hst : (st.map fun v => v.category).sum ≤ 8)
    (kk : zW y cc nL ret d mc ms (pc + 3) lv (.int (if x < z then z else x) :: st) h v h') : zW y cc nL ret d mc ms pc lv (.int z :: .int x :: st) h v h' := by
  intro G p l e R s m args below meth c H locs cells slots ls C hR hS hl h1 h2 h3 h4
  have hts := C.2.2.2.2.1
  refine va_mmax C.1 C.2.1 (by rw [C.2.2.1]; exact hl.1.symm) C.2.2.2.1 (hts _ hl1) (hts _ hl2) (hts _ hl3) (hts _ hl4) (by omega) (by omega) (by omega) (by omega) hd ?_
  exact kk G p l e R s m args below meth c H locs cells slots ls C hR hS hl h1 h2 h3 h4
/-! calls -/
theorem zPc_blind {G : zG} {av : List Value} {h : zH} : FrameBlind (zPc G av h) := fun a U g mk q => by
  obtain ⟨q0, q1, q2, q3⟩ := q
  exact ⟨q0, q1, va_K.moved (u := U) (U := U.calling g mk a) (Vm.Alike.refl U.vm) q2, fun w hm => va_Nw.same rfl (u := U) (U := U.calling g mk a) rfl (q3.1 w hm), va_AO.moved (u := U) (U := U.calling g mk a) (Vm.Alike.refl U.vm) q3.2.1, va_AO.moved (u := U) (U := U.calling g mk a) (Vm.Alike.refl U.vm) q3.2.2.1, va_Z.moved (u := U) (U := U.calling g mk a) (Vm.Alike.refl U.vm) q3.2.2.2⟩
theorem zPc_pre {G : zG} {av : List Value} {h : zH} {s : State} {H : Heap} {locs : List Loc} (hR : zR G h H) (hK : zK G s) (hX : zX G s s.heap) (hS : va_S (fun q => G.2.2.1 ≤ q) s.heap H locs) : ∀ U : State, U.heap = H → s.WarmedH U.vm → zPc G av h av.toArray U := fun U hU hW =>
  ⟨rfl, by rw [hU]; exact hR, va_K.moved hW.alike hK, hX.moved hW (by rw [hU]; exact fun a q1 q2 => hS.2.1 a q1 q2)⟩
/-- behind a call -/
theorem zgo {G : zG} {p : Program} {l : Launch} {e : Env} {R : Room} {s : State} {m : MethodId} {args a : Array Value} {below : List Frame} {meth : Method} {c : Code} {H : Heap} {locs : List Loc} {cells slots mc' ms' : Nat} {ls : Array Slot} {st0 rest : List Value} {v1 : Option Value} {h1 : zH} {Q : State → Prop}
    (hr : va_Run p l e R s m args below meth c H locs cells slots mc' ms' (F0 m pc ls st0) rest (zQ G v1 h1 a) (fun q => G.2.2.1 ≤ q)) (hS : va_S (fun q => G.2.2.1 ≤ q) s.heap H locs)
    (kk : ∀ (H1 : Heap) (locs1 : List Loc), zR G h1 H1 → va_S (fun q => G.2.2.1 ≤ q) s.heap H1 locs1 → W p l e R s m args below meth c H1 locs1 (cells + mc') (slots + ms') Q (F0 m (pc + 3) ls (v1.toList ++ rest))) : W p l e R s m args below meth c H locs cells slots Q (F0 m pc ls st0) := by
  intro T hT X
  obtain ⟨v2, st₀, t, T', L, g0, X', hL, e1, e2, ⟨hv, hR1, hz, hk⟩, st9⟩ := hr T hT X
  cases hv
  rw [g0] at hz hk
  obtain ⟨t2, a1, b1⟩ := kk T'.heap (locs ++ L) (by rw [e1]; exact hR1) ⟨Nat.le_trans hS.1 (by rw [e1]; exact hz), fun q q1 q2 => by rw [e1, hk q (Nat.lt_of_lt_of_le q1 hS.1) q2]; exact hS.2.1 q q1 q2, fun q hq => (List.mem_append.mp hq).elim (hS.2.2 q) (hL q)⟩ T' rfl X'
  exact ⟨t2, st9 t2 a1, b1⟩
/-- what a call of x needs of the tables: the code's word is there; x's class initialised; so many arguments -/
def zMd (x : MethodName) (cx : ByteArray) (nX n : Nat) (rx : Option FieldType) : Prop := Cond.code x cx nX rx ∈ zB ∧ Cond.initialized x.cls ∈ zB ∧ x.cls ≠ "java/lang/invoke/MethodHandle" ∧ x.cls ≠ "java/lang/invoke/VarHandle" ∧ (parseMethodDescriptor x.desc).map (fun d => d.parameters.length) = some n ∧ nX ≤ 21
theorem z_callS {x : MethodName} {cx : ByteArray} {nX n idx : Nat} {rx : Option FieldType} (As : List Value) {rest : List Value} {d' mc' ms' : Nat} {v1 : Option Value} {h1 : zH} (hd : decode cc pc = .ok (.invokestatic idx, 3)) (hm : zMd x cx nX n rx) (hl1 : Cond.methodLink y.cls idx x ∈ zB) (hl2 : Cond.static x ∈ zB) (hn : As.length = n) (hst : st = As.reverse ++ rest) (hrs : (rest.map fun v => v.category).sum ≤ 8) (hdd : d' + 1 ≤ d) (K : zOk d' mc' ms' x cx nX rx As h v1 h1)
    (kk : zW y cc nL ret d mc ms (pc + 3) lv (v1.toList ++ rest) h1 v h') : zW y cc nL ret d (mc + mc') (ms + ms') pc lv st h v h' := by
  subst hst
  obtain ⟨hcd, hini, hy1, hy2, hpar, hnX⟩ := hm
  intro G p l e R s m args below meth c H locs cells slots ls C hR hS hl g1 g2 g3 g4
  have hts := C.2.2.2.2.1
  have hcb : CallB R s args y.cls idx x cx nX rx (zws x cx nX rx) { frames := d', cells := mc', slots := ms', locals := 40 * d' } mc' ms' n := callB_of (ret := rx) n hts (zws_in hcd) rfl rfl rfl (hts _ hini) (hts _ hl1) ⟨hy1, hy2, hpar⟩ ⟨by show d' + 1 ≤ _; omega, by show 8 + (nX + 11) + 40 * d' ≤ _; omega⟩
  refine zgo (va_runS (As := As) (rest := rest) (free := fun q => G.2.2.1 ≤ q) ⟨C.1, C.2.1, C.2.2.1, C.2.2.2.1, hts⟩ (K l G d' (40 * d') (Nat.le_refl _) (Nat.le_refl _)) ⟨hcb, hts _ hl2⟩ ⟨zPc_blind, zPc_pre hR C.2.2.2.2.2.2.2.2.1 C.2.2.2.2.2.2.2.2.2.1 hS⟩ rfl hn hl.1 rfl (lv_room hrs) hd ⟨by omega, by omega⟩) hS (fun H1 locs1 hR1 hS1 => ?_)
  exact kk G p l e R s m args below meth c H1 locs1 (cells + mc') (slots + ms') ls C hR1 hS1 hl g1 g2 (by omega) (by omega)
theorem z_callSN {x : MethodName} {cx : ByteArray} {nX n idx : Nat} {rx : Option FieldType} {host : String} (As : List Value) {rest : List Value} {d' mc' ms' : Nat} {v1 : Option Value} {h1 : zH} (hd : decode cc pc = .ok (.invokestatic idx, 3)) (hm : zMd x cx nX n rx) (hl1 : (y.cls, idx, x, host) ∈ zNs) (hl2 : Cond.static x ∈ zB) (hn : As.length = n) (hst : st = As.reverse ++ rest) (hrs : (rest.map fun v => v.category).sum ≤ 8) (hdd : d' + 1 ≤ d) (K : zOk d' mc' ms' x cx nX rx As h v1 h1)
    (kk : zW y cc nL ret d mc ms (pc + 3) lv (v1.toList ++ rest) h1 v h') : zW y cc nL ret d (mc + mc') (ms + ms') pc lv st h v h' := by
  subst hst
  obtain ⟨hcd, hini, hy1, hy2, hpar, hnX⟩ := hm
  intro G p l e R s m args below meth c H locs cells slots ls C hR hS hl g1 g2 g3 g4
  have hts := C.2.2.2.2.1
  have hcb : va_CN R s args y.cls idx x host cx nX rx (zws x cx nX rx) { frames := d', cells := mc', slots := ms', locals := 40 * d' } mc' ms' n := va_cnB (ret := rx) n hts (zws_in hcd) rfl rfl rfl (C.2.2.2.2.2.2.2.2.2.1.1 _ hl1) (hts _ hini) ⟨hy1, hy2, hpar⟩ ⟨by show d' + 1 ≤ _; omega, by show 8 + (nX + 11) + 40 * d' ≤ _; omega⟩
  refine zgo (va_runSN (As := As) (rest := rest) (free := fun q => G.2.2.1 ≤ q) ⟨C.1, C.2.1, C.2.2.1, C.2.2.2.1, hts⟩ (K l G d' (40 * d') (Nat.le_refl _) (Nat.le_refl _)) ⟨hcb, hts _ hl2, trivial⟩ ⟨zPc_blind, zPc_pre hR C.2.2.2.2.2.2.2.2.1 C.2.2.2.2.2.2.2.2.2.1 hS⟩ rfl hn hl.1 rfl (lv_room hrs) hd ⟨by omega, by omega⟩) hS (fun H1 locs1 hR1 hS1 => ?_)
  exact kk G p l e R s m args below meth c H1 locs1 (cells + mc') (slots + ms') ls C hR1 hS1 hl g1 g2 (by omega) (by omega)
theorem z_callV {x : MethodName} {cx : ByteArray} {nX n idx ci : Nat} {rx : Option FieldType} (As : List Value) {rest : List Value} {d' mc' ms' b : Nat} {v1 : Option Value} {h1 : zH} {T : u_T} {N : Nat} (hd : decode cc pc = .ok (.invokevirtual idx, 3)) (hm : zMd x cx nX n rx) (hl1 : Cond.methodLink y.cls idx x ∈ zB) (hl2 : Cond.instanceMethod x ∈ zB) (hl3 : Cond.selects x.cls x x ∈ zB) (hcl : vwCl[ci]? = some (x.cls, T, N)) (hob : zob h b ci = true) (hn : As.length = n) (hst : st = As.reverse ++ .ref b :: rest) (hrs : (rest.map fun v => v.category).sum ≤ 8) (hdd : d' + 1 ≤ d) (K : zOk d' mc' ms' x cx nX rx (.ref b :: As) h v1 h1)
    (kk : zW y cc nL ret d mc ms (pc + 3) lv (v1.toList ++ rest) h1 v h') : zW y cc nL ret d (mc + mc') (ms + ms') pc lv st h v h' := by
  subst hst
  obtain ⟨hcd, hini, hy1, hy2, hpar, hnX⟩ := hm
  obtain ⟨fs, hob⟩ := zob_spec hob
  intro G p l e R s m args below meth c H locs cells slots ls C hR hS hl g1 g2 g3 g4
  have hts := C.2.2.2.2.1
  have hcb : CallB R s args y.cls idx x cx nX rx (zws x cx nX rx) { frames := d', cells := mc', slots := ms', locals := 40 * d' } mc' ms' n := callB_of (ret := rx) n hts (zws_in hcd) rfl rfl rfl (hts _ hini) (hts _ hl1) ⟨hy1, hy2, hpar⟩ ⟨by show d' + 1 ≤ _; omega, by show 8 + (nX + 11) + 40 * d' ≤ _; omega⟩
  have hrv := va_recv C.2.2.2.2.2.2.2.2.1 (hR.one hob) hcl (q0 := 0) rfl
  refine zgo (va_runV (As := As) (rest := rest) (free := fun q => G.2.2.1 ≤ q) ⟨C.1, C.2.1, C.2.2.1, C.2.2.2.1, hts⟩ (K l G d' (40 * d') (Nat.le_refl _) (Nat.le_refl _)) ⟨hcb, hts _ hl2, hts _ hl3⟩ ⟨zPc_blind, hrv, zPc_pre hR C.2.2.2.2.2.2.2.2.1 C.2.2.2.2.2.2.2.2.2.1 hS⟩ rfl hn hl.1 rfl (lv_room hrs) hd ⟨by omega, by omega⟩) hS (fun H1 locs1 hR1 hS1 => ?_)
  exact kk G p l e R s m args below meth c H1 locs1 (cells + mc') (slots + ms') ls C hR1 hS1 hl g1 g2 (by omega) (by omega)
theorem z_callI {x : MethodName} {cx : ByteArray} {nX n idx : Nat} (As : List Value) {rest : List Value} {d' mc' ms' b : Nat} {h1 : zH} (hd : decode cc pc = .ok (.invokespecial idx, 3)) (hm : zMd x cx nX n none) (hl1 : Cond.methodLink y.cls idx x ∈ zB) (hl2 : Cond.instanceMethod x ∈ zB) (hnm : x.name = "<init>") (hn : As.length = n) (hst : st = As.reverse ++ .ref b :: rest) (hrs : (rest.map fun v => v.category).sum ≤ 8) (hdd : d' + 1 ≤ d) (K : zOk d' mc' ms' x cx nX none (.ref b :: As) h none h1)
    (kk : zW y cc nL ret d mc ms (pc + 3) lv rest h1 v h') : zW y cc nL ret d (mc + mc') (ms + ms') pc lv st h v h' := by
  subst hst
  obtain ⟨hcd, hini, hy1, hy2, hpar, hnX⟩ := hm
  intro G p l e R s m args below meth c H locs cells slots ls C hR hS hl g1 g2 g3 g4
  have hts := C.2.2.2.2.1
  have hcb : CallB R s args y.cls idx x cx nX none (zws x cx nX none) { frames := d', cells := mc', slots := ms', locals := 40 * d' } mc' ms' n := callB_of (ret := none) n hts (zws_in hcd) rfl rfl rfl (hts _ hini) (hts _ hl1) ⟨hy1, hy2, hpar⟩ ⟨by show d' + 1 ≤ _; omega, by show 8 + (nX + 11) + 40 * d' ≤ _; omega⟩
  refine zgo (va_runI (As := As) (b := b) (rest := rest) (free := fun q => G.2.2.1 ≤ q) ⟨C.1, C.2.1, C.2.2.1, C.2.2.2.1, hts⟩ (K l G d' (40 * d') (Nat.le_refl _) (Nat.le_refl _)) ⟨hcb, hnm, hts _ hl2⟩ ⟨zPc_blind, zPc_pre hR C.2.2.2.2.2.2.2.2.1 C.2.2.2.2.2.2.2.2.2.1 hS⟩ rfl hn hl.1 rfl (lv_room hrs) hd ⟨by omega, by omega⟩) hS (fun H1 locs1 hR1 hS1 => ?_)
  exact kk G p l e R s m args below meth c H1 locs1 (cells + mc') (slots + ms') ls C hR1 hS1 hl g1 g2 (by omega) (by omega)
theorem z_callIN {x : MethodName} {cx : ByteArray} {nX n idx : Nat} {host : String} (As : List Value) {rest : List Value} {d' mc' ms' b : Nat} {h1 : zH} (hd : decode cc pc = .ok (.invokespecial idx, 3)) (hm : zMd x cx nX n none) (hl1 : (y.cls, idx, x, host) ∈ zNs) (hl2 : Cond.instanceMethod x ∈ zB) (hnm : x.name = "<init>") (hn : As.length = n) (hst : st = As.reverse ++ .ref b :: rest) (hrs : (rest.map fun v => v.category).sum ≤ 8) (hdd : d' + 1 ≤ d) (K : zOk d' mc' ms' x cx nX none (.ref b :: As) h none h1)
    (kk : zW y cc nL ret d mc ms (pc + 3) lv rest h1 v h') : zW y cc nL ret d (mc + mc') (ms + ms') pc lv st h v h' := by
  subst hst
  obtain ⟨hcd, hini, hy1, hy2, hpar, hnX⟩ := hm
  intro G p l e R s m args below meth c H locs cells slots ls C hR hS hl g1 g2 g3 g4
  have hts := C.2.2.2.2.1
  have hcb : va_CN R s args y.cls idx x host cx nX none (zws x cx nX none) { frames := d', cells := mc', slots := ms', locals := 40 * d' } mc' ms' n := va_cnB (ret := none) n hts (zws_in hcd) rfl rfl rfl (C.2.2.2.2.2.2.2.2.2.1.1 _ hl1) (hts _ hini) ⟨hy1, hy2, hpar⟩ ⟨by show d' + 1 ≤ _; omega, by show 8 + (nX + 11) + 40 * d' ≤ _; omega⟩
  refine zgo (va_runIN (As := As) (b := b) (rest := rest) (free := fun q => G.2.2.1 ≤ q) ⟨C.1, C.2.1, C.2.2.1, C.2.2.2.1, hts⟩ (K l G d' (40 * d') (Nat.le_refl _) (Nat.le_refl _)) ⟨hcb, hnm, hts _ hl2⟩ ⟨zPc_blind, zPc_pre hR C.2.2.2.2.2.2.2.2.1 C.2.2.2.2.2.2.2.2.2.1 hS⟩ rfl hn hl.1 rfl (lv_room hrs) hd ⟨by omega, by omega⟩) hS (fun H1 locs1 hR1 hS1 => ?_)
  exact kk G p l e R s m args below meth c H1 locs1 (cells + mc') (slots + ms') ls C hR1 hS1 hl g1 g2 (by omega) (by omega)
end ZN
end
section
/-! words for the functions that a program writes out of the bytecode -/
def zlet {α β : Type} (a : α) (f : α → β) : β := f a
theorem zletE {α β : Type} {a : α} {f : α → β} {r : β} (h : zlet a f = r) : ∃ x, a = x ∧ f x = r := ⟨a, rfl, h⟩
theorem zbind {α β : Type} {o : Option α} {f : α → Option β} {r : β} (h : o.bind f = some r) : ∃ x, o = some x ∧ f x = some r := by
  cases o with
  | none => cases h
  | some x => exact ⟨x, rfl, h⟩
def zif {β : Type} (b : Bool) (a : Option β) : Option β := if b = true then a else none
theorem zifE {β : Type} {b : Bool} {a : Option β} {r : β} (h : zif b a = some r) : b = true ∧ a = some r := by
  unfold zif at h
  split at h
  · rename_i hb; exact ⟨hb, h⟩
  · cases h
def zdiv {β : Type} (z : Int32) (a : Option β) : Option β := if z = 0 then none else a
theorem zdivE {β : Type} {z : Int32} {a : Option β} {r : β} (h : zdiv z a = some r) : ¬ z = 0 ∧ a = some r := by
  unfold zdiv at h
  split at h
  · cases h
  · rename_i hb; exact ⟨hb, h⟩
def rZ (x : Int32) (h : zH) : Option (Int32 × zH) := if x = 0 ∨ x = 1 then some (x, h) else none
theorem rZE {x : Int32} {h : zH} {r : Int32 × zH} (e : rZ x h = some r) : (x = 0 ∨ x = 1) ∧ some (x, h) = some r := by
  unfold rZ at e
  split at e
  · rename_i hb; exact ⟨hb, e⟩
  · cases e
def rZ0 (x : Int32) : Option Int32 := if x = 0 ∨ x = 1 then some x else none
theorem rZ0E {x r : Int32} (e : rZ0 x = some r) : (x = 0 ∨ x = 1) ∧ some x = some r := by
  unfold rZ0 at e
  split at e
  · rename_i hb; exact ⟨hb, e⟩
  · cases e
def zopt {α β : Type} (x : Option α) (a : β) (f : α → β) : β := match x with
  | none => a
  | some y => f y
theorem zoptN {α β : Type} {a : β} {f : α → β} {r : β} (h : zopt none a f = r) : a = r := h
theorem zoptS {α β : Type} {a : β} {f : α → β} {r : β} {y : α} (h : zopt (some y) a f = r) : f y = r := h
def zsum {α β : Type} (x : α ⊕ β) (f : α → Option β) : Option β := match x with
  | .inl s => f s
  | .inr o => some o
theorem zsumL {α β : Type} {s : α} {f : α → Option β} {r : Option β} (h : zsum (.inl s) f = r) : f s = r := h
theorem zsumR {α β : Type} {o : β} {f : α → Option β} {r : Option β} (h : zsum (.inr o) f = r) : some o = r := h
theorem zmapR {α β : Type} {o : Option β} {m : α ⊕ β} (h : o.map .inr = some m) : ∃ a, o = some a ∧ m = .inr a := by
  cases o with
  | none => cases h
  | some a => cases h; exact ⟨a, rfl, rfl⟩
theorem pZ_n {h g : zH} {o ci k : Nat} {x : Int32} (e : pZ h o ci k x = some g) : narrow .boolean (.int x) = .int x := by
  unfold pZ at e
  split at e
  · rename_i hx; rcases hx with rfl | rfl <;> rfl
  · cases e
theorem pZ_f {h g : zH} {o ci k : Nat} {x : Int32} (e : pZ h o ci k x = some g) : fits .boolean (.int x) = true := by
  unfold pZ at e
  split at e
  · rename_i hx; rcases hx with rfl | rfl <;> decide
  · cases e
theorem pZ_p {h g : zH} {o ci k : Nat} {x : Int32} (e : pZ h o ci k x = some g) : pF h o ci k (.int x) = some g := by
  unfold pZ at e
  split at e
  · exact e
  · cases e
theorem zne {x z : Int32} (h : ¬ x = z) : x.toInt ≠ z.toInt := fun e => h (Int32.toInt_inj.mp e)
section ZM
variable {y : MethodName} {cc : ByteArray} {nL : Nat} {ret : Option FieldType} {d mc ms pc : Nat} {lv : List (Nat × Value)} {st : List Value} {h : zH} {v : Option Value} {h' : zH}
theorem z_nmI {x x' : Int32} (e : x = x') (k : zW y cc nL ret d mc ms pc lv (.int x' :: st) h v h') : zW y cc nL ret d mc ms pc lv (.int x :: st) h v h' := by rw [e]; exact k
theorem z_nmJ {x x' : Int64} (e : x = x') (k : zW y cc nL ret d mc ms pc lv (.long x' :: st) h v h') : zW y cc nL ret d mc ms pc lv (.long x :: st) h v h' := by rw [e]; exact k
theorem z_nmN {x x' : Nat} (e : x = x') (k : zW y cc nL ret d mc ms pc lv (.ref x' :: st) h v h') : zW y cc nL ret d mc ms pc lv (.ref x :: st) h v h' := by rw [e]; exact k
theorem z_nmQv {x x' : Option Nat} (e : x = x') (k : zW y cc nL ret d mc ms pc lv (va_rf x' :: st) h v h') : zW y cc nL ret d mc ms pc lv (va_rf x :: st) h v h' := by rw [e]; exact k
theorem z_nmQ {x : Option Nat} {a : Nat} (e : x = some a) (k : zW y cc nL ret d mc ms pc lv (.ref a :: st) h v h') : zW y cc nL ret d mc ms pc lv (va_rf x :: st) h v h' := by rw [e]; exact k
theorem z_nmH {g : zH} (e : h = g) (k : zW y cc nL ret d mc ms pc lv st g v h') : zW y cc nL ret d mc ms pc lv st h v h' := by rw [e]; exact k
theorem z_tswIn {dflt lo hi : Int} {offs : Array Int} {len : Nat} {x : Int32} {off : Int} (tgt : Nat) (hd : decode cc pc = .ok (.tableswitch dflt lo hi offs, len)) (h1 : ¬ x.toInt < lo) (h2 : ¬ hi < x.toInt) (ho : offs[(x.toInt - lo).toNat]? = some off) (ht : (pc : Int) + off = (tgt : Int))
    (k : zW y cc nL ret d mc ms tgt lv st h v h') : zW y cc nL ret d mc ms pc lv (.int x :: st) h v h' := by
  intro G p l e R s m args below meth c H locs cells slots ls C hR hS hl g1 g2 g3 g4
  exact lv_tableIn C.1 C.2.1 hd h1 h2 ho ht (k G p l e R s m args below meth c H locs cells slots ls C hR hS hl g1 g2 g3 g4)
theorem z_tswOut {dflt lo hi : Int} {offs : Array Int} {len : Nat} {x : Int32} (tgt : Nat) (hd : decode cc pc = .ok (.tableswitch dflt lo hi offs, len)) (h1 : x.toInt < lo ∨ hi < x.toInt) (ht : (pc : Int) + dflt = (tgt : Int))
    (k : zW y cc nL ret d mc ms tgt lv st h v h') : zW y cc nL ret d mc ms pc lv (.int x :: st) h v h' := by
  intro G p l e R s m args below meth c H locs cells slots ls C hR hS hl g1 g2 g3 g4
  exact lv_tableOut C.1 C.2.1 hd h1 ht (k G p l e R s m args below meth c H locs cells slots ls C hR hS hl g1 g2 g3 g4)
theorem z_lsw {dflt : Int} {ps : Array (Int × Int)} {len : Nat} {x : Int32} {off : Int} (tgt : Nat) (hd : decode cc pc = .ok (.lookupswitch dflt ps, len)) (hp : (ps.toList.zip (ps.toList.drop 1)).all (fun (a, next) => a.1 < next.1) = true) (ho : Op.lookupswitch.offset ps.toList dflt x.toInt = off) (ht : (pc : Int) + off = (tgt : Int))
    (k : zW y cc nL ret d mc ms tgt lv st h v h') : zW y cc nL ret d mc ms pc lv (.int x :: st) h v h' := by
  intro G p l e R s m args below meth c H locs cells slots ls C hR hS hl g1 g2 g3 g4
  exact lv_lookup C.1 C.2.1 hd hp ho ht (k G p l e R s m args below meth c H locs cells slots ls C hR hS hl g1 g2 g3 g4)
end ZM
theorem zsubw (ws : List Cond) (ps : List Nat) (h : ps.map (fun i => lw_tbl[i]?) = ws.map some) (g : ws.all goodWord = true) : ∀ w ∈ ws, w ∈ zB := by
  intro w hw
  have h1 : some w ∈ ws.map some := List.mem_map.mpr ⟨w, hw, rfl⟩
  rw [← h] at h1
  obtain ⟨i, -, hi⟩ := List.mem_map.mp h1
  exact zmem i hi (List.all_eq_true.mp g w hw)
theorem cl_0 : zCl 0 RX0 TX0 7 tyX0 := ⟨rfl, zsubw _ [367, 369, 371, 373, 375, 377, 379] (by decide +kernel) (by decide +kernel), tyX0_ok, nmX0⟩
theorem cl_1 : zCl 1 RX1 TX1 11 tyX1 := ⟨rfl, zsubw _ [328, 330, 332, 334, 336, 338, 340, 342, 344, 346, 348] (by decide +kernel) (by decide +kernel), tyX1_ok, nmX1⟩
theorem cl_2 : zCl 2 RX2 TX2 8 tyX2 := ⟨rfl, zsubw _ [399, 401, 403, 405, 407, 409, 411, 413] (by decide +kernel) (by decide +kernel), tyX2_ok, nmX2⟩
theorem cl_3 : zCl 3 RX3 TX3 7 tyX3 := ⟨rfl, zsubw _ [430, 432, 434, 436, 438, 440, 442] (by decide +kernel) (by decide +kernel), tyX3_ok, nmX3⟩
theorem cl_4 : zCl 4 RX4 TX4 3 tyX4 := ⟨rfl, zsubw _ [910, 912, 914] (by decide +kernel) (by decide +kernel), tyX4_ok, nmX4⟩
theorem cl_5 : zCl 5 RX5 TX5 2 tyX5 := ⟨rfl, zsubw _ [456, 458] (by decide +kernel) (by decide +kernel), tyX5_ok, nmX5⟩
theorem cl_6 : zCl 6 RX6 TX6 16 tyX6 := ⟨rfl, zsubw _ [598, 600, 602, 604, 606, 608, 610, 612, 614, 616, 618, 620, 622, 624, 626, 628] (by decide +kernel) (by decide +kernel), tyX6_ok, nmX6⟩
theorem cl_7 : zCl 7 RX7 TX7 9 tyX7 := ⟨rfl, zsubw _ [284, 286, 288, 290, 292, 294, 296, 298, 300] (by decide +kernel) (by decide +kernel), tyX7_ok, nmX7⟩
theorem cl_8 : zCl 8 RX8 TX8 7 tyX8 := ⟨rfl, zsubw _ [163, 165, 167, 169, 171, 173, 175] (by decide +kernel) (by decide +kernel), tyX8_ok, nmX8⟩
theorem cl_9 : zCl 9 RX9 TX9 8 tyX9 := ⟨rfl, zsubw _ [250, 252, 254, 256, 258, 260, 262, 264] (by decide +kernel) (by decide +kernel), tyX9_ok, nmX9⟩
theorem cl_10 : zCl 10 RX10 TX10 11 tyX10 := ⟨rfl, zsubw _ [480, 482, 484, 486, 488, 490, 492, 494, 496, 498, 500] (by decide +kernel) (by decide +kernel), tyX10_ok, nmX10⟩
theorem cl_11 : zCl 11 RX11 TX11 13 tyX11 := ⟨rfl, zsubw _ [516, 518, 520, 522, 524, 526, 528, 530, 532, 534, 536, 538, 540] (by decide +kernel) (by decide +kernel), tyX11_ok, nmX11⟩
theorem cl_12 : zCl 12 RX12 TX12 80 tyX12 := ⟨rfl, zsubw _ [1454, 1456, 1458, 1460, 1462, 1464, 1466, 1468, 1470, 1472, 1474, 1476, 1478, 1480, 1482, 1484, 1486, 1488, 1490, 1492, 1494, 1496, 1498, 1500, 1502, 1504, 1506, 1508, 1510, 1512, 1514, 1516, 1518, 1520, 1522, 1524, 1526, 1528, 1530, 1532, 1534, 1536, 1538, 1540, 1542, 1544, 1546, 1548, 1550, 1552, 1554, 1556, 1558, 1560, 1562, 1564, 1566, 1568, 1570, 1572, 1574, 1576, 1578, 1580, 1582, 1584, 1586, 1588, 1590, 1592, 1594, 1596, 1598, 1600, 1602, 1604, 1606, 1608, 1610, 1612] (by decide +kernel) (by decide +kernel), tyX12_ok, nmX12⟩
end
section
theorem zc_iconst_0 : Int32.ofInt (0) = (0 : Int32) := by decide
theorem zc_iconst_1 : Int32.ofInt (1) = (1 : Int32) := by decide
theorem zc_iconst_m1 : Int32.ofInt (-1) = (-1 : Int32) := by decide
theorem zc_bipush_40 : (Int8.ofInt (40)).toInt32 = (40 : Int32) := by decide
theorem zc_bipush_m8 : (Int8.ofInt (-8)).toInt32 = (-8 : Int32) := by decide
theorem zc_bipush_8 : (Int8.ofInt (8)).toInt32 = (8 : Int32) := by decide
theorem zc_bipush_60 : (Int8.ofInt (60)).toInt32 = (60 : Int32) := by decide
theorem ml_X8_3 : Cond.methodLink RX8 3 objectInit ∈ zB := zmem 153 (by decide +kernel) rfl
theorem im_object : Cond.instanceMethod objectInit ∈ zB := zmem 144 (by decide +kernel) rfl
theorem cd_object : Cond.code objectInit ⟨#[0xb1]⟩ 1 none ∈ zB := zmem 145 (by decide +kernel) rfl
theorem fd_X8_103 : zFd RX8 103 6 7 (.int) false "WhoseStreet$Meeting" := zFd.of cl_6 (by decide) (zmem 579 (by decide +kernel) rfl) rfl rfl rfl
theorem fd_X8_49 : zFd RX8 49 8 0 (.int) false "WhoseStreet$Ride" := zFd.of cl_8 (by decide) (zmem 154 (by decide +kernel) rfl) rfl rfl rfl
theorem fd_X8_53 : zFd RX8 53 8 1 (.int) false "WhoseStreet$Ride" := zFd.of cl_8 (by decide) (zmem 156 (by decide +kernel) rfl) rfl rfl rfl
theorem fd_X8_106 : zFd RX8 106 6 8 (.int) false "WhoseStreet$Meeting" := zFd.of cl_6 (by decide) (zmem 581 (by decide +kernel) rfl) rfl rfl rfl
theorem fd_X8_25 : zFd RX8 25 8 4 (.int) false "WhoseStreet$Ride" := zFd.of cl_8 (by decide) (zmem 160 (by decide +kernel) rfl) rfl rfl rfl
theorem fd_X8_54 : zFd RX8 54 8 3 (.int) false "WhoseStreet$Ride" := zFd.of cl_8 (by decide) (zmem 159 (by decide +kernel) rfl) rfl rfl rfl
theorem fs_X8_94 : Cond.fieldLink RX8 94 "WhoseStreet$Ride" "BRAKES" "[I" ∈ zB := zmem 658 (by decide +kernel) rfl
theorem fd_X8_33 : zFd RX8 33 8 2 (.int) false "WhoseStreet$Ride" := zFd.of cl_8 (by decide) (zmem 158 (by decide +kernel) rfl) rfl rfl rfl
theorem ml_X8_98 : Cond.methodLink RX8 98 Lib.Math.max.name ∈ zB := zmem 660 (by decide +kernel) rfl
theorem mx_1 : Cond.static Lib.Math.max.name ∈ zB := zmem 661 (by decide +kernel) rfl
theorem mx_2 : Cond.initialized "java/lang/Math" ∈ zB := zmem 129 (by decide +kernel) rfl
theorem mx_3 : Cond.code Lib.Math.max.name Lib.Math.max.code 2 (some .int) ∈ zB := zmem 662 (by decide +kernel) rfl
theorem md_X8_sees : zMd yX8_sees cX8_sees 3 1 (some .boolean) := ⟨zmem 646 (by decide +kernel) rfl, zmem 113 (by decide +kernel) rfl, by decide, by decide, by decide +kernel, by decide⟩
theorem ml_X8_61 : Cond.methodLink RX8 61 yX8_sees ∈ zB := zmem 643 (by decide +kernel) rfl
theorem im_X8_sees : Cond.instanceMethod yX8_sees ∈ zB := zmem 645 (by decide +kernel) rfl
theorem se_X8_sees : Cond.selects yX8_sees.cls yX8_sees yX8_sees ∈ zB := zmem 1 (by decide +kernel) rfl
theorem md_X8_notice : zMd yX8_notice cX8_notice 2 1 none := ⟨zmem 650 (by decide +kernel) rfl, zmem 113 (by decide +kernel) rfl, by decide, by decide, by decide +kernel, by decide⟩
theorem ml_X8_65 : Cond.methodLink RX8 65 yX8_notice ∈ zB := zmem 647 (by decide +kernel) rfl
theorem im_X8_notice : Cond.instanceMethod yX8_notice ∈ zB := zmem 649 (by decide +kernel) rfl
theorem se_X8_notice : Cond.selects yX8_notice.cls yX8_notice yX8_notice ∈ zB := zmem 2 (by decide +kernel) rfl
theorem fd_X8_69 : zFd RX8 69 6 5 (.boolean) true "WhoseStreet$Meeting" := zFd.of cl_6 (by decide) (zmem 575 (by decide +kernel) rfl) rfl rfl rfl
theorem md_X11_up : zMd yX11_up cX11_up 2 2 (some .int) := ⟨zmem 653 (by decide +kernel) rfl, zmem 112 (by decide +kernel) rfl, by decide, by decide, by decide +kernel, by decide⟩
theorem ns_X8_73 : (RX8, 73, yX11_up, "WhoseStreet") ∈ zNs := by decide +kernel
theorem sm_X11_up : Cond.static yX11_up ∈ zB := zmem 652 (by decide +kernel) rfl
theorem fd_X8_77 : zFd RX8 77 6 4 (.int) true "WhoseStreet$Meeting" := zFd.of cl_6 (by decide) (zmem 573 (by decide +kernel) rfl) rfl rfl rfl
theorem fd_X8_80 : zFd RX8 80 6 2 (.int) true "WhoseStreet$Meeting" := zFd.of cl_6 (by decide) (zmem 569 (by decide +kernel) rfl) rfl rfl rfl
theorem fd_X8_83 : zFd RX8 83 6 9 (.int) false "WhoseStreet$Meeting" := zFd.of cl_6 (by decide) (zmem 584 (by decide +kernel) rfl) rfl rfl rfl
theorem md_X8_brake : zMd yX8_brake cX8_brake 2 1 none := ⟨zmem 657 (by decide +kernel) rfl, zmem 113 (by decide +kernel) rfl, by decide, by decide, by decide +kernel, by decide⟩
theorem ml_X8_86 : Cond.methodLink RX8 86 yX8_brake ∈ zB := zmem 654 (by decide +kernel) rfl
theorem im_X8_brake : Cond.instanceMethod yX8_brake ∈ zB := zmem 656 (by decide +kernel) rfl
theorem se_X8_brake : Cond.selects yX8_brake.cls yX8_brake yX8_brake ∈ zB := zmem 3 (by decide +kernel) rfl
theorem fd_X8_29 : zFd RX8 29 8 5 (.int) false "WhoseStreet$Ride" := zFd.of cl_8 (by decide) (zmem 161 (by decide +kernel) rfl) rfl rfl rfl
theorem md_X11_within : zMd yX11_within cX11_within 3 3 (some .boolean) := ⟨zmem 549 (by decide +kernel) rfl, zmem 112 (by decide +kernel) rfl, by decide, by decide, by decide +kernel, by decide⟩
theorem ns_X8_90 : (RX8, 90, yX11_within, "WhoseStreet") ∈ zNs := by decide +kernel
theorem sm_X11_within : Cond.static yX11_within ∈ zB := zmem 548 (by decide +kernel) rfl
theorem fd_X8_21 : zFd RX8 21 8 6 (.int) false "WhoseStreet$Ride" := zFd.of cl_8 (by decide) (zmem 162 (by decide +kernel) rfl) rfl rfl rfl
theorem fd_X8_46 : zFd RX8 46 6 0 (.int) true "WhoseStreet$Meeting" := zFd.of cl_6 (by decide) (zmem 564 (by decide +kernel) rfl) rfl rfl rfl
theorem fd_X8_50 : zFd RX8 50 6 3 (.int) true "WhoseStreet$Meeting" := zFd.of cl_6 (by decide) (zmem 571 (by decide +kernel) rfl) rfl rfl rfl
theorem md_X8_goOn : zMd yX8_goOn cX8_goOn 4 1 none := ⟨zmem 642 (by decide +kernel) rfl, zmem 113 (by decide +kernel) rfl, by decide, by decide, by decide +kernel, by decide⟩
theorem ml_X8_57 : Cond.methodLink RX8 57 yX8_goOn ∈ zB := zmem 639 (by decide +kernel) rfl
theorem im_X8_goOn : Cond.instanceMethod yX8_goOn ∈ zB := zmem 641 (by decide +kernel) rfl
theorem se_X8_goOn : Cond.selects yX8_goOn.cls yX8_goOn yX8_goOn ∈ zB := zmem 0 (by decide +kernel) rfl
theorem fd_X8_9 : zFd RX8 9 6 1 (.int) true "WhoseStreet$Meeting" := zFd.of cl_6 (by decide) (zmem 566 (by decide +kernel) rfl) rfl rfl rfl
theorem md_X8_go : zMd yX8_go cX8_go 5 3 none := ⟨zmem 638 (by decide +kernel) rfl, zmem 113 (by decide +kernel) rfl, by decide, by decide, by decide +kernel, by decide⟩
theorem ml_X8_17 : Cond.methodLink RX8 17 yX8_go ∈ zB := zmem 635 (by decide +kernel) rfl
theorem im_X8_go : Cond.instanceMethod yX8_go ∈ zB := zmem 636 (by decide +kernel) rfl
theorem se_X8_go : Cond.selects yX8_go.cls yX8_go yX8_go ∈ zB := zmem 637 (by decide +kernel) rfl
theorem fd_X8_24 : zFd RX8 24 6 11 (.int) false "WhoseStreet$Meeting" := zFd.of cl_6 (by decide) (zmem 588 (by decide +kernel) rfl) rfl rfl rfl
theorem fd_X8_28 : zFd RX8 28 6 12 (.int) false "WhoseStreet$Meeting" := zFd.of cl_6 (by decide) (zmem 590 (by decide +kernel) rfl) rfl rfl rfl
theorem fd_X8_32 : zFd RX8 32 6 13 (.int) false "WhoseStreet$Meeting" := zFd.of cl_6 (by decide) (zmem 593 (by decide +kernel) rfl) rfl rfl rfl
theorem fd_X8_36 : zFd RX8 36 6 14 (.int) false "WhoseStreet$Meeting" := zFd.of cl_6 (by decide) (zmem 595 (by decide +kernel) rfl) rfl rfl rfl
theorem fd_X8_39 : zFd RX8 39 6 15 (.int) false "WhoseStreet$Meeting" := zFd.of cl_6 (by decide) (zmem 597 (by decide +kernel) rfl) rfl rfl rfl
theorem md_X8_findSafeSpeed : zMd yX8_findSafeSpeed cX8_findSafeSpeed 3 1 (some .int) := ⟨zmem 683 (by decide +kernel) rfl, zmem 113 (by decide +kernel) rfl, by decide, by decide, by decide +kernel, by decide⟩
theorem ml_X8_42 : Cond.methodLink RX8 42 yX8_findSafeSpeed ∈ zB := zmem 680 (by decide +kernel) rfl
theorem im_X8_findSafeSpeed : Cond.instanceMethod yX8_findSafeSpeed ∈ zB := zmem 682 (by decide +kernel) rfl
theorem se_X8_findSafeSpeed : Cond.selects yX8_findSafeSpeed.cls yX8_findSafeSpeed yX8_findSafeSpeed ∈ zB := zmem 5 (by decide +kernel) rfl
end
section
theorem dX8_init_0 : decode cX8_init 0 = .ok (.aload_n 0, 1) := by decide +kernel
theorem dX8_init_1 : decode cX8_init 1 = .ok (.invokespecial 3, 3) := by decide +kernel
theorem dX8_init_4 : decode cX8_init 4 = .ok (.return_, 1) := by decide +kernel
theorem dX8_sees_0 : decode cX8_sees 0 = .ok (.aload_n 1, 1) := by decide +kernel
theorem dX8_sees_1 : decode cX8_sees 1 = .ok (.getfield 103, 3) := by decide +kernel
theorem dX8_sees_4 : decode cX8_sees 4 = .ok (.ifCond .eq 60, 3) := by decide +kernel
theorem dX8_sees_7 : decode cX8_sees 7 = .ok (.aload_n 0, 1) := by decide +kernel
theorem dX8_sees_8 : decode cX8_sees 8 = .ok (.getfield 49, 3) := by decide +kernel
theorem dX8_sees_11 : decode cX8_sees 11 = .ok (.aload_n 1, 1) := by decide +kernel
theorem dX8_sees_12 : decode cX8_sees 12 = .ok (.getfield 103, 3) := by decide +kernel
theorem dX8_sees_15 : decode cX8_sees 15 = .ok (.if_icmp .ge 49, 3) := by decide +kernel
theorem dX8_sees_18 : decode cX8_sees 18 = .ok (.aload_n 0, 1) := by decide +kernel
theorem dX8_sees_19 : decode cX8_sees 19 = .ok (.getfield 53, 3) := by decide +kernel
theorem dX8_sees_22 : decode cX8_sees 22 = .ok (.aload_n 1, 1) := by decide +kernel
theorem dX8_sees_23 : decode cX8_sees 23 = .ok (.getfield 106, 3) := by decide +kernel
theorem dX8_sees_26 : decode cX8_sees 26 = .ok (.if_icmp .ge 38, 3) := by decide +kernel
theorem dX8_sees_29 : decode cX8_sees 29 = .ok (.aload_n 1, 1) := by decide +kernel
theorem dX8_sees_30 : decode cX8_sees 30 = .ok (.getfield 103, 3) := by decide +kernel
theorem dX8_sees_33 : decode cX8_sees 33 = .ok (.aload_n 0, 1) := by decide +kernel
theorem dX8_sees_34 : decode cX8_sees 34 = .ok (.getfield 53, 3) := by decide +kernel
theorem dX8_sees_37 : decode cX8_sees 37 = .ok (.imul, 1) := by decide +kernel
theorem dX8_sees_38 : decode cX8_sees 38 = .ok (.aload_n 1, 1) := by decide +kernel
theorem dX8_sees_39 : decode cX8_sees 39 = .ok (.getfield 106, 3) := by decide +kernel
theorem dX8_sees_42 : decode cX8_sees 42 = .ok (.aload_n 0, 1) := by decide +kernel
theorem dX8_sees_43 : decode cX8_sees 43 = .ok (.getfield 49, 3) := by decide +kernel
theorem dX8_sees_46 : decode cX8_sees 46 = .ok (.imul, 1) := by decide +kernel
theorem dX8_sees_47 : decode cX8_sees 47 = .ok (.iadd, 1) := by decide +kernel
theorem dX8_sees_48 : decode cX8_sees 48 = .ok (.aload_n 0, 1) := by decide +kernel
theorem dX8_sees_49 : decode cX8_sees 49 = .ok (.getfield 49, 3) := by decide +kernel
theorem dX8_sees_52 : decode cX8_sees 52 = .ok (.aload_n 0, 1) := by decide +kernel
theorem dX8_sees_53 : decode cX8_sees 53 = .ok (.getfield 53, 3) := by decide +kernel
theorem dX8_sees_56 : decode cX8_sees 56 = .ok (.imul, 1) := by decide +kernel
theorem dX8_sees_57 : decode cX8_sees 57 = .ok (.if_icmp .gt 7, 3) := by decide +kernel
theorem dX8_sees_60 : decode cX8_sees 60 = .ok (.iconst 1, 1) := by decide +kernel
theorem dX8_sees_61 : decode cX8_sees 61 = .ok (.goto 4, 3) := by decide +kernel
theorem dX8_sees_64 : decode cX8_sees 64 = .ok (.iconst 0, 1) := by decide +kernel
theorem dX8_sees_65 : decode cX8_sees 65 = .ok (.istore_n 2, 1) := by decide +kernel
theorem dX8_sees_66 : decode cX8_sees 66 = .ok (.aload_n 0, 1) := by decide +kernel
theorem dX8_sees_67 : decode cX8_sees 67 = .ok (.getfield 49, 3) := by decide +kernel
theorem dX8_sees_70 : decode cX8_sees 70 = .ok (.ifCond .ge 18, 3) := by decide +kernel
theorem dX8_sees_73 : decode cX8_sees 73 = .ok (.aload_n 0, 1) := by decide +kernel
theorem dX8_sees_74 : decode cX8_sees 74 = .ok (.getfield 53, 3) := by decide +kernel
theorem dX8_sees_77 : decode cX8_sees 77 = .ok (.ifCond .ge 11, 3) := by decide +kernel
theorem dX8_sees_80 : decode cX8_sees 80 = .ok (.iload_n 2, 1) := by decide +kernel
theorem dX8_sees_81 : decode cX8_sees 81 = .ok (.ifCond .ne 7, 3) := by decide +kernel
theorem dX8_sees_84 : decode cX8_sees 84 = .ok (.iconst 1, 1) := by decide +kernel
theorem dX8_sees_85 : decode cX8_sees 85 = .ok (.goto 4, 3) := by decide +kernel
theorem dX8_sees_88 : decode cX8_sees 88 = .ok (.iconst 0, 1) := by decide +kernel
theorem dX8_sees_89 : decode cX8_sees 89 = .ok (.ireturn, 1) := by decide +kernel
theorem dX8_notice_0 : decode cX8_notice 0 = .ok (.iload_n 1, 1) := by decide +kernel
theorem dX8_notice_1 : decode cX8_notice 1 = .ok (.ifCond .eq 19, 3) := by decide +kernel
theorem dX8_notice_4 : decode cX8_notice 4 = .ok (.aload_n 0, 1) := by decide +kernel
theorem dX8_notice_5 : decode cX8_notice 5 = .ok (.getfield 25, 3) := by decide +kernel
theorem dX8_notice_8 : decode cX8_notice 8 = .ok (.iconst (-1), 1) := by decide +kernel
theorem dX8_notice_9 : decode cX8_notice 9 = .ok (.if_icmp .ne 11, 3) := by decide +kernel
theorem dX8_notice_12 : decode cX8_notice 12 = .ok (.aload_n 0, 1) := by decide +kernel
theorem dX8_notice_13 : decode cX8_notice 13 = .ok (.aload_n 0, 1) := by decide +kernel
theorem dX8_notice_14 : decode cX8_notice 14 = .ok (.getfield 54, 3) := by decide +kernel
theorem dX8_notice_17 : decode cX8_notice 17 = .ok (.putfield 25, 3) := by decide +kernel
theorem dX8_notice_20 : decode cX8_notice 20 = .ok (.return_, 1) := by decide +kernel
theorem dX11_up_0 : decode cX11_up 0 = .ok (.iload_n 1, 1) := by decide +kernel
theorem dX11_up_1 : decode cX11_up 1 = .ok (.ifCond .gt 7, 3) := by decide +kernel
theorem dX11_up_4 : decode cX11_up 4 = .ok (.iconst 0, 1) := by decide +kernel
theorem dX11_up_5 : decode cX11_up 5 = .ok (.goto 10, 3) := by decide +kernel
theorem dX11_up_8 : decode cX11_up 8 = .ok (.iload_n 0, 1) := by decide +kernel
theorem dX11_up_9 : decode cX11_up 9 = .ok (.iload_n 1, 1) := by decide +kernel
theorem dX11_up_10 : decode cX11_up 10 = .ok (.iadd, 1) := by decide +kernel
theorem dX11_up_11 : decode cX11_up 11 = .ok (.iconst 1, 1) := by decide +kernel
theorem dX11_up_12 : decode cX11_up 12 = .ok (.isub, 1) := by decide +kernel
theorem dX11_up_13 : decode cX11_up 13 = .ok (.iload_n 1, 1) := by decide +kernel
theorem dX11_up_14 : decode cX11_up 14 = .ok (.idiv, 1) := by decide +kernel
theorem dX11_up_15 : decode cX11_up 15 = .ok (.ireturn, 1) := by decide +kernel
theorem dX8_brake_0 : decode cX8_brake 0 = .ok (.iload_n 1, 1) := by decide +kernel
theorem dX8_brake_1 : decode cX8_brake 1 = .ok (.ifCond .lt 29, 3) := by decide +kernel
theorem dX8_brake_4 : decode cX8_brake 4 = .ok (.iload_n 1, 1) := by decide +kernel
theorem dX8_brake_5 : decode cX8_brake 5 = .ok (.getstatic 94, 3) := by decide +kernel
theorem dX8_brake_8 : decode cX8_brake 8 = .ok (.arraylength, 1) := by decide +kernel
theorem dX8_brake_9 : decode cX8_brake 9 = .ok (.if_icmp .ge 21, 3) := by decide +kernel
theorem dX8_brake_12 : decode cX8_brake 12 = .ok (.aload_n 0, 1) := by decide +kernel
theorem dX8_brake_13 : decode cX8_brake 13 = .ok (.iconst 0, 1) := by decide +kernel
theorem dX8_brake_14 : decode cX8_brake 14 = .ok (.aload_n 0, 1) := by decide +kernel
theorem dX8_brake_15 : decode cX8_brake 15 = .ok (.getfield 33, 3) := by decide +kernel
theorem dX8_brake_18 : decode cX8_brake 18 = .ok (.getstatic 94, 3) := by decide +kernel
theorem dX8_brake_21 : decode cX8_brake 21 = .ok (.iload_n 1, 1) := by decide +kernel
theorem dX8_brake_22 : decode cX8_brake 22 = .ok (.iaload, 1) := by decide +kernel
theorem dX8_brake_23 : decode cX8_brake 23 = .ok (.isub, 1) := by decide +kernel
theorem dX8_brake_24 : decode cX8_brake 24 = .ok (.invokestatic 98, 3) := by decide +kernel
theorem dX8_brake_27 : decode cX8_brake 27 = .ok (.putfield 33, 3) := by decide +kernel
theorem dX8_brake_30 : decode cX8_brake 30 = .ok (.return_, 1) := by decide +kernel
theorem dX11_within_0 : decode cX11_within 0 = .ok (.iload_n 0, 1) := by decide +kernel
theorem dX11_within_1 : decode cX11_within 1 = .ok (.iload_n 1, 1) := by decide +kernel
theorem dX11_within_2 : decode cX11_within 2 = .ok (.if_icmp .lt 12, 3) := by decide +kernel
theorem dX11_within_5 : decode cX11_within 5 = .ok (.iload_n 0, 1) := by decide +kernel
theorem dX11_within_6 : decode cX11_within 6 = .ok (.iload_n 2, 1) := by decide +kernel
theorem dX11_within_7 : decode cX11_within 7 = .ok (.if_icmp .gt 7, 3) := by decide +kernel
theorem dX11_within_10 : decode cX11_within 10 = .ok (.iconst 1, 1) := by decide +kernel
theorem dX11_within_11 : decode cX11_within 11 = .ok (.goto 4, 3) := by decide +kernel
theorem dX11_within_14 : decode cX11_within 14 = .ok (.iconst 0, 1) := by decide +kernel
theorem dX11_within_15 : decode cX11_within 15 = .ok (.ireturn, 1) := by decide +kernel
theorem dX8_goOn_0 : decode cX8_goOn 0 = .ok (.aload_n 0, 1) := by decide +kernel
theorem dX8_goOn_1 : decode cX8_goOn 1 = .ok (.aload_n 1, 1) := by decide +kernel
theorem dX8_goOn_2 : decode cX8_goOn 2 = .ok (.invokevirtual 61, 3) := by decide +kernel
theorem dX8_goOn_5 : decode cX8_goOn 5 = .ok (.istore_n 2, 1) := by decide +kernel
theorem dX8_goOn_6 : decode cX8_goOn 6 = .ok (.aload_n 0, 1) := by decide +kernel
theorem dX8_goOn_7 : decode cX8_goOn 7 = .ok (.iload_n 2, 1) := by decide +kernel
theorem dX8_goOn_8 : decode cX8_goOn 8 = .ok (.invokevirtual 65, 3) := by decide +kernel
theorem dX8_goOn_11 : decode cX8_goOn 11 = .ok (.aload_n 1, 1) := by decide +kernel
theorem dX8_goOn_12 : decode cX8_goOn 12 = .ok (.getfield 69, 3) := by decide +kernel
theorem dX8_goOn_15 : decode cX8_goOn 15 = .ok (.ifCond .eq 45, 3) := by decide +kernel
theorem dX8_goOn_18 : decode cX8_goOn 18 = .ok (.iload_n 2, 1) := by decide +kernel
theorem dX8_goOn_19 : decode cX8_goOn 19 = .ok (.ifCond .eq 41, 3) := by decide +kernel
theorem dX8_goOn_22 : decode cX8_goOn 22 = .ok (.aload_n 0, 1) := by decide +kernel
theorem dX8_goOn_23 : decode cX8_goOn 23 = .ok (.getfield 33, 3) := by decide +kernel
theorem dX8_goOn_26 : decode cX8_goOn 26 = .ok (.ifCond .le 34, 3) := by decide +kernel
theorem dX8_goOn_29 : decode cX8_goOn 29 = .ok (.aload_n 0, 1) := by decide +kernel
theorem dX8_goOn_30 : decode cX8_goOn 30 = .ok (.getfield 49, 3) := by decide +kernel
theorem dX8_goOn_33 : decode cX8_goOn 33 = .ok (.ineg, 1) := by decide +kernel
theorem dX8_goOn_34 : decode cX8_goOn 34 = .ok (.aload_n 0, 1) := by decide +kernel
theorem dX8_goOn_35 : decode cX8_goOn 35 = .ok (.getfield 33, 3) := by decide +kernel
theorem dX8_goOn_38 : decode cX8_goOn 38 = .ok (.invokestatic 73, 3) := by decide +kernel
theorem dX8_goOn_41 : decode cX8_goOn 41 = .ok (.aload_n 0, 1) := by decide +kernel
theorem dX8_goOn_42 : decode cX8_goOn 42 = .ok (.getfield 53, 3) := by decide +kernel
theorem dX8_goOn_45 : decode cX8_goOn 45 = .ok (.ineg, 1) := by decide +kernel
theorem dX8_goOn_46 : decode cX8_goOn 46 = .ok (.aload_n 1, 1) := by decide +kernel
theorem dX8_goOn_47 : decode cX8_goOn 47 = .ok (.getfield 77, 3) := by decide +kernel
theorem dX8_goOn_50 : decode cX8_goOn 50 = .ok (.invokestatic 73, 3) := by decide +kernel
theorem dX8_goOn_53 : decode cX8_goOn 53 = .ok (.if_icmp .gt 7, 3) := by decide +kernel
theorem dX8_goOn_56 : decode cX8_goOn 56 = .ok (.iconst 1, 1) := by decide +kernel
theorem dX8_goOn_57 : decode cX8_goOn 57 = .ok (.goto 4, 3) := by decide +kernel
theorem dX8_goOn_60 : decode cX8_goOn 60 = .ok (.iconst 0, 1) := by decide +kernel
theorem dX8_goOn_61 : decode cX8_goOn 61 = .ok (.istore_n 3, 1) := by decide +kernel
theorem dX8_goOn_62 : decode cX8_goOn 62 = .ok (.aload_n 0, 1) := by decide +kernel
theorem dX8_goOn_63 : decode cX8_goOn 63 = .ok (.getfield 25, 3) := by decide +kernel
theorem dX8_goOn_66 : decode cX8_goOn 66 = .ok (.iconst (-1), 1) := by decide +kernel
theorem dX8_goOn_67 : decode cX8_goOn 67 = .ok (.if_icmp .eq 27, 3) := by decide +kernel
theorem dX8_goOn_70 : decode cX8_goOn 70 = .ok (.aload_n 0, 1) := by decide +kernel
theorem dX8_goOn_71 : decode cX8_goOn 71 = .ok (.getfield 54, 3) := by decide +kernel
theorem dX8_goOn_74 : decode cX8_goOn 74 = .ok (.aload_n 0, 1) := by decide +kernel
theorem dX8_goOn_75 : decode cX8_goOn 75 = .ok (.getfield 25, 3) := by decide +kernel
theorem dX8_goOn_78 : decode cX8_goOn 78 = .ok (.aload_n 1, 1) := by decide +kernel
theorem dX8_goOn_79 : decode cX8_goOn 79 = .ok (.getfield 80, 3) := by decide +kernel
theorem dX8_goOn_82 : decode cX8_goOn 82 = .ok (.iadd, 1) := by decide +kernel
theorem dX8_goOn_83 : decode cX8_goOn 83 = .ok (.if_icmp .lt 11, 3) := by decide +kernel
theorem dX8_goOn_86 : decode cX8_goOn 86 = .ok (.aload_n 0, 1) := by decide +kernel
theorem dX8_goOn_87 : decode cX8_goOn 87 = .ok (.aload_n 1, 1) := by decide +kernel
theorem dX8_goOn_88 : decode cX8_goOn 88 = .ok (.getfield 83, 3) := by decide +kernel
theorem dX8_goOn_91 : decode cX8_goOn 91 = .ok (.invokevirtual 86, 3) := by decide +kernel
theorem dX8_goOn_94 : decode cX8_goOn 94 = .ok (.aload_n 0, 1) := by decide +kernel
theorem dX8_goOn_95 : decode cX8_goOn 95 = .ok (.getfield 33, 3) := by decide +kernel
theorem dX8_goOn_98 : decode cX8_goOn 98 = .ok (.ifCond .ne 19, 3) := by decide +kernel
theorem dX8_goOn_101 : decode cX8_goOn 101 = .ok (.aload_n 0, 1) := by decide +kernel
theorem dX8_goOn_102 : decode cX8_goOn 102 = .ok (.getfield 29, 3) := by decide +kernel
theorem dX8_goOn_105 : decode cX8_goOn 105 = .ok (.iconst (-1), 1) := by decide +kernel
theorem dX8_goOn_106 : decode cX8_goOn 106 = .ok (.if_icmp .ne 11, 3) := by decide +kernel
theorem dX8_goOn_109 : decode cX8_goOn 109 = .ok (.aload_n 0, 1) := by decide +kernel
theorem dX8_goOn_110 : decode cX8_goOn 110 = .ok (.aload_n 0, 1) := by decide +kernel
theorem dX8_goOn_111 : decode cX8_goOn 111 = .ok (.getfield 54, 3) := by decide +kernel
theorem dX8_goOn_114 : decode cX8_goOn 114 = .ok (.putfield 29, 3) := by decide +kernel
theorem dX8_goOn_117 : decode cX8_goOn 117 = .ok (.aload_n 0, 1) := by decide +kernel
theorem dX8_goOn_118 : decode cX8_goOn 118 = .ok (.dup, 1) := by decide +kernel
theorem dX8_goOn_119 : decode cX8_goOn 119 = .ok (.getfield 49, 3) := by decide +kernel
theorem dX8_goOn_122 : decode cX8_goOn 122 = .ok (.aload_n 0, 1) := by decide +kernel
theorem dX8_goOn_123 : decode cX8_goOn 123 = .ok (.getfield 33, 3) := by decide +kernel
theorem dX8_goOn_126 : decode cX8_goOn 126 = .ok (.iadd, 1) := by decide +kernel
theorem dX8_goOn_127 : decode cX8_goOn 127 = .ok (.putfield 49, 3) := by decide +kernel
theorem dX8_goOn_130 : decode cX8_goOn 130 = .ok (.iload_n 3, 1) := by decide +kernel
theorem dX8_goOn_131 : decode cX8_goOn 131 = .ok (.ifCond .ne 16, 3) := by decide +kernel
theorem dX8_goOn_134 : decode cX8_goOn 134 = .ok (.aload_n 0, 1) := by decide +kernel
theorem dX8_goOn_135 : decode cX8_goOn 135 = .ok (.dup, 1) := by decide +kernel
theorem dX8_goOn_136 : decode cX8_goOn 136 = .ok (.getfield 53, 3) := by decide +kernel
theorem dX8_goOn_139 : decode cX8_goOn 139 = .ok (.aload_n 1, 1) := by decide +kernel
theorem dX8_goOn_140 : decode cX8_goOn 140 = .ok (.getfield 77, 3) := by decide +kernel
theorem dX8_goOn_143 : decode cX8_goOn 143 = .ok (.iadd, 1) := by decide +kernel
theorem dX8_goOn_144 : decode cX8_goOn 144 = .ok (.putfield 53, 3) := by decide +kernel
theorem dX8_goOn_147 : decode cX8_goOn 147 = .ok (.aload_n 0, 1) := by decide +kernel
theorem dX8_goOn_148 : decode cX8_goOn 148 = .ok (.dup, 1) := by decide +kernel
theorem dX8_goOn_149 : decode cX8_goOn 149 = .ok (.getfield 54, 3) := by decide +kernel
theorem dX8_goOn_152 : decode cX8_goOn 152 = .ok (.iconst 1, 1) := by decide +kernel
theorem dX8_goOn_153 : decode cX8_goOn 153 = .ok (.iadd, 1) := by decide +kernel
theorem dX8_goOn_154 : decode cX8_goOn 154 = .ok (.putfield 54, 3) := by decide +kernel
theorem dX8_goOn_157 : decode cX8_goOn 157 = .ok (.aload_n 0, 1) := by decide +kernel
theorem dX8_goOn_158 : decode cX8_goOn 158 = .ok (.getfield 33, 3) := by decide +kernel
theorem dX8_goOn_161 : decode cX8_goOn 161 = .ok (.ifCond .le 38, 3) := by decide +kernel
theorem dX8_goOn_164 : decode cX8_goOn 164 = .ok (.aload_n 0, 1) := by decide +kernel
theorem dX8_goOn_165 : decode cX8_goOn 165 = .ok (.getfield 49, 3) := by decide +kernel
theorem dX8_goOn_168 : decode cX8_goOn 168 = .ok (.iconst 0, 1) := by decide +kernel
theorem dX8_goOn_169 : decode cX8_goOn 169 = .ok (.bipush 40, 2) := by decide +kernel
theorem dX8_goOn_171 : decode cX8_goOn 171 = .ok (.invokestatic 90, 3) := by decide +kernel
theorem dX8_goOn_174 : decode cX8_goOn 174 = .ok (.ifCond .eq 25, 3) := by decide +kernel
theorem dX8_goOn_177 : decode cX8_goOn 177 = .ok (.aload_n 0, 1) := by decide +kernel
theorem dX8_goOn_178 : decode cX8_goOn 178 = .ok (.getfield 53, 3) := by decide +kernel
theorem dX8_goOn_181 : decode cX8_goOn 181 = .ok (.bipush (-8), 2) := by decide +kernel
theorem dX8_goOn_183 : decode cX8_goOn 183 = .ok (.bipush 8, 2) := by decide +kernel
theorem dX8_goOn_185 : decode cX8_goOn 185 = .ok (.invokestatic 90, 3) := by decide +kernel
theorem dX8_goOn_188 : decode cX8_goOn 188 = .ok (.ifCond .eq 11, 3) := by decide +kernel
theorem dX8_goOn_191 : decode cX8_goOn 191 = .ok (.aload_n 0, 1) := by decide +kernel
theorem dX8_goOn_192 : decode cX8_goOn 192 = .ok (.aload_n 0, 1) := by decide +kernel
theorem dX8_goOn_193 : decode cX8_goOn 193 = .ok (.getfield 54, 3) := by decide +kernel
theorem dX8_goOn_196 : decode cX8_goOn 196 = .ok (.putfield 21, 3) := by decide +kernel
theorem dX8_goOn_199 : decode cX8_goOn 199 = .ok (.return_, 1) := by decide +kernel
theorem dX8_go_0 : decode cX8_go 0 = .ok (.aload_n 0, 1) := by decide +kernel
theorem dX8_go_1 : decode cX8_go 1 = .ok (.aload_n 1, 1) := by decide +kernel
theorem dX8_go_2 : decode cX8_go 2 = .ok (.getfield 46, 3) := by decide +kernel
theorem dX8_go_5 : decode cX8_go 5 = .ok (.putfield 49, 3) := by decide +kernel
theorem dX8_go_8 : decode cX8_go 8 = .ok (.aload_n 0, 1) := by decide +kernel
theorem dX8_go_9 : decode cX8_go 9 = .ok (.aload_n 1, 1) := by decide +kernel
theorem dX8_go_10 : decode cX8_go 10 = .ok (.getfield 50, 3) := by decide +kernel
theorem dX8_go_13 : decode cX8_go 13 = .ok (.putfield 53, 3) := by decide +kernel
theorem dX8_go_16 : decode cX8_go 16 = .ok (.aload_n 0, 1) := by decide +kernel
theorem dX8_go_17 : decode cX8_go 17 = .ok (.iload_n 2, 1) := by decide +kernel
theorem dX8_go_18 : decode cX8_go 18 = .ok (.putfield 33, 3) := by decide +kernel
theorem dX8_go_21 : decode cX8_go 21 = .ok (.aload_n 0, 1) := by decide +kernel
theorem dX8_go_22 : decode cX8_go 22 = .ok (.iconst 0, 1) := by decide +kernel
theorem dX8_go_23 : decode cX8_go 23 = .ok (.putfield 54, 3) := by decide +kernel
theorem dX8_go_26 : decode cX8_go 26 = .ok (.aload_n 0, 1) := by decide +kernel
theorem dX8_go_27 : decode cX8_go 27 = .ok (.iconst (-1), 1) := by decide +kernel
theorem dX8_go_28 : decode cX8_go 28 = .ok (.putfield 25, 3) := by decide +kernel
theorem dX8_go_31 : decode cX8_go 31 = .ok (.aload_n 0, 1) := by decide +kernel
theorem dX8_go_32 : decode cX8_go 32 = .ok (.iconst (-1), 1) := by decide +kernel
theorem dX8_go_33 : decode cX8_go 33 = .ok (.putfield 29, 3) := by decide +kernel
theorem dX8_go_36 : decode cX8_go 36 = .ok (.aload_n 0, 1) := by decide +kernel
theorem dX8_go_37 : decode cX8_go 37 = .ok (.iconst (-1), 1) := by decide +kernel
theorem dX8_go_38 : decode cX8_go 38 = .ok (.putfield 21, 3) := by decide +kernel
theorem dX8_go_41 : decode cX8_go 41 = .ok (.iconst 0, 1) := by decide +kernel
theorem dX8_go_42 : decode cX8_go 42 = .ok (.istore 4, 2) := by decide +kernel
theorem dX8_go_44 : decode cX8_go 44 = .ok (.iload 4, 2) := by decide +kernel
theorem dX8_go_46 : decode cX8_go 46 = .ok (.iload_n 3, 1) := by decide +kernel
theorem dX8_go_47 : decode cX8_go 47 = .ok (.if_icmp .ge 22, 3) := by decide +kernel
theorem dX8_go_50 : decode cX8_go 50 = .ok (.aload_n 0, 1) := by decide +kernel
theorem dX8_go_51 : decode cX8_go 51 = .ok (.getfield 21, 3) := by decide +kernel
theorem dX8_go_54 : decode cX8_go 54 = .ok (.iconst (-1), 1) := by decide +kernel
theorem dX8_go_55 : decode cX8_go 55 = .ok (.if_icmp .ne 14, 3) := by decide +kernel
theorem dX8_go_58 : decode cX8_go 58 = .ok (.aload_n 0, 1) := by decide +kernel
theorem dX8_go_59 : decode cX8_go 59 = .ok (.aload_n 1, 1) := by decide +kernel
theorem dX8_go_60 : decode cX8_go 60 = .ok (.invokevirtual 57, 3) := by decide +kernel
theorem dX8_go_63 : decode cX8_go 63 = .ok (.iinc 4 1, 3) := by decide +kernel
theorem dX8_go_66 : decode cX8_go 66 = .ok (.goto (-22), 3) := by decide +kernel
theorem dX8_go_69 : decode cX8_go 69 = .ok (.aload_n 0, 1) := by decide +kernel
theorem dX8_go_70 : decode cX8_go 70 = .ok (.aload_n 0, 1) := by decide +kernel
theorem dX8_go_71 : decode cX8_go 71 = .ok (.aload_n 1, 1) := by decide +kernel
theorem dX8_go_72 : decode cX8_go 72 = .ok (.invokevirtual 61, 3) := by decide +kernel
theorem dX8_go_75 : decode cX8_go 75 = .ok (.invokevirtual 65, 3) := by decide +kernel
theorem dX8_go_78 : decode cX8_go 78 = .ok (.return_, 1) := by decide +kernel
theorem dX8_settle_0 : decode cX8_settle 0 = .ok (.aload_n 0, 1) := by decide +kernel
theorem dX8_settle_1 : decode cX8_settle 1 = .ok (.aload_n 1, 1) := by decide +kernel
theorem dX8_settle_2 : decode cX8_settle 2 = .ok (.aload_n 1, 1) := by decide +kernel
theorem dX8_settle_3 : decode cX8_settle 3 = .ok (.getfield 9, 3) := by decide +kernel
theorem dX8_settle_6 : decode cX8_settle 6 = .ok (.bipush 60, 2) := by decide +kernel
theorem dX8_settle_8 : decode cX8_settle 8 = .ok (.invokevirtual 17, 3) := by decide +kernel
theorem dX8_settle_11 : decode cX8_settle 11 = .ok (.aload_n 1, 1) := by decide +kernel
theorem dX8_settle_12 : decode cX8_settle 12 = .ok (.aload_n 0, 1) := by decide +kernel
theorem dX8_settle_13 : decode cX8_settle 13 = .ok (.getfield 21, 3) := by decide +kernel
theorem dX8_settle_16 : decode cX8_settle 16 = .ok (.putfield 24, 3) := by decide +kernel
theorem dX8_settle_19 : decode cX8_settle 19 = .ok (.aload_n 1, 1) := by decide +kernel
theorem dX8_settle_20 : decode cX8_settle 20 = .ok (.aload_n 0, 1) := by decide +kernel
theorem dX8_settle_21 : decode cX8_settle 21 = .ok (.getfield 25, 3) := by decide +kernel
theorem dX8_settle_24 : decode cX8_settle 24 = .ok (.putfield 28, 3) := by decide +kernel
theorem dX8_settle_27 : decode cX8_settle 27 = .ok (.aload_n 1, 1) := by decide +kernel
theorem dX8_settle_28 : decode cX8_settle 28 = .ok (.aload_n 0, 1) := by decide +kernel
theorem dX8_settle_29 : decode cX8_settle 29 = .ok (.getfield 29, 3) := by decide +kernel
theorem dX8_settle_32 : decode cX8_settle 32 = .ok (.putfield 32, 3) := by decide +kernel
theorem dX8_settle_35 : decode cX8_settle 35 = .ok (.aload_n 1, 1) := by decide +kernel
theorem dX8_settle_36 : decode cX8_settle 36 = .ok (.aload_n 0, 1) := by decide +kernel
theorem dX8_settle_37 : decode cX8_settle 37 = .ok (.getfield 21, 3) := by decide +kernel
theorem dX8_settle_40 : decode cX8_settle 40 = .ok (.iconst (-1), 1) := by decide +kernel
theorem dX8_settle_41 : decode cX8_settle 41 = .ok (.if_icmp .ne 7, 3) := by decide +kernel
theorem dX8_settle_44 : decode cX8_settle 44 = .ok (.iconst (-1), 1) := by decide +kernel
theorem dX8_settle_45 : decode cX8_settle 45 = .ok (.goto 7, 3) := by decide +kernel
theorem dX8_settle_48 : decode cX8_settle 48 = .ok (.aload_n 0, 1) := by decide +kernel
theorem dX8_settle_49 : decode cX8_settle 49 = .ok (.getfield 33, 3) := by decide +kernel
theorem dX8_settle_52 : decode cX8_settle 52 = .ok (.putfield 36, 3) := by decide +kernel
theorem dX8_settle_55 : decode cX8_settle 55 = .ok (.aload_n 1, 1) := by decide +kernel
theorem dX8_settle_56 : decode cX8_settle 56 = .ok (.iconst (-1), 1) := by decide +kernel
theorem dX8_settle_57 : decode cX8_settle 57 = .ok (.putfield 39, 3) := by decide +kernel
theorem dX8_settle_60 : decode cX8_settle 60 = .ok (.return_, 1) := by decide +kernel
theorem dX8_findSafeSpeed_0 : decode cX8_findSafeSpeed 0 = .ok (.aload_n 1, 1) := by decide +kernel
theorem dX8_findSafeSpeed_1 : decode cX8_findSafeSpeed 1 = .ok (.getfield 9, 3) := by decide +kernel
theorem dX8_findSafeSpeed_4 : decode cX8_findSafeSpeed 4 = .ok (.istore_n 2, 1) := by decide +kernel
theorem dX8_findSafeSpeed_5 : decode cX8_findSafeSpeed 5 = .ok (.iload_n 2, 1) := by decide +kernel
theorem dX8_findSafeSpeed_6 : decode cX8_findSafeSpeed 6 = .ok (.ifCond .le 27, 3) := by decide +kernel
theorem dX8_findSafeSpeed_9 : decode cX8_findSafeSpeed 9 = .ok (.aload_n 0, 1) := by decide +kernel
theorem dX8_findSafeSpeed_10 : decode cX8_findSafeSpeed 10 = .ok (.aload_n 1, 1) := by decide +kernel
theorem dX8_findSafeSpeed_11 : decode cX8_findSafeSpeed 11 = .ok (.iload_n 2, 1) := by decide +kernel
theorem dX8_findSafeSpeed_12 : decode cX8_findSafeSpeed 12 = .ok (.bipush 60, 2) := by decide +kernel
theorem dX8_findSafeSpeed_14 : decode cX8_findSafeSpeed 14 = .ok (.invokevirtual 17, 3) := by decide +kernel
theorem dX8_findSafeSpeed_17 : decode cX8_findSafeSpeed 17 = .ok (.aload_n 0, 1) := by decide +kernel
theorem dX8_findSafeSpeed_18 : decode cX8_findSafeSpeed 18 = .ok (.getfield 21, 3) := by decide +kernel
theorem dX8_findSafeSpeed_21 : decode cX8_findSafeSpeed 21 = .ok (.iconst (-1), 1) := by decide +kernel
theorem dX8_findSafeSpeed_22 : decode cX8_findSafeSpeed 22 = .ok (.if_icmp .ne 5, 3) := by decide +kernel
theorem dX8_findSafeSpeed_25 : decode cX8_findSafeSpeed 25 = .ok (.iload_n 2, 1) := by decide +kernel
theorem dX8_findSafeSpeed_26 : decode cX8_findSafeSpeed 26 = .ok (.ireturn, 1) := by decide +kernel
theorem dX8_findSafeSpeed_27 : decode cX8_findSafeSpeed 27 = .ok (.iinc 2 (-1), 3) := by decide +kernel
theorem dX8_findSafeSpeed_30 : decode cX8_findSafeSpeed 30 = .ok (.goto (-25), 3) := by decide +kernel
theorem dX8_findSafeSpeed_33 : decode cX8_findSafeSpeed 33 = .ok (.iconst 0, 1) := by decide +kernel
theorem dX8_findSafeSpeed_34 : decode cX8_findSafeSpeed 34 = .ok (.ireturn, 1) := by decide +kernel
theorem dX8_safeSpeed_0 : decode cX8_safeSpeed 0 = .ok (.aload_n 1, 1) := by decide +kernel
theorem dX8_safeSpeed_1 : decode cX8_safeSpeed 1 = .ok (.getfield 39, 3) := by decide +kernel
theorem dX8_safeSpeed_4 : decode cX8_safeSpeed 4 = .ok (.iconst (-1), 1) := by decide +kernel
theorem dX8_safeSpeed_5 : decode cX8_safeSpeed 5 = .ok (.if_icmp .ne 12, 3) := by decide +kernel
theorem dX8_safeSpeed_8 : decode cX8_safeSpeed 8 = .ok (.aload_n 1, 1) := by decide +kernel
theorem dX8_safeSpeed_9 : decode cX8_safeSpeed 9 = .ok (.aload_n 0, 1) := by decide +kernel
theorem dX8_safeSpeed_10 : decode cX8_safeSpeed 10 = .ok (.aload_n 1, 1) := by decide +kernel
theorem dX8_safeSpeed_11 : decode cX8_safeSpeed 11 = .ok (.invokevirtual 42, 3) := by decide +kernel
theorem dX8_safeSpeed_14 : decode cX8_safeSpeed 14 = .ok (.putfield 39, 3) := by decide +kernel
theorem dX8_safeSpeed_17 : decode cX8_safeSpeed 17 = .ok (.aload_n 1, 1) := by decide +kernel
theorem dX8_safeSpeed_18 : decode cX8_safeSpeed 18 = .ok (.getfield 39, 3) := by decide +kernel
theorem dX8_safeSpeed_21 : decode cX8_safeSpeed 21 = .ok (.ireturn, 1) := by decide +kernel
end
section
def f_X8_init (N : Nat) (v0 : Nat) (h : zH) : Option (Unit) := some ()
set_option maxRecDepth 100000 in
set_option maxHeartbeats 4000000 in
theorem k_X8_init {N : Nat} {v0 : Nat} {h : zH} {r : Unit} (H : f_X8_init N v0 h = some r) : zOk 1 0 0 yX8_init cX8_init 1 none [.ref v0] h none h := by
  refine zOk.of (by decide) (Nat.le_of_ble_eq_true rfl) ?_
  unfold f_X8_init at H
  refine z_aload_n (pc := 0) 0 dX8_init_0 rfl rfl ?_
  refine z_objInit (pc := 1) dX8_init_1 ml_X8_3 im_object cd_object (by omega) (Nat.le_of_ble_eq_true rfl) ?_
  cases H
  exact z_return rfl dX8_init_4

def f_X8_sees (N : Nat) (v0 : Nat) (v1 : Nat) (h : zH) : Option (Int32) := (gI h v1 6 7).bind fun x1 => (if x1 = 0 then (some 0) else ((gI h v0 8 0).bind fun x4 => (gI h v1 6 7).bind fun x5 => (if x5 ≤ x4 then (some (.inl ())) else ((gI h v0 8 1).bind fun x9 => (gI h v1 6 8).bind fun x10 => if x10 ≤ x9 then (some (.inl ())) else ((gI h v1 6 7).bind fun x12 => (gI h v0 8 1).bind fun x13 => (gI h v1 6 8).bind fun x14 => (gI h v0 8 0).bind fun x15 => (gI h v0 8 0).bind fun x16 => (gI h v0 8 1).bind fun x17 => if (x16 * x17) < ((x12 * x13) + (x14 * x15)) then (some (.inl ())) else ((some 1).map .inr))) : Option ((Unit) ⊕ (Int32))).bind fun m6 => zsum m6 fun s7 => some 0) : Option (Int32)).bind fun m2 => (gI h v0 8 0).bind fun x20 => if 0 ≤ x20 then (some 0) else ((gI h v0 8 1).bind fun x22 => if 0 ≤ x22 then (some 0) else (if m2 = 0 then (some 1) else (some 0)))
set_option maxRecDepth 100000 in
set_option maxHeartbeats 4000000 in
theorem k_X8_sees {N : Nat} {v0 : Nat} {v1 : Nat} {h : zH} {r : Int32} (H : f_X8_sees N v0 v1 h = some r) : zOk 0 0 0 yX8_sees cX8_sees 3 (some .boolean) [.ref v0, .ref v1] h (some (.int r)) h := by
  refine zOk.of (by decide) (Nat.le_of_ble_eq_true rfl) ?_
  unfold f_X8_sees at H
  refine z_aload_n (pc := 0) 1 dX8_sees_0 rfl rfl ?_
  obtain ⟨x1, ex1, H⟩ := zbind H
  refine z_getI (pc := 1) dX8_sees_1 fd_X8_103 ex1 ?_
  obtain ⟨m2, em2, H⟩ := zbind H
  have Jm2 : zW yX8_sees cX8_sees 3 (some .boolean) 0 0 0 65 [(0, .ref v0)] [.int m2] h (some (.int r)) h := by
    refine z_istore_n (pc := 65) (lv' := [(2, .int m2), (0, .ref v0)]) dX8_sees_65 rfl (by decide) rfl ?_
    refine z_aload_n (pc := 66) 1 dX8_sees_66 rfl rfl ?_
    obtain ⟨x20, ex20, H⟩ := zbind H
    refine z_getI (pc := 67) dX8_sees_67 fd_X8_49 ex20 ?_
    refine z_if_ge (pc := 70) 88 dX8_sees_70 (by decide) (fun c21 => ?_) (fun c21 => ?_)
    · rw [if_pos c21] at H
      refine z_iconst (pc := 88) (x := 0) dX8_sees_88 zc_iconst_0 ?_
      cases H
      exact z_zreturn rfl dX8_sees_89 (by decide)
    · rw [if_neg c21] at H
      refine z_aload_n (pc := 73) 1 dX8_sees_73 rfl rfl ?_
      obtain ⟨x22, ex22, H⟩ := zbind H
      refine z_getI (pc := 74) dX8_sees_74 fd_X8_53 ex22 ?_
      refine z_if_ge (pc := 77) 88 dX8_sees_77 (by decide) (fun c23 => ?_) (fun c23 => ?_)
      · rw [if_pos c23] at H
        refine z_iconst (pc := 88) (x := 0) dX8_sees_88 zc_iconst_0 ?_
        cases H
        exact z_zreturn rfl dX8_sees_89 (by decide)
      · rw [if_neg c23] at H
        refine z_iload_n (pc := 80) 0 dX8_sees_80 rfl rfl ?_
        refine z_if_ne (pc := 81) 88 dX8_sees_81 (by decide) (fun c24 => ?_) (fun c24 => ?_)
        · rw [if_neg c24] at H
          refine z_iconst (pc := 88) (x := 0) dX8_sees_88 zc_iconst_0 ?_
          cases H
          exact z_zreturn rfl dX8_sees_89 (by decide)
        · rw [if_pos c24] at H
          refine z_iconst (pc := 84) (x := 1) dX8_sees_84 zc_iconst_1 ?_
          refine z_goto (pc := 85) 89 dX8_sees_85 (by decide) ?_
          cases H
          exact z_zreturn rfl dX8_sees_89 (by decide)
  refine z_if_eq (pc := 4) 64 dX8_sees_4 (by decide) (fun c3 => ?_) (fun c3 => ?_)
  · rw [if_pos c3] at em2
    refine z_iconst (pc := 64) (x := 0) dX8_sees_64 zc_iconst_0 ?_
    cases em2
    exact z_sub [0] rfl Jm2
  · rw [if_neg c3] at em2
    refine z_aload_n (pc := 7) 0 dX8_sees_7 rfl rfl ?_
    obtain ⟨x4, ex4, em2⟩ := zbind em2
    refine z_getI (pc := 8) dX8_sees_8 fd_X8_49 ex4 ?_
    refine z_aload_n (pc := 11) 1 dX8_sees_11 rfl rfl ?_
    obtain ⟨x5, ex5, em2⟩ := zbind em2
    refine z_getI (pc := 12) dX8_sees_12 fd_X8_103 ex5 ?_
    obtain ⟨m6, em6, em2⟩ := zbind em2
    have Jm6 : ∀ s7, m6 = .inl s7 → zW yX8_sees cX8_sees 3 (some .boolean) 0 0 0 64 [(0, .ref v0)] [] h (some (.int r)) h := by
      intro s7 e9
      subst e9
      have em2 := zsumL em2
      refine z_iconst (pc := 64) (x := 0) dX8_sees_64 zc_iconst_0 ?_
      cases em2
      exact z_sub [0] rfl Jm2
    refine z_icmp_ge (pc := 15) 64 dX8_sees_15 (by decide) (fun c8 => ?_) (fun c8 => ?_)
    · rw [if_pos c8] at em6
      cases em6
      exact z_sub [0] rfl (Jm6 _ rfl)
    · rw [if_neg c8] at em6
      refine z_aload_n (pc := 18) 0 dX8_sees_18 rfl rfl ?_
      obtain ⟨x9, ex9, em6⟩ := zbind em6
      refine z_getI (pc := 19) dX8_sees_19 fd_X8_53 ex9 ?_
      refine z_aload_n (pc := 22) 1 dX8_sees_22 rfl rfl ?_
      obtain ⟨x10, ex10, em6⟩ := zbind em6
      refine z_getI (pc := 23) dX8_sees_23 fd_X8_106 ex10 ?_
      refine z_icmp_ge (pc := 26) 64 dX8_sees_26 (by decide) (fun c11 => ?_) (fun c11 => ?_)
      · rw [if_pos c11] at em6
        cases em6
        exact z_sub [0] rfl (Jm6 _ rfl)
      · rw [if_neg c11] at em6
        refine z_aload_n (pc := 29) 1 dX8_sees_29 rfl rfl ?_
        obtain ⟨x12, ex12, em6⟩ := zbind em6
        refine z_getI (pc := 30) dX8_sees_30 fd_X8_103 ex12 ?_
        refine z_aload_n (pc := 33) 0 dX8_sees_33 rfl rfl ?_
        obtain ⟨x13, ex13, em6⟩ := zbind em6
        refine z_getI (pc := 34) dX8_sees_34 fd_X8_53 ex13 ?_
        refine z_imul (pc := 37) dX8_sees_37 ?_
        refine z_aload_n (pc := 38) 1 dX8_sees_38 rfl rfl ?_
        obtain ⟨x14, ex14, em6⟩ := zbind em6
        refine z_getI (pc := 39) dX8_sees_39 fd_X8_106 ex14 ?_
        refine z_aload_n (pc := 42) 0 dX8_sees_42 rfl rfl ?_
        obtain ⟨x15, ex15, em6⟩ := zbind em6
        refine z_getI (pc := 43) dX8_sees_43 fd_X8_49 ex15 ?_
        refine z_imul (pc := 46) dX8_sees_46 ?_
        refine z_iadd (pc := 47) dX8_sees_47 ?_
        refine z_aload_n (pc := 48) 0 dX8_sees_48 rfl rfl ?_
        obtain ⟨x16, ex16, em6⟩ := zbind em6
        refine z_getI (pc := 49) dX8_sees_49 fd_X8_49 ex16 ?_
        refine z_aload_n (pc := 52) 0 dX8_sees_52 rfl rfl ?_
        obtain ⟨x17, ex17, em6⟩ := zbind em6
        refine z_getI (pc := 53) dX8_sees_53 fd_X8_53 ex17 ?_
        refine z_imul (pc := 56) dX8_sees_56 ?_
        refine z_icmp_gt (pc := 57) 64 dX8_sees_57 (by decide) (fun c18 => ?_) (fun c18 => ?_)
        · rw [if_pos c18] at em6
          cases em6
          exact z_sub [0] rfl (Jm6 _ rfl)
        · rw [if_neg c18] at em6
          refine z_iconst (pc := 60) (x := 1) dX8_sees_60 zc_iconst_1 ?_
          refine z_goto (pc := 61) 65 dX8_sees_61 (by decide) ?_
          obtain ⟨o19, H9, e9⟩ := zmapR em6
          subst e9
          have H9 := H9.trans (zsumR em2)
          cases H9
          exact z_sub [0] rfl Jm2

def f_X8_notice (N : Nat) (v0 : Nat) (v1 : Int32) (h : zH) : Option (zH) := if v1 = 0 then (some h) else ((gI h v0 8 4).bind fun x2 => if x2 = (-1) then ((gI h v0 8 3).bind fun x4 => (pF h v0 8 4 (.int x4)).bind fun h5 => some h5) else (some h))
set_option maxRecDepth 100000 in
set_option maxHeartbeats 4000000 in
theorem k_X8_notice {N : Nat} {v0 : Nat} {v1 : Int32} {h : zH} {r : zH} (H : f_X8_notice N v0 v1 h = some r) : zOk 0 0 0 yX8_notice cX8_notice 2 none [.ref v0, .int v1] h none r := by
  refine zOk.of (by decide) (Nat.le_of_ble_eq_true rfl) ?_
  unfold f_X8_notice at H
  refine z_iload_n (pc := 0) 1 dX8_notice_0 rfl rfl ?_
  refine z_if_eq (pc := 1) 20 dX8_notice_1 (by decide) (fun c1 => ?_) (fun c1 => ?_)
  · rw [if_pos c1] at H
    cases H
    exact z_return rfl dX8_notice_20
  · rw [if_neg c1] at H
    refine z_aload_n (pc := 4) 0 dX8_notice_4 rfl rfl ?_
    obtain ⟨x2, ex2, H⟩ := zbind H
    refine z_getI (pc := 5) dX8_notice_5 fd_X8_25 ex2 ?_
    refine z_iconst (pc := 8) (x := (-1)) dX8_notice_8 zc_iconst_m1 ?_
    refine z_icmp_ne (pc := 9) 20 dX8_notice_9 (by decide) (fun c3 => ?_) (fun c3 => ?_)
    · rw [if_neg c3] at H
      cases H
      exact z_return rfl dX8_notice_20
    · rw [if_pos c3] at H
      refine z_aload_n (pc := 12) 0 dX8_notice_12 rfl rfl ?_
      refine z_aload_n (pc := 13) 0 dX8_notice_13 rfl rfl ?_
      obtain ⟨x4, ex4, H⟩ := zbind H
      refine z_getI (pc := 14) dX8_notice_14 fd_X8_54 ex4 ?_
      obtain ⟨h5, eh5, H⟩ := zbind H
      refine z_put (pc := 17) dX8_notice_17 fd_X8_25 rfl rfl eh5 ?_
      cases H
      exact z_return rfl dX8_notice_20

def f_X11_up (N : Nat) (v0 : Int32) (v1 : Int32) (h : zH) : Option (Int32) := if 0 < v1 then (zdiv v1 <| some (((v0 + v1) - 1) / v1)) else (some 0)
set_option maxRecDepth 100000 in
set_option maxHeartbeats 4000000 in
theorem k_X11_up {N : Nat} {v0 : Int32} {v1 : Int32} {h : zH} {r : Int32} (H : f_X11_up N v0 v1 h = some r) : zOk 0 0 0 yX11_up cX11_up 2 (some .int) [.int v0, .int v1] h (some (.int r)) h := by
  refine zOk.of (by decide) (Nat.le_of_ble_eq_true rfl) ?_
  unfold f_X11_up at H
  refine z_iload_n (pc := 0) 1 dX11_up_0 rfl rfl ?_
  refine z_if_gt (pc := 1) 8 dX11_up_1 (by decide) (fun c1 => ?_) (fun c1 => ?_)
  · rw [if_pos c1] at H
    refine z_iload_n (pc := 8) 0 dX11_up_8 rfl rfl ?_
    refine z_iload_n (pc := 9) 1 dX11_up_9 rfl rfl ?_
    refine z_iadd (pc := 10) dX11_up_10 ?_
    refine z_iconst (pc := 11) (x := 1) dX11_up_11 zc_iconst_1 ?_
    refine z_isub (pc := 12) dX11_up_12 ?_
    refine z_iload_n (pc := 13) 1 dX11_up_13 rfl rfl ?_
    obtain ⟨z2, H⟩ := zdivE H
    refine z_idiv (pc := 14) dX11_up_14 z2 ?_
    cases H
    exact z_ireturn rfl dX11_up_15
  · rw [if_neg c1] at H
    refine z_iconst (pc := 4) (x := 0) dX11_up_4 zc_iconst_0 ?_
    refine z_goto (pc := 5) 15 dX11_up_5 (by decide) ?_
    cases H
    exact z_ireturn rfl dX11_up_15

def f_X8_brake (N : Nat) (v0 : Nat) (v1 : Int32) (h : zH) : Option (zH) := if v1 < 0 then (some h) else ((aN h (h.1.2 0)).bind fun x2 => if x2 ≤ v1 then (some h) else ((gI h v0 8 2).bind fun x4 => (aI h (h.1.2 0) v1).bind fun x5 => (pF h v0 8 2 (.int (if 0 < (x4 - x5) then (x4 - x5) else 0))).bind fun h6 => some h6))
set_option maxRecDepth 100000 in
set_option maxHeartbeats 4000000 in
theorem k_X8_brake {N : Nat} {v0 : Nat} {v1 : Int32} {h : zH} {r : zH} (H : f_X8_brake N v0 v1 h = some r) : zOk 1 0 0 yX8_brake cX8_brake 2 none [.ref v0, .int v1] h none r := by
  refine zOk.of (by decide) (Nat.le_of_ble_eq_true rfl) ?_
  unfold f_X8_brake at H
  refine z_iload_n (pc := 0) 1 dX8_brake_0 rfl rfl ?_
  refine z_if_lt (pc := 1) 30 dX8_brake_1 (by decide) (fun c1 => ?_) (fun c1 => ?_)
  · rw [if_pos c1] at H
    cases H
    exact z_return rfl dX8_brake_30
  · rw [if_neg c1] at H
    refine z_iload_n (pc := 4) 1 dX8_brake_4 rfl rfl ?_
    refine z_brakes (pc := 5) dX8_brake_5 fs_X8_94 ?_
    obtain ⟨x2, ex2, H⟩ := zbind H
    refine z_alen (pc := 8) dX8_brake_8 ex2 ?_
    refine z_icmp_ge (pc := 9) 30 dX8_brake_9 (by decide) (fun c3 => ?_) (fun c3 => ?_)
    · rw [if_pos c3] at H
      cases H
      exact z_return rfl dX8_brake_30
    · rw [if_neg c3] at H
      refine z_aload_n (pc := 12) 0 dX8_brake_12 rfl rfl ?_
      refine z_iconst (pc := 13) (x := 0) dX8_brake_13 zc_iconst_0 ?_
      refine z_aload_n (pc := 14) 0 dX8_brake_14 rfl rfl ?_
      obtain ⟨x4, ex4, H⟩ := zbind H
      refine z_getI (pc := 15) dX8_brake_15 fd_X8_33 ex4 ?_
      refine z_brakes (pc := 18) dX8_brake_18 fs_X8_94 ?_
      refine z_iload_n (pc := 21) 1 dX8_brake_21 rfl rfl ?_
      obtain ⟨x5, ex5, H⟩ := zbind H
      refine z_iaload (pc := 22) dX8_brake_22 ex5 ?_
      refine z_isub (pc := 23) dX8_brake_23 ?_
      refine z_mmax (pc := 24) dX8_brake_24 ml_X8_98 mx_1 mx_2 mx_3 (by omega) (Nat.le_of_ble_eq_true rfl) ?_
      obtain ⟨h6, eh6, H⟩ := zbind H
      refine z_put (pc := 27) dX8_brake_27 fd_X8_33 rfl rfl eh6 ?_
      cases H
      exact z_return rfl dX8_brake_30

def p_X11_within (v0 : Int32) (v1 : Int32) (v2 : Int32) : Int32 := if v0 < v1 then (0) else (if v2 < v0 then (0) else (1))
set_option maxRecDepth 100000 in
set_option maxHeartbeats 4000000 in
theorem k_X11_within (v0 : Int32) (v1 : Int32) (v2 : Int32) (h : zH) (r : Int32) (H : p_X11_within v0 v1 v2 = r) : zOk 0 0 0 yX11_within cX11_within 3 (some .boolean) [.int v0, .int v1, .int v2] h (some (.int r)) h := by
  refine zOk.of (by decide) (Nat.le_of_ble_eq_true rfl) ?_
  unfold p_X11_within at H
  refine z_iload_n (pc := 0) 0 dX11_within_0 rfl rfl ?_
  refine z_iload_n (pc := 1) 1 dX11_within_1 rfl rfl ?_
  refine z_icmp_lt (pc := 2) 14 dX11_within_2 (by decide) (fun c1 => ?_) (fun c1 => ?_)
  · rw [if_pos c1] at H
    refine z_iconst (pc := 14) (x := 0) dX11_within_14 zc_iconst_0 ?_
    subst H
    exact z_zreturn rfl dX11_within_15 (by decide)
  · rw [if_neg c1] at H
    refine z_iload_n (pc := 5) 0 dX11_within_5 rfl rfl ?_
    refine z_iload_n (pc := 6) 2 dX11_within_6 rfl rfl ?_
    refine z_icmp_gt (pc := 7) 14 dX11_within_7 (by decide) (fun c2 => ?_) (fun c2 => ?_)
    · rw [if_pos c2] at H
      refine z_iconst (pc := 14) (x := 0) dX11_within_14 zc_iconst_0 ?_
      subst H
      exact z_zreturn rfl dX11_within_15 (by decide)
    · rw [if_neg c2] at H
      refine z_iconst (pc := 10) (x := 1) dX11_within_10 zc_iconst_1 ?_
      refine z_goto (pc := 11) 15 dX11_within_11 (by decide) ?_
      subst H
      exact z_zreturn rfl dX11_within_15 (by decide)

def f_X8_goOn (N : Nat) (v0 : Nat) (v1 : Nat) (h : zH) : Option (zH) := zif (zob h v0 8) <| (f_X8_sees N v0 v1 h).bind fun q2 => zif (zob h v0 8) <| (f_X8_notice N v0 q2 h).bind fun h4 => (gI h4 v1 6 5).bind fun x5 => (if x5 = 0 then (some 0) else ((if q2 = 0 then (some (.inl ())) else ((gI h4 v0 8 2).bind fun x11 => if x11 ≤ 0 then (some (.inl ())) else ((gI h4 v0 8 0).bind fun x13 => (gI h4 v0 8 2).bind fun x14 => (f_X11_up N (-x13) x14 h4).bind fun q15 => (gI h4 v0 8 1).bind fun x16 => (gI h4 v1 6 4).bind fun x17 => (f_X11_up N (-x16) x17 h4).bind fun q18 => if q18 < q15 then (some (.inl ())) else ((some 1).map .inr))) : Option ((Unit) ⊕ (Int32))).bind fun m8 => zsum m8 fun s9 => some 0) : Option (Int32)).bind fun m6 => (gI h4 v0 8 4).bind fun x21 => (if x21 = (-1) then (some h4) else ((gI h4 v0 8 3).bind fun x24 => (gI h4 v0 8 4).bind fun x25 => (gI h4 v1 6 2).bind fun x26 => if x24 < (x25 + x26) then (some h4) else ((gI h4 v1 6 9).bind fun x28 => zif (zob h4 v0 8) <| (f_X8_brake N v0 x28 h4).bind fun h30 => some h30)) : Option (zH)).bind fun m22 => (gI m22 v0 8 2).bind fun x31 => (if x31 = 0 then ((gI m22 v0 8 5).bind fun x34 => if x34 = (-1) then ((gI m22 v0 8 3).bind fun x36 => (pF m22 v0 8 5 (.int x36)).bind fun h37 => some h37) else (some m22)) else (some m22) : Option (zH)).bind fun m32 => (gI m32 v0 8 0).bind fun x38 => (gI m32 v0 8 2).bind fun x39 => (pF m32 v0 8 0 (.int (x38 + x39))).bind fun h40 => (if m6 = 0 then ((gI h40 v0 8 1).bind fun x43 => (gI h40 v1 6 4).bind fun x44 => (pF h40 v0 8 1 (.int (x43 + x44))).bind fun h45 => some h45) else (some h40) : Option (zH)).bind fun m41 => (gI m41 v0 8 3).bind fun x46 => (pF m41 v0 8 3 (.int (x46 + 1))).bind fun h47 => (gI h47 v0 8 2).bind fun x48 => if x48 ≤ 0 then (some h47) else ((gI h47 v0 8 0).bind fun x50 => if (p_X11_within x50 0 40) = 0 then (some h47) else ((gI h47 v0 8 1).bind fun x52 => if (p_X11_within x52 (-8) 8) = 0 then (some h47) else ((gI h47 v0 8 3).bind fun x54 => (pF h47 v0 8 6 (.int x54)).bind fun h55 => some h55)))
set_option maxRecDepth 100000 in
set_option maxHeartbeats 4000000 in
theorem k_X8_goOn {N : Nat} {v0 : Nat} {v1 : Nat} {h : zH} {r : zH} (H : f_X8_goOn N v0 v1 h = some r) : zOk 2 0 0 yX8_goOn cX8_goOn 4 none [.ref v0, .ref v1] h none r := by
  refine zOk.of (by decide) (Nat.le_of_ble_eq_true rfl) ?_
  unfold f_X8_goOn at H
  refine z_aload_n (pc := 0) 0 dX8_goOn_0 rfl rfl ?_
  refine z_aload_n (pc := 1) 1 dX8_goOn_1 rfl rfl ?_
  obtain ⟨z1, H⟩ := zifE H
  obtain ⟨q2, eq2, H⟩ := zbind H
  refine z_callV (pc := 2) (mc := 0) (ms := 0) (d' := 0) (mc' := 0) (ms' := 0) (rest := []) [.ref v1] dX8_goOn_2 md_X8_sees ml_X8_61 im_X8_sees se_X8_sees rfl z1 rfl rfl (Nat.le_of_ble_eq_true rfl) (by omega) (k_X8_sees eq2) ?_
  refine z_istore_n (pc := 5) (lv' := [(2, .int q2), (0, .ref v0), (1, .ref v1)]) dX8_goOn_5 rfl (by decide) rfl ?_
  refine z_aload_n (pc := 6) 1 dX8_goOn_6 rfl rfl ?_
  refine z_iload_n (pc := 7) 0 dX8_goOn_7 rfl rfl ?_
  obtain ⟨z3, H⟩ := zifE H
  obtain ⟨h4, eh4, H⟩ := zbind H
  refine z_callV (pc := 8) (mc := 0) (ms := 0) (d' := 0) (mc' := 0) (ms' := 0) (rest := []) [.int q2] dX8_goOn_8 md_X8_notice ml_X8_65 im_X8_notice se_X8_notice rfl z3 rfl rfl (Nat.le_of_ble_eq_true rfl) (by omega) (k_X8_notice eh4) ?_
  refine z_aload_n (pc := 11) 2 dX8_goOn_11 rfl rfl ?_
  obtain ⟨x5, ex5, H⟩ := zbind H
  refine z_getI (pc := 12) dX8_goOn_12 fd_X8_69 ex5 ?_
  obtain ⟨m6, em6, H⟩ := zbind H
  have Jm6 : zW yX8_goOn cX8_goOn 4 none 2 0 0 61 [(0, .ref v0), (1, .ref v1)] [.int m6] h4 none r := by
    refine z_istore_n (pc := 61) (lv' := [(3, .int m6), (0, .ref v0), (1, .ref v1)]) dX8_goOn_61 rfl (by decide) rfl ?_
    refine z_aload_n (pc := 62) 1 dX8_goOn_62 rfl rfl ?_
    obtain ⟨x21, ex21, H⟩ := zbind H
    refine z_getI (pc := 63) dX8_goOn_63 fd_X8_25 ex21 ?_
    refine z_iconst (pc := 66) (x := (-1)) dX8_goOn_66 zc_iconst_m1 ?_
    obtain ⟨m22, em22, H⟩ := zbind H
    have Jm22 : zW yX8_goOn cX8_goOn 4 none 2 0 0 94 [(0, .ref v0), (1, .ref v1), (3, .int m6)] [] m22 none r := by
      refine z_aload_n (pc := 94) 0 dX8_goOn_94 rfl rfl ?_
      obtain ⟨x31, ex31, H⟩ := zbind H
      refine z_getI (pc := 95) dX8_goOn_95 fd_X8_33 ex31 ?_
      obtain ⟨m32, em32, H⟩ := zbind H
      have Jm32 : zW yX8_goOn cX8_goOn 4 none 2 0 0 117 [(0, .ref v0), (1, .ref v1), (3, .int m6)] [] m32 none r := by
        refine z_aload_n (pc := 117) 0 dX8_goOn_117 rfl rfl ?_
        refine z_dup (pc := 118) dX8_goOn_118 rfl ?_
        obtain ⟨x38, ex38, H⟩ := zbind H
        refine z_getI (pc := 119) dX8_goOn_119 fd_X8_49 ex38 ?_
        refine z_aload_n (pc := 122) 0 dX8_goOn_122 rfl rfl ?_
        obtain ⟨x39, ex39, H⟩ := zbind H
        refine z_getI (pc := 123) dX8_goOn_123 fd_X8_33 ex39 ?_
        refine z_iadd (pc := 126) dX8_goOn_126 ?_
        obtain ⟨h40, eh40, H⟩ := zbind H
        refine z_put (pc := 127) dX8_goOn_127 fd_X8_49 rfl rfl eh40 ?_
        refine z_iload_n (pc := 130) 2 dX8_goOn_130 rfl rfl ?_
        obtain ⟨m41, em41, H⟩ := zbind H
        have Jm41 : zW yX8_goOn cX8_goOn 4 none 2 0 0 147 [(0, .ref v0)] [] m41 none r := by
          refine z_aload_n (pc := 147) 0 dX8_goOn_147 rfl rfl ?_
          refine z_dup (pc := 148) dX8_goOn_148 rfl ?_
          obtain ⟨x46, ex46, H⟩ := zbind H
          refine z_getI (pc := 149) dX8_goOn_149 fd_X8_54 ex46 ?_
          refine z_iconst (pc := 152) (x := 1) dX8_goOn_152 zc_iconst_1 ?_
          refine z_iadd (pc := 153) dX8_goOn_153 ?_
          obtain ⟨h47, eh47, H⟩ := zbind H
          refine z_put (pc := 154) dX8_goOn_154 fd_X8_54 rfl rfl eh47 ?_
          refine z_aload_n (pc := 157) 0 dX8_goOn_157 rfl rfl ?_
          obtain ⟨x48, ex48, H⟩ := zbind H
          refine z_getI (pc := 158) dX8_goOn_158 fd_X8_33 ex48 ?_
          refine z_if_le (pc := 161) 199 dX8_goOn_161 (by decide) (fun c49 => ?_) (fun c49 => ?_)
          · rw [if_pos c49] at H
            cases H
            exact z_return rfl dX8_goOn_199
          · rw [if_neg c49] at H
            refine z_aload_n (pc := 164) 0 dX8_goOn_164 rfl rfl ?_
            obtain ⟨x50, ex50, H⟩ := zbind H
            refine z_getI (pc := 165) dX8_goOn_165 fd_X8_49 ex50 ?_
            refine z_iconst (pc := 168) (x := 0) dX8_goOn_168 zc_iconst_0 ?_
            refine z_bipush (pc := 169) (x := 40) dX8_goOn_169 zc_bipush_40 ?_
            refine z_callSN (pc := 171) (mc := 0) (ms := 0) (d' := 0) (mc' := 0) (ms' := 0) (rest := []) [.int x50, .int 0, .int 40] dX8_goOn_171 md_X11_within ns_X8_90 sm_X11_within rfl rfl (Nat.le_of_ble_eq_true rfl) (by omega) (k_X11_within x50 0 40 h47 _ rfl) ?_
            refine z_if_eq (pc := 174) 199 dX8_goOn_174 (by decide) (fun c51 => ?_) (fun c51 => ?_)
            · rw [if_pos c51] at H
              cases H
              exact z_return rfl dX8_goOn_199
            · rw [if_neg c51] at H
              refine z_aload_n (pc := 177) 0 dX8_goOn_177 rfl rfl ?_
              obtain ⟨x52, ex52, H⟩ := zbind H
              refine z_getI (pc := 178) dX8_goOn_178 fd_X8_53 ex52 ?_
              refine z_bipush (pc := 181) (x := (-8)) dX8_goOn_181 zc_bipush_m8 ?_
              refine z_bipush (pc := 183) (x := 8) dX8_goOn_183 zc_bipush_8 ?_
              refine z_callSN (pc := 185) (mc := 0) (ms := 0) (d' := 0) (mc' := 0) (ms' := 0) (rest := []) [.int x52, .int (-8), .int 8] dX8_goOn_185 md_X11_within ns_X8_90 sm_X11_within rfl rfl (Nat.le_of_ble_eq_true rfl) (by omega) (k_X11_within x52 (-8) 8 h47 _ rfl) ?_
              refine z_if_eq (pc := 188) 199 dX8_goOn_188 (by decide) (fun c53 => ?_) (fun c53 => ?_)
              · rw [if_pos c53] at H
                cases H
                exact z_return rfl dX8_goOn_199
              · rw [if_neg c53] at H
                refine z_aload_n (pc := 191) 0 dX8_goOn_191 rfl rfl ?_
                refine z_aload_n (pc := 192) 0 dX8_goOn_192 rfl rfl ?_
                obtain ⟨x54, ex54, H⟩ := zbind H
                refine z_getI (pc := 193) dX8_goOn_193 fd_X8_54 ex54 ?_
                obtain ⟨h55, eh55, H⟩ := zbind H
                refine z_put (pc := 196) dX8_goOn_196 fd_X8_21 rfl rfl eh55 ?_
                cases H
                exact z_return rfl dX8_goOn_199
        refine z_if_ne (pc := 131) 147 dX8_goOn_131 (by decide) (fun c42 => ?_) (fun c42 => ?_)
        · rw [if_neg c42] at em41
          cases em41
          exact z_sub [0] rfl Jm41
        · rw [if_pos c42] at em41
          refine z_aload_n (pc := 134) 0 dX8_goOn_134 rfl rfl ?_
          refine z_dup (pc := 135) dX8_goOn_135 rfl ?_
          obtain ⟨x43, ex43, em41⟩ := zbind em41
          refine z_getI (pc := 136) dX8_goOn_136 fd_X8_53 ex43 ?_
          refine z_aload_n (pc := 139) 1 dX8_goOn_139 rfl rfl ?_
          obtain ⟨x44, ex44, em41⟩ := zbind em41
          refine z_getI (pc := 140) dX8_goOn_140 fd_X8_77 ex44 ?_
          refine z_iadd (pc := 143) dX8_goOn_143 ?_
          obtain ⟨h45, eh45, em41⟩ := zbind em41
          refine z_put (pc := 144) dX8_goOn_144 fd_X8_53 rfl rfl eh45 ?_
          cases em41
          exact z_sub [0] rfl Jm41
      refine z_if_ne (pc := 98) 117 dX8_goOn_98 (by decide) (fun c33 => ?_) (fun c33 => ?_)
      · rw [if_neg c33] at em32
        cases em32
        exact z_sub [0, 1, 2] rfl Jm32
      · rw [if_pos c33] at em32
        refine z_aload_n (pc := 101) 0 dX8_goOn_101 rfl rfl ?_
        obtain ⟨x34, ex34, em32⟩ := zbind em32
        refine z_getI (pc := 102) dX8_goOn_102 fd_X8_29 ex34 ?_
        refine z_iconst (pc := 105) (x := (-1)) dX8_goOn_105 zc_iconst_m1 ?_
        refine z_icmp_ne (pc := 106) 117 dX8_goOn_106 (by decide) (fun c35 => ?_) (fun c35 => ?_)
        · rw [if_neg c35] at em32
          cases em32
          exact z_sub [0, 1, 2] rfl Jm32
        · rw [if_pos c35] at em32
          refine z_aload_n (pc := 109) 0 dX8_goOn_109 rfl rfl ?_
          refine z_aload_n (pc := 110) 0 dX8_goOn_110 rfl rfl ?_
          obtain ⟨x36, ex36, em32⟩ := zbind em32
          refine z_getI (pc := 111) dX8_goOn_111 fd_X8_54 ex36 ?_
          obtain ⟨h37, eh37, em32⟩ := zbind em32
          refine z_put (pc := 114) dX8_goOn_114 fd_X8_29 rfl rfl eh37 ?_
          cases em32
          exact z_sub [0, 1, 2] rfl Jm32
    refine z_icmp_eq (pc := 67) 94 dX8_goOn_67 (by decide) (fun c23 => ?_) (fun c23 => ?_)
    · rw [if_pos c23] at em22
      cases em22
      exact z_sub [1, 2, 0] rfl Jm22
    · rw [if_neg c23] at em22
      refine z_aload_n (pc := 70) 1 dX8_goOn_70 rfl rfl ?_
      obtain ⟨x24, ex24, em22⟩ := zbind em22
      refine z_getI (pc := 71) dX8_goOn_71 fd_X8_54 ex24 ?_
      refine z_aload_n (pc := 74) 1 dX8_goOn_74 rfl rfl ?_
      obtain ⟨x25, ex25, em22⟩ := zbind em22
      refine z_getI (pc := 75) dX8_goOn_75 fd_X8_25 ex25 ?_
      refine z_aload_n (pc := 78) 2 dX8_goOn_78 rfl rfl ?_
      obtain ⟨x26, ex26, em22⟩ := zbind em22
      refine z_getI (pc := 79) dX8_goOn_79 fd_X8_80 ex26 ?_
      refine z_iadd (pc := 82) dX8_goOn_82 ?_
      refine z_icmp_lt (pc := 83) 94 dX8_goOn_83 (by decide) (fun c27 => ?_) (fun c27 => ?_)
      · rw [if_pos c27] at em22
        cases em22
        exact z_sub [1, 2, 0] rfl Jm22
      · rw [if_neg c27] at em22
        refine z_aload_n (pc := 86) 1 dX8_goOn_86 rfl rfl ?_
        refine z_aload_n (pc := 87) 2 dX8_goOn_87 rfl rfl ?_
        obtain ⟨x28, ex28, em22⟩ := zbind em22
        refine z_getI (pc := 88) dX8_goOn_88 fd_X8_83 ex28 ?_
        obtain ⟨z29, em22⟩ := zifE em22
        obtain ⟨h30, eh30, em22⟩ := zbind em22
        refine z_callV (pc := 91) (mc := 0) (ms := 0) (d' := 1) (mc' := 0) (ms' := 0) (rest := []) [.int x28] dX8_goOn_91 md_X8_brake ml_X8_86 im_X8_brake se_X8_brake rfl z29 rfl rfl (Nat.le_of_ble_eq_true rfl) (by omega) (k_X8_brake eh30) ?_
        cases em22
        exact z_sub [1, 2, 0] rfl Jm22
  refine z_if_eq (pc := 15) 60 dX8_goOn_15 (by decide) (fun c7 => ?_) (fun c7 => ?_)
  · rw [if_pos c7] at em6
    refine z_iconst (pc := 60) (x := 0) dX8_goOn_60 zc_iconst_0 ?_
    cases em6
    exact z_sub [1, 2] rfl Jm6
  · rw [if_neg c7] at em6
    refine z_iload_n (pc := 18) 0 dX8_goOn_18 rfl rfl ?_
    obtain ⟨m8, em8, em6⟩ := zbind em6
    have Jm8 : ∀ s9, m8 = .inl s9 → zW yX8_goOn cX8_goOn 4 none 2 0 0 60 [(0, .ref v0), (1, .ref v1)] [] h4 none r := by
      intro s9 e9
      subst e9
      have em6 := zsumL em6
      refine z_iconst (pc := 60) (x := 0) dX8_goOn_60 zc_iconst_0 ?_
      cases em6
      exact z_sub [0, 1] rfl Jm6
    refine z_if_eq (pc := 19) 60 dX8_goOn_19 (by decide) (fun c10 => ?_) (fun c10 => ?_)
    · rw [if_pos c10] at em8
      cases em8
      exact z_sub [1, 2] rfl (Jm8 _ rfl)
    · rw [if_neg c10] at em8
      refine z_aload_n (pc := 22) 1 dX8_goOn_22 rfl rfl ?_
      obtain ⟨x11, ex11, em8⟩ := zbind em8
      refine z_getI (pc := 23) dX8_goOn_23 fd_X8_33 ex11 ?_
      refine z_if_le (pc := 26) 60 dX8_goOn_26 (by decide) (fun c12 => ?_) (fun c12 => ?_)
      · rw [if_pos c12] at em8
        cases em8
        exact z_sub [1, 2] rfl (Jm8 _ rfl)
      · rw [if_neg c12] at em8
        refine z_aload_n (pc := 29) 1 dX8_goOn_29 rfl rfl ?_
        obtain ⟨x13, ex13, em8⟩ := zbind em8
        refine z_getI (pc := 30) dX8_goOn_30 fd_X8_49 ex13 ?_
        refine z_ineg (pc := 33) dX8_goOn_33 ?_
        refine z_aload_n (pc := 34) 1 dX8_goOn_34 rfl rfl ?_
        obtain ⟨x14, ex14, em8⟩ := zbind em8
        refine z_getI (pc := 35) dX8_goOn_35 fd_X8_33 ex14 ?_
        obtain ⟨q15, eq15, em8⟩ := zbind em8
        refine z_callSN (pc := 38) (mc := 0) (ms := 0) (d' := 0) (mc' := 0) (ms' := 0) (rest := []) [.int (-x13), .int x14] dX8_goOn_38 md_X11_up ns_X8_73 sm_X11_up rfl rfl (Nat.le_of_ble_eq_true rfl) (by omega) (k_X11_up eq15) ?_
        refine z_aload_n (pc := 41) 1 dX8_goOn_41 rfl rfl ?_
        obtain ⟨x16, ex16, em8⟩ := zbind em8
        refine z_getI (pc := 42) dX8_goOn_42 fd_X8_53 ex16 ?_
        refine z_ineg (pc := 45) dX8_goOn_45 ?_
        refine z_aload_n (pc := 46) 2 dX8_goOn_46 rfl rfl ?_
        obtain ⟨x17, ex17, em8⟩ := zbind em8
        refine z_getI (pc := 47) dX8_goOn_47 fd_X8_77 ex17 ?_
        obtain ⟨q18, eq18, em8⟩ := zbind em8
        refine z_callSN (pc := 50) (mc := 0) (ms := 0) (d' := 0) (mc' := 0) (ms' := 0) (rest := [.int q15]) [.int (-x16), .int x17] dX8_goOn_50 md_X11_up ns_X8_73 sm_X11_up rfl rfl (Nat.le_of_ble_eq_true rfl) (by omega) (k_X11_up eq18) ?_
        refine z_icmp_gt (pc := 53) 60 dX8_goOn_53 (by decide) (fun c19 => ?_) (fun c19 => ?_)
        · rw [if_pos c19] at em8
          cases em8
          exact z_sub [1, 2] rfl (Jm8 _ rfl)
        · rw [if_neg c19] at em8
          refine z_iconst (pc := 56) (x := 1) dX8_goOn_56 zc_iconst_1 ?_
          refine z_goto (pc := 57) 61 dX8_goOn_57 (by decide) ?_
          obtain ⟨o20, H9, e9⟩ := zmapR em8
          subst e9
          have H9 := H9.trans (zsumR em6)
          cases H9
          exact z_sub [1, 2] rfl Jm6

def f_X8_go_L44 (N : Nat) (v0 : Nat) (v1 : Nat) (v3 : Int32) : Nat → Int32 → zH → Option (zH)
  | 0, _, _ => none
  | n + 1, v4, h => if v3 ≤ v4 then (some h) else ((gI h v0 8 6).bind fun x11 => if x11 = (-1) then (zif (zob h v0 8) <| (f_X8_goOn N v0 v1 h).bind fun h14 => f_X8_go_L44 N v0 v1 v3 n (v4 + 1) h14) else (some h))
set_option maxRecDepth 100000 in
set_option maxHeartbeats 4000000 in
theorem s_X8_go_L44 {d mc ms N : Nat} {vv : Option Value} {hh : zH} {v0 : Nat} {v1 : Nat} {v3 : Int32} (hd0 : 3 ≤ d) : ∀ (n : Nat) (v4 : Int32) (h : zH) (m : zH), f_X8_go_L44 N v0 v1 v3 n v4 h = some m → (zW yX8_go cX8_go 5 none d mc ms 69 [(0, .ref v0), (1, .ref v1)] [] m vv hh) → zW yX8_go cX8_go 5 none d mc ms 44 [(0, .ref v0), (1, .ref v1), (3, .int v3), (4, .int v4)] [] h vv hh := by
  intro n
  induction n with
  | zero =>
    intro v4 h m H
    cases H
  | succ n ih =>
    intro v4 h m H KE
    unfold f_X8_go_L44 at H
    refine z_iload (pc := 44) 3 dX8_go_44 rfl ?_
    refine z_iload_n (pc := 46) 2 dX8_go_46 rfl rfl ?_
    refine z_icmp_ge (pc := 47) 69 dX8_go_47 (by decide) (fun c10 => ?_) (fun c10 => ?_)
    · rw [if_pos c10] at H
      cases H
      exact z_sub [0, 1] rfl (KE)
    · rw [if_neg c10] at H
      refine z_aload_n (pc := 50) 0 dX8_go_50 rfl rfl ?_
      obtain ⟨x11, ex11, H⟩ := zbind H
      refine z_getI (pc := 51) dX8_go_51 fd_X8_21 ex11 ?_
      refine z_iconst (pc := 54) (x := (-1)) dX8_go_54 zc_iconst_m1 ?_
      refine z_icmp_ne (pc := 55) 69 dX8_go_55 (by decide) (fun c12 => ?_) (fun c12 => ?_)
      · rw [if_neg c12] at H
        cases H
        exact z_sub [0, 1] rfl (KE)
      · rw [if_pos c12] at H
        refine z_aload_n (pc := 58) 0 dX8_go_58 rfl rfl ?_
        refine z_aload_n (pc := 59) 1 dX8_go_59 rfl rfl ?_
        obtain ⟨z13, H⟩ := zifE H
        obtain ⟨h14, eh14, H⟩ := zbind H
        refine z_callV (pc := 60) (mc := mc) (ms := ms) (d' := 2) (mc' := 0) (ms' := 0) (rest := []) [.ref v1] dX8_go_60 md_X8_goOn ml_X8_57 im_X8_goOn se_X8_goOn rfl z13 rfl rfl (Nat.le_of_ble_eq_true rfl) (by omega) (k_X8_goOn eh14) ?_
        refine z_iinc (pc := 63) (x' := v4 + 1) (lv' := [(4, .int (v4 + 1)), (0, .ref v0), (1, .ref v1), (3, .int v3)]) 3 dX8_go_63 rfl (by rfl) (by decide) rfl ?_
        refine z_goto (pc := 66) 44 dX8_go_66 (by decide) ?_
        exact z_sub [1, 2, 3, 0] rfl (ih (v4 + 1) h14 _ H KE)
def f_X8_go (N : Nat) (v0 : Nat) (v1 : Nat) (v2 : Int32) (v3 : Int32) (h : zH) : Option (zH) := (gI h v1 6 0).bind fun x1 => (pF h v0 8 0 (.int x1)).bind fun h2 => (gI h2 v1 6 3).bind fun x3 => (pF h2 v0 8 1 (.int x3)).bind fun h4 => (pF h4 v0 8 2 (.int v2)).bind fun h5 => (pF h5 v0 8 3 (.int 0)).bind fun h6 => (pF h6 v0 8 4 (.int (-1))).bind fun h7 => (pF h7 v0 8 5 (.int (-1))).bind fun h8 => (pF h8 v0 8 6 (.int (-1))).bind fun h9 => (f_X8_go_L44 N v0 v1 v3 N 0 h9).bind fun m15 => zif (zob m15 v0 8) <| (f_X8_sees N v0 v1 m15).bind fun q17 => zif (zob m15 v0 8) <| (f_X8_notice N v0 q17 m15).bind fun h19 => some h19
set_option maxRecDepth 100000 in
set_option maxHeartbeats 4000000 in
theorem k_X8_go {N : Nat} {v0 : Nat} {v1 : Nat} {v2 : Int32} {v3 : Int32} {h : zH} {r : zH} (H : f_X8_go N v0 v1 v2 v3 h = some r) : zOk 3 0 0 yX8_go cX8_go 5 none [.ref v0, .ref v1, .int v2, .int v3] h none r := by
  refine zOk.of (by decide) (Nat.le_of_ble_eq_true rfl) ?_
  unfold f_X8_go at H
  refine z_aload_n (pc := 0) 0 dX8_go_0 rfl rfl ?_
  refine z_aload_n (pc := 1) 1 dX8_go_1 rfl rfl ?_
  obtain ⟨x1, ex1, H⟩ := zbind H
  refine z_getI (pc := 2) dX8_go_2 fd_X8_46 ex1 ?_
  obtain ⟨h2, eh2, H⟩ := zbind H
  refine z_put (pc := 5) dX8_go_5 fd_X8_49 rfl rfl eh2 ?_
  refine z_aload_n (pc := 8) 0 dX8_go_8 rfl rfl ?_
  refine z_aload_n (pc := 9) 1 dX8_go_9 rfl rfl ?_
  obtain ⟨x3, ex3, H⟩ := zbind H
  refine z_getI (pc := 10) dX8_go_10 fd_X8_50 ex3 ?_
  obtain ⟨h4, eh4, H⟩ := zbind H
  refine z_put (pc := 13) dX8_go_13 fd_X8_53 rfl rfl eh4 ?_
  refine z_aload_n (pc := 16) 0 dX8_go_16 rfl rfl ?_
  refine z_iload_n (pc := 17) 2 dX8_go_17 rfl rfl ?_
  obtain ⟨h5, eh5, H⟩ := zbind H
  refine z_put (pc := 18) dX8_go_18 fd_X8_33 rfl rfl eh5 ?_
  refine z_aload_n (pc := 21) 0 dX8_go_21 rfl rfl ?_
  refine z_iconst (pc := 22) (x := 0) dX8_go_22 zc_iconst_0 ?_
  obtain ⟨h6, eh6, H⟩ := zbind H
  refine z_put (pc := 23) dX8_go_23 fd_X8_54 rfl rfl eh6 ?_
  refine z_aload_n (pc := 26) 0 dX8_go_26 rfl rfl ?_
  refine z_iconst (pc := 27) (x := (-1)) dX8_go_27 zc_iconst_m1 ?_
  obtain ⟨h7, eh7, H⟩ := zbind H
  refine z_put (pc := 28) dX8_go_28 fd_X8_25 rfl rfl eh7 ?_
  refine z_aload_n (pc := 31) 0 dX8_go_31 rfl rfl ?_
  refine z_iconst (pc := 32) (x := (-1)) dX8_go_32 zc_iconst_m1 ?_
  obtain ⟨h8, eh8, H⟩ := zbind H
  refine z_put (pc := 33) dX8_go_33 fd_X8_29 rfl rfl eh8 ?_
  refine z_aload_n (pc := 36) 0 dX8_go_36 rfl rfl ?_
  refine z_iconst (pc := 37) (x := (-1)) dX8_go_37 zc_iconst_m1 ?_
  obtain ⟨h9, eh9, H⟩ := zbind H
  refine z_put (pc := 38) dX8_go_38 fd_X8_21 rfl rfl eh9 ?_
  refine z_iconst (pc := 41) (x := 0) dX8_go_41 zc_iconst_0 ?_
  refine z_istore (pc := 42) (lv' := [(4, .int 0), (0, .ref v0), (1, .ref v1), (2, .int v2), (3, .int v3)]) dX8_go_42 (by decide) rfl ?_
  obtain ⟨m15, em15, H⟩ := zbind H
  refine z_sub [1, 2, 4, 0] rfl (s_X8_go_L44 (by omega) N 0 h9 _ em15 ?_)
  refine z_aload_n (pc := 69) 0 dX8_go_69 rfl rfl ?_
  refine z_aload_n (pc := 70) 0 dX8_go_70 rfl rfl ?_
  refine z_aload_n (pc := 71) 1 dX8_go_71 rfl rfl ?_
  obtain ⟨z16, H⟩ := zifE H
  obtain ⟨q17, eq17, H⟩ := zbind H
  refine z_callV (pc := 72) (mc := 0) (ms := 0) (d' := 0) (mc' := 0) (ms' := 0) (rest := [.ref v0]) [.ref v1] dX8_go_72 md_X8_sees ml_X8_61 im_X8_sees se_X8_sees rfl z16 rfl rfl (Nat.le_of_ble_eq_true rfl) (by omega) (k_X8_sees eq17) ?_
  obtain ⟨z18, H⟩ := zifE H
  obtain ⟨h19, eh19, H⟩ := zbind H
  refine z_callV (pc := 75) (mc := 0) (ms := 0) (d' := 0) (mc' := 0) (ms' := 0) (rest := []) [.int q17] dX8_go_75 md_X8_notice ml_X8_65 im_X8_notice se_X8_notice rfl z18 rfl rfl (Nat.le_of_ble_eq_true rfl) (by omega) (k_X8_notice eh19) ?_
  cases H
  exact z_return rfl dX8_go_78

def f_X8_settle (N : Nat) (v0 : Nat) (v1 : Nat) (h : zH) : Option (zH) := (gI h v1 6 1).bind fun x1 => zif (zob h v0 8) <| (f_X8_go N v0 v1 x1 60 h).bind fun h3 => (gI h3 v0 8 6).bind fun x4 => (pF h3 v1 6 11 (.int x4)).bind fun h5 => (gI h5 v0 8 4).bind fun x6 => (pF h5 v1 6 12 (.int x6)).bind fun h7 => (gI h7 v0 8 5).bind fun x8 => (pF h7 v1 6 13 (.int x8)).bind fun h9 => (gI h9 v0 8 6).bind fun x10 => if x10 = (-1) then ((pF h9 v1 6 14 (.int (-1))).bind fun h15 => (pF h15 v1 6 15 (.int (-1))).bind fun h16 => some h16) else ((gI h9 v0 8 2).bind fun x12 => (pF h9 v1 6 14 (.int x12)).bind fun h13 => (pF h13 v1 6 15 (.int (-1))).bind fun h14 => some h14)
set_option maxRecDepth 100000 in
set_option maxHeartbeats 4000000 in
theorem k_X8_settle {N : Nat} {v0 : Nat} {v1 : Nat} {h : zH} {r : zH} (H : f_X8_settle N v0 v1 h = some r) : zOk 4 0 0 yX8_settle cX8_settle 2 none [.ref v0, .ref v1] h none r := by
  refine zOk.of (by decide) (Nat.le_of_ble_eq_true rfl) ?_
  unfold f_X8_settle at H
  refine z_aload_n (pc := 0) 0 dX8_settle_0 rfl rfl ?_
  refine z_aload_n (pc := 1) 1 dX8_settle_1 rfl rfl ?_
  refine z_aload_n (pc := 2) 1 dX8_settle_2 rfl rfl ?_
  obtain ⟨x1, ex1, H⟩ := zbind H
  refine z_getI (pc := 3) dX8_settle_3 fd_X8_9 ex1 ?_
  refine z_bipush (pc := 6) (x := 60) dX8_settle_6 zc_bipush_60 ?_
  obtain ⟨z2, H⟩ := zifE H
  obtain ⟨h3, eh3, H⟩ := zbind H
  refine z_callV (pc := 8) (mc := 0) (ms := 0) (d' := 3) (mc' := 0) (ms' := 0) (rest := []) [.ref v1, .int x1, .int 60] dX8_settle_8 md_X8_go ml_X8_17 im_X8_go se_X8_go rfl z2 rfl rfl (Nat.le_of_ble_eq_true rfl) (by omega) (k_X8_go eh3) ?_
  refine z_aload_n (pc := 11) 1 dX8_settle_11 rfl rfl ?_
  refine z_aload_n (pc := 12) 0 dX8_settle_12 rfl rfl ?_
  obtain ⟨x4, ex4, H⟩ := zbind H
  refine z_getI (pc := 13) dX8_settle_13 fd_X8_21 ex4 ?_
  obtain ⟨h5, eh5, H⟩ := zbind H
  refine z_put (pc := 16) dX8_settle_16 fd_X8_24 rfl rfl eh5 ?_
  refine z_aload_n (pc := 19) 1 dX8_settle_19 rfl rfl ?_
  refine z_aload_n (pc := 20) 0 dX8_settle_20 rfl rfl ?_
  obtain ⟨x6, ex6, H⟩ := zbind H
  refine z_getI (pc := 21) dX8_settle_21 fd_X8_25 ex6 ?_
  obtain ⟨h7, eh7, H⟩ := zbind H
  refine z_put (pc := 24) dX8_settle_24 fd_X8_28 rfl rfl eh7 ?_
  refine z_aload_n (pc := 27) 1 dX8_settle_27 rfl rfl ?_
  refine z_aload_n (pc := 28) 0 dX8_settle_28 rfl rfl ?_
  obtain ⟨x8, ex8, H⟩ := zbind H
  refine z_getI (pc := 29) dX8_settle_29 fd_X8_29 ex8 ?_
  obtain ⟨h9, eh9, H⟩ := zbind H
  refine z_put (pc := 32) dX8_settle_32 fd_X8_32 rfl rfl eh9 ?_
  refine z_aload_n (pc := 35) 1 dX8_settle_35 rfl rfl ?_
  refine z_aload_n (pc := 36) 0 dX8_settle_36 rfl rfl ?_
  obtain ⟨x10, ex10, H⟩ := zbind H
  refine z_getI (pc := 37) dX8_settle_37 fd_X8_21 ex10 ?_
  refine z_iconst (pc := 40) (x := (-1)) dX8_settle_40 zc_iconst_m1 ?_
  refine z_icmp_ne (pc := 41) 48 dX8_settle_41 (by decide) (fun c11 => ?_) (fun c11 => ?_)
  · rw [if_neg c11] at H
    refine z_aload_n (pc := 48) 0 dX8_settle_48 rfl rfl ?_
    obtain ⟨x12, ex12, H⟩ := zbind H
    refine z_getI (pc := 49) dX8_settle_49 fd_X8_33 ex12 ?_
    obtain ⟨h13, eh13, H⟩ := zbind H
    refine z_put (pc := 52) dX8_settle_52 fd_X8_36 rfl rfl eh13 ?_
    refine z_aload_n (pc := 55) 1 dX8_settle_55 rfl rfl ?_
    refine z_iconst (pc := 56) (x := (-1)) dX8_settle_56 zc_iconst_m1 ?_
    obtain ⟨h14, eh14, H⟩ := zbind H
    refine z_put (pc := 57) dX8_settle_57 fd_X8_39 rfl rfl eh14 ?_
    cases H
    exact z_return rfl dX8_settle_60
  · rw [if_pos c11] at H
    refine z_iconst (pc := 44) (x := (-1)) dX8_settle_44 zc_iconst_m1 ?_
    refine z_goto (pc := 45) 52 dX8_settle_45 (by decide) ?_
    obtain ⟨h15, eh15, H⟩ := zbind H
    refine z_put (pc := 52) dX8_settle_52 fd_X8_36 rfl rfl eh15 ?_
    refine z_aload_n (pc := 55) 1 dX8_settle_55 rfl rfl ?_
    refine z_iconst (pc := 56) (x := (-1)) dX8_settle_56 zc_iconst_m1 ?_
    obtain ⟨h16, eh16, H⟩ := zbind H
    refine z_put (pc := 57) dX8_settle_57 fd_X8_39 rfl rfl eh16 ?_
    cases H
    exact z_return rfl dX8_settle_60

def f_X8_findSafeSpeed_L5 (N : Nat) (v0 : Nat) (v1 : Nat) : Nat → Int32 → zH → Option ((zH) ⊕ (Int32 × zH))
  | 0, _, _ => none
  | n + 1, v2, h => if v2 ≤ 0 then (some (.inl h)) else (zif (zob h v0 8) <| (f_X8_go N v0 v1 v2 60 h).bind fun h4 => (gI h4 v0 8 6).bind fun x5 => if x5 = (-1) then (some (.inr (v2, h4))) else (f_X8_findSafeSpeed_L5 N v0 v1 n (v2 + (-1)) h4))
set_option maxRecDepth 100000 in
set_option maxHeartbeats 4000000 in
theorem s_X8_findSafeSpeed_L5 {d mc ms N : Nat} {vv : Option Value} {hh : zH} {v0 : Nat} {v1 : Nat} (hd0 : 4 ≤ d) : ∀ (n : Nat) (v2 : Int32) (h : zH) (m : (zH) ⊕ (Int32 × zH)), f_X8_findSafeSpeed_L5 N v0 v1 n v2 h = some m → (∀ s, m = .inl s → zW yX8_findSafeSpeed cX8_findSafeSpeed 3 (some .int) d mc ms 33 [] [] s vv hh) → (∀ r, m = .inr r → vv = (some (.int r.1)) ∧ hh = r.2) → zW yX8_findSafeSpeed cX8_findSafeSpeed 3 (some .int) d mc ms 5 [(0, .ref v0), (1, .ref v1), (2, .int v2)] [] h vv hh := by
  intro n
  induction n with
  | zero =>
    intro v2 h m H
    cases H
  | succ n ih =>
    intro v2 h m H KE KR
    unfold f_X8_findSafeSpeed_L5 at H
    refine z_iload_n (pc := 5) 2 dX8_findSafeSpeed_5 rfl rfl ?_
    refine z_if_le (pc := 6) 33 dX8_findSafeSpeed_6 (by decide) (fun c2 => ?_) (fun c2 => ?_)
    · rw [if_pos c2] at H
      cases H
      exact z_sub [] rfl (KE _ rfl)
    · rw [if_neg c2] at H
      refine z_aload_n (pc := 9) 0 dX8_findSafeSpeed_9 rfl rfl ?_
      refine z_aload_n (pc := 10) 1 dX8_findSafeSpeed_10 rfl rfl ?_
      refine z_iload_n (pc := 11) 2 dX8_findSafeSpeed_11 rfl rfl ?_
      refine z_bipush (pc := 12) (x := 60) dX8_findSafeSpeed_12 zc_bipush_60 ?_
      obtain ⟨z3, H⟩ := zifE H
      obtain ⟨h4, eh4, H⟩ := zbind H
      refine z_callV (pc := 14) (mc := mc) (ms := ms) (d' := 3) (mc' := 0) (ms' := 0) (rest := []) [.ref v1, .int v2, .int 60] dX8_findSafeSpeed_14 md_X8_go ml_X8_17 im_X8_go se_X8_go rfl z3 rfl rfl (Nat.le_of_ble_eq_true rfl) (by omega) (k_X8_go eh4) ?_
      refine z_aload_n (pc := 17) 0 dX8_findSafeSpeed_17 rfl rfl ?_
      obtain ⟨x5, ex5, H⟩ := zbind H
      refine z_getI (pc := 18) dX8_findSafeSpeed_18 fd_X8_21 ex5 ?_
      refine z_iconst (pc := 21) (x := (-1)) dX8_findSafeSpeed_21 zc_iconst_m1 ?_
      refine z_icmp_ne (pc := 22) 27 dX8_findSafeSpeed_22 (by decide) (fun c6 => ?_) (fun c6 => ?_)
      · rw [if_neg c6] at H
        refine z_iinc (pc := 27) (x' := v2 + (-1)) (lv' := [(2, .int (v2 + (-1))), (0, .ref v0), (1, .ref v1)]) 2 dX8_findSafeSpeed_27 rfl (by rfl) (by decide) rfl ?_
        refine z_goto (pc := 30) 5 dX8_findSafeSpeed_30 (by decide) ?_
        exact z_sub [1, 2, 0] rfl (ih (v2 + (-1)) h4 _ H KE KR)
      · rw [if_pos c6] at H
        refine z_iload_n (pc := 25) 2 dX8_findSafeSpeed_25 rfl rfl ?_
        cases H
        obtain ⟨e8, e9⟩ := KR _ rfl
        subst e8
        subst e9
        exact z_ireturn rfl dX8_findSafeSpeed_26
def f_X8_findSafeSpeed (N : Nat) (v0 : Nat) (v1 : Nat) (h : zH) : Option (Int32 × zH) := (gI h v1 6 1).bind fun x1 => (f_X8_findSafeSpeed_L5 N v0 v1 N x1 h).bind fun m7 => zsum m7 fun s8 => some (0, s8)
set_option maxRecDepth 100000 in
set_option maxHeartbeats 4000000 in
theorem k_X8_findSafeSpeed {N : Nat} {v0 : Nat} {v1 : Nat} {h : zH} {r : Int32 × zH} (H : f_X8_findSafeSpeed N v0 v1 h = some r) : zOk 4 0 0 yX8_findSafeSpeed cX8_findSafeSpeed 3 (some .int) [.ref v0, .ref v1] h (some (.int r.1)) r.2 := by
  refine zOk.of (by decide) (Nat.le_of_ble_eq_true rfl) ?_
  unfold f_X8_findSafeSpeed at H
  refine z_aload_n (pc := 0) 1 dX8_findSafeSpeed_0 rfl rfl ?_
  obtain ⟨x1, ex1, H⟩ := zbind H
  refine z_getI (pc := 1) dX8_findSafeSpeed_1 fd_X8_9 ex1 ?_
  refine z_istore_n (pc := 4) (lv' := [(2, .int x1), (0, .ref v0), (1, .ref v1)]) dX8_findSafeSpeed_4 rfl (by decide) rfl ?_
  obtain ⟨m7, em7, H⟩ := zbind H
  refine z_sub [1, 2, 0] rfl (s_X8_findSafeSpeed_L5 (by omega) N x1 h _ em7 ?_ ?_)
  · intro s8 e9
    subst e9
    have H := zsumL H
    refine z_iconst (pc := 33) (x := 0) dX8_findSafeSpeed_33 zc_iconst_0 ?_
    cases H
    exact z_ireturn rfl dX8_findSafeSpeed_34
  · intro r e9
    subst e9
    have H := zsumR H
    cases H
    exact ⟨rfl, rfl⟩

def f_X8_safeSpeed (N : Nat) (v0 : Nat) (v1 : Nat) (h : zH) : Option (Int32 × zH) := (gI h v1 6 15).bind fun x1 => if x1 = (-1) then (zif (zob h v0 8) <| (f_X8_findSafeSpeed N v0 v1 h).bind fun q5 => (pF q5.2 v1 6 15 (.int q5.1)).bind fun h6 => (gI h6 v1 6 15).bind fun x7 => some (x7, h6)) else ((gI h v1 6 15).bind fun x3 => some (x3, h))
set_option maxRecDepth 100000 in
set_option maxHeartbeats 4000000 in
theorem k_X8_safeSpeed {N : Nat} {v0 : Nat} {v1 : Nat} {h : zH} {r : Int32 × zH} (H : f_X8_safeSpeed N v0 v1 h = some r) : zOk 5 0 0 yX8_safeSpeed cX8_safeSpeed 2 (some .int) [.ref v0, .ref v1] h (some (.int r.1)) r.2 := by
  refine zOk.of (by decide) (Nat.le_of_ble_eq_true rfl) ?_
  unfold f_X8_safeSpeed at H
  refine z_aload_n (pc := 0) 1 dX8_safeSpeed_0 rfl rfl ?_
  obtain ⟨x1, ex1, H⟩ := zbind H
  refine z_getI (pc := 1) dX8_safeSpeed_1 fd_X8_39 ex1 ?_
  refine z_iconst (pc := 4) (x := (-1)) dX8_safeSpeed_4 zc_iconst_m1 ?_
  refine z_icmp_ne (pc := 5) 17 dX8_safeSpeed_5 (by decide) (fun c2 => ?_) (fun c2 => ?_)
  · rw [if_neg c2] at H
    refine z_aload_n (pc := 17) 1 dX8_safeSpeed_17 rfl rfl ?_
    obtain ⟨x3, ex3, H⟩ := zbind H
    refine z_getI (pc := 18) dX8_safeSpeed_18 fd_X8_39 ex3 ?_
    cases H
    exact z_ireturn rfl dX8_safeSpeed_21
  · rw [if_pos c2] at H
    refine z_aload_n (pc := 8) 1 dX8_safeSpeed_8 rfl rfl ?_
    refine z_aload_n (pc := 9) 0 dX8_safeSpeed_9 rfl rfl ?_
    refine z_aload_n (pc := 10) 1 dX8_safeSpeed_10 rfl rfl ?_
    obtain ⟨z4, H⟩ := zifE H
    obtain ⟨q5, eq5, H⟩ := zbind H
    refine z_callV (pc := 11) (mc := 0) (ms := 0) (d' := 4) (mc' := 0) (ms' := 0) (rest := [.ref v1]) [.ref v1] dX8_safeSpeed_11 md_X8_findSafeSpeed ml_X8_42 im_X8_findSafeSpeed se_X8_findSafeSpeed rfl z4 rfl rfl (Nat.le_of_ble_eq_true rfl) (by omega) (k_X8_findSafeSpeed eq5) ?_
    obtain ⟨h6, eh6, H⟩ := zbind H
    refine z_put (pc := 14) dX8_safeSpeed_14 fd_X8_39 rfl rfl eh6 ?_
    refine z_aload_n (pc := 17) 1 dX8_safeSpeed_17 rfl rfl ?_
    obtain ⟨x7, ex7, H⟩ := zbind H
    refine z_getI (pc := 18) dX8_safeSpeed_18 fd_X8_39 ex7 ?_
    cases H
    exact z_ireturn rfl dX8_safeSpeed_21
end
