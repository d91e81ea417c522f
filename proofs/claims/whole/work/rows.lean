section
-- ===== PART A: goes FIRST, ahead of the names: the tables' words, and 'selects' of the private methods out of them =====
/-- a private method of a class that the tables say can be made, by its rows of tables_1 -/
def lw_okq (q : MethodName × Nat) : Prop := (q.1.cls ≠ "java/lang/invoke/MethodHandle" ∧ q.1.cls ≠ "java/lang/invoke/VarHandle") ∧ Cond.instantiable q.1.cls q.2 ∈ tables_1 ∧ Cond.privateMethod q.1 ∈ tables_1 ∧ Cond.instanceMethod q.1 ∈ tables_1
theorem lw_p0 : lw_okq (⟨"java/lang/Throwable", "fillInStackTrace", "(I)Ljava/lang/Throwable;"⟩, 6) := ⟨⟨by decide +kernel, by decide +kernel⟩, List.mem_of_getElem? (i := 384) (by decide +kernel), List.mem_of_getElem? (i := 382) (by decide +kernel), List.mem_of_getElem? (i := 383) (by decide +kernel)⟩
theorem lw_p1 : lw_okq (⟨"TripleStore$Store", "noteChange", "(JJJZ)V"⟩, 8) := ⟨⟨by decide +kernel, by decide +kernel⟩, List.mem_of_getElem? (i := 32) (by decide +kernel), List.mem_of_getElem? (i := 462) (by decide +kernel), List.mem_of_getElem? (i := 463) (by decide +kernel)⟩
theorem lw_p2 : lw_okq (⟨"TripleStore$Store", "countCommitted", "()V"⟩, 8) := ⟨⟨by decide +kernel, by decide +kernel⟩, List.mem_of_getElem? (i := 32) (by decide +kernel), List.mem_of_getElem? (i := 466) (by decide +kernel), List.mem_of_getElem? (i := 467) (by decide +kernel)⟩
theorem lw_p3 : lw_okq (⟨"TripleStore$Store", "undoFrom", "(I)V"⟩, 8) := ⟨⟨by decide +kernel, by decide +kernel⟩, List.mem_of_getElem? (i := 32) (by decide +kernel), List.mem_of_getElem? (i := 524) (by decide +kernel), List.mem_of_getElem? (i := 525) (by decide +kernel)⟩
theorem lw_p4 : lw_okq (⟨"TripleStore$Store", "undoLast", "(I)V"⟩, 8) := ⟨⟨by decide +kernel, by decide +kernel⟩, List.mem_of_getElem? (i := 32) (by decide +kernel), List.mem_of_getElem? (i := 528) (by decide +kernel), List.mem_of_getElem? (i := 529) (by decide +kernel)⟩
theorem lw_p5 : lw_okq (⟨"TripleStore$Tokens", "readToken", "([CII)I"⟩, 5) := ⟨⟨by decide +kernel, by decide +kernel⟩, List.mem_of_getElem? (i := 85) (by decide +kernel), List.mem_of_getElem? (i := 585) (by decide +kernel), List.mem_of_getElem? (i := 586) (by decide +kernel)⟩
theorem lw_p6 : lw_okq (⟨"TripleStore$Tokens", "readWord", "([CII)I"⟩, 5) := ⟨⟨by decide +kernel, by decide +kernel⟩, List.mem_of_getElem? (i := 85) (by decide +kernel), List.mem_of_getElem? (i := 590) (by decide +kernel), List.mem_of_getElem? (i := 591) (by decide +kernel)⟩
theorem lw_p7 : lw_okq (⟨"TripleStore$Tokens", "note", "(IJI)V"⟩, 5) := ⟨⟨by decide +kernel, by decide +kernel⟩, List.mem_of_getElem? (i := 85) (by decide +kernel), List.mem_of_getElem? (i := 600) (by decide +kernel), List.mem_of_getElem? (i := 601) (by decide +kernel)⟩
theorem lw_p8 : lw_okq (⟨"TripleStore$Tokens", "readNumber", "([CII)I"⟩, 5) := ⟨⟨by decide +kernel, by decide +kernel⟩, List.mem_of_getElem? (i := 85) (by decide +kernel), List.mem_of_getElem? (i := 621) (by decide +kernel), List.mem_of_getElem? (i := 622) (by decide +kernel)⟩
theorem lw_p9 : lw_okq (⟨"TripleStore$Tokens", "readVariable", "([CII)I"⟩, 5) := ⟨⟨by decide +kernel, by decide +kernel⟩, List.mem_of_getElem? (i := 85) (by decide +kernel), List.mem_of_getElem? (i := 625) (by decide +kernel), List.mem_of_getElem? (i := 626) (by decide +kernel)⟩
theorem lw_p10 : lw_okq (⟨"TripleStore$Parser", "readSelected", "()Z"⟩, 3) := ⟨⟨by decide +kernel, by decide +kernel⟩, List.mem_of_getElem? (i := 211) (by decide +kernel), List.mem_of_getElem? (i := 649) (by decide +kernel), List.mem_of_getElem? (i := 650) (by decide +kernel)⟩
theorem lw_p11 : lw_okq (⟨"TripleStore$Parser", "readVariable", "()Z"⟩, 3) := ⟨⟨by decide +kernel, by decide +kernel⟩, List.mem_of_getElem? (i := 211) (by decide +kernel), List.mem_of_getElem? (i := 658) (by decide +kernel), List.mem_of_getElem? (i := 659) (by decide +kernel)⟩
theorem lw_p12 : lw_okq (⟨"TripleStore$Parser", "readGroup", "(II)Z"⟩, 3) := ⟨⟨by decide +kernel, by decide +kernel⟩, List.mem_of_getElem? (i := 211) (by decide +kernel), List.mem_of_getElem? (i := 672) (by decide +kernel), List.mem_of_getElem? (i := 673) (by decide +kernel)⟩
theorem lw_p13 : lw_okq (⟨"TripleStore$Parser", "readElement", "(II)Z"⟩, 3) := ⟨⟨by decide +kernel, by decide +kernel⟩, List.mem_of_getElem? (i := 211) (by decide +kernel), List.mem_of_getElem? (i := 689) (by decide +kernel), List.mem_of_getElem? (i := 690) (by decide +kernel)⟩
theorem lw_p14 : lw_okq (⟨"TripleStore$Parser", "readNots", "(LTripleStore$Element;)V"⟩, 3) := ⟨⟨by decide +kernel, by decide +kernel⟩, List.mem_of_getElem? (i := 211) (by decide +kernel), List.mem_of_getElem? (i := 698) (by decide +kernel), List.mem_of_getElem? (i := 699) (by decide +kernel)⟩
theorem lw_p15 : lw_okq (⟨"TripleStore$Parser", "readBound", "(LTripleStore$Element;)Z"⟩, 3) := ⟨⟨by decide +kernel, by decide +kernel⟩, List.mem_of_getElem? (i := 211) (by decide +kernel), List.mem_of_getElem? (i := 704) (by decide +kernel), List.mem_of_getElem? (i := 705) (by decide +kernel)⟩
def lw_privs_1 : List (MethodName × Nat) := [(⟨"java/lang/Throwable", "fillInStackTrace", "(I)Ljava/lang/Throwable;"⟩, 6), (⟨"TripleStore$Store", "noteChange", "(JJJZ)V"⟩, 8), (⟨"TripleStore$Store", "countCommitted", "()V"⟩, 8), (⟨"TripleStore$Store", "undoFrom", "(I)V"⟩, 8), (⟨"TripleStore$Store", "undoLast", "(I)V"⟩, 8), (⟨"TripleStore$Tokens", "readToken", "([CII)I"⟩, 5), (⟨"TripleStore$Tokens", "readWord", "([CII)I"⟩, 5), (⟨"TripleStore$Tokens", "note", "(IJI)V"⟩, 5), (⟨"TripleStore$Tokens", "readNumber", "([CII)I"⟩, 5), (⟨"TripleStore$Tokens", "readVariable", "([CII)I"⟩, 5), (⟨"TripleStore$Parser", "readSelected", "()Z"⟩, 3), (⟨"TripleStore$Parser", "readVariable", "()Z"⟩, 3), (⟨"TripleStore$Parser", "readGroup", "(II)Z"⟩, 3), (⟨"TripleStore$Parser", "readElement", "(II)Z"⟩, 3), (⟨"TripleStore$Parser", "readNots", "(LTripleStore$Element;)V"⟩, 3), (⟨"TripleStore$Parser", "readBound", "(LTripleStore$Element;)Z"⟩, 3)]
theorem lw_r1 : ∀ q ∈ lw_privs_1, lw_okq q := List.forall_mem_cons.mpr ⟨lw_p0, List.forall_mem_cons.mpr ⟨lw_p1, List.forall_mem_cons.mpr ⟨lw_p2, List.forall_mem_cons.mpr ⟨lw_p3, List.forall_mem_cons.mpr ⟨lw_p4, List.forall_mem_cons.mpr ⟨lw_p5, List.forall_mem_cons.mpr ⟨lw_p6, List.forall_mem_cons.mpr ⟨lw_p7, List.forall_mem_cons.mpr ⟨lw_p8, List.forall_mem_cons.mpr ⟨lw_p9, List.forall_mem_cons.mpr ⟨lw_p10, List.forall_mem_cons.mpr ⟨lw_p11, List.forall_mem_cons.mpr ⟨lw_p12, List.forall_mem_cons.mpr ⟨lw_p13, List.forall_mem_cons.mpr ⟨lw_p14, List.forall_mem_cons.mpr ⟨lw_p15, fun _ h => absurd h List.not_mem_nil⟩⟩⟩⟩⟩⟩⟩⟩⟩⟩⟩⟩⟩⟩⟩⟩
theorem lw_p16 : lw_okq (⟨"TripleStore$Parser", "readComparison", "(LTripleStore$Element;)Z"⟩, 3) := ⟨⟨by decide +kernel, by decide +kernel⟩, List.mem_of_getElem? (i := 211) (by decide +kernel), List.mem_of_getElem? (i := 708) (by decide +kernel), List.mem_of_getElem? (i := 709) (by decide +kernel)⟩
theorem lw_p17 : lw_okq (⟨"TripleStore$Parser", "readSide", "()Z"⟩, 3) := ⟨⟨by decide +kernel, by decide +kernel⟩, List.mem_of_getElem? (i := 211) (by decide +kernel), List.mem_of_getElem? (i := 712) (by decide +kernel), List.mem_of_getElem? (i := 713) (by decide +kernel)⟩
theorem lw_p18 : lw_okq (⟨"TripleStore$Parser", "isAtComparison", "()Z"⟩, 3) := ⟨⟨by decide +kernel, by decide +kernel⟩, List.mem_of_getElem? (i := 211) (by decide +kernel), List.mem_of_getElem? (i := 716) (by decide +kernel), List.mem_of_getElem? (i := 717) (by decide +kernel)⟩
theorem lw_p19 : lw_okq (⟨"TripleStore$Parser", "readUnion", "(II)Z"⟩, 3) := ⟨⟨by decide +kernel, by decide +kernel⟩, List.mem_of_getElem? (i := 211) (by decide +kernel), List.mem_of_getElem? (i := 722) (by decide +kernel), List.mem_of_getElem? (i := 723) (by decide +kernel)⟩
theorem lw_p20 : lw_okq (⟨"TripleStore$Parser", "readPattern", "(LTripleStore$Element;)Z"⟩, 3) := ⟨⟨by decide +kernel, by decide +kernel⟩, List.mem_of_getElem? (i := 211) (by decide +kernel), List.mem_of_getElem? (i := 727) (by decide +kernel), List.mem_of_getElem? (i := 728) (by decide +kernel)⟩
theorem lw_p21 : lw_okq (⟨"TripleStore$Parser", "readOrder", "()Z"⟩, 3) := ⟨⟨by decide +kernel, by decide +kernel⟩, List.mem_of_getElem? (i := 211) (by decide +kernel), List.mem_of_getElem? (i := 731) (by decide +kernel), List.mem_of_getElem? (i := 732) (by decide +kernel)⟩
theorem lw_p22 : lw_okq (⟨"TripleStore$Parser", "readLimit", "()Z"⟩, 3) := ⟨⟨by decide +kernel, by decide +kernel⟩, List.mem_of_getElem? (i := 211) (by decide +kernel), List.mem_of_getElem? (i := 737) (by decide +kernel), List.mem_of_getElem? (i := 738) (by decide +kernel)⟩
theorem lw_p23 : lw_okq (⟨"TripleStore$Solver", "joinPattern", "(LTripleStore$Element;LTripleStore$Solutions;LTripleStore$Solutions;)Z"⟩, 5) := ⟨⟨by decide +kernel, by decide +kernel⟩, List.mem_of_getElem? (i := 227) (by decide +kernel), List.mem_of_getElem? (i := 774) (by decide +kernel), List.mem_of_getElem? (i := 775) (by decide +kernel)⟩
theorem lw_p24 : lw_okq (⟨"TripleStore$Solver", "fitsTriple", "(LTripleStore$Element;I)Z"⟩, 5) := ⟨⟨by decide +kernel, by decide +kernel⟩, List.mem_of_getElem? (i := 227) (by decide +kernel), List.mem_of_getElem? (i := 787) (by decide +kernel), List.mem_of_getElem? (i := 788) (by decide +kernel)⟩
theorem lw_p25 : lw_okq (⟨"TripleStore$Solver", "fitsTerm", "(JJ)Z"⟩, 5) := ⟨⟨by decide +kernel, by decide +kernel⟩, List.mem_of_getElem? (i := 227) (by decide +kernel), List.mem_of_getElem? (i := 795) (by decide +kernel), List.mem_of_getElem? (i := 796) (by decide +kernel)⟩
theorem lw_p26 : lw_okq (⟨"TripleStore$Solver", "termOf", "(J)J"⟩, 5) := ⟨⟨by decide +kernel, by decide +kernel⟩, List.mem_of_getElem? (i := 227) (by decide +kernel), List.mem_of_getElem? (i := 799) (by decide +kernel), List.mem_of_getElem? (i := 800) (by decide +kernel)⟩
theorem lw_p27 : lw_okq (⟨"TripleStore$Solver", "applyGroups", "(III)Z"⟩, 5) := ⟨⟨by decide +kernel, by decide +kernel⟩, List.mem_of_getElem? (i := 227) (by decide +kernel), List.mem_of_getElem? (i := 812) (by decide +kernel), List.mem_of_getElem? (i := 813) (by decide +kernel)⟩
theorem lw_p28 : lw_okq (⟨"TripleStore$Solver", "applySolved", "(ILTripleStore$Solutions;LTripleStore$Solutions;LTripleStore$Solutions;)Z"⟩, 5) := ⟨⟨by decide +kernel, by decide +kernel⟩, List.mem_of_getElem? (i := 227) (by decide +kernel), List.mem_of_getElem? (i := 817) (by decide +kernel), List.mem_of_getElem? (i := 818) (by decide +kernel)⟩
theorem lw_p29 : lw_okq (⟨"TripleStore$Solver", "hasPartner", "(LTripleStore$Solutions;ILTripleStore$Solutions;Z)Z"⟩, 5) := ⟨⟨by decide +kernel, by decide +kernel⟩, List.mem_of_getElem? (i := 227) (by decide +kernel), List.mem_of_getElem? (i := 821) (by decide +kernel), List.mem_of_getElem? (i := 822) (by decide +kernel)⟩
theorem lw_p30 : lw_okq (⟨"TripleStore$Solver", "joinAll", "(LTripleStore$Solutions;ILTripleStore$Solutions;LTripleStore$Solutions;)Z"⟩, 5) := ⟨⟨by decide +kernel, by decide +kernel⟩, List.mem_of_getElem? (i := 227) (by decide +kernel), List.mem_of_getElem? (i := 837) (by decide +kernel), List.mem_of_getElem? (i := 838) (by decide +kernel)⟩
theorem lw_p31 : lw_okq (⟨"TripleStore$Solver", "turn", "(I)V"⟩, 5) := ⟨⟨by decide +kernel, by decide +kernel⟩, List.mem_of_getElem? (i := 227) (by decide +kernel), List.mem_of_getElem? (i := 841) (by decide +kernel), List.mem_of_getElem? (i := 842) (by decide +kernel)⟩
def lw_privs_2 : List (MethodName × Nat) := [(⟨"TripleStore$Parser", "readComparison", "(LTripleStore$Element;)Z"⟩, 3), (⟨"TripleStore$Parser", "readSide", "()Z"⟩, 3), (⟨"TripleStore$Parser", "isAtComparison", "()Z"⟩, 3), (⟨"TripleStore$Parser", "readUnion", "(II)Z"⟩, 3), (⟨"TripleStore$Parser", "readPattern", "(LTripleStore$Element;)Z"⟩, 3), (⟨"TripleStore$Parser", "readOrder", "()Z"⟩, 3), (⟨"TripleStore$Parser", "readLimit", "()Z"⟩, 3), (⟨"TripleStore$Solver", "joinPattern", "(LTripleStore$Element;LTripleStore$Solutions;LTripleStore$Solutions;)Z"⟩, 5), (⟨"TripleStore$Solver", "fitsTriple", "(LTripleStore$Element;I)Z"⟩, 5), (⟨"TripleStore$Solver", "fitsTerm", "(JJ)Z"⟩, 5), (⟨"TripleStore$Solver", "termOf", "(J)J"⟩, 5), (⟨"TripleStore$Solver", "applyGroups", "(III)Z"⟩, 5), (⟨"TripleStore$Solver", "applySolved", "(ILTripleStore$Solutions;LTripleStore$Solutions;LTripleStore$Solutions;)Z"⟩, 5), (⟨"TripleStore$Solver", "hasPartner", "(LTripleStore$Solutions;ILTripleStore$Solutions;Z)Z"⟩, 5), (⟨"TripleStore$Solver", "joinAll", "(LTripleStore$Solutions;ILTripleStore$Solutions;LTripleStore$Solutions;)Z"⟩, 5), (⟨"TripleStore$Solver", "turn", "(I)V"⟩, 5)]
theorem lw_r2 : ∀ q ∈ lw_privs_2, lw_okq q := List.forall_mem_cons.mpr ⟨lw_p16, List.forall_mem_cons.mpr ⟨lw_p17, List.forall_mem_cons.mpr ⟨lw_p18, List.forall_mem_cons.mpr ⟨lw_p19, List.forall_mem_cons.mpr ⟨lw_p20, List.forall_mem_cons.mpr ⟨lw_p21, List.forall_mem_cons.mpr ⟨lw_p22, List.forall_mem_cons.mpr ⟨lw_p23, List.forall_mem_cons.mpr ⟨lw_p24, List.forall_mem_cons.mpr ⟨lw_p25, List.forall_mem_cons.mpr ⟨lw_p26, List.forall_mem_cons.mpr ⟨lw_p27, List.forall_mem_cons.mpr ⟨lw_p28, List.forall_mem_cons.mpr ⟨lw_p29, List.forall_mem_cons.mpr ⟨lw_p30, List.forall_mem_cons.mpr ⟨lw_p31, fun _ h => absurd h List.not_mem_nil⟩⟩⟩⟩⟩⟩⟩⟩⟩⟩⟩⟩⟩⟩⟩⟩
theorem lw_p32 : lw_okq (⟨"TripleStore$Solver", "keepPassing", "(ILTripleStore$Solutions;LTripleStore$Solutions;)V"⟩, 5) := ⟨⟨by decide +kernel, by decide +kernel⟩, List.mem_of_getElem? (i := 227) (by decide +kernel), List.mem_of_getElem? (i := 845) (by decide +kernel), List.mem_of_getElem? (i := 846) (by decide +kernel)⟩
theorem lw_p33 : lw_okq (⟨"TripleStore$Solver", "passesTests", "(I)Z"⟩, 5) := ⟨⟨by decide +kernel, by decide +kernel⟩, List.mem_of_getElem? (i := 227) (by decide +kernel), List.mem_of_getElem? (i := 849) (by decide +kernel), List.mem_of_getElem? (i := 850) (by decide +kernel)⟩
theorem lw_p34 : lw_okq (⟨"TripleStore$Solver", "holds", "(LTripleStore$Element;)Z"⟩, 5) := ⟨⟨by decide +kernel, by decide +kernel⟩, List.mem_of_getElem? (i := 227) (by decide +kernel), List.mem_of_getElem? (i := 853) (by decide +kernel), List.mem_of_getElem? (i := 854) (by decide +kernel)⟩
theorem lw_p35 : lw_okq (⟨"TripleStore$Rows", "sort", "(LTripleStore$Query;LTripleStore$Solutions;)V"⟩, 4) := ⟨⟨by decide +kernel, by decide +kernel⟩, List.mem_of_getElem? (i := 263) (by decide +kernel), List.mem_of_getElem? (i := 866) (by decide +kernel), List.mem_of_getElem? (i := 867) (by decide +kernel)⟩
theorem lw_p36 : lw_okq (⟨"TripleStore$Rows", "standsBefore", "(LTripleStore$Query;LTripleStore$Solutions;II)Z"⟩, 4) := ⟨⟨by decide +kernel, by decide +kernel⟩, List.mem_of_getElem? (i := 263) (by decide +kernel), List.mem_of_getElem? (i := 871) (by decide +kernel), List.mem_of_getElem? (i := 872) (by decide +kernel)⟩
theorem lw_p37 : lw_okq (⟨"TripleStore$Rows", "takeRow", "(LTripleStore$Query;LTripleStore$Solutions;I)V"⟩, 4) := ⟨⟨by decide +kernel, by decide +kernel⟩, List.mem_of_getElem? (i := 263) (by decide +kernel), List.mem_of_getElem? (i := 876) (by decide +kernel), List.mem_of_getElem? (i := 877) (by decide +kernel)⟩
theorem lw_p38 : lw_okq (⟨"TripleStore$Rows", "isLastKnown", "()Z"⟩, 4) := ⟨⟨by decide +kernel, by decide +kernel⟩, List.mem_of_getElem? (i := 263) (by decide +kernel), List.mem_of_getElem? (i := 880) (by decide +kernel), List.mem_of_getElem? (i := 881) (by decide +kernel)⟩
theorem lw_p39 : lw_okq (⟨"TripleStore$Rows", "isSameRow", "(II)Z"⟩, 4) := ⟨⟨by decide +kernel, by decide +kernel⟩, List.mem_of_getElem? (i := 263) (by decide +kernel), List.mem_of_getElem? (i := 884) (by decide +kernel), List.mem_of_getElem? (i := 885) (by decide +kernel)⟩
theorem lw_p40 : lw_okq (⟨"TripleStoreModel", "isTriple", "(JJJ)Z"⟩, 59) := ⟨⟨by decide +kernel, by decide +kernel⟩, List.mem_of_getElem? (i := 970) (by decide +kernel), List.mem_of_getElem? (i := 1162) (by decide +kernel), List.mem_of_getElem? (i := 1163) (by decide +kernel)⟩
theorem lw_p41 : lw_okq (⟨"TripleStoreModel", "good", "(ZI)Z"⟩, 59) := ⟨⟨by decide +kernel, by decide +kernel⟩, List.mem_of_getElem? (i := 970) (by decide +kernel), List.mem_of_getElem? (i := 1177) (by decide +kernel), List.mem_of_getElem? (i := 1178) (by decide +kernel)⟩
theorem lw_p42 : lw_okq (⟨"TripleStoreModel", "does", "(ZJJJ)I"⟩, 59) := ⟨⟨by decide +kernel, by decide +kernel⟩, List.mem_of_getElem? (i := 970) (by decide +kernel), List.mem_of_getElem? (i := 1181) (by decide +kernel), List.mem_of_getElem? (i := 1182) (by decide +kernel)⟩
theorem lw_p43 : lw_okq (⟨"TripleStoreModel", "find", "(JJJ)I"⟩, 59) := ⟨⟨by decide +kernel, by decide +kernel⟩, List.mem_of_getElem? (i := 970) (by decide +kernel), List.mem_of_getElem? (i := 1185) (by decide +kernel), List.mem_of_getElem? (i := 1186) (by decide +kernel)⟩
theorem lw_p44 : lw_okq (⟨"TripleStoreModel", "apply", "(ZJJJ)V"⟩, 59) := ⟨⟨by decide +kernel, by decide +kernel⟩, List.mem_of_getElem? (i := 970) (by decide +kernel), List.mem_of_getElem? (i := 1189) (by decide +kernel), List.mem_of_getElem? (i := 1190) (by decide +kernel)⟩
theorem lw_p45 : lw_okq (⟨"TripleStoreModel", "close", "()V"⟩, 59) := ⟨⟨by decide +kernel, by decide +kernel⟩, List.mem_of_getElem? (i := 970) (by decide +kernel), List.mem_of_getElem? (i := 1193) (by decide +kernel), List.mem_of_getElem? (i := 1194) (by decide +kernel)⟩
theorem lw_p46 : lw_okq (⟨"TripleStoreModel", "undo", "(I)V"⟩, 59) := ⟨⟨by decide +kernel, by decide +kernel⟩, List.mem_of_getElem? (i := 970) (by decide +kernel), List.mem_of_getElem? (i := 1213) (by decide +kernel), List.mem_of_getElem? (i := 1214) (by decide +kernel)⟩
theorem lw_p47 : lw_okq (⟨"TripleStoreModel", "settle", "()V"⟩, 59) := ⟨⟨by decide +kernel, by decide +kernel⟩, List.mem_of_getElem? (i := 970) (by decide +kernel), List.mem_of_getElem? (i := 1221) (by decide +kernel), List.mem_of_getElem? (i := 1222) (by decide +kernel)⟩
def lw_privs_3 : List (MethodName × Nat) := [(⟨"TripleStore$Solver", "keepPassing", "(ILTripleStore$Solutions;LTripleStore$Solutions;)V"⟩, 5), (⟨"TripleStore$Solver", "passesTests", "(I)Z"⟩, 5), (⟨"TripleStore$Solver", "holds", "(LTripleStore$Element;)Z"⟩, 5), (⟨"TripleStore$Rows", "sort", "(LTripleStore$Query;LTripleStore$Solutions;)V"⟩, 4), (⟨"TripleStore$Rows", "standsBefore", "(LTripleStore$Query;LTripleStore$Solutions;II)Z"⟩, 4), (⟨"TripleStore$Rows", "takeRow", "(LTripleStore$Query;LTripleStore$Solutions;I)V"⟩, 4), (⟨"TripleStore$Rows", "isLastKnown", "()Z"⟩, 4), (⟨"TripleStore$Rows", "isSameRow", "(II)Z"⟩, 4), (⟨"TripleStoreModel", "isTriple", "(JJJ)Z"⟩, 59), (⟨"TripleStoreModel", "good", "(ZI)Z"⟩, 59), (⟨"TripleStoreModel", "does", "(ZJJJ)I"⟩, 59), (⟨"TripleStoreModel", "find", "(JJJ)I"⟩, 59), (⟨"TripleStoreModel", "apply", "(ZJJJ)V"⟩, 59), (⟨"TripleStoreModel", "close", "()V"⟩, 59), (⟨"TripleStoreModel", "undo", "(I)V"⟩, 59), (⟨"TripleStoreModel", "settle", "()V"⟩, 59)]
theorem lw_r3 : ∀ q ∈ lw_privs_3, lw_okq q := List.forall_mem_cons.mpr ⟨lw_p32, List.forall_mem_cons.mpr ⟨lw_p33, List.forall_mem_cons.mpr ⟨lw_p34, List.forall_mem_cons.mpr ⟨lw_p35, List.forall_mem_cons.mpr ⟨lw_p36, List.forall_mem_cons.mpr ⟨lw_p37, List.forall_mem_cons.mpr ⟨lw_p38, List.forall_mem_cons.mpr ⟨lw_p39, List.forall_mem_cons.mpr ⟨lw_p40, List.forall_mem_cons.mpr ⟨lw_p41, List.forall_mem_cons.mpr ⟨lw_p42, List.forall_mem_cons.mpr ⟨lw_p43, List.forall_mem_cons.mpr ⟨lw_p44, List.forall_mem_cons.mpr ⟨lw_p45, List.forall_mem_cons.mpr ⟨lw_p46, List.forall_mem_cons.mpr ⟨lw_p47, fun _ h => absurd h List.not_mem_nil⟩⟩⟩⟩⟩⟩⟩⟩⟩⟩⟩⟩⟩⟩⟩⟩
theorem lw_p48 : lw_okq (⟨"TripleStoreModel", "next", "()V"⟩, 59) := ⟨⟨by decide +kernel, by decide +kernel⟩, List.mem_of_getElem? (i := 970) (by decide +kernel), List.mem_of_getElem? (i := 1237) (by decide +kernel), List.mem_of_getElem? (i := 1238) (by decide +kernel)⟩
theorem lw_p49 : lw_okq (⟨"TripleStoreModel", "letters", "(I)I"⟩, 59) := ⟨⟨by decide +kernel, by decide +kernel⟩, List.mem_of_getElem? (i := 970) (by decide +kernel), List.mem_of_getElem? (i := 1244) (by decide +kernel), List.mem_of_getElem? (i := 1245) (by decide +kernel)⟩
theorem lw_p50 : lw_okq (⟨"TripleStoreModel", "readQuery", "()V"⟩, 59) := ⟨⟨by decide +kernel, by decide +kernel⟩, List.mem_of_getElem? (i := 970) (by decide +kernel), List.mem_of_getElem? (i := 1253) (by decide +kernel), List.mem_of_getElem? (i := 1254) (by decide +kernel)⟩
theorem lw_p51 : lw_okq (⟨"TripleStoreModel", "isKey", "(I)Z"⟩, 59) := ⟨⟨by decide +kernel, by decide +kernel⟩, List.mem_of_getElem? (i := 970) (by decide +kernel), List.mem_of_getElem? (i := 1257) (by decide +kernel), List.mem_of_getElem? (i := 1258) (by decide +kernel)⟩
theorem lw_p52 : lw_okq (⟨"TripleStoreModel", "goOn", "(Z)Z"⟩, 59) := ⟨⟨by decide +kernel, by decide +kernel⟩, List.mem_of_getElem? (i := 970) (by decide +kernel), List.mem_of_getElem? (i := 1272) (by decide +kernel), List.mem_of_getElem? (i := 1273) (by decide +kernel)⟩
theorem lw_p53 : lw_okq (⟨"TripleStoreModel", "stop", "()V"⟩, 59) := ⟨⟨by decide +kernel, by decide +kernel⟩, List.mem_of_getElem? (i := 970) (by decide +kernel), List.mem_of_getElem? (i := 1276) (by decide +kernel), List.mem_of_getElem? (i := 1277) (by decide +kernel)⟩
theorem lw_p54 : lw_okq (⟨"TripleStoreModel", "readVariable", "()I"⟩, 59) := ⟨⟨by decide +kernel, by decide +kernel⟩, List.mem_of_getElem? (i := 970) (by decide +kernel), List.mem_of_getElem? (i := 1280) (by decide +kernel), List.mem_of_getElem? (i := 1281) (by decide +kernel)⟩
theorem lw_p55 : lw_okq (⟨"TripleStoreModel", "readGroups", "()V"⟩, 59) := ⟨⟨by decide +kernel, by decide +kernel⟩, List.mem_of_getElem? (i := 970) (by decide +kernel), List.mem_of_getElem? (i := 1284) (by decide +kernel), List.mem_of_getElem? (i := 1285) (by decide +kernel)⟩
theorem lw_p56 : lw_okq (⟨"TripleStoreModel", "readStart", "(I)V"⟩, 59) := ⟨⟨by decide +kernel, by decide +kernel⟩, List.mem_of_getElem? (i := 970) (by decide +kernel), List.mem_of_getElem? (i := 1288) (by decide +kernel), List.mem_of_getElem? (i := 1289) (by decide +kernel)⟩
theorem lw_p57 : lw_okq (⟨"TripleStoreModel", "isSign", "(I)Z"⟩, 59) := ⟨⟨by decide +kernel, by decide +kernel⟩, List.mem_of_getElem? (i := 970) (by decide +kernel), List.mem_of_getElem? (i := 1292) (by decide +kernel), List.mem_of_getElem? (i := 1293) (by decide +kernel)⟩
theorem lw_p58 : lw_okq (⟨"TripleStoreModel", "emit", "(II)V"⟩, 59) := ⟨⟨by decide +kernel, by decide +kernel⟩, List.mem_of_getElem? (i := 970) (by decide +kernel), List.mem_of_getElem? (i := 1296) (by decide +kernel), List.mem_of_getElem? (i := 1297) (by decide +kernel)⟩
theorem lw_p59 : lw_okq (⟨"TripleStoreModel", "readElement", "()V"⟩, 59) := ⟨⟨by decide +kernel, by decide +kernel⟩, List.mem_of_getElem? (i := 970) (by decide +kernel), List.mem_of_getElem? (i := 1300) (by decide +kernel), List.mem_of_getElem? (i := 1301) (by decide +kernel)⟩
theorem lw_p60 : lw_okq (⟨"TripleStoreModel", "isTerm", "()Z"⟩, 59) := ⟨⟨by decide +kernel, by decide +kernel⟩, List.mem_of_getElem? (i := 970) (by decide +kernel), List.mem_of_getElem? (i := 1304) (by decide +kernel), List.mem_of_getElem? (i := 1305) (by decide +kernel)⟩
theorem lw_p61 : lw_okq (⟨"TripleStoreModel", "readTest", "()V"⟩, 59) := ⟨⟨by decide +kernel, by decide +kernel⟩, List.mem_of_getElem? (i := 970) (by decide +kernel), List.mem_of_getElem? (i := 1308) (by decide +kernel), List.mem_of_getElem? (i := 1309) (by decide +kernel)⟩
theorem lw_p62 : lw_okq (⟨"TripleStoreModel", "readSide", "(I)V"⟩, 59) := ⟨⟨by decide +kernel, by decide +kernel⟩, List.mem_of_getElem? (i := 970) (by decide +kernel), List.mem_of_getElem? (i := 1312) (by decide +kernel), List.mem_of_getElem? (i := 1313) (by decide +kernel)⟩
theorem lw_p63 : lw_okq (⟨"TripleStoreModel", "readOn", "()V"⟩, 59) := ⟨⟨by decide +kernel, by decide +kernel⟩, List.mem_of_getElem? (i := 970) (by decide +kernel), List.mem_of_getElem? (i := 1316) (by decide +kernel), List.mem_of_getElem? (i := 1317) (by decide +kernel)⟩
def lw_privs_4 : List (MethodName × Nat) := [(⟨"TripleStoreModel", "next", "()V"⟩, 59), (⟨"TripleStoreModel", "letters", "(I)I"⟩, 59), (⟨"TripleStoreModel", "readQuery", "()V"⟩, 59), (⟨"TripleStoreModel", "isKey", "(I)Z"⟩, 59), (⟨"TripleStoreModel", "goOn", "(Z)Z"⟩, 59), (⟨"TripleStoreModel", "stop", "()V"⟩, 59), (⟨"TripleStoreModel", "readVariable", "()I"⟩, 59), (⟨"TripleStoreModel", "readGroups", "()V"⟩, 59), (⟨"TripleStoreModel", "readStart", "(I)V"⟩, 59), (⟨"TripleStoreModel", "isSign", "(I)Z"⟩, 59), (⟨"TripleStoreModel", "emit", "(II)V"⟩, 59), (⟨"TripleStoreModel", "readElement", "()V"⟩, 59), (⟨"TripleStoreModel", "isTerm", "()Z"⟩, 59), (⟨"TripleStoreModel", "readTest", "()V"⟩, 59), (⟨"TripleStoreModel", "readSide", "(I)V"⟩, 59), (⟨"TripleStoreModel", "readOn", "()V"⟩, 59)]
theorem lw_r4 : ∀ q ∈ lw_privs_4, lw_okq q := List.forall_mem_cons.mpr ⟨lw_p48, List.forall_mem_cons.mpr ⟨lw_p49, List.forall_mem_cons.mpr ⟨lw_p50, List.forall_mem_cons.mpr ⟨lw_p51, List.forall_mem_cons.mpr ⟨lw_p52, List.forall_mem_cons.mpr ⟨lw_p53, List.forall_mem_cons.mpr ⟨lw_p54, List.forall_mem_cons.mpr ⟨lw_p55, List.forall_mem_cons.mpr ⟨lw_p56, List.forall_mem_cons.mpr ⟨lw_p57, List.forall_mem_cons.mpr ⟨lw_p58, List.forall_mem_cons.mpr ⟨lw_p59, List.forall_mem_cons.mpr ⟨lw_p60, List.forall_mem_cons.mpr ⟨lw_p61, List.forall_mem_cons.mpr ⟨lw_p62, List.forall_mem_cons.mpr ⟨lw_p63, fun _ h => absurd h List.not_mem_nil⟩⟩⟩⟩⟩⟩⟩⟩⟩⟩⟩⟩⟩⟩⟩⟩
theorem lw_p64 : lw_okq (⟨"TripleStoreModel", "readClose", "()V"⟩, 59) := ⟨⟨by decide +kernel, by decide +kernel⟩, List.mem_of_getElem? (i := 970) (by decide +kernel), List.mem_of_getElem? (i := 1320) (by decide +kernel), List.mem_of_getElem? (i := 1321) (by decide +kernel)⟩
theorem lw_p65 : lw_okq (⟨"TripleStoreModel", "work", "(II)V"⟩, 59) := ⟨⟨by decide +kernel, by decide +kernel⟩, List.mem_of_getElem? (i := 970) (by decide +kernel), List.mem_of_getElem? (i := 1324) (by decide +kernel), List.mem_of_getElem? (i := 1325) (by decide +kernel)⟩
theorem lw_p66 : lw_okq (⟨"TripleStoreModel", "match", "(I)V"⟩, 59) := ⟨⟨by decide +kernel, by decide +kernel⟩, List.mem_of_getElem? (i := 970) (by decide +kernel), List.mem_of_getElem? (i := 1328) (by decide +kernel), List.mem_of_getElem? (i := 1329) (by decide +kernel)⟩
theorem lw_p67 : lw_okq (⟨"TripleStoreModel", "combine", "(I)V"⟩, 59) := ⟨⟨by decide +kernel, by decide +kernel⟩, List.mem_of_getElem? (i := 970) (by decide +kernel), List.mem_of_getElem? (i := 1332) (by decide +kernel), List.mem_of_getElem? (i := 1333) (by decide +kernel)⟩
theorem lw_p68 : lw_okq (⟨"TripleStoreModel", "compatible", "(II)Z"⟩, 59) := ⟨⟨by decide +kernel, by decide +kernel⟩, List.mem_of_getElem? (i := 970) (by decide +kernel), List.mem_of_getElem? (i := 1336) (by decide +kernel), List.mem_of_getElem? (i := 1337) (by decide +kernel)⟩
theorem lw_p69 : lw_okq (⟨"TripleStoreModel", "join", "(IIII)V"⟩, 59) := ⟨⟨by decide +kernel, by decide +kernel⟩, List.mem_of_getElem? (i := 970) (by decide +kernel), List.mem_of_getElem? (i := 1340) (by decide +kernel), List.mem_of_getElem? (i := 1341) (by decide +kernel)⟩
theorem lw_p70 : lw_okq (⟨"TripleStoreModel", "addTo", "(III)V"⟩, 59) := ⟨⟨by decide +kernel, by decide +kernel⟩, List.mem_of_getElem? (i := 970) (by decide +kernel), List.mem_of_getElem? (i := 1344) (by decide +kernel), List.mem_of_getElem? (i := 1345) (by decide +kernel)⟩
theorem lw_p71 : lw_okq (⟨"TripleStoreModel", "copy", "(II)V"⟩, 59) := ⟨⟨by decide +kernel, by decide +kernel⟩, List.mem_of_getElem? (i := 970) (by decide +kernel), List.mem_of_getElem? (i := 1348) (by decide +kernel), List.mem_of_getElem? (i := 1349) (by decide +kernel)⟩
theorem lw_p72 : lw_okq (⟨"TripleStoreModel", "filter", "(I)V"⟩, 59) := ⟨⟨by decide +kernel, by decide +kernel⟩, List.mem_of_getElem? (i := 970) (by decide +kernel), List.mem_of_getElem? (i := 1352) (by decide +kernel), List.mem_of_getElem? (i := 1353) (by decide +kernel)⟩
theorem lw_p73 : lw_okq (⟨"TripleStoreModel", "holds", "(II)Z"⟩, 59) := ⟨⟨by decide +kernel, by decide +kernel⟩, List.mem_of_getElem? (i := 970) (by decide +kernel), List.mem_of_getElem? (i := 1356) (by decide +kernel), List.mem_of_getElem? (i := 1357) (by decide +kernel)⟩
theorem lw_p74 : lw_okq (⟨"TripleStoreModel", "makeRows", "()V"⟩, 59) := ⟨⟨by decide +kernel, by decide +kernel⟩, List.mem_of_getElem? (i := 970) (by decide +kernel), List.mem_of_getElem? (i := 1363) (by decide +kernel), List.mem_of_getElem? (i := 1364) (by decide +kernel)⟩
theorem lw_p75 : lw_okq (⟨"TripleStoreModel", "before", "(II)Z"⟩, 59) := ⟨⟨by decide +kernel, by decide +kernel⟩, List.mem_of_getElem? (i := 970) (by decide +kernel), List.mem_of_getElem? (i := 1367) (by decide +kernel), List.mem_of_getElem? (i := 1368) (by decide +kernel)⟩
theorem lw_p76 : lw_okq (⟨"TripleStoreModel", "by", "(III)I"⟩, 59) := ⟨⟨by decide +kernel, by decide +kernel⟩, List.mem_of_getElem? (i := 970) (by decide +kernel), List.mem_of_getElem? (i := 1371) (by decide +kernel), List.mem_of_getElem? (i := 1372) (by decide +kernel)⟩
theorem lw_p77 : lw_okq (⟨"TripleStoreModel", "byTerms", "(II)I"⟩, 59) := ⟨⟨by decide +kernel, by decide +kernel⟩, List.mem_of_getElem? (i := 970) (by decide +kernel), List.mem_of_getElem? (i := 1375) (by decide +kernel), List.mem_of_getElem? (i := 1376) (by decide +kernel)⟩
def lw_privs_5 : List (MethodName × Nat) := [(⟨"TripleStoreModel", "readClose", "()V"⟩, 59), (⟨"TripleStoreModel", "work", "(II)V"⟩, 59), (⟨"TripleStoreModel", "match", "(I)V"⟩, 59), (⟨"TripleStoreModel", "combine", "(I)V"⟩, 59), (⟨"TripleStoreModel", "compatible", "(II)Z"⟩, 59), (⟨"TripleStoreModel", "join", "(IIII)V"⟩, 59), (⟨"TripleStoreModel", "addTo", "(III)V"⟩, 59), (⟨"TripleStoreModel", "copy", "(II)V"⟩, 59), (⟨"TripleStoreModel", "filter", "(I)V"⟩, 59), (⟨"TripleStoreModel", "holds", "(II)Z"⟩, 59), (⟨"TripleStoreModel", "makeRows", "()V"⟩, 59), (⟨"TripleStoreModel", "before", "(II)Z"⟩, 59), (⟨"TripleStoreModel", "by", "(III)I"⟩, 59), (⟨"TripleStoreModel", "byTerms", "(II)I"⟩, 59)]
theorem lw_r5 : ∀ q ∈ lw_privs_5, lw_okq q := List.forall_mem_cons.mpr ⟨lw_p64, List.forall_mem_cons.mpr ⟨lw_p65, List.forall_mem_cons.mpr ⟨lw_p66, List.forall_mem_cons.mpr ⟨lw_p67, List.forall_mem_cons.mpr ⟨lw_p68, List.forall_mem_cons.mpr ⟨lw_p69, List.forall_mem_cons.mpr ⟨lw_p70, List.forall_mem_cons.mpr ⟨lw_p71, List.forall_mem_cons.mpr ⟨lw_p72, List.forall_mem_cons.mpr ⟨lw_p73, List.forall_mem_cons.mpr ⟨lw_p74, List.forall_mem_cons.mpr ⟨lw_p75, List.forall_mem_cons.mpr ⟨lw_p76, List.forall_mem_cons.mpr ⟨lw_p77, fun _ h => absurd h List.not_mem_nil⟩⟩⟩⟩⟩⟩⟩⟩⟩⟩⟩⟩⟩⟩
def lw_privs : List (MethodName × Nat) := lw_privs_1 ++ (lw_privs_2 ++ (lw_privs_3 ++ (lw_privs_4 ++ (lw_privs_5))))
def lw_tbl : List Cond := k2_sels lw_privs ++ tables_1
theorem lw_privs_ok : ∀ q ∈ lw_privs, lw_okq q := by
  show ∀ q ∈ lw_privs_1 ++ (lw_privs_2 ++ (lw_privs_3 ++ (lw_privs_4 ++ (lw_privs_5)))), lw_okq q
  exact List.forall_mem_append.mpr ⟨lw_r1, List.forall_mem_append.mpr ⟨lw_r2, List.forall_mem_append.mpr ⟨lw_r3, List.forall_mem_append.mpr ⟨lw_r4, lw_r5⟩⟩⟩⟩
-- ===== end of PART A =====
end
section
/-- the words that every method of ours stands on -/
def gT : List Cond := lw_tbl.filter goodWord
theorem gT_at (i : Nat) {w : Cond} (h : tables_1[i]? = some w) (hg : goodWord w = true) : w ∈ gT := List.mem_filter.mpr ⟨List.mem_append_right _ (List.mem_of_getElem? h), hg⟩
theorem gT_pr (i : Nat) {w : Cond} (h : (k2_sels lw_privs)[i]? = some w) (hg : goodWord w = true) : w ∈ gT := List.mem_filter.mpr ⟨List.mem_append_left _ (List.mem_of_getElem? h), hg⟩
theorem gT_sub {ws : List Cond} (is : List Nat) (h : is.map (fun i => tables_1[i]?) = ws.map some) (hg : ws.all goodWord = true) : ∀ w ∈ ws, w ∈ gT := by
  intro w hw
  have h1 : some w ∈ ws.map some := List.mem_map.mpr ⟨w, hw, rfl⟩
  rw [← h] at h1
  obtain ⟨i, -, hi⟩ := List.mem_map.mp h1
  exact gT_at i hi (List.all_eq_true.mp hg w hw)
/-- the places of the words that are no steady ones: nests, casts, texts, handlers, statics -/
def yI : List Nat := [33, 86, 116, 121, 122, 124, 125, 127, 128, 130, 131, 133, 134, 136, 137, 139, 140, 159, 160, 162, 163, 165, 166, 168, 169, 171, 172, 174, 175, 177, 178, 180, 182, 184, 235, 264, 323, 346, 371, 373, 386, 434, 441, 471, 486, 495, 502, 507, 514, 545, 550, 560, 571, 572, 575, 749, 856, 893, 906, 913, 927, 934, 947, 968]
def yT : List Cond := yI.filterMap (fun i => tables_1[i]?) ++ [.isRef (.static "java/lang/Throwable" "UNASSIGNED_STACK" "[Ljava/lang/StackTraceElement;"), .isRef (.static "java/lang/Throwable" "SUPPRESSED_SENTINEL" "Ljava/util/List;")]
theorem yT_at (i : Nat) {w : Cond} (hi : yI.contains i = true) (h : tables_1[i]? = some w) : w ∈ yT := List.mem_append_left _ (List.mem_filterMap.mpr ⟨i, List.contains_iff_mem.mp hi, h⟩)
def REl : String := "TripleStore$Element"
def TEl : u_T := fun k => match k with
  | 0 => ("TripleStore$Element", "kind", "I", false)
  | 1 => ("TripleStore$Element", "home", "I", false)
  | 2 => ("TripleStore$Element", "first", "J", false)
  | 3 => ("TripleStore$Element", "second", "J", false)
  | 4 => ("TripleStore$Element", "third", "J", false)
  | 5 => ("TripleStore$Element", "sign", "I", false)
  | _ => ("TripleStore$Element", "negated", "Z", false)
def tyEl : Nat → FieldType := fun k => match k with
  | 0 => .int
  | 1 => .int
  | 2 => .long
  | 3 => .long
  | 4 => .long
  | 5 => .int
  | _ => .boolean
theorem nmEl : ∀ a, a < 7 → ∀ b, b < 7 → a ≠ b → (TEl a).2.1 ≠ (TEl b).2.1 := by decide +kernel
theorem okEl : ∀ k, k < 7 → parseFieldDescriptor (TEl k).2.2.1 = some (tyEl k) := by decide +kernel
theorem inEl : ∀ w ∈ u_ws REl TEl 7, w ∈ gT := gT_sub [141, 143, 145, 147, 149, 151, 153] (by decide +kernel) (by decide +kernel)
def RPa : String := "TripleStore$Parser"
def TPa : u_T := fun k => match k with
  | 0 => ("TripleStore$Parser", "tokens", "LTripleStore$Tokens;", true)
  | 1 => ("TripleStore$Parser", "query", "LTripleStore$Query;", true)
  | _ => ("TripleStore$Parser", "side", "J", false)
def tyPa : Nat → FieldType := fun k => match k with
  | 0 => .object "TripleStore$Tokens"
  | 1 => .object "TripleStore$Query"
  | _ => .long
theorem nmPa : ∀ a, a < 3 → ∀ b, b < 3 → a ≠ b → (TPa a).2.1 ≠ (TPa b).2.1 := by decide +kernel
theorem okPa : ∀ k, k < 3 → parseFieldDescriptor (TPa k).2.2.1 = some (tyPa k) := by decide +kernel
theorem inPa : ∀ w ∈ u_ws RPa TPa 3, w ∈ gT := gT_sub [219, 221, 223] (by decide +kernel) (by decide +kernel)
def RQu : String := "TripleStore$Query"
def TQu : u_T := fun k => match k with
  | 0 => ("TripleStore$Query", "names", "[J", true)
  | 1 => ("TripleStore$Query", "variables", "I", false)
  | 2 => ("TripleStore$Query", "selected", "[I", true)
  | 3 => ("TripleStore$Query", "columns", "I", false)
  | 4 => ("TripleStore$Query", "distinct", "Z", false)
  | 5 => ("TripleStore$Query", "orderVariable", "I", false)
  | 6 => ("TripleStore$Query", "falling", "Z", false)
  | 7 => ("TripleStore$Query", "limit", "I", false)
  | 8 => ("TripleStore$Query", "elements", "[LTripleStore$Element;", true)
  | 9 => ("TripleStore$Query", "elementCount", "I", false)
  | 10 => ("TripleStore$Query", "elementOfGroup", "[I", true)
  | _ => ("TripleStore$Query", "groups", "I", false)
def tyQu : Nat → FieldType := fun k => match k with
  | 0 => .array .long
  | 1 => .int
  | 2 => .array .int
  | 3 => .int
  | 4 => .boolean
  | 5 => .int
  | 6 => .boolean
  | 7 => .int
  | 8 => .array (.object "TripleStore$Element")
  | 9 => .int
  | 10 => .array .int
  | _ => .int
theorem nmQu : ∀ a, a < 12 → ∀ b, b < 12 → a ≠ b → (TQu a).2.1 ≠ (TQu b).2.1 := by decide +kernel
theorem okQu : ∀ k, k < 12 → parseFieldDescriptor (TQu k).2.2.1 = some (tyQu k) := by decide +kernel
theorem inQu : ∀ w ∈ u_ws RQu TQu 12, w ∈ gT := gT_sub [185, 187, 189, 191, 193, 195, 197, 199, 201, 203, 205, 207] (by decide +kernel) (by decide +kernel)
def RRo : String := "TripleStore$Rows"
def TRo : u_T := fun k => match k with
  | 0 => ("TripleStore$Rows", "terms", "[J", true)
  | 1 => ("TripleStore$Rows", "order", "[I", true)
  | 2 => ("TripleStore$Rows", "columns", "I", false)
  | _ => ("TripleStore$Rows", "size", "I", false)
def tyRo : Nat → FieldType := fun k => match k with
  | 0 => .array .long
  | 1 => .array .int
  | 2 => .int
  | _ => .int
theorem nmRo : ∀ a, a < 4 → ∀ b, b < 4 → a ≠ b → (TRo a).2.1 ≠ (TRo b).2.1 := by decide +kernel
theorem okRo : ∀ k, k < 4 → parseFieldDescriptor (TRo k).2.2.1 = some (tyRo k) := by decide +kernel
theorem inRo : ∀ w ∈ u_ws RRo TRo 4, w ∈ gT := gT_sub [272, 274, 276, 278] (by decide +kernel) (by decide +kernel)
def RSo : String := "TripleStore$Solutions"
def TSo : u_T := fun k => match k with
  | 0 => ("TripleStore$Solutions", "terms", "[J", true)
  | _ => ("TripleStore$Solutions", "size", "I", false)
def tySo : Nat → FieldType := fun k => match k with
  | 0 => .array .long
  | _ => .int
theorem nmSo : ∀ a, a < 2 → ∀ b, b < 2 → a ≠ b → (TSo a).2.1 ≠ (TSo b).2.1 := by decide +kernel
theorem okSo : ∀ k, k < 2 → parseFieldDescriptor (TSo k).2.2.1 = some (tySo k) := by decide +kernel
theorem inSo : ∀ w ∈ u_ws RSo TSo 2, w ∈ gT := gT_sub [241, 243] (by decide +kernel) (by decide +kernel)
def RSv : String := "TripleStore$Solver"
def TSv : u_T := fun k => match k with
  | 0 => ("TripleStore$Solver", "store", "LTripleStore$Store;", true)
  | 1 => ("TripleStore$Solver", "query", "LTripleStore$Query;", true)
  | 2 => ("TripleStore$Solver", "found", "[LTripleStore$Solutions;", true)
  | 3 => ("TripleStore$Solver", "next", "[LTripleStore$Solutions;", true)
  | _ => ("TripleStore$Solver", "draft", "[J", true)
def tySv : Nat → FieldType := fun k => match k with
  | 0 => .object "TripleStore$Store"
  | 1 => .object "TripleStore$Query"
  | 2 => .array (.object "TripleStore$Solutions")
  | 3 => .array (.object "TripleStore$Solutions")
  | _ => .array .long
theorem nmSv : ∀ a, a < 5 → ∀ b, b < 5 → a ≠ b → (TSv a).2.1 ≠ (TSv b).2.1 := by decide +kernel
theorem okSv : ∀ k, k < 5 → parseFieldDescriptor (TSv k).2.2.1 = some (tySv k) := by decide +kernel
theorem inSv : ∀ w ∈ u_ws RSv TSv 5, w ∈ gT := gT_sub [251, 253, 255, 257, 259] (by decide +kernel) (by decide +kernel)
def RSt : String := "TripleStore$Store"
def TSt : u_T := fun k => match k with
  | 0 => ("TripleStore$Store", "triples", "LTripleStore$Triples;", true)
  | 1 => ("TripleStore$Store", "log", "LTripleStore$Triples;", true)
  | 2 => ("TripleStore$Store", "wasInsert", "[Z", true)
  | 3 => ("TripleStore$Store", "transactionOf", "[I", true)
  | 4 => ("TripleStore$Store", "open", "Z", false)
  | 5 => ("TripleStore$Store", "changes", "I", false)
  | 6 => ("TripleStore$Store", "committed", "I", false)
  | _ => ("TripleStore$Store", "unsynced", "I", false)
def tySt : Nat → FieldType := fun k => match k with
  | 0 => .object "TripleStore$Triples"
  | 1 => .object "TripleStore$Triples"
  | 2 => .array .boolean
  | 3 => .array .int
  | 4 => .boolean
  | 5 => .int
  | 6 => .int
  | _ => .int
theorem nmSt : ∀ a, a < 8 → ∀ b, b < 8 → a ≠ b → (TSt a).2.1 ≠ (TSt b).2.1 := by decide +kernel
theorem okSt : ∀ k, k < 8 → parseFieldDescriptor (TSt k).2.2.1 = some (tySt k) := by decide +kernel
theorem inSt : ∀ w ∈ u_ws RSt TSt 8, w ∈ gT := gT_sub [65, 67, 69, 71, 73, 75, 77, 79] (by decide +kernel) (by decide +kernel)
def RTo : String := "TripleStore$Tokens"
def TTo : u_T := fun k => match k with
  | 0 => ("TripleStore$Tokens", "kinds", "[I", true)
  | 1 => ("TripleStore$Tokens", "values", "[J", true)
  | 2 => ("TripleStore$Tokens", "places", "[I", true)
  | 3 => ("TripleStore$Tokens", "size", "I", false)
  | _ => ("TripleStore$Tokens", "at", "I", false)
def tyTo : Nat → FieldType := fun k => match k with
  | 0 => .array .int
  | 1 => .array .long
  | 2 => .array .int
  | 3 => .int
  | _ => .int
theorem nmTo : ∀ a, a < 5 → ∀ b, b < 5 → a ≠ b → (TTo a).2.1 ≠ (TTo b).2.1 := by decide +kernel
theorem okTo : ∀ k, k < 5 → parseFieldDescriptor (TTo k).2.2.1 = some (tyTo k) := by decide +kernel
theorem inTo : ∀ w ∈ u_ws RTo TTo 5, w ∈ gT := gT_sub [95, 97, 99, 101, 103] (by decide +kernel) (by decide +kernel)
def RTr : String := "TripleStore$Triples"
def TTr : u_T := fun k => match k with
  | 0 => ("TripleStore$Triples", "subjects", "[J", true)
  | 1 => ("TripleStore$Triples", "predicates", "[J", true)
  | 2 => ("TripleStore$Triples", "objects", "[J", true)
  | _ => ("TripleStore$Triples", "size", "I", false)
def tyTr : Nat → FieldType := fun k => match k with
  | 0 => .array .long
  | 1 => .array .long
  | 2 => .array .long
  | _ => .int
theorem nmTr : ∀ a, a < 4 → ∀ b, b < 4 → a ≠ b → (TTr a).2.1 ≠ (TTr b).2.1 := by decide +kernel
theorem okTr : ∀ k, k < 4 → parseFieldDescriptor (TTr k).2.2.1 = some (tyTr k) := by decide +kernel
theorem inTr : ∀ w ∈ u_ws RTr TTr 4, w ∈ gT := gT_sub [47, 49, 51, 53] (by decide +kernel) (by decide +kernel)
def RTS : String := "TripleStore"
def TTS : u_T := fun k => match k with
  | 0 => ("TripleStore", "store", "LTripleStore$Store;", true)
  | 1 => ("TripleStore", "text", "[C", true)
  | 2 => ("TripleStore", "tokens", "LTripleStore$Tokens;", true)
  | 3 => ("TripleStore", "query", "LTripleStore$Query;", true)
  | 4 => ("TripleStore", "parser", "LTripleStore$Parser;", true)
  | 5 => ("TripleStore", "solver", "LTripleStore$Solver;", true)
  | 6 => ("TripleStore", "rows", "LTripleStore$Rows;", true)
  | 7 => ("TripleStore", "length", "I", false)
  | _ => ("TripleStore", "faultPlace", "I", false)
def tyTS : Nat → FieldType := fun k => match k with
  | 0 => .object "TripleStore$Store"
  | 1 => .array .char
  | 2 => .object "TripleStore$Tokens"
  | 3 => .object "TripleStore$Query"
  | 4 => .object "TripleStore$Parser"
  | 5 => .object "TripleStore$Solver"
  | 6 => .object "TripleStore$Rows"
  | 7 => .int
  | _ => .int
theorem nmTS : ∀ a, a < 9 → ∀ b, b < 9 → a ≠ b → (TTS a).2.1 ≠ (TTS b).2.1 := by decide +kernel
theorem okTS : ∀ k, k < 9 → parseFieldDescriptor (TTS k).2.2.1 = some (tyTS k) := by decide +kernel
theorem inTS : ∀ w ∈ u_ws RTS TTS 9, w ∈ gT := gT_sub [290, 292, 294, 296, 298, 300, 302, 304, 306] (by decide +kernel) (by decide +kernel)
def RMo : String := "TripleStoreModel"
def TMo : u_T := fun k => match k with
  | 0 => ("TripleStoreModel", "triple", "[J", true)
  | 1 => ("TripleStoreModel", "triples", "I", false)
  | 2 => ("TripleStoreModel", "kept", "[J", true)
  | 3 => ("TripleStoreModel", "keptCount", "I", false)
  | 4 => ("TripleStoreModel", "change", "[J", true)
  | 5 => ("TripleStoreModel", "put", "[Z", true)
  | 6 => ("TripleStoreModel", "of", "[I", true)
  | 7 => ("TripleStoreModel", "changes", "I", false)
  | 8 => ("TripleStoreModel", "committed", "I", false)
  | 9 => ("TripleStoreModel", "unsynced", "I", false)
  | 10 => ("TripleStoreModel", "open", "Z", false)
  | 11 => ("TripleStoreModel", "openFrom", "I", false)
  | 12 => ("TripleStoreModel", "text", "[I", true)
  | 13 => ("TripleStoreModel", "length", "I", false)
  | 14 => ("TripleStoreModel", "fault", "I", false)
  | 15 => ("TripleStoreModel", "kind", "I", false)
  | 16 => ("TripleStoreModel", "token", "J", false)
  | 17 => ("TripleStoreModel", "start", "I", false)
  | 18 => ("TripleStoreModel", "end", "I", false)
  | 19 => ("TripleStoreModel", "behind", "I", false)
  | 20 => ("TripleStoreModel", "wrong", "I", false)
  | 21 => ("TripleStoreModel", "starts", "Z", false)
  | 22 => ("TripleStoreModel", "holds", "Z", false)
  | 23 => ("TripleStoreModel", "name", "[J", true)
  | 24 => ("TripleStoreModel", "names", "I", false)
  | 25 => ("TripleStoreModel", "elements", "I", false)
  | 26 => ("TripleStoreModel", "groups", "I", false)
  | 27 => ("TripleStoreModel", "depth", "I", false)
  | 28 => ("TripleStoreModel", "groupKind", "[I", true)
  | 29 => ("TripleStoreModel", "groupId", "[I", true)
  | 30 => ("TripleStoreModel", "op", "[I", true)
  | 31 => ("TripleStoreModel", "arg", "[I", true)
  | 32 => ("TripleStoreModel", "ops", "I", false)
  | 33 => ("TripleStoreModel", "side", "[I", true)
  | 34 => ("TripleStoreModel", "term", "[J", true)
  | 35 => ("TripleStoreModel", "patterns", "I", false)
  | 36 => ("TripleStoreModel", "testGroup", "[I", true)
  | 37 => ("TripleStoreModel", "testSign", "[I", true)
  | 38 => ("TripleStoreModel", "testNot", "[Z", true)
  | 39 => ("TripleStoreModel", "tests", "I", false)
  | 40 => ("TripleStoreModel", "wanted", "[I", true)
  | 41 => ("TripleStoreModel", "wantedCount", "I", false)
  | 42 => ("TripleStoreModel", "beside", "[I", true)
  | 43 => ("TripleStoreModel", "distinct", "Z", false)
  | 44 => ("TripleStoreModel", "orderBy", "I", false)
  | 45 => ("TripleStoreModel", "falls", "Z", false)
  | 46 => ("TripleStoreModel", "limit", "I", false)
  | 47 => ("TripleStoreModel", "value", "[J", true)
  | 48 => ("TripleStoreModel", "given", "[I", true)
  | 49 => ("TripleStoreModel", "size", "[I", true)
  | 50 => ("TripleStoreModel", "top", "I", false)
  | 51 => ("TripleStoreModel", "tooMany", "Z", false)
  | 52 => ("TripleStoreModel", "row", "[J", true)
  | 53 => ("TripleStoreModel", "rowGiven", "[I", true)
  | 54 => ("TripleStoreModel", "rowAt", "[I", true)
  | 55 => ("TripleStoreModel", "rows", "I", false)
  | 56 => ("TripleStoreModel", "column", "[I", true)
  | 57 => ("TripleStoreModel", "columns", "I", false)
  | _ => ("TripleStoreModel", "code", "I", false)
def tyMo : Nat → FieldType := fun k => match k with
  | 0 => .array .long
  | 1 => .int
  | 2 => .array .long
  | 3 => .int
  | 4 => .array .long
  | 5 => .array .boolean
  | 6 => .array .int
  | 7 => .int
  | 8 => .int
  | 9 => .int
  | 10 => .boolean
  | 11 => .int
  | 12 => .array .int
  | 13 => .int
  | 14 => .int
  | 15 => .int
  | 16 => .long
  | 17 => .int
  | 18 => .int
  | 19 => .int
  | 20 => .int
  | 21 => .boolean
  | 22 => .boolean
  | 23 => .array .long
  | 24 => .int
  | 25 => .int
  | 26 => .int
  | 27 => .int
  | 28 => .array .int
  | 29 => .array .int
  | 30 => .array .int
  | 31 => .array .int
  | 32 => .int
  | 33 => .array .int
  | 34 => .array .long
  | 35 => .int
  | 36 => .array .int
  | 37 => .array .int
  | 38 => .array .boolean
  | 39 => .int
  | 40 => .array .int
  | 41 => .int
  | 42 => .array .int
  | 43 => .boolean
  | 44 => .int
  | 45 => .boolean
  | 46 => .int
  | 47 => .array .long
  | 48 => .array .int
  | 49 => .array .int
  | 50 => .int
  | 51 => .boolean
  | 52 => .array .long
  | 53 => .array .int
  | 54 => .array .int
  | 55 => .int
  | 56 => .array .int
  | 57 => .int
  | _ => .int
theorem nmMo : ∀ a, a < 59 → ∀ b, b < 59 → a ≠ b → (TMo a).2.1 ≠ (TMo b).2.1 := by decide +kernel
theorem okMo : ∀ k, k < 59 → parseFieldDescriptor (TMo k).2.2.1 = some (tyMo k) := by decide +kernel
theorem inMo : ∀ w ∈ u_ws RMo TMo 59, w ∈ gT := gT_sub [1034, 1036, 1038, 1040, 1042, 1044, 1046, 1048, 1050, 1052, 1054, 1056, 1058, 1060, 1062, 1064, 1066, 1068, 1070, 1072, 1074, 1076, 1078, 1080, 1082, 1084, 1086, 1088, 1090, 1092, 1094, 1096, 1098, 1100, 1102, 1104, 1106, 1108, 1110, 1112, 1114, 1116, 1118, 1120, 1122, 1124, 1126, 1128, 1130, 1132, 1134, 1136, 1138, 1140, 1142, 1144, 1146, 1148, 1150] (by decide +kernel) (by decide +kernel)
abbrev vwCl : List vw_C := [(REl, TEl, 7), (RPa, TPa, 3), (RQu, TQu, 12), (RRo, TRo, 4), (RSo, TSo, 2), (RSv, TSv, 5), (RSt, TSt, 8), (RTo, TTo, 5), (RTr, TTr, 4), (RTS, TTS, 9), (RMo, TMo, 59)]
def mTY : List FieldType := [.int, .long, .char, .boolean, .object "TripleStore$Element", .object "TripleStore$Solutions"]
end
section
/-! MINI WORLDS. A world is a list of cells; a reference is a place in it. 'ad': the addresses of the places; 'tc': the classes of the arrays, by the place of their type in mTY. -/
abbrev mC : Type := (Nat × vp_A) ⊕ (Nat × List Value)
def mc_v (ad : Nat → Nat) (v : Value) : Value := match v with
  | .ref k => .ref (ad k)
  | w => w
theorem mc_v_cat (ad : Nat → Nat) (v : Value) : (mc_v ad v).category = v.category := by cases v <;> rfl
def mc_a (ad : Nat → Nat) (a : vp_A) : vp_A := match a with
  | (n, .inr (.inr (.inr (.inr f)))) => (n, .inr (.inr (.inr (.inr (fun j => (f j).map ad)))))
  | (n, b) => (n, b)
def mc_e (tc : Nat → ClassId) (ad : Nat → Nat) (c : mC) : va_E := match c with
  | .inl a => .inl (tc a.1, mc_a ad a.2)
  | .inr o => .inr (o.1, o.2.map (mc_v ad))
def mc_w (tc : Nat → ClassId) (ad : Nat → Nat) (M : List mC) : va_W := M.mapIdx fun k c => (ad k, mc_e tc ad c)
def mc_t (tc : Nat → ClassId) : List (ClassId × FieldType) := mTY.mapIdx fun k ty => (tc k, ty)
theorem mc_ty {tc : Nat → ClassId} {t : Nat} {ty : FieldType} (h : mTY[t]? = some ty) : (mc_t tc)[t]? = some (tc t, ty) := by
  unfold mc_t
  rw [List.getElem?_mapIdx, h]
  rfl
theorem mc_at {tc : Nat → ClassId} {ad : Nat → Nat} {M : List mC} {k : Nat} {c : mC} (h : M[k]? = some c) : (mc_w tc ad M)[k]? = some (ad k, mc_e tc ad c) := by
  unfold mc_w
  rw [List.getElem?_mapIdx, h]
  rfl
theorem mc_set (tc : Nat → ClassId) (ad : Nat → Nat) (M : List mC) (k : Nat) (c : mC) : mc_w tc ad (M.set k c) = (mc_w tc ad M).set k (ad k, mc_e tc ad c) := by
  unfold mc_w
  rw [List.mapIdx_set]
theorem mc_push (tc : Nat → ClassId) (ad : Nat → Nat) (M : List mC) (c : mC) : mc_w tc ad (M ++ [c]) = mc_w tc ad M ++ [(ad M.length, mc_e tc ad c)] := by
  unfold mc_w
  rw [List.mapIdx_concat]
/-! references that lie within the first n places, or at the place that no world has: an array that is given from outside -/
def spl : Nat := 1000000
def mk_v (n : Nat) (v : Value) : Prop := match v with
  | .ref k => k < n ∨ k = spl
  | _ => True
def mk_a (n : Nat) (a : vp_A) : Prop := match a with
  | (_, .inr (.inr (.inr (.inr f)))) => ∀ j i, f j = some i → i < n ∨ i = spl
  | _ => True
def mk_c (n : Nat) (c : mC) : Prop := match c with
  | .inl a => mk_a n a.2
  | .inr o => ∀ v ∈ o.2, mk_v n v
theorem mk_v_eq {n : Nat} {ad ad' : Nat → Nat} {v : Value} (h : mk_v n v) (he : ∀ i, i < n ∨ i = spl → ad' i = ad i) : mc_v ad' v = mc_v ad v := by
  cases v with
  | ref k => exact congrArg Value.ref (he k h)
  | _ => rfl
theorem mk_c_eq {n : Nat} {tc : Nat → ClassId} {ad ad' : Nat → Nat} {c : mC} (h : mk_c n c) (he : ∀ i, i < n ∨ i = spl → ad' i = ad i) : mc_e tc ad' c = mc_e tc ad c := by
  rcases c with ⟨t, k, f | f | f | f | f⟩ | ⟨ci, fs⟩
  · rfl
  · rfl
  · rfl
  · rfl
  · have e : (fun j => (f j).map ad') = (fun j => (f j).map ad) := by
      funext j
      cases hj : f j with
      | none => rfl
      | some i => exact congrArg some (he i (h j i hj))
    show (Sum.inl (tc t, k, Sum.inr (Sum.inr (Sum.inr (Sum.inr (fun j => (f j).map ad'))))) : va_E) = _
    rw [e]
    rfl
  · show (Sum.inr (ci, fs.map (mc_v ad')) : va_E) = Sum.inr (ci, fs.map (mc_v ad))
    rw [List.map_congr_left (fun v hv => mk_v_eq (h v hv) he)]
theorem mk_w_eq {tc : Nat → ClassId} {ad ad' : Nat → Nat} {M : List mC} (h : ∀ c ∈ M, mk_c M.length c) (he : ∀ i, i < M.length ∨ i = spl → ad' i = ad i) : mc_w tc ad' M = mc_w tc ad M := by
  apply List.ext_getElem?
  intro k
  unfold mc_w
  rw [List.getElem?_mapIdx, List.getElem?_mapIdx]
  cases hk : M[k]? with
  | none => rfl
  | some c =>
    have hl := (List.getElem?_eq_some_iff.mp hk).1
    show some (ad' k, mc_e tc ad' c) = some (ad k, mc_e tc ad c)
    rw [he k (Or.inl hl), mk_c_eq (h c (List.mem_of_getElem? hk)) he]
/-! locals -/
def mc_l (ad : Nat → Nat) (L : List (Nat × Value)) : List (Nat × Value) := L.map fun q => (q.1, mc_v ad q.2)
def ml_ins (a : Nat × Value) : List (Nat × Value) → List (Nat × Value)
  | [] => [a]
  | q :: r => match Nat.blt a.1 q.1 with
    | true => a :: q :: r
    | false => q :: ml_ins a r
def ml_k1 (i : Nat) (q : Nat × Value) : Bool := !(q.1 == i) && !(q.1 + 1 == i && q.2.category == 2)
def ml_k2 (i : Nat) (q : Nat × Value) : Bool := !(q.1 == i) && (!(q.1 == i + 1) && !(q.1 + 1 == i && q.2.category == 2))
def ml_s1 (i : Nat) (v : Value) (L : List (Nat × Value)) : List (Nat × Value) := ml_ins (i, v) (L.filter (ml_k1 i))
def ml_s2 (i : Nat) (v : Value) (L : List (Nat × Value)) : List (Nat × Value) := ml_ins (i, v) (L.filter (ml_k2 i))
theorem ml_ins_mem {a q : Nat × Value} : ∀ {L : List (Nat × Value)}, q ∈ ml_ins a L → q = a ∨ q ∈ L
  | [], h => by
    rw [show ml_ins a [] = [a] from rfl] at h
    exact Or.inl (List.mem_singleton.mp h)
  | x :: r, h => by
    unfold ml_ins at h
    cases hb : Nat.blt a.1 x.1 with
    | true =>
      rw [hb] at h
      exact List.mem_cons.mp h
    | false =>
      rw [hb] at h
      rcases List.mem_cons.mp h with h | h
      · exact Or.inr (h ▸ List.mem_cons_self)
      · rcases ml_ins_mem h with h | h
        · exact Or.inl h
        · exact Or.inr (List.mem_cons_of_mem _ h)
theorem ml_f1 (ad : Nat → Nat) (i : Nat) (q : Nat × Value) : ml_k1 i (q.1, mc_v ad q.2) = ml_k1 i q := by
  unfold ml_k1
  rw [mc_v_cat]
theorem ml_f2 (ad : Nat → Nat) (i : Nat) (q : Nat × Value) : ml_k2 i (q.1, mc_v ad q.2) = ml_k2 i q := by
  unfold ml_k2
  rw [mc_v_cat]
theorem ml_has {ls : Array Slot} {nL : Nat} {l l' : List (Nat × Value)} (h : lv_has ls nL l) (hs : ∀ q ∈ l', q ∈ l) : lv_has ls nL l' := ⟨h.1, h.2.1, fun q hq => h.2.2 q (hs q hq)⟩
theorem ml_st1 {ad : Nat → Nat} {ls : Array Slot} {nL i : Nat} {v : Value} {L : List (Nat × Value)} (h : lv_has ls nL ((i, mc_v ad v) :: (mc_l ad L).filter (ml_k1 i))) : lv_has ls nL (mc_l ad (ml_s1 i v L)) := by
  refine ml_has h (fun q hq => ?_)
  obtain ⟨x, hx, rfl⟩ := List.mem_map.mp hq
  rcases ml_ins_mem hx with rfl | hx
  · exact List.mem_cons_self
  · obtain ⟨h1, h2⟩ := List.mem_filter.mp hx
    exact List.mem_cons_of_mem _ (List.mem_filter.mpr ⟨List.mem_map.mpr ⟨x, h1, rfl⟩, by rw [ml_f1]; exact h2⟩)
theorem ml_st2 {ad : Nat → Nat} {ls : Array Slot} {nL i : Nat} {v : Value} {L : List (Nat × Value)} (h : lv_has ls nL ((i, mc_v ad v) :: (mc_l ad L).filter (ml_k2 i))) : lv_has ls nL (mc_l ad (ml_s2 i v L)) := by
  refine ml_has h (fun q hq => ?_)
  obtain ⟨x, hx, rfl⟩ := List.mem_map.mp hq
  rcases ml_ins_mem hx with rfl | hx
  · exact List.mem_cons_self
  · obtain ⟨h1, h2⟩ := List.mem_filter.mp hx
    exact List.mem_cons_of_mem _ (List.mem_filter.mpr ⟨List.mem_map.mpr ⟨x, h1, rfl⟩, by rw [ml_f2]; exact h2⟩)
theorem ml_at {ad : Nat → Nat} {ls : Array Slot} {nL k i : Nat} {v : Value} {L : List (Nat × Value)} (h : lv_has ls nL (mc_l ad L)) (hk : L[k]? = some (i, v)) : ls[i]? = some (.val (mc_v ad v)) :=
  lv_at h k (i := i) (v := mc_v ad v) (by unfold mc_l; rw [List.getElem?_map, hk]; rfl)
abbrev gC : Type := Program × Launch × Env × Room × State × MethodId × Array Value × List Frame × Method × Code × Nat × va_G × (Nat → ClassId) × (Nat → Prop) × Nat × (Nat → Nat) × (State → Prop)
/-- the places' addresses since the start -/
def g_ag (n0 : Nat) (ad0 : Nat → Nat) (M : List mC) (ad : Nat → Nat) : Prop := n0 ≤ M.length ∧ (∀ i, i < n0 ∨ i = spl → ad i = ad0 i) ∧ (M.length = n0 → ad = ad0)
/-- THE JUDGEMENT: with the world M, k cells and n slots made so far, at pc with the locals L and the stack st the machine comes to its end -/
def gg (X : gC) (M : List mC) (k n pc : Nat) (L : List (Nat × Value)) (st : List Value) : Prop := match X with
  | (p, l, e, R, s, m, args, below, meth, c, nL, D, tc, A, n0, ad0, Q) => ∀ (ad : Nat → Nat) (H : Heap) (locs : List Loc) (ls : Array Slot), g_ag n0 ad0 M ad → va_P D vwCl (mc_w tc ad M) H → va_D A (mc_w tc ad M) → va_S A s.heap H locs → lv_has ls nL (mc_l ad L) → W p l e R s m args below meth c H locs k n Q (F0 m pc ls (st.map (mc_v ad)))
/-- what the tables and the statics give beside the steady words, at any later state whose cells outside A are as they were -/
def mY (A : Nat → Prop) (U : State) (H : Heap) : Prop := ∀ U' : State, U.WarmedH U'.vm → H.size ≤ U'.heap.size → (∀ a : Nat, a < H.size → ¬ A a → U'.heap[a]? = H[a]?) → ∀ w ∈ yT, w.before #[] U' = true
theorem mY.use {A : Nat → Prop} {U : State} (h : mY A U U.heap) : ∀ w ∈ yT, w.before #[] U = true := h U (State.WarmedH.refl U) (Nat.le_refl _) (fun _ _ _ => rfl)
theorem mY.on {A B : Nat → Prop} {s U : State} {H : Heap} {locs : List Loc} (h : mY A s s.heap) (hS : va_S A s.heap H locs) (hB : ∀ q, B q → A q) (hW : s.WarmedH U.vm) (hU : U.heap = H) : mY B U U.heap := by
  intro U' w1 w2 w3
  rw [hU] at w2 w3
  refine h U' (State.WarmedH.trans hW w1) (Nat.le_trans hS.1 w2) (fun a a1 a2 => ?_)
  rw [w3 a (Nat.lt_of_lt_of_le a1 hS.1) (fun z => a2 (hB a z))]
  exact hS.2.1 a a1 a2
/-- what a frame stands on: the machine, its code, its class, its words, the tables -/
def gO (X : gC) (cc : ByteArray) (own : String) (Ts : List Cond) : Prop := match X with
  | (p, l, e, R, s, m, args, below, meth, c, nL, D, tc, A, n0, ad0, Q) => p.tables.exec = Jvm.exec ∧ c.code = cc ∧ c.maxLocals = nL ∧ s.vm.findClass own = some m.cls ∧ (∀ w ∈ Ts, w.before args s = true) ∧ va_K D vwCl (mc_t tc) s ∧ (∀ q, s.heap.size ≤ q → A q) ∧ meth.locks = false ∧ mY A s s.heap
def gL (X : gC) : Nat := match X with
  | (p, l, e, R, s, m, args, below, meth, c, nL, D, tc, A, n0, ad0, Q) => nL
def gS (X : gC) : State := match X with
  | (p, l, e, R, s, m, args, below, meth, c, nL, D, tc, A, n0, ad0, Q) => s
def gM (X : gC) : Method := match X with
  | (p, l, e, R, s, m, args, below, meth, c, nL, D, tc, A, n0, ad0, Q) => meth
def gR (X : gC) : Room := match X with
  | (p, l, e, R, s, m, args, below, meth, c, nL, D, tc, A, n0, ad0, Q) => R
def gLa (X : gC) : Launch := match X with
  | (p, l, e, R, s, m, args, below, meth, c, nL, D, tc, A, n0, ad0, Q) => l
section GG
variable {X : gC} {cc : ByteArray} {own : String} {Ts : List Cond} {M : List mC} {k n pc : Nat} {L : List (Nat × Value)} {st : List Value}
theorem g_iconst (ok : gO X cc own Ts) {c : Int} {v : Int32} (hd : decode cc pc = .ok (.iconst c, 1)) (hv : Int32.ofInt c = v) (kk : gg X M k n (pc + 1) L (.int v :: st)) : gg X M k n pc L (st) := by
  obtain ⟨p, l, e, R, s, m, args, below, meth, c, nL, D, tc, A, n0, ad0, Q⟩ := X
  obtain ⟨hexec, hb, hml, hown, hts, hK, hA, hlk⟩ := ok
  intro ad H locs ls h1 h2 h3 h4 h5
  exact lv_iconst hexec hb hd hv (kk ad H locs ls h1 h2 h3 h4 h5)
theorem g_bipush (ok : gO X cc own Ts) {c : Int} {v : Int32} (hd : decode cc pc = .ok (.bipush c, 2)) (hv : (Int8.ofInt c).toInt32 = v) (kk : gg X M k n (pc + 2) L (.int v :: st)) : gg X M k n pc L (st) := by
  obtain ⟨p, l, e, R, s, m, args, below, meth, c, nL, D, tc, A, n0, ad0, Q⟩ := X
  obtain ⟨hexec, hb, hml, hown, hts, hK, hA, hlk⟩ := ok
  intro ad H locs ls h1 h2 h3 h4 h5
  exact lv_bipush hexec hb hd hv (kk ad H locs ls h1 h2 h3 h4 h5)
theorem g_sipush (ok : gO X cc own Ts) {c : Int} {v : Int32} (hd : decode cc pc = .ok (.sipush c, 3)) (hv : (Int16.ofInt c).toInt32 = v) (kk : gg X M k n (pc + 3) L (.int v :: st)) : gg X M k n pc L (st) := by
  obtain ⟨p, l, e, R, s, m, args, below, meth, c, nL, D, tc, A, n0, ad0, Q⟩ := X
  obtain ⟨hexec, hb, hml, hown, hts, hK, hA, hlk⟩ := ok
  intro ad H locs ls h1 h2 h3 h4 h5
  exact lv_sipush hexec hb hd hv (kk ad H locs ls h1 h2 h3 h4 h5)
theorem g_lconst (ok : gO X cc own Ts) {c : Fin 2} {v : Int64} (hd : decode cc pc = .ok (.lconst c, 1)) (hv : Int64.ofNat (c : Nat) = v) (kk : gg X M k n (pc + 1) L (.long v :: st)) : gg X M k n pc L (st) := by
  obtain ⟨p, l, e, R, s, m, args, below, meth, c, nL, D, tc, A, n0, ad0, Q⟩ := X
  obtain ⟨hexec, hb, hml, hown, hts, hK, hA, hlk⟩ := ok
  intro ad H locs ls h1 h2 h3 h4 h5
  exact lv_lconst hexec hb hd hv (kk ad H locs ls h1 h2 h3 h4 h5)
theorem g_iload_n (ok : gO X cc own Ts) {c : Fin 4} {i j : Nat} {x : Int32} (hd : decode cc pc = .ok (.iload_n c, 1)) (hi : (c : Nat) = i) (hL : L[j]? = some (i, .int x)) (kk : gg X M k n (pc + 1) L (.int x :: st)) : gg X M k n pc L (st) := by
  obtain ⟨p, l, e, R, s, m, args, below, meth, c, nL, D, tc, A, n0, ad0, Q⟩ := X
  obtain ⟨hexec, hb, hml, hown, hts, hK, hA, hlk⟩ := ok
  intro ad H locs ls h1 h2 h3 h4 h5
  exact lv_iload_n hexec hb hd hi (ml_at h5 hL) (kk ad H locs ls h1 h2 h3 h4 h5)
theorem g_iload (ok : gO X cc own Ts) {i j : Nat} {x : Int32} (hd : decode cc pc = .ok (.iload i, 2)) (hL : L[j]? = some (i, .int x)) (kk : gg X M k n (pc + 2) L (.int x :: st)) : gg X M k n pc L (st) := by
  obtain ⟨p, l, e, R, s, m, args, below, meth, c, nL, D, tc, A, n0, ad0, Q⟩ := X
  obtain ⟨hexec, hb, hml, hown, hts, hK, hA, hlk⟩ := ok
  intro ad H locs ls h1 h2 h3 h4 h5
  exact lv_iload hexec hb hd (ml_at h5 hL) (kk ad H locs ls h1 h2 h3 h4 h5)
theorem g_lload_n (ok : gO X cc own Ts) {c : Fin 4} {i j : Nat} {x : Int64} (hd : decode cc pc = .ok (.lload_n c, 1)) (hi : (c : Nat) = i) (hL : L[j]? = some (i, .long x)) (kk : gg X M k n (pc + 1) L (.long x :: st)) : gg X M k n pc L (st) := by
  obtain ⟨p, l, e, R, s, m, args, below, meth, c, nL, D, tc, A, n0, ad0, Q⟩ := X
  obtain ⟨hexec, hb, hml, hown, hts, hK, hA, hlk⟩ := ok
  intro ad H locs ls h1 h2 h3 h4 h5
  exact lv_lload_n hexec hb hd hi (ml_at h5 hL) (kk ad H locs ls h1 h2 h3 h4 h5)
theorem g_lload (ok : gO X cc own Ts) {i j : Nat} {x : Int64} (hd : decode cc pc = .ok (.lload i, 2)) (hL : L[j]? = some (i, .long x)) (kk : gg X M k n (pc + 2) L (.long x :: st)) : gg X M k n pc L (st) := by
  obtain ⟨p, l, e, R, s, m, args, below, meth, c, nL, D, tc, A, n0, ad0, Q⟩ := X
  obtain ⟨hexec, hb, hml, hown, hts, hK, hA, hlk⟩ := ok
  intro ad H locs ls h1 h2 h3 h4 h5
  exact lv_lload hexec hb hd (ml_at h5 hL) (kk ad H locs ls h1 h2 h3 h4 h5)
theorem g_aload_n (ok : gO X cc own Ts) {c : Fin 4} {i j : Nat} {x : Nat} (hd : decode cc pc = .ok (.aload_n c, 1)) (hi : (c : Nat) = i) (hL : L[j]? = some (i, .ref x)) (kk : gg X M k n (pc + 1) L (.ref x :: st)) : gg X M k n pc L (st) := by
  obtain ⟨p, l, e, R, s, m, args, below, meth, c, nL, D, tc, A, n0, ad0, Q⟩ := X
  obtain ⟨hexec, hb, hml, hown, hts, hK, hA, hlk⟩ := ok
  intro ad H locs ls h1 h2 h3 h4 h5
  exact lv_aload_n hexec hb hd hi (ml_at h5 hL) (kk ad H locs ls h1 h2 h3 h4 h5)
theorem g_aload (ok : gO X cc own Ts) {i j : Nat} {x : Nat} (hd : decode cc pc = .ok (.aload i, 2)) (hL : L[j]? = some (i, .ref x)) (kk : gg X M k n (pc + 2) L (.ref x :: st)) : gg X M k n pc L (st) := by
  obtain ⟨p, l, e, R, s, m, args, below, meth, c, nL, D, tc, A, n0, ad0, Q⟩ := X
  obtain ⟨hexec, hb, hml, hown, hts, hK, hA, hlk⟩ := ok
  intro ad H locs ls h1 h2 h3 h4 h5
  exact lv_aload hexec hb hd (ml_at h5 hL) (kk ad H locs ls h1 h2 h3 h4 h5)
theorem g_istore_n (ok : gO X cc own Ts) {c : Fin 4} {i : Nat} {x : Int32} {L' : List (Nat × Value)} (hd : decode cc pc = .ok (.istore_n c, 1)) (hi : (c : Nat) = i) (hn : i < gL X) (hL : ml_s1 i (.int x) L = L') (kk : gg X M k n (pc + 1) L' st) : gg X M k n pc L (.int x :: st) := by
  obtain ⟨p, l, e, R, s, m, args, below, meth, c, nL, D, tc, A, n0, ad0, Q⟩ := X
  obtain ⟨hexec, hb, hml, hown, hts, hK, hA, hlk⟩ := ok
  intro ad H locs ls h1 h2 h3 h4 h5
  subst hL
  exact lv_istore_n hexec hb hd hi h5 hn rfl (fun ls' hl' => kk ad H locs ls' h1 h2 h3 h4 (ml_st1 hl'))
theorem g_istore (ok : gO X cc own Ts) {i : Nat} {x : Int32} {L' : List (Nat × Value)} (hd : decode cc pc = .ok (.istore i, 2)) (hn : i < gL X) (hL : ml_s1 i (.int x) L = L') (kk : gg X M k n (pc + 2) L' st) : gg X M k n pc L (.int x :: st) := by
  obtain ⟨p, l, e, R, s, m, args, below, meth, c, nL, D, tc, A, n0, ad0, Q⟩ := X
  obtain ⟨hexec, hb, hml, hown, hts, hK, hA, hlk⟩ := ok
  intro ad H locs ls h1 h2 h3 h4 h5
  subst hL
  exact lv_istore hexec hb hd h5 hn rfl (fun ls' hl' => kk ad H locs ls' h1 h2 h3 h4 (ml_st1 hl'))
theorem g_lstore_n (ok : gO X cc own Ts) {c : Fin 4} {i : Nat} {x : Int64} {L' : List (Nat × Value)} (hd : decode cc pc = .ok (.lstore_n c, 1)) (hi : (c : Nat) = i) (hn : i + 1 < gL X) (hL : ml_s2 i (.long x) L = L') (kk : gg X M k n (pc + 1) L' st) : gg X M k n pc L (.long x :: st) := by
  obtain ⟨p, l, e, R, s, m, args, below, meth, c, nL, D, tc, A, n0, ad0, Q⟩ := X
  obtain ⟨hexec, hb, hml, hown, hts, hK, hA, hlk⟩ := ok
  intro ad H locs ls h1 h2 h3 h4 h5
  subst hL
  exact lv_lstore_n hexec hb hd hi h5 hn rfl (fun ls' hl' => kk ad H locs ls' h1 h2 h3 h4 (ml_st2 hl'))
theorem g_lstore (ok : gO X cc own Ts) {i : Nat} {x : Int64} {L' : List (Nat × Value)} (hd : decode cc pc = .ok (.lstore i, 2)) (hn : i + 1 < gL X) (hL : ml_s2 i (.long x) L = L') (kk : gg X M k n (pc + 2) L' st) : gg X M k n pc L (.long x :: st) := by
  obtain ⟨p, l, e, R, s, m, args, below, meth, c, nL, D, tc, A, n0, ad0, Q⟩ := X
  obtain ⟨hexec, hb, hml, hown, hts, hK, hA, hlk⟩ := ok
  intro ad H locs ls h1 h2 h3 h4 h5
  subst hL
  exact lv_lstore hexec hb hd h5 hn rfl (fun ls' hl' => kk ad H locs ls' h1 h2 h3 h4 (ml_st2 hl'))
theorem g_astore_n (ok : gO X cc own Ts) {c : Fin 4} {i : Nat} {x : Nat} {L' : List (Nat × Value)} (hd : decode cc pc = .ok (.astore_n c, 1)) (hi : (c : Nat) = i) (hn : i < gL X) (hL : ml_s1 i (.ref x) L = L') (kk : gg X M k n (pc + 1) L' st) : gg X M k n pc L (.ref x :: st) := by
  obtain ⟨p, l, e, R, s, m, args, below, meth, c, nL, D, tc, A, n0, ad0, Q⟩ := X
  obtain ⟨hexec, hb, hml, hown, hts, hK, hA, hlk⟩ := ok
  intro ad H locs ls h1 h2 h3 h4 h5
  subst hL
  exact lv_astore_n hexec hb hd hi h5 hn rfl (fun ls' hl' => kk ad H locs ls' h1 h2 h3 h4 (ml_st1 hl'))
theorem g_astore (ok : gO X cc own Ts) {i : Nat} {x : Nat} {L' : List (Nat × Value)} (hd : decode cc pc = .ok (.astore i, 2)) (hn : i < gL X) (hL : ml_s1 i (.ref x) L = L') (kk : gg X M k n (pc + 2) L' st) : gg X M k n pc L (.ref x :: st) := by
  obtain ⟨p, l, e, R, s, m, args, below, meth, c, nL, D, tc, A, n0, ad0, Q⟩ := X
  obtain ⟨hexec, hb, hml, hown, hts, hK, hA, hlk⟩ := ok
  intro ad H locs ls h1 h2 h3 h4 h5
  subst hL
  exact lv_astore hexec hb hd h5 hn rfl (fun ls' hl' => kk ad H locs ls' h1 h2 h3 h4 (ml_st1 hl'))
theorem g_iinc (ok : gO X cc own Ts) {i j : Nat} {c : Int} {x v : Int32} {L' : List (Nat × Value)} (hd : decode cc pc = .ok (.iinc i c, 3)) (hj : L[j]? = some (i, .int x)) (hv : x + Int32.ofInt c = v) (hn : i < gL X) (hL : ml_s1 i (.int v) L = L') (kk : gg X M k n (pc + 3) L' st) : gg X M k n pc L st := by
  obtain ⟨p, l, e, R, s, m, args, below, meth, c, nL, D, tc, A, n0, ad0, Q⟩ := X
  obtain ⟨hexec, hb, hml, hown, hts, hK, hA, hlk⟩ := ok
  intro ad H locs ls h1 h2 h3 h4 h5
  subst hL
  exact lv_iinc (k := j) hexec hb hd h5 (by unfold mc_l; rw [List.getElem?_map, hj]; rfl) hv hn rfl (fun ls' hl' => kk ad H locs ls' h1 h2 h3 h4 (ml_st1 (v := .int v) hl'))
theorem g_iadd (ok : gO X cc own Ts) {x y : Int32} (hd : decode cc pc = .ok (.iadd, 1))  (kk : gg X M k n (pc + 1) L (.int (x + y) :: st)) : gg X M k n pc L (.int y :: .int x :: st) := by
  obtain ⟨p, l, e, R, s, m, args, below, meth, c, nL, D, tc, A, n0, ad0, Q⟩ := X
  obtain ⟨hexec, hb, hml, hown, hts, hK, hA, hlk⟩ := ok
  intro ad H locs ls h1 h2 h3 h4 h5
  exact lv_iadd hexec hb hd  (kk ad H locs ls h1 h2 h3 h4 h5)
theorem g_isub (ok : gO X cc own Ts) {x y : Int32} (hd : decode cc pc = .ok (.isub, 1))  (kk : gg X M k n (pc + 1) L (.int (x - y) :: st)) : gg X M k n pc L (.int y :: .int x :: st) := by
  obtain ⟨p, l, e, R, s, m, args, below, meth, c, nL, D, tc, A, n0, ad0, Q⟩ := X
  obtain ⟨hexec, hb, hml, hown, hts, hK, hA, hlk⟩ := ok
  intro ad H locs ls h1 h2 h3 h4 h5
  exact lv_isub hexec hb hd  (kk ad H locs ls h1 h2 h3 h4 h5)
theorem g_imul (ok : gO X cc own Ts) {x y : Int32} (hd : decode cc pc = .ok (.imul, 1))  (kk : gg X M k n (pc + 1) L (.int (x * y) :: st)) : gg X M k n pc L (.int y :: .int x :: st) := by
  obtain ⟨p, l, e, R, s, m, args, below, meth, c, nL, D, tc, A, n0, ad0, Q⟩ := X
  obtain ⟨hexec, hb, hml, hown, hts, hK, hA, hlk⟩ := ok
  intro ad H locs ls h1 h2 h3 h4 h5
  exact lv_imul hexec hb hd  (kk ad H locs ls h1 h2 h3 h4 h5)
theorem g_iand (ok : gO X cc own Ts) {x y : Int32} (hd : decode cc pc = .ok (.iand, 1))  (kk : gg X M k n (pc + 1) L (.int (x &&& y) :: st)) : gg X M k n pc L (.int y :: .int x :: st) := by
  obtain ⟨p, l, e, R, s, m, args, below, meth, c, nL, D, tc, A, n0, ad0, Q⟩ := X
  obtain ⟨hexec, hb, hml, hown, hts, hK, hA, hlk⟩ := ok
  intro ad H locs ls h1 h2 h3 h4 h5
  exact lv_iand hexec hb hd  (kk ad H locs ls h1 h2 h3 h4 h5)
theorem g_ior (ok : gO X cc own Ts) {x y : Int32} (hd : decode cc pc = .ok (.ior, 1))  (kk : gg X M k n (pc + 1) L (.int (x ||| y) :: st)) : gg X M k n pc L (.int y :: .int x :: st) := by
  obtain ⟨p, l, e, R, s, m, args, below, meth, c, nL, D, tc, A, n0, ad0, Q⟩ := X
  obtain ⟨hexec, hb, hml, hown, hts, hK, hA, hlk⟩ := ok
  intro ad H locs ls h1 h2 h3 h4 h5
  exact lv_ior hexec hb hd  (kk ad H locs ls h1 h2 h3 h4 h5)
theorem g_ixor (ok : gO X cc own Ts) {x y : Int32} (hd : decode cc pc = .ok (.ixor, 1))  (kk : gg X M k n (pc + 1) L (.int (x ^^^ y) :: st)) : gg X M k n pc L (.int y :: .int x :: st) := by
  obtain ⟨p, l, e, R, s, m, args, below, meth, c, nL, D, tc, A, n0, ad0, Q⟩ := X
  obtain ⟨hexec, hb, hml, hown, hts, hK, hA, hlk⟩ := ok
  intro ad H locs ls h1 h2 h3 h4 h5
  exact lv_ixor hexec hb hd  (kk ad H locs ls h1 h2 h3 h4 h5)
theorem g_ishl (ok : gO X cc own Ts) {x y : Int32} (hd : decode cc pc = .ok (.ishl, 1))  (kk : gg X M k n (pc + 1) L (.int (x <<< (y &&& 31)) :: st)) : gg X M k n pc L (.int y :: .int x :: st) := by
  obtain ⟨p, l, e, R, s, m, args, below, meth, c, nL, D, tc, A, n0, ad0, Q⟩ := X
  obtain ⟨hexec, hb, hml, hown, hts, hK, hA, hlk⟩ := ok
  intro ad H locs ls h1 h2 h3 h4 h5
  exact lv_ishl hexec hb hd  (kk ad H locs ls h1 h2 h3 h4 h5)
theorem g_ishr (ok : gO X cc own Ts) {x y : Int32} (hd : decode cc pc = .ok (.ishr, 1))  (kk : gg X M k n (pc + 1) L (.int (x >>> (y &&& 31)) :: st)) : gg X M k n pc L (.int y :: .int x :: st) := by
  obtain ⟨p, l, e, R, s, m, args, below, meth, c, nL, D, tc, A, n0, ad0, Q⟩ := X
  obtain ⟨hexec, hb, hml, hown, hts, hK, hA, hlk⟩ := ok
  intro ad H locs ls h1 h2 h3 h4 h5
  exact lv_ishr hexec hb hd  (kk ad H locs ls h1 h2 h3 h4 h5)
theorem g_idiv (ok : gO X cc own Ts) {x y : Int32} (hd : decode cc pc = .ok (.idiv, 1)) (hne : ¬ y = 0) (kk : gg X M k n (pc + 1) L (.int (x / y) :: st)) : gg X M k n pc L (.int y :: .int x :: st) := by
  obtain ⟨p, l, e, R, s, m, args, below, meth, c, nL, D, tc, A, n0, ad0, Q⟩ := X
  obtain ⟨hexec, hb, hml, hown, hts, hK, hA, hlk⟩ := ok
  intro ad H locs ls h1 h2 h3 h4 h5
  exact lv_idiv hexec hb hd hne (kk ad H locs ls h1 h2 h3 h4 h5)
theorem g_irem (ok : gO X cc own Ts) {x y : Int32} (hd : decode cc pc = .ok (.irem, 1)) (hne : ¬ y = 0) (kk : gg X M k n (pc + 1) L (.int (x - x / y * y) :: st)) : gg X M k n pc L (.int y :: .int x :: st) := by
  obtain ⟨p, l, e, R, s, m, args, below, meth, c, nL, D, tc, A, n0, ad0, Q⟩ := X
  obtain ⟨hexec, hb, hml, hown, hts, hK, hA, hlk⟩ := ok
  intro ad H locs ls h1 h2 h3 h4 h5
  exact lv_irem hexec hb hd hne (kk ad H locs ls h1 h2 h3 h4 h5)
theorem g_ladd (ok : gO X cc own Ts) {x y : Int64} (hd : decode cc pc = .ok (.ladd, 1))  (kk : gg X M k n (pc + 1) L (.long (x + y) :: st)) : gg X M k n pc L (.long y :: .long x :: st) := by
  obtain ⟨p, l, e, R, s, m, args, below, meth, c, nL, D, tc, A, n0, ad0, Q⟩ := X
  obtain ⟨hexec, hb, hml, hown, hts, hK, hA, hlk⟩ := ok
  intro ad H locs ls h1 h2 h3 h4 h5
  exact lv_ladd hexec hb hd  (kk ad H locs ls h1 h2 h3 h4 h5)
theorem g_lsub (ok : gO X cc own Ts) {x y : Int64} (hd : decode cc pc = .ok (.lsub, 1))  (kk : gg X M k n (pc + 1) L (.long (x - y) :: st)) : gg X M k n pc L (.long y :: .long x :: st) := by
  obtain ⟨p, l, e, R, s, m, args, below, meth, c, nL, D, tc, A, n0, ad0, Q⟩ := X
  obtain ⟨hexec, hb, hml, hown, hts, hK, hA, hlk⟩ := ok
  intro ad H locs ls h1 h2 h3 h4 h5
  exact lv_lsub hexec hb hd  (kk ad H locs ls h1 h2 h3 h4 h5)
theorem g_lmul (ok : gO X cc own Ts) {x y : Int64} (hd : decode cc pc = .ok (.lmul, 1))  (kk : gg X M k n (pc + 1) L (.long (x * y) :: st)) : gg X M k n pc L (.long y :: .long x :: st) := by
  obtain ⟨p, l, e, R, s, m, args, below, meth, c, nL, D, tc, A, n0, ad0, Q⟩ := X
  obtain ⟨hexec, hb, hml, hown, hts, hK, hA, hlk⟩ := ok
  intro ad H locs ls h1 h2 h3 h4 h5
  exact lv_lmul hexec hb hd  (kk ad H locs ls h1 h2 h3 h4 h5)
theorem g_land (ok : gO X cc own Ts) {x y : Int64} (hd : decode cc pc = .ok (.land, 1))  (kk : gg X M k n (pc + 1) L (.long (x &&& y) :: st)) : gg X M k n pc L (.long y :: .long x :: st) := by
  obtain ⟨p, l, e, R, s, m, args, below, meth, c, nL, D, tc, A, n0, ad0, Q⟩ := X
  obtain ⟨hexec, hb, hml, hown, hts, hK, hA, hlk⟩ := ok
  intro ad H locs ls h1 h2 h3 h4 h5
  exact lv_land hexec hb hd  (kk ad H locs ls h1 h2 h3 h4 h5)
theorem g_lor (ok : gO X cc own Ts) {x y : Int64} (hd : decode cc pc = .ok (.lor, 1))  (kk : gg X M k n (pc + 1) L (.long (x ||| y) :: st)) : gg X M k n pc L (.long y :: .long x :: st) := by
  obtain ⟨p, l, e, R, s, m, args, below, meth, c, nL, D, tc, A, n0, ad0, Q⟩ := X
  obtain ⟨hexec, hb, hml, hown, hts, hK, hA, hlk⟩ := ok
  intro ad H locs ls h1 h2 h3 h4 h5
  exact lv_lor hexec hb hd  (kk ad H locs ls h1 h2 h3 h4 h5)
theorem g_lxor (ok : gO X cc own Ts) {x y : Int64} (hd : decode cc pc = .ok (.lxor, 1))  (kk : gg X M k n (pc + 1) L (.long (x ^^^ y) :: st)) : gg X M k n pc L (.long y :: .long x :: st) := by
  obtain ⟨p, l, e, R, s, m, args, below, meth, c, nL, D, tc, A, n0, ad0, Q⟩ := X
  obtain ⟨hexec, hb, hml, hown, hts, hK, hA, hlk⟩ := ok
  intro ad H locs ls h1 h2 h3 h4 h5
  exact lv_lxor hexec hb hd  (kk ad H locs ls h1 h2 h3 h4 h5)
theorem g_ldiv (ok : gO X cc own Ts) {x y : Int64} (hd : decode cc pc = .ok (.ldiv, 1)) (hne : ¬ y = 0) (kk : gg X M k n (pc + 1) L (.long (x / y) :: st)) : gg X M k n pc L (.long y :: .long x :: st) := by
  obtain ⟨p, l, e, R, s, m, args, below, meth, c, nL, D, tc, A, n0, ad0, Q⟩ := X
  obtain ⟨hexec, hb, hml, hown, hts, hK, hA, hlk⟩ := ok
  intro ad H locs ls h1 h2 h3 h4 h5
  exact lv_ldiv hexec hb hd hne (kk ad H locs ls h1 h2 h3 h4 h5)
theorem g_lrem (ok : gO X cc own Ts) {x y : Int64} (hd : decode cc pc = .ok (.lrem, 1)) (hne : ¬ y = 0) (kk : gg X M k n (pc + 1) L (.long (x - x / y * y) :: st)) : gg X M k n pc L (.long y :: .long x :: st) := by
  obtain ⟨p, l, e, R, s, m, args, below, meth, c, nL, D, tc, A, n0, ad0, Q⟩ := X
  obtain ⟨hexec, hb, hml, hown, hts, hK, hA, hlk⟩ := ok
  intro ad H locs ls h1 h2 h3 h4 h5
  exact lv_lrem hexec hb hd hne (kk ad H locs ls h1 h2 h3 h4 h5)
theorem g_ineg (ok : gO X cc own Ts) {x : Int32} (hd : decode cc pc = .ok (.ineg, 1))  (kk : gg X M k n (pc + 1) L (.int (-x) :: st)) : gg X M k n pc L (.int x :: st) := by
  obtain ⟨p, l, e, R, s, m, args, below, meth, c, nL, D, tc, A, n0, ad0, Q⟩ := X
  obtain ⟨hexec, hb, hml, hown, hts, hK, hA, hlk⟩ := ok
  intro ad H locs ls h1 h2 h3 h4 h5
  exact lv_ineg hexec hb hd  (kk ad H locs ls h1 h2 h3 h4 h5)
theorem g_lneg (ok : gO X cc own Ts) {x : Int64} (hd : decode cc pc = .ok (.lneg, 1))  (kk : gg X M k n (pc + 1) L (.long (-x) :: st)) : gg X M k n pc L (.long x :: st) := by
  obtain ⟨p, l, e, R, s, m, args, below, meth, c, nL, D, tc, A, n0, ad0, Q⟩ := X
  obtain ⟨hexec, hb, hml, hown, hts, hK, hA, hlk⟩ := ok
  intro ad H locs ls h1 h2 h3 h4 h5
  exact lv_lneg hexec hb hd  (kk ad H locs ls h1 h2 h3 h4 h5)
theorem g_i2l (ok : gO X cc own Ts) {x : Int32} (hd : decode cc pc = .ok (.i2l, 1))  (kk : gg X M k n (pc + 1) L (.long (x.toInt64) :: st)) : gg X M k n pc L (.int x :: st) := by
  obtain ⟨p, l, e, R, s, m, args, below, meth, c, nL, D, tc, A, n0, ad0, Q⟩ := X
  obtain ⟨hexec, hb, hml, hown, hts, hK, hA, hlk⟩ := ok
  intro ad H locs ls h1 h2 h3 h4 h5
  exact lv_i2l hexec hb hd rfl (kk ad H locs ls h1 h2 h3 h4 h5)
theorem g_l2i (ok : gO X cc own Ts) {x : Int64} (hd : decode cc pc = .ok (.l2i, 1))  (kk : gg X M k n (pc + 1) L (.int (x.toInt32) :: st)) : gg X M k n pc L (.long x :: st) := by
  obtain ⟨p, l, e, R, s, m, args, below, meth, c, nL, D, tc, A, n0, ad0, Q⟩ := X
  obtain ⟨hexec, hb, hml, hown, hts, hK, hA, hlk⟩ := ok
  intro ad H locs ls h1 h2 h3 h4 h5
  exact lv_l2i hexec hb hd rfl (kk ad H locs ls h1 h2 h3 h4 h5)
theorem g_i2b (ok : gO X cc own Ts) {x : Int32} (hd : decode cc pc = .ok (.i2b, 1))  (kk : gg X M k n (pc + 1) L (.int (x.toInt8.toInt32) :: st)) : gg X M k n pc L (.int x :: st) := by
  obtain ⟨p, l, e, R, s, m, args, below, meth, c, nL, D, tc, A, n0, ad0, Q⟩ := X
  obtain ⟨hexec, hb, hml, hown, hts, hK, hA, hlk⟩ := ok
  intro ad H locs ls h1 h2 h3 h4 h5
  exact lv_i2b hexec hb hd rfl (kk ad H locs ls h1 h2 h3 h4 h5)
theorem g_i2s (ok : gO X cc own Ts) {x : Int32} (hd : decode cc pc = .ok (.i2s, 1))  (kk : gg X M k n (pc + 1) L (.int (x.toInt16.toInt32) :: st)) : gg X M k n pc L (.int x :: st) := by
  obtain ⟨p, l, e, R, s, m, args, below, meth, c, nL, D, tc, A, n0, ad0, Q⟩ := X
  obtain ⟨hexec, hb, hml, hown, hts, hK, hA, hlk⟩ := ok
  intro ad H locs ls h1 h2 h3 h4 h5
  exact lv_i2s hexec hb hd rfl (kk ad H locs ls h1 h2 h3 h4 h5)
theorem g_i2c (ok : gO X cc own Ts) {x : Int32} (hd : decode cc pc = .ok (.i2c, 1))  (kk : gg X M k n (pc + 1) L (.int ((x.toUInt32 % 65536).toInt32) :: st)) : gg X M k n pc L (.int x :: st) := by
  obtain ⟨p, l, e, R, s, m, args, below, meth, c, nL, D, tc, A, n0, ad0, Q⟩ := X
  obtain ⟨hexec, hb, hml, hown, hts, hK, hA, hlk⟩ := ok
  intro ad H locs ls h1 h2 h3 h4 h5
  exact lv_i2c hexec hb hd rfl (kk ad H locs ls h1 h2 h3 h4 h5)
theorem g_iushr (ok : gO X cc own Ts) {x y : Int32} (hd : decode cc pc = .ok (.iushr, 1))  (kk : gg X M k n (pc + 1) L (.int ((x.toUInt32 >>> (y.toUInt32 &&& Int32.toUInt32 31)).toInt32) :: st)) : gg X M k n pc L (.int y :: .int x :: st) := by
  obtain ⟨p, l, e, R, s, m, args, below, meth, c, nL, D, tc, A, n0, ad0, Q⟩ := X
  obtain ⟨hexec, hb, hml, hown, hts, hK, hA, hlk⟩ := ok
  intro ad H locs ls h1 h2 h3 h4 h5
  exact lv_iushr hexec hb hd rfl (kk ad H locs ls h1 h2 h3 h4 h5)
theorem g_lushr (ok : gO X cc own Ts) {x : Int64} {y : Int32} (hd : decode cc pc = .ok (.lushr, 1))  (kk : gg X M k n (pc + 1) L (.long ((x.toUInt64 >>> (y.toInt64.toUInt64 &&& Int64.toUInt64 63)).toInt64) :: st)) : gg X M k n pc L (.int y :: .long x :: st) := by
  obtain ⟨p, l, e, R, s, m, args, below, meth, c, nL, D, tc, A, n0, ad0, Q⟩ := X
  obtain ⟨hexec, hb, hml, hown, hts, hK, hA, hlk⟩ := ok
  intro ad H locs ls h1 h2 h3 h4 h5
  exact lv_lushr hexec hb hd rfl (kk ad H locs ls h1 h2 h3 h4 h5)
theorem g_lshl (ok : gO X cc own Ts) {x : Int64} {y : Int32} (hd : decode cc pc = .ok (.lshl, 1))  (kk : gg X M k n (pc + 1) L (.long (x <<< (y.toInt64 &&& 63)) :: st)) : gg X M k n pc L (.int y :: .long x :: st) := by
  obtain ⟨p, l, e, R, s, m, args, below, meth, c, nL, D, tc, A, n0, ad0, Q⟩ := X
  obtain ⟨hexec, hb, hml, hown, hts, hK, hA, hlk⟩ := ok
  intro ad H locs ls h1 h2 h3 h4 h5
  exact lv_lshl hexec hb hd rfl (kk ad H locs ls h1 h2 h3 h4 h5)
theorem g_lshr (ok : gO X cc own Ts) {x : Int64} {y : Int32} (hd : decode cc pc = .ok (.lshr, 1))  (kk : gg X M k n (pc + 1) L (.long (x >>> (y.toInt64 &&& 63)) :: st)) : gg X M k n pc L (.int y :: .long x :: st) := by
  obtain ⟨p, l, e, R, s, m, args, below, meth, c, nL, D, tc, A, n0, ad0, Q⟩ := X
  obtain ⟨hexec, hb, hml, hown, hts, hK, hA, hlk⟩ := ok
  intro ad H locs ls h1 h2 h3 h4 h5
  exact lv_lshr hexec hb hd rfl (kk ad H locs ls h1 h2 h3 h4 h5)
theorem g_dup (ok : gO X cc own Ts) {va : Value} (hd : decode cc pc = .ok (.dup, 1)) (hva : va.category = 1) (kk : gg X M k n (pc + 1) L (va :: va :: st)) : gg X M k n pc L (va :: st) := by
  obtain ⟨p, l, e, R, s, m, args, below, meth, c, nL, D, tc, A, n0, ad0, Q⟩ := X
  obtain ⟨hexec, hb, hml, hown, hts, hK, hA, hlk⟩ := ok
  intro ad H locs ls h1 h2 h3 h4 h5
  exact lv_dup hexec hb hd ((mc_v_cat ad _).trans hva) (kk ad H locs ls h1 h2 h3 h4 h5)
theorem g_pop (ok : gO X cc own Ts) {va : Value} (hd : decode cc pc = .ok (.pop, 1)) (hva : va.category = 1) (kk : gg X M k n (pc + 1) L (st)) : gg X M k n pc L (va :: st) := by
  obtain ⟨p, l, e, R, s, m, args, below, meth, c, nL, D, tc, A, n0, ad0, Q⟩ := X
  obtain ⟨hexec, hb, hml, hown, hts, hK, hA, hlk⟩ := ok
  intro ad H locs ls h1 h2 h3 h4 h5
  exact lv_pop hexec hb hd ((mc_v_cat ad _).trans hva) (kk ad H locs ls h1 h2 h3 h4 h5)
theorem g_dup_x1 (ok : gO X cc own Ts) {va vb : Value} (hd : decode cc pc = .ok (.dup_x1, 1)) (hva : va.category = 1) (hvb : vb.category = 1) (kk : gg X M k n (pc + 1) L (va :: vb :: va :: st)) : gg X M k n pc L (va :: vb :: st) := by
  obtain ⟨p, l, e, R, s, m, args, below, meth, c, nL, D, tc, A, n0, ad0, Q⟩ := X
  obtain ⟨hexec, hb, hml, hown, hts, hK, hA, hlk⟩ := ok
  intro ad H locs ls h1 h2 h3 h4 h5
  exact lv_dup_x1 hexec hb hd ((mc_v_cat ad _).trans hva) ((mc_v_cat ad _).trans hvb) (kk ad H locs ls h1 h2 h3 h4 h5)
theorem g_dup_x2 (ok : gO X cc own Ts) {va vb vd : Value} (hd : decode cc pc = .ok (.dup_x2, 1)) (hva : va.category = 1) (hvb : vb.category = 1) (hvd : vd.category = 1) (kk : gg X M k n (pc + 1) L (va :: vb :: vd :: va :: st)) : gg X M k n pc L (va :: vb :: vd :: st) := by
  obtain ⟨p, l, e, R, s, m, args, below, meth, c, nL, D, tc, A, n0, ad0, Q⟩ := X
  obtain ⟨hexec, hb, hml, hown, hts, hK, hA, hlk⟩ := ok
  intro ad H locs ls h1 h2 h3 h4 h5
  exact lv_dup_x2 hexec hb hd ((mc_v_cat ad _).trans hva) ((mc_v_cat ad _).trans hvb) ((mc_v_cat ad _).trans hvd) (kk ad H locs ls h1 h2 h3 h4 h5)
theorem g_dup2_11 (ok : gO X cc own Ts) {va vb : Value} (hd : decode cc pc = .ok (.dup2, 1)) (hva : va.category = 1) (hvb : vb.category = 1) (kk : gg X M k n (pc + 1) L (va :: vb :: va :: vb :: st)) : gg X M k n pc L (va :: vb :: st) := by
  obtain ⟨p, l, e, R, s, m, args, below, meth, c, nL, D, tc, A, n0, ad0, Q⟩ := X
  obtain ⟨hexec, hb, hml, hown, hts, hK, hA, hlk⟩ := ok
  intro ad H locs ls h1 h2 h3 h4 h5
  exact lv_dup2_11 hexec hb hd ((mc_v_cat ad _).trans hva) ((mc_v_cat ad _).trans hvb) (kk ad H locs ls h1 h2 h3 h4 h5)
theorem g_dup2_2 (ok : gO X cc own Ts) {va : Value} (hd : decode cc pc = .ok (.dup2, 1)) (hva : va.category = 2) (kk : gg X M k n (pc + 1) L (va :: va :: st)) : gg X M k n pc L (va :: st) := by
  obtain ⟨p, l, e, R, s, m, args, below, meth, c, nL, D, tc, A, n0, ad0, Q⟩ := X
  obtain ⟨hexec, hb, hml, hown, hts, hK, hA, hlk⟩ := ok
  intro ad H locs ls h1 h2 h3 h4 h5
  exact lv_dup2_2 hexec hb hd ((mc_v_cat ad _).trans hva) (kk ad H locs ls h1 h2 h3 h4 h5)
theorem g_pop2_2 (ok : gO X cc own Ts) {va : Value} (hd : decode cc pc = .ok (.pop2, 1)) (hva : va.category = 2) (kk : gg X M k n (pc + 1) L (st)) : gg X M k n pc L (va :: st) := by
  obtain ⟨p, l, e, R, s, m, args, below, meth, c, nL, D, tc, A, n0, ad0, Q⟩ := X
  obtain ⟨hexec, hb, hml, hown, hts, hK, hA, hlk⟩ := ok
  intro ad H locs ls h1 h2 h3 h4 h5
  exact lv_pop2_2 hexec hb hd ((mc_v_cat ad _).trans hva) (kk ad H locs ls h1 h2 h3 h4 h5)
theorem g_dup2_x1_2 (ok : gO X cc own Ts) {va vb : Value} (hd : decode cc pc = .ok (.dup2_x1, 1)) (hva : va.category = 2) (hvb : vb.category = 1) (kk : gg X M k n (pc + 1) L (va :: vb :: va :: st)) : gg X M k n pc L (va :: vb :: st) := by
  obtain ⟨p, l, e, R, s, m, args, below, meth, c, nL, D, tc, A, n0, ad0, Q⟩ := X
  obtain ⟨hexec, hb, hml, hown, hts, hK, hA, hlk⟩ := ok
  intro ad H locs ls h1 h2 h3 h4 h5
  exact lv_dup2_x1_2 hexec hb hd ((mc_v_cat ad _).trans hva) ((mc_v_cat ad _).trans hvb) (kk ad H locs ls h1 h2 h3 h4 h5)
theorem g_dup2_x2_2 (ok : gO X cc own Ts) {va vb vd : Value} (hd : decode cc pc = .ok (.dup2_x2, 1)) (hva : va.category = 2) (hvb : vb.category = 1) (hvd : vd.category = 1) (kk : gg X M k n (pc + 1) L (va :: vb :: vd :: va :: st)) : gg X M k n pc L (va :: vb :: vd :: st) := by
  obtain ⟨p, l, e, R, s, m, args, below, meth, c, nL, D, tc, A, n0, ad0, Q⟩ := X
  obtain ⟨hexec, hb, hml, hown, hts, hK, hA, hlk⟩ := ok
  intro ad H locs ls h1 h2 h3 h4 h5
  exact lv_dup2_x2_2 hexec hb hd ((mc_v_cat ad _).trans hva) ((mc_v_cat ad _).trans hvb) ((mc_v_cat ad _).trans hvd) (kk ad H locs ls h1 h2 h3 h4 h5)
theorem g_if_eq (ok : gO X cc own Ts) {x : Int32} {off : Int} {tgt : Nat} (hd : decode cc pc = .ok (.ifCond .eq off, 3)) (ht : (pc : Int) + off = (tgt : Int)) (kt : x = 0 → gg X M k n tgt L st) (kf : ¬ x = 0 → gg X M k n (pc + 3) L st) : gg X M k n pc L (.int x :: st) := by
  obtain ⟨p, l, e, R, s, m, args, below, meth, c, nL, D, tc, A, n0, ad0, Q⟩ := X
  obtain ⟨hexec, hb, hml, hown, hts, hK, hA, hlk⟩ := ok
  intro ad H locs ls h1 h2 h3 h4 h5
  exact lv_if_eq hexec hb hd ht (fun z => kt z ad H locs ls h1 h2 h3 h4 h5) (fun z => kf z ad H locs ls h1 h2 h3 h4 h5)
theorem g_icmp_eq (ok : gO X cc own Ts) {x y : Int32} {off : Int} {tgt : Nat} (hd : decode cc pc = .ok (.if_icmp .eq off, 3)) (ht : (pc : Int) + off = (tgt : Int)) (kt : x = y → gg X M k n tgt L st) (kf : ¬ x = y → gg X M k n (pc + 3) L st) : gg X M k n pc L (.int y :: .int x :: st) := by
  obtain ⟨p, l, e, R, s, m, args, below, meth, c, nL, D, tc, A, n0, ad0, Q⟩ := X
  obtain ⟨hexec, hb, hml, hown, hts, hK, hA, hlk⟩ := ok
  intro ad H locs ls h1 h2 h3 h4 h5
  exact lv_icmp_eq hexec hb hd ht (fun z => kt z ad H locs ls h1 h2 h3 h4 h5) (fun z => kf z ad H locs ls h1 h2 h3 h4 h5)
theorem g_if_ne (ok : gO X cc own Ts) {x : Int32} {off : Int} {tgt : Nat} (hd : decode cc pc = .ok (.ifCond .ne off, 3)) (ht : (pc : Int) + off = (tgt : Int)) (kt : ¬ x = 0 → gg X M k n tgt L st) (kf : x = 0 → gg X M k n (pc + 3) L st) : gg X M k n pc L (.int x :: st) := by
  obtain ⟨p, l, e, R, s, m, args, below, meth, c, nL, D, tc, A, n0, ad0, Q⟩ := X
  obtain ⟨hexec, hb, hml, hown, hts, hK, hA, hlk⟩ := ok
  intro ad H locs ls h1 h2 h3 h4 h5
  exact lv_if_ne hexec hb hd ht (fun z => kt z ad H locs ls h1 h2 h3 h4 h5) (fun z => kf z ad H locs ls h1 h2 h3 h4 h5)
theorem g_icmp_ne (ok : gO X cc own Ts) {x y : Int32} {off : Int} {tgt : Nat} (hd : decode cc pc = .ok (.if_icmp .ne off, 3)) (ht : (pc : Int) + off = (tgt : Int)) (kt : ¬ x = y → gg X M k n tgt L st) (kf : x = y → gg X M k n (pc + 3) L st) : gg X M k n pc L (.int y :: .int x :: st) := by
  obtain ⟨p, l, e, R, s, m, args, below, meth, c, nL, D, tc, A, n0, ad0, Q⟩ := X
  obtain ⟨hexec, hb, hml, hown, hts, hK, hA, hlk⟩ := ok
  intro ad H locs ls h1 h2 h3 h4 h5
  exact lv_icmp_ne hexec hb hd ht (fun z => kt z ad H locs ls h1 h2 h3 h4 h5) (fun z => kf z ad H locs ls h1 h2 h3 h4 h5)
theorem g_if_lt (ok : gO X cc own Ts) {x : Int32} {off : Int} {tgt : Nat} (hd : decode cc pc = .ok (.ifCond .lt off, 3)) (ht : (pc : Int) + off = (tgt : Int)) (kt : x < 0 → gg X M k n tgt L st) (kf : ¬ x < 0 → gg X M k n (pc + 3) L st) : gg X M k n pc L (.int x :: st) := by
  obtain ⟨p, l, e, R, s, m, args, below, meth, c, nL, D, tc, A, n0, ad0, Q⟩ := X
  obtain ⟨hexec, hb, hml, hown, hts, hK, hA, hlk⟩ := ok
  intro ad H locs ls h1 h2 h3 h4 h5
  exact lv_if_lt hexec hb hd ht (fun z => kt z ad H locs ls h1 h2 h3 h4 h5) (fun z => kf z ad H locs ls h1 h2 h3 h4 h5)
theorem g_icmp_lt (ok : gO X cc own Ts) {x y : Int32} {off : Int} {tgt : Nat} (hd : decode cc pc = .ok (.if_icmp .lt off, 3)) (ht : (pc : Int) + off = (tgt : Int)) (kt : x < y → gg X M k n tgt L st) (kf : ¬ x < y → gg X M k n (pc + 3) L st) : gg X M k n pc L (.int y :: .int x :: st) := by
  obtain ⟨p, l, e, R, s, m, args, below, meth, c, nL, D, tc, A, n0, ad0, Q⟩ := X
  obtain ⟨hexec, hb, hml, hown, hts, hK, hA, hlk⟩ := ok
  intro ad H locs ls h1 h2 h3 h4 h5
  exact lv_icmp_lt hexec hb hd ht (fun z => kt z ad H locs ls h1 h2 h3 h4 h5) (fun z => kf z ad H locs ls h1 h2 h3 h4 h5)
theorem g_if_ge (ok : gO X cc own Ts) {x : Int32} {off : Int} {tgt : Nat} (hd : decode cc pc = .ok (.ifCond .ge off, 3)) (ht : (pc : Int) + off = (tgt : Int)) (kt : 0 ≤ x → gg X M k n tgt L st) (kf : ¬ 0 ≤ x → gg X M k n (pc + 3) L st) : gg X M k n pc L (.int x :: st) := by
  obtain ⟨p, l, e, R, s, m, args, below, meth, c, nL, D, tc, A, n0, ad0, Q⟩ := X
  obtain ⟨hexec, hb, hml, hown, hts, hK, hA, hlk⟩ := ok
  intro ad H locs ls h1 h2 h3 h4 h5
  exact lv_if_ge hexec hb hd ht (fun z => kt z ad H locs ls h1 h2 h3 h4 h5) (fun z => kf z ad H locs ls h1 h2 h3 h4 h5)
theorem g_icmp_ge (ok : gO X cc own Ts) {x y : Int32} {off : Int} {tgt : Nat} (hd : decode cc pc = .ok (.if_icmp .ge off, 3)) (ht : (pc : Int) + off = (tgt : Int)) (kt : y ≤ x → gg X M k n tgt L st) (kf : ¬ y ≤ x → gg X M k n (pc + 3) L st) : gg X M k n pc L (.int y :: .int x :: st) := by
  obtain ⟨p, l, e, R, s, m, args, below, meth, c, nL, D, tc, A, n0, ad0, Q⟩ := X
  obtain ⟨hexec, hb, hml, hown, hts, hK, hA, hlk⟩ := ok
  intro ad H locs ls h1 h2 h3 h4 h5
  exact lv_icmp_ge hexec hb hd ht (fun z => kt z ad H locs ls h1 h2 h3 h4 h5) (fun z => kf z ad H locs ls h1 h2 h3 h4 h5)
theorem g_if_gt (ok : gO X cc own Ts) {x : Int32} {off : Int} {tgt : Nat} (hd : decode cc pc = .ok (.ifCond .gt off, 3)) (ht : (pc : Int) + off = (tgt : Int)) (kt : 0 < x → gg X M k n tgt L st) (kf : ¬ 0 < x → gg X M k n (pc + 3) L st) : gg X M k n pc L (.int x :: st) := by
  obtain ⟨p, l, e, R, s, m, args, below, meth, c, nL, D, tc, A, n0, ad0, Q⟩ := X
  obtain ⟨hexec, hb, hml, hown, hts, hK, hA, hlk⟩ := ok
  intro ad H locs ls h1 h2 h3 h4 h5
  exact lv_if_gt hexec hb hd ht (fun z => kt z ad H locs ls h1 h2 h3 h4 h5) (fun z => kf z ad H locs ls h1 h2 h3 h4 h5)
theorem g_icmp_gt (ok : gO X cc own Ts) {x y : Int32} {off : Int} {tgt : Nat} (hd : decode cc pc = .ok (.if_icmp .gt off, 3)) (ht : (pc : Int) + off = (tgt : Int)) (kt : y < x → gg X M k n tgt L st) (kf : ¬ y < x → gg X M k n (pc + 3) L st) : gg X M k n pc L (.int y :: .int x :: st) := by
  obtain ⟨p, l, e, R, s, m, args, below, meth, c, nL, D, tc, A, n0, ad0, Q⟩ := X
  obtain ⟨hexec, hb, hml, hown, hts, hK, hA, hlk⟩ := ok
  intro ad H locs ls h1 h2 h3 h4 h5
  exact lv_icmp_gt hexec hb hd ht (fun z => kt z ad H locs ls h1 h2 h3 h4 h5) (fun z => kf z ad H locs ls h1 h2 h3 h4 h5)
theorem g_if_le (ok : gO X cc own Ts) {x : Int32} {off : Int} {tgt : Nat} (hd : decode cc pc = .ok (.ifCond .le off, 3)) (ht : (pc : Int) + off = (tgt : Int)) (kt : x ≤ 0 → gg X M k n tgt L st) (kf : ¬ x ≤ 0 → gg X M k n (pc + 3) L st) : gg X M k n pc L (.int x :: st) := by
  obtain ⟨p, l, e, R, s, m, args, below, meth, c, nL, D, tc, A, n0, ad0, Q⟩ := X
  obtain ⟨hexec, hb, hml, hown, hts, hK, hA, hlk⟩ := ok
  intro ad H locs ls h1 h2 h3 h4 h5
  exact lv_if_le hexec hb hd ht (fun z => kt z ad H locs ls h1 h2 h3 h4 h5) (fun z => kf z ad H locs ls h1 h2 h3 h4 h5)
theorem g_icmp_le (ok : gO X cc own Ts) {x y : Int32} {off : Int} {tgt : Nat} (hd : decode cc pc = .ok (.if_icmp .le off, 3)) (ht : (pc : Int) + off = (tgt : Int)) (kt : x ≤ y → gg X M k n tgt L st) (kf : ¬ x ≤ y → gg X M k n (pc + 3) L st) : gg X M k n pc L (.int y :: .int x :: st) := by
  obtain ⟨p, l, e, R, s, m, args, below, meth, c, nL, D, tc, A, n0, ad0, Q⟩ := X
  obtain ⟨hexec, hb, hml, hown, hts, hK, hA, hlk⟩ := ok
  intro ad H locs ls h1 h2 h3 h4 h5
  exact lv_icmp_le hexec hb hd ht (fun z => kt z ad H locs ls h1 h2 h3 h4 h5) (fun z => kf z ad H locs ls h1 h2 h3 h4 h5)
theorem g_goto (ok : gO X cc own Ts) {off : Int} {tgt : Nat} (hd : decode cc pc = .ok (.goto off, 3)) (ht : (pc : Int) + off = (tgt : Int)) (kk : gg X M k n tgt L st) : gg X M k n pc L st := by
  obtain ⟨p, l, e, R, s, m, args, below, meth, c, nL, D, tc, A, n0, ad0, Q⟩ := X
  obtain ⟨hexec, hb, hml, hown, hts, hK, hA, hlk⟩ := ok
  intro ad H locs ls h1 h2 h3 h4 h5
  exact lv_goto hexec hb hd ht (kk ad H locs ls h1 h2 h3 h4 h5)
theorem g_lcmp (ok : gO X cc own Ts) {x y : Int64} (hd : decode cc pc = .ok (.lcmp, 1)) (kk : gg X M k n (pc + 1) L (.int (lg_cmp x y) :: st)) : gg X M k n pc L (.long y :: .long x :: st) := by
  obtain ⟨p, l, e, R, s, m, args, below, meth, c, nL, D, tc, A, n0, ad0, Q⟩ := X
  obtain ⟨hexec, hb, hml, hown, hts, hK, hA, hlk⟩ := ok
  intro ad H locs ls h1 h2 h3 h4 h5
  exact W.lcmp hexec hb hd (kk ad H locs ls h1 h2 h3 h4 h5)
theorem g_ldc (ok : gO X cc own Ts) {i : Nat} {v : Int32} (hw : Cond.constant own i v ∈ Ts) (hd : decode cc pc = .ok (.ldc i, 2)) (kk : gg X M k n (pc + 2) L (.int v :: st)) : gg X M k n pc L st := by
  obtain ⟨p, l, e, R, s, m, args, below, meth, c, nL, D, tc, A, n0, ad0, Q⟩ := X
  obtain ⟨hexec, hb, hml, hown, hts, hK, hA, hlk⟩ := ok
  intro ad H locs ls h1 h2 h3 h4 h5
  exact W.ldc hexec hb hown (hts _ hw) rfl hd (kk ad H locs ls h1 h2 h3 h4 h5)
theorem g_ldc2 (ok : gO X cc own Ts) {i : Nat} {v : Int64} (hw : Cond.constantLong own i v ∈ Ts) (hd : decode cc pc = .ok (.ldc2_w i, 3)) (kk : gg X M k n (pc + 3) L (.long v :: st)) : gg X M k n pc L st := by
  obtain ⟨p, l, e, R, s, m, args, below, meth, c, nL, D, tc, A, n0, ad0, Q⟩ := X
  obtain ⟨hexec, hb, hml, hown, hts, hK, hA, hlk⟩ := ok
  intro ad H locs ls h1 h2 h3 h4 h5
  exact W.ldc2 hexec hb hown (hts _ hw) rfl hd (kk ad H locs ls h1 h2 h3 h4 h5)
theorem g_lookup (ok : gO X cc own Ts) {dflt : Int} {ps : Array (Int × Int)} {len : Nat} {x : Int32} {off : Int} {tgt : Nat} (hd : decode cc pc = .ok (.lookupswitch dflt ps, len)) (hp : (ps.toList.zip (ps.toList.drop 1)).all (fun (a, next) => a.1 < next.1) = true) (ho : Op.lookupswitch.offset ps.toList dflt x.toInt = off) (ht : (pc : Int) + off = (tgt : Int)) (kk : gg X M k n tgt L st) : gg X M k n pc L (.int x :: st) := by
  obtain ⟨p, l, e, R, s, m, args, below, meth, c, nL, D, tc, A, n0, ad0, Q⟩ := X
  obtain ⟨hexec, hb, hml, hown, hts, hK, hA, hlk⟩ := ok
  intro ad H locs ls h1 h2 h3 h4 h5
  exact lv_lookup hexec hb hd hp ho ht (kk ad H locs ls h1 h2 h3 h4 h5)
theorem g_tableOut (ok : gO X cc own Ts) {dflt lo hi : Int} {offs : Array Int} {len : Nat} {x : Int32} {tgt : Nat} (hd : decode cc pc = .ok (.tableswitch dflt lo hi offs, len)) (h : x.toInt < lo ∨ hi < x.toInt) (ht : (pc : Int) + dflt = (tgt : Int)) (kk : gg X M k n tgt L st) : gg X M k n pc L (.int x :: st) := by
  obtain ⟨p, l, e, R, s, m, args, below, meth, c, nL, D, tc, A, n0, ad0, Q⟩ := X
  obtain ⟨hexec, hb, hml, hown, hts, hK, hA, hlk⟩ := ok
  intro ad H locs ls h1 h2 h3 h4 h5
  exact lv_tableOut hexec hb hd h ht (kk ad H locs ls h1 h2 h3 h4 h5)
theorem g_tableIn (ok : gO X cc own Ts) {dflt lo hi : Int} {offs : Array Int} {len : Nat} {x : Int32} {off : Int} {tgt : Nat} (hd : decode cc pc = .ok (.tableswitch dflt lo hi offs, len)) (q1 : ¬ x.toInt < lo) (q2 : ¬ hi < x.toInt) (ho : offs[(x.toInt - lo).toNat]? = some off) (ht : (pc : Int) + off = (tgt : Int)) (kk : gg X M k n tgt L st) : gg X M k n pc L (.int x :: st) := by
  obtain ⟨p, l, e, R, s, m, args, below, meth, c, nL, D, tc, A, n0, ad0, Q⟩ := X
  obtain ⟨hexec, hb, hml, hown, hts, hK, hA, hlk⟩ := ok
  intro ad H locs ls h1 h2 h3 h4 h5
  exact lv_tableIn hexec hb hd q1 q2 ho ht (kk ad H locs ls h1 h2 h3 h4 h5)
end GG
end
section
theorem g_ag.set {n0 : Nat} {ad0 : Nat → Nat} {M : List mC} {ad : Nat → Nat} {o : Nat} {c : mC} (h : g_ag n0 ad0 M ad) : g_ag n0 ad0 (M.set o c) ad := by
  unfold g_ag at h ⊢
  rw [List.length_set]
  exact h
section GH
variable {X : gC} {cc : ByteArray} {own : String} {Ts : List Cond} {M : List mC} {k n pc : Nat} {L : List (Nat × Value)} {st : List Value}
theorem g_get (ok : gO X cc own Ts) {ref C : String} {T : u_T} {N ci index f o : Nat} {fs : List Value} {v : Value} (hin : ∀ w ∈ u_ws C T N, w ∈ Ts) (hc : vwCl[ci]? = some (C, T, N)) (hf : f < N) (hlink : Cond.fieldLink own index ref (T f).2.1 (T f).2.2.1 ∈ Ts) (href : (T f).1 = ref) (hd : decode cc pc = .ok (.getfield index, 3)) (he : M[o]? = some (.inr (ci, fs))) (hv : fs[f]? = some v) (kk : gg X M k n (pc + 3) L (v :: st)) : gg X M k n pc L (.ref o :: st) := by
  obtain ⟨p, l, e, R, s, m, args, below, meth, c, nL, D, tc, A, n0, ad0, Q⟩ := X
  obtain ⟨hexec, hb, hml, hown, hts, hK, hA, hlk⟩ := ok
  intro ad H locs ls h1 h2 h3 h4 h5
  exact va_get hexec hb hts hin hown hK h2 o (mc_at he) hc f hf (hts _ hlink) (fun _ z => by rw [← href]; exact z) (by rw [List.getElem?_map, hv]; rfl) hd (kk ad H locs ls h1 h2 h3 h4 h5)
theorem g_getN (ok : gO X cc own Ts) {host : String} {ref C : String} {T : u_T} {N ci index f o : Nat} {fs : List Value} {v : Value} (hin : ∀ w ∈ u_ws C T N, w ∈ Ts) (hc : vwCl[ci]? = some (C, T, N)) (hf : f < N) (hlink : Cond.fieldLinkNest own index ref (T f).2.1 (T f).2.2.1 host ∈ yT) (href : (T f).1 = ref) (hd : decode cc pc = .ok (.getfield index, 3)) (he : M[o]? = some (.inr (ci, fs))) (hv : fs[f]? = some v) (kk : gg X M k n (pc + 3) L (v :: st)) : gg X M k n pc L (.ref o :: st) := by
  obtain ⟨p, l, e, R, s, m, args, below, meth, c, nL, D, tc, A, n0, ad0, Q⟩ := X
  obtain ⟨hexec, hb, hml, hown, hts, hK, hA, hlk⟩ := ok
  intro ad H locs ls h1 h2 h3 h4 h5
  exact va_getN hexec hb hts hin hown hK h2 o (mc_at he) hc f hf (va_Nw.use rfl (hlk.2.use _ hlink)) (fun _ z => by rw [← href]; exact z) (by rw [List.getElem?_map, hv]; rfl) hd (kk ad H locs ls h1 h2 h3 h4 h5)
theorem g_put (ok : gO X cc own Ts) {ref C : String} {T : u_T} {N ci index f o : Nat} {fs : List Value} {v : Value} {ty : FieldType} (hin : ∀ w ∈ u_ws C T N, w ∈ Ts) (ty0 : Nat → FieldType) (hty : ∀ k, k < N → parseFieldDescriptor (T k).2.2.1 = some (ty0 k)) (hnm : ∀ a, a < N → ∀ b, b < N → a ≠ b → (T a).2.1 ≠ (T b).2.1) (hc : vwCl[ci]? = some (C, T, N)) (hf : f < N) (hlink : Cond.fieldLink own index ref (T f).2.1 (T f).2.2.1 ∈ Ts) (href : (T f).1 = ref) (hfin : (T f).2.2.2 = false) (hds : parseFieldDescriptor (T f).2.2.1 = some ty) (hd : decode cc pc = .ok (.putfield index, 3)) (he : M[o]? = some (.inr (ci, fs))) (hl : f < fs.length) (hn : ∀ ad : Nat → Nat, narrow ty (mc_v ad v) = mc_v ad v ∧ fits ty (mc_v ad v) = true) (kk : gg X (M.set o (.inr (ci, fs.set f v))) k n (pc + 3) L st) : gg X M k n pc L (v :: .ref o :: st) := by
  obtain ⟨p, l, e, R, s, m, args, below, meth, c, nL, D, tc, A, n0, ad0, Q⟩ := X
  obtain ⟨hexec, hb, hml, hown, hts, hK, hA, hlk⟩ := ok
  intro ad H locs ls h1 h2 h3 h4 h5
  refine va_put hexec hb hts hin ty0 hty hnm hown hK h2 h3 h4 o (mc_at he) hc f hf (hts _ hlink) (fun _ z => by rw [← href]; exact z) hfin hds (hn ad).1 (hn ad).2 (by rw [List.length_map]; exact hl) hd (fun H1 locs1 q1 q2 q3 => ?_)
  have e0 : (mc_w tc ad M).set o (ad o, .inr (ci, (fs.map (mc_v ad)).set f (mc_v ad v))) = mc_w tc ad (M.set o (.inr (ci, fs.set f v))) := by
    rw [mc_set]
    show _ = (mc_w tc ad M).set o (ad o, .inr (ci, (fs.set f v).map (mc_v ad)))
    rw [List.map_set]
  rw [e0] at q1 q2
  exact kk ad H1 locs1 ls h1.set q1 q2 q3 h5
theorem g_putN (ok : gO X cc own Ts) {host : String} {ref C : String} {T : u_T} {N ci index f o : Nat} {fs : List Value} {v : Value} {ty : FieldType} (hin : ∀ w ∈ u_ws C T N, w ∈ Ts) (ty0 : Nat → FieldType) (hty : ∀ k, k < N → parseFieldDescriptor (T k).2.2.1 = some (ty0 k)) (hnm : ∀ a, a < N → ∀ b, b < N → a ≠ b → (T a).2.1 ≠ (T b).2.1) (hc : vwCl[ci]? = some (C, T, N)) (hf : f < N) (hlink : Cond.fieldLinkNest own index ref (T f).2.1 (T f).2.2.1 host ∈ yT) (href : (T f).1 = ref) (hfin : (T f).2.2.2 = false) (hds : parseFieldDescriptor (T f).2.2.1 = some ty) (hd : decode cc pc = .ok (.putfield index, 3)) (he : M[o]? = some (.inr (ci, fs))) (hl : f < fs.length) (hn : ∀ ad : Nat → Nat, narrow ty (mc_v ad v) = mc_v ad v ∧ fits ty (mc_v ad v) = true) (kk : gg X (M.set o (.inr (ci, fs.set f v))) k n (pc + 3) L st) : gg X M k n pc L (v :: .ref o :: st) := by
  obtain ⟨p, l, e, R, s, m, args, below, meth, c, nL, D, tc, A, n0, ad0, Q⟩ := X
  obtain ⟨hexec, hb, hml, hown, hts, hK, hA, hlk⟩ := ok
  intro ad H locs ls h1 h2 h3 h4 h5
  refine va_putN hexec hb hts hin ty0 hty hnm hown hK h2 h3 h4 o (mc_at he) hc f hf (va_Nw.use rfl (hlk.2.use _ hlink)) (fun _ z => by rw [← href]; exact z) hfin hds (hn ad).1 (hn ad).2 (by rw [List.length_map]; exact hl) hd (fun H1 locs1 q1 q2 q3 => ?_)
  have e0 : (mc_w tc ad M).set o (ad o, .inr (ci, (fs.map (mc_v ad)).set f (mc_v ad v))) = mc_w tc ad (M.set o (.inr (ci, fs.set f v))) := by
    rw [mc_set]
    show _ = (mc_w tc ad M).set o (ad o, .inr (ci, (fs.set f v).map (mc_v ad)))
    rw [List.map_set]
  rw [e0] at q1 q2
  exact kk ad H1 locs1 ls h1.set q1 q2 q3 h5
theorem g_putF (ok : gO X cc own Ts) {ref C : String} {T : u_T} {N ci index f o : Nat} {fs : List Value} {v : Value} {ty : FieldType} (hin : ∀ w ∈ u_ws C T N, w ∈ Ts) (ty0 : Nat → FieldType) (hty : ∀ k, k < N → parseFieldDescriptor (T k).2.2.1 = some (ty0 k)) (hnm : ∀ a, a < N → ∀ b, b < N → a ≠ b → (T a).2.1 ≠ (T b).2.1) (hc : vwCl[ci]? = some (C, T, N)) (hf : f < N) (hlink : Cond.fieldLink own index ref (T f).2.1 (T f).2.2.1 ∈ Ts) (href : (T f).1 = ref) (hfin : (T f).2.2.2 = true) (hin2 : (gM X).name = "<init>") (hdecl : (T f).1 = own) (hds : parseFieldDescriptor (T f).2.2.1 = some ty) (hd : decode cc pc = .ok (.putfield index, 3)) (he : M[o]? = some (.inr (ci, fs))) (hl : f < fs.length) (hn : ∀ ad : Nat → Nat, narrow ty (mc_v ad v) = mc_v ad v ∧ fits ty (mc_v ad v) = true) (kk : gg X (M.set o (.inr (ci, fs.set f v))) k n (pc + 3) L st) : gg X M k n pc L (v :: .ref o :: st) := by
  obtain ⟨p, l, e, R, s, m, args, below, meth, c, nL, D, tc, A, n0, ad0, Q⟩ := X
  obtain ⟨hexec, hb, hml, hown, hts, hK, hA, hlk⟩ := ok
  intro ad H locs ls h1 h2 h3 h4 h5
  refine va_putF hexec hb hts hin ty0 hty hnm hown hK h2 h3 h4 o (mc_at he) hc f hf (hts _ hlink) (fun _ z => by rw [← href]; exact z) hfin hin2 hdecl hds (hn ad).1 (hn ad).2 (by rw [List.length_map]; exact hl) hd (fun H1 locs1 q1 q2 q3 => ?_)
  have e0 : (mc_w tc ad M).set o (ad o, .inr (ci, (fs.map (mc_v ad)).set f (mc_v ad v))) = mc_w tc ad (M.set o (.inr (ci, fs.set f v))) := by
    rw [mc_set]
    show _ = (mc_w tc ad M).set o (ad o, .inr (ci, (fs.set f v).map (mc_v ad)))
    rw [List.map_set]
  rw [e0] at q1 q2
  exact kk ad H1 locs1 ls h1.set q1 q2 q3 h5
theorem g_iald (ok : gO X cc own Ts) {a t N : Nat} {f : Nat → Int32} {i : Int32} (ht : mTY[t]? = some .int) (hd : decode cc pc = .ok (.iaload, 1)) (he : M[a]? = some (.inl (t, N, .inl f))) (hi : vp_in i N) (kk : gg X M k n (pc + 1) L (.int (f i.toNatClampNeg) :: st)) : gg X M k n pc L (.int i :: .ref a :: st) := by
  obtain ⟨p, l, e, R, s, m, args, below, meth, c, nL, D, tc, A, n0, ad0, Q⟩ := X
  obtain ⟨hexec, hb, hml, hown, hts, hK, hA, hlk⟩ := ok
  intro ad H locs ls h1 h2 h3 h4 h5
  exact va_iald hexec hb hK h2 a t (mc_at he) (mc_ty ht) hi hd (kk ad H locs ls h1 h2 h3 h4 h5)
theorem g_zald (ok : gO X cc own Ts) {a t N : Nat} {f : Nat → Int32} {i : Int32} (ht : mTY[t]? = some .boolean) (hd : decode cc pc = .ok (.baload, 1)) (he : M[a]? = some (.inl (t, N, .inl f))) (hi : vp_in i N) (kk : gg X M k n (pc + 1) L (.int (f i.toNatClampNeg) :: st)) : gg X M k n pc L (.int i :: .ref a :: st) := by
  obtain ⟨p, l, e, R, s, m, args, below, meth, c, nL, D, tc, A, n0, ad0, Q⟩ := X
  obtain ⟨hexec, hb, hml, hown, hts, hK, hA, hlk⟩ := ok
  intro ad H locs ls h1 h2 h3 h4 h5
  exact va_zald hexec hb hK h2 a t (mc_at he) (mc_ty ht) hi hd (kk ad H locs ls h1 h2 h3 h4 h5)
theorem g_bald (ok : gO X cc own Ts) {a t N : Nat} {f : Nat → Int32} {i : Int32} (ht : mTY[t]? = some .byte) (hd : decode cc pc = .ok (.baload, 1)) (he : M[a]? = some (.inl (t, N, .inl f))) (hi : vp_in i N) (kk : gg X M k n (pc + 1) L (.int (f i.toNatClampNeg) :: st)) : gg X M k n pc L (.int i :: .ref a :: st) := by
  obtain ⟨p, l, e, R, s, m, args, below, meth, c, nL, D, tc, A, n0, ad0, Q⟩ := X
  obtain ⟨hexec, hb, hml, hown, hts, hK, hA, hlk⟩ := ok
  intro ad H locs ls h1 h2 h3 h4 h5
  exact va_bald hexec hb hK h2 a t (mc_at he) (mc_ty ht) hi hd (kk ad H locs ls h1 h2 h3 h4 h5)
theorem g_cald (ok : gO X cc own Ts) {a t N : Nat} {f : Nat → Int32} {i : Int32} (ht : mTY[t]? = some .char) (hd : decode cc pc = .ok (.caload, 1)) (he : M[a]? = some (.inl (t, N, .inl f))) (hi : vp_in i N) (kk : gg X M k n (pc + 1) L (.int (f i.toNatClampNeg) :: st)) : gg X M k n pc L (.int i :: .ref a :: st) := by
  obtain ⟨p, l, e, R, s, m, args, below, meth, c, nL, D, tc, A, n0, ad0, Q⟩ := X
  obtain ⟨hexec, hb, hml, hown, hts, hK, hA, hlk⟩ := ok
  intro ad H locs ls h1 h2 h3 h4 h5
  exact va_cald hexec hb hK h2 a t (mc_at he) (mc_ty ht) hi hd (kk ad H locs ls h1 h2 h3 h4 h5)
theorem g_sald (ok : gO X cc own Ts) {a t N : Nat} {f : Nat → Int32} {i : Int32} (ht : mTY[t]? = some .short) (hd : decode cc pc = .ok (.saload, 1)) (he : M[a]? = some (.inl (t, N, .inl f))) (hi : vp_in i N) (kk : gg X M k n (pc + 1) L (.int (f i.toNatClampNeg) :: st)) : gg X M k n pc L (.int i :: .ref a :: st) := by
  obtain ⟨p, l, e, R, s, m, args, below, meth, c, nL, D, tc, A, n0, ad0, Q⟩ := X
  obtain ⟨hexec, hb, hml, hown, hts, hK, hA, hlk⟩ := ok
  intro ad H locs ls h1 h2 h3 h4 h5
  exact va_sald hexec hb hK h2 a t (mc_at he) (mc_ty ht) hi hd (kk ad H locs ls h1 h2 h3 h4 h5)
theorem g_lald (ok : gO X cc own Ts) {a t N : Nat} {f : Nat → Int64} {i : Int32} (ht : mTY[t]? = some .long) (hd : decode cc pc = .ok (.laload, 1)) (he : M[a]? = some (.inl (t, N, .inr (.inl f)))) (hi : vp_in i N) (kk : gg X M k n (pc + 1) L (.long (f i.toNatClampNeg) :: st)) : gg X M k n pc L (.int i :: .ref a :: st) := by
  obtain ⟨p, l, e, R, s, m, args, below, meth, c, nL, D, tc, A, n0, ad0, Q⟩ := X
  obtain ⟨hexec, hb, hml, hown, hts, hK, hA, hlk⟩ := ok
  intro ad H locs ls h1 h2 h3 h4 h5
  exact va_lald hexec hb hK h2 a t (mc_at he) (mc_ty ht) hi hd (kk ad H locs ls h1 h2 h3 h4 h5)
theorem g_aald (ok : gO X cc own Ts) {a t N o : Nat} {E : String} {f : Nat → Option Nat} {i : Int32} (ht : mTY[t]? = some (.object E)) (hd : decode cc pc = .ok (.aaload, 1)) (he : M[a]? = some (.inl (t, N, .inr (.inr (.inr (.inr f)))))) (hi : vp_in i N) (hv : f i.toNatClampNeg = some o) (kk : gg X M k n (pc + 1) L (.ref o :: st)) : gg X M k n pc L (.int i :: .ref a :: st) := by
  obtain ⟨p, l, e, R, s, m, args, below, meth, c, nL, D, tc, A, n0, ad0, Q⟩ := X
  obtain ⟨hexec, hb, hml, hown, hts, hK, hA, hlk⟩ := ok
  intro ad H locs ls h1 h2 h3 h4 h5
  refine va_aldq hexec hb hK h2 a t (mc_at he) (mc_ty ht) hi hd ?_
  rw [hv]
  exact kk ad H locs ls h1 h2 h3 h4 h5
theorem g_iast (ok : gO X cc own Ts) {a t N : Nat} {f : Nat → Int32} {i : Int32} {x : Int32} (ht : mTY[t]? = some .int) (hd : decode cc pc = .ok (.iastore, 1)) (he : M[a]? = some (.inl (t, N, .inl f))) (hi : vp_in i N) (kk : gg X (M.set a (.inl (t, N, .inl (upd f i.toNatClampNeg x)))) k n (pc + 1) L st) : gg X M k n pc L (.int x :: .int i :: .ref a :: st) := by
  obtain ⟨p, l, e, R, s, m, args, below, meth, c, nL, D, tc, A, n0, ad0, Q⟩ := X
  obtain ⟨hexec, hb, hml, hown, hts, hK, hA, hlk⟩ := ok
  intro ad H locs ls h1 h2 h3 h4 h5
  refine va_iast hexec hb hK h2 h3 h4 a t (mc_at he) (mc_ty ht) hi hd (fun H1 locs1 q1 q2 q3 => ?_)
  have e0 := (mc_set tc ad M a (.inl (t, N, .inl (upd f i.toNatClampNeg x)))).symm
  exact kk ad H1 locs1 ls h1.set (e0 ▸ q1) (e0 ▸ q2) q3 h5
theorem g_zast (ok : gO X cc own Ts) {a t N : Nat} {f : Nat → Int32} {i : Int32} {x : Int32} (ht : mTY[t]? = some .boolean) (hd : decode cc pc = .ok (.bastore, 1)) (he : M[a]? = some (.inl (t, N, .inl f))) (hi : vp_in i N) (kk : gg X (M.set a (.inl (t, N, .inl (upd f i.toNatClampNeg (vp_nar .boolean x))))) k n (pc + 1) L st) : gg X M k n pc L (.int x :: .int i :: .ref a :: st) := by
  obtain ⟨p, l, e, R, s, m, args, below, meth, c, nL, D, tc, A, n0, ad0, Q⟩ := X
  obtain ⟨hexec, hb, hml, hown, hts, hK, hA, hlk⟩ := ok
  intro ad H locs ls h1 h2 h3 h4 h5
  refine va_zast hexec hb hK h2 h3 h4 a t (mc_at he) (mc_ty ht) hi hd (fun H1 locs1 q1 q2 q3 => ?_)
  have e0 := (mc_set tc ad M a (.inl (t, N, .inl (upd f i.toNatClampNeg (vp_nar .boolean x))))).symm
  exact kk ad H1 locs1 ls h1.set (e0 ▸ q1) (e0 ▸ q2) q3 h5
theorem g_bast (ok : gO X cc own Ts) {a t N : Nat} {f : Nat → Int32} {i : Int32} {x : Int32} (ht : mTY[t]? = some .byte) (hd : decode cc pc = .ok (.bastore, 1)) (he : M[a]? = some (.inl (t, N, .inl f))) (hi : vp_in i N) (kk : gg X (M.set a (.inl (t, N, .inl (upd f i.toNatClampNeg (vp_nar .byte x))))) k n (pc + 1) L st) : gg X M k n pc L (.int x :: .int i :: .ref a :: st) := by
  obtain ⟨p, l, e, R, s, m, args, below, meth, c, nL, D, tc, A, n0, ad0, Q⟩ := X
  obtain ⟨hexec, hb, hml, hown, hts, hK, hA, hlk⟩ := ok
  intro ad H locs ls h1 h2 h3 h4 h5
  refine va_bast hexec hb hK h2 h3 h4 a t (mc_at he) (mc_ty ht) hi hd (fun H1 locs1 q1 q2 q3 => ?_)
  have e0 := (mc_set tc ad M a (.inl (t, N, .inl (upd f i.toNatClampNeg (vp_nar .byte x))))).symm
  exact kk ad H1 locs1 ls h1.set (e0 ▸ q1) (e0 ▸ q2) q3 h5
theorem g_cast (ok : gO X cc own Ts) {a t N : Nat} {f : Nat → Int32} {i : Int32} {x : Int32} (ht : mTY[t]? = some .char) (hd : decode cc pc = .ok (.castore, 1)) (he : M[a]? = some (.inl (t, N, .inl f))) (hi : vp_in i N) (kk : gg X (M.set a (.inl (t, N, .inl (upd f i.toNatClampNeg (vp_nar .char x))))) k n (pc + 1) L st) : gg X M k n pc L (.int x :: .int i :: .ref a :: st) := by
  obtain ⟨p, l, e, R, s, m, args, below, meth, c, nL, D, tc, A, n0, ad0, Q⟩ := X
  obtain ⟨hexec, hb, hml, hown, hts, hK, hA, hlk⟩ := ok
  intro ad H locs ls h1 h2 h3 h4 h5
  refine va_cast hexec hb hK h2 h3 h4 a t (mc_at he) (mc_ty ht) hi hd (fun H1 locs1 q1 q2 q3 => ?_)
  have e0 := (mc_set tc ad M a (.inl (t, N, .inl (upd f i.toNatClampNeg (vp_nar .char x))))).symm
  exact kk ad H1 locs1 ls h1.set (e0 ▸ q1) (e0 ▸ q2) q3 h5
theorem g_sast (ok : gO X cc own Ts) {a t N : Nat} {f : Nat → Int32} {i : Int32} {x : Int32} (ht : mTY[t]? = some .short) (hd : decode cc pc = .ok (.sastore, 1)) (he : M[a]? = some (.inl (t, N, .inl f))) (hi : vp_in i N) (kk : gg X (M.set a (.inl (t, N, .inl (upd f i.toNatClampNeg (vp_nar .short x))))) k n (pc + 1) L st) : gg X M k n pc L (.int x :: .int i :: .ref a :: st) := by
  obtain ⟨p, l, e, R, s, m, args, below, meth, c, nL, D, tc, A, n0, ad0, Q⟩ := X
  obtain ⟨hexec, hb, hml, hown, hts, hK, hA, hlk⟩ := ok
  intro ad H locs ls h1 h2 h3 h4 h5
  refine va_sast hexec hb hK h2 h3 h4 a t (mc_at he) (mc_ty ht) hi hd (fun H1 locs1 q1 q2 q3 => ?_)
  have e0 := (mc_set tc ad M a (.inl (t, N, .inl (upd f i.toNatClampNeg (vp_nar .short x))))).symm
  exact kk ad H1 locs1 ls h1.set (e0 ▸ q1) (e0 ▸ q2) q3 h5
theorem g_last (ok : gO X cc own Ts) {a t N : Nat} {f : Nat → Int64} {i : Int32} {x : Int64} (ht : mTY[t]? = some .long) (hd : decode cc pc = .ok (.lastore, 1)) (he : M[a]? = some (.inl (t, N, .inr (.inl f)))) (hi : vp_in i N) (kk : gg X (M.set a (.inl (t, N, .inr (.inl (vp_updL f i.toNatClampNeg x))))) k n (pc + 1) L st) : gg X M k n pc L (.long x :: .int i :: .ref a :: st) := by
  obtain ⟨p, l, e, R, s, m, args, below, meth, c, nL, D, tc, A, n0, ad0, Q⟩ := X
  obtain ⟨hexec, hb, hml, hown, hts, hK, hA, hlk⟩ := ok
  intro ad H locs ls h1 h2 h3 h4 h5
  refine va_last hexec hb hK h2 h3 h4 a t (mc_at he) (mc_ty ht) hi hd (fun H1 locs1 q1 q2 q3 => ?_)
  have e0 := (mc_set tc ad M a (.inl (t, N, .inr (.inl (vp_updL f i.toNatClampNeg x))))).symm
  exact kk ad H1 locs1 ls h1.set (e0 ▸ q1) (e0 ▸ q2) q3 h5
theorem g_aast (ok : gO X cc own Ts) {a t N ci o : Nat} {r : vw_C} {vs : List Value} {f : Nat → Option Nat} {i : Int32} (ht : mTY[t]? = some (.object r.1)) (hc : vwCl[ci]? = some r) (hd : decode cc pc = .ok (.aastore, 1)) (he : M[a]? = some (.inl (t, N, .inr (.inr (.inr (.inr f)))))) (hv : M[o]? = some (.inr (ci, vs))) (hi : vp_in i N) (kk : gg X (M.set a (.inl (t, N, .inr (.inr (.inr (.inr (va_up f i.toNatClampNeg (some o)))))))) k n (pc + 1) L st) : gg X M k n pc L (.ref o :: .int i :: .ref a :: st) := by
  obtain ⟨p, l, e, R, s, m, args, below, meth, c, nL, D, tc, A, n0, ad0, Q⟩ := X
  obtain ⟨hexec, hb, hml, hown, hts, hK, hA, hlk⟩ := ok
  intro ad H locs ls h1 h2 h3 h4 h5
  refine va_astq hexec hb hK h2 h3 h4 a t o ci (mc_at he) (mc_ty ht) (mc_at hv) hc hi hd (fun H1 locs1 q1 q2 q3 => ?_)
  have e1 : (va_up (fun j => (f j).map ad) i.toNatClampNeg (some (ad o))) = (fun j => (va_up f i.toNatClampNeg (some o) j).map ad) := by
    funext j
    unfold va_up
    split <;> rfl
  have e0 : (mc_w tc ad M).set a (ad a, .inl (tc t, N, .inr (.inr (.inr (.inr (va_up (fun j => (f j).map ad) i.toNatClampNeg (some (ad o)))))))) = mc_w tc ad (M.set a (.inl (t, N, .inr (.inr (.inr (.inr (va_up f i.toNatClampNeg (some o)))))))) := by
    rw [mc_set, e1]
    rfl
  rw [e0] at q1 q2
  exact kk ad H1 locs1 ls h1.set q1 q2 q3 h5
theorem g_alen (ok : gO X cc own Ts) {a t : Nat} {ty : FieldType} {x : vp_A} {v : Int32} (ht : mTY[t]? = some ty) (hd : decode cc pc = .ok (.arraylength, 1)) (he : M[a]? = some (.inl (t, x))) (hv : Int32.ofNat x.1 = v) (kk : gg X M k n (pc + 1) L (.int v :: st)) : gg X M k n pc L (.ref a :: st) := by
  obtain ⟨p, l, e, R, s, m, args, below, meth, c, nL, D, tc, A, n0, ad0, Q⟩ := X
  obtain ⟨hexec, hb, hml, hown, hts, hK, hA, hlk⟩ := ok
  intro ad H locs ls h1 h2 h3 h4 h5
  refine va_alen hexec hb hK h2 a t (mc_at he) (mc_ty ht) (v := v) ?_ hd (kk ad H locs ls h1 h2 h3 h4 h5)
  rw [← hv]
  rcases x with ⟨q, f | f | f | f | f⟩ <;> rfl
end GH
end
section
/-! CONTRACTS over mini worlds -/
def mq_ (D : va_G) (tc : Nat → ClassId) (M : List mC) (ad : Nat → Nat) (sz : Nat) (post : Option Value → List mC → Prop) : Array Value → State → Outcome → State → Prop := fun _ st oc t =>
  (∃ (r : Option Value) (M' : List mC) (ad' : Nat → Nat), oc = .returned (r.map (mc_v ad')) ∧ post r M' ∧ g_ag M.length ad M' ad' ∧ va_P D vwCl (mc_w tc ad' M') t.heap ∧ va_D (va_A (mc_w tc ad M) sz) (mc_w tc ad' M')) ∧ va_F (va_A (mc_w tc ad M) sz) st t
def mp_ (D : va_G) (tc : Nat → ClassId) (As : List Value) (M : List mC) (ad : Nat → Nat) (sz : Nat) : Array Value → State → Prop :=
  va_Pc (As.map (mc_v ad)) (fun U => U.heap.size = sz ∧ va_P D vwCl (mc_w tc ad M) U.heap ∧ va_K D vwCl (mc_t tc) U ∧ va_D (fun _ => True) (mc_w tc ad M) ∧ mY (va_A (mc_w tc ad M) sz) U U.heap)
/-- method y, called with As in the world M: it returns r, and the world is M', with 'post r M'' -/
def mm_ (l : Launch) (y : MethodName) (ws : List Cond) (rm : Room) (As : List Value) (M : List mC) (post : Option Value → List mC → Prop) : Prop :=
  ∀ (D : va_G) (tc : Nat → ClassId) (ad : Nat → Nat) (sz : Nat), Met l y ws rm (mp_ D tc As M ad sz) (mq_ D tc M ad sz post) rm.cells rm.slots (va_A (mc_w tc ad M) sz)
theorem mp_blind (D : va_G) (tc : Nat → ClassId) (As : List Value) (M : List mC) (ad : Nat → Nat) (sz : Nat) : FrameBlind (mp_ D tc As M ad sz) := fun _ U g mk ⟨q0, q1, q2, q3, q4, q5⟩ =>
  ⟨q0, q1, q2, va_K.moved (u := U) (U := U.calling g mk _) (Vm.Alike.refl U.vm) q3, q4, q5⟩
section WF
variable {p : Program} {l : Launch} {e : Env} {R : Room} {s : State} {m : MethodId} {args : Array Value} {below : List Frame} {meth : Method} {c : Code} {H : Heap} {locs : List Loc} {k n : Nat} {Q : State → Prop}
variable {D : va_G} {tc : Nat → ClassId} {A : Nat → Prop} {n0 : Nat} {ad0 ad : Nat → Nat} {M : List mC} {nL pc : Nat} {L : List (Nat × Value)} {ls : Array Slot} {st0 rest : List Value} {mc ms : Nat} {a : Array Value} {post : Option Value → List mC → Prop}
theorem w_sub (h3 : va_D A (mc_w tc ad M)) (h4 : va_S A s.heap H locs) (hA : ∀ q, s.heap.size ≤ q → A q) : ∀ q, va_A (mc_w tc ad M) H.size q → A q := fun q h => by
  rcases h with ⟨i, e, h⟩ | h
  · exact h3.2 i (q, e) h
  · exact hA q (Nat.le_trans h4.1 h)
/-- what a callee is given -/
theorem w_pre {As : List Value} (h2 : va_P D vwCl (mc_w tc ad M) H) (h3 : va_D A (mc_w tc ad M)) (h4 : va_S A s.heap H locs) (hA : ∀ q, s.heap.size ≤ q → A q) (hK : va_K D vwCl (mc_t tc) s) (hY : mY A s s.heap) (U : State) (hU : U.heap = H) (hW : s.WarmedH U.vm) : mp_ D tc As M ad H.size (As.map (mc_v ad)).toArray U :=
  ⟨rfl, by rw [hU], by rw [hU]; exact h2, va_K.moved hW.alike hK, h3.weaken (fun _ _ _ _ => trivial), hY.on h4 (w_sub h3 h4 hA) hW hU⟩
/-- behind a call that makes no cell of the world -/
theorem w_fin (hr : va_Run p l e R s m args below meth c H locs k n mc ms (F0 m pc ls st0) (rest.map (mc_v ad)) (mq_ D tc M ad H.size post a) (va_A (mc_w tc ad M) H.size))
    (h1 : g_ag n0 ad0 M ad) (h3 : va_D A (mc_w tc ad M)) (h4 : va_S A s.heap H locs) (hA : ∀ q, s.heap.size ≤ q → A q) (h5 : lv_has ls nL (mc_l ad L))
    (hlen : ∀ r M', post r M' → M'.length = M.length)
    (kk : ∀ r M', post r M' → ∀ (ad : Nat → Nat) (H : Heap) (locs : List Loc) (ls : Array Slot), g_ag n0 ad0 M' ad → va_P D vwCl (mc_w tc ad M') H → va_D A (mc_w tc ad M') → va_S A s.heap H locs → lv_has ls nL (mc_l ad L) → W p l e R s m args below meth c H locs (k + mc) (n + ms) Q (F0 m (pc + 3) ls ((r.toList ++ rest).map (mc_v ad)))) :
    W p l e R s m args below meth c H locs k n Q (F0 m pc ls st0) := by
  have hf := w_sub h3 h4 hA
  intro T hT X
  obtain ⟨v, st₀, t, T', Ls, e0, X', hL, e1, e2, ⟨⟨r, M', ad', hv, hp, hg, hP', hD'⟩, hz, hk⟩, go⟩ := hr T hT X
  rw [e0] at hz hk
  have hl := hlen r M' hp
  have had : ad' = ad := hg.2.2 hl
  subst had
  have hv' : v = r.map (mc_v ad') := by cases hv; rfl
  have k3 : va_S A s.heap T'.heap (locs ++ Ls) := ⟨Nat.le_trans h4.1 (by rw [e1]; exact hz), fun q q1 q2 => by rw [e1, hk q (Nat.lt_of_lt_of_le q1 h4.1) (fun z => q2 (hf q z))]; exact h4.2.1 q q1 q2, fun q hq => by
    rcases List.mem_append.mp hq with h | h
    · exact h4.2.2 q h
    · exact hf _ (hL q h)⟩
  obtain ⟨t2, a1, b1⟩ := kk r M' hp ad' T'.heap (locs ++ Ls) ls ⟨by rw [hl]; exact h1.1, h1.2.1, fun z => h1.2.2 (hl ▸ z)⟩ (by rw [e1]; exact hP') (hD'.weaken (fun _ q _ h => hf q.1 h)) k3 h5 T' rfl X'
  refine ⟨t2, go t2 ?_, b1⟩
  have e9 : (r.toList ++ rest).map (mc_v ad') = v.toList ++ rest.map (mc_v ad') := by
    rw [hv', List.map_append]
    cases r <;> rfl
  rw [e9] at a1
  exact a1
theorem w_cat (ad : Nat → Nat) (rest : List Value) : ((rest.map (mc_v ad)).map fun v => v.category).sum = (rest.map fun v => v.category).sum := by
  rw [List.map_map]
  congr 1
  exact List.map_congr_left (fun v _ => mc_v_cat ad v)
end WF
/-- the words of a method of ours -/
def wsM (y : MethodName) (b : ByteArray) (nl : Nat) (ret : Option FieldType) : List Cond := Cond.code y b nl ret :: gT
theorem wsM_good {y y' : MethodName} {b b' : ByteArray} {nl nl' : Nat} {ret ret' : Option FieldType} (h : Cond.code y' b' nl' ret' ∈ gT) : GoodIn (wsM y b nl ret) (wsM y' b' nl' ret') := by
  have key : ∀ w ∈ gT, w ∈ wsM y b nl ret ∧ ((w.onTables && w.keeps) = true ∨ ∃ ty, w = .arrayClass ty) := fun w hw => ⟨List.mem_cons_of_mem _ hw, good_of_word (List.mem_filter.mp hw).2⟩
  intro w hw
  rcases List.mem_cons.mp hw with rfl | hw
  · exact key _ h
  · exact key _ hw
section GC
variable {X : gC} {cc : ByteArray} {own : String} {M : List mC} {k n pc : Nat} {L : List (Nat × Value)} {st rest : List Value} {y0 y : MethodName} {b0 b : ByteArray} {nl0 nl : Nat} {ret0 ret : Option FieldType} {rm : Room} {As : List Value} {post : Option Value → List mC → Prop} {index o : Nat}
/-- what a call asks of the caller's room -/
def gF (X : gC) (rm : Room) (nl k n : Nat) : Prop := rm.frames + 1 ≤ (gR X).frames ∧ 8 + (nl + 11) + rm.locals ≤ (gR X).locals ∧ k + rm.cells ≤ (gR X).cells ∧ n + rm.slots ≤ (gR X).slots
theorem g_callV (ok : gO X cc own (wsM y0 b0 nl0 ret0)) {ci : Nat} {fs : List Value} {C : String} {T : u_T} {N : Nat} (hM : mm_ (gLa X) y (wsM y b nl ret) rm (.ref o :: As) M post) (hcode : Cond.code y b nl ret ∈ gT) (hlink : Cond.methodLink own index y ∈ gT) (hinst : Cond.instanceMethod y ∈ gT) (hsel : Cond.selects C y y ∈ gT) (hini : Cond.initialized C ∈ gT)
    (hd : y.cls = C ∧ y.cls ≠ "java/lang/invoke/MethodHandle" ∧ y.cls ≠ "java/lang/invoke/VarHandle" ∧ (parseMethodDescriptor y.desc).map (fun d => d.parameters.length) = some As.length)
    (hc : vwCl[ci]? = some (C, T, N)) (hdg : decode cc pc = .ok (.invokevirtual index, 3)) (hst : As.reverse ++ .ref o :: rest = st) (hrest : (rest.map fun v => v.category).sum ≤ 8) (hR : gF X rm nl k n) (he : M[o]? = some (.inr (ci, fs))) (hlen : ∀ r M', post r M' → M'.length = M.length)
    (kk : ∀ r M', post r M' → gg X M' (k + rm.cells) (n + rm.slots) (pc + 3) L (r.toList ++ rest)) : gg X M k n pc L st := by
  obtain ⟨p, l, e, R, s, m, args, below, meth, c, nL, D, tc, A, n0, ad0, Q⟩ := X
  obtain ⟨hexec, hb, hml, hown, hts, hK, hA, hlk, hY⟩ := ok
  intro ad H locs ls h1 h2 h3 h4 h5
  subst hst
  have hG : GoodIn (wsM y0 b0 nl0 ret0) (wsV own index C y (wsM y b nl ret)) := by
    intro w hw
    unfold wsV at hw
    rcases List.mem_append.mp hw with hw | hw
    · have hw' : w ∈ gT := by
        simp only [List.mem_cons, List.not_mem_nil, or_false] at hw
        rcases hw with rfl | rfl | rfl | rfl
        · exact hlink
        · exact hinst
        · exact hsel
        · exact hini
      exact ⟨List.mem_cons_of_mem _ hw', good_of_word (List.mem_filter.mp hw').2⟩
    · exact wsM_good hcode w hw
  refine w_fin (va_runV (As := As.map (mc_v ad)) (rest := rest.map (mc_v ad)) (b := ad o) (n := As.length) ⟨hexec, hb, hml, hown, hts⟩ (hM D tc ad H.size) (cwV As.length hts hG rfl rfl rfl hd ⟨hR.1, hR.2.1⟩) ⟨mp_blind D tc _ M ad H.size, va_recv hK h2 hc (mc_at he), fun U hU hW => w_pre h2 h3 h4 hA hK hY U hU hW⟩ rfl (by rw [List.length_map]) h5.1 ?_ ?_ hdg ⟨hR.2.2.1, hR.2.2.2⟩) h1 h3 h4 hA h5 hlen (fun r M' hp => kk r M' hp)
  · show (As.reverse ++ Value.ref o :: rest).map (mc_v ad) = _
    rw [List.map_append, List.map_reverse]
    rfl
  · show 2 * (F0 m pc ls _).monitorRoom + _ ≤ 8
    rw [w_cat]
    simpa [JFrame.monitorRoom] using hrest
end GC
end
section
/-! ENTRY AND RETURN -/
theorem ml_args (ad : Nat → Nat) : ∀ (As : List Value) (i : Nat), mc_l ad (lv_args i As) = lv_args i (As.map (mc_v ad))
  | [], _ => rfl
  | v :: r, i => by
    simp only [lv_args, mc_l, List.map_cons, mc_v_cat]
    congr 1
    exact ml_args ad r _
def gE (X : gC) (l9 : Launch) (y : MethodName) (rm : Room) (nl : Nat) (ret : Option FieldType) (M0 : List mC) (post : Option Value → List mC → Prop) : Prop := match X with
  | (p, l, e, R, s, m, args, below, meth, c, nL, D, tc, A, n0, ad0, Q) => l = l9 ∧ R = rm ∧ nL = nl ∧ A = va_A (mc_w tc ad0 M0) s.heap.size ∧ n0 = M0.length ∧ Q = MQ below (mq_ D tc M0 ad0 s.heap.size post) args s rm.cells rm.slots A ∧ meth.sig.returnType = ret ∧ meth.name = y.name
theorem mm_intro {l : Launch} {y : MethodName} {b : ByteArray} {nl : Nat} {ret : Option FieldType} {rm : Room} {As : List Value} {M : List mC} {post : Option Value → List mC → Prop} (hy : plainName y.cls = true) (hn : (lg_sl As).length ≤ nl) (hcode : Cond.code y b nl ret ∈ gT)
    (body : ∀ X : gC, gO X b y.cls (wsM y b nl ret) → gE X l y rm nl ret M post → gg X M 0 0 0 (lv_args 0 As) []) : mm_ l y (wsM y b nl ret) rm As M post := by
  intro D tc ad sz
  refine Met.ofW (cc := b) (maxL := nl) (ret := ret) hy rfl ?_
  intro p e s m args below meth c s₁ B hml hv
  obtain ⟨rfl, hsz, hP, hK, hD0, hY⟩ := hv
  subst hsz
  have hts := atoms_spec (ws := wsM y b nl ret) B.pre
  have hown : s.vm.findClass y.cls = some m.cls := findClass_of_methodNamed B.named
  have hD := hD0.self (sz := s.heap.size)
  have hlen : (lg_sl (As.map (mc_v ad))).length ≤ nl := by
    have e : ∀ vs : List Value, (lg_sl (vs.map (mc_v ad))).length = (lg_sl vs).length := by
      intro vs
      induction vs with
      | nil => rfl
      | cons v r ih =>
        simp only [lg_sl, List.map_cons, List.flatMap_cons, List.length_append, mc_v_cat] at ih ⊢
        rw [ih]
        congr 1
        split <;> rfl
    rw [e]
    exact hn
  have hl := lv_entry (As.map (mc_v ad)) (n := nl) hlen
  have K := body (p, l, e, rm, s, m, (As.map (mc_v ad)).toArray, below, meth, c, nl, D, tc, va_A (mc_w tc ad M) s.heap.size, M.length, ad, MQ below (mq_ D tc M ad s.heap.size post) (As.map (mc_v ad)).toArray s rm.cells rm.slots (va_A (mc_w tc ad M) s.heap.size))
    ⟨B.exec, B.bytes, hml, hown, hts, hK, fun q h => Or.inr h, B.notSynchronized, hY⟩ ⟨rfl, rfl, rfl, rfl, rfl, rfl, B.returns, (name_of_methodNamed B.named B.method).1⟩
    ad s.heap [] _ ⟨Nat.le_refl _, fun _ _ => rfl, fun _ => rfl⟩ hP hD va_S.rf (by rw [ml_args]; exact hl)
  rw [lg_entry_eq]
  exact K
section GRET
variable {X : gC} {cc : ByteArray} {own : String} {Ts : List Cond} {M M0 : List mC} {k n pc : Nat} {L : List (Nat × Value)} {l9 : Launch} {y : MethodName} {rm : Room} {nl : Nat} {post : Option Value → List mC → Prop}
theorem g_iret (ok : gO X cc own Ts) {x : Int32} (E : gE X l9 y rm nl (some .int) M0 post) (hd : decode cc pc = .ok (.ireturn, 1)) (hp : post (some (.int x)) M) (hk : k ≤ rm.cells) (hn : n ≤ rm.slots) : gg X M k n pc L [.int x] := by
  obtain ⟨p, l, e, R, s, m, args, below, meth, c, nL, D, tc, A, n0, ad0, Q⟩ := X
  obtain ⟨hexec, hb, hml, hown, hts, hK, hA, hlk, hY⟩ := ok
  obtain ⟨rfl, rfl, rfl, rfl, rfl, rfl, hr, hnm⟩ := E
  intro ad H locs ls h1 h2 h3 h4 h5
  refine W.widen (k := R.cells) (n := R.slots) hk hn ?_
  exact W.iret hexec hb hr (fun t ht hW => ⟨⟨some (.int x), M, ad, rfl, hp, h1, by rw [ht]; exact h2, h3⟩, h4.F ht⟩) (fun q hq => h4.2.2 q hq) hd hlk
theorem g_lret (ok : gO X cc own Ts) {x : Int64} (E : gE X l9 y rm nl (some .long) M0 post) (hd : decode cc pc = .ok (.lreturn, 1)) (hp : post (some (.long x)) M) (hk : k ≤ rm.cells) (hn : n ≤ rm.slots) : gg X M k n pc L [.long x] := by
  obtain ⟨p, l, e, R, s, m, args, below, meth, c, nL, D, tc, A, n0, ad0, Q⟩ := X
  obtain ⟨hexec, hb, hml, hown, hts, hK, hA, hlk, hY⟩ := ok
  obtain ⟨rfl, rfl, rfl, rfl, rfl, rfl, hr, hnm⟩ := E
  intro ad H locs ls h1 h2 h3 h4 h5
  refine W.widen (k := R.cells) (n := R.slots) hk hn ?_
  exact W.lret hexec hb hr (fun t ht hW => ⟨⟨some (.long x), M, ad, rfl, hp, h1, by rw [ht]; exact h2, h3⟩, h4.F ht⟩) (fun q hq => h4.2.2 q hq) hd hlk
theorem g_vret (ok : gO X cc own Ts) (E : gE X l9 y rm nl none M0 post) (hd : decode cc pc = .ok (.return_, 1)) (hp : post (none) M) (hk : k ≤ rm.cells) (hn : n ≤ rm.slots) : gg X M k n pc L [] := by
  obtain ⟨p, l, e, R, s, m, args, below, meth, c, nL, D, tc, A, n0, ad0, Q⟩ := X
  obtain ⟨hexec, hb, hml, hown, hts, hK, hA, hlk, hY⟩ := ok
  obtain ⟨rfl, rfl, rfl, rfl, rfl, rfl, hr, hnm⟩ := E
  intro ad H locs ls h1 h2 h3 h4 h5
  refine W.widen (k := R.cells) (n := R.slots) hk hn ?_
  exact W.vret hexec hb hr (fun t ht hW => ⟨⟨none, M, ad, rfl, hp, h1, by rw [ht]; exact h2, h3⟩, h4.F ht⟩) (fun q hq => h4.2.2 q hq) hd hlk
theorem g_zret (ok : gO X cc own Ts) {x : Int32} (E : gE X l9 y rm nl (some .boolean) M0 post) (hd : decode cc pc = .ok (.ireturn, 1)) (hz : narrow .boolean (.int x) = .int x) (hp : post (some (.int x)) M) (hk : k ≤ rm.cells) (hn : n ≤ rm.slots) : gg X M k n pc L [.int x] := by
  obtain ⟨p, l, e, R, s, m, args, below, meth, c, nL, D, tc, A, n0, ad0, Q⟩ := X
  obtain ⟨hexec, hb, hml, hown, hts, hK, hA, hlk, hY⟩ := ok
  obtain ⟨rfl, rfl, rfl, rfl, rfl, rfl, hr, hnm⟩ := E
  intro ad H locs ls h1 h2 h3 h4 h5
  refine W.widen (k := R.cells) (n := R.slots) hk hn ?_
  exact W.zret hexec hb hr hz (fun t ht hW => ⟨⟨some (.int x), M, ad, rfl, hp, h1, by rw [ht]; exact h2, h3⟩, h4.F ht⟩) (fun q hq => h4.2.2 q hq) hd hlk
theorem g_aret (ok : gO X cc own Ts) {o : Nat} {rt : FieldType} (E : gE X l9 y rm nl (some rt) M0 post) (hd : decode cc pc = .ok (.areturn, 1)) (hrt : (∃ n, rt = .object n) ∨ ∃ t, rt = .array t) (hp : post (some (.ref o)) M) (hk : k ≤ rm.cells) (hn : n ≤ rm.slots) : gg X M k n pc L [.ref o] := by
  obtain ⟨p, l, e, R, s, m, args, below, meth, c, nL, D, tc, A, n0, ad0, Q⟩ := X
  obtain ⟨hexec, hb, hml, hown, hts, hK, hA, hlk, hY⟩ := ok
  obtain ⟨rfl, rfl, rfl, rfl, rfl, rfl, hr, hnm⟩ := E
  intro ad H locs ls h1 h2 h3 h4 h5
  refine W.widen (k := R.cells) (n := R.slots) hk hn ?_
  exact W.aret hexec hb hr hrt (Or.inr ⟨_, rfl⟩) (fun t ht hW => ⟨⟨some (.ref o), M, ad, rfl, hp, h1, by rw [ht]; exact h2, h3⟩, h4.F ht⟩) (fun q hq => h4.2.2 q hq) hd hlk
end GRET
theorem ml_eq {n : Nat} {ad ad' : Nat → Nat} {L : List (Nat × Value)} (h : ∀ q ∈ L, mk_v n q.2) (he : ∀ i, i < n ∨ i = spl → ad' i = ad i) : mc_l ad' L = mc_l ad L := List.map_congr_left (fun q hq => by rw [mk_v_eq (h q hq) he])
theorem ms_eq {n : Nat} {ad ad' : Nat → Nat} {st : List Value} (h : ∀ v ∈ st, mk_v n v) (he : ∀ i, i < n ∨ i = spl → ad' i = ad i) : st.map (mc_v ad') = st.map (mc_v ad) := List.map_congr_left (fun v hv => mk_v_eq (h v hv) he)
section WFA
variable {p : Program} {l : Launch} {e : Env} {R : Room} {s : State} {m : MethodId} {args : Array Value} {below : List Frame} {meth : Method} {c : Code} {H : Heap} {locs : List Loc} {k n : Nat} {Q : State → Prop}
variable {D : va_G} {tc : Nat → ClassId} {A : Nat → Prop} {n0 : Nat} {ad0 ad : Nat → Nat} {M : List mC} {nL pc : Nat} {L : List (Nat × Value)} {ls : Array Slot} {st0 rest : List Value} {mc ms : Nat} {a : Array Value} {post : Option Value → List mC → Prop}
theorem w_finA (hr : va_Run p l e R s m args below meth c H locs k n mc ms (F0 m pc ls st0) (rest.map (mc_v ad)) (mq_ D tc M ad H.size post a) (va_A (mc_w tc ad M) H.size))
    (h1 : g_ag n0 ad0 M ad) (h3 : va_D A (mc_w tc ad M)) (h4 : va_S A s.heap H locs) (hA : ∀ q, s.heap.size ≤ q → A q) (h5 : lv_has ls nL (mc_l ad L)) (hL : ∀ q ∈ L, mk_v M.length q.2) (hrs : ∀ v ∈ rest, mk_v M.length v)
    (kk : ∀ r M', post r M' → ∀ (ad : Nat → Nat) (H : Heap) (locs : List Loc) (ls : Array Slot), g_ag n0 ad0 M' ad → va_P D vwCl (mc_w tc ad M') H → va_D A (mc_w tc ad M') → va_S A s.heap H locs → lv_has ls nL (mc_l ad L) → W p l e R s m args below meth c H locs (k + mc) (n + ms) Q (F0 m (pc + 3) ls ((r.toList ++ rest).map (mc_v ad)))) :
    W p l e R s m args below meth c H locs k n Q (F0 m pc ls st0) := by
  have hf := w_sub h3 h4 hA
  intro T hT X
  obtain ⟨v, st₀, t, T', Ls, e0, X', hLs, e1, e2, ⟨⟨r, M', ad', hv, hp, hg, hP', hD'⟩, hz, hk⟩, go⟩ := hr T hT X
  rw [e0] at hz hk
  have hv' : v = r.map (mc_v ad') := by cases hv; rfl
  have k3 : va_S A s.heap T'.heap (locs ++ Ls) := ⟨Nat.le_trans h4.1 (by rw [e1]; exact hz), fun q q1 q2 => by rw [e1, hk q (Nat.lt_of_lt_of_le q1 h4.1) (fun z => q2 (hf q z))]; exact h4.2.1 q q1 q2, fun q hq => by
    rcases List.mem_append.mp hq with h | h
    · exact h4.2.2 q h
    · exact hf _ (hLs q h)⟩
  have hag : g_ag n0 ad0 M' ad' := by
    refine ⟨Nat.le_trans h1.1 hg.1, fun i hi => ?_, fun z => ?_⟩
    · rw [hg.2.1 i (hi.elim (fun h => Or.inl (Nat.lt_of_lt_of_le h h1.1)) Or.inr)]
      exact h1.2.1 i hi
    · have z1 := h1.1
      have z2 := hg.1
      rw [hg.2.2 (by omega)]
      exact h1.2.2 (by omega)
  obtain ⟨t2, a1, b1⟩ := kk r M' hp ad' T'.heap (locs ++ Ls) ls hag (by rw [e1]; exact hP') (hD'.weaken (fun _ q _ h => hf q.1 h)) k3 (by rw [ml_eq hL hg.2.1]; exact h5) T' rfl X'
  refine ⟨t2, go t2 ?_, b1⟩
  have e9 : (r.toList ++ rest).map (mc_v ad') = v.toList ++ rest.map (mc_v ad) := by
    rw [hv', List.map_append, ms_eq hrs hg.2.1]
    cases r <;> rfl
  rw [e9] at a1
  exact a1
end WFA
section GC2
variable {X : gC} {cc : ByteArray} {own : String} {M : List mC} {k n pc : Nat} {L : List (Nat × Value)} {st rest : List Value} {y0 y : MethodName} {b0 b : ByteArray} {nl0 nl : Nat} {ret0 ret : Option FieldType} {rm : Room} {As : List Value} {post : Option Value → List mC → Prop} {index o : Nat}
theorem g_inws {w : Cond} (h : w ∈ gT) : w ∈ wsM y0 b0 nl0 ret0 ∧ ((w.onTables && w.keeps) = true ∨ ∃ ty, w = .arrayClass ty) := ⟨List.mem_cons_of_mem _ h, good_of_word (List.mem_filter.mp h).2⟩
theorem g_callS (ok : gO X cc own (wsM y0 b0 nl0 ret0)) (hM : mm_ (gLa X) y (wsM y b nl ret) rm As M post) (hcode : Cond.code y b nl ret ∈ gT) (hlink : Cond.methodLink own index y ∈ gT) (hstat : Cond.static y ∈ gT) (hini : Cond.initialized y.cls ∈ gT)
    (hd : y.cls ≠ "java/lang/invoke/MethodHandle" ∧ y.cls ≠ "java/lang/invoke/VarHandle" ∧ (parseMethodDescriptor y.desc).map (fun d => d.parameters.length) = some As.length)
    (hdg : decode cc pc = .ok (.invokestatic index, 3)) (hst : As.reverse ++ rest = st) (hrest : (rest.map fun v => v.category).sum ≤ 8) (hR : gF X rm nl k n) (hlen : ∀ r M', post r M' → M'.length = M.length)
    (kk : ∀ r M', post r M' → gg X M' (k + rm.cells) (n + rm.slots) (pc + 3) L (r.toList ++ rest)) : gg X M k n pc L st := by
  obtain ⟨p, l, e, R, s, m, args, below, meth, c, nL, D, tc, A, n0, ad0, Q⟩ := X
  obtain ⟨hexec, hb, hml, hown, hts, hK, hA, hlk, hY⟩ := ok
  intro ad H locs ls h1 h2 h3 h4 h5
  subst hst
  have hG : GoodIn (wsM y0 b0 nl0 ret0) (va_wsS own index y (wsM y b nl ret)) := by
    intro w hw
    unfold va_wsS at hw
    rcases List.mem_append.mp hw with hw | hw
    · simp only [List.mem_cons, List.not_mem_nil, or_false] at hw
      rcases hw with rfl | rfl | rfl
      · exact g_inws hlink
      · exact g_inws hstat
      · exact g_inws hini
    · exact wsM_good hcode w hw
  refine w_fin (va_runS (As := As.map (mc_v ad)) (rest := rest.map (mc_v ad)) (n := As.length) ⟨hexec, hb, hml, hown, hts⟩ (hM D tc ad H.size) (va_cwS As.length hts hG rfl rfl rfl hd ⟨hR.1, hR.2.1⟩) ⟨mp_blind D tc _ M ad H.size, fun U hU hW => w_pre h2 h3 h4 hA hK hY U hU hW⟩ rfl (by rw [List.length_map]) h5.1 ?_ ?_ hdg ⟨hR.2.2.1, hR.2.2.2⟩) h1 h3 h4 hA h5 hlen (fun r M' hp => kk r M' hp)
  · show (As.reverse ++ rest).map (mc_v ad) = _
    rw [List.map_append, List.map_reverse]
  · show 2 * (F0 m pc ls _).monitorRoom + _ ≤ 8
    rw [w_cat]
    simpa [JFrame.monitorRoom] using hrest
/-- a constructor: it may make cells -/
theorem g_callI (ok : gO X cc own (wsM y0 b0 nl0 ret0)) (hM : mm_ (gLa X) y (wsM y b nl none) rm (.ref o :: As) M post) (hcode : Cond.code y b nl none ∈ gT) (hlink : Cond.methodLink own index y ∈ gT) (hinst : Cond.instanceMethod y ∈ gT) (hini : Cond.initialized y.cls ∈ gT) (hy1 : y.name = "<init>")
    (hd : y.cls ≠ "java/lang/invoke/MethodHandle" ∧ y.cls ≠ "java/lang/invoke/VarHandle" ∧ (parseMethodDescriptor y.desc).map (fun d => d.parameters.length) = some As.length)
    (hdg : decode cc pc = .ok (.invokespecial index, 3)) (hst : As.reverse ++ .ref o :: rest = st) (hrest : (rest.map fun v => v.category).sum ≤ 8) (hR : gF X rm nl k n) (hL : ∀ q ∈ L, mk_v M.length q.2) (hrs : ∀ v ∈ rest, mk_v M.length v)
    (kk : ∀ r M', post r M' → gg X M' (k + rm.cells) (n + rm.slots) (pc + 3) L (r.toList ++ rest)) : gg X M k n pc L st := by
  obtain ⟨p, l, e, R, s, m, args, below, meth, c, nL, D, tc, A, n0, ad0, Q⟩ := X
  obtain ⟨hexec, hb, hml, hown, hts, hK, hA, hlk, hY⟩ := ok
  intro ad H locs ls h1 h2 h3 h4 h5
  subst hst
  refine w_finA (va_runI (As := As.map (mc_v ad)) (rest := rest.map (mc_v ad)) (b := ad o) (n := As.length) ⟨hexec, hb, hml, hown, hts⟩ (hM D tc ad H.size) (cwI As.length hts (wsM_good hcode) rfl rfl rfl (hts _ (g_inws hini).1) (hts _ (g_inws hlink).1) (hts _ (g_inws hinst).1) hy1 hd ⟨hR.1, hR.2.1⟩) ⟨mp_blind D tc _ M ad H.size, fun U hU hW => w_pre h2 h3 h4 hA hK hY U hU hW⟩ rfl (by rw [List.length_map]) h5.1 ?_ ?_ hdg ⟨hR.2.2.1, hR.2.2.2⟩) h1 h3 h4 hA h5 hL hrs (fun r M' hp => kk r M' hp)
  · show (As.reverse ++ Value.ref o :: rest).map (mc_v ad) = _
    rw [List.map_append, List.map_reverse]
    rfl
  · show 2 * (F0 m pc ls _).monitorRoom + _ ≤ 8
    rw [w_cat]
    simpa [JFrame.monitorRoom] using hrest
/-- a private constructor of a nest mate -/
theorem g_callIN (ok : gO X cc own (wsM y0 b0 nl0 ret0)) {host : String} (hM : mm_ (gLa X) y (wsM y b nl none) rm (.ref o :: As) M post) (hcode : Cond.code y b nl none ∈ gT) (hlink : Cond.methodLinkNest own index y host ∈ yT) (hinst : Cond.instanceMethod y ∈ gT) (hini : Cond.initialized y.cls ∈ gT) (hy1 : y.name = "<init>")
    (hd : y.cls ≠ "java/lang/invoke/MethodHandle" ∧ y.cls ≠ "java/lang/invoke/VarHandle" ∧ (parseMethodDescriptor y.desc).map (fun d => d.parameters.length) = some As.length)
    (hdg : decode cc pc = .ok (.invokespecial index, 3)) (hst : As.reverse ++ .ref o :: rest = st) (hrest : (rest.map fun v => v.category).sum ≤ 8) (hR : gF X rm nl k n) (hL : ∀ q ∈ L, mk_v M.length q.2) (hrs : ∀ v ∈ rest, mk_v M.length v)
    (kk : ∀ r M', post r M' → gg X M' (k + rm.cells) (n + rm.slots) (pc + 3) L (r.toList ++ rest)) : gg X M k n pc L st := by
  obtain ⟨p, l, e, R, s, m, args, below, meth, c, nL, D, tc, A, n0, ad0, Q⟩ := X
  obtain ⟨hexec, hb, hml, hown, hts, hK, hA, hlk, hY⟩ := ok
  intro ad H locs ls h1 h2 h3 h4 h5
  subst hst
  refine w_finA (va_runIN (As := As.map (mc_v ad)) (rest := rest.map (mc_v ad)) (b := ad o) (n := As.length) (host := host) ⟨hexec, hb, hml, hown, hts⟩ (hM D tc ad H.size) ⟨va_cnB As.length hts (wsM_good hcode) rfl rfl rfl (hY.use _ hlink) (hts _ (g_inws hini).1) hd ⟨hR.1, hR.2.1⟩, hy1, hts _ (g_inws hinst).1⟩ ⟨mp_blind D tc _ M ad H.size, fun U hU hW => w_pre h2 h3 h4 hA hK hY U hU hW⟩ rfl (by rw [List.length_map]) h5.1 ?_ ?_ hdg ⟨hR.2.2.1, hR.2.2.2⟩) h1 h3 h4 hA h5 hL hrs (fun r M' hp => kk r M' hp)
  · show (As.reverse ++ Value.ref o :: rest).map (mc_v ad) = _
    rw [List.map_append, List.map_reverse]
    rfl
  · show 2 * (F0 m pc ls _).monitorRoom + _ ≤ 8
    rw [w_cat]
    simpa [JFrame.monitorRoom] using hrest
theorem g_objI (ok : gO X cc own (wsM y0 b0 nl0 ret0)) (hlink : Cond.methodLink own index Lib.objectInit ∈ gT) (hinst : Cond.instanceMethod Lib.objectInit ∈ gT) (hcode : Cond.code Lib.objectInit ⟨#[0xb1]⟩ 1 none ∈ gT) (hdg : decode cc pc = .ok (.invokespecial index, 3)) (hf : 1 ≤ (gR X).frames) (hl : (rest.map fun v => v.category).sum + 12 ≤ (gR X).locals)
    (kk : gg X M k n (pc + 3) L rest) : gg X M k n pc L (.ref o :: rest) := by
  obtain ⟨p, l, e, R, s, m, args, below, meth, c, nL, D, tc, A, n0, ad0, Q⟩ := X
  obtain ⟨hexec, hb, hml, hown, hts, hK, hA, hlk, hY⟩ := ok
  intro ad H locs ls h1 h2 h3 h4 h5
  refine W.objInit hexec hb hown (hts _ (g_inws hlink).1) (hts _ (g_inws hinst).1) (hts _ (g_inws hcode).1) (a := ad o) (rest := rest.map (mc_v ad)) rfl (h5.1.trans hml.symm) rfl hdg hf ?_ (kk ad H locs ls h1 h2 h3 h4 h5)
  show 2 * (F0 m pc ls _).monitorRoom + _ + 12 ≤ R.locals
  rw [w_cat]
  have hl' : (rest.map fun v => v.category).sum + 12 ≤ R.locals := hl
  simpa [JFrame.monitorRoom] using hl'
end GC2
end
section
/-! NEW CELLS -/
/-- all references lie within the world -/
def gW (M : List mC) (L : List (Nat × Value)) (st : List Value) : Prop := M.length < spl ∧ (∀ c ∈ M, mk_c M.length c) ∧ (∀ q ∈ L, mk_v M.length q.2) ∧ ∀ v ∈ st, mk_v M.length v
def a_up (ad : Nat → Nat) (i q : Nat) : Nat → Nat := fun j => if j = i then q else ad j
theorem a_up_eq {ad : Nat → Nat} {M : List mC} {q : Nat} (h : M.length < spl) : ∀ i, i < M.length ∨ i = spl → a_up ad M.length q i = ad i := fun i hi => by
  unfold a_up
  rw [if_neg]
  rcases hi with hi | hi
  · omega
  · omega
theorem a_up_w {tc : Nat → ClassId} {ad : Nat → Nat} {M : List mC} {q : Nat} {c : mC} (h : M.length < spl) (hM : ∀ c ∈ M, mk_c M.length c) : mc_w tc (a_up ad M.length q) (M ++ [c]) = mc_w tc ad M ++ [(q, mc_e tc (a_up ad M.length q) c)] := by
  rw [mc_push, mk_w_eq hM (a_up_eq h)]
  unfold a_up
  rw [if_pos rfl]
theorem a_up_ag {n0 : Nat} {ad0 ad : Nat → Nat} {M : List mC} {q : Nat} {c : mC} (h : M.length < spl) (h1 : g_ag n0 ad0 M ad) : g_ag n0 ad0 (M ++ [c]) (a_up ad M.length q) := by
  have h0 := h1.1
  refine ⟨by rw [List.length_append]; exact Nat.le_trans h0 (Nat.le_add_right _ _), fun i hi => ?_, fun z => ?_⟩
  · rw [a_up_eq h i (hi.elim (fun h => Or.inl (Nat.lt_of_lt_of_le h h0)) Or.inr)]
    exact h1.2.1 i hi
  · rw [List.length_append] at z
    simp at z
    omega
theorem ra_one {U : State} {a b : ClassId} {ty : FieldType} (h1 : va_RA U a ty) (h2 : va_RA U b ty) : a = b := by
  cases ty with
  | object C =>
    obtain ⟨_, _, -, -, -, e1⟩ := h1
    obtain ⟨_, _, -, -, -, e2⟩ := h2
    exact Option.some.inj (e1.symm.trans e2)
  | _ => exact Option.some.inj (Eq.trans (Eq.symm h1) h2)
section GN
variable {X : gC} {cc : ByteArray} {own : String} {Ts : List Cond} {M : List mC} {k n pc : Nat} {L : List (Nat × Value)} {st : List Value}
theorem g_new (ok : gO X cc own Ts) {C : String} {T : u_T} {N ci index : Nat} {fs : List Value} (hin : ∀ w ∈ u_ws C T N, w ∈ Ts) (ty : Nat → FieldType) (hty : ∀ k, k < N → parseFieldDescriptor (T k).2.2.1 = some (ty k)) (hcl : Cond.classLink own index C ∈ Ts) (hinst : Cond.instantiable C N ∈ Ts) (hini : Cond.initialized C ∈ Ts) (hc : vwCl[ci]? = some (C, T, N)) (hfs : ∀ j, j < N → defaultValue (ty j) = vp_V fs j) (hfm : ∀ ad : Nat → Nat, fs.map (mc_v ad) = fs) (hd : decode cc pc = .ok (.new index, 3)) (hk : k + 1 ≤ (gR X).cells) (hn : n + N ≤ (gR X).slots) (wf : gW M L st)
    (kk : gg X (M ++ [.inr (ci, fs)]) (k + 1) (n + N) (pc + 3) L (.ref M.length :: st)) : gg X M k n pc L st := by
  obtain ⟨p, l, e, R, s, m, args, below, meth, c, nL, D, tc, A, n0, ad0, Q⟩ := X
  obtain ⟨hexec, hb, hml, hown, hts, hK, hA, hlk⟩ := ok
  intro ad H locs ls h1 h2 h3 h4 h5
  obtain ⟨w1, w2, w3, w4⟩ := wf
  refine va_new hexec hb hts hin ty hty hown (hts _ hcl) (hts _ hinst) (hts _ hini) hK h2 h3 h4 hA hc hfs hk hn hd (fun q H1 q1 q2 q3 => ?_)
  have he : mc_e tc (a_up ad M.length q) (.inr (ci, fs)) = .inr (ci, fs) := by
    show (Sum.inr (ci, fs.map (mc_v (a_up ad M.length q))) : va_E) = Sum.inr (ci, fs)
    rw [hfm]
  have e1 : a_up ad M.length q M.length = q := if_pos rfl
  have K := kk (a_up ad M.length q) H1 locs ls (a_up_ag w1 h1) (by rw [a_up_w w1 w2, he]; exact q1) (by rw [a_up_w w1 w2, he]; exact q2) q3 (by rw [ml_eq w3 (a_up_eq w1)]; exact h5)
  rw [List.map_cons, ms_eq w4 (a_up_eq w1)] at K
  rw [show mc_v (a_up ad M.length q) (.ref M.length) = .ref q from congrArg Value.ref e1] at K
  exact K
theorem g_newa (ok : gO X cc own Ts) {atype : ArrayType} {ty : FieldType} {t N : Nat} {i : Int32} {a0 : vp_A} (harr : Cond.arrayClass (newarray.typeOf atype) ∈ Ts) (hty : newarray.typeOf atype = ty) (ht : mTY[t]? = some ty) (ha : ∀ cA : ClassId, vp_cell cA a0 = arrV cA N (fun _ => defaultValue ty)) (ham : ∀ ad : Nat → Nat, mc_a ad a0 = a0) (hi : ¬ i < 0) (hN : i.toNatClampNeg = N) (hby : N * componentBytes ty ≤ 536870912) (hd : decode cc pc = .ok (.newarray atype, 2)) (hk : k + 1 ≤ (gR X).cells) (hn : n + N ≤ (gR X).slots) (wf : gW M L st)
    (kk : gg X (M ++ [.inl (t, a0)]) (k + 1) (n + N) (pc + 2) L (.ref M.length :: st)) : gg X M k n pc L (.int i :: st) := by
  obtain ⟨p, l, e, R, s, m, args, below, meth, c, nL, D, tc, A, n0, ad0, Q⟩ := X
  obtain ⟨hexec, hb, hml, hown, hts, hK, hA, hlk⟩ := ok
  intro ad H locs ls h1 h2 h3 h4 h5
  obtain ⟨w1, w2, w3, w4⟩ := wf
  refine va_newa hexec hb (hts _ harr) hty hK h2 h3 h4 hA ha hi hN hby hk hn hd (fun q cA H1 qK q1 q2 q3 => ?_)
  have hcA : cA = tc t := ra_one (qK.2 (mc_t tc).length (cA, ty) (by rw [List.getElem?_append_right (Nat.le_refl _), Nat.sub_self]; rfl)).2 (hK.2 t _ (mc_ty ht)).2
  subst hcA
  have he : mc_e tc (a_up ad M.length q) (.inl (t, a0)) = .inl (tc t, a0) := by
    show (Sum.inl (tc t, mc_a (a_up ad M.length q) a0) : va_E) = _
    rw [ham]
  have e1 : a_up ad M.length q M.length = q := if_pos rfl
  have K := kk (a_up ad M.length q) H1 locs ls (a_up_ag w1 h1) (by rw [a_up_w w1 w2, he]; exact q1) (by rw [a_up_w w1 w2, he]; exact q2) q3 (by rw [ml_eq w3 (a_up_eq w1)]; exact h5)
  rw [List.map_cons, ms_eq w4 (a_up_eq w1)] at K
  rw [show mc_v (a_up ad M.length q) (.ref M.length) = .ref q from congrArg Value.ref e1] at K
  exact K
theorem g_newq (ok : gO X cc own Ts) {E : String} {index t N : Nat} {i : Int32} (hcl : Cond.classLink own index E ∈ Ts) (hov : va_AO E (gS X)) (ht : mTY[t]? = some (.object E)) (hi : ¬ i < 0) (hN : i.toNatClampNeg = N) (hby : N * 4 ≤ 536870912) (hd : decode cc pc = .ok (.anewarray index, 3)) (hk : k + 1 ≤ (gR X).cells) (hn : n + N ≤ (gR X).slots) (wf : gW M L st)
    (kk : gg X (M ++ [.inl (t, N, .inr (.inr (.inr (.inr (fun _ => none)))))]) (k + 1) (n + N) (pc + 3) L (.ref M.length :: st)) : gg X M k n pc L (.int i :: st) := by
  obtain ⟨p, l, e, R, s, m, args, below, meth, c, nL, D, tc, A, n0, ad0, Q⟩ := X
  obtain ⟨hexec, hb, hml, hown, hts, hK, hA, hlk⟩ := ok
  intro ad H locs ls h1 h2 h3 h4 h5
  obtain ⟨w1, w2, w3, w4⟩ := wf
  refine va_newq hexec hb hown (hts _ hcl) hov hK h2 h3 h4 hA hi hN hby hk hn hd (fun q cA H1 qK q1 q2 q3 => ?_)
  have hcA : cA = tc t := ra_one (qK.2 (mc_t tc).length (cA, .object E) (by rw [List.getElem?_append_right (Nat.le_refl _), Nat.sub_self]; rfl)).2 (hK.2 t _ (mc_ty ht)).2
  subst hcA
  have he : mc_e tc (a_up ad M.length q) (.inl (t, N, .inr (.inr (.inr (.inr (fun _ => none)))))) = .inl (tc t, N, .inr (.inr (.inr (.inr (fun _ => none))))) := rfl
  have e1 : a_up ad M.length q M.length = q := if_pos rfl
  have K := kk (a_up ad M.length q) H1 locs ls (a_up_ag w1 h1) (by rw [a_up_w w1 w2, he]; exact q1) (by rw [a_up_w w1 w2, he]; exact q2) q3 (by rw [ml_eq w3 (a_up_eq w1)]; exact h5)
  rw [List.map_cons, ms_eq w4 (a_up_eq w1)] at K
  rw [show mc_v (a_up ad M.length q) (.ref M.length) = .ref q from congrArg Value.ref e1] at K
  exact K
end GN
end
section
abbrev c_TS_init : ByteArray := prog_1_method_1_code
def y_TS_init : MethodName := ⟨"TripleStore", "<init>", "()V"⟩
abbrev w_TS_init : List Cond := wsM y_TS_init c_TS_init 1 none
theorem i_TS_init : Cond.code y_TS_init c_TS_init 1 none ∈ gT := gT_at 27 (by decide +kernel) (by decide +kernel)
abbrev c_TS_add : ByteArray := prog_1_method_2_code
def y_TS_add : MethodName := ⟨"TripleStore", "add", "(JJJ)I"⟩
abbrev w_TS_add : List Cond := wsM y_TS_add c_TS_add 13 (some .int)
theorem i_TS_add : Cond.code y_TS_add c_TS_add 13 (some .int) ∈ gT := gT_at 329 (by decide +kernel) (by decide +kernel)
abbrev c_TS_remove : ByteArray := prog_1_method_3_code
def y_TS_remove : MethodName := ⟨"TripleStore", "remove", "(JJJ)I"⟩
abbrev w_TS_remove : List Cond := wsM y_TS_remove c_TS_remove 7 (some .int)
theorem i_TS_remove : Cond.code y_TS_remove c_TS_remove 7 (some .int) ∈ gT := gT_at 475 (by decide +kernel) (by decide +kernel)
abbrev c_TS_begin : ByteArray := prog_1_method_4_code
def y_TS_begin : MethodName := ⟨"TripleStore", "begin", "()I"⟩
abbrev w_TS_begin : List Cond := wsM y_TS_begin c_TS_begin 1 (some .int)
theorem i_TS_begin : Cond.code y_TS_begin c_TS_begin 1 (some .int) ∈ gT := gT_at 490 (by decide +kernel) (by decide +kernel)
abbrev c_TS_commit : ByteArray := prog_1_method_5_code
def y_TS_commit : MethodName := ⟨"TripleStore", "commit", "()I"⟩
abbrev w_TS_commit : List Cond := wsM y_TS_commit c_TS_commit 1 (some .int)
theorem i_TS_commit : Cond.code y_TS_commit c_TS_commit 1 (some .int) ∈ gT := gT_at 506 (by decide +kernel) (by decide +kernel)
abbrev c_TS_rollback : ByteArray := prog_1_method_6_code
def y_TS_rollback : MethodName := ⟨"TripleStore", "rollback", "()I"⟩
abbrev w_TS_rollback : List Cond := wsM y_TS_rollback c_TS_rollback 1 (some .int)
theorem i_TS_rollback : Cond.code y_TS_rollback c_TS_rollback 1 (some .int) ∈ gT := gT_at 518 (by decide +kernel) (by decide +kernel)
abbrev c_TS_sync : ByteArray := prog_1_method_7_code
def y_TS_sync : MethodName := ⟨"TripleStore", "sync", "()I"⟩
abbrev w_TS_sync : List Cond := wsM y_TS_sync c_TS_sync 1 (some .int)
theorem i_TS_sync : Cond.code y_TS_sync c_TS_sync 1 (some .int) ∈ gT := gT_at 312 (by decide +kernel) (by decide +kernel)
abbrev c_TS_crash : ByteArray := prog_1_method_8_code
def y_TS_crash : MethodName := ⟨"TripleStore", "crash", "(I)I"⟩
abbrev w_TS_crash : List Cond := wsM y_TS_crash c_TS_crash 2 (some .int)
theorem i_TS_crash : Cond.code y_TS_crash c_TS_crash 2 (some .int) ∈ gT := gT_at 549 (by decide +kernel) (by decide +kernel)
abbrev c_TS_append : ByteArray := prog_1_method_9_code
def y_TS_append : MethodName := ⟨"TripleStore", "append", "(JI)I"⟩
abbrev w_TS_append : List Cond := wsM y_TS_append c_TS_append 5 (some .int)
theorem i_TS_append : Cond.code y_TS_append c_TS_append 5 (some .int) ∈ gT := gT_at 564 (by decide +kernel) (by decide +kernel)
abbrev c_TS_ask : ByteArray := prog_1_method_10_code
def y_TS_ask : MethodName := ⟨"TripleStore", "ask", "()I"⟩
abbrev w_TS_ask : List Cond := wsM y_TS_ask c_TS_ask 2 (some .int)
theorem i_TS_ask : Cond.code y_TS_ask c_TS_ask 2 (some .int) ∈ gT := gT_at 579 (by decide +kernel) (by decide +kernel)
abbrev c_TS_fault : ByteArray := prog_1_method_11_code
def y_TS_fault : MethodName := ⟨"TripleStore", "fault", "()I"⟩
abbrev w_TS_fault : List Cond := wsM y_TS_fault c_TS_fault 1 (some .int)
theorem i_TS_fault : Cond.code y_TS_fault c_TS_fault 1 (some .int) ∈ gT := gT_at 320 (by decide +kernel) (by decide +kernel)
abbrev c_TS_cell : ByteArray := prog_1_method_12_code
def y_TS_cell : MethodName := ⟨"TripleStore", "cell", "(II)J"⟩
abbrev w_TS_cell : List Cond := wsM y_TS_cell c_TS_cell 5 (some .long)
theorem i_TS_cell : Cond.code y_TS_cell c_TS_cell 5 (some .long) ∈ gT := gT_at 899 (by decide +kernel) (by decide +kernel)
abbrev c_TS_count : ByteArray := prog_1_method_13_code
def y_TS_count : MethodName := ⟨"TripleStore", "count", "(I)I"⟩
abbrev w_TS_count : List Cond := wsM y_TS_count c_TS_count 2 (some .int)
theorem i_TS_count : Cond.code y_TS_count c_TS_count 2 (some .int) ∈ gT := gT_at 951 (by decide +kernel) (by decide +kernel)
abbrev c_TS_areTextCodes : ByteArray := prog_1_method_14_code
def y_TS_areTextCodes : MethodName := ⟨"TripleStore", "areTextCodes", "(JI)Z"⟩
abbrev w_TS_areTextCodes : List Cond := wsM y_TS_areTextCodes c_TS_areTextCodes 5 (some .boolean)
theorem i_TS_areTextCodes : Cond.code y_TS_areTextCodes c_TS_areTextCodes 5 (some .boolean) ∈ gT := gT_at 567 (by decide +kernel) (by decide +kernel)
abbrev c_TS_byteAt : ByteArray := prog_1_method_15_code
def y_TS_byteAt : MethodName := ⟨"TripleStore", "byteAt", "(JI)I"⟩
abbrev w_TS_byteAt : List Cond := wsM y_TS_byteAt c_TS_byteAt 3 (some .int)
theorem i_TS_byteAt : Cond.code y_TS_byteAt c_TS_byteAt 3 (some .int) ∈ gT := gT_at 570 (by decide +kernel) (by decide +kernel)
abbrev c_Mo_init : ByteArray := prog_13_method_1_code
def y_Mo_init : MethodName := ⟨"TripleStoreModel", "<init>", "()V"⟩
abbrev w_Mo_init : List Cond := wsM y_Mo_init c_Mo_init 1 none
theorem i_Mo_init : Cond.code y_Mo_init c_Mo_init 1 none ∈ gT := gT_at 973 (by decide +kernel) (by decide +kernel)
abbrev c_Mo_thrown : ByteArray := prog_13_method_2_code
def y_Mo_thrown : MethodName := ⟨"TripleStoreModel", "thrown", "()I"⟩
abbrev w_Mo_thrown : List Cond := wsM y_Mo_thrown c_Mo_thrown 1 (some .int)
theorem i_Mo_thrown : Cond.code y_Mo_thrown c_Mo_thrown 1 (some .int) ∈ gT := gT_at 1156 (by decide +kernel) (by decide +kernel)
abbrev c_Mo_in : ByteArray := prog_13_method_3_code
def y_Mo_in : MethodName := ⟨"TripleStoreModel", "in", "(III)Z"⟩
abbrev w_Mo_in : List Cond := wsM y_Mo_in c_Mo_in 3 (some .boolean)
theorem i_Mo_in : Cond.code y_Mo_in c_Mo_in 3 (some .boolean) ∈ gT := gT_at 1170 (by decide +kernel) (by decide +kernel)
abbrev c_Mo_good : ByteArray := prog_13_method_4_code
def y_Mo_good : MethodName := ⟨"TripleStoreModel", "good", "(ZI)Z"⟩
abbrev w_Mo_good : List Cond := wsM y_Mo_good c_Mo_good 3 (some .boolean)
theorem i_Mo_good : Cond.code y_Mo_good c_Mo_good 3 (some .boolean) ∈ gT := gT_at 1179 (by decide +kernel) (by decide +kernel)
abbrev c_Mo_isWord : ByteArray := prog_13_method_5_code
def y_Mo_isWord : MethodName := ⟨"TripleStoreModel", "isWord", "(J)Z"⟩
abbrev w_Mo_isWord : List Cond := wsM y_Mo_isWord c_Mo_isWord 5 (some .boolean)
theorem i_Mo_isWord : Cond.code y_Mo_isWord c_Mo_isWord 5 (some .boolean) ∈ gT := gT_at 1167 (by decide +kernel) (by decide +kernel)
abbrev c_Mo_isNumber : ByteArray := prog_13_method_6_code
def y_Mo_isNumber : MethodName := ⟨"TripleStoreModel", "isNumber", "(J)Z"⟩
abbrev w_Mo_isNumber : List Cond := wsM y_Mo_isNumber c_Mo_isNumber 2 (some .boolean)
theorem i_Mo_isNumber : Cond.code y_Mo_isNumber c_Mo_isNumber 2 (some .boolean) ∈ gT := gT_at 1173 (by decide +kernel) (by decide +kernel)
abbrev c_Mo_compare : ByteArray := prog_13_method_7_code
def y_Mo_compare : MethodName := ⟨"TripleStoreModel", "compare", "(JJ)I"⟩
abbrev w_Mo_compare : List Cond := wsM y_Mo_compare c_Mo_compare 8 (some .int)
theorem i_Mo_compare : Cond.code y_Mo_compare c_Mo_compare 8 (some .int) ∈ gT := gT_at 1361 (by decide +kernel) (by decide +kernel)
abbrev c_Mo_find : ByteArray := prog_13_method_8_code
def y_Mo_find : MethodName := ⟨"TripleStoreModel", "find", "(JJJ)I"⟩
abbrev w_Mo_find : List Cond := wsM y_Mo_find c_Mo_find 8 (some .int)
theorem i_Mo_find : Cond.code y_Mo_find c_Mo_find 8 (some .int) ∈ gT := gT_at 1187 (by decide +kernel) (by decide +kernel)
abbrev c_Mo_apply : ByteArray := prog_13_method_9_code
def y_Mo_apply : MethodName := ⟨"TripleStoreModel", "apply", "(ZJJJ)V"⟩
abbrev w_Mo_apply : List Cond := wsM y_Mo_apply c_Mo_apply 10 none
theorem i_Mo_apply : Cond.code y_Mo_apply c_Mo_apply 10 none ∈ gT := gT_at 1191 (by decide +kernel) (by decide +kernel)
abbrev c_Mo_does : ByteArray := prog_13_method_10_code
def y_Mo_does : MethodName := ⟨"TripleStoreModel", "does", "(ZJJJ)I"⟩
abbrev w_Mo_does : List Cond := wsM y_Mo_does c_Mo_does 9 (some .int)
theorem i_Mo_does : Cond.code y_Mo_does c_Mo_does 9 (some .int) ∈ gT := gT_at 1183 (by decide +kernel) (by decide +kernel)
abbrev c_Mo_close : ByteArray := prog_13_method_11_code
def y_Mo_close : MethodName := ⟨"TripleStoreModel", "close", "()V"⟩
abbrev w_Mo_close : List Cond := wsM y_Mo_close c_Mo_close 1 none
theorem i_Mo_close : Cond.code y_Mo_close c_Mo_close 1 none ∈ gT := gT_at 1195 (by decide +kernel) (by decide +kernel)
abbrev c_Mo_isTriple : ByteArray := prog_13_method_12_code
def y_Mo_isTriple : MethodName := ⟨"TripleStoreModel", "isTriple", "(JJJ)Z"⟩
abbrev w_Mo_isTriple : List Cond := wsM y_Mo_isTriple c_Mo_isTriple 7 (some .boolean)
theorem i_Mo_isTriple : Cond.code y_Mo_isTriple c_Mo_isTriple 7 (some .boolean) ∈ gT := gT_at 1164 (by decide +kernel) (by decide +kernel)
abbrev c_Mo_add : ByteArray := prog_13_method_13_code
def y_Mo_add : MethodName := ⟨"TripleStoreModel", "add", "(JJJ)I"⟩
abbrev w_Mo_add : List Cond := wsM y_Mo_add c_Mo_add 7 (some .int)
theorem i_Mo_add : Cond.code y_Mo_add c_Mo_add 7 (some .int) ∈ gT := gT_at 1160 (by decide +kernel) (by decide +kernel)
abbrev c_Mo_remove : ByteArray := prog_13_method_14_code
def y_Mo_remove : MethodName := ⟨"TripleStoreModel", "remove", "(JJJ)I"⟩
abbrev w_Mo_remove : List Cond := wsM y_Mo_remove c_Mo_remove 7 (some .int)
theorem i_Mo_remove : Cond.code y_Mo_remove c_Mo_remove 7 (some .int) ∈ gT := gT_at 1199 (by decide +kernel) (by decide +kernel)
abbrev c_Mo_begin : ByteArray := prog_13_method_15_code
def y_Mo_begin : MethodName := ⟨"TripleStoreModel", "begin", "()I"⟩
abbrev w_Mo_begin : List Cond := wsM y_Mo_begin c_Mo_begin 1 (some .int)
theorem i_Mo_begin : Cond.code y_Mo_begin c_Mo_begin 1 (some .int) ∈ gT := gT_at 1203 (by decide +kernel) (by decide +kernel)
abbrev c_Mo_commit : ByteArray := prog_13_method_16_code
def y_Mo_commit : MethodName := ⟨"TripleStoreModel", "commit", "()I"⟩
abbrev w_Mo_commit : List Cond := wsM y_Mo_commit c_Mo_commit 1 (some .int)
theorem i_Mo_commit : Cond.code y_Mo_commit c_Mo_commit 1 (some .int) ∈ gT := gT_at 1207 (by decide +kernel) (by decide +kernel)
abbrev c_Mo_undo : ByteArray := prog_13_method_17_code
def y_Mo_undo : MethodName := ⟨"TripleStoreModel", "undo", "(I)V"⟩
abbrev w_Mo_undo : List Cond := wsM y_Mo_undo c_Mo_undo 2 none
theorem i_Mo_undo : Cond.code y_Mo_undo c_Mo_undo 2 none ∈ gT := gT_at 1215 (by decide +kernel) (by decide +kernel)
abbrev c_Mo_rollback : ByteArray := prog_13_method_18_code
def y_Mo_rollback : MethodName := ⟨"TripleStoreModel", "rollback", "()I"⟩
abbrev w_Mo_rollback : List Cond := wsM y_Mo_rollback c_Mo_rollback 2 (some .int)
theorem i_Mo_rollback : Cond.code y_Mo_rollback c_Mo_rollback 2 (some .int) ∈ gT := gT_at 1211 (by decide +kernel) (by decide +kernel)
abbrev c_Mo_settle : ByteArray := prog_13_method_19_code
def y_Mo_settle : MethodName := ⟨"TripleStoreModel", "settle", "()V"⟩
abbrev w_Mo_settle : List Cond := wsM y_Mo_settle c_Mo_settle 5 none
theorem i_Mo_settle : Cond.code y_Mo_settle c_Mo_settle 5 none ∈ gT := gT_at 1223 (by decide +kernel) (by decide +kernel)
abbrev c_Mo_sync : ByteArray := prog_13_method_20_code
def y_Mo_sync : MethodName := ⟨"TripleStoreModel", "sync", "()I"⟩
abbrev w_Mo_sync : List Cond := wsM y_Mo_sync c_Mo_sync 2 (some .int)
theorem i_Mo_sync : Cond.code y_Mo_sync c_Mo_sync 2 (some .int) ∈ gT := gT_at 1219 (by decide +kernel) (by decide +kernel)
abbrev c_Mo_crash : ByteArray := prog_13_method_21_code
def y_Mo_crash : MethodName := ⟨"TripleStoreModel", "crash", "(I)I"⟩
abbrev w_Mo_crash : List Cond := wsM y_Mo_crash c_Mo_crash 4 (some .int)
theorem i_Mo_crash : Cond.code y_Mo_crash c_Mo_crash 4 (some .int) ∈ gT := gT_at 1227 (by decide +kernel) (by decide +kernel)
abbrev c_Mo_append : ByteArray := prog_13_method_22_code
def y_Mo_append : MethodName := ⟨"TripleStoreModel", "append", "(JI)I"⟩
abbrev w_Mo_append : List Cond := wsM y_Mo_append c_Mo_append 5 (some .int)
theorem i_Mo_append : Cond.code y_Mo_append c_Mo_append 5 (some .int) ∈ gT := gT_at 1231 (by decide +kernel) (by decide +kernel)
abbrev c_Mo_isLetter : ByteArray := prog_13_method_23_code
def y_Mo_isLetter : MethodName := ⟨"TripleStoreModel", "isLetter", "(I)Z"⟩
abbrev w_Mo_isLetter : List Cond := wsM y_Mo_isLetter c_Mo_isLetter 1 (some .boolean)
theorem i_Mo_isLetter : Cond.code y_Mo_isLetter c_Mo_isLetter 1 (some .boolean) ∈ gT := gT_at 1242 (by decide +kernel) (by decide +kernel)
abbrev c_Mo_isFigure : ByteArray := prog_13_method_24_code
def y_Mo_isFigure : MethodName := ⟨"TripleStoreModel", "isFigure", "(I)Z"⟩
abbrev w_Mo_isFigure : List Cond := wsM y_Mo_isFigure c_Mo_isFigure 1 (some .boolean)
theorem i_Mo_isFigure : Cond.code y_Mo_isFigure c_Mo_isFigure 1 (some .boolean) ∈ gT := gT_at 1249 (by decide +kernel) (by decide +kernel)
abbrev c_Mo_letters : ByteArray := prog_13_method_25_code
def y_Mo_letters : MethodName := ⟨"TripleStoreModel", "letters", "(I)I"⟩
abbrev w_Mo_letters : List Cond := wsM y_Mo_letters c_Mo_letters 3 (some .int)
theorem i_Mo_letters : Cond.code y_Mo_letters c_Mo_letters 3 (some .int) ∈ gT := gT_at 1246 (by decide +kernel) (by decide +kernel)
abbrev c_Mo_next : ByteArray := prog_13_method_26_code
def y_Mo_next : MethodName := ⟨"TripleStoreModel", "next", "()V"⟩
abbrev w_Mo_next : List Cond := wsM y_Mo_next c_Mo_next 3 none
theorem i_Mo_next : Cond.code y_Mo_next c_Mo_next 3 none ∈ gT := gT_at 1239 (by decide +kernel) (by decide +kernel)
abbrev c_Mo_isKey : ByteArray := prog_13_method_27_code
def y_Mo_isKey : MethodName := ⟨"TripleStoreModel", "isKey", "(I)Z"⟩
abbrev w_Mo_isKey : List Cond := wsM y_Mo_isKey c_Mo_isKey 4 (some .boolean)
theorem i_Mo_isKey : Cond.code y_Mo_isKey c_Mo_isKey 4 (some .boolean) ∈ gT := gT_at 1259 (by decide +kernel) (by decide +kernel)
abbrev c_Mo_isTerm : ByteArray := prog_13_method_28_code
def y_Mo_isTerm : MethodName := ⟨"TripleStoreModel", "isTerm", "()Z"⟩
abbrev w_Mo_isTerm : List Cond := wsM y_Mo_isTerm c_Mo_isTerm 3 (some .boolean)
theorem i_Mo_isTerm : Cond.code y_Mo_isTerm c_Mo_isTerm 3 (some .boolean) ∈ gT := gT_at 1306 (by decide +kernel) (by decide +kernel)
abbrev c_Mo_isSign : ByteArray := prog_13_method_29_code
def y_Mo_isSign : MethodName := ⟨"TripleStoreModel", "isSign", "(I)Z"⟩
abbrev w_Mo_isSign : List Cond := wsM y_Mo_isSign c_Mo_isSign 2 (some .boolean)
theorem i_Mo_isSign : Cond.code y_Mo_isSign c_Mo_isSign 2 (some .boolean) ∈ gT := gT_at 1294 (by decide +kernel) (by decide +kernel)
abbrev c_Mo_stop : ByteArray := prog_13_method_30_code
def y_Mo_stop : MethodName := ⟨"TripleStoreModel", "stop", "()V"⟩
abbrev w_Mo_stop : List Cond := wsM y_Mo_stop c_Mo_stop 1 none
theorem i_Mo_stop : Cond.code y_Mo_stop c_Mo_stop 1 none ∈ gT := gT_at 1278 (by decide +kernel) (by decide +kernel)
abbrev c_Mo_goOn : ByteArray := prog_13_method_31_code
def y_Mo_goOn : MethodName := ⟨"TripleStoreModel", "goOn", "(Z)Z"⟩
abbrev w_Mo_goOn : List Cond := wsM y_Mo_goOn c_Mo_goOn 2 (some .boolean)
theorem i_Mo_goOn : Cond.code y_Mo_goOn c_Mo_goOn 2 (some .boolean) ∈ gT := gT_at 1274 (by decide +kernel) (by decide +kernel)
abbrev c_Mo_readVariable : ByteArray := prog_13_method_32_code
def y_Mo_readVariable : MethodName := ⟨"TripleStoreModel", "readVariable", "()I"⟩
abbrev w_Mo_readVariable : List Cond := wsM y_Mo_readVariable c_Mo_readVariable 3 (some .int)
theorem i_Mo_readVariable : Cond.code y_Mo_readVariable c_Mo_readVariable 3 (some .int) ∈ gT := gT_at 1282 (by decide +kernel) (by decide +kernel)
abbrev c_Mo_readSide : ByteArray := prog_13_method_33_code
def y_Mo_readSide : MethodName := ⟨"TripleStoreModel", "readSide", "(I)V"⟩
abbrev w_Mo_readSide : List Cond := wsM y_Mo_readSide c_Mo_readSide 3 none
theorem i_Mo_readSide : Cond.code y_Mo_readSide c_Mo_readSide 3 none ∈ gT := gT_at 1314 (by decide +kernel) (by decide +kernel)
abbrev c_Mo_emit : ByteArray := prog_13_method_34_code
def y_Mo_emit : MethodName := ⟨"TripleStoreModel", "emit", "(II)V"⟩
abbrev w_Mo_emit : List Cond := wsM y_Mo_emit c_Mo_emit 3 none
theorem i_Mo_emit : Cond.code y_Mo_emit c_Mo_emit 3 none ∈ gT := gT_at 1298 (by decide +kernel) (by decide +kernel)
abbrev c_Mo_readTest : ByteArray := prog_13_method_35_code
def y_Mo_readTest : MethodName := ⟨"TripleStoreModel", "readTest", "()V"⟩
abbrev w_Mo_readTest : List Cond := wsM y_Mo_readTest c_Mo_readTest 3 none
theorem i_Mo_readTest : Cond.code y_Mo_readTest c_Mo_readTest 3 none ∈ gT := gT_at 1310 (by decide +kernel) (by decide +kernel)
abbrev c_Mo_readElement : ByteArray := prog_13_method_36_code
def y_Mo_readElement : MethodName := ⟨"TripleStoreModel", "readElement", "()V"⟩
abbrev w_Mo_readElement : List Cond := wsM y_Mo_readElement c_Mo_readElement 4 none
theorem i_Mo_readElement : Cond.code y_Mo_readElement c_Mo_readElement 4 none ∈ gT := gT_at 1302 (by decide +kernel) (by decide +kernel)
abbrev c_Mo_readOn : ByteArray := prog_13_method_37_code
def y_Mo_readOn : MethodName := ⟨"TripleStoreModel", "readOn", "()V"⟩
abbrev w_Mo_readOn : List Cond := wsM y_Mo_readOn c_Mo_readOn 2 none
theorem i_Mo_readOn : Cond.code y_Mo_readOn c_Mo_readOn 2 none ∈ gT := gT_at 1318 (by decide +kernel) (by decide +kernel)
abbrev c_Mo_readStart : ByteArray := prog_13_method_38_code
def y_Mo_readStart : MethodName := ⟨"TripleStoreModel", "readStart", "(I)V"⟩
abbrev w_Mo_readStart : List Cond := wsM y_Mo_readStart c_Mo_readStart 3 none
theorem i_Mo_readStart : Cond.code y_Mo_readStart c_Mo_readStart 3 none ∈ gT := gT_at 1290 (by decide +kernel) (by decide +kernel)
abbrev c_Mo_readClose : ByteArray := prog_13_method_39_code
def y_Mo_readClose : MethodName := ⟨"TripleStoreModel", "readClose", "()V"⟩
abbrev w_Mo_readClose : List Cond := wsM y_Mo_readClose c_Mo_readClose 2 none
theorem i_Mo_readClose : Cond.code y_Mo_readClose c_Mo_readClose 2 none ∈ gT := gT_at 1322 (by decide +kernel) (by decide +kernel)
abbrev c_Mo_readGroups : ByteArray := prog_13_method_40_code
def y_Mo_readGroups : MethodName := ⟨"TripleStoreModel", "readGroups", "()V"⟩
abbrev w_Mo_readGroups : List Cond := wsM y_Mo_readGroups c_Mo_readGroups 1 none
theorem i_Mo_readGroups : Cond.code y_Mo_readGroups c_Mo_readGroups 1 none ∈ gT := gT_at 1286 (by decide +kernel) (by decide +kernel)
abbrev c_Mo_readQuery : ByteArray := prog_13_method_41_code
def y_Mo_readQuery : MethodName := ⟨"TripleStoreModel", "readQuery", "()V"⟩
abbrev w_Mo_readQuery : List Cond := wsM y_Mo_readQuery c_Mo_readQuery 2 none
theorem i_Mo_readQuery : Cond.code y_Mo_readQuery c_Mo_readQuery 2 none ∈ gT := gT_at 1255 (by decide +kernel) (by decide +kernel)
abbrev c_Mo_addTo : ByteArray := prog_13_method_42_code
def y_Mo_addTo : MethodName := ⟨"TripleStoreModel", "addTo", "(III)V"⟩
abbrev w_Mo_addTo : List Cond := wsM y_Mo_addTo c_Mo_addTo 6 none
theorem i_Mo_addTo : Cond.code y_Mo_addTo c_Mo_addTo 6 none ∈ gT := gT_at 1346 (by decide +kernel) (by decide +kernel)
abbrev c_Mo_copy : ByteArray := prog_13_method_43_code
def y_Mo_copy : MethodName := ⟨"TripleStoreModel", "copy", "(II)V"⟩
abbrev w_Mo_copy : List Cond := wsM y_Mo_copy c_Mo_copy 4 none
theorem i_Mo_copy : Cond.code y_Mo_copy c_Mo_copy 4 none ∈ gT := gT_at 1350 (by decide +kernel) (by decide +kernel)
abbrev c_Mo_compatible : ByteArray := prog_13_method_44_code
def y_Mo_compatible : MethodName := ⟨"TripleStoreModel", "compatible", "(II)Z"⟩
abbrev w_Mo_compatible : List Cond := wsM y_Mo_compatible c_Mo_compatible 4 (some .boolean)
theorem i_Mo_compatible : Cond.code y_Mo_compatible c_Mo_compatible 4 (some .boolean) ∈ gT := gT_at 1338 (by decide +kernel) (by decide +kernel)
abbrev c_Mo_join : ByteArray := prog_13_method_45_code
def y_Mo_join : MethodName := ⟨"TripleStoreModel", "join", "(IIII)V"⟩
abbrev w_Mo_join : List Cond := wsM y_Mo_join c_Mo_join 8 none
theorem i_Mo_join : Cond.code y_Mo_join c_Mo_join 8 none ∈ gT := gT_at 1342 (by decide +kernel) (by decide +kernel)
abbrev c_Mo_combine : ByteArray := prog_13_method_46_code
def y_Mo_combine : MethodName := ⟨"TripleStoreModel", "combine", "(I)V"⟩
abbrev w_Mo_combine : List Cond := wsM y_Mo_combine c_Mo_combine 8 none
theorem i_Mo_combine : Cond.code y_Mo_combine c_Mo_combine 8 none ∈ gT := gT_at 1334 (by decide +kernel) (by decide +kernel)
abbrev c_Mo_match : ByteArray := prog_13_method_47_code
def y_Mo_match : MethodName := ⟨"TripleStoreModel", "match", "(I)V"⟩
abbrev w_Mo_match : List Cond := wsM y_Mo_match c_Mo_match 10 none
theorem i_Mo_match : Cond.code y_Mo_match c_Mo_match 10 none ∈ gT := gT_at 1330 (by decide +kernel) (by decide +kernel)
abbrev c_Mo_holds : ByteArray := prog_13_method_48_code
def y_Mo_holds : MethodName := ⟨"TripleStoreModel", "holds", "(II)Z"⟩
abbrev w_Mo_holds : List Cond := wsM y_Mo_holds c_Mo_holds 7 (some .boolean)
theorem i_Mo_holds : Cond.code y_Mo_holds c_Mo_holds 7 (some .boolean) ∈ gT := gT_at 1358 (by decide +kernel) (by decide +kernel)
abbrev c_Mo_filter : ByteArray := prog_13_method_49_code
def y_Mo_filter : MethodName := ⟨"TripleStoreModel", "filter", "(I)V"⟩
abbrev w_Mo_filter : List Cond := wsM y_Mo_filter c_Mo_filter 6 none
theorem i_Mo_filter : Cond.code y_Mo_filter c_Mo_filter 6 none ∈ gT := gT_at 1354 (by decide +kernel) (by decide +kernel)
abbrev c_Mo_work : ByteArray := prog_13_method_50_code
def y_Mo_work : MethodName := ⟨"TripleStoreModel", "work", "(II)V"⟩
abbrev w_Mo_work : List Cond := wsM y_Mo_work c_Mo_work 4 none
theorem i_Mo_work : Cond.code y_Mo_work c_Mo_work 4 none ∈ gT := gT_at 1326 (by decide +kernel) (by decide +kernel)
abbrev c_Mo_by : ByteArray := prog_13_method_51_code
def y_Mo_by : MethodName := ⟨"TripleStoreModel", "by", "(III)I"⟩
abbrev w_Mo_by : List Cond := wsM y_Mo_by c_Mo_by 6 (some .int)
theorem i_Mo_by : Cond.code y_Mo_by c_Mo_by 6 (some .int) ∈ gT := gT_at 1373 (by decide +kernel) (by decide +kernel)
abbrev c_Mo_byTerms : ByteArray := prog_13_method_52_code
def y_Mo_byTerms : MethodName := ⟨"TripleStoreModel", "byTerms", "(II)I"⟩
abbrev w_Mo_byTerms : List Cond := wsM y_Mo_byTerms c_Mo_byTerms 5 (some .int)
theorem i_Mo_byTerms : Cond.code y_Mo_byTerms c_Mo_byTerms 5 (some .int) ∈ gT := gT_at 1377 (by decide +kernel) (by decide +kernel)
abbrev c_Mo_before : ByteArray := prog_13_method_53_code
def y_Mo_before : MethodName := ⟨"TripleStoreModel", "before", "(II)Z"⟩
abbrev w_Mo_before : List Cond := wsM y_Mo_before c_Mo_before 4 (some .boolean)
theorem i_Mo_before : Cond.code y_Mo_before c_Mo_before 4 (some .boolean) ∈ gT := gT_at 1369 (by decide +kernel) (by decide +kernel)
abbrev c_Mo_makeRows : ByteArray := prog_13_method_54_code
def y_Mo_makeRows : MethodName := ⟨"TripleStoreModel", "makeRows", "()V"⟩
abbrev w_Mo_makeRows : List Cond := wsM y_Mo_makeRows c_Mo_makeRows 5 none
theorem i_Mo_makeRows : Cond.code y_Mo_makeRows c_Mo_makeRows 5 none ∈ gT := gT_at 1365 (by decide +kernel) (by decide +kernel)
abbrev c_Mo_ask : ByteArray := prog_13_method_55_code
def y_Mo_ask : MethodName := ⟨"TripleStoreModel", "ask", "()I"⟩
abbrev w_Mo_ask : List Cond := wsM y_Mo_ask c_Mo_ask 2 (some .int)
theorem i_Mo_ask : Cond.code y_Mo_ask c_Mo_ask 2 (some .int) ∈ gT := gT_at 1235 (by decide +kernel) (by decide +kernel)
abbrev c_Mo_fault : ByteArray := prog_13_method_56_code
def y_Mo_fault : MethodName := ⟨"TripleStoreModel", "fault", "()I"⟩
abbrev w_Mo_fault : List Cond := wsM y_Mo_fault c_Mo_fault 1 (some .int)
theorem i_Mo_fault : Cond.code y_Mo_fault c_Mo_fault 1 (some .int) ∈ gT := gT_at 1381 (by decide +kernel) (by decide +kernel)
abbrev c_Mo_cell : ByteArray := prog_13_method_57_code
def y_Mo_cell : MethodName := ⟨"TripleStoreModel", "cell", "(II)J"⟩
abbrev w_Mo_cell : List Cond := wsM y_Mo_cell c_Mo_cell 4 (some .long)
theorem i_Mo_cell : Cond.code y_Mo_cell c_Mo_cell 4 (some .long) ∈ gT := gT_at 1385 (by decide +kernel) (by decide +kernel)
abbrev c_Mo_count : ByteArray := prog_13_method_58_code
def y_Mo_count : MethodName := ⟨"TripleStoreModel", "count", "(I)I"⟩
abbrev w_Mo_count : List Cond := wsM y_Mo_count c_Mo_count 2 (some .int)
theorem i_Mo_count : Cond.code y_Mo_count c_Mo_count 2 (some .int) ∈ gT := gT_at 1389 (by decide +kernel) (by decide +kernel)
abbrev c_El_init : ByteArray := prog_2_method_1_code
def y_El_init : MethodName := ⟨"TripleStore$Element", "<init>", "()V"⟩
abbrev w_El_init : List Cond := wsM y_El_init c_El_init 1 none
theorem i_El_init : Cond.code y_El_init c_El_init 1 none ∈ gT := gT_at 118 (by decide +kernel) (by decide +kernel)
abbrev c_Pa_init : ByteArray := prog_3_method_1_code
def y_Pa_init : MethodName := ⟨"TripleStore$Parser", "<init>", "(LTripleStore$Tokens;LTripleStore$Query;)V"⟩
abbrev w_Pa_init : List Cond := wsM y_Pa_init c_Pa_init 3 none
theorem i_Pa_init : Cond.code y_Pa_init c_Pa_init 3 none ∈ gT := gT_at 214 (by decide +kernel) (by decide +kernel)
abbrev c_Pa_readQuery : ByteArray := prog_3_method_2_code
def y_Pa_readQuery : MethodName := ⟨"TripleStore$Parser", "readQuery", "()Z"⟩
abbrev w_Pa_readQuery : List Cond := wsM y_Pa_readQuery c_Pa_readQuery 1 (some .boolean)
theorem i_Pa_readQuery : Cond.code y_Pa_readQuery c_Pa_readQuery 1 (some .boolean) ∈ gT := gT_at 634 (by decide +kernel) (by decide +kernel)
abbrev c_Pa_readSelected : ByteArray := prog_3_method_3_code
def y_Pa_readSelected : MethodName := ⟨"TripleStore$Parser", "readSelected", "()Z"⟩
abbrev w_Pa_readSelected : List Cond := wsM y_Pa_readSelected c_Pa_readSelected 2 (some .boolean)
theorem i_Pa_readSelected : Cond.code y_Pa_readSelected c_Pa_readSelected 2 (some .boolean) ∈ gT := gT_at 651 (by decide +kernel) (by decide +kernel)
abbrev c_Pa_readOrder : ByteArray := prog_3_method_4_code
def y_Pa_readOrder : MethodName := ⟨"TripleStore$Parser", "readOrder", "()Z"⟩
abbrev w_Pa_readOrder : List Cond := wsM y_Pa_readOrder c_Pa_readOrder 1 (some .boolean)
theorem i_Pa_readOrder : Cond.code y_Pa_readOrder c_Pa_readOrder 1 (some .boolean) ∈ gT := gT_at 733 (by decide +kernel) (by decide +kernel)
abbrev c_Pa_readLimit : ByteArray := prog_3_method_5_code
def y_Pa_readLimit : MethodName := ⟨"TripleStore$Parser", "readLimit", "()Z"⟩
abbrev w_Pa_readLimit : List Cond := wsM y_Pa_readLimit c_Pa_readLimit 3 (some .boolean)
theorem i_Pa_readLimit : Cond.code y_Pa_readLimit c_Pa_readLimit 3 (some .boolean) ∈ gT := gT_at 739 (by decide +kernel) (by decide +kernel)
abbrev c_Pa_readGroup : ByteArray := prog_3_method_6_code
def y_Pa_readGroup : MethodName := ⟨"TripleStore$Parser", "readGroup", "(II)Z"⟩
abbrev w_Pa_readGroup : List Cond := wsM y_Pa_readGroup c_Pa_readGroup 5 (some .boolean)
theorem i_Pa_readGroup : Cond.code y_Pa_readGroup c_Pa_readGroup 5 (some .boolean) ∈ gT := gT_at 674 (by decide +kernel) (by decide +kernel)
abbrev c_Pa_readElement : ByteArray := prog_3_method_7_code
def y_Pa_readElement : MethodName := ⟨"TripleStore$Parser", "readElement", "(II)Z"⟩
abbrev w_Pa_readElement : List Cond := wsM y_Pa_readElement c_Pa_readElement 5 (some .boolean)
theorem i_Pa_readElement : Cond.code y_Pa_readElement c_Pa_readElement 5 (some .boolean) ∈ gT := gT_at 691 (by decide +kernel) (by decide +kernel)
abbrev c_Pa_readUnion : ByteArray := prog_3_method_8_code
def y_Pa_readUnion : MethodName := ⟨"TripleStore$Parser", "readUnion", "(II)Z"⟩
abbrev w_Pa_readUnion : List Cond := wsM y_Pa_readUnion c_Pa_readUnion 4 (some .boolean)
theorem i_Pa_readUnion : Cond.code y_Pa_readUnion c_Pa_readUnion 4 (some .boolean) ∈ gT := gT_at 724 (by decide +kernel) (by decide +kernel)
abbrev c_Pa_readPattern : ByteArray := prog_3_method_9_code
def y_Pa_readPattern : MethodName := ⟨"TripleStore$Parser", "readPattern", "(LTripleStore$Element;)Z"⟩
abbrev w_Pa_readPattern : List Cond := wsM y_Pa_readPattern c_Pa_readPattern 2 (some .boolean)
theorem i_Pa_readPattern : Cond.code y_Pa_readPattern c_Pa_readPattern 2 (some .boolean) ∈ gT := gT_at 729 (by decide +kernel) (by decide +kernel)
abbrev c_Pa_readNots : ByteArray := prog_3_method_10_code
def y_Pa_readNots : MethodName := ⟨"TripleStore$Parser", "readNots", "(LTripleStore$Element;)V"⟩
abbrev w_Pa_readNots : List Cond := wsM y_Pa_readNots c_Pa_readNots 3 none
theorem i_Pa_readNots : Cond.code y_Pa_readNots c_Pa_readNots 3 none ∈ gT := gT_at 700 (by decide +kernel) (by decide +kernel)
abbrev c_Pa_readBound : ByteArray := prog_3_method_11_code
def y_Pa_readBound : MethodName := ⟨"TripleStore$Parser", "readBound", "(LTripleStore$Element;)Z"⟩
abbrev w_Pa_readBound : List Cond := wsM y_Pa_readBound c_Pa_readBound 3 (some .boolean)
theorem i_Pa_readBound : Cond.code y_Pa_readBound c_Pa_readBound 3 (some .boolean) ∈ gT := gT_at 706 (by decide +kernel) (by decide +kernel)
abbrev c_Pa_readComparison : ByteArray := prog_3_method_12_code
def y_Pa_readComparison : MethodName := ⟨"TripleStore$Parser", "readComparison", "(LTripleStore$Element;)Z"⟩
abbrev w_Pa_readComparison : List Cond := wsM y_Pa_readComparison c_Pa_readComparison 3 (some .boolean)
theorem i_Pa_readComparison : Cond.code y_Pa_readComparison c_Pa_readComparison 3 (some .boolean) ∈ gT := gT_at 710 (by decide +kernel) (by decide +kernel)
abbrev c_Pa_isAtComparison : ByteArray := prog_3_method_13_code
def y_Pa_isAtComparison : MethodName := ⟨"TripleStore$Parser", "isAtComparison", "()Z"⟩
abbrev w_Pa_isAtComparison : List Cond := wsM y_Pa_isAtComparison c_Pa_isAtComparison 1 (some .boolean)
theorem i_Pa_isAtComparison : Cond.code y_Pa_isAtComparison c_Pa_isAtComparison 1 (some .boolean) ∈ gT := gT_at 718 (by decide +kernel) (by decide +kernel)
abbrev c_Pa_readSide : ByteArray := prog_3_method_14_code
def y_Pa_readSide : MethodName := ⟨"TripleStore$Parser", "readSide", "()Z"⟩
abbrev w_Pa_readSide : List Cond := wsM y_Pa_readSide c_Pa_readSide 1 (some .boolean)
theorem i_Pa_readSide : Cond.code y_Pa_readSide c_Pa_readSide 1 (some .boolean) ∈ gT := gT_at 714 (by decide +kernel) (by decide +kernel)
abbrev c_Pa_readVariable : ByteArray := prog_3_method_15_code
def y_Pa_readVariable : MethodName := ⟨"TripleStore$Parser", "readVariable", "()Z"⟩
abbrev w_Pa_readVariable : List Cond := wsM y_Pa_readVariable c_Pa_readVariable 2 (some .boolean)
theorem i_Pa_readVariable : Cond.code y_Pa_readVariable c_Pa_readVariable 2 (some .boolean) ∈ gT := gT_at 660 (by decide +kernel) (by decide +kernel)
abbrev c_Qu_init : ByteArray := prog_4_method_1_code
def y_Qu_init : MethodName := ⟨"TripleStore$Query", "<init>", "()V"⟩
abbrev w_Qu_init : List Cond := wsM y_Qu_init c_Qu_init 2 none
theorem i_Qu_init : Cond.code y_Qu_init c_Qu_init 2 none ∈ gT := gT_at 111 (by decide +kernel) (by decide +kernel)
abbrev c_Qu_clear : ByteArray := prog_4_method_2_code
def y_Qu_clear : MethodName := ⟨"TripleStore$Query", "clear", "()V"⟩
abbrev w_Qu_clear : List Cond := wsM y_Qu_clear c_Qu_clear 1 none
theorem i_Qu_clear : Cond.code y_Qu_clear c_Qu_clear 1 none ∈ gT := gT_at 638 (by decide +kernel) (by decide +kernel)
abbrev c_Qu_variable : ByteArray := prog_4_method_3_code
def y_Qu_variable : MethodName := ⟨"TripleStore$Query", "variable", "(J)I"⟩
abbrev w_Qu_variable : List Cond := wsM y_Qu_variable c_Qu_variable 4 (some .int)
theorem i_Qu_variable : Cond.code y_Qu_variable c_Qu_variable 4 (some .int) ∈ gT := gT_at 668 (by decide +kernel) (by decide +kernel)
abbrev c_Qu_newElement : ByteArray := prog_4_method_4_code
def y_Qu_newElement : MethodName := ⟨"TripleStore$Query", "newElement", "(I)I"⟩
abbrev w_Qu_newElement : List Cond := wsM y_Qu_newElement c_Qu_newElement 2 (some .int)
theorem i_Qu_newElement : Cond.code y_Qu_newElement c_Qu_newElement 2 (some .int) ∈ gT := gT_at 695 (by decide +kernel) (by decide +kernel)
abbrev c_Qu_newGroup : ByteArray := prog_4_method_5_code
def y_Qu_newGroup : MethodName := ⟨"TripleStore$Query", "newGroup", "(I)I"⟩
abbrev w_Qu_newGroup : List Cond := wsM y_Qu_newGroup c_Qu_newGroup 2 (some .int)
theorem i_Qu_newGroup : Cond.code y_Qu_newGroup c_Qu_newGroup 2 (some .int) ∈ gT := gT_at 682 (by decide +kernel) (by decide +kernel)
abbrev c_Ro_init : ByteArray := prog_5_method_1_code
def y_Ro_init : MethodName := ⟨"TripleStore$Rows", "<init>", "()V"⟩
abbrev w_Ro_init : List Cond := wsM y_Ro_init c_Ro_init 1 none
theorem i_Ro_init : Cond.code y_Ro_init c_Ro_init 1 none ∈ gT := gT_at 266 (by decide +kernel) (by decide +kernel)
abbrev c_Ro_columns : ByteArray := prog_5_method_2_code
def y_Ro_columns : MethodName := ⟨"TripleStore$Rows", "columns", "()I"⟩
abbrev w_Ro_columns : List Cond := wsM y_Ro_columns c_Ro_columns 1 (some .int)
theorem i_Ro_columns : Cond.code y_Ro_columns c_Ro_columns 1 (some .int) ∈ gT := gT_at 955 (by decide +kernel) (by decide +kernel)
abbrev c_Ro_size : ByteArray := prog_5_method_3_code
def y_Ro_size : MethodName := ⟨"TripleStore$Rows", "size", "()I"⟩
abbrev w_Ro_size : List Cond := wsM y_Ro_size c_Ro_size 1 (some .int)
theorem i_Ro_size : Cond.code y_Ro_size c_Ro_size 1 (some .int) ∈ gT := gT_at 890 (by decide +kernel) (by decide +kernel)
abbrev c_Ro_hasPlace : ByteArray := prog_5_method_4_code
def y_Ro_hasPlace : MethodName := ⟨"TripleStore$Rows", "hasPlace", "(II)Z"⟩
abbrev w_Ro_hasPlace : List Cond := wsM y_Ro_hasPlace c_Ro_hasPlace 3 (some .boolean)
theorem i_Ro_hasPlace : Cond.code y_Ro_hasPlace c_Ro_hasPlace 3 (some .boolean) ∈ gT := gT_at 903 (by decide +kernel) (by decide +kernel)
abbrev c_Ro_term : ByteArray := prog_5_method_5_code
def y_Ro_term : MethodName := ⟨"TripleStore$Rows", "term", "(II)J"⟩
abbrev w_Ro_term : List Cond := wsM y_Ro_term c_Ro_term 3 (some .long)
theorem i_Ro_term : Cond.code y_Ro_term c_Ro_term 3 (some .long) ∈ gT := gT_at 923 (by decide +kernel) (by decide +kernel)
abbrev c_Ro_clear : ByteArray := prog_5_method_6_code
def y_Ro_clear : MethodName := ⟨"TripleStore$Rows", "clear", "(I)V"⟩
abbrev w_Ro_clear : List Cond := wsM y_Ro_clear c_Ro_clear 2 none
theorem i_Ro_clear : Cond.code y_Ro_clear c_Ro_clear 2 none ∈ gT := gT_at 753 (by decide +kernel) (by decide +kernel)
abbrev c_Ro_fill : ByteArray := prog_5_method_7_code
def y_Ro_fill : MethodName := ⟨"TripleStore$Rows", "fill", "(LTripleStore$Query;LTripleStore$Solutions;)V"⟩
abbrev w_Ro_fill : List Cond := wsM y_Ro_fill c_Ro_fill 4 none
theorem i_Ro_fill : Cond.code y_Ro_fill c_Ro_fill 4 none ∈ gT := gT_at 864 (by decide +kernel) (by decide +kernel)
abbrev c_Ro_takeRow : ByteArray := prog_5_method_8_code
def y_Ro_takeRow : MethodName := ⟨"TripleStore$Rows", "takeRow", "(LTripleStore$Query;LTripleStore$Solutions;I)V"⟩
abbrev w_Ro_takeRow : List Cond := wsM y_Ro_takeRow c_Ro_takeRow 5 none
theorem i_Ro_takeRow : Cond.code y_Ro_takeRow c_Ro_takeRow 5 none ∈ gT := gT_at 878 (by decide +kernel) (by decide +kernel)
abbrev c_Ro_isLastKnown : ByteArray := prog_5_method_9_code
def y_Ro_isLastKnown : MethodName := ⟨"TripleStore$Rows", "isLastKnown", "()Z"⟩
abbrev w_Ro_isLastKnown : List Cond := wsM y_Ro_isLastKnown c_Ro_isLastKnown 2 (some .boolean)
theorem i_Ro_isLastKnown : Cond.code y_Ro_isLastKnown c_Ro_isLastKnown 2 (some .boolean) ∈ gT := gT_at 882 (by decide +kernel) (by decide +kernel)
abbrev c_Ro_isSameRow : ByteArray := prog_5_method_10_code
def y_Ro_isSameRow : MethodName := ⟨"TripleStore$Rows", "isSameRow", "(II)Z"⟩
abbrev w_Ro_isSameRow : List Cond := wsM y_Ro_isSameRow c_Ro_isSameRow 4 (some .boolean)
theorem i_Ro_isSameRow : Cond.code y_Ro_isSameRow c_Ro_isSameRow 4 (some .boolean) ∈ gT := gT_at 886 (by decide +kernel) (by decide +kernel)
abbrev c_Ro_sort : ByteArray := prog_5_method_11_code
def y_Ro_sort : MethodName := ⟨"TripleStore$Rows", "sort", "(LTripleStore$Query;LTripleStore$Solutions;)V"⟩
abbrev w_Ro_sort : List Cond := wsM y_Ro_sort c_Ro_sort 5 none
theorem i_Ro_sort : Cond.code y_Ro_sort c_Ro_sort 5 none ∈ gT := gT_at 868 (by decide +kernel) (by decide +kernel)
abbrev c_Ro_standsBefore : ByteArray := prog_5_method_12_code
def y_Ro_standsBefore : MethodName := ⟨"TripleStore$Rows", "standsBefore", "(LTripleStore$Query;LTripleStore$Solutions;II)Z"⟩
abbrev w_Ro_standsBefore : List Cond := wsM y_Ro_standsBefore c_Ro_standsBefore 10 (some .boolean)
theorem i_Ro_standsBefore : Cond.code y_Ro_standsBefore c_Ro_standsBefore 10 (some .boolean) ∈ gT := gT_at 873 (by decide +kernel) (by decide +kernel)
abbrev c_So_init : ByteArray := prog_6_method_1_code
def y_So_init : MethodName := ⟨"TripleStore$Solutions", "<init>", "()V"⟩
abbrev w_So_init : List Cond := wsM y_So_init c_So_init 1 none
theorem i_So_init : Cond.code y_So_init c_So_init 1 none ∈ gT := gT_at 237 (by decide +kernel) (by decide +kernel)
abbrev c_So_size : ByteArray := prog_6_method_2_code
def y_So_size : MethodName := ⟨"TripleStore$Solutions", "size", "()I"⟩
abbrev w_So_size : List Cond := wsM y_So_size c_So_size 1 (some .int)
theorem i_So_size : Cond.code y_So_size c_So_size 1 (some .int) ∈ gT := gT_at 780 (by decide +kernel) (by decide +kernel)
abbrev c_So_clear : ByteArray := prog_6_method_3_code
def y_So_clear : MethodName := ⟨"TripleStore$Solutions", "clear", "()V"⟩
abbrev w_So_clear : List Cond := wsM y_So_clear c_So_clear 1 none
theorem i_So_clear : Cond.code y_So_clear c_So_clear 1 none ∈ gT := gT_at 765 (by decide +kernel) (by decide +kernel)
abbrev c_So_term : ByteArray := prog_6_method_4_code
def y_So_term : MethodName := ⟨"TripleStore$Solutions", "term", "(II)J"⟩
abbrev w_So_term : List Cond := wsM y_So_term c_So_term 3 (some .long)
theorem i_So_term : Cond.code y_So_term c_So_term 3 (some .long) ∈ gT := gT_at 831 (by decide +kernel) (by decide +kernel)
abbrev c_So_put : ByteArray := prog_6_method_5_code
def y_So_put : MethodName := ⟨"TripleStore$Solutions", "put", "([J)Z"⟩
abbrev w_So_put : List Cond := wsM y_So_put c_So_put 2 (some .boolean)
theorem i_So_put : Cond.code y_So_put c_So_put 2 (some .boolean) ∈ gT := gT_at 769 (by decide +kernel) (by decide +kernel)
abbrev c_So_copy : ByteArray := prog_6_method_6_code
def y_So_copy : MethodName := ⟨"TripleStore$Solutions", "copy", "(I[J)V"⟩
abbrev w_So_copy : List Cond := wsM y_So_copy c_So_copy 3 none
theorem i_So_copy : Cond.code y_So_copy c_So_copy 3 none ∈ gT := gT_at 785 (by decide +kernel) (by decide +kernel)
abbrev c_So_joinInto : ByteArray := prog_6_method_7_code
def y_So_joinInto : MethodName := ⟨"TripleStore$Solutions", "joinInto", "(I[J)Z"⟩
abbrev w_So_joinInto : List Cond := wsM y_So_joinInto c_So_joinInto 6 (some .boolean)
theorem i_So_joinInto : Cond.code y_So_joinInto c_So_joinInto 6 (some .boolean) ∈ gT := gT_at 835 (by decide +kernel) (by decide +kernel)
abbrev c_So_sharesVariable : ByteArray := prog_6_method_8_code
def y_So_sharesVariable : MethodName := ⟨"TripleStore$Solutions", "sharesVariable", "(I[J)Z"⟩
abbrev w_So_sharesVariable : List Cond := wsM y_So_sharesVariable c_So_sharesVariable 4 (some .boolean)
theorem i_So_sharesVariable : Cond.code y_So_sharesVariable c_So_sharesVariable 4 (some .boolean) ∈ gT := gT_at 827 (by decide +kernel) (by decide +kernel)
abbrev c_Sv_init : ByteArray := prog_7_method_1_code
def y_Sv_init : MethodName := ⟨"TripleStore$Solver", "<init>", "(LTripleStore$Store;LTripleStore$Query;)V"⟩
abbrev w_Sv_init : List Cond := wsM y_Sv_init c_Sv_init 4 none
theorem i_Sv_init : Cond.code y_Sv_init c_Sv_init 4 none ∈ gT := gT_at 230 (by decide +kernel) (by decide +kernel)
abbrev c_Sv_solutions : ByteArray := prog_7_method_2_code
def y_Sv_solutions : MethodName := ⟨"TripleStore$Solver", "solutions", "()LTripleStore$Solutions;"⟩
abbrev w_Sv_solutions : List Cond := wsM y_Sv_solutions c_Sv_solutions 1 (some (.object "TripleStore$Solutions"))
theorem i_Sv_solutions : Cond.code y_Sv_solutions c_Sv_solutions 1 (some (.object "TripleStore$Solutions")) ∈ gT := gT_at 860 (by decide +kernel) (by decide +kernel)
abbrev c_Sv_solveGroup : ByteArray := prog_7_method_3_code
def y_Sv_solveGroup : MethodName := ⟨"TripleStore$Solver", "solveGroup", "(II)Z"⟩
abbrev w_Sv_solveGroup : List Cond := wsM y_Sv_solveGroup c_Sv_solveGroup 6 (some .boolean)
theorem i_Sv_solveGroup : Cond.code y_Sv_solveGroup c_Sv_solveGroup 6 (some .boolean) ∈ gT := gT_at 758 (by decide +kernel) (by decide +kernel)
abbrev c_Sv_turn : ByteArray := prog_7_method_4_code
def y_Sv_turn : MethodName := ⟨"TripleStore$Solver", "turn", "(I)V"⟩
abbrev w_Sv_turn : List Cond := wsM y_Sv_turn c_Sv_turn 3 none
theorem i_Sv_turn : Cond.code y_Sv_turn c_Sv_turn 3 none ∈ gT := gT_at 843 (by decide +kernel) (by decide +kernel)
abbrev c_Sv_joinPattern : ByteArray := prog_7_method_5_code
def y_Sv_joinPattern : MethodName := ⟨"TripleStore$Solver", "joinPattern", "(LTripleStore$Element;LTripleStore$Solutions;LTripleStore$Solutions;)Z"⟩
abbrev w_Sv_joinPattern : List Cond := wsM y_Sv_joinPattern c_Sv_joinPattern 6 (some .boolean)
theorem i_Sv_joinPattern : Cond.code y_Sv_joinPattern c_Sv_joinPattern 6 (some .boolean) ∈ gT := gT_at 776 (by decide +kernel) (by decide +kernel)
abbrev c_Sv_fitsTriple : ByteArray := prog_7_method_6_code
def y_Sv_fitsTriple : MethodName := ⟨"TripleStore$Solver", "fitsTriple", "(LTripleStore$Element;I)Z"⟩
abbrev w_Sv_fitsTriple : List Cond := wsM y_Sv_fitsTriple c_Sv_fitsTriple 3 (some .boolean)
theorem i_Sv_fitsTriple : Cond.code y_Sv_fitsTriple c_Sv_fitsTriple 3 (some .boolean) ∈ gT := gT_at 789 (by decide +kernel) (by decide +kernel)
abbrev c_Sv_fitsTerm : ByteArray := prog_7_method_7_code
def y_Sv_fitsTerm : MethodName := ⟨"TripleStore$Solver", "fitsTerm", "(JJ)Z"⟩
abbrev w_Sv_fitsTerm : List Cond := wsM y_Sv_fitsTerm c_Sv_fitsTerm 8 (some .boolean)
theorem i_Sv_fitsTerm : Cond.code y_Sv_fitsTerm c_Sv_fitsTerm 8 (some .boolean) ∈ gT := gT_at 797 (by decide +kernel) (by decide +kernel)
abbrev c_Sv_termOf : ByteArray := prog_7_method_8_code
def y_Sv_termOf : MethodName := ⟨"TripleStore$Solver", "termOf", "(J)J"⟩
abbrev w_Sv_termOf : List Cond := wsM y_Sv_termOf c_Sv_termOf 4 (some .long)
theorem i_Sv_termOf : Cond.code y_Sv_termOf c_Sv_termOf 4 (some .long) ∈ gT := gT_at 801 (by decide +kernel) (by decide +kernel)
abbrev c_Sv_applyGroups : ByteArray := prog_7_method_9_code
def y_Sv_applyGroups : MethodName := ⟨"TripleStore$Solver", "applyGroups", "(III)Z"⟩
abbrev w_Sv_applyGroups : List Cond := wsM y_Sv_applyGroups c_Sv_applyGroups 6 (some .boolean)
theorem i_Sv_applyGroups : Cond.code y_Sv_applyGroups c_Sv_applyGroups 6 (some .boolean) ∈ gT := gT_at 814 (by decide +kernel) (by decide +kernel)
abbrev c_Sv_applySolved : ByteArray := prog_7_method_10_code
def y_Sv_applySolved : MethodName := ⟨"TripleStore$Solver", "applySolved", "(ILTripleStore$Solutions;LTripleStore$Solutions;LTripleStore$Solutions;)Z"⟩
abbrev w_Sv_applySolved : List Cond := wsM y_Sv_applySolved c_Sv_applySolved 8 (some .boolean)
theorem i_Sv_applySolved : Cond.code y_Sv_applySolved c_Sv_applySolved 8 (some .boolean) ∈ gT := gT_at 819 (by decide +kernel) (by decide +kernel)
abbrev c_Sv_joinAll : ByteArray := prog_7_method_11_code
def y_Sv_joinAll : MethodName := ⟨"TripleStore$Solver", "joinAll", "(LTripleStore$Solutions;ILTripleStore$Solutions;LTripleStore$Solutions;)Z"⟩
abbrev w_Sv_joinAll : List Cond := wsM y_Sv_joinAll c_Sv_joinAll 6 (some .boolean)
theorem i_Sv_joinAll : Cond.code y_Sv_joinAll c_Sv_joinAll 6 (some .boolean) ∈ gT := gT_at 839 (by decide +kernel) (by decide +kernel)
abbrev c_Sv_hasPartner : ByteArray := prog_7_method_12_code
def y_Sv_hasPartner : MethodName := ⟨"TripleStore$Solver", "hasPartner", "(LTripleStore$Solutions;ILTripleStore$Solutions;Z)Z"⟩
abbrev w_Sv_hasPartner : List Cond := wsM y_Sv_hasPartner c_Sv_hasPartner 6 (some .boolean)
theorem i_Sv_hasPartner : Cond.code y_Sv_hasPartner c_Sv_hasPartner 6 (some .boolean) ∈ gT := gT_at 823 (by decide +kernel) (by decide +kernel)
abbrev c_Sv_keepPassing : ByteArray := prog_7_method_13_code
def y_Sv_keepPassing : MethodName := ⟨"TripleStore$Solver", "keepPassing", "(ILTripleStore$Solutions;LTripleStore$Solutions;)V"⟩
abbrev w_Sv_keepPassing : List Cond := wsM y_Sv_keepPassing c_Sv_keepPassing 5 none
theorem i_Sv_keepPassing : Cond.code y_Sv_keepPassing c_Sv_keepPassing 5 none ∈ gT := gT_at 847 (by decide +kernel) (by decide +kernel)
abbrev c_Sv_passesTests : ByteArray := prog_7_method_14_code
def y_Sv_passesTests : MethodName := ⟨"TripleStore$Solver", "passesTests", "(I)Z"⟩
abbrev w_Sv_passesTests : List Cond := wsM y_Sv_passesTests c_Sv_passesTests 4 (some .boolean)
theorem i_Sv_passesTests : Cond.code y_Sv_passesTests c_Sv_passesTests 4 (some .boolean) ∈ gT := gT_at 851 (by decide +kernel) (by decide +kernel)
abbrev c_Sv_holds : ByteArray := prog_7_method_15_code
def y_Sv_holds : MethodName := ⟨"TripleStore$Solver", "holds", "(LTripleStore$Element;)Z"⟩
abbrev w_Sv_holds : List Cond := wsM y_Sv_holds c_Sv_holds 6 (some .boolean)
theorem i_Sv_holds : Cond.code y_Sv_holds c_Sv_holds 6 (some .boolean) ∈ gT := gT_at 855 (by decide +kernel) (by decide +kernel)
abbrev c_St_init : ByteArray := prog_8_method_1_code
def y_St_init : MethodName := ⟨"TripleStore$Store", "<init>", "()V"⟩
abbrev w_St_init : List Cond := wsM y_St_init c_St_init 1 none
theorem i_St_init : Cond.code y_St_init c_St_init 1 none ∈ gT := gT_at 35 (by decide +kernel) (by decide +kernel)
abbrev c_St_size : ByteArray := prog_8_method_2_code
def y_St_size : MethodName := ⟨"TripleStore$Store", "size", "()I"⟩
abbrev w_St_size : List Cond := wsM y_St_size c_St_size 1 (some .int)
theorem i_St_size : Cond.code y_St_size c_St_size 1 (some .int) ∈ gT := gT_at 427 (by decide +kernel) (by decide +kernel)
abbrev c_St_isOpen : ByteArray := prog_8_method_3_code
def y_St_isOpen : MethodName := ⟨"TripleStore$Store", "isOpen", "()Z"⟩
abbrev w_St_isOpen : List Cond := wsM y_St_isOpen c_St_isOpen 1 (some .boolean)
theorem i_St_isOpen : Cond.code y_St_isOpen c_St_isOpen 1 (some .boolean) ∈ gT := gT_at 494 (by decide +kernel) (by decide +kernel)
abbrev c_St_changes : ByteArray := prog_8_method_4_code
def y_St_changes : MethodName := ⟨"TripleStore$Store", "changes", "()I"⟩
abbrev w_St_changes : List Cond := wsM y_St_changes c_St_changes 1 (some .int)
theorem i_St_changes : Cond.code y_St_changes c_St_changes 1 (some .int) ∈ gT := gT_at 967 (by decide +kernel) (by decide +kernel)
abbrev c_St_committed : ByteArray := prog_8_method_5_code
def y_St_committed : MethodName := ⟨"TripleStore$Store", "committed", "()I"⟩
abbrev w_St_committed : List Cond := wsM y_St_committed c_St_committed 1 (some .int)
theorem i_St_committed : Cond.code y_St_committed c_St_committed 1 (some .int) ∈ gT := gT_at 959 (by decide +kernel) (by decide +kernel)
abbrev c_St_unsynced : ByteArray := prog_8_method_6_code
def y_St_unsynced : MethodName := ⟨"TripleStore$Store", "unsynced", "()I"⟩
abbrev w_St_unsynced : List Cond := wsM y_St_unsynced c_St_unsynced 1 (some .int)
theorem i_St_unsynced : Cond.code y_St_unsynced c_St_unsynced 1 (some .int) ∈ gT := gT_at 963 (by decide +kernel) (by decide +kernel)
abbrev c_St_has : ByteArray := prog_8_method_7_code
def y_St_has : MethodName := ⟨"TripleStore$Store", "has", "(JJJ)Z"⟩
abbrev w_St_has : List Cond := wsM y_St_has c_St_has 7 (some .boolean)
theorem i_St_has : Cond.code y_St_has c_St_has 7 (some .boolean) ∈ gT := gT_at 419 (by decide +kernel) (by decide +kernel)
abbrev c_St_subject : ByteArray := prog_8_method_8_code
def y_St_subject : MethodName := ⟨"TripleStore$Store", "subject", "(I)J"⟩
abbrev w_St_subject : List Cond := wsM y_St_subject c_St_subject 2 (some .long)
theorem i_St_subject : Cond.code y_St_subject c_St_subject 2 (some .long) ∈ gT := gT_at 793 (by decide +kernel) (by decide +kernel)
abbrev c_St_predicate : ByteArray := prog_8_method_9_code
def y_St_predicate : MethodName := ⟨"TripleStore$Store", "predicate", "(I)J"⟩
abbrev w_St_predicate : List Cond := wsM y_St_predicate c_St_predicate 2 (some .long)
theorem i_St_predicate : Cond.code y_St_predicate c_St_predicate 2 (some .long) ∈ gT := gT_at 806 (by decide +kernel) (by decide +kernel)
abbrev c_St_object : ByteArray := prog_8_method_10_code
def y_St_object : MethodName := ⟨"TripleStore$Store", "object", "(I)J"⟩
abbrev w_St_object : List Cond := wsM y_St_object c_St_object 2 (some .long)
theorem i_St_object : Cond.code y_St_object c_St_object 2 (some .long) ∈ gT := gT_at 810 (by decide +kernel) (by decide +kernel)
abbrev c_St_insert : ByteArray := prog_8_method_11_code
def y_St_insert : MethodName := ⟨"TripleStore$Store", "insert", "(JJJ)I"⟩
abbrev w_St_insert : List Cond := wsM y_St_insert c_St_insert 7 (some .int)
theorem i_St_insert : Cond.code y_St_insert c_St_insert 7 (some .int) ∈ gT := gT_at 451 (by decide +kernel) (by decide +kernel)
abbrev c_St_delete : ByteArray := prog_8_method_12_code
def y_St_delete : MethodName := ⟨"TripleStore$Store", "delete", "(JJJ)I"⟩
abbrev w_St_delete : List Cond := wsM y_St_delete c_St_delete 8 (some .int)
theorem i_St_delete : Cond.code y_St_delete c_St_delete 8 (some .int) ∈ gT := gT_at 479 (by decide +kernel) (by decide +kernel)
abbrev c_St_noteChange : ByteArray := prog_8_method_13_code
def y_St_noteChange : MethodName := ⟨"TripleStore$Store", "noteChange", "(JJJZ)V"⟩
abbrev w_St_noteChange : List Cond := wsM y_St_noteChange c_St_noteChange 9 none
theorem i_St_noteChange : Cond.code y_St_noteChange c_St_noteChange 9 none ∈ gT := gT_at 464 (by decide +kernel) (by decide +kernel)
abbrev c_St_countCommitted : ByteArray := prog_8_method_14_code
def y_St_countCommitted : MethodName := ⟨"TripleStore$Store", "countCommitted", "()V"⟩
abbrev w_St_countCommitted : List Cond := wsM y_St_countCommitted c_St_countCommitted 1 none
theorem i_St_countCommitted : Cond.code y_St_countCommitted c_St_countCommitted 1 none ∈ gT := gT_at 468 (by decide +kernel) (by decide +kernel)
abbrev c_St_openTransaction : ByteArray := prog_8_method_15_code
def y_St_openTransaction : MethodName := ⟨"TripleStore$Store", "openTransaction", "()I"⟩
abbrev w_St_openTransaction : List Cond := wsM y_St_openTransaction c_St_openTransaction 1 (some .int)
theorem i_St_openTransaction : Cond.code y_St_openTransaction c_St_openTransaction 1 (some .int) ∈ gT := gT_at 499 (by decide +kernel) (by decide +kernel)
abbrev c_St_commitOpen : ByteArray := prog_8_method_16_code
def y_St_commitOpen : MethodName := ⟨"TripleStore$Store", "commitOpen", "()I"⟩
abbrev w_St_commitOpen : List Cond := wsM y_St_commitOpen c_St_commitOpen 2 (some .int)
theorem i_St_commitOpen : Cond.code y_St_commitOpen c_St_commitOpen 2 (some .int) ∈ gT := gT_at 511 (by decide +kernel) (by decide +kernel)
abbrev c_St_undoOpen : ByteArray := prog_8_method_17_code
def y_St_undoOpen : MethodName := ⟨"TripleStore$Store", "undoOpen", "()I"⟩
abbrev w_St_undoOpen : List Cond := wsM y_St_undoOpen c_St_undoOpen 2 (some .int)
theorem i_St_undoOpen : Cond.code y_St_undoOpen c_St_undoOpen 2 (some .int) ∈ gT := gT_at 522 (by decide +kernel) (by decide +kernel)
abbrev c_St_syncAll : ByteArray := prog_8_method_18_code
def y_St_syncAll : MethodName := ⟨"TripleStore$Store", "syncAll", "()I"⟩
abbrev w_St_syncAll : List Cond := wsM y_St_syncAll c_St_syncAll 2 (some .int)
theorem i_St_syncAll : Cond.code y_St_syncAll c_St_syncAll 2 (some .int) ∈ gT := gT_at 316 (by decide +kernel) (by decide +kernel)
abbrev c_St_loseBut : ByteArray := prog_8_method_19_code
def y_St_loseBut : MethodName := ⟨"TripleStore$Store", "loseBut", "(I)V"⟩
abbrev w_St_loseBut : List Cond := wsM y_St_loseBut c_St_loseBut 2 none
theorem i_St_loseBut : Cond.code y_St_loseBut c_St_loseBut 2 none ∈ gT := gT_at 554 (by decide +kernel) (by decide +kernel)
abbrev c_St_undoFrom : ByteArray := prog_8_method_20_code
def y_St_undoFrom : MethodName := ⟨"TripleStore$Store", "undoFrom", "(I)V"⟩
abbrev w_St_undoFrom : List Cond := wsM y_St_undoFrom c_St_undoFrom 3 none
theorem i_St_undoFrom : Cond.code y_St_undoFrom c_St_undoFrom 3 none ∈ gT := gT_at 526 (by decide +kernel) (by decide +kernel)
abbrev c_St_undoLast : ByteArray := prog_8_method_21_code
def y_St_undoLast : MethodName := ⟨"TripleStore$Store", "undoLast", "(I)V"⟩
abbrev w_St_undoLast : List Cond := wsM y_St_undoLast c_St_undoLast 8 none
theorem i_St_undoLast : Cond.code y_St_undoLast c_St_undoLast 8 none ∈ gT := gT_at 530 (by decide +kernel) (by decide +kernel)
abbrev c_Te_isTriple : ByteArray := prog_9_method_2_code
def y_Te_isTriple : MethodName := ⟨"TripleStore$Terms", "isTriple", "(JJJ)Z"⟩
abbrev w_Te_isTriple : List Cond := wsM y_Te_isTriple c_Te_isTriple 6 (some .boolean)
theorem i_Te_isTriple : Cond.code y_Te_isTriple c_Te_isTriple 6 (some .boolean) ∈ gT := gT_at 332 (by decide +kernel) (by decide +kernel)
abbrev c_Te_isWord : ByteArray := prog_9_method_3_code
def y_Te_isWord : MethodName := ⟨"TripleStore$Terms", "isWord", "(J)Z"⟩
abbrev w_Te_isWord : List Cond := wsM y_Te_isWord c_Te_isWord 5 (some .boolean)
theorem i_Te_isWord : Cond.code y_Te_isWord c_Te_isWord 5 (some .boolean) ∈ gT := gT_at 335 (by decide +kernel) (by decide +kernel)
abbrev c_Te_isNumber : ByteArray := prog_9_method_4_code
def y_Te_isNumber : MethodName := ⟨"TripleStore$Terms", "isNumber", "(J)Z"⟩
abbrev w_Te_isNumber : List Cond := wsM y_Te_isNumber c_Te_isNumber 2 (some .boolean)
theorem i_Te_isNumber : Cond.code y_Te_isNumber c_Te_isNumber 2 (some .boolean) ∈ gT := gT_at 342 (by decide +kernel) (by decide +kernel)
abbrev c_Te_isHeldNumber : ByteArray := prog_9_method_5_code
def y_Te_isHeldNumber : MethodName := ⟨"TripleStore$Terms", "isHeldNumber", "(J)Z"⟩
abbrev w_Te_isHeldNumber : List Cond := wsM y_Te_isHeldNumber c_Te_isHeldNumber 2 (some .boolean)
theorem i_Te_isHeldNumber : Cond.code y_Te_isHeldNumber c_Te_isHeldNumber 2 (some .boolean) ∈ gT := gT_at 743 (by decide +kernel) (by decide +kernel)
abbrev c_Te_isLetter : ByteArray := prog_9_method_6_code
def y_Te_isLetter : MethodName := ⟨"TripleStore$Terms", "isLetter", "(I)Z"⟩
abbrev w_Te_isLetter : List Cond := wsM y_Te_isLetter c_Te_isLetter 1 (some .boolean)
theorem i_Te_isLetter : Cond.code y_Te_isLetter c_Te_isLetter 1 (some .boolean) ∈ gT := gT_at 339 (by decide +kernel) (by decide +kernel)
abbrev c_Te_isDigit : ByteArray := prog_9_method_7_code
def y_Te_isDigit : MethodName := ⟨"TripleStore$Terms", "isDigit", "(I)Z"⟩
abbrev w_Te_isDigit : List Cond := wsM y_Te_isDigit c_Te_isDigit 1 (some .boolean)
theorem i_Te_isDigit : Cond.code y_Te_isDigit c_Te_isDigit 1 (some .boolean) ∈ gT := gT_at 619 (by decide +kernel) (by decide +kernel)
abbrev c_Te_held : ByteArray := prog_9_method_8_code
def y_Te_held : MethodName := ⟨"TripleStore$Terms", "held", "(J)J"⟩
abbrev w_Te_held : List Cond := wsM y_Te_held c_Te_held 5 (some .long)
theorem i_Te_held : Cond.code y_Te_held c_Te_held 5 (some .long) ∈ gT := gT_at 415 (by decide +kernel) (by decide +kernel)
abbrev c_Te_shown : ByteArray := prog_9_method_9_code
def y_Te_shown : MethodName := ⟨"TripleStore$Terms", "shown", "(J)J"⟩
abbrev w_Te_shown : List Cond := wsM y_Te_shown c_Te_shown 5 (some .long)
theorem i_Te_shown : Cond.code y_Te_shown c_Te_shown 5 (some .long) ∈ gT := gT_at 943 (by decide +kernel) (by decide +kernel)
abbrev c_To_init : ByteArray := prog_10_method_1_code
def y_To_init : MethodName := ⟨"TripleStore$Tokens", "<init>", "()V"⟩
abbrev w_To_init : List Cond := wsM y_To_init c_To_init 1 none
theorem i_To_init : Cond.code y_To_init c_To_init 1 none ∈ gT := gT_at 88 (by decide +kernel) (by decide +kernel)
abbrev c_To_kind : ByteArray := prog_10_method_2_code
def y_To_kind : MethodName := ⟨"TripleStore$Tokens", "kind", "()I"⟩
abbrev w_To_kind : List Cond := wsM y_To_kind c_To_kind 1 (some .int)
theorem i_To_kind : Cond.code y_To_kind c_To_kind 1 (some .int) ∈ gT := gT_at 656 (by decide +kernel) (by decide +kernel)
abbrev c_To_value : ByteArray := prog_10_method_3_code
def y_To_value : MethodName := ⟨"TripleStore$Tokens", "value", "()J"⟩
abbrev w_To_value : List Cond := wsM y_To_value c_To_value 1 (some .long)
theorem i_To_value : Cond.code y_To_value c_To_value 1 (some .long) ∈ gT := gT_at 664 (by decide +kernel) (by decide +kernel)
abbrev c_To_place : ByteArray := prog_10_method_4_code
def y_To_place : MethodName := ⟨"TripleStore$Tokens", "place", "()I"⟩
abbrev w_To_place : List Cond := wsM y_To_place c_To_place 1 (some .int)
theorem i_To_place : Cond.code y_To_place c_To_place 1 (some .int) ∈ gT := gT_at 748 (by decide +kernel) (by decide +kernel)
abbrev c_To_step : ByteArray := prog_10_method_5_code
def y_To_step : MethodName := ⟨"TripleStore$Tokens", "step", "()V"⟩
abbrev w_To_step : List Cond := wsM y_To_step c_To_step 1 none
theorem i_To_step : Cond.code y_To_step c_To_step 1 none ∈ gT := gT_at 647 (by decide +kernel) (by decide +kernel)
abbrev c_To_isAtSign : ByteArray := prog_10_method_6_code
def y_To_isAtSign : MethodName := ⟨"TripleStore$Tokens", "isAtSign", "(C)Z"⟩
abbrev w_To_isAtSign : List Cond := wsM y_To_isAtSign c_To_isAtSign 2 (some .boolean)
theorem i_To_isAtSign : Cond.code y_To_isAtSign c_To_isAtSign 2 (some .boolean) ∈ gT := gT_at 678 (by decide +kernel) (by decide +kernel)
abbrev c_To_takeSign : ByteArray := prog_10_method_7_code
def y_To_takeSign : MethodName := ⟨"TripleStore$Tokens", "takeSign", "(C)Z"⟩
abbrev w_To_takeSign : List Cond := wsM y_To_takeSign c_To_takeSign 3 (some .boolean)
theorem i_To_takeSign : Cond.code y_To_takeSign c_To_takeSign 3 (some .boolean) ∈ gT := gT_at 686 (by decide +kernel) (by decide +kernel)
abbrev c_To_takeKey : ByteArray := prog_10_method_8_code
def y_To_takeKey : MethodName := ⟨"TripleStore$Tokens", "takeKey", "(J)Z"⟩
abbrev w_To_takeKey : List Cond := wsM y_To_takeKey c_To_takeKey 4 (some .boolean)
theorem i_To_takeKey : Cond.code y_To_takeKey c_To_takeKey 4 (some .boolean) ∈ gT := gT_at 643 (by decide +kernel) (by decide +kernel)
abbrev c_To_readAll : ByteArray := prog_10_method_9_code
def y_To_readAll : MethodName := ⟨"TripleStore$Tokens", "readAll", "([CI)V"⟩
abbrev w_To_readAll : List Cond := wsM y_To_readAll c_To_readAll 6 none
theorem i_To_readAll : Cond.code y_To_readAll c_To_readAll 6 none ∈ gT := gT_at 583 (by decide +kernel) (by decide +kernel)
abbrev c_To_note : ByteArray := prog_10_method_10_code
def y_To_note : MethodName := ⟨"TripleStore$Tokens", "note", "(IJI)V"⟩
abbrev w_To_note : List Cond := wsM y_To_note c_To_note 5 none
theorem i_To_note : Cond.code y_To_note c_To_note 5 none ∈ gT := gT_at 602 (by decide +kernel) (by decide +kernel)
abbrev c_To_readToken : ByteArray := prog_10_method_11_code
def y_To_readToken : MethodName := ⟨"TripleStore$Tokens", "readToken", "([CII)I"⟩
abbrev w_To_readToken : List Cond := wsM y_To_readToken c_To_readToken 5 (some .int)
theorem i_To_readToken : Cond.code y_To_readToken c_To_readToken 5 (some .int) ∈ gT := gT_at 587 (by decide +kernel) (by decide +kernel)
abbrev c_To_readWord : ByteArray := prog_10_method_12_code
def y_To_readWord : MethodName := ⟨"TripleStore$Tokens", "readWord", "([CII)I"⟩
abbrev w_To_readWord : List Cond := wsM y_To_readWord c_To_readWord 7 (some .int)
theorem i_To_readWord : Cond.code y_To_readWord c_To_readWord 7 (some .int) ∈ gT := gT_at 592 (by decide +kernel) (by decide +kernel)
abbrev c_To_readVariable : ByteArray := prog_10_method_13_code
def y_To_readVariable : MethodName := ⟨"TripleStore$Tokens", "readVariable", "([CII)I"⟩
abbrev w_To_readVariable : List Cond := wsM y_To_readVariable c_To_readVariable 7 (some .int)
theorem i_To_readVariable : Cond.code y_To_readVariable c_To_readVariable 7 (some .int) ∈ gT := gT_at 627 (by decide +kernel) (by decide +kernel)
abbrev c_To_readNumber : ByteArray := prog_10_method_14_code
def y_To_readNumber : MethodName := ⟨"TripleStore$Tokens", "readNumber", "([CII)I"⟩
abbrev w_To_readNumber : List Cond := wsM y_To_readNumber c_To_readNumber 6 (some .int)
theorem i_To_readNumber : Cond.code y_To_readNumber c_To_readNumber 6 (some .int) ∈ gT := gT_at 623 (by decide +kernel) (by decide +kernel)
abbrev c_To_endOfLetters : ByteArray := prog_10_method_15_code
def y_To_endOfLetters : MethodName := ⟨"TripleStore$Tokens", "endOfLetters", "([CII)I"⟩
abbrev w_To_endOfLetters : List Cond := wsM y_To_endOfLetters c_To_endOfLetters 4 (some .int)
theorem i_To_endOfLetters : Cond.code y_To_endOfLetters c_To_endOfLetters 4 (some .int) ∈ gT := gT_at 595 (by decide +kernel) (by decide +kernel)
abbrev c_To_packed : ByteArray := prog_10_method_16_code
def y_To_packed : MethodName := ⟨"TripleStore$Tokens", "packed", "([CII)J"⟩
abbrev w_To_packed : List Cond := wsM y_To_packed c_To_packed 6 (some .long)
theorem i_To_packed : Cond.code y_To_packed c_To_packed 6 (some .long) ∈ gT := gT_at 598 (by decide +kernel) (by decide +kernel)
abbrev c_To_isSign : ByteArray := prog_10_method_17_code
def y_To_isSign : MethodName := ⟨"TripleStore$Tokens", "isSign", "(C)Z"⟩
abbrev w_To_isSign : List Cond := wsM y_To_isSign c_To_isSign 1 (some .boolean)
theorem i_To_isSign : Cond.code y_To_isSign c_To_isSign 1 (some .boolean) ∈ gT := gT_at 630 (by decide +kernel) (by decide +kernel)
abbrev c_To_isKey : ByteArray := prog_10_method_18_code
def y_To_isKey : MethodName := ⟨"TripleStore$Tokens", "isKey", "(J)Z"⟩
abbrev w_To_isKey : List Cond := wsM y_To_isKey c_To_isKey 2 (some .boolean)
theorem i_To_isKey : Cond.code y_To_isKey c_To_isKey 2 (some .boolean) ∈ gT := gT_at 605 (by decide +kernel) (by decide +kernel)
abbrev c_Tr_init : ByteArray := prog_11_method_1_code
def y_Tr_init : MethodName := ⟨"TripleStore$Triples", "<init>", "(I)V"⟩
abbrev w_Tr_init : List Cond := wsM y_Tr_init c_Tr_init 2 none
theorem i_Tr_init : Cond.code y_Tr_init c_Tr_init 2 none ∈ gT := gT_at 41 (by decide +kernel) (by decide +kernel)
abbrev c_Tr_size : ByteArray := prog_11_method_2_code
def y_Tr_size : MethodName := ⟨"TripleStore$Triples", "size", "()I"⟩
abbrev w_Tr_size : List Cond := wsM y_Tr_size c_Tr_size 1 (some .int)
theorem i_Tr_size : Cond.code y_Tr_size c_Tr_size 1 (some .int) ∈ gT := gT_at 431 (by decide +kernel) (by decide +kernel)
abbrev c_Tr_isFull : ByteArray := prog_11_method_3_code
def y_Tr_isFull : MethodName := ⟨"TripleStore$Triples", "isFull", "()Z"⟩
abbrev w_Tr_isFull : List Cond := wsM y_Tr_isFull c_Tr_isFull 1 (some .boolean)
theorem i_Tr_isFull : Cond.code y_Tr_isFull c_Tr_isFull 1 (some .boolean) ∈ gT := gT_at 455 (by decide +kernel) (by decide +kernel)
abbrev c_Tr_subject : ByteArray := prog_11_method_4_code
def y_Tr_subject : MethodName := ⟨"TripleStore$Triples", "subject", "(I)J"⟩
abbrev w_Tr_subject : List Cond := wsM y_Tr_subject c_Tr_subject 2 (some .long)
theorem i_Tr_subject : Cond.code y_Tr_subject c_Tr_subject 2 (some .long) ∈ gT := gT_at 534 (by decide +kernel) (by decide +kernel)
abbrev c_Tr_predicate : ByteArray := prog_11_method_5_code
def y_Tr_predicate : MethodName := ⟨"TripleStore$Triples", "predicate", "(I)J"⟩
abbrev w_Tr_predicate : List Cond := wsM y_Tr_predicate c_Tr_predicate 2 (some .long)
theorem i_Tr_predicate : Cond.code y_Tr_predicate c_Tr_predicate 2 (some .long) ∈ gT := gT_at 538 (by decide +kernel) (by decide +kernel)
abbrev c_Tr_object : ByteArray := prog_11_method_6_code
def y_Tr_object : MethodName := ⟨"TripleStore$Triples", "object", "(I)J"⟩
abbrev w_Tr_object : List Cond := wsM y_Tr_object c_Tr_object 2 (some .long)
theorem i_Tr_object : Cond.code y_Tr_object c_Tr_object 2 (some .long) ∈ gT := gT_at 542 (by decide +kernel) (by decide +kernel)
abbrev c_Tr_find : ByteArray := prog_11_method_7_code
def y_Tr_find : MethodName := ⟨"TripleStore$Triples", "find", "(JJJ)I"⟩
abbrev w_Tr_find : List Cond := wsM y_Tr_find c_Tr_find 8 (some .int)
theorem i_Tr_find : Cond.code y_Tr_find c_Tr_find 8 (some .int) ∈ gT := gT_at 423 (by decide +kernel) (by decide +kernel)
abbrev c_Tr_put : ByteArray := prog_11_method_8_code
def y_Tr_put : MethodName := ⟨"TripleStore$Triples", "put", "(JJJ)V"⟩
abbrev w_Tr_put : List Cond := wsM y_Tr_put c_Tr_put 7 none
theorem i_Tr_put : Cond.code y_Tr_put c_Tr_put 7 none ∈ gT := gT_at 459 (by decide +kernel) (by decide +kernel)
abbrev c_Tr_drop : ByteArray := prog_11_method_9_code
def y_Tr_drop : MethodName := ⟨"TripleStore$Triples", "drop", "(I)V"⟩
abbrev w_Tr_drop : List Cond := wsM y_Tr_drop c_Tr_drop 2 none
theorem i_Tr_drop : Cond.code y_Tr_drop c_Tr_drop 2 none ∈ gT := gT_at 483 (by decide +kernel) (by decide +kernel)
abbrev c_La_add : ByteArray := method_3_code
def y_La_add : MethodName := ⟨"TripleStoreLaw", "add", "(LTripleStore;JJJ[J)I"⟩
abbrev c_La_remove : ByteArray := method_4_code
def y_La_remove : MethodName := ⟨"TripleStoreLaw", "remove", "(LTripleStore;JJJ[J)I"⟩
abbrev c_La_begin : ByteArray := method_5_code
def y_La_begin : MethodName := ⟨"TripleStoreLaw", "begin", "(LTripleStore;[J)I"⟩
abbrev c_La_commit : ByteArray := method_6_code
def y_La_commit : MethodName := ⟨"TripleStoreLaw", "commit", "(LTripleStore;[J)I"⟩
abbrev c_La_rollback : ByteArray := method_7_code
def y_La_rollback : MethodName := ⟨"TripleStoreLaw", "rollback", "(LTripleStore;[J)I"⟩
abbrev c_La_crash : ByteArray := method_8_code
def y_La_crash : MethodName := ⟨"TripleStoreLaw", "crash", "(LTripleStore;I[J)I"⟩
abbrev c_La_append : ByteArray := method_9_code
def y_La_append : MethodName := ⟨"TripleStoreLaw", "append", "(LTripleStore;JI[J)I"⟩
abbrev c_La_ask : ByteArray := method_10_code
def y_La_ask : MethodName := ⟨"TripleStoreLaw", "ask", "(LTripleStore;[J)I"⟩
abbrev c_La_cell2 : ByteArray := method_11_code
def y_La_cell2 : MethodName := ⟨"TripleStoreLaw", "cell", "(LTripleStore;II[J)I"⟩
abbrev c_La_count : ByteArray := method_12_code
def y_La_count : MethodName := ⟨"TripleStoreLaw", "count", "(LTripleStore;I[J)I"⟩
end
section
theorem fl_Tr_13 : Cond.fieldLink "TripleStore$Triples" 13 "TripleStore$Triples" "subjects" "[J" ∈ gT := gT_at 43 (by decide +kernel) (by decide +kernel)
theorem gf_Tr_13 {X : gC} {cc : ByteArray} {M : List mC} {k n pc : Nat} {L : List (Nat × Value)} {st : List Value} {y0 : MethodName} {b0 : ByteArray} {nl0 : Nat} {ret0 : Option FieldType} (ok : gO X cc "TripleStore$Triples" (wsM y0 b0 nl0 ret0)) (hd : decode cc pc = .ok (.getfield 13, 3)) {o : Nat} {fs : List Value} {v : Value} (he : M[o]? = some (.inr (8, fs))) (hv : fs[0]? = some v) (kk : gg X M k n (pc + 3) L (v :: st)) : gg X M k n pc L (.ref o :: st) := g_get ok (C := RTr) (T := TTr) (N := 4) (f := 0) (ref := "TripleStore$Triples") (fun w h => List.mem_cons_of_mem _ (inTr w h)) rfl (by decide) (List.mem_cons_of_mem _ fl_Tr_13) rfl hd he hv kk
theorem pf_Tr_13 {X : gC} {cc : ByteArray} {M : List mC} {k n pc : Nat} {L : List (Nat × Value)} {st : List Value} {y0 : MethodName} {b0 : ByteArray} {nl0 : Nat} {ret0 : Option FieldType} (ok : gO X cc "TripleStore$Triples" (wsM y0 b0 nl0 ret0)) (hin2 : (gM X).name = "<init>") (hd : decode cc pc = .ok (.putfield 13, 3)) {o : Nat} {fs : List Value} {v : Value} (he : M[o]? = some (.inr (8, fs))) (hl : 0 < fs.length) (hn : ∀ ad : Nat → Nat, narrow (.array .long) (mc_v ad v) = mc_v ad v ∧ fits (.array .long) (mc_v ad v) = true) (kk : gg X (M.set o (.inr (8, fs.set 0 v))) k n (pc + 3) L st) : gg X M k n pc L (v :: .ref o :: st) := g_putF ok (C := RTr) (T := TTr) (N := 4) (f := 0) (ref := "TripleStore$Triples") (fun w h => List.mem_cons_of_mem _ (inTr w h)) tyTr okTr nmTr rfl (by decide) (List.mem_cons_of_mem _ fl_Tr_13) rfl rfl hin2 rfl (by decide +kernel) hd he hl hn kk
theorem fl_Tr_17 : Cond.fieldLink "TripleStore$Triples" 17 "TripleStore$Triples" "predicates" "[J" ∈ gT := gT_at 44 (by decide +kernel) (by decide +kernel)
theorem gf_Tr_17 {X : gC} {cc : ByteArray} {M : List mC} {k n pc : Nat} {L : List (Nat × Value)} {st : List Value} {y0 : MethodName} {b0 : ByteArray} {nl0 : Nat} {ret0 : Option FieldType} (ok : gO X cc "TripleStore$Triples" (wsM y0 b0 nl0 ret0)) (hd : decode cc pc = .ok (.getfield 17, 3)) {o : Nat} {fs : List Value} {v : Value} (he : M[o]? = some (.inr (8, fs))) (hv : fs[1]? = some v) (kk : gg X M k n (pc + 3) L (v :: st)) : gg X M k n pc L (.ref o :: st) := g_get ok (C := RTr) (T := TTr) (N := 4) (f := 1) (ref := "TripleStore$Triples") (fun w h => List.mem_cons_of_mem _ (inTr w h)) rfl (by decide) (List.mem_cons_of_mem _ fl_Tr_17) rfl hd he hv kk
theorem pf_Tr_17 {X : gC} {cc : ByteArray} {M : List mC} {k n pc : Nat} {L : List (Nat × Value)} {st : List Value} {y0 : MethodName} {b0 : ByteArray} {nl0 : Nat} {ret0 : Option FieldType} (ok : gO X cc "TripleStore$Triples" (wsM y0 b0 nl0 ret0)) (hin2 : (gM X).name = "<init>") (hd : decode cc pc = .ok (.putfield 17, 3)) {o : Nat} {fs : List Value} {v : Value} (he : M[o]? = some (.inr (8, fs))) (hl : 1 < fs.length) (hn : ∀ ad : Nat → Nat, narrow (.array .long) (mc_v ad v) = mc_v ad v ∧ fits (.array .long) (mc_v ad v) = true) (kk : gg X (M.set o (.inr (8, fs.set 1 v))) k n (pc + 3) L st) : gg X M k n pc L (v :: .ref o :: st) := g_putF ok (C := RTr) (T := TTr) (N := 4) (f := 1) (ref := "TripleStore$Triples") (fun w h => List.mem_cons_of_mem _ (inTr w h)) tyTr okTr nmTr rfl (by decide) (List.mem_cons_of_mem _ fl_Tr_17) rfl rfl hin2 rfl (by decide +kernel) hd he hl hn kk
theorem fl_Tr_20 : Cond.fieldLink "TripleStore$Triples" 20 "TripleStore$Triples" "objects" "[J" ∈ gT := gT_at 45 (by decide +kernel) (by decide +kernel)
theorem gf_Tr_20 {X : gC} {cc : ByteArray} {M : List mC} {k n pc : Nat} {L : List (Nat × Value)} {st : List Value} {y0 : MethodName} {b0 : ByteArray} {nl0 : Nat} {ret0 : Option FieldType} (ok : gO X cc "TripleStore$Triples" (wsM y0 b0 nl0 ret0)) (hd : decode cc pc = .ok (.getfield 20, 3)) {o : Nat} {fs : List Value} {v : Value} (he : M[o]? = some (.inr (8, fs))) (hv : fs[2]? = some v) (kk : gg X M k n (pc + 3) L (v :: st)) : gg X M k n pc L (.ref o :: st) := g_get ok (C := RTr) (T := TTr) (N := 4) (f := 2) (ref := "TripleStore$Triples") (fun w h => List.mem_cons_of_mem _ (inTr w h)) rfl (by decide) (List.mem_cons_of_mem _ fl_Tr_20) rfl hd he hv kk
theorem pf_Tr_20 {X : gC} {cc : ByteArray} {M : List mC} {k n pc : Nat} {L : List (Nat × Value)} {st : List Value} {y0 : MethodName} {b0 : ByteArray} {nl0 : Nat} {ret0 : Option FieldType} (ok : gO X cc "TripleStore$Triples" (wsM y0 b0 nl0 ret0)) (hin2 : (gM X).name = "<init>") (hd : decode cc pc = .ok (.putfield 20, 3)) {o : Nat} {fs : List Value} {v : Value} (he : M[o]? = some (.inr (8, fs))) (hl : 2 < fs.length) (hn : ∀ ad : Nat → Nat, narrow (.array .long) (mc_v ad v) = mc_v ad v ∧ fits (.array .long) (mc_v ad v) = true) (kk : gg X (M.set o (.inr (8, fs.set 2 v))) k n (pc + 3) L st) : gg X M k n pc L (v :: .ref o :: st) := g_putF ok (C := RTr) (T := TTr) (N := 4) (f := 2) (ref := "TripleStore$Triples") (fun w h => List.mem_cons_of_mem _ (inTr w h)) tyTr okTr nmTr rfl (by decide) (List.mem_cons_of_mem _ fl_Tr_20) rfl rfl hin2 rfl (by decide +kernel) hd he hl hn kk
theorem fl_Tr_7 : Cond.fieldLink "TripleStore$Triples" 7 "TripleStore$Triples" "size" "I" ∈ gT := gT_at 46 (by decide +kernel) (by decide +kernel)
theorem gf_Tr_7 {X : gC} {cc : ByteArray} {M : List mC} {k n pc : Nat} {L : List (Nat × Value)} {st : List Value} {y0 : MethodName} {b0 : ByteArray} {nl0 : Nat} {ret0 : Option FieldType} (ok : gO X cc "TripleStore$Triples" (wsM y0 b0 nl0 ret0)) (hd : decode cc pc = .ok (.getfield 7, 3)) {o : Nat} {fs : List Value} {v : Value} (he : M[o]? = some (.inr (8, fs))) (hv : fs[3]? = some v) (kk : gg X M k n (pc + 3) L (v :: st)) : gg X M k n pc L (.ref o :: st) := g_get ok (C := RTr) (T := TTr) (N := 4) (f := 3) (ref := "TripleStore$Triples") (fun w h => List.mem_cons_of_mem _ (inTr w h)) rfl (by decide) (List.mem_cons_of_mem _ fl_Tr_7) rfl hd he hv kk
theorem pf_Tr_7 {X : gC} {cc : ByteArray} {M : List mC} {k n pc : Nat} {L : List (Nat × Value)} {st : List Value} {y0 : MethodName} {b0 : ByteArray} {nl0 : Nat} {ret0 : Option FieldType} (ok : gO X cc "TripleStore$Triples" (wsM y0 b0 nl0 ret0)) (hd : decode cc pc = .ok (.putfield 7, 3)) {o : Nat} {fs : List Value} {v : Value} (he : M[o]? = some (.inr (8, fs))) (hl : 3 < fs.length) (hn : ∀ ad : Nat → Nat, narrow .int (mc_v ad v) = mc_v ad v ∧ fits .int (mc_v ad v) = true) (kk : gg X (M.set o (.inr (8, fs.set 3 v))) k n (pc + 3) L st) : gg X M k n pc L (v :: .ref o :: st) := g_put ok (C := RTr) (T := TTr) (N := 4) (f := 3) (ref := "TripleStore$Triples") (fun w h => List.mem_cons_of_mem _ (inTr w h)) tyTr okTr nmTr rfl (by decide) (List.mem_cons_of_mem _ fl_Tr_7) rfl rfl (by decide +kernel) hd he hl hn kk
theorem fl_St_14 : Cond.fieldLink "TripleStore$Store" 14 "TripleStore$Store" "triples" "LTripleStore$Triples;" ∈ gT := gT_at 57 (by decide +kernel) (by decide +kernel)
theorem gf_St_14 {X : gC} {cc : ByteArray} {M : List mC} {k n pc : Nat} {L : List (Nat × Value)} {st : List Value} {y0 : MethodName} {b0 : ByteArray} {nl0 : Nat} {ret0 : Option FieldType} (ok : gO X cc "TripleStore$Store" (wsM y0 b0 nl0 ret0)) (hd : decode cc pc = .ok (.getfield 14, 3)) {o : Nat} {fs : List Value} {v : Value} (he : M[o]? = some (.inr (6, fs))) (hv : fs[0]? = some v) (kk : gg X M k n (pc + 3) L (v :: st)) : gg X M k n pc L (.ref o :: st) := g_get ok (C := RSt) (T := TSt) (N := 8) (f := 0) (ref := "TripleStore$Store") (fun w h => List.mem_cons_of_mem _ (inSt w h)) rfl (by decide) (List.mem_cons_of_mem _ fl_St_14) rfl hd he hv kk
theorem pf_St_14 {X : gC} {cc : ByteArray} {M : List mC} {k n pc : Nat} {L : List (Nat × Value)} {st : List Value} {y0 : MethodName} {b0 : ByteArray} {nl0 : Nat} {ret0 : Option FieldType} (ok : gO X cc "TripleStore$Store" (wsM y0 b0 nl0 ret0)) (hin2 : (gM X).name = "<init>") (hd : decode cc pc = .ok (.putfield 14, 3)) {o : Nat} {fs : List Value} {v : Value} (he : M[o]? = some (.inr (6, fs))) (hl : 0 < fs.length) (hn : ∀ ad : Nat → Nat, narrow (.object "TripleStore$Triples") (mc_v ad v) = mc_v ad v ∧ fits (.object "TripleStore$Triples") (mc_v ad v) = true) (kk : gg X (M.set o (.inr (6, fs.set 0 v))) k n (pc + 3) L st) : gg X M k n pc L (v :: .ref o :: st) := g_putF ok (C := RSt) (T := TSt) (N := 8) (f := 0) (ref := "TripleStore$Store") (fun w h => List.mem_cons_of_mem _ (inSt w h)) tySt okSt nmSt rfl (by decide) (List.mem_cons_of_mem _ fl_St_14) rfl rfl hin2 rfl (by decide +kernel) hd he hl hn kk
theorem fl_St_20 : Cond.fieldLink "TripleStore$Store" 20 "TripleStore$Store" "log" "LTripleStore$Triples;" ∈ gT := gT_at 58 (by decide +kernel) (by decide +kernel)
theorem gf_St_20 {X : gC} {cc : ByteArray} {M : List mC} {k n pc : Nat} {L : List (Nat × Value)} {st : List Value} {y0 : MethodName} {b0 : ByteArray} {nl0 : Nat} {ret0 : Option FieldType} (ok : gO X cc "TripleStore$Store" (wsM y0 b0 nl0 ret0)) (hd : decode cc pc = .ok (.getfield 20, 3)) {o : Nat} {fs : List Value} {v : Value} (he : M[o]? = some (.inr (6, fs))) (hv : fs[1]? = some v) (kk : gg X M k n (pc + 3) L (v :: st)) : gg X M k n pc L (.ref o :: st) := g_get ok (C := RSt) (T := TSt) (N := 8) (f := 1) (ref := "TripleStore$Store") (fun w h => List.mem_cons_of_mem _ (inSt w h)) rfl (by decide) (List.mem_cons_of_mem _ fl_St_20) rfl hd he hv kk
theorem pf_St_20 {X : gC} {cc : ByteArray} {M : List mC} {k n pc : Nat} {L : List (Nat × Value)} {st : List Value} {y0 : MethodName} {b0 : ByteArray} {nl0 : Nat} {ret0 : Option FieldType} (ok : gO X cc "TripleStore$Store" (wsM y0 b0 nl0 ret0)) (hin2 : (gM X).name = "<init>") (hd : decode cc pc = .ok (.putfield 20, 3)) {o : Nat} {fs : List Value} {v : Value} (he : M[o]? = some (.inr (6, fs))) (hl : 1 < fs.length) (hn : ∀ ad : Nat → Nat, narrow (.object "TripleStore$Triples") (mc_v ad v) = mc_v ad v ∧ fits (.object "TripleStore$Triples") (mc_v ad v) = true) (kk : gg X (M.set o (.inr (6, fs.set 1 v))) k n (pc + 3) L st) : gg X M k n pc L (v :: .ref o :: st) := g_putF ok (C := RSt) (T := TSt) (N := 8) (f := 1) (ref := "TripleStore$Store") (fun w h => List.mem_cons_of_mem _ (inSt w h)) tySt okSt nmSt rfl (by decide) (List.mem_cons_of_mem _ fl_St_20) rfl rfl hin2 rfl (by decide +kernel) hd he hl hn kk
theorem fl_St_23 : Cond.fieldLink "TripleStore$Store" 23 "TripleStore$Store" "wasInsert" "[Z" ∈ gT := gT_at 59 (by decide +kernel) (by decide +kernel)
theorem gf_St_23 {X : gC} {cc : ByteArray} {M : List mC} {k n pc : Nat} {L : List (Nat × Value)} {st : List Value} {y0 : MethodName} {b0 : ByteArray} {nl0 : Nat} {ret0 : Option FieldType} (ok : gO X cc "TripleStore$Store" (wsM y0 b0 nl0 ret0)) (hd : decode cc pc = .ok (.getfield 23, 3)) {o : Nat} {fs : List Value} {v : Value} (he : M[o]? = some (.inr (6, fs))) (hv : fs[2]? = some v) (kk : gg X M k n (pc + 3) L (v :: st)) : gg X M k n pc L (.ref o :: st) := g_get ok (C := RSt) (T := TSt) (N := 8) (f := 2) (ref := "TripleStore$Store") (fun w h => List.mem_cons_of_mem _ (inSt w h)) rfl (by decide) (List.mem_cons_of_mem _ fl_St_23) rfl hd he hv kk
theorem pf_St_23 {X : gC} {cc : ByteArray} {M : List mC} {k n pc : Nat} {L : List (Nat × Value)} {st : List Value} {y0 : MethodName} {b0 : ByteArray} {nl0 : Nat} {ret0 : Option FieldType} (ok : gO X cc "TripleStore$Store" (wsM y0 b0 nl0 ret0)) (hin2 : (gM X).name = "<init>") (hd : decode cc pc = .ok (.putfield 23, 3)) {o : Nat} {fs : List Value} {v : Value} (he : M[o]? = some (.inr (6, fs))) (hl : 2 < fs.length) (hn : ∀ ad : Nat → Nat, narrow (.array .boolean) (mc_v ad v) = mc_v ad v ∧ fits (.array .boolean) (mc_v ad v) = true) (kk : gg X (M.set o (.inr (6, fs.set 2 v))) k n (pc + 3) L st) : gg X M k n pc L (v :: .ref o :: st) := g_putF ok (C := RSt) (T := TSt) (N := 8) (f := 2) (ref := "TripleStore$Store") (fun w h => List.mem_cons_of_mem _ (inSt w h)) tySt okSt nmSt rfl (by decide) (List.mem_cons_of_mem _ fl_St_23) rfl rfl hin2 rfl (by decide +kernel) hd he hl hn kk
theorem fl_St_27 : Cond.fieldLink "TripleStore$Store" 27 "TripleStore$Store" "transactionOf" "[I" ∈ gT := gT_at 60 (by decide +kernel) (by decide +kernel)
theorem gf_St_27 {X : gC} {cc : ByteArray} {M : List mC} {k n pc : Nat} {L : List (Nat × Value)} {st : List Value} {y0 : MethodName} {b0 : ByteArray} {nl0 : Nat} {ret0 : Option FieldType} (ok : gO X cc "TripleStore$Store" (wsM y0 b0 nl0 ret0)) (hd : decode cc pc = .ok (.getfield 27, 3)) {o : Nat} {fs : List Value} {v : Value} (he : M[o]? = some (.inr (6, fs))) (hv : fs[3]? = some v) (kk : gg X M k n (pc + 3) L (v :: st)) : gg X M k n pc L (.ref o :: st) := g_get ok (C := RSt) (T := TSt) (N := 8) (f := 3) (ref := "TripleStore$Store") (fun w h => List.mem_cons_of_mem _ (inSt w h)) rfl (by decide) (List.mem_cons_of_mem _ fl_St_27) rfl hd he hv kk
theorem pf_St_27 {X : gC} {cc : ByteArray} {M : List mC} {k n pc : Nat} {L : List (Nat × Value)} {st : List Value} {y0 : MethodName} {b0 : ByteArray} {nl0 : Nat} {ret0 : Option FieldType} (ok : gO X cc "TripleStore$Store" (wsM y0 b0 nl0 ret0)) (hin2 : (gM X).name = "<init>") (hd : decode cc pc = .ok (.putfield 27, 3)) {o : Nat} {fs : List Value} {v : Value} (he : M[o]? = some (.inr (6, fs))) (hl : 3 < fs.length) (hn : ∀ ad : Nat → Nat, narrow (.array .int) (mc_v ad v) = mc_v ad v ∧ fits (.array .int) (mc_v ad v) = true) (kk : gg X (M.set o (.inr (6, fs.set 3 v))) k n (pc + 3) L st) : gg X M k n pc L (v :: .ref o :: st) := g_putF ok (C := RSt) (T := TSt) (N := 8) (f := 3) (ref := "TripleStore$Store") (fun w h => List.mem_cons_of_mem _ (inSt w h)) tySt okSt nmSt rfl (by decide) (List.mem_cons_of_mem _ fl_St_27) rfl rfl hin2 rfl (by decide +kernel) hd he hl hn kk
theorem fl_St_31 : Cond.fieldLink "TripleStore$Store" 31 "TripleStore$Store" "open" "Z" ∈ gT := gT_at 61 (by decide +kernel) (by decide +kernel)
theorem gf_St_31 {X : gC} {cc : ByteArray} {M : List mC} {k n pc : Nat} {L : List (Nat × Value)} {st : List Value} {y0 : MethodName} {b0 : ByteArray} {nl0 : Nat} {ret0 : Option FieldType} (ok : gO X cc "TripleStore$Store" (wsM y0 b0 nl0 ret0)) (hd : decode cc pc = .ok (.getfield 31, 3)) {o : Nat} {fs : List Value} {v : Value} (he : M[o]? = some (.inr (6, fs))) (hv : fs[4]? = some v) (kk : gg X M k n (pc + 3) L (v :: st)) : gg X M k n pc L (.ref o :: st) := g_get ok (C := RSt) (T := TSt) (N := 8) (f := 4) (ref := "TripleStore$Store") (fun w h => List.mem_cons_of_mem _ (inSt w h)) rfl (by decide) (List.mem_cons_of_mem _ fl_St_31) rfl hd he hv kk
theorem pf_St_31 {X : gC} {cc : ByteArray} {M : List mC} {k n pc : Nat} {L : List (Nat × Value)} {st : List Value} {y0 : MethodName} {b0 : ByteArray} {nl0 : Nat} {ret0 : Option FieldType} (ok : gO X cc "TripleStore$Store" (wsM y0 b0 nl0 ret0)) (hd : decode cc pc = .ok (.putfield 31, 3)) {o : Nat} {fs : List Value} {v : Value} (he : M[o]? = some (.inr (6, fs))) (hl : 4 < fs.length) (hn : ∀ ad : Nat → Nat, narrow .boolean (mc_v ad v) = mc_v ad v ∧ fits .boolean (mc_v ad v) = true) (kk : gg X (M.set o (.inr (6, fs.set 4 v))) k n (pc + 3) L st) : gg X M k n pc L (v :: .ref o :: st) := g_put ok (C := RSt) (T := TSt) (N := 8) (f := 4) (ref := "TripleStore$Store") (fun w h => List.mem_cons_of_mem _ (inSt w h)) tySt okSt nmSt rfl (by decide) (List.mem_cons_of_mem _ fl_St_31) rfl rfl (by decide +kernel) hd he hl hn kk
theorem fl_St_35 : Cond.fieldLink "TripleStore$Store" 35 "TripleStore$Store" "changes" "I" ∈ gT := gT_at 62 (by decide +kernel) (by decide +kernel)
theorem gf_St_35 {X : gC} {cc : ByteArray} {M : List mC} {k n pc : Nat} {L : List (Nat × Value)} {st : List Value} {y0 : MethodName} {b0 : ByteArray} {nl0 : Nat} {ret0 : Option FieldType} (ok : gO X cc "TripleStore$Store" (wsM y0 b0 nl0 ret0)) (hd : decode cc pc = .ok (.getfield 35, 3)) {o : Nat} {fs : List Value} {v : Value} (he : M[o]? = some (.inr (6, fs))) (hv : fs[5]? = some v) (kk : gg X M k n (pc + 3) L (v :: st)) : gg X M k n pc L (.ref o :: st) := g_get ok (C := RSt) (T := TSt) (N := 8) (f := 5) (ref := "TripleStore$Store") (fun w h => List.mem_cons_of_mem _ (inSt w h)) rfl (by decide) (List.mem_cons_of_mem _ fl_St_35) rfl hd he hv kk
theorem pf_St_35 {X : gC} {cc : ByteArray} {M : List mC} {k n pc : Nat} {L : List (Nat × Value)} {st : List Value} {y0 : MethodName} {b0 : ByteArray} {nl0 : Nat} {ret0 : Option FieldType} (ok : gO X cc "TripleStore$Store" (wsM y0 b0 nl0 ret0)) (hd : decode cc pc = .ok (.putfield 35, 3)) {o : Nat} {fs : List Value} {v : Value} (he : M[o]? = some (.inr (6, fs))) (hl : 5 < fs.length) (hn : ∀ ad : Nat → Nat, narrow .int (mc_v ad v) = mc_v ad v ∧ fits .int (mc_v ad v) = true) (kk : gg X (M.set o (.inr (6, fs.set 5 v))) k n (pc + 3) L st) : gg X M k n pc L (v :: .ref o :: st) := g_put ok (C := RSt) (T := TSt) (N := 8) (f := 5) (ref := "TripleStore$Store") (fun w h => List.mem_cons_of_mem _ (inSt w h)) tySt okSt nmSt rfl (by decide) (List.mem_cons_of_mem _ fl_St_35) rfl rfl (by decide +kernel) hd he hl hn kk
theorem fl_St_39 : Cond.fieldLink "TripleStore$Store" 39 "TripleStore$Store" "committed" "I" ∈ gT := gT_at 63 (by decide +kernel) (by decide +kernel)
theorem gf_St_39 {X : gC} {cc : ByteArray} {M : List mC} {k n pc : Nat} {L : List (Nat × Value)} {st : List Value} {y0 : MethodName} {b0 : ByteArray} {nl0 : Nat} {ret0 : Option FieldType} (ok : gO X cc "TripleStore$Store" (wsM y0 b0 nl0 ret0)) (hd : decode cc pc = .ok (.getfield 39, 3)) {o : Nat} {fs : List Value} {v : Value} (he : M[o]? = some (.inr (6, fs))) (hv : fs[6]? = some v) (kk : gg X M k n (pc + 3) L (v :: st)) : gg X M k n pc L (.ref o :: st) := g_get ok (C := RSt) (T := TSt) (N := 8) (f := 6) (ref := "TripleStore$Store") (fun w h => List.mem_cons_of_mem _ (inSt w h)) rfl (by decide) (List.mem_cons_of_mem _ fl_St_39) rfl hd he hv kk
theorem pf_St_39 {X : gC} {cc : ByteArray} {M : List mC} {k n pc : Nat} {L : List (Nat × Value)} {st : List Value} {y0 : MethodName} {b0 : ByteArray} {nl0 : Nat} {ret0 : Option FieldType} (ok : gO X cc "TripleStore$Store" (wsM y0 b0 nl0 ret0)) (hd : decode cc pc = .ok (.putfield 39, 3)) {o : Nat} {fs : List Value} {v : Value} (he : M[o]? = some (.inr (6, fs))) (hl : 6 < fs.length) (hn : ∀ ad : Nat → Nat, narrow .int (mc_v ad v) = mc_v ad v ∧ fits .int (mc_v ad v) = true) (kk : gg X (M.set o (.inr (6, fs.set 6 v))) k n (pc + 3) L st) : gg X M k n pc L (v :: .ref o :: st) := g_put ok (C := RSt) (T := TSt) (N := 8) (f := 6) (ref := "TripleStore$Store") (fun w h => List.mem_cons_of_mem _ (inSt w h)) tySt okSt nmSt rfl (by decide) (List.mem_cons_of_mem _ fl_St_39) rfl rfl (by decide +kernel) hd he hl hn kk
theorem fl_St_42 : Cond.fieldLink "TripleStore$Store" 42 "TripleStore$Store" "unsynced" "I" ∈ gT := gT_at 64 (by decide +kernel) (by decide +kernel)
theorem gf_St_42 {X : gC} {cc : ByteArray} {M : List mC} {k n pc : Nat} {L : List (Nat × Value)} {st : List Value} {y0 : MethodName} {b0 : ByteArray} {nl0 : Nat} {ret0 : Option FieldType} (ok : gO X cc "TripleStore$Store" (wsM y0 b0 nl0 ret0)) (hd : decode cc pc = .ok (.getfield 42, 3)) {o : Nat} {fs : List Value} {v : Value} (he : M[o]? = some (.inr (6, fs))) (hv : fs[7]? = some v) (kk : gg X M k n (pc + 3) L (v :: st)) : gg X M k n pc L (.ref o :: st) := g_get ok (C := RSt) (T := TSt) (N := 8) (f := 7) (ref := "TripleStore$Store") (fun w h => List.mem_cons_of_mem _ (inSt w h)) rfl (by decide) (List.mem_cons_of_mem _ fl_St_42) rfl hd he hv kk
theorem pf_St_42 {X : gC} {cc : ByteArray} {M : List mC} {k n pc : Nat} {L : List (Nat × Value)} {st : List Value} {y0 : MethodName} {b0 : ByteArray} {nl0 : Nat} {ret0 : Option FieldType} (ok : gO X cc "TripleStore$Store" (wsM y0 b0 nl0 ret0)) (hd : decode cc pc = .ok (.putfield 42, 3)) {o : Nat} {fs : List Value} {v : Value} (he : M[o]? = some (.inr (6, fs))) (hl : 7 < fs.length) (hn : ∀ ad : Nat → Nat, narrow .int (mc_v ad v) = mc_v ad v ∧ fits .int (mc_v ad v) = true) (kk : gg X (M.set o (.inr (6, fs.set 7 v))) k n (pc + 3) L st) : gg X M k n pc L (v :: .ref o :: st) := g_put ok (C := RSt) (T := TSt) (N := 8) (f := 7) (ref := "TripleStore$Store") (fun w h => List.mem_cons_of_mem _ (inSt w h)) tySt okSt nmSt rfl (by decide) (List.mem_cons_of_mem _ fl_St_42) rfl rfl (by decide +kernel) hd he hl hn kk
theorem fl_To_9 : Cond.fieldLink "TripleStore$Tokens" 9 "TripleStore$Tokens" "kinds" "[I" ∈ gT := gT_at 90 (by decide +kernel) (by decide +kernel)
theorem gf_To_9 {X : gC} {cc : ByteArray} {M : List mC} {k n pc : Nat} {L : List (Nat × Value)} {st : List Value} {y0 : MethodName} {b0 : ByteArray} {nl0 : Nat} {ret0 : Option FieldType} (ok : gO X cc "TripleStore$Tokens" (wsM y0 b0 nl0 ret0)) (hd : decode cc pc = .ok (.getfield 9, 3)) {o : Nat} {fs : List Value} {v : Value} (he : M[o]? = some (.inr (7, fs))) (hv : fs[0]? = some v) (kk : gg X M k n (pc + 3) L (v :: st)) : gg X M k n pc L (.ref o :: st) := g_get ok (C := RTo) (T := TTo) (N := 5) (f := 0) (ref := "TripleStore$Tokens") (fun w h => List.mem_cons_of_mem _ (inTo w h)) rfl (by decide) (List.mem_cons_of_mem _ fl_To_9) rfl hd he hv kk
theorem pf_To_9 {X : gC} {cc : ByteArray} {M : List mC} {k n pc : Nat} {L : List (Nat × Value)} {st : List Value} {y0 : MethodName} {b0 : ByteArray} {nl0 : Nat} {ret0 : Option FieldType} (ok : gO X cc "TripleStore$Tokens" (wsM y0 b0 nl0 ret0)) (hin2 : (gM X).name = "<init>") (hd : decode cc pc = .ok (.putfield 9, 3)) {o : Nat} {fs : List Value} {v : Value} (he : M[o]? = some (.inr (7, fs))) (hl : 0 < fs.length) (hn : ∀ ad : Nat → Nat, narrow (.array .int) (mc_v ad v) = mc_v ad v ∧ fits (.array .int) (mc_v ad v) = true) (kk : gg X (M.set o (.inr (7, fs.set 0 v))) k n (pc + 3) L st) : gg X M k n pc L (v :: .ref o :: st) := g_putF ok (C := RTo) (T := TTo) (N := 5) (f := 0) (ref := "TripleStore$Tokens") (fun w h => List.mem_cons_of_mem _ (inTo w h)) tyTo okTo nmTo rfl (by decide) (List.mem_cons_of_mem _ fl_To_9) rfl rfl hin2 rfl (by decide +kernel) hd he hl hn kk
theorem fl_To_15 : Cond.fieldLink "TripleStore$Tokens" 15 "TripleStore$Tokens" "values" "[J" ∈ gT := gT_at 91 (by decide +kernel) (by decide +kernel)
theorem gf_To_15 {X : gC} {cc : ByteArray} {M : List mC} {k n pc : Nat} {L : List (Nat × Value)} {st : List Value} {y0 : MethodName} {b0 : ByteArray} {nl0 : Nat} {ret0 : Option FieldType} (ok : gO X cc "TripleStore$Tokens" (wsM y0 b0 nl0 ret0)) (hd : decode cc pc = .ok (.getfield 15, 3)) {o : Nat} {fs : List Value} {v : Value} (he : M[o]? = some (.inr (7, fs))) (hv : fs[1]? = some v) (kk : gg X M k n (pc + 3) L (v :: st)) : gg X M k n pc L (.ref o :: st) := g_get ok (C := RTo) (T := TTo) (N := 5) (f := 1) (ref := "TripleStore$Tokens") (fun w h => List.mem_cons_of_mem _ (inTo w h)) rfl (by decide) (List.mem_cons_of_mem _ fl_To_15) rfl hd he hv kk
theorem pf_To_15 {X : gC} {cc : ByteArray} {M : List mC} {k n pc : Nat} {L : List (Nat × Value)} {st : List Value} {y0 : MethodName} {b0 : ByteArray} {nl0 : Nat} {ret0 : Option FieldType} (ok : gO X cc "TripleStore$Tokens" (wsM y0 b0 nl0 ret0)) (hin2 : (gM X).name = "<init>") (hd : decode cc pc = .ok (.putfield 15, 3)) {o : Nat} {fs : List Value} {v : Value} (he : M[o]? = some (.inr (7, fs))) (hl : 1 < fs.length) (hn : ∀ ad : Nat → Nat, narrow (.array .long) (mc_v ad v) = mc_v ad v ∧ fits (.array .long) (mc_v ad v) = true) (kk : gg X (M.set o (.inr (7, fs.set 1 v))) k n (pc + 3) L st) : gg X M k n pc L (v :: .ref o :: st) := g_putF ok (C := RTo) (T := TTo) (N := 5) (f := 1) (ref := "TripleStore$Tokens") (fun w h => List.mem_cons_of_mem _ (inTo w h)) tyTo okTo nmTo rfl (by decide) (List.mem_cons_of_mem _ fl_To_15) rfl rfl hin2 rfl (by decide +kernel) hd he hl hn kk
theorem fl_To_19 : Cond.fieldLink "TripleStore$Tokens" 19 "TripleStore$Tokens" "places" "[I" ∈ gT := gT_at 92 (by decide +kernel) (by decide +kernel)
theorem gf_To_19 {X : gC} {cc : ByteArray} {M : List mC} {k n pc : Nat} {L : List (Nat × Value)} {st : List Value} {y0 : MethodName} {b0 : ByteArray} {nl0 : Nat} {ret0 : Option FieldType} (ok : gO X cc "TripleStore$Tokens" (wsM y0 b0 nl0 ret0)) (hd : decode cc pc = .ok (.getfield 19, 3)) {o : Nat} {fs : List Value} {v : Value} (he : M[o]? = some (.inr (7, fs))) (hv : fs[2]? = some v) (kk : gg X M k n (pc + 3) L (v :: st)) : gg X M k n pc L (.ref o :: st) := g_get ok (C := RTo) (T := TTo) (N := 5) (f := 2) (ref := "TripleStore$Tokens") (fun w h => List.mem_cons_of_mem _ (inTo w h)) rfl (by decide) (List.mem_cons_of_mem _ fl_To_19) rfl hd he hv kk
theorem pf_To_19 {X : gC} {cc : ByteArray} {M : List mC} {k n pc : Nat} {L : List (Nat × Value)} {st : List Value} {y0 : MethodName} {b0 : ByteArray} {nl0 : Nat} {ret0 : Option FieldType} (ok : gO X cc "TripleStore$Tokens" (wsM y0 b0 nl0 ret0)) (hin2 : (gM X).name = "<init>") (hd : decode cc pc = .ok (.putfield 19, 3)) {o : Nat} {fs : List Value} {v : Value} (he : M[o]? = some (.inr (7, fs))) (hl : 2 < fs.length) (hn : ∀ ad : Nat → Nat, narrow (.array .int) (mc_v ad v) = mc_v ad v ∧ fits (.array .int) (mc_v ad v) = true) (kk : gg X (M.set o (.inr (7, fs.set 2 v))) k n (pc + 3) L st) : gg X M k n pc L (v :: .ref o :: st) := g_putF ok (C := RTo) (T := TTo) (N := 5) (f := 2) (ref := "TripleStore$Tokens") (fun w h => List.mem_cons_of_mem _ (inTo w h)) tyTo okTo nmTo rfl (by decide) (List.mem_cons_of_mem _ fl_To_19) rfl rfl hin2 rfl (by decide +kernel) hd he hl hn kk
theorem fl_To_22 : Cond.fieldLink "TripleStore$Tokens" 22 "TripleStore$Tokens" "size" "I" ∈ gT := gT_at 93 (by decide +kernel) (by decide +kernel)
theorem gf_To_22 {X : gC} {cc : ByteArray} {M : List mC} {k n pc : Nat} {L : List (Nat × Value)} {st : List Value} {y0 : MethodName} {b0 : ByteArray} {nl0 : Nat} {ret0 : Option FieldType} (ok : gO X cc "TripleStore$Tokens" (wsM y0 b0 nl0 ret0)) (hd : decode cc pc = .ok (.getfield 22, 3)) {o : Nat} {fs : List Value} {v : Value} (he : M[o]? = some (.inr (7, fs))) (hv : fs[3]? = some v) (kk : gg X M k n (pc + 3) L (v :: st)) : gg X M k n pc L (.ref o :: st) := g_get ok (C := RTo) (T := TTo) (N := 5) (f := 3) (ref := "TripleStore$Tokens") (fun w h => List.mem_cons_of_mem _ (inTo w h)) rfl (by decide) (List.mem_cons_of_mem _ fl_To_22) rfl hd he hv kk
theorem pf_To_22 {X : gC} {cc : ByteArray} {M : List mC} {k n pc : Nat} {L : List (Nat × Value)} {st : List Value} {y0 : MethodName} {b0 : ByteArray} {nl0 : Nat} {ret0 : Option FieldType} (ok : gO X cc "TripleStore$Tokens" (wsM y0 b0 nl0 ret0)) (hd : decode cc pc = .ok (.putfield 22, 3)) {o : Nat} {fs : List Value} {v : Value} (he : M[o]? = some (.inr (7, fs))) (hl : 3 < fs.length) (hn : ∀ ad : Nat → Nat, narrow .int (mc_v ad v) = mc_v ad v ∧ fits .int (mc_v ad v) = true) (kk : gg X (M.set o (.inr (7, fs.set 3 v))) k n (pc + 3) L st) : gg X M k n pc L (v :: .ref o :: st) := g_put ok (C := RTo) (T := TTo) (N := 5) (f := 3) (ref := "TripleStore$Tokens") (fun w h => List.mem_cons_of_mem _ (inTo w h)) tyTo okTo nmTo rfl (by decide) (List.mem_cons_of_mem _ fl_To_22) rfl rfl (by decide +kernel) hd he hl hn kk
theorem fl_To_26 : Cond.fieldLink "TripleStore$Tokens" 26 "TripleStore$Tokens" "at" "I" ∈ gT := gT_at 94 (by decide +kernel) (by decide +kernel)
theorem gf_To_26 {X : gC} {cc : ByteArray} {M : List mC} {k n pc : Nat} {L : List (Nat × Value)} {st : List Value} {y0 : MethodName} {b0 : ByteArray} {nl0 : Nat} {ret0 : Option FieldType} (ok : gO X cc "TripleStore$Tokens" (wsM y0 b0 nl0 ret0)) (hd : decode cc pc = .ok (.getfield 26, 3)) {o : Nat} {fs : List Value} {v : Value} (he : M[o]? = some (.inr (7, fs))) (hv : fs[4]? = some v) (kk : gg X M k n (pc + 3) L (v :: st)) : gg X M k n pc L (.ref o :: st) := g_get ok (C := RTo) (T := TTo) (N := 5) (f := 4) (ref := "TripleStore$Tokens") (fun w h => List.mem_cons_of_mem _ (inTo w h)) rfl (by decide) (List.mem_cons_of_mem _ fl_To_26) rfl hd he hv kk
theorem pf_To_26 {X : gC} {cc : ByteArray} {M : List mC} {k n pc : Nat} {L : List (Nat × Value)} {st : List Value} {y0 : MethodName} {b0 : ByteArray} {nl0 : Nat} {ret0 : Option FieldType} (ok : gO X cc "TripleStore$Tokens" (wsM y0 b0 nl0 ret0)) (hd : decode cc pc = .ok (.putfield 26, 3)) {o : Nat} {fs : List Value} {v : Value} (he : M[o]? = some (.inr (7, fs))) (hl : 4 < fs.length) (hn : ∀ ad : Nat → Nat, narrow .int (mc_v ad v) = mc_v ad v ∧ fits .int (mc_v ad v) = true) (kk : gg X (M.set o (.inr (7, fs.set 4 v))) k n (pc + 3) L st) : gg X M k n pc L (v :: .ref o :: st) := g_put ok (C := RTo) (T := TTo) (N := 5) (f := 4) (ref := "TripleStore$Tokens") (fun w h => List.mem_cons_of_mem _ (inTo w h)) tyTo okTo nmTo rfl (by decide) (List.mem_cons_of_mem _ fl_To_26) rfl rfl (by decide +kernel) hd he hl hn kk
theorem fl_El_11 : Cond.fieldLink "TripleStore$Element" 11 "TripleStore$Element" "kind" "I" ∈ gT := gT_at 120 (by decide +kernel) (by decide +kernel)
theorem gf_El_11 {X : gC} {cc : ByteArray} {M : List mC} {k n pc : Nat} {L : List (Nat × Value)} {st : List Value} {y0 : MethodName} {b0 : ByteArray} {nl0 : Nat} {ret0 : Option FieldType} (ok : gO X cc "TripleStore$Element" (wsM y0 b0 nl0 ret0)) (hd : decode cc pc = .ok (.getfield 11, 3)) {o : Nat} {fs : List Value} {v : Value} (he : M[o]? = some (.inr (0, fs))) (hv : fs[0]? = some v) (kk : gg X M k n (pc + 3) L (v :: st)) : gg X M k n pc L (.ref o :: st) := g_get ok (C := REl) (T := TEl) (N := 7) (f := 0) (ref := "TripleStore$Element") (fun w h => List.mem_cons_of_mem _ (inEl w h)) rfl (by decide) (List.mem_cons_of_mem _ fl_El_11) rfl hd he hv kk
theorem pf_El_11 {X : gC} {cc : ByteArray} {M : List mC} {k n pc : Nat} {L : List (Nat × Value)} {st : List Value} {y0 : MethodName} {b0 : ByteArray} {nl0 : Nat} {ret0 : Option FieldType} (ok : gO X cc "TripleStore$Element" (wsM y0 b0 nl0 ret0)) (hd : decode cc pc = .ok (.putfield 11, 3)) {o : Nat} {fs : List Value} {v : Value} (he : M[o]? = some (.inr (0, fs))) (hl : 0 < fs.length) (hn : ∀ ad : Nat → Nat, narrow .int (mc_v ad v) = mc_v ad v ∧ fits .int (mc_v ad v) = true) (kk : gg X (M.set o (.inr (0, fs.set 0 v))) k n (pc + 3) L st) : gg X M k n pc L (v :: .ref o :: st) := g_put ok (C := REl) (T := TEl) (N := 7) (f := 0) (ref := "TripleStore$Element") (fun w h => List.mem_cons_of_mem _ (inEl w h)) tyEl okEl nmEl rfl (by decide) (List.mem_cons_of_mem _ fl_El_11) rfl rfl (by decide +kernel) hd he hl hn kk
theorem fl_El_15 : Cond.fieldLink "TripleStore$Element" 15 "TripleStore$Element" "home" "I" ∈ gT := gT_at 123 (by decide +kernel) (by decide +kernel)
theorem gf_El_15 {X : gC} {cc : ByteArray} {M : List mC} {k n pc : Nat} {L : List (Nat × Value)} {st : List Value} {y0 : MethodName} {b0 : ByteArray} {nl0 : Nat} {ret0 : Option FieldType} (ok : gO X cc "TripleStore$Element" (wsM y0 b0 nl0 ret0)) (hd : decode cc pc = .ok (.getfield 15, 3)) {o : Nat} {fs : List Value} {v : Value} (he : M[o]? = some (.inr (0, fs))) (hv : fs[1]? = some v) (kk : gg X M k n (pc + 3) L (v :: st)) : gg X M k n pc L (.ref o :: st) := g_get ok (C := REl) (T := TEl) (N := 7) (f := 1) (ref := "TripleStore$Element") (fun w h => List.mem_cons_of_mem _ (inEl w h)) rfl (by decide) (List.mem_cons_of_mem _ fl_El_15) rfl hd he hv kk
theorem pf_El_15 {X : gC} {cc : ByteArray} {M : List mC} {k n pc : Nat} {L : List (Nat × Value)} {st : List Value} {y0 : MethodName} {b0 : ByteArray} {nl0 : Nat} {ret0 : Option FieldType} (ok : gO X cc "TripleStore$Element" (wsM y0 b0 nl0 ret0)) (hd : decode cc pc = .ok (.putfield 15, 3)) {o : Nat} {fs : List Value} {v : Value} (he : M[o]? = some (.inr (0, fs))) (hl : 1 < fs.length) (hn : ∀ ad : Nat → Nat, narrow .int (mc_v ad v) = mc_v ad v ∧ fits .int (mc_v ad v) = true) (kk : gg X (M.set o (.inr (0, fs.set 1 v))) k n (pc + 3) L st) : gg X M k n pc L (v :: .ref o :: st) := g_put ok (C := REl) (T := TEl) (N := 7) (f := 1) (ref := "TripleStore$Element") (fun w h => List.mem_cons_of_mem _ (inEl w h)) tyEl okEl nmEl rfl (by decide) (List.mem_cons_of_mem _ fl_El_15) rfl rfl (by decide +kernel) hd he hl hn kk
theorem fl_El_18 : Cond.fieldLink "TripleStore$Element" 18 "TripleStore$Element" "first" "J" ∈ gT := gT_at 126 (by decide +kernel) (by decide +kernel)
theorem gf_El_18 {X : gC} {cc : ByteArray} {M : List mC} {k n pc : Nat} {L : List (Nat × Value)} {st : List Value} {y0 : MethodName} {b0 : ByteArray} {nl0 : Nat} {ret0 : Option FieldType} (ok : gO X cc "TripleStore$Element" (wsM y0 b0 nl0 ret0)) (hd : decode cc pc = .ok (.getfield 18, 3)) {o : Nat} {fs : List Value} {v : Value} (he : M[o]? = some (.inr (0, fs))) (hv : fs[2]? = some v) (kk : gg X M k n (pc + 3) L (v :: st)) : gg X M k n pc L (.ref o :: st) := g_get ok (C := REl) (T := TEl) (N := 7) (f := 2) (ref := "TripleStore$Element") (fun w h => List.mem_cons_of_mem _ (inEl w h)) rfl (by decide) (List.mem_cons_of_mem _ fl_El_18) rfl hd he hv kk
theorem pf_El_18 {X : gC} {cc : ByteArray} {M : List mC} {k n pc : Nat} {L : List (Nat × Value)} {st : List Value} {y0 : MethodName} {b0 : ByteArray} {nl0 : Nat} {ret0 : Option FieldType} (ok : gO X cc "TripleStore$Element" (wsM y0 b0 nl0 ret0)) (hd : decode cc pc = .ok (.putfield 18, 3)) {o : Nat} {fs : List Value} {v : Value} (he : M[o]? = some (.inr (0, fs))) (hl : 2 < fs.length) (hn : ∀ ad : Nat → Nat, narrow .long (mc_v ad v) = mc_v ad v ∧ fits .long (mc_v ad v) = true) (kk : gg X (M.set o (.inr (0, fs.set 2 v))) k n (pc + 3) L st) : gg X M k n pc L (v :: .ref o :: st) := g_put ok (C := REl) (T := TEl) (N := 7) (f := 2) (ref := "TripleStore$Element") (fun w h => List.mem_cons_of_mem _ (inEl w h)) tyEl okEl nmEl rfl (by decide) (List.mem_cons_of_mem _ fl_El_18) rfl rfl (by decide +kernel) hd he hl hn kk
theorem fl_El_22 : Cond.fieldLink "TripleStore$Element" 22 "TripleStore$Element" "second" "J" ∈ gT := gT_at 129 (by decide +kernel) (by decide +kernel)
theorem gf_El_22 {X : gC} {cc : ByteArray} {M : List mC} {k n pc : Nat} {L : List (Nat × Value)} {st : List Value} {y0 : MethodName} {b0 : ByteArray} {nl0 : Nat} {ret0 : Option FieldType} (ok : gO X cc "TripleStore$Element" (wsM y0 b0 nl0 ret0)) (hd : decode cc pc = .ok (.getfield 22, 3)) {o : Nat} {fs : List Value} {v : Value} (he : M[o]? = some (.inr (0, fs))) (hv : fs[3]? = some v) (kk : gg X M k n (pc + 3) L (v :: st)) : gg X M k n pc L (.ref o :: st) := g_get ok (C := REl) (T := TEl) (N := 7) (f := 3) (ref := "TripleStore$Element") (fun w h => List.mem_cons_of_mem _ (inEl w h)) rfl (by decide) (List.mem_cons_of_mem _ fl_El_22) rfl hd he hv kk
theorem pf_El_22 {X : gC} {cc : ByteArray} {M : List mC} {k n pc : Nat} {L : List (Nat × Value)} {st : List Value} {y0 : MethodName} {b0 : ByteArray} {nl0 : Nat} {ret0 : Option FieldType} (ok : gO X cc "TripleStore$Element" (wsM y0 b0 nl0 ret0)) (hd : decode cc pc = .ok (.putfield 22, 3)) {o : Nat} {fs : List Value} {v : Value} (he : M[o]? = some (.inr (0, fs))) (hl : 3 < fs.length) (hn : ∀ ad : Nat → Nat, narrow .long (mc_v ad v) = mc_v ad v ∧ fits .long (mc_v ad v) = true) (kk : gg X (M.set o (.inr (0, fs.set 3 v))) k n (pc + 3) L st) : gg X M k n pc L (v :: .ref o :: st) := g_put ok (C := REl) (T := TEl) (N := 7) (f := 3) (ref := "TripleStore$Element") (fun w h => List.mem_cons_of_mem _ (inEl w h)) tyEl okEl nmEl rfl (by decide) (List.mem_cons_of_mem _ fl_El_22) rfl rfl (by decide +kernel) hd he hl hn kk
theorem fl_El_25 : Cond.fieldLink "TripleStore$Element" 25 "TripleStore$Element" "third" "J" ∈ gT := gT_at 132 (by decide +kernel) (by decide +kernel)
theorem gf_El_25 {X : gC} {cc : ByteArray} {M : List mC} {k n pc : Nat} {L : List (Nat × Value)} {st : List Value} {y0 : MethodName} {b0 : ByteArray} {nl0 : Nat} {ret0 : Option FieldType} (ok : gO X cc "TripleStore$Element" (wsM y0 b0 nl0 ret0)) (hd : decode cc pc = .ok (.getfield 25, 3)) {o : Nat} {fs : List Value} {v : Value} (he : M[o]? = some (.inr (0, fs))) (hv : fs[4]? = some v) (kk : gg X M k n (pc + 3) L (v :: st)) : gg X M k n pc L (.ref o :: st) := g_get ok (C := REl) (T := TEl) (N := 7) (f := 4) (ref := "TripleStore$Element") (fun w h => List.mem_cons_of_mem _ (inEl w h)) rfl (by decide) (List.mem_cons_of_mem _ fl_El_25) rfl hd he hv kk
theorem pf_El_25 {X : gC} {cc : ByteArray} {M : List mC} {k n pc : Nat} {L : List (Nat × Value)} {st : List Value} {y0 : MethodName} {b0 : ByteArray} {nl0 : Nat} {ret0 : Option FieldType} (ok : gO X cc "TripleStore$Element" (wsM y0 b0 nl0 ret0)) (hd : decode cc pc = .ok (.putfield 25, 3)) {o : Nat} {fs : List Value} {v : Value} (he : M[o]? = some (.inr (0, fs))) (hl : 4 < fs.length) (hn : ∀ ad : Nat → Nat, narrow .long (mc_v ad v) = mc_v ad v ∧ fits .long (mc_v ad v) = true) (kk : gg X (M.set o (.inr (0, fs.set 4 v))) k n (pc + 3) L st) : gg X M k n pc L (v :: .ref o :: st) := g_put ok (C := REl) (T := TEl) (N := 7) (f := 4) (ref := "TripleStore$Element") (fun w h => List.mem_cons_of_mem _ (inEl w h)) tyEl okEl nmEl rfl (by decide) (List.mem_cons_of_mem _ fl_El_25) rfl rfl (by decide +kernel) hd he hl hn kk
theorem fl_El_28 : Cond.fieldLink "TripleStore$Element" 28 "TripleStore$Element" "sign" "I" ∈ gT := gT_at 135 (by decide +kernel) (by decide +kernel)
theorem gf_El_28 {X : gC} {cc : ByteArray} {M : List mC} {k n pc : Nat} {L : List (Nat × Value)} {st : List Value} {y0 : MethodName} {b0 : ByteArray} {nl0 : Nat} {ret0 : Option FieldType} (ok : gO X cc "TripleStore$Element" (wsM y0 b0 nl0 ret0)) (hd : decode cc pc = .ok (.getfield 28, 3)) {o : Nat} {fs : List Value} {v : Value} (he : M[o]? = some (.inr (0, fs))) (hv : fs[5]? = some v) (kk : gg X M k n (pc + 3) L (v :: st)) : gg X M k n pc L (.ref o :: st) := g_get ok (C := REl) (T := TEl) (N := 7) (f := 5) (ref := "TripleStore$Element") (fun w h => List.mem_cons_of_mem _ (inEl w h)) rfl (by decide) (List.mem_cons_of_mem _ fl_El_28) rfl hd he hv kk
theorem pf_El_28 {X : gC} {cc : ByteArray} {M : List mC} {k n pc : Nat} {L : List (Nat × Value)} {st : List Value} {y0 : MethodName} {b0 : ByteArray} {nl0 : Nat} {ret0 : Option FieldType} (ok : gO X cc "TripleStore$Element" (wsM y0 b0 nl0 ret0)) (hd : decode cc pc = .ok (.putfield 28, 3)) {o : Nat} {fs : List Value} {v : Value} (he : M[o]? = some (.inr (0, fs))) (hl : 5 < fs.length) (hn : ∀ ad : Nat → Nat, narrow .int (mc_v ad v) = mc_v ad v ∧ fits .int (mc_v ad v) = true) (kk : gg X (M.set o (.inr (0, fs.set 5 v))) k n (pc + 3) L st) : gg X M k n pc L (v :: .ref o :: st) := g_put ok (C := REl) (T := TEl) (N := 7) (f := 5) (ref := "TripleStore$Element") (fun w h => List.mem_cons_of_mem _ (inEl w h)) tyEl okEl nmEl rfl (by decide) (List.mem_cons_of_mem _ fl_El_28) rfl rfl (by decide +kernel) hd he hl hn kk
theorem fl_El_31 : Cond.fieldLink "TripleStore$Element" 31 "TripleStore$Element" "negated" "Z" ∈ gT := gT_at 138 (by decide +kernel) (by decide +kernel)
theorem gf_El_31 {X : gC} {cc : ByteArray} {M : List mC} {k n pc : Nat} {L : List (Nat × Value)} {st : List Value} {y0 : MethodName} {b0 : ByteArray} {nl0 : Nat} {ret0 : Option FieldType} (ok : gO X cc "TripleStore$Element" (wsM y0 b0 nl0 ret0)) (hd : decode cc pc = .ok (.getfield 31, 3)) {o : Nat} {fs : List Value} {v : Value} (he : M[o]? = some (.inr (0, fs))) (hv : fs[6]? = some v) (kk : gg X M k n (pc + 3) L (v :: st)) : gg X M k n pc L (.ref o :: st) := g_get ok (C := REl) (T := TEl) (N := 7) (f := 6) (ref := "TripleStore$Element") (fun w h => List.mem_cons_of_mem _ (inEl w h)) rfl (by decide) (List.mem_cons_of_mem _ fl_El_31) rfl hd he hv kk
theorem pf_El_31 {X : gC} {cc : ByteArray} {M : List mC} {k n pc : Nat} {L : List (Nat × Value)} {st : List Value} {y0 : MethodName} {b0 : ByteArray} {nl0 : Nat} {ret0 : Option FieldType} (ok : gO X cc "TripleStore$Element" (wsM y0 b0 nl0 ret0)) (hd : decode cc pc = .ok (.putfield 31, 3)) {o : Nat} {fs : List Value} {v : Value} (he : M[o]? = some (.inr (0, fs))) (hl : 6 < fs.length) (hn : ∀ ad : Nat → Nat, narrow .boolean (mc_v ad v) = mc_v ad v ∧ fits .boolean (mc_v ad v) = true) (kk : gg X (M.set o (.inr (0, fs.set 6 v))) k n (pc + 3) L st) : gg X M k n pc L (v :: .ref o :: st) := g_put ok (C := REl) (T := TEl) (N := 7) (f := 6) (ref := "TripleStore$Element") (fun w h => List.mem_cons_of_mem _ (inEl w h)) tyEl okEl nmEl rfl (by decide) (List.mem_cons_of_mem _ fl_El_31) rfl rfl (by decide +kernel) hd he hl hn kk
theorem fl_Qu_9 : Cond.fieldLink "TripleStore$Query" 9 "TripleStore$Query" "names" "[J" ∈ gT := gT_at 156 (by decide +kernel) (by decide +kernel)
theorem gf_Qu_9 {X : gC} {cc : ByteArray} {M : List mC} {k n pc : Nat} {L : List (Nat × Value)} {st : List Value} {y0 : MethodName} {b0 : ByteArray} {nl0 : Nat} {ret0 : Option FieldType} (ok : gO X cc "TripleStore$Query" (wsM y0 b0 nl0 ret0)) (hd : decode cc pc = .ok (.getfield 9, 3)) {o : Nat} {fs : List Value} {v : Value} (he : M[o]? = some (.inr (2, fs))) (hv : fs[0]? = some v) (kk : gg X M k n (pc + 3) L (v :: st)) : gg X M k n pc L (.ref o :: st) := g_get ok (C := RQu) (T := TQu) (N := 12) (f := 0) (ref := "TripleStore$Query") (fun w h => List.mem_cons_of_mem _ (inQu w h)) rfl (by decide) (List.mem_cons_of_mem _ fl_Qu_9) rfl hd he hv kk
theorem pf_Qu_9 {X : gC} {cc : ByteArray} {M : List mC} {k n pc : Nat} {L : List (Nat × Value)} {st : List Value} {y0 : MethodName} {b0 : ByteArray} {nl0 : Nat} {ret0 : Option FieldType} (ok : gO X cc "TripleStore$Query" (wsM y0 b0 nl0 ret0)) (hin2 : (gM X).name = "<init>") (hd : decode cc pc = .ok (.putfield 9, 3)) {o : Nat} {fs : List Value} {v : Value} (he : M[o]? = some (.inr (2, fs))) (hl : 0 < fs.length) (hn : ∀ ad : Nat → Nat, narrow (.array .long) (mc_v ad v) = mc_v ad v ∧ fits (.array .long) (mc_v ad v) = true) (kk : gg X (M.set o (.inr (2, fs.set 0 v))) k n (pc + 3) L st) : gg X M k n pc L (v :: .ref o :: st) := g_putF ok (C := RQu) (T := TQu) (N := 12) (f := 0) (ref := "TripleStore$Query") (fun w h => List.mem_cons_of_mem _ (inQu w h)) tyQu okQu nmQu rfl (by decide) (List.mem_cons_of_mem _ fl_Qu_9) rfl rfl hin2 rfl (by decide +kernel) hd he hl hn kk
theorem fl_Qu_15 : Cond.fieldLink "TripleStore$Query" 15 "TripleStore$Query" "variables" "I" ∈ gT := gT_at 157 (by decide +kernel) (by decide +kernel)
theorem gf_Qu_15 {X : gC} {cc : ByteArray} {M : List mC} {k n pc : Nat} {L : List (Nat × Value)} {st : List Value} {y0 : MethodName} {b0 : ByteArray} {nl0 : Nat} {ret0 : Option FieldType} (ok : gO X cc "TripleStore$Query" (wsM y0 b0 nl0 ret0)) (hd : decode cc pc = .ok (.getfield 15, 3)) {o : Nat} {fs : List Value} {v : Value} (he : M[o]? = some (.inr (2, fs))) (hv : fs[1]? = some v) (kk : gg X M k n (pc + 3) L (v :: st)) : gg X M k n pc L (.ref o :: st) := g_get ok (C := RQu) (T := TQu) (N := 12) (f := 1) (ref := "TripleStore$Query") (fun w h => List.mem_cons_of_mem _ (inQu w h)) rfl (by decide) (List.mem_cons_of_mem _ fl_Qu_15) rfl hd he hv kk
theorem pf_Qu_15 {X : gC} {cc : ByteArray} {M : List mC} {k n pc : Nat} {L : List (Nat × Value)} {st : List Value} {y0 : MethodName} {b0 : ByteArray} {nl0 : Nat} {ret0 : Option FieldType} (ok : gO X cc "TripleStore$Query" (wsM y0 b0 nl0 ret0)) (hd : decode cc pc = .ok (.putfield 15, 3)) {o : Nat} {fs : List Value} {v : Value} (he : M[o]? = some (.inr (2, fs))) (hl : 1 < fs.length) (hn : ∀ ad : Nat → Nat, narrow .int (mc_v ad v) = mc_v ad v ∧ fits .int (mc_v ad v) = true) (kk : gg X (M.set o (.inr (2, fs.set 1 v))) k n (pc + 3) L st) : gg X M k n pc L (v :: .ref o :: st) := g_put ok (C := RQu) (T := TQu) (N := 12) (f := 1) (ref := "TripleStore$Query") (fun w h => List.mem_cons_of_mem _ (inQu w h)) tyQu okQu nmQu rfl (by decide) (List.mem_cons_of_mem _ fl_Qu_15) rfl rfl (by decide +kernel) hd he hl hn kk
theorem fl_Qu_19 : Cond.fieldLink "TripleStore$Query" 19 "TripleStore$Query" "selected" "[I" ∈ gT := gT_at 158 (by decide +kernel) (by decide +kernel)
theorem gf_Qu_19 {X : gC} {cc : ByteArray} {M : List mC} {k n pc : Nat} {L : List (Nat × Value)} {st : List Value} {y0 : MethodName} {b0 : ByteArray} {nl0 : Nat} {ret0 : Option FieldType} (ok : gO X cc "TripleStore$Query" (wsM y0 b0 nl0 ret0)) (hd : decode cc pc = .ok (.getfield 19, 3)) {o : Nat} {fs : List Value} {v : Value} (he : M[o]? = some (.inr (2, fs))) (hv : fs[2]? = some v) (kk : gg X M k n (pc + 3) L (v :: st)) : gg X M k n pc L (.ref o :: st) := g_get ok (C := RQu) (T := TQu) (N := 12) (f := 2) (ref := "TripleStore$Query") (fun w h => List.mem_cons_of_mem _ (inQu w h)) rfl (by decide) (List.mem_cons_of_mem _ fl_Qu_19) rfl hd he hv kk
theorem pf_Qu_19 {X : gC} {cc : ByteArray} {M : List mC} {k n pc : Nat} {L : List (Nat × Value)} {st : List Value} {y0 : MethodName} {b0 : ByteArray} {nl0 : Nat} {ret0 : Option FieldType} (ok : gO X cc "TripleStore$Query" (wsM y0 b0 nl0 ret0)) (hin2 : (gM X).name = "<init>") (hd : decode cc pc = .ok (.putfield 19, 3)) {o : Nat} {fs : List Value} {v : Value} (he : M[o]? = some (.inr (2, fs))) (hl : 2 < fs.length) (hn : ∀ ad : Nat → Nat, narrow (.array .int) (mc_v ad v) = mc_v ad v ∧ fits (.array .int) (mc_v ad v) = true) (kk : gg X (M.set o (.inr (2, fs.set 2 v))) k n (pc + 3) L st) : gg X M k n pc L (v :: .ref o :: st) := g_putF ok (C := RQu) (T := TQu) (N := 12) (f := 2) (ref := "TripleStore$Query") (fun w h => List.mem_cons_of_mem _ (inQu w h)) tyQu okQu nmQu rfl (by decide) (List.mem_cons_of_mem _ fl_Qu_19) rfl rfl hin2 rfl (by decide +kernel) hd he hl hn kk
theorem fl_Qu_23 : Cond.fieldLink "TripleStore$Query" 23 "TripleStore$Query" "columns" "I" ∈ gT := gT_at 161 (by decide +kernel) (by decide +kernel)
theorem gf_Qu_23 {X : gC} {cc : ByteArray} {M : List mC} {k n pc : Nat} {L : List (Nat × Value)} {st : List Value} {y0 : MethodName} {b0 : ByteArray} {nl0 : Nat} {ret0 : Option FieldType} (ok : gO X cc "TripleStore$Query" (wsM y0 b0 nl0 ret0)) (hd : decode cc pc = .ok (.getfield 23, 3)) {o : Nat} {fs : List Value} {v : Value} (he : M[o]? = some (.inr (2, fs))) (hv : fs[3]? = some v) (kk : gg X M k n (pc + 3) L (v :: st)) : gg X M k n pc L (.ref o :: st) := g_get ok (C := RQu) (T := TQu) (N := 12) (f := 3) (ref := "TripleStore$Query") (fun w h => List.mem_cons_of_mem _ (inQu w h)) rfl (by decide) (List.mem_cons_of_mem _ fl_Qu_23) rfl hd he hv kk
theorem pf_Qu_23 {X : gC} {cc : ByteArray} {M : List mC} {k n pc : Nat} {L : List (Nat × Value)} {st : List Value} {y0 : MethodName} {b0 : ByteArray} {nl0 : Nat} {ret0 : Option FieldType} (ok : gO X cc "TripleStore$Query" (wsM y0 b0 nl0 ret0)) (hd : decode cc pc = .ok (.putfield 23, 3)) {o : Nat} {fs : List Value} {v : Value} (he : M[o]? = some (.inr (2, fs))) (hl : 3 < fs.length) (hn : ∀ ad : Nat → Nat, narrow .int (mc_v ad v) = mc_v ad v ∧ fits .int (mc_v ad v) = true) (kk : gg X (M.set o (.inr (2, fs.set 3 v))) k n (pc + 3) L st) : gg X M k n pc L (v :: .ref o :: st) := g_put ok (C := RQu) (T := TQu) (N := 12) (f := 3) (ref := "TripleStore$Query") (fun w h => List.mem_cons_of_mem _ (inQu w h)) tyQu okQu nmQu rfl (by decide) (List.mem_cons_of_mem _ fl_Qu_23) rfl rfl (by decide +kernel) hd he hl hn kk
theorem fl_Qu_26 : Cond.fieldLink "TripleStore$Query" 26 "TripleStore$Query" "distinct" "Z" ∈ gT := gT_at 164 (by decide +kernel) (by decide +kernel)
theorem gf_Qu_26 {X : gC} {cc : ByteArray} {M : List mC} {k n pc : Nat} {L : List (Nat × Value)} {st : List Value} {y0 : MethodName} {b0 : ByteArray} {nl0 : Nat} {ret0 : Option FieldType} (ok : gO X cc "TripleStore$Query" (wsM y0 b0 nl0 ret0)) (hd : decode cc pc = .ok (.getfield 26, 3)) {o : Nat} {fs : List Value} {v : Value} (he : M[o]? = some (.inr (2, fs))) (hv : fs[4]? = some v) (kk : gg X M k n (pc + 3) L (v :: st)) : gg X M k n pc L (.ref o :: st) := g_get ok (C := RQu) (T := TQu) (N := 12) (f := 4) (ref := "TripleStore$Query") (fun w h => List.mem_cons_of_mem _ (inQu w h)) rfl (by decide) (List.mem_cons_of_mem _ fl_Qu_26) rfl hd he hv kk
theorem pf_Qu_26 {X : gC} {cc : ByteArray} {M : List mC} {k n pc : Nat} {L : List (Nat × Value)} {st : List Value} {y0 : MethodName} {b0 : ByteArray} {nl0 : Nat} {ret0 : Option FieldType} (ok : gO X cc "TripleStore$Query" (wsM y0 b0 nl0 ret0)) (hd : decode cc pc = .ok (.putfield 26, 3)) {o : Nat} {fs : List Value} {v : Value} (he : M[o]? = some (.inr (2, fs))) (hl : 4 < fs.length) (hn : ∀ ad : Nat → Nat, narrow .boolean (mc_v ad v) = mc_v ad v ∧ fits .boolean (mc_v ad v) = true) (kk : gg X (M.set o (.inr (2, fs.set 4 v))) k n (pc + 3) L st) : gg X M k n pc L (v :: .ref o :: st) := g_put ok (C := RQu) (T := TQu) (N := 12) (f := 4) (ref := "TripleStore$Query") (fun w h => List.mem_cons_of_mem _ (inQu w h)) tyQu okQu nmQu rfl (by decide) (List.mem_cons_of_mem _ fl_Qu_26) rfl rfl (by decide +kernel) hd he hl hn kk
theorem fl_Qu_30 : Cond.fieldLink "TripleStore$Query" 30 "TripleStore$Query" "orderVariable" "I" ∈ gT := gT_at 167 (by decide +kernel) (by decide +kernel)
theorem gf_Qu_30 {X : gC} {cc : ByteArray} {M : List mC} {k n pc : Nat} {L : List (Nat × Value)} {st : List Value} {y0 : MethodName} {b0 : ByteArray} {nl0 : Nat} {ret0 : Option FieldType} (ok : gO X cc "TripleStore$Query" (wsM y0 b0 nl0 ret0)) (hd : decode cc pc = .ok (.getfield 30, 3)) {o : Nat} {fs : List Value} {v : Value} (he : M[o]? = some (.inr (2, fs))) (hv : fs[5]? = some v) (kk : gg X M k n (pc + 3) L (v :: st)) : gg X M k n pc L (.ref o :: st) := g_get ok (C := RQu) (T := TQu) (N := 12) (f := 5) (ref := "TripleStore$Query") (fun w h => List.mem_cons_of_mem _ (inQu w h)) rfl (by decide) (List.mem_cons_of_mem _ fl_Qu_30) rfl hd he hv kk
theorem pf_Qu_30 {X : gC} {cc : ByteArray} {M : List mC} {k n pc : Nat} {L : List (Nat × Value)} {st : List Value} {y0 : MethodName} {b0 : ByteArray} {nl0 : Nat} {ret0 : Option FieldType} (ok : gO X cc "TripleStore$Query" (wsM y0 b0 nl0 ret0)) (hd : decode cc pc = .ok (.putfield 30, 3)) {o : Nat} {fs : List Value} {v : Value} (he : M[o]? = some (.inr (2, fs))) (hl : 5 < fs.length) (hn : ∀ ad : Nat → Nat, narrow .int (mc_v ad v) = mc_v ad v ∧ fits .int (mc_v ad v) = true) (kk : gg X (M.set o (.inr (2, fs.set 5 v))) k n (pc + 3) L st) : gg X M k n pc L (v :: .ref o :: st) := g_put ok (C := RQu) (T := TQu) (N := 12) (f := 5) (ref := "TripleStore$Query") (fun w h => List.mem_cons_of_mem _ (inQu w h)) tyQu okQu nmQu rfl (by decide) (List.mem_cons_of_mem _ fl_Qu_30) rfl rfl (by decide +kernel) hd he hl hn kk
theorem fl_Qu_33 : Cond.fieldLink "TripleStore$Query" 33 "TripleStore$Query" "falling" "Z" ∈ gT := gT_at 170 (by decide +kernel) (by decide +kernel)
theorem gf_Qu_33 {X : gC} {cc : ByteArray} {M : List mC} {k n pc : Nat} {L : List (Nat × Value)} {st : List Value} {y0 : MethodName} {b0 : ByteArray} {nl0 : Nat} {ret0 : Option FieldType} (ok : gO X cc "TripleStore$Query" (wsM y0 b0 nl0 ret0)) (hd : decode cc pc = .ok (.getfield 33, 3)) {o : Nat} {fs : List Value} {v : Value} (he : M[o]? = some (.inr (2, fs))) (hv : fs[6]? = some v) (kk : gg X M k n (pc + 3) L (v :: st)) : gg X M k n pc L (.ref o :: st) := g_get ok (C := RQu) (T := TQu) (N := 12) (f := 6) (ref := "TripleStore$Query") (fun w h => List.mem_cons_of_mem _ (inQu w h)) rfl (by decide) (List.mem_cons_of_mem _ fl_Qu_33) rfl hd he hv kk
theorem pf_Qu_33 {X : gC} {cc : ByteArray} {M : List mC} {k n pc : Nat} {L : List (Nat × Value)} {st : List Value} {y0 : MethodName} {b0 : ByteArray} {nl0 : Nat} {ret0 : Option FieldType} (ok : gO X cc "TripleStore$Query" (wsM y0 b0 nl0 ret0)) (hd : decode cc pc = .ok (.putfield 33, 3)) {o : Nat} {fs : List Value} {v : Value} (he : M[o]? = some (.inr (2, fs))) (hl : 6 < fs.length) (hn : ∀ ad : Nat → Nat, narrow .boolean (mc_v ad v) = mc_v ad v ∧ fits .boolean (mc_v ad v) = true) (kk : gg X (M.set o (.inr (2, fs.set 6 v))) k n (pc + 3) L st) : gg X M k n pc L (v :: .ref o :: st) := g_put ok (C := RQu) (T := TQu) (N := 12) (f := 6) (ref := "TripleStore$Query") (fun w h => List.mem_cons_of_mem _ (inQu w h)) tyQu okQu nmQu rfl (by decide) (List.mem_cons_of_mem _ fl_Qu_33) rfl rfl (by decide +kernel) hd he hl hn kk
theorem fl_Qu_36 : Cond.fieldLink "TripleStore$Query" 36 "TripleStore$Query" "limit" "I" ∈ gT := gT_at 173 (by decide +kernel) (by decide +kernel)
theorem gf_Qu_36 {X : gC} {cc : ByteArray} {M : List mC} {k n pc : Nat} {L : List (Nat × Value)} {st : List Value} {y0 : MethodName} {b0 : ByteArray} {nl0 : Nat} {ret0 : Option FieldType} (ok : gO X cc "TripleStore$Query" (wsM y0 b0 nl0 ret0)) (hd : decode cc pc = .ok (.getfield 36, 3)) {o : Nat} {fs : List Value} {v : Value} (he : M[o]? = some (.inr (2, fs))) (hv : fs[7]? = some v) (kk : gg X M k n (pc + 3) L (v :: st)) : gg X M k n pc L (.ref o :: st) := g_get ok (C := RQu) (T := TQu) (N := 12) (f := 7) (ref := "TripleStore$Query") (fun w h => List.mem_cons_of_mem _ (inQu w h)) rfl (by decide) (List.mem_cons_of_mem _ fl_Qu_36) rfl hd he hv kk
theorem pf_Qu_36 {X : gC} {cc : ByteArray} {M : List mC} {k n pc : Nat} {L : List (Nat × Value)} {st : List Value} {y0 : MethodName} {b0 : ByteArray} {nl0 : Nat} {ret0 : Option FieldType} (ok : gO X cc "TripleStore$Query" (wsM y0 b0 nl0 ret0)) (hd : decode cc pc = .ok (.putfield 36, 3)) {o : Nat} {fs : List Value} {v : Value} (he : M[o]? = some (.inr (2, fs))) (hl : 7 < fs.length) (hn : ∀ ad : Nat → Nat, narrow .int (mc_v ad v) = mc_v ad v ∧ fits .int (mc_v ad v) = true) (kk : gg X (M.set o (.inr (2, fs.set 7 v))) k n (pc + 3) L st) : gg X M k n pc L (v :: .ref o :: st) := g_put ok (C := RQu) (T := TQu) (N := 12) (f := 7) (ref := "TripleStore$Query") (fun w h => List.mem_cons_of_mem _ (inQu w h)) tyQu okQu nmQu rfl (by decide) (List.mem_cons_of_mem _ fl_Qu_36) rfl rfl (by decide +kernel) hd he hl hn kk
theorem fl_Qu_41 : Cond.fieldLink "TripleStore$Query" 41 "TripleStore$Query" "elements" "[LTripleStore$Element;" ∈ gT := gT_at 176 (by decide +kernel) (by decide +kernel)
theorem gf_Qu_41 {X : gC} {cc : ByteArray} {M : List mC} {k n pc : Nat} {L : List (Nat × Value)} {st : List Value} {y0 : MethodName} {b0 : ByteArray} {nl0 : Nat} {ret0 : Option FieldType} (ok : gO X cc "TripleStore$Query" (wsM y0 b0 nl0 ret0)) (hd : decode cc pc = .ok (.getfield 41, 3)) {o : Nat} {fs : List Value} {v : Value} (he : M[o]? = some (.inr (2, fs))) (hv : fs[8]? = some v) (kk : gg X M k n (pc + 3) L (v :: st)) : gg X M k n pc L (.ref o :: st) := g_get ok (C := RQu) (T := TQu) (N := 12) (f := 8) (ref := "TripleStore$Query") (fun w h => List.mem_cons_of_mem _ (inQu w h)) rfl (by decide) (List.mem_cons_of_mem _ fl_Qu_41) rfl hd he hv kk
theorem pf_Qu_41 {X : gC} {cc : ByteArray} {M : List mC} {k n pc : Nat} {L : List (Nat × Value)} {st : List Value} {y0 : MethodName} {b0 : ByteArray} {nl0 : Nat} {ret0 : Option FieldType} (ok : gO X cc "TripleStore$Query" (wsM y0 b0 nl0 ret0)) (hin2 : (gM X).name = "<init>") (hd : decode cc pc = .ok (.putfield 41, 3)) {o : Nat} {fs : List Value} {v : Value} (he : M[o]? = some (.inr (2, fs))) (hl : 8 < fs.length) (hn : ∀ ad : Nat → Nat, narrow (.array (.object "TripleStore$Element")) (mc_v ad v) = mc_v ad v ∧ fits (.array (.object "TripleStore$Element")) (mc_v ad v) = true) (kk : gg X (M.set o (.inr (2, fs.set 8 v))) k n (pc + 3) L st) : gg X M k n pc L (v :: .ref o :: st) := g_putF ok (C := RQu) (T := TQu) (N := 12) (f := 8) (ref := "TripleStore$Query") (fun w h => List.mem_cons_of_mem _ (inQu w h)) tyQu okQu nmQu rfl (by decide) (List.mem_cons_of_mem _ fl_Qu_41) rfl rfl hin2 rfl (by decide +kernel) hd he hl hn kk
theorem fl_Qu_45 : Cond.fieldLink "TripleStore$Query" 45 "TripleStore$Query" "elementCount" "I" ∈ gT := gT_at 179 (by decide +kernel) (by decide +kernel)
theorem gf_Qu_45 {X : gC} {cc : ByteArray} {M : List mC} {k n pc : Nat} {L : List (Nat × Value)} {st : List Value} {y0 : MethodName} {b0 : ByteArray} {nl0 : Nat} {ret0 : Option FieldType} (ok : gO X cc "TripleStore$Query" (wsM y0 b0 nl0 ret0)) (hd : decode cc pc = .ok (.getfield 45, 3)) {o : Nat} {fs : List Value} {v : Value} (he : M[o]? = some (.inr (2, fs))) (hv : fs[9]? = some v) (kk : gg X M k n (pc + 3) L (v :: st)) : gg X M k n pc L (.ref o :: st) := g_get ok (C := RQu) (T := TQu) (N := 12) (f := 9) (ref := "TripleStore$Query") (fun w h => List.mem_cons_of_mem _ (inQu w h)) rfl (by decide) (List.mem_cons_of_mem _ fl_Qu_45) rfl hd he hv kk
theorem pf_Qu_45 {X : gC} {cc : ByteArray} {M : List mC} {k n pc : Nat} {L : List (Nat × Value)} {st : List Value} {y0 : MethodName} {b0 : ByteArray} {nl0 : Nat} {ret0 : Option FieldType} (ok : gO X cc "TripleStore$Query" (wsM y0 b0 nl0 ret0)) (hd : decode cc pc = .ok (.putfield 45, 3)) {o : Nat} {fs : List Value} {v : Value} (he : M[o]? = some (.inr (2, fs))) (hl : 9 < fs.length) (hn : ∀ ad : Nat → Nat, narrow .int (mc_v ad v) = mc_v ad v ∧ fits .int (mc_v ad v) = true) (kk : gg X (M.set o (.inr (2, fs.set 9 v))) k n (pc + 3) L st) : gg X M k n pc L (v :: .ref o :: st) := g_put ok (C := RQu) (T := TQu) (N := 12) (f := 9) (ref := "TripleStore$Query") (fun w h => List.mem_cons_of_mem _ (inQu w h)) tyQu okQu nmQu rfl (by decide) (List.mem_cons_of_mem _ fl_Qu_45) rfl rfl (by decide +kernel) hd he hl hn kk
theorem fl_Qu_48 : Cond.fieldLink "TripleStore$Query" 48 "TripleStore$Query" "elementOfGroup" "[I" ∈ gT := gT_at 181 (by decide +kernel) (by decide +kernel)
theorem gf_Qu_48 {X : gC} {cc : ByteArray} {M : List mC} {k n pc : Nat} {L : List (Nat × Value)} {st : List Value} {y0 : MethodName} {b0 : ByteArray} {nl0 : Nat} {ret0 : Option FieldType} (ok : gO X cc "TripleStore$Query" (wsM y0 b0 nl0 ret0)) (hd : decode cc pc = .ok (.getfield 48, 3)) {o : Nat} {fs : List Value} {v : Value} (he : M[o]? = some (.inr (2, fs))) (hv : fs[10]? = some v) (kk : gg X M k n (pc + 3) L (v :: st)) : gg X M k n pc L (.ref o :: st) := g_get ok (C := RQu) (T := TQu) (N := 12) (f := 10) (ref := "TripleStore$Query") (fun w h => List.mem_cons_of_mem _ (inQu w h)) rfl (by decide) (List.mem_cons_of_mem _ fl_Qu_48) rfl hd he hv kk
theorem pf_Qu_48 {X : gC} {cc : ByteArray} {M : List mC} {k n pc : Nat} {L : List (Nat × Value)} {st : List Value} {y0 : MethodName} {b0 : ByteArray} {nl0 : Nat} {ret0 : Option FieldType} (ok : gO X cc "TripleStore$Query" (wsM y0 b0 nl0 ret0)) (hin2 : (gM X).name = "<init>") (hd : decode cc pc = .ok (.putfield 48, 3)) {o : Nat} {fs : List Value} {v : Value} (he : M[o]? = some (.inr (2, fs))) (hl : 10 < fs.length) (hn : ∀ ad : Nat → Nat, narrow (.array .int) (mc_v ad v) = mc_v ad v ∧ fits (.array .int) (mc_v ad v) = true) (kk : gg X (M.set o (.inr (2, fs.set 10 v))) k n (pc + 3) L st) : gg X M k n pc L (v :: .ref o :: st) := g_putF ok (C := RQu) (T := TQu) (N := 12) (f := 10) (ref := "TripleStore$Query") (fun w h => List.mem_cons_of_mem _ (inQu w h)) tyQu okQu nmQu rfl (by decide) (List.mem_cons_of_mem _ fl_Qu_48) rfl rfl hin2 rfl (by decide +kernel) hd he hl hn kk
theorem fl_Qu_51 : Cond.fieldLink "TripleStore$Query" 51 "TripleStore$Query" "groups" "I" ∈ gT := gT_at 183 (by decide +kernel) (by decide +kernel)
theorem gf_Qu_51 {X : gC} {cc : ByteArray} {M : List mC} {k n pc : Nat} {L : List (Nat × Value)} {st : List Value} {y0 : MethodName} {b0 : ByteArray} {nl0 : Nat} {ret0 : Option FieldType} (ok : gO X cc "TripleStore$Query" (wsM y0 b0 nl0 ret0)) (hd : decode cc pc = .ok (.getfield 51, 3)) {o : Nat} {fs : List Value} {v : Value} (he : M[o]? = some (.inr (2, fs))) (hv : fs[11]? = some v) (kk : gg X M k n (pc + 3) L (v :: st)) : gg X M k n pc L (.ref o :: st) := g_get ok (C := RQu) (T := TQu) (N := 12) (f := 11) (ref := "TripleStore$Query") (fun w h => List.mem_cons_of_mem _ (inQu w h)) rfl (by decide) (List.mem_cons_of_mem _ fl_Qu_51) rfl hd he hv kk
theorem pf_Qu_51 {X : gC} {cc : ByteArray} {M : List mC} {k n pc : Nat} {L : List (Nat × Value)} {st : List Value} {y0 : MethodName} {b0 : ByteArray} {nl0 : Nat} {ret0 : Option FieldType} (ok : gO X cc "TripleStore$Query" (wsM y0 b0 nl0 ret0)) (hd : decode cc pc = .ok (.putfield 51, 3)) {o : Nat} {fs : List Value} {v : Value} (he : M[o]? = some (.inr (2, fs))) (hl : 11 < fs.length) (hn : ∀ ad : Nat → Nat, narrow .int (mc_v ad v) = mc_v ad v ∧ fits .int (mc_v ad v) = true) (kk : gg X (M.set o (.inr (2, fs.set 11 v))) k n (pc + 3) L st) : gg X M k n pc L (v :: .ref o :: st) := g_put ok (C := RQu) (T := TQu) (N := 12) (f := 11) (ref := "TripleStore$Query") (fun w h => List.mem_cons_of_mem _ (inQu w h)) tyQu okQu nmQu rfl (by decide) (List.mem_cons_of_mem _ fl_Qu_51) rfl rfl (by decide +kernel) hd he hl hn kk
theorem fl_Pa_15 : Cond.fieldLink "TripleStore$Parser" 15 "TripleStore$Parser" "tokens" "LTripleStore$Tokens;" ∈ gT := gT_at 216 (by decide +kernel) (by decide +kernel)
theorem gf_Pa_15 {X : gC} {cc : ByteArray} {M : List mC} {k n pc : Nat} {L : List (Nat × Value)} {st : List Value} {y0 : MethodName} {b0 : ByteArray} {nl0 : Nat} {ret0 : Option FieldType} (ok : gO X cc "TripleStore$Parser" (wsM y0 b0 nl0 ret0)) (hd : decode cc pc = .ok (.getfield 15, 3)) {o : Nat} {fs : List Value} {v : Value} (he : M[o]? = some (.inr (1, fs))) (hv : fs[0]? = some v) (kk : gg X M k n (pc + 3) L (v :: st)) : gg X M k n pc L (.ref o :: st) := g_get ok (C := RPa) (T := TPa) (N := 3) (f := 0) (ref := "TripleStore$Parser") (fun w h => List.mem_cons_of_mem _ (inPa w h)) rfl (by decide) (List.mem_cons_of_mem _ fl_Pa_15) rfl hd he hv kk
theorem pf_Pa_15 {X : gC} {cc : ByteArray} {M : List mC} {k n pc : Nat} {L : List (Nat × Value)} {st : List Value} {y0 : MethodName} {b0 : ByteArray} {nl0 : Nat} {ret0 : Option FieldType} (ok : gO X cc "TripleStore$Parser" (wsM y0 b0 nl0 ret0)) (hin2 : (gM X).name = "<init>") (hd : decode cc pc = .ok (.putfield 15, 3)) {o : Nat} {fs : List Value} {v : Value} (he : M[o]? = some (.inr (1, fs))) (hl : 0 < fs.length) (hn : ∀ ad : Nat → Nat, narrow (.object "TripleStore$Tokens") (mc_v ad v) = mc_v ad v ∧ fits (.object "TripleStore$Tokens") (mc_v ad v) = true) (kk : gg X (M.set o (.inr (1, fs.set 0 v))) k n (pc + 3) L st) : gg X M k n pc L (v :: .ref o :: st) := g_putF ok (C := RPa) (T := TPa) (N := 3) (f := 0) (ref := "TripleStore$Parser") (fun w h => List.mem_cons_of_mem _ (inPa w h)) tyPa okPa nmPa rfl (by decide) (List.mem_cons_of_mem _ fl_Pa_15) rfl rfl hin2 rfl (by decide +kernel) hd he hl hn kk
theorem fl_Pa_19 : Cond.fieldLink "TripleStore$Parser" 19 "TripleStore$Parser" "query" "LTripleStore$Query;" ∈ gT := gT_at 217 (by decide +kernel) (by decide +kernel)
theorem gf_Pa_19 {X : gC} {cc : ByteArray} {M : List mC} {k n pc : Nat} {L : List (Nat × Value)} {st : List Value} {y0 : MethodName} {b0 : ByteArray} {nl0 : Nat} {ret0 : Option FieldType} (ok : gO X cc "TripleStore$Parser" (wsM y0 b0 nl0 ret0)) (hd : decode cc pc = .ok (.getfield 19, 3)) {o : Nat} {fs : List Value} {v : Value} (he : M[o]? = some (.inr (1, fs))) (hv : fs[1]? = some v) (kk : gg X M k n (pc + 3) L (v :: st)) : gg X M k n pc L (.ref o :: st) := g_get ok (C := RPa) (T := TPa) (N := 3) (f := 1) (ref := "TripleStore$Parser") (fun w h => List.mem_cons_of_mem _ (inPa w h)) rfl (by decide) (List.mem_cons_of_mem _ fl_Pa_19) rfl hd he hv kk
theorem pf_Pa_19 {X : gC} {cc : ByteArray} {M : List mC} {k n pc : Nat} {L : List (Nat × Value)} {st : List Value} {y0 : MethodName} {b0 : ByteArray} {nl0 : Nat} {ret0 : Option FieldType} (ok : gO X cc "TripleStore$Parser" (wsM y0 b0 nl0 ret0)) (hin2 : (gM X).name = "<init>") (hd : decode cc pc = .ok (.putfield 19, 3)) {o : Nat} {fs : List Value} {v : Value} (he : M[o]? = some (.inr (1, fs))) (hl : 1 < fs.length) (hn : ∀ ad : Nat → Nat, narrow (.object "TripleStore$Query") (mc_v ad v) = mc_v ad v ∧ fits (.object "TripleStore$Query") (mc_v ad v) = true) (kk : gg X (M.set o (.inr (1, fs.set 1 v))) k n (pc + 3) L st) : gg X M k n pc L (v :: .ref o :: st) := g_putF ok (C := RPa) (T := TPa) (N := 3) (f := 1) (ref := "TripleStore$Parser") (fun w h => List.mem_cons_of_mem _ (inPa w h)) tyPa okPa nmPa rfl (by decide) (List.mem_cons_of_mem _ fl_Pa_19) rfl rfl hin2 rfl (by decide +kernel) hd he hl hn kk
theorem fl_Pa_9 : Cond.fieldLink "TripleStore$Parser" 9 "TripleStore$Parser" "side" "J" ∈ gT := gT_at 218 (by decide +kernel) (by decide +kernel)
theorem gf_Pa_9 {X : gC} {cc : ByteArray} {M : List mC} {k n pc : Nat} {L : List (Nat × Value)} {st : List Value} {y0 : MethodName} {b0 : ByteArray} {nl0 : Nat} {ret0 : Option FieldType} (ok : gO X cc "TripleStore$Parser" (wsM y0 b0 nl0 ret0)) (hd : decode cc pc = .ok (.getfield 9, 3)) {o : Nat} {fs : List Value} {v : Value} (he : M[o]? = some (.inr (1, fs))) (hv : fs[2]? = some v) (kk : gg X M k n (pc + 3) L (v :: st)) : gg X M k n pc L (.ref o :: st) := g_get ok (C := RPa) (T := TPa) (N := 3) (f := 2) (ref := "TripleStore$Parser") (fun w h => List.mem_cons_of_mem _ (inPa w h)) rfl (by decide) (List.mem_cons_of_mem _ fl_Pa_9) rfl hd he hv kk
theorem pf_Pa_9 {X : gC} {cc : ByteArray} {M : List mC} {k n pc : Nat} {L : List (Nat × Value)} {st : List Value} {y0 : MethodName} {b0 : ByteArray} {nl0 : Nat} {ret0 : Option FieldType} (ok : gO X cc "TripleStore$Parser" (wsM y0 b0 nl0 ret0)) (hd : decode cc pc = .ok (.putfield 9, 3)) {o : Nat} {fs : List Value} {v : Value} (he : M[o]? = some (.inr (1, fs))) (hl : 2 < fs.length) (hn : ∀ ad : Nat → Nat, narrow .long (mc_v ad v) = mc_v ad v ∧ fits .long (mc_v ad v) = true) (kk : gg X (M.set o (.inr (1, fs.set 2 v))) k n (pc + 3) L st) : gg X M k n pc L (v :: .ref o :: st) := g_put ok (C := RPa) (T := TPa) (N := 3) (f := 2) (ref := "TripleStore$Parser") (fun w h => List.mem_cons_of_mem _ (inPa w h)) tyPa okPa nmPa rfl (by decide) (List.mem_cons_of_mem _ fl_Pa_9) rfl rfl (by decide +kernel) hd he hl hn kk
theorem fl_So_9 : Cond.fieldLink "TripleStore$Solutions" 9 "TripleStore$Solutions" "terms" "[J" ∈ gT := gT_at 239 (by decide +kernel) (by decide +kernel)
theorem gf_So_9 {X : gC} {cc : ByteArray} {M : List mC} {k n pc : Nat} {L : List (Nat × Value)} {st : List Value} {y0 : MethodName} {b0 : ByteArray} {nl0 : Nat} {ret0 : Option FieldType} (ok : gO X cc "TripleStore$Solutions" (wsM y0 b0 nl0 ret0)) (hd : decode cc pc = .ok (.getfield 9, 3)) {o : Nat} {fs : List Value} {v : Value} (he : M[o]? = some (.inr (4, fs))) (hv : fs[0]? = some v) (kk : gg X M k n (pc + 3) L (v :: st)) : gg X M k n pc L (.ref o :: st) := g_get ok (C := RSo) (T := TSo) (N := 2) (f := 0) (ref := "TripleStore$Solutions") (fun w h => List.mem_cons_of_mem _ (inSo w h)) rfl (by decide) (List.mem_cons_of_mem _ fl_So_9) rfl hd he hv kk
theorem pf_So_9 {X : gC} {cc : ByteArray} {M : List mC} {k n pc : Nat} {L : List (Nat × Value)} {st : List Value} {y0 : MethodName} {b0 : ByteArray} {nl0 : Nat} {ret0 : Option FieldType} (ok : gO X cc "TripleStore$Solutions" (wsM y0 b0 nl0 ret0)) (hin2 : (gM X).name = "<init>") (hd : decode cc pc = .ok (.putfield 9, 3)) {o : Nat} {fs : List Value} {v : Value} (he : M[o]? = some (.inr (4, fs))) (hl : 0 < fs.length) (hn : ∀ ad : Nat → Nat, narrow (.array .long) (mc_v ad v) = mc_v ad v ∧ fits (.array .long) (mc_v ad v) = true) (kk : gg X (M.set o (.inr (4, fs.set 0 v))) k n (pc + 3) L st) : gg X M k n pc L (v :: .ref o :: st) := g_putF ok (C := RSo) (T := TSo) (N := 2) (f := 0) (ref := "TripleStore$Solutions") (fun w h => List.mem_cons_of_mem _ (inSo w h)) tySo okSo nmSo rfl (by decide) (List.mem_cons_of_mem _ fl_So_9) rfl rfl hin2 rfl (by decide +kernel) hd he hl hn kk
theorem fl_So_15 : Cond.fieldLink "TripleStore$Solutions" 15 "TripleStore$Solutions" "size" "I" ∈ gT := gT_at 240 (by decide +kernel) (by decide +kernel)
theorem gf_So_15 {X : gC} {cc : ByteArray} {M : List mC} {k n pc : Nat} {L : List (Nat × Value)} {st : List Value} {y0 : MethodName} {b0 : ByteArray} {nl0 : Nat} {ret0 : Option FieldType} (ok : gO X cc "TripleStore$Solutions" (wsM y0 b0 nl0 ret0)) (hd : decode cc pc = .ok (.getfield 15, 3)) {o : Nat} {fs : List Value} {v : Value} (he : M[o]? = some (.inr (4, fs))) (hv : fs[1]? = some v) (kk : gg X M k n (pc + 3) L (v :: st)) : gg X M k n pc L (.ref o :: st) := g_get ok (C := RSo) (T := TSo) (N := 2) (f := 1) (ref := "TripleStore$Solutions") (fun w h => List.mem_cons_of_mem _ (inSo w h)) rfl (by decide) (List.mem_cons_of_mem _ fl_So_15) rfl hd he hv kk
theorem pf_So_15 {X : gC} {cc : ByteArray} {M : List mC} {k n pc : Nat} {L : List (Nat × Value)} {st : List Value} {y0 : MethodName} {b0 : ByteArray} {nl0 : Nat} {ret0 : Option FieldType} (ok : gO X cc "TripleStore$Solutions" (wsM y0 b0 nl0 ret0)) (hd : decode cc pc = .ok (.putfield 15, 3)) {o : Nat} {fs : List Value} {v : Value} (he : M[o]? = some (.inr (4, fs))) (hl : 1 < fs.length) (hn : ∀ ad : Nat → Nat, narrow .int (mc_v ad v) = mc_v ad v ∧ fits .int (mc_v ad v) = true) (kk : gg X (M.set o (.inr (4, fs.set 1 v))) k n (pc + 3) L st) : gg X M k n pc L (v :: .ref o :: st) := g_put ok (C := RSo) (T := TSo) (N := 2) (f := 1) (ref := "TripleStore$Solutions") (fun w h => List.mem_cons_of_mem _ (inSo w h)) tySo okSo nmSo rfl (by decide) (List.mem_cons_of_mem _ fl_So_15) rfl rfl (by decide +kernel) hd he hl hn kk
theorem fl_Sv_24 : Cond.fieldLink "TripleStore$Solver" 24 "TripleStore$Solver" "store" "LTripleStore$Store;" ∈ gT := gT_at 246 (by decide +kernel) (by decide +kernel)
theorem gf_Sv_24 {X : gC} {cc : ByteArray} {M : List mC} {k n pc : Nat} {L : List (Nat × Value)} {st : List Value} {y0 : MethodName} {b0 : ByteArray} {nl0 : Nat} {ret0 : Option FieldType} (ok : gO X cc "TripleStore$Solver" (wsM y0 b0 nl0 ret0)) (hd : decode cc pc = .ok (.getfield 24, 3)) {o : Nat} {fs : List Value} {v : Value} (he : M[o]? = some (.inr (5, fs))) (hv : fs[0]? = some v) (kk : gg X M k n (pc + 3) L (v :: st)) : gg X M k n pc L (.ref o :: st) := g_get ok (C := RSv) (T := TSv) (N := 5) (f := 0) (ref := "TripleStore$Solver") (fun w h => List.mem_cons_of_mem _ (inSv w h)) rfl (by decide) (List.mem_cons_of_mem _ fl_Sv_24) rfl hd he hv kk
theorem pf_Sv_24 {X : gC} {cc : ByteArray} {M : List mC} {k n pc : Nat} {L : List (Nat × Value)} {st : List Value} {y0 : MethodName} {b0 : ByteArray} {nl0 : Nat} {ret0 : Option FieldType} (ok : gO X cc "TripleStore$Solver" (wsM y0 b0 nl0 ret0)) (hin2 : (gM X).name = "<init>") (hd : decode cc pc = .ok (.putfield 24, 3)) {o : Nat} {fs : List Value} {v : Value} (he : M[o]? = some (.inr (5, fs))) (hl : 0 < fs.length) (hn : ∀ ad : Nat → Nat, narrow (.object "TripleStore$Store") (mc_v ad v) = mc_v ad v ∧ fits (.object "TripleStore$Store") (mc_v ad v) = true) (kk : gg X (M.set o (.inr (5, fs.set 0 v))) k n (pc + 3) L st) : gg X M k n pc L (v :: .ref o :: st) := g_putF ok (C := RSv) (T := TSv) (N := 5) (f := 0) (ref := "TripleStore$Solver") (fun w h => List.mem_cons_of_mem _ (inSv w h)) tySv okSv nmSv rfl (by decide) (List.mem_cons_of_mem _ fl_Sv_24) rfl rfl hin2 rfl (by decide +kernel) hd he hl hn kk
theorem fl_Sv_28 : Cond.fieldLink "TripleStore$Solver" 28 "TripleStore$Solver" "query" "LTripleStore$Query;" ∈ gT := gT_at 247 (by decide +kernel) (by decide +kernel)
theorem gf_Sv_28 {X : gC} {cc : ByteArray} {M : List mC} {k n pc : Nat} {L : List (Nat × Value)} {st : List Value} {y0 : MethodName} {b0 : ByteArray} {nl0 : Nat} {ret0 : Option FieldType} (ok : gO X cc "TripleStore$Solver" (wsM y0 b0 nl0 ret0)) (hd : decode cc pc = .ok (.getfield 28, 3)) {o : Nat} {fs : List Value} {v : Value} (he : M[o]? = some (.inr (5, fs))) (hv : fs[1]? = some v) (kk : gg X M k n (pc + 3) L (v :: st)) : gg X M k n pc L (.ref o :: st) := g_get ok (C := RSv) (T := TSv) (N := 5) (f := 1) (ref := "TripleStore$Solver") (fun w h => List.mem_cons_of_mem _ (inSv w h)) rfl (by decide) (List.mem_cons_of_mem _ fl_Sv_28) rfl hd he hv kk
theorem pf_Sv_28 {X : gC} {cc : ByteArray} {M : List mC} {k n pc : Nat} {L : List (Nat × Value)} {st : List Value} {y0 : MethodName} {b0 : ByteArray} {nl0 : Nat} {ret0 : Option FieldType} (ok : gO X cc "TripleStore$Solver" (wsM y0 b0 nl0 ret0)) (hin2 : (gM X).name = "<init>") (hd : decode cc pc = .ok (.putfield 28, 3)) {o : Nat} {fs : List Value} {v : Value} (he : M[o]? = some (.inr (5, fs))) (hl : 1 < fs.length) (hn : ∀ ad : Nat → Nat, narrow (.object "TripleStore$Query") (mc_v ad v) = mc_v ad v ∧ fits (.object "TripleStore$Query") (mc_v ad v) = true) (kk : gg X (M.set o (.inr (5, fs.set 1 v))) k n (pc + 3) L st) : gg X M k n pc L (v :: .ref o :: st) := g_putF ok (C := RSv) (T := TSv) (N := 5) (f := 1) (ref := "TripleStore$Solver") (fun w h => List.mem_cons_of_mem _ (inSv w h)) tySv okSv nmSv rfl (by decide) (List.mem_cons_of_mem _ fl_Sv_28) rfl rfl hin2 rfl (by decide +kernel) hd he hl hn kk
theorem fl_Sv_11 : Cond.fieldLink "TripleStore$Solver" 11 "TripleStore$Solver" "found" "[LTripleStore$Solutions;" ∈ gT := gT_at 248 (by decide +kernel) (by decide +kernel)
theorem gf_Sv_11 {X : gC} {cc : ByteArray} {M : List mC} {k n pc : Nat} {L : List (Nat × Value)} {st : List Value} {y0 : MethodName} {b0 : ByteArray} {nl0 : Nat} {ret0 : Option FieldType} (ok : gO X cc "TripleStore$Solver" (wsM y0 b0 nl0 ret0)) (hd : decode cc pc = .ok (.getfield 11, 3)) {o : Nat} {fs : List Value} {v : Value} (he : M[o]? = some (.inr (5, fs))) (hv : fs[2]? = some v) (kk : gg X M k n (pc + 3) L (v :: st)) : gg X M k n pc L (.ref o :: st) := g_get ok (C := RSv) (T := TSv) (N := 5) (f := 2) (ref := "TripleStore$Solver") (fun w h => List.mem_cons_of_mem _ (inSv w h)) rfl (by decide) (List.mem_cons_of_mem _ fl_Sv_11) rfl hd he hv kk
theorem pf_Sv_11 {X : gC} {cc : ByteArray} {M : List mC} {k n pc : Nat} {L : List (Nat × Value)} {st : List Value} {y0 : MethodName} {b0 : ByteArray} {nl0 : Nat} {ret0 : Option FieldType} (ok : gO X cc "TripleStore$Solver" (wsM y0 b0 nl0 ret0)) (hin2 : (gM X).name = "<init>") (hd : decode cc pc = .ok (.putfield 11, 3)) {o : Nat} {fs : List Value} {v : Value} (he : M[o]? = some (.inr (5, fs))) (hl : 2 < fs.length) (hn : ∀ ad : Nat → Nat, narrow (.array (.object "TripleStore$Solutions")) (mc_v ad v) = mc_v ad v ∧ fits (.array (.object "TripleStore$Solutions")) (mc_v ad v) = true) (kk : gg X (M.set o (.inr (5, fs.set 2 v))) k n (pc + 3) L st) : gg X M k n pc L (v :: .ref o :: st) := g_putF ok (C := RSv) (T := TSv) (N := 5) (f := 2) (ref := "TripleStore$Solver") (fun w h => List.mem_cons_of_mem _ (inSv w h)) tySv okSv nmSv rfl (by decide) (List.mem_cons_of_mem _ fl_Sv_11) rfl rfl hin2 rfl (by decide +kernel) hd he hl hn kk
theorem fl_Sv_17 : Cond.fieldLink "TripleStore$Solver" 17 "TripleStore$Solver" "next" "[LTripleStore$Solutions;" ∈ gT := gT_at 249 (by decide +kernel) (by decide +kernel)
theorem gf_Sv_17 {X : gC} {cc : ByteArray} {M : List mC} {k n pc : Nat} {L : List (Nat × Value)} {st : List Value} {y0 : MethodName} {b0 : ByteArray} {nl0 : Nat} {ret0 : Option FieldType} (ok : gO X cc "TripleStore$Solver" (wsM y0 b0 nl0 ret0)) (hd : decode cc pc = .ok (.getfield 17, 3)) {o : Nat} {fs : List Value} {v : Value} (he : M[o]? = some (.inr (5, fs))) (hv : fs[3]? = some v) (kk : gg X M k n (pc + 3) L (v :: st)) : gg X M k n pc L (.ref o :: st) := g_get ok (C := RSv) (T := TSv) (N := 5) (f := 3) (ref := "TripleStore$Solver") (fun w h => List.mem_cons_of_mem _ (inSv w h)) rfl (by decide) (List.mem_cons_of_mem _ fl_Sv_17) rfl hd he hv kk
theorem pf_Sv_17 {X : gC} {cc : ByteArray} {M : List mC} {k n pc : Nat} {L : List (Nat × Value)} {st : List Value} {y0 : MethodName} {b0 : ByteArray} {nl0 : Nat} {ret0 : Option FieldType} (ok : gO X cc "TripleStore$Solver" (wsM y0 b0 nl0 ret0)) (hin2 : (gM X).name = "<init>") (hd : decode cc pc = .ok (.putfield 17, 3)) {o : Nat} {fs : List Value} {v : Value} (he : M[o]? = some (.inr (5, fs))) (hl : 3 < fs.length) (hn : ∀ ad : Nat → Nat, narrow (.array (.object "TripleStore$Solutions")) (mc_v ad v) = mc_v ad v ∧ fits (.array (.object "TripleStore$Solutions")) (mc_v ad v) = true) (kk : gg X (M.set o (.inr (5, fs.set 3 v))) k n (pc + 3) L st) : gg X M k n pc L (v :: .ref o :: st) := g_putF ok (C := RSv) (T := TSv) (N := 5) (f := 3) (ref := "TripleStore$Solver") (fun w h => List.mem_cons_of_mem _ (inSv w h)) tySv okSv nmSv rfl (by decide) (List.mem_cons_of_mem _ fl_Sv_17) rfl rfl hin2 rfl (by decide +kernel) hd he hl hn kk
theorem fl_Sv_20 : Cond.fieldLink "TripleStore$Solver" 20 "TripleStore$Solver" "draft" "[J" ∈ gT := gT_at 250 (by decide +kernel) (by decide +kernel)
theorem gf_Sv_20 {X : gC} {cc : ByteArray} {M : List mC} {k n pc : Nat} {L : List (Nat × Value)} {st : List Value} {y0 : MethodName} {b0 : ByteArray} {nl0 : Nat} {ret0 : Option FieldType} (ok : gO X cc "TripleStore$Solver" (wsM y0 b0 nl0 ret0)) (hd : decode cc pc = .ok (.getfield 20, 3)) {o : Nat} {fs : List Value} {v : Value} (he : M[o]? = some (.inr (5, fs))) (hv : fs[4]? = some v) (kk : gg X M k n (pc + 3) L (v :: st)) : gg X M k n pc L (.ref o :: st) := g_get ok (C := RSv) (T := TSv) (N := 5) (f := 4) (ref := "TripleStore$Solver") (fun w h => List.mem_cons_of_mem _ (inSv w h)) rfl (by decide) (List.mem_cons_of_mem _ fl_Sv_20) rfl hd he hv kk
theorem pf_Sv_20 {X : gC} {cc : ByteArray} {M : List mC} {k n pc : Nat} {L : List (Nat × Value)} {st : List Value} {y0 : MethodName} {b0 : ByteArray} {nl0 : Nat} {ret0 : Option FieldType} (ok : gO X cc "TripleStore$Solver" (wsM y0 b0 nl0 ret0)) (hin2 : (gM X).name = "<init>") (hd : decode cc pc = .ok (.putfield 20, 3)) {o : Nat} {fs : List Value} {v : Value} (he : M[o]? = some (.inr (5, fs))) (hl : 4 < fs.length) (hn : ∀ ad : Nat → Nat, narrow (.array .long) (mc_v ad v) = mc_v ad v ∧ fits (.array .long) (mc_v ad v) = true) (kk : gg X (M.set o (.inr (5, fs.set 4 v))) k n (pc + 3) L st) : gg X M k n pc L (v :: .ref o :: st) := g_putF ok (C := RSv) (T := TSv) (N := 5) (f := 4) (ref := "TripleStore$Solver") (fun w h => List.mem_cons_of_mem _ (inSv w h)) tySv okSv nmSv rfl (by decide) (List.mem_cons_of_mem _ fl_Sv_20) rfl rfl hin2 rfl (by decide +kernel) hd he hl hn kk
theorem fl_Ro_9 : Cond.fieldLink "TripleStore$Rows" 9 "TripleStore$Rows" "terms" "[J" ∈ gT := gT_at 268 (by decide +kernel) (by decide +kernel)
theorem gf_Ro_9 {X : gC} {cc : ByteArray} {M : List mC} {k n pc : Nat} {L : List (Nat × Value)} {st : List Value} {y0 : MethodName} {b0 : ByteArray} {nl0 : Nat} {ret0 : Option FieldType} (ok : gO X cc "TripleStore$Rows" (wsM y0 b0 nl0 ret0)) (hd : decode cc pc = .ok (.getfield 9, 3)) {o : Nat} {fs : List Value} {v : Value} (he : M[o]? = some (.inr (3, fs))) (hv : fs[0]? = some v) (kk : gg X M k n (pc + 3) L (v :: st)) : gg X M k n pc L (.ref o :: st) := g_get ok (C := RRo) (T := TRo) (N := 4) (f := 0) (ref := "TripleStore$Rows") (fun w h => List.mem_cons_of_mem _ (inRo w h)) rfl (by decide) (List.mem_cons_of_mem _ fl_Ro_9) rfl hd he hv kk
theorem pf_Ro_9 {X : gC} {cc : ByteArray} {M : List mC} {k n pc : Nat} {L : List (Nat × Value)} {st : List Value} {y0 : MethodName} {b0 : ByteArray} {nl0 : Nat} {ret0 : Option FieldType} (ok : gO X cc "TripleStore$Rows" (wsM y0 b0 nl0 ret0)) (hin2 : (gM X).name = "<init>") (hd : decode cc pc = .ok (.putfield 9, 3)) {o : Nat} {fs : List Value} {v : Value} (he : M[o]? = some (.inr (3, fs))) (hl : 0 < fs.length) (hn : ∀ ad : Nat → Nat, narrow (.array .long) (mc_v ad v) = mc_v ad v ∧ fits (.array .long) (mc_v ad v) = true) (kk : gg X (M.set o (.inr (3, fs.set 0 v))) k n (pc + 3) L st) : gg X M k n pc L (v :: .ref o :: st) := g_putF ok (C := RRo) (T := TRo) (N := 4) (f := 0) (ref := "TripleStore$Rows") (fun w h => List.mem_cons_of_mem _ (inRo w h)) tyRo okRo nmRo rfl (by decide) (List.mem_cons_of_mem _ fl_Ro_9) rfl rfl hin2 rfl (by decide +kernel) hd he hl hn kk
theorem fl_Ro_15 : Cond.fieldLink "TripleStore$Rows" 15 "TripleStore$Rows" "order" "[I" ∈ gT := gT_at 269 (by decide +kernel) (by decide +kernel)
theorem gf_Ro_15 {X : gC} {cc : ByteArray} {M : List mC} {k n pc : Nat} {L : List (Nat × Value)} {st : List Value} {y0 : MethodName} {b0 : ByteArray} {nl0 : Nat} {ret0 : Option FieldType} (ok : gO X cc "TripleStore$Rows" (wsM y0 b0 nl0 ret0)) (hd : decode cc pc = .ok (.getfield 15, 3)) {o : Nat} {fs : List Value} {v : Value} (he : M[o]? = some (.inr (3, fs))) (hv : fs[1]? = some v) (kk : gg X M k n (pc + 3) L (v :: st)) : gg X M k n pc L (.ref o :: st) := g_get ok (C := RRo) (T := TRo) (N := 4) (f := 1) (ref := "TripleStore$Rows") (fun w h => List.mem_cons_of_mem _ (inRo w h)) rfl (by decide) (List.mem_cons_of_mem _ fl_Ro_15) rfl hd he hv kk
theorem pf_Ro_15 {X : gC} {cc : ByteArray} {M : List mC} {k n pc : Nat} {L : List (Nat × Value)} {st : List Value} {y0 : MethodName} {b0 : ByteArray} {nl0 : Nat} {ret0 : Option FieldType} (ok : gO X cc "TripleStore$Rows" (wsM y0 b0 nl0 ret0)) (hin2 : (gM X).name = "<init>") (hd : decode cc pc = .ok (.putfield 15, 3)) {o : Nat} {fs : List Value} {v : Value} (he : M[o]? = some (.inr (3, fs))) (hl : 1 < fs.length) (hn : ∀ ad : Nat → Nat, narrow (.array .int) (mc_v ad v) = mc_v ad v ∧ fits (.array .int) (mc_v ad v) = true) (kk : gg X (M.set o (.inr (3, fs.set 1 v))) k n (pc + 3) L st) : gg X M k n pc L (v :: .ref o :: st) := g_putF ok (C := RRo) (T := TRo) (N := 4) (f := 1) (ref := "TripleStore$Rows") (fun w h => List.mem_cons_of_mem _ (inRo w h)) tyRo okRo nmRo rfl (by decide) (List.mem_cons_of_mem _ fl_Ro_15) rfl rfl hin2 rfl (by decide +kernel) hd he hl hn kk
theorem fl_Ro_19 : Cond.fieldLink "TripleStore$Rows" 19 "TripleStore$Rows" "columns" "I" ∈ gT := gT_at 270 (by decide +kernel) (by decide +kernel)
theorem gf_Ro_19 {X : gC} {cc : ByteArray} {M : List mC} {k n pc : Nat} {L : List (Nat × Value)} {st : List Value} {y0 : MethodName} {b0 : ByteArray} {nl0 : Nat} {ret0 : Option FieldType} (ok : gO X cc "TripleStore$Rows" (wsM y0 b0 nl0 ret0)) (hd : decode cc pc = .ok (.getfield 19, 3)) {o : Nat} {fs : List Value} {v : Value} (he : M[o]? = some (.inr (3, fs))) (hv : fs[2]? = some v) (kk : gg X M k n (pc + 3) L (v :: st)) : gg X M k n pc L (.ref o :: st) := g_get ok (C := RRo) (T := TRo) (N := 4) (f := 2) (ref := "TripleStore$Rows") (fun w h => List.mem_cons_of_mem _ (inRo w h)) rfl (by decide) (List.mem_cons_of_mem _ fl_Ro_19) rfl hd he hv kk
theorem pf_Ro_19 {X : gC} {cc : ByteArray} {M : List mC} {k n pc : Nat} {L : List (Nat × Value)} {st : List Value} {y0 : MethodName} {b0 : ByteArray} {nl0 : Nat} {ret0 : Option FieldType} (ok : gO X cc "TripleStore$Rows" (wsM y0 b0 nl0 ret0)) (hd : decode cc pc = .ok (.putfield 19, 3)) {o : Nat} {fs : List Value} {v : Value} (he : M[o]? = some (.inr (3, fs))) (hl : 2 < fs.length) (hn : ∀ ad : Nat → Nat, narrow .int (mc_v ad v) = mc_v ad v ∧ fits .int (mc_v ad v) = true) (kk : gg X (M.set o (.inr (3, fs.set 2 v))) k n (pc + 3) L st) : gg X M k n pc L (v :: .ref o :: st) := g_put ok (C := RRo) (T := TRo) (N := 4) (f := 2) (ref := "TripleStore$Rows") (fun w h => List.mem_cons_of_mem _ (inRo w h)) tyRo okRo nmRo rfl (by decide) (List.mem_cons_of_mem _ fl_Ro_19) rfl rfl (by decide +kernel) hd he hl hn kk
theorem fl_Ro_23 : Cond.fieldLink "TripleStore$Rows" 23 "TripleStore$Rows" "size" "I" ∈ gT := gT_at 271 (by decide +kernel) (by decide +kernel)
theorem gf_Ro_23 {X : gC} {cc : ByteArray} {M : List mC} {k n pc : Nat} {L : List (Nat × Value)} {st : List Value} {y0 : MethodName} {b0 : ByteArray} {nl0 : Nat} {ret0 : Option FieldType} (ok : gO X cc "TripleStore$Rows" (wsM y0 b0 nl0 ret0)) (hd : decode cc pc = .ok (.getfield 23, 3)) {o : Nat} {fs : List Value} {v : Value} (he : M[o]? = some (.inr (3, fs))) (hv : fs[3]? = some v) (kk : gg X M k n (pc + 3) L (v :: st)) : gg X M k n pc L (.ref o :: st) := g_get ok (C := RRo) (T := TRo) (N := 4) (f := 3) (ref := "TripleStore$Rows") (fun w h => List.mem_cons_of_mem _ (inRo w h)) rfl (by decide) (List.mem_cons_of_mem _ fl_Ro_23) rfl hd he hv kk
theorem pf_Ro_23 {X : gC} {cc : ByteArray} {M : List mC} {k n pc : Nat} {L : List (Nat × Value)} {st : List Value} {y0 : MethodName} {b0 : ByteArray} {nl0 : Nat} {ret0 : Option FieldType} (ok : gO X cc "TripleStore$Rows" (wsM y0 b0 nl0 ret0)) (hd : decode cc pc = .ok (.putfield 23, 3)) {o : Nat} {fs : List Value} {v : Value} (he : M[o]? = some (.inr (3, fs))) (hl : 3 < fs.length) (hn : ∀ ad : Nat → Nat, narrow .int (mc_v ad v) = mc_v ad v ∧ fits .int (mc_v ad v) = true) (kk : gg X (M.set o (.inr (3, fs.set 3 v))) k n (pc + 3) L st) : gg X M k n pc L (v :: .ref o :: st) := g_put ok (C := RRo) (T := TRo) (N := 4) (f := 3) (ref := "TripleStore$Rows") (fun w h => List.mem_cons_of_mem _ (inRo w h)) tyRo okRo nmRo rfl (by decide) (List.mem_cons_of_mem _ fl_Ro_23) rfl rfl (by decide +kernel) hd he hl hn kk
theorem fl_TS_12 : Cond.fieldLink "TripleStore" 12 "TripleStore" "store" "LTripleStore$Store;" ∈ gT := gT_at 281 (by decide +kernel) (by decide +kernel)
theorem gf_TS_12 {X : gC} {cc : ByteArray} {M : List mC} {k n pc : Nat} {L : List (Nat × Value)} {st : List Value} {y0 : MethodName} {b0 : ByteArray} {nl0 : Nat} {ret0 : Option FieldType} (ok : gO X cc "TripleStore" (wsM y0 b0 nl0 ret0)) (hd : decode cc pc = .ok (.getfield 12, 3)) {o : Nat} {fs : List Value} {v : Value} (he : M[o]? = some (.inr (9, fs))) (hv : fs[0]? = some v) (kk : gg X M k n (pc + 3) L (v :: st)) : gg X M k n pc L (.ref o :: st) := g_get ok (C := RTS) (T := TTS) (N := 9) (f := 0) (ref := "TripleStore") (fun w h => List.mem_cons_of_mem _ (inTS w h)) rfl (by decide) (List.mem_cons_of_mem _ fl_TS_12) rfl hd he hv kk
theorem pf_TS_12 {X : gC} {cc : ByteArray} {M : List mC} {k n pc : Nat} {L : List (Nat × Value)} {st : List Value} {y0 : MethodName} {b0 : ByteArray} {nl0 : Nat} {ret0 : Option FieldType} (ok : gO X cc "TripleStore" (wsM y0 b0 nl0 ret0)) (hin2 : (gM X).name = "<init>") (hd : decode cc pc = .ok (.putfield 12, 3)) {o : Nat} {fs : List Value} {v : Value} (he : M[o]? = some (.inr (9, fs))) (hl : 0 < fs.length) (hn : ∀ ad : Nat → Nat, narrow (.object "TripleStore$Store") (mc_v ad v) = mc_v ad v ∧ fits (.object "TripleStore$Store") (mc_v ad v) = true) (kk : gg X (M.set o (.inr (9, fs.set 0 v))) k n (pc + 3) L st) : gg X M k n pc L (v :: .ref o :: st) := g_putF ok (C := RTS) (T := TTS) (N := 9) (f := 0) (ref := "TripleStore") (fun w h => List.mem_cons_of_mem _ (inTS w h)) tyTS okTS nmTS rfl (by decide) (List.mem_cons_of_mem _ fl_TS_12) rfl rfl hin2 rfl (by decide +kernel) hd he hl hn kk
theorem fl_TS_16 : Cond.fieldLink "TripleStore" 16 "TripleStore" "text" "[C" ∈ gT := gT_at 282 (by decide +kernel) (by decide +kernel)
theorem gf_TS_16 {X : gC} {cc : ByteArray} {M : List mC} {k n pc : Nat} {L : List (Nat × Value)} {st : List Value} {y0 : MethodName} {b0 : ByteArray} {nl0 : Nat} {ret0 : Option FieldType} (ok : gO X cc "TripleStore" (wsM y0 b0 nl0 ret0)) (hd : decode cc pc = .ok (.getfield 16, 3)) {o : Nat} {fs : List Value} {v : Value} (he : M[o]? = some (.inr (9, fs))) (hv : fs[1]? = some v) (kk : gg X M k n (pc + 3) L (v :: st)) : gg X M k n pc L (.ref o :: st) := g_get ok (C := RTS) (T := TTS) (N := 9) (f := 1) (ref := "TripleStore") (fun w h => List.mem_cons_of_mem _ (inTS w h)) rfl (by decide) (List.mem_cons_of_mem _ fl_TS_16) rfl hd he hv kk
theorem pf_TS_16 {X : gC} {cc : ByteArray} {M : List mC} {k n pc : Nat} {L : List (Nat × Value)} {st : List Value} {y0 : MethodName} {b0 : ByteArray} {nl0 : Nat} {ret0 : Option FieldType} (ok : gO X cc "TripleStore" (wsM y0 b0 nl0 ret0)) (hin2 : (gM X).name = "<init>") (hd : decode cc pc = .ok (.putfield 16, 3)) {o : Nat} {fs : List Value} {v : Value} (he : M[o]? = some (.inr (9, fs))) (hl : 1 < fs.length) (hn : ∀ ad : Nat → Nat, narrow (.array .char) (mc_v ad v) = mc_v ad v ∧ fits (.array .char) (mc_v ad v) = true) (kk : gg X (M.set o (.inr (9, fs.set 1 v))) k n (pc + 3) L st) : gg X M k n pc L (v :: .ref o :: st) := g_putF ok (C := RTS) (T := TTS) (N := 9) (f := 1) (ref := "TripleStore") (fun w h => List.mem_cons_of_mem _ (inTS w h)) tyTS okTS nmTS rfl (by decide) (List.mem_cons_of_mem _ fl_TS_16) rfl rfl hin2 rfl (by decide +kernel) hd he hl hn kk
theorem fl_TS_23 : Cond.fieldLink "TripleStore" 23 "TripleStore" "tokens" "LTripleStore$Tokens;" ∈ gT := gT_at 283 (by decide +kernel) (by decide +kernel)
theorem gf_TS_23 {X : gC} {cc : ByteArray} {M : List mC} {k n pc : Nat} {L : List (Nat × Value)} {st : List Value} {y0 : MethodName} {b0 : ByteArray} {nl0 : Nat} {ret0 : Option FieldType} (ok : gO X cc "TripleStore" (wsM y0 b0 nl0 ret0)) (hd : decode cc pc = .ok (.getfield 23, 3)) {o : Nat} {fs : List Value} {v : Value} (he : M[o]? = some (.inr (9, fs))) (hv : fs[2]? = some v) (kk : gg X M k n (pc + 3) L (v :: st)) : gg X M k n pc L (.ref o :: st) := g_get ok (C := RTS) (T := TTS) (N := 9) (f := 2) (ref := "TripleStore") (fun w h => List.mem_cons_of_mem _ (inTS w h)) rfl (by decide) (List.mem_cons_of_mem _ fl_TS_23) rfl hd he hv kk
theorem pf_TS_23 {X : gC} {cc : ByteArray} {M : List mC} {k n pc : Nat} {L : List (Nat × Value)} {st : List Value} {y0 : MethodName} {b0 : ByteArray} {nl0 : Nat} {ret0 : Option FieldType} (ok : gO X cc "TripleStore" (wsM y0 b0 nl0 ret0)) (hin2 : (gM X).name = "<init>") (hd : decode cc pc = .ok (.putfield 23, 3)) {o : Nat} {fs : List Value} {v : Value} (he : M[o]? = some (.inr (9, fs))) (hl : 2 < fs.length) (hn : ∀ ad : Nat → Nat, narrow (.object "TripleStore$Tokens") (mc_v ad v) = mc_v ad v ∧ fits (.object "TripleStore$Tokens") (mc_v ad v) = true) (kk : gg X (M.set o (.inr (9, fs.set 2 v))) k n (pc + 3) L st) : gg X M k n pc L (v :: .ref o :: st) := g_putF ok (C := RTS) (T := TTS) (N := 9) (f := 2) (ref := "TripleStore") (fun w h => List.mem_cons_of_mem _ (inTS w h)) tyTS okTS nmTS rfl (by decide) (List.mem_cons_of_mem _ fl_TS_23) rfl rfl hin2 rfl (by decide +kernel) hd he hl hn kk
theorem fl_TS_30 : Cond.fieldLink "TripleStore" 30 "TripleStore" "query" "LTripleStore$Query;" ∈ gT := gT_at 284 (by decide +kernel) (by decide +kernel)
theorem gf_TS_30 {X : gC} {cc : ByteArray} {M : List mC} {k n pc : Nat} {L : List (Nat × Value)} {st : List Value} {y0 : MethodName} {b0 : ByteArray} {nl0 : Nat} {ret0 : Option FieldType} (ok : gO X cc "TripleStore" (wsM y0 b0 nl0 ret0)) (hd : decode cc pc = .ok (.getfield 30, 3)) {o : Nat} {fs : List Value} {v : Value} (he : M[o]? = some (.inr (9, fs))) (hv : fs[3]? = some v) (kk : gg X M k n (pc + 3) L (v :: st)) : gg X M k n pc L (.ref o :: st) := g_get ok (C := RTS) (T := TTS) (N := 9) (f := 3) (ref := "TripleStore") (fun w h => List.mem_cons_of_mem _ (inTS w h)) rfl (by decide) (List.mem_cons_of_mem _ fl_TS_30) rfl hd he hv kk
theorem pf_TS_30 {X : gC} {cc : ByteArray} {M : List mC} {k n pc : Nat} {L : List (Nat × Value)} {st : List Value} {y0 : MethodName} {b0 : ByteArray} {nl0 : Nat} {ret0 : Option FieldType} (ok : gO X cc "TripleStore" (wsM y0 b0 nl0 ret0)) (hin2 : (gM X).name = "<init>") (hd : decode cc pc = .ok (.putfield 30, 3)) {o : Nat} {fs : List Value} {v : Value} (he : M[o]? = some (.inr (9, fs))) (hl : 3 < fs.length) (hn : ∀ ad : Nat → Nat, narrow (.object "TripleStore$Query") (mc_v ad v) = mc_v ad v ∧ fits (.object "TripleStore$Query") (mc_v ad v) = true) (kk : gg X (M.set o (.inr (9, fs.set 3 v))) k n (pc + 3) L st) : gg X M k n pc L (v :: .ref o :: st) := g_putF ok (C := RTS) (T := TTS) (N := 9) (f := 3) (ref := "TripleStore") (fun w h => List.mem_cons_of_mem _ (inTS w h)) tyTS okTS nmTS rfl (by decide) (List.mem_cons_of_mem _ fl_TS_30) rfl rfl hin2 rfl (by decide +kernel) hd he hl hn kk
theorem fl_TS_39 : Cond.fieldLink "TripleStore" 39 "TripleStore" "parser" "LTripleStore$Parser;" ∈ gT := gT_at 285 (by decide +kernel) (by decide +kernel)
theorem gf_TS_39 {X : gC} {cc : ByteArray} {M : List mC} {k n pc : Nat} {L : List (Nat × Value)} {st : List Value} {y0 : MethodName} {b0 : ByteArray} {nl0 : Nat} {ret0 : Option FieldType} (ok : gO X cc "TripleStore" (wsM y0 b0 nl0 ret0)) (hd : decode cc pc = .ok (.getfield 39, 3)) {o : Nat} {fs : List Value} {v : Value} (he : M[o]? = some (.inr (9, fs))) (hv : fs[4]? = some v) (kk : gg X M k n (pc + 3) L (v :: st)) : gg X M k n pc L (.ref o :: st) := g_get ok (C := RTS) (T := TTS) (N := 9) (f := 4) (ref := "TripleStore") (fun w h => List.mem_cons_of_mem _ (inTS w h)) rfl (by decide) (List.mem_cons_of_mem _ fl_TS_39) rfl hd he hv kk
theorem pf_TS_39 {X : gC} {cc : ByteArray} {M : List mC} {k n pc : Nat} {L : List (Nat × Value)} {st : List Value} {y0 : MethodName} {b0 : ByteArray} {nl0 : Nat} {ret0 : Option FieldType} (ok : gO X cc "TripleStore" (wsM y0 b0 nl0 ret0)) (hin2 : (gM X).name = "<init>") (hd : decode cc pc = .ok (.putfield 39, 3)) {o : Nat} {fs : List Value} {v : Value} (he : M[o]? = some (.inr (9, fs))) (hl : 4 < fs.length) (hn : ∀ ad : Nat → Nat, narrow (.object "TripleStore$Parser") (mc_v ad v) = mc_v ad v ∧ fits (.object "TripleStore$Parser") (mc_v ad v) = true) (kk : gg X (M.set o (.inr (9, fs.set 4 v))) k n (pc + 3) L st) : gg X M k n pc L (v :: .ref o :: st) := g_putF ok (C := RTS) (T := TTS) (N := 9) (f := 4) (ref := "TripleStore") (fun w h => List.mem_cons_of_mem _ (inTS w h)) tyTS okTS nmTS rfl (by decide) (List.mem_cons_of_mem _ fl_TS_39) rfl rfl hin2 rfl (by decide +kernel) hd he hl hn kk
theorem fl_TS_48 : Cond.fieldLink "TripleStore" 48 "TripleStore" "solver" "LTripleStore$Solver;" ∈ gT := gT_at 286 (by decide +kernel) (by decide +kernel)
theorem gf_TS_48 {X : gC} {cc : ByteArray} {M : List mC} {k n pc : Nat} {L : List (Nat × Value)} {st : List Value} {y0 : MethodName} {b0 : ByteArray} {nl0 : Nat} {ret0 : Option FieldType} (ok : gO X cc "TripleStore" (wsM y0 b0 nl0 ret0)) (hd : decode cc pc = .ok (.getfield 48, 3)) {o : Nat} {fs : List Value} {v : Value} (he : M[o]? = some (.inr (9, fs))) (hv : fs[5]? = some v) (kk : gg X M k n (pc + 3) L (v :: st)) : gg X M k n pc L (.ref o :: st) := g_get ok (C := RTS) (T := TTS) (N := 9) (f := 5) (ref := "TripleStore") (fun w h => List.mem_cons_of_mem _ (inTS w h)) rfl (by decide) (List.mem_cons_of_mem _ fl_TS_48) rfl hd he hv kk
theorem pf_TS_48 {X : gC} {cc : ByteArray} {M : List mC} {k n pc : Nat} {L : List (Nat × Value)} {st : List Value} {y0 : MethodName} {b0 : ByteArray} {nl0 : Nat} {ret0 : Option FieldType} (ok : gO X cc "TripleStore" (wsM y0 b0 nl0 ret0)) (hin2 : (gM X).name = "<init>") (hd : decode cc pc = .ok (.putfield 48, 3)) {o : Nat} {fs : List Value} {v : Value} (he : M[o]? = some (.inr (9, fs))) (hl : 5 < fs.length) (hn : ∀ ad : Nat → Nat, narrow (.object "TripleStore$Solver") (mc_v ad v) = mc_v ad v ∧ fits (.object "TripleStore$Solver") (mc_v ad v) = true) (kk : gg X (M.set o (.inr (9, fs.set 5 v))) k n (pc + 3) L st) : gg X M k n pc L (v :: .ref o :: st) := g_putF ok (C := RTS) (T := TTS) (N := 9) (f := 5) (ref := "TripleStore") (fun w h => List.mem_cons_of_mem _ (inTS w h)) tyTS okTS nmTS rfl (by decide) (List.mem_cons_of_mem _ fl_TS_48) rfl rfl hin2 rfl (by decide +kernel) hd he hl hn kk
theorem fl_TS_55 : Cond.fieldLink "TripleStore" 55 "TripleStore" "rows" "LTripleStore$Rows;" ∈ gT := gT_at 287 (by decide +kernel) (by decide +kernel)
theorem gf_TS_55 {X : gC} {cc : ByteArray} {M : List mC} {k n pc : Nat} {L : List (Nat × Value)} {st : List Value} {y0 : MethodName} {b0 : ByteArray} {nl0 : Nat} {ret0 : Option FieldType} (ok : gO X cc "TripleStore" (wsM y0 b0 nl0 ret0)) (hd : decode cc pc = .ok (.getfield 55, 3)) {o : Nat} {fs : List Value} {v : Value} (he : M[o]? = some (.inr (9, fs))) (hv : fs[6]? = some v) (kk : gg X M k n (pc + 3) L (v :: st)) : gg X M k n pc L (.ref o :: st) := g_get ok (C := RTS) (T := TTS) (N := 9) (f := 6) (ref := "TripleStore") (fun w h => List.mem_cons_of_mem _ (inTS w h)) rfl (by decide) (List.mem_cons_of_mem _ fl_TS_55) rfl hd he hv kk
theorem pf_TS_55 {X : gC} {cc : ByteArray} {M : List mC} {k n pc : Nat} {L : List (Nat × Value)} {st : List Value} {y0 : MethodName} {b0 : ByteArray} {nl0 : Nat} {ret0 : Option FieldType} (ok : gO X cc "TripleStore" (wsM y0 b0 nl0 ret0)) (hin2 : (gM X).name = "<init>") (hd : decode cc pc = .ok (.putfield 55, 3)) {o : Nat} {fs : List Value} {v : Value} (he : M[o]? = some (.inr (9, fs))) (hl : 6 < fs.length) (hn : ∀ ad : Nat → Nat, narrow (.object "TripleStore$Rows") (mc_v ad v) = mc_v ad v ∧ fits (.object "TripleStore$Rows") (mc_v ad v) = true) (kk : gg X (M.set o (.inr (9, fs.set 6 v))) k n (pc + 3) L st) : gg X M k n pc L (v :: .ref o :: st) := g_putF ok (C := RTS) (T := TTS) (N := 9) (f := 6) (ref := "TripleStore") (fun w h => List.mem_cons_of_mem _ (inTS w h)) tyTS okTS nmTS rfl (by decide) (List.mem_cons_of_mem _ fl_TS_55) rfl rfl hin2 rfl (by decide +kernel) hd he hl hn kk
theorem fl_TS_59 : Cond.fieldLink "TripleStore" 59 "TripleStore" "length" "I" ∈ gT := gT_at 288 (by decide +kernel) (by decide +kernel)
theorem gf_TS_59 {X : gC} {cc : ByteArray} {M : List mC} {k n pc : Nat} {L : List (Nat × Value)} {st : List Value} {y0 : MethodName} {b0 : ByteArray} {nl0 : Nat} {ret0 : Option FieldType} (ok : gO X cc "TripleStore" (wsM y0 b0 nl0 ret0)) (hd : decode cc pc = .ok (.getfield 59, 3)) {o : Nat} {fs : List Value} {v : Value} (he : M[o]? = some (.inr (9, fs))) (hv : fs[7]? = some v) (kk : gg X M k n (pc + 3) L (v :: st)) : gg X M k n pc L (.ref o :: st) := g_get ok (C := RTS) (T := TTS) (N := 9) (f := 7) (ref := "TripleStore") (fun w h => List.mem_cons_of_mem _ (inTS w h)) rfl (by decide) (List.mem_cons_of_mem _ fl_TS_59) rfl hd he hv kk
theorem pf_TS_59 {X : gC} {cc : ByteArray} {M : List mC} {k n pc : Nat} {L : List (Nat × Value)} {st : List Value} {y0 : MethodName} {b0 : ByteArray} {nl0 : Nat} {ret0 : Option FieldType} (ok : gO X cc "TripleStore" (wsM y0 b0 nl0 ret0)) (hd : decode cc pc = .ok (.putfield 59, 3)) {o : Nat} {fs : List Value} {v : Value} (he : M[o]? = some (.inr (9, fs))) (hl : 7 < fs.length) (hn : ∀ ad : Nat → Nat, narrow .int (mc_v ad v) = mc_v ad v ∧ fits .int (mc_v ad v) = true) (kk : gg X (M.set o (.inr (9, fs.set 7 v))) k n (pc + 3) L st) : gg X M k n pc L (v :: .ref o :: st) := g_put ok (C := RTS) (T := TTS) (N := 9) (f := 7) (ref := "TripleStore") (fun w h => List.mem_cons_of_mem _ (inTS w h)) tyTS okTS nmTS rfl (by decide) (List.mem_cons_of_mem _ fl_TS_59) rfl rfl (by decide +kernel) hd he hl hn kk
theorem fl_TS_63 : Cond.fieldLink "TripleStore" 63 "TripleStore" "faultPlace" "I" ∈ gT := gT_at 289 (by decide +kernel) (by decide +kernel)
theorem gf_TS_63 {X : gC} {cc : ByteArray} {M : List mC} {k n pc : Nat} {L : List (Nat × Value)} {st : List Value} {y0 : MethodName} {b0 : ByteArray} {nl0 : Nat} {ret0 : Option FieldType} (ok : gO X cc "TripleStore" (wsM y0 b0 nl0 ret0)) (hd : decode cc pc = .ok (.getfield 63, 3)) {o : Nat} {fs : List Value} {v : Value} (he : M[o]? = some (.inr (9, fs))) (hv : fs[8]? = some v) (kk : gg X M k n (pc + 3) L (v :: st)) : gg X M k n pc L (.ref o :: st) := g_get ok (C := RTS) (T := TTS) (N := 9) (f := 8) (ref := "TripleStore") (fun w h => List.mem_cons_of_mem _ (inTS w h)) rfl (by decide) (List.mem_cons_of_mem _ fl_TS_63) rfl hd he hv kk
theorem pf_TS_63 {X : gC} {cc : ByteArray} {M : List mC} {k n pc : Nat} {L : List (Nat × Value)} {st : List Value} {y0 : MethodName} {b0 : ByteArray} {nl0 : Nat} {ret0 : Option FieldType} (ok : gO X cc "TripleStore" (wsM y0 b0 nl0 ret0)) (hd : decode cc pc = .ok (.putfield 63, 3)) {o : Nat} {fs : List Value} {v : Value} (he : M[o]? = some (.inr (9, fs))) (hl : 8 < fs.length) (hn : ∀ ad : Nat → Nat, narrow .int (mc_v ad v) = mc_v ad v ∧ fits .int (mc_v ad v) = true) (kk : gg X (M.set o (.inr (9, fs.set 8 v))) k n (pc + 3) L st) : gg X M k n pc L (v :: .ref o :: st) := g_put ok (C := RTS) (T := TTS) (N := 9) (f := 8) (ref := "TripleStore") (fun w h => List.mem_cons_of_mem _ (inTS w h)) tyTS okTS nmTS rfl (by decide) (List.mem_cons_of_mem _ fl_TS_63) rfl rfl (by decide +kernel) hd he hl hn kk
theorem fl_Mo_7 : Cond.fieldLink "TripleStoreModel" 7 "TripleStoreModel" "triple" "[J" ∈ gT := gT_at 975 (by decide +kernel) (by decide +kernel)
theorem gf_Mo_7 {X : gC} {cc : ByteArray} {M : List mC} {k n pc : Nat} {L : List (Nat × Value)} {st : List Value} {y0 : MethodName} {b0 : ByteArray} {nl0 : Nat} {ret0 : Option FieldType} (ok : gO X cc "TripleStoreModel" (wsM y0 b0 nl0 ret0)) (hd : decode cc pc = .ok (.getfield 7, 3)) {o : Nat} {fs : List Value} {v : Value} (he : M[o]? = some (.inr (10, fs))) (hv : fs[0]? = some v) (kk : gg X M k n (pc + 3) L (v :: st)) : gg X M k n pc L (.ref o :: st) := g_get ok (C := RMo) (T := TMo) (N := 59) (f := 0) (ref := "TripleStoreModel") (fun w h => List.mem_cons_of_mem _ (inMo w h)) rfl (by decide) (List.mem_cons_of_mem _ fl_Mo_7) rfl hd he hv kk
theorem pf_Mo_7 {X : gC} {cc : ByteArray} {M : List mC} {k n pc : Nat} {L : List (Nat × Value)} {st : List Value} {y0 : MethodName} {b0 : ByteArray} {nl0 : Nat} {ret0 : Option FieldType} (ok : gO X cc "TripleStoreModel" (wsM y0 b0 nl0 ret0)) (hin2 : (gM X).name = "<init>") (hd : decode cc pc = .ok (.putfield 7, 3)) {o : Nat} {fs : List Value} {v : Value} (he : M[o]? = some (.inr (10, fs))) (hl : 0 < fs.length) (hn : ∀ ad : Nat → Nat, narrow (.array .long) (mc_v ad v) = mc_v ad v ∧ fits (.array .long) (mc_v ad v) = true) (kk : gg X (M.set o (.inr (10, fs.set 0 v))) k n (pc + 3) L st) : gg X M k n pc L (v :: .ref o :: st) := g_putF ok (C := RMo) (T := TMo) (N := 59) (f := 0) (ref := "TripleStoreModel") (fun w h => List.mem_cons_of_mem _ (inMo w h)) tyMo okMo nmMo rfl (by decide) (List.mem_cons_of_mem _ fl_Mo_7) rfl rfl hin2 rfl (by decide +kernel) hd he hl hn kk
theorem fl_Mo_102 : Cond.fieldLink "TripleStoreModel" 102 "TripleStoreModel" "triples" "I" ∈ gT := gT_at 976 (by decide +kernel) (by decide +kernel)
theorem gf_Mo_102 {X : gC} {cc : ByteArray} {M : List mC} {k n pc : Nat} {L : List (Nat × Value)} {st : List Value} {y0 : MethodName} {b0 : ByteArray} {nl0 : Nat} {ret0 : Option FieldType} (ok : gO X cc "TripleStoreModel" (wsM y0 b0 nl0 ret0)) (hd : decode cc pc = .ok (.getfield 102, 3)) {o : Nat} {fs : List Value} {v : Value} (he : M[o]? = some (.inr (10, fs))) (hv : fs[1]? = some v) (kk : gg X M k n (pc + 3) L (v :: st)) : gg X M k n pc L (.ref o :: st) := g_get ok (C := RMo) (T := TMo) (N := 59) (f := 1) (ref := "TripleStoreModel") (fun w h => List.mem_cons_of_mem _ (inMo w h)) rfl (by decide) (List.mem_cons_of_mem _ fl_Mo_102) rfl hd he hv kk
theorem pf_Mo_102 {X : gC} {cc : ByteArray} {M : List mC} {k n pc : Nat} {L : List (Nat × Value)} {st : List Value} {y0 : MethodName} {b0 : ByteArray} {nl0 : Nat} {ret0 : Option FieldType} (ok : gO X cc "TripleStoreModel" (wsM y0 b0 nl0 ret0)) (hd : decode cc pc = .ok (.putfield 102, 3)) {o : Nat} {fs : List Value} {v : Value} (he : M[o]? = some (.inr (10, fs))) (hl : 1 < fs.length) (hn : ∀ ad : Nat → Nat, narrow .int (mc_v ad v) = mc_v ad v ∧ fits .int (mc_v ad v) = true) (kk : gg X (M.set o (.inr (10, fs.set 1 v))) k n (pc + 3) L st) : gg X M k n pc L (v :: .ref o :: st) := g_put ok (C := RMo) (T := TMo) (N := 59) (f := 1) (ref := "TripleStoreModel") (fun w h => List.mem_cons_of_mem _ (inMo w h)) tyMo okMo nmMo rfl (by decide) (List.mem_cons_of_mem _ fl_Mo_102) rfl rfl (by decide +kernel) hd he hl hn kk
theorem fl_Mo_13 : Cond.fieldLink "TripleStoreModel" 13 "TripleStoreModel" "kept" "[J" ∈ gT := gT_at 977 (by decide +kernel) (by decide +kernel)
theorem gf_Mo_13 {X : gC} {cc : ByteArray} {M : List mC} {k n pc : Nat} {L : List (Nat × Value)} {st : List Value} {y0 : MethodName} {b0 : ByteArray} {nl0 : Nat} {ret0 : Option FieldType} (ok : gO X cc "TripleStoreModel" (wsM y0 b0 nl0 ret0)) (hd : decode cc pc = .ok (.getfield 13, 3)) {o : Nat} {fs : List Value} {v : Value} (he : M[o]? = some (.inr (10, fs))) (hv : fs[2]? = some v) (kk : gg X M k n (pc + 3) L (v :: st)) : gg X M k n pc L (.ref o :: st) := g_get ok (C := RMo) (T := TMo) (N := 59) (f := 2) (ref := "TripleStoreModel") (fun w h => List.mem_cons_of_mem _ (inMo w h)) rfl (by decide) (List.mem_cons_of_mem _ fl_Mo_13) rfl hd he hv kk
theorem pf_Mo_13 {X : gC} {cc : ByteArray} {M : List mC} {k n pc : Nat} {L : List (Nat × Value)} {st : List Value} {y0 : MethodName} {b0 : ByteArray} {nl0 : Nat} {ret0 : Option FieldType} (ok : gO X cc "TripleStoreModel" (wsM y0 b0 nl0 ret0)) (hin2 : (gM X).name = "<init>") (hd : decode cc pc = .ok (.putfield 13, 3)) {o : Nat} {fs : List Value} {v : Value} (he : M[o]? = some (.inr (10, fs))) (hl : 2 < fs.length) (hn : ∀ ad : Nat → Nat, narrow (.array .long) (mc_v ad v) = mc_v ad v ∧ fits (.array .long) (mc_v ad v) = true) (kk : gg X (M.set o (.inr (10, fs.set 2 v))) k n (pc + 3) L st) : gg X M k n pc L (v :: .ref o :: st) := g_putF ok (C := RMo) (T := TMo) (N := 59) (f := 2) (ref := "TripleStoreModel") (fun w h => List.mem_cons_of_mem _ (inMo w h)) tyMo okMo nmMo rfl (by decide) (List.mem_cons_of_mem _ fl_Mo_13) rfl rfl hin2 rfl (by decide +kernel) hd he hl hn kk
theorem fl_Mo_155 : Cond.fieldLink "TripleStoreModel" 155 "TripleStoreModel" "keptCount" "I" ∈ gT := gT_at 978 (by decide +kernel) (by decide +kernel)
theorem gf_Mo_155 {X : gC} {cc : ByteArray} {M : List mC} {k n pc : Nat} {L : List (Nat × Value)} {st : List Value} {y0 : MethodName} {b0 : ByteArray} {nl0 : Nat} {ret0 : Option FieldType} (ok : gO X cc "TripleStoreModel" (wsM y0 b0 nl0 ret0)) (hd : decode cc pc = .ok (.getfield 155, 3)) {o : Nat} {fs : List Value} {v : Value} (he : M[o]? = some (.inr (10, fs))) (hv : fs[3]? = some v) (kk : gg X M k n (pc + 3) L (v :: st)) : gg X M k n pc L (.ref o :: st) := g_get ok (C := RMo) (T := TMo) (N := 59) (f := 3) (ref := "TripleStoreModel") (fun w h => List.mem_cons_of_mem _ (inMo w h)) rfl (by decide) (List.mem_cons_of_mem _ fl_Mo_155) rfl hd he hv kk
theorem pf_Mo_155 {X : gC} {cc : ByteArray} {M : List mC} {k n pc : Nat} {L : List (Nat × Value)} {st : List Value} {y0 : MethodName} {b0 : ByteArray} {nl0 : Nat} {ret0 : Option FieldType} (ok : gO X cc "TripleStoreModel" (wsM y0 b0 nl0 ret0)) (hd : decode cc pc = .ok (.putfield 155, 3)) {o : Nat} {fs : List Value} {v : Value} (he : M[o]? = some (.inr (10, fs))) (hl : 3 < fs.length) (hn : ∀ ad : Nat → Nat, narrow .int (mc_v ad v) = mc_v ad v ∧ fits .int (mc_v ad v) = true) (kk : gg X (M.set o (.inr (10, fs.set 3 v))) k n (pc + 3) L st) : gg X M k n pc L (v :: .ref o :: st) := g_put ok (C := RMo) (T := TMo) (N := 59) (f := 3) (ref := "TripleStoreModel") (fun w h => List.mem_cons_of_mem _ (inMo w h)) tyMo okMo nmMo rfl (by decide) (List.mem_cons_of_mem _ fl_Mo_155) rfl rfl (by decide +kernel) hd he hl hn kk
theorem fl_Mo_16 : Cond.fieldLink "TripleStoreModel" 16 "TripleStoreModel" "change" "[J" ∈ gT := gT_at 979 (by decide +kernel) (by decide +kernel)
theorem gf_Mo_16 {X : gC} {cc : ByteArray} {M : List mC} {k n pc : Nat} {L : List (Nat × Value)} {st : List Value} {y0 : MethodName} {b0 : ByteArray} {nl0 : Nat} {ret0 : Option FieldType} (ok : gO X cc "TripleStoreModel" (wsM y0 b0 nl0 ret0)) (hd : decode cc pc = .ok (.getfield 16, 3)) {o : Nat} {fs : List Value} {v : Value} (he : M[o]? = some (.inr (10, fs))) (hv : fs[4]? = some v) (kk : gg X M k n (pc + 3) L (v :: st)) : gg X M k n pc L (.ref o :: st) := g_get ok (C := RMo) (T := TMo) (N := 59) (f := 4) (ref := "TripleStoreModel") (fun w h => List.mem_cons_of_mem _ (inMo w h)) rfl (by decide) (List.mem_cons_of_mem _ fl_Mo_16) rfl hd he hv kk
theorem pf_Mo_16 {X : gC} {cc : ByteArray} {M : List mC} {k n pc : Nat} {L : List (Nat × Value)} {st : List Value} {y0 : MethodName} {b0 : ByteArray} {nl0 : Nat} {ret0 : Option FieldType} (ok : gO X cc "TripleStoreModel" (wsM y0 b0 nl0 ret0)) (hin2 : (gM X).name = "<init>") (hd : decode cc pc = .ok (.putfield 16, 3)) {o : Nat} {fs : List Value} {v : Value} (he : M[o]? = some (.inr (10, fs))) (hl : 4 < fs.length) (hn : ∀ ad : Nat → Nat, narrow (.array .long) (mc_v ad v) = mc_v ad v ∧ fits (.array .long) (mc_v ad v) = true) (kk : gg X (M.set o (.inr (10, fs.set 4 v))) k n (pc + 3) L st) : gg X M k n pc L (v :: .ref o :: st) := g_putF ok (C := RMo) (T := TMo) (N := 59) (f := 4) (ref := "TripleStoreModel") (fun w h => List.mem_cons_of_mem _ (inMo w h)) tyMo okMo nmMo rfl (by decide) (List.mem_cons_of_mem _ fl_Mo_16) rfl rfl hin2 rfl (by decide +kernel) hd he hl hn kk
theorem fl_Mo_19 : Cond.fieldLink "TripleStoreModel" 19 "TripleStoreModel" "put" "[Z" ∈ gT := gT_at 980 (by decide +kernel) (by decide +kernel)
theorem gf_Mo_19 {X : gC} {cc : ByteArray} {M : List mC} {k n pc : Nat} {L : List (Nat × Value)} {st : List Value} {y0 : MethodName} {b0 : ByteArray} {nl0 : Nat} {ret0 : Option FieldType} (ok : gO X cc "TripleStoreModel" (wsM y0 b0 nl0 ret0)) (hd : decode cc pc = .ok (.getfield 19, 3)) {o : Nat} {fs : List Value} {v : Value} (he : M[o]? = some (.inr (10, fs))) (hv : fs[5]? = some v) (kk : gg X M k n (pc + 3) L (v :: st)) : gg X M k n pc L (.ref o :: st) := g_get ok (C := RMo) (T := TMo) (N := 59) (f := 5) (ref := "TripleStoreModel") (fun w h => List.mem_cons_of_mem _ (inMo w h)) rfl (by decide) (List.mem_cons_of_mem _ fl_Mo_19) rfl hd he hv kk
theorem pf_Mo_19 {X : gC} {cc : ByteArray} {M : List mC} {k n pc : Nat} {L : List (Nat × Value)} {st : List Value} {y0 : MethodName} {b0 : ByteArray} {nl0 : Nat} {ret0 : Option FieldType} (ok : gO X cc "TripleStoreModel" (wsM y0 b0 nl0 ret0)) (hin2 : (gM X).name = "<init>") (hd : decode cc pc = .ok (.putfield 19, 3)) {o : Nat} {fs : List Value} {v : Value} (he : M[o]? = some (.inr (10, fs))) (hl : 5 < fs.length) (hn : ∀ ad : Nat → Nat, narrow (.array .boolean) (mc_v ad v) = mc_v ad v ∧ fits (.array .boolean) (mc_v ad v) = true) (kk : gg X (M.set o (.inr (10, fs.set 5 v))) k n (pc + 3) L st) : gg X M k n pc L (v :: .ref o :: st) := g_putF ok (C := RMo) (T := TMo) (N := 59) (f := 5) (ref := "TripleStoreModel") (fun w h => List.mem_cons_of_mem _ (inMo w h)) tyMo okMo nmMo rfl (by decide) (List.mem_cons_of_mem _ fl_Mo_19) rfl rfl hin2 rfl (by decide +kernel) hd he hl hn kk
theorem fl_Mo_23 : Cond.fieldLink "TripleStoreModel" 23 "TripleStoreModel" "of" "[I" ∈ gT := gT_at 981 (by decide +kernel) (by decide +kernel)
theorem gf_Mo_23 {X : gC} {cc : ByteArray} {M : List mC} {k n pc : Nat} {L : List (Nat × Value)} {st : List Value} {y0 : MethodName} {b0 : ByteArray} {nl0 : Nat} {ret0 : Option FieldType} (ok : gO X cc "TripleStoreModel" (wsM y0 b0 nl0 ret0)) (hd : decode cc pc = .ok (.getfield 23, 3)) {o : Nat} {fs : List Value} {v : Value} (he : M[o]? = some (.inr (10, fs))) (hv : fs[6]? = some v) (kk : gg X M k n (pc + 3) L (v :: st)) : gg X M k n pc L (.ref o :: st) := g_get ok (C := RMo) (T := TMo) (N := 59) (f := 6) (ref := "TripleStoreModel") (fun w h => List.mem_cons_of_mem _ (inMo w h)) rfl (by decide) (List.mem_cons_of_mem _ fl_Mo_23) rfl hd he hv kk
theorem pf_Mo_23 {X : gC} {cc : ByteArray} {M : List mC} {k n pc : Nat} {L : List (Nat × Value)} {st : List Value} {y0 : MethodName} {b0 : ByteArray} {nl0 : Nat} {ret0 : Option FieldType} (ok : gO X cc "TripleStoreModel" (wsM y0 b0 nl0 ret0)) (hin2 : (gM X).name = "<init>") (hd : decode cc pc = .ok (.putfield 23, 3)) {o : Nat} {fs : List Value} {v : Value} (he : M[o]? = some (.inr (10, fs))) (hl : 6 < fs.length) (hn : ∀ ad : Nat → Nat, narrow (.array .int) (mc_v ad v) = mc_v ad v ∧ fits (.array .int) (mc_v ad v) = true) (kk : gg X (M.set o (.inr (10, fs.set 6 v))) k n (pc + 3) L st) : gg X M k n pc L (v :: .ref o :: st) := g_putF ok (C := RMo) (T := TMo) (N := 59) (f := 6) (ref := "TripleStoreModel") (fun w h => List.mem_cons_of_mem _ (inMo w h)) tyMo okMo nmMo rfl (by decide) (List.mem_cons_of_mem _ fl_Mo_23) rfl rfl hin2 rfl (by decide +kernel) hd he hl hn kk
theorem fl_Mo_117 : Cond.fieldLink "TripleStoreModel" 117 "TripleStoreModel" "changes" "I" ∈ gT := gT_at 982 (by decide +kernel) (by decide +kernel)
theorem gf_Mo_117 {X : gC} {cc : ByteArray} {M : List mC} {k n pc : Nat} {L : List (Nat × Value)} {st : List Value} {y0 : MethodName} {b0 : ByteArray} {nl0 : Nat} {ret0 : Option FieldType} (ok : gO X cc "TripleStoreModel" (wsM y0 b0 nl0 ret0)) (hd : decode cc pc = .ok (.getfield 117, 3)) {o : Nat} {fs : List Value} {v : Value} (he : M[o]? = some (.inr (10, fs))) (hv : fs[7]? = some v) (kk : gg X M k n (pc + 3) L (v :: st)) : gg X M k n pc L (.ref o :: st) := g_get ok (C := RMo) (T := TMo) (N := 59) (f := 7) (ref := "TripleStoreModel") (fun w h => List.mem_cons_of_mem _ (inMo w h)) rfl (by decide) (List.mem_cons_of_mem _ fl_Mo_117) rfl hd he hv kk
theorem pf_Mo_117 {X : gC} {cc : ByteArray} {M : List mC} {k n pc : Nat} {L : List (Nat × Value)} {st : List Value} {y0 : MethodName} {b0 : ByteArray} {nl0 : Nat} {ret0 : Option FieldType} (ok : gO X cc "TripleStoreModel" (wsM y0 b0 nl0 ret0)) (hd : decode cc pc = .ok (.putfield 117, 3)) {o : Nat} {fs : List Value} {v : Value} (he : M[o]? = some (.inr (10, fs))) (hl : 7 < fs.length) (hn : ∀ ad : Nat → Nat, narrow .int (mc_v ad v) = mc_v ad v ∧ fits .int (mc_v ad v) = true) (kk : gg X (M.set o (.inr (10, fs.set 7 v))) k n (pc + 3) L st) : gg X M k n pc L (v :: .ref o :: st) := g_put ok (C := RMo) (T := TMo) (N := 59) (f := 7) (ref := "TripleStoreModel") (fun w h => List.mem_cons_of_mem _ (inMo w h)) tyMo okMo nmMo rfl (by decide) (List.mem_cons_of_mem _ fl_Mo_117) rfl rfl (by decide +kernel) hd he hl hn kk
theorem fl_Mo_130 : Cond.fieldLink "TripleStoreModel" 130 "TripleStoreModel" "committed" "I" ∈ gT := gT_at 983 (by decide +kernel) (by decide +kernel)
theorem gf_Mo_130 {X : gC} {cc : ByteArray} {M : List mC} {k n pc : Nat} {L : List (Nat × Value)} {st : List Value} {y0 : MethodName} {b0 : ByteArray} {nl0 : Nat} {ret0 : Option FieldType} (ok : gO X cc "TripleStoreModel" (wsM y0 b0 nl0 ret0)) (hd : decode cc pc = .ok (.getfield 130, 3)) {o : Nat} {fs : List Value} {v : Value} (he : M[o]? = some (.inr (10, fs))) (hv : fs[8]? = some v) (kk : gg X M k n (pc + 3) L (v :: st)) : gg X M k n pc L (.ref o :: st) := g_get ok (C := RMo) (T := TMo) (N := 59) (f := 8) (ref := "TripleStoreModel") (fun w h => List.mem_cons_of_mem _ (inMo w h)) rfl (by decide) (List.mem_cons_of_mem _ fl_Mo_130) rfl hd he hv kk
theorem pf_Mo_130 {X : gC} {cc : ByteArray} {M : List mC} {k n pc : Nat} {L : List (Nat × Value)} {st : List Value} {y0 : MethodName} {b0 : ByteArray} {nl0 : Nat} {ret0 : Option FieldType} (ok : gO X cc "TripleStoreModel" (wsM y0 b0 nl0 ret0)) (hd : decode cc pc = .ok (.putfield 130, 3)) {o : Nat} {fs : List Value} {v : Value} (he : M[o]? = some (.inr (10, fs))) (hl : 8 < fs.length) (hn : ∀ ad : Nat → Nat, narrow .int (mc_v ad v) = mc_v ad v ∧ fits .int (mc_v ad v) = true) (kk : gg X (M.set o (.inr (10, fs.set 8 v))) k n (pc + 3) L st) : gg X M k n pc L (v :: .ref o :: st) := g_put ok (C := RMo) (T := TMo) (N := 59) (f := 8) (ref := "TripleStoreModel") (fun w h => List.mem_cons_of_mem _ (inMo w h)) tyMo okMo nmMo rfl (by decide) (List.mem_cons_of_mem _ fl_Mo_130) rfl rfl (by decide +kernel) hd he hl hn kk
theorem fl_Mo_120 : Cond.fieldLink "TripleStoreModel" 120 "TripleStoreModel" "unsynced" "I" ∈ gT := gT_at 984 (by decide +kernel) (by decide +kernel)
theorem gf_Mo_120 {X : gC} {cc : ByteArray} {M : List mC} {k n pc : Nat} {L : List (Nat × Value)} {st : List Value} {y0 : MethodName} {b0 : ByteArray} {nl0 : Nat} {ret0 : Option FieldType} (ok : gO X cc "TripleStoreModel" (wsM y0 b0 nl0 ret0)) (hd : decode cc pc = .ok (.getfield 120, 3)) {o : Nat} {fs : List Value} {v : Value} (he : M[o]? = some (.inr (10, fs))) (hv : fs[9]? = some v) (kk : gg X M k n (pc + 3) L (v :: st)) : gg X M k n pc L (.ref o :: st) := g_get ok (C := RMo) (T := TMo) (N := 59) (f := 9) (ref := "TripleStoreModel") (fun w h => List.mem_cons_of_mem _ (inMo w h)) rfl (by decide) (List.mem_cons_of_mem _ fl_Mo_120) rfl hd he hv kk
theorem pf_Mo_120 {X : gC} {cc : ByteArray} {M : List mC} {k n pc : Nat} {L : List (Nat × Value)} {st : List Value} {y0 : MethodName} {b0 : ByteArray} {nl0 : Nat} {ret0 : Option FieldType} (ok : gO X cc "TripleStoreModel" (wsM y0 b0 nl0 ret0)) (hd : decode cc pc = .ok (.putfield 120, 3)) {o : Nat} {fs : List Value} {v : Value} (he : M[o]? = some (.inr (10, fs))) (hl : 9 < fs.length) (hn : ∀ ad : Nat → Nat, narrow .int (mc_v ad v) = mc_v ad v ∧ fits .int (mc_v ad v) = true) (kk : gg X (M.set o (.inr (10, fs.set 9 v))) k n (pc + 3) L st) : gg X M k n pc L (v :: .ref o :: st) := g_put ok (C := RMo) (T := TMo) (N := 59) (f := 9) (ref := "TripleStoreModel") (fun w h => List.mem_cons_of_mem _ (inMo w h)) tyMo okMo nmMo rfl (by decide) (List.mem_cons_of_mem _ fl_Mo_120) rfl rfl (by decide +kernel) hd he hl hn kk
theorem fl_Mo_123 : Cond.fieldLink "TripleStoreModel" 123 "TripleStoreModel" "open" "Z" ∈ gT := gT_at 985 (by decide +kernel) (by decide +kernel)
theorem gf_Mo_123 {X : gC} {cc : ByteArray} {M : List mC} {k n pc : Nat} {L : List (Nat × Value)} {st : List Value} {y0 : MethodName} {b0 : ByteArray} {nl0 : Nat} {ret0 : Option FieldType} (ok : gO X cc "TripleStoreModel" (wsM y0 b0 nl0 ret0)) (hd : decode cc pc = .ok (.getfield 123, 3)) {o : Nat} {fs : List Value} {v : Value} (he : M[o]? = some (.inr (10, fs))) (hv : fs[10]? = some v) (kk : gg X M k n (pc + 3) L (v :: st)) : gg X M k n pc L (.ref o :: st) := g_get ok (C := RMo) (T := TMo) (N := 59) (f := 10) (ref := "TripleStoreModel") (fun w h => List.mem_cons_of_mem _ (inMo w h)) rfl (by decide) (List.mem_cons_of_mem _ fl_Mo_123) rfl hd he hv kk
theorem pf_Mo_123 {X : gC} {cc : ByteArray} {M : List mC} {k n pc : Nat} {L : List (Nat × Value)} {st : List Value} {y0 : MethodName} {b0 : ByteArray} {nl0 : Nat} {ret0 : Option FieldType} (ok : gO X cc "TripleStoreModel" (wsM y0 b0 nl0 ret0)) (hd : decode cc pc = .ok (.putfield 123, 3)) {o : Nat} {fs : List Value} {v : Value} (he : M[o]? = some (.inr (10, fs))) (hl : 10 < fs.length) (hn : ∀ ad : Nat → Nat, narrow .boolean (mc_v ad v) = mc_v ad v ∧ fits .boolean (mc_v ad v) = true) (kk : gg X (M.set o (.inr (10, fs.set 10 v))) k n (pc + 3) L st) : gg X M k n pc L (v :: .ref o :: st) := g_put ok (C := RMo) (T := TMo) (N := 59) (f := 10) (ref := "TripleStoreModel") (fun w h => List.mem_cons_of_mem _ (inMo w h)) tyMo okMo nmMo rfl (by decide) (List.mem_cons_of_mem _ fl_Mo_123) rfl rfl (by decide +kernel) hd he hl hn kk
theorem fl_Mo_148 : Cond.fieldLink "TripleStoreModel" 148 "TripleStoreModel" "openFrom" "I" ∈ gT := gT_at 986 (by decide +kernel) (by decide +kernel)
theorem gf_Mo_148 {X : gC} {cc : ByteArray} {M : List mC} {k n pc : Nat} {L : List (Nat × Value)} {st : List Value} {y0 : MethodName} {b0 : ByteArray} {nl0 : Nat} {ret0 : Option FieldType} (ok : gO X cc "TripleStoreModel" (wsM y0 b0 nl0 ret0)) (hd : decode cc pc = .ok (.getfield 148, 3)) {o : Nat} {fs : List Value} {v : Value} (he : M[o]? = some (.inr (10, fs))) (hv : fs[11]? = some v) (kk : gg X M k n (pc + 3) L (v :: st)) : gg X M k n pc L (.ref o :: st) := g_get ok (C := RMo) (T := TMo) (N := 59) (f := 11) (ref := "TripleStoreModel") (fun w h => List.mem_cons_of_mem _ (inMo w h)) rfl (by decide) (List.mem_cons_of_mem _ fl_Mo_148) rfl hd he hv kk
theorem pf_Mo_148 {X : gC} {cc : ByteArray} {M : List mC} {k n pc : Nat} {L : List (Nat × Value)} {st : List Value} {y0 : MethodName} {b0 : ByteArray} {nl0 : Nat} {ret0 : Option FieldType} (ok : gO X cc "TripleStoreModel" (wsM y0 b0 nl0 ret0)) (hd : decode cc pc = .ok (.putfield 148, 3)) {o : Nat} {fs : List Value} {v : Value} (he : M[o]? = some (.inr (10, fs))) (hl : 11 < fs.length) (hn : ∀ ad : Nat → Nat, narrow .int (mc_v ad v) = mc_v ad v ∧ fits .int (mc_v ad v) = true) (kk : gg X (M.set o (.inr (10, fs.set 11 v))) k n (pc + 3) L st) : gg X M k n pc L (v :: .ref o :: st) := g_put ok (C := RMo) (T := TMo) (N := 59) (f := 11) (ref := "TripleStoreModel") (fun w h => List.mem_cons_of_mem _ (inMo w h)) tyMo okMo nmMo rfl (by decide) (List.mem_cons_of_mem _ fl_Mo_148) rfl rfl (by decide +kernel) hd he hl hn kk
theorem fl_Mo_27 : Cond.fieldLink "TripleStoreModel" 27 "TripleStoreModel" "text" "[I" ∈ gT := gT_at 987 (by decide +kernel) (by decide +kernel)
theorem gf_Mo_27 {X : gC} {cc : ByteArray} {M : List mC} {k n pc : Nat} {L : List (Nat × Value)} {st : List Value} {y0 : MethodName} {b0 : ByteArray} {nl0 : Nat} {ret0 : Option FieldType} (ok : gO X cc "TripleStoreModel" (wsM y0 b0 nl0 ret0)) (hd : decode cc pc = .ok (.getfield 27, 3)) {o : Nat} {fs : List Value} {v : Value} (he : M[o]? = some (.inr (10, fs))) (hv : fs[12]? = some v) (kk : gg X M k n (pc + 3) L (v :: st)) : gg X M k n pc L (.ref o :: st) := g_get ok (C := RMo) (T := TMo) (N := 59) (f := 12) (ref := "TripleStoreModel") (fun w h => List.mem_cons_of_mem _ (inMo w h)) rfl (by decide) (List.mem_cons_of_mem _ fl_Mo_27) rfl hd he hv kk
theorem pf_Mo_27 {X : gC} {cc : ByteArray} {M : List mC} {k n pc : Nat} {L : List (Nat × Value)} {st : List Value} {y0 : MethodName} {b0 : ByteArray} {nl0 : Nat} {ret0 : Option FieldType} (ok : gO X cc "TripleStoreModel" (wsM y0 b0 nl0 ret0)) (hin2 : (gM X).name = "<init>") (hd : decode cc pc = .ok (.putfield 27, 3)) {o : Nat} {fs : List Value} {v : Value} (he : M[o]? = some (.inr (10, fs))) (hl : 12 < fs.length) (hn : ∀ ad : Nat → Nat, narrow (.array .int) (mc_v ad v) = mc_v ad v ∧ fits (.array .int) (mc_v ad v) = true) (kk : gg X (M.set o (.inr (10, fs.set 12 v))) k n (pc + 3) L st) : gg X M k n pc L (v :: .ref o :: st) := g_putF ok (C := RMo) (T := TMo) (N := 59) (f := 12) (ref := "TripleStoreModel") (fun w h => List.mem_cons_of_mem _ (inMo w h)) tyMo okMo nmMo rfl (by decide) (List.mem_cons_of_mem _ fl_Mo_27) rfl rfl hin2 rfl (by decide +kernel) hd he hl hn kk
theorem fl_Mo_161 : Cond.fieldLink "TripleStoreModel" 161 "TripleStoreModel" "length" "I" ∈ gT := gT_at 988 (by decide +kernel) (by decide +kernel)
theorem gf_Mo_161 {X : gC} {cc : ByteArray} {M : List mC} {k n pc : Nat} {L : List (Nat × Value)} {st : List Value} {y0 : MethodName} {b0 : ByteArray} {nl0 : Nat} {ret0 : Option FieldType} (ok : gO X cc "TripleStoreModel" (wsM y0 b0 nl0 ret0)) (hd : decode cc pc = .ok (.getfield 161, 3)) {o : Nat} {fs : List Value} {v : Value} (he : M[o]? = some (.inr (10, fs))) (hv : fs[13]? = some v) (kk : gg X M k n (pc + 3) L (v :: st)) : gg X M k n pc L (.ref o :: st) := g_get ok (C := RMo) (T := TMo) (N := 59) (f := 13) (ref := "TripleStoreModel") (fun w h => List.mem_cons_of_mem _ (inMo w h)) rfl (by decide) (List.mem_cons_of_mem _ fl_Mo_161) rfl hd he hv kk
theorem pf_Mo_161 {X : gC} {cc : ByteArray} {M : List mC} {k n pc : Nat} {L : List (Nat × Value)} {st : List Value} {y0 : MethodName} {b0 : ByteArray} {nl0 : Nat} {ret0 : Option FieldType} (ok : gO X cc "TripleStoreModel" (wsM y0 b0 nl0 ret0)) (hd : decode cc pc = .ok (.putfield 161, 3)) {o : Nat} {fs : List Value} {v : Value} (he : M[o]? = some (.inr (10, fs))) (hl : 13 < fs.length) (hn : ∀ ad : Nat → Nat, narrow .int (mc_v ad v) = mc_v ad v ∧ fits .int (mc_v ad v) = true) (kk : gg X (M.set o (.inr (10, fs.set 13 v))) k n (pc + 3) L st) : gg X M k n pc L (v :: .ref o :: st) := g_put ok (C := RMo) (T := TMo) (N := 59) (f := 13) (ref := "TripleStoreModel") (fun w h => List.mem_cons_of_mem _ (inMo w h)) tyMo okMo nmMo rfl (by decide) (List.mem_cons_of_mem _ fl_Mo_161) rfl rfl (by decide +kernel) hd he hl hn kk
theorem fl_Mo_30 : Cond.fieldLink "TripleStoreModel" 30 "TripleStoreModel" "fault" "I" ∈ gT := gT_at 989 (by decide +kernel) (by decide +kernel)
theorem gf_Mo_30 {X : gC} {cc : ByteArray} {M : List mC} {k n pc : Nat} {L : List (Nat × Value)} {st : List Value} {y0 : MethodName} {b0 : ByteArray} {nl0 : Nat} {ret0 : Option FieldType} (ok : gO X cc "TripleStoreModel" (wsM y0 b0 nl0 ret0)) (hd : decode cc pc = .ok (.getfield 30, 3)) {o : Nat} {fs : List Value} {v : Value} (he : M[o]? = some (.inr (10, fs))) (hv : fs[14]? = some v) (kk : gg X M k n (pc + 3) L (v :: st)) : gg X M k n pc L (.ref o :: st) := g_get ok (C := RMo) (T := TMo) (N := 59) (f := 14) (ref := "TripleStoreModel") (fun w h => List.mem_cons_of_mem _ (inMo w h)) rfl (by decide) (List.mem_cons_of_mem _ fl_Mo_30) rfl hd he hv kk
theorem pf_Mo_30 {X : gC} {cc : ByteArray} {M : List mC} {k n pc : Nat} {L : List (Nat × Value)} {st : List Value} {y0 : MethodName} {b0 : ByteArray} {nl0 : Nat} {ret0 : Option FieldType} (ok : gO X cc "TripleStoreModel" (wsM y0 b0 nl0 ret0)) (hd : decode cc pc = .ok (.putfield 30, 3)) {o : Nat} {fs : List Value} {v : Value} (he : M[o]? = some (.inr (10, fs))) (hl : 14 < fs.length) (hn : ∀ ad : Nat → Nat, narrow .int (mc_v ad v) = mc_v ad v ∧ fits .int (mc_v ad v) = true) (kk : gg X (M.set o (.inr (10, fs.set 14 v))) k n (pc + 3) L st) : gg X M k n pc L (v :: .ref o :: st) := g_put ok (C := RMo) (T := TMo) (N := 59) (f := 14) (ref := "TripleStoreModel") (fun w h => List.mem_cons_of_mem _ (inMo w h)) tyMo okMo nmMo rfl (by decide) (List.mem_cons_of_mem _ fl_Mo_30) rfl rfl (by decide +kernel) hd he hl hn kk
theorem fl_Mo_181 : Cond.fieldLink "TripleStoreModel" 181 "TripleStoreModel" "kind" "I" ∈ gT := gT_at 990 (by decide +kernel) (by decide +kernel)
theorem gf_Mo_181 {X : gC} {cc : ByteArray} {M : List mC} {k n pc : Nat} {L : List (Nat × Value)} {st : List Value} {y0 : MethodName} {b0 : ByteArray} {nl0 : Nat} {ret0 : Option FieldType} (ok : gO X cc "TripleStoreModel" (wsM y0 b0 nl0 ret0)) (hd : decode cc pc = .ok (.getfield 181, 3)) {o : Nat} {fs : List Value} {v : Value} (he : M[o]? = some (.inr (10, fs))) (hv : fs[15]? = some v) (kk : gg X M k n (pc + 3) L (v :: st)) : gg X M k n pc L (.ref o :: st) := g_get ok (C := RMo) (T := TMo) (N := 59) (f := 15) (ref := "TripleStoreModel") (fun w h => List.mem_cons_of_mem _ (inMo w h)) rfl (by decide) (List.mem_cons_of_mem _ fl_Mo_181) rfl hd he hv kk
theorem pf_Mo_181 {X : gC} {cc : ByteArray} {M : List mC} {k n pc : Nat} {L : List (Nat × Value)} {st : List Value} {y0 : MethodName} {b0 : ByteArray} {nl0 : Nat} {ret0 : Option FieldType} (ok : gO X cc "TripleStoreModel" (wsM y0 b0 nl0 ret0)) (hd : decode cc pc = .ok (.putfield 181, 3)) {o : Nat} {fs : List Value} {v : Value} (he : M[o]? = some (.inr (10, fs))) (hl : 15 < fs.length) (hn : ∀ ad : Nat → Nat, narrow .int (mc_v ad v) = mc_v ad v ∧ fits .int (mc_v ad v) = true) (kk : gg X (M.set o (.inr (10, fs.set 15 v))) k n (pc + 3) L st) : gg X M k n pc L (v :: .ref o :: st) := g_put ok (C := RMo) (T := TMo) (N := 59) (f := 15) (ref := "TripleStoreModel") (fun w h => List.mem_cons_of_mem _ (inMo w h)) tyMo okMo nmMo rfl (by decide) (List.mem_cons_of_mem _ fl_Mo_181) rfl rfl (by decide +kernel) hd he hl hn kk
theorem fl_Mo_164 : Cond.fieldLink "TripleStoreModel" 164 "TripleStoreModel" "token" "J" ∈ gT := gT_at 991 (by decide +kernel) (by decide +kernel)
theorem gf_Mo_164 {X : gC} {cc : ByteArray} {M : List mC} {k n pc : Nat} {L : List (Nat × Value)} {st : List Value} {y0 : MethodName} {b0 : ByteArray} {nl0 : Nat} {ret0 : Option FieldType} (ok : gO X cc "TripleStoreModel" (wsM y0 b0 nl0 ret0)) (hd : decode cc pc = .ok (.getfield 164, 3)) {o : Nat} {fs : List Value} {v : Value} (he : M[o]? = some (.inr (10, fs))) (hv : fs[16]? = some v) (kk : gg X M k n (pc + 3) L (v :: st)) : gg X M k n pc L (.ref o :: st) := g_get ok (C := RMo) (T := TMo) (N := 59) (f := 16) (ref := "TripleStoreModel") (fun w h => List.mem_cons_of_mem _ (inMo w h)) rfl (by decide) (List.mem_cons_of_mem _ fl_Mo_164) rfl hd he hv kk
theorem pf_Mo_164 {X : gC} {cc : ByteArray} {M : List mC} {k n pc : Nat} {L : List (Nat × Value)} {st : List Value} {y0 : MethodName} {b0 : ByteArray} {nl0 : Nat} {ret0 : Option FieldType} (ok : gO X cc "TripleStoreModel" (wsM y0 b0 nl0 ret0)) (hd : decode cc pc = .ok (.putfield 164, 3)) {o : Nat} {fs : List Value} {v : Value} (he : M[o]? = some (.inr (10, fs))) (hl : 16 < fs.length) (hn : ∀ ad : Nat → Nat, narrow .long (mc_v ad v) = mc_v ad v ∧ fits .long (mc_v ad v) = true) (kk : gg X (M.set o (.inr (10, fs.set 16 v))) k n (pc + 3) L st) : gg X M k n pc L (v :: .ref o :: st) := g_put ok (C := RMo) (T := TMo) (N := 59) (f := 16) (ref := "TripleStoreModel") (fun w h => List.mem_cons_of_mem _ (inMo w h)) tyMo okMo nmMo rfl (by decide) (List.mem_cons_of_mem _ fl_Mo_164) rfl rfl (by decide +kernel) hd he hl hn kk
theorem fl_Mo_178 : Cond.fieldLink "TripleStoreModel" 178 "TripleStoreModel" "start" "I" ∈ gT := gT_at 992 (by decide +kernel) (by decide +kernel)
theorem gf_Mo_178 {X : gC} {cc : ByteArray} {M : List mC} {k n pc : Nat} {L : List (Nat × Value)} {st : List Value} {y0 : MethodName} {b0 : ByteArray} {nl0 : Nat} {ret0 : Option FieldType} (ok : gO X cc "TripleStoreModel" (wsM y0 b0 nl0 ret0)) (hd : decode cc pc = .ok (.getfield 178, 3)) {o : Nat} {fs : List Value} {v : Value} (he : M[o]? = some (.inr (10, fs))) (hv : fs[17]? = some v) (kk : gg X M k n (pc + 3) L (v :: st)) : gg X M k n pc L (.ref o :: st) := g_get ok (C := RMo) (T := TMo) (N := 59) (f := 17) (ref := "TripleStoreModel") (fun w h => List.mem_cons_of_mem _ (inMo w h)) rfl (by decide) (List.mem_cons_of_mem _ fl_Mo_178) rfl hd he hv kk
theorem pf_Mo_178 {X : gC} {cc : ByteArray} {M : List mC} {k n pc : Nat} {L : List (Nat × Value)} {st : List Value} {y0 : MethodName} {b0 : ByteArray} {nl0 : Nat} {ret0 : Option FieldType} (ok : gO X cc "TripleStoreModel" (wsM y0 b0 nl0 ret0)) (hd : decode cc pc = .ok (.putfield 178, 3)) {o : Nat} {fs : List Value} {v : Value} (he : M[o]? = some (.inr (10, fs))) (hl : 17 < fs.length) (hn : ∀ ad : Nat → Nat, narrow .int (mc_v ad v) = mc_v ad v ∧ fits .int (mc_v ad v) = true) (kk : gg X (M.set o (.inr (10, fs.set 17 v))) k n (pc + 3) L st) : gg X M k n pc L (v :: .ref o :: st) := g_put ok (C := RMo) (T := TMo) (N := 59) (f := 17) (ref := "TripleStoreModel") (fun w h => List.mem_cons_of_mem _ (inMo w h)) tyMo okMo nmMo rfl (by decide) (List.mem_cons_of_mem _ fl_Mo_178) rfl rfl (by decide +kernel) hd he hl hn kk
theorem fl_Mo_172 : Cond.fieldLink "TripleStoreModel" 172 "TripleStoreModel" "end" "I" ∈ gT := gT_at 993 (by decide +kernel) (by decide +kernel)
theorem gf_Mo_172 {X : gC} {cc : ByteArray} {M : List mC} {k n pc : Nat} {L : List (Nat × Value)} {st : List Value} {y0 : MethodName} {b0 : ByteArray} {nl0 : Nat} {ret0 : Option FieldType} (ok : gO X cc "TripleStoreModel" (wsM y0 b0 nl0 ret0)) (hd : decode cc pc = .ok (.getfield 172, 3)) {o : Nat} {fs : List Value} {v : Value} (he : M[o]? = some (.inr (10, fs))) (hv : fs[18]? = some v) (kk : gg X M k n (pc + 3) L (v :: st)) : gg X M k n pc L (.ref o :: st) := g_get ok (C := RMo) (T := TMo) (N := 59) (f := 18) (ref := "TripleStoreModel") (fun w h => List.mem_cons_of_mem _ (inMo w h)) rfl (by decide) (List.mem_cons_of_mem _ fl_Mo_172) rfl hd he hv kk
theorem pf_Mo_172 {X : gC} {cc : ByteArray} {M : List mC} {k n pc : Nat} {L : List (Nat × Value)} {st : List Value} {y0 : MethodName} {b0 : ByteArray} {nl0 : Nat} {ret0 : Option FieldType} (ok : gO X cc "TripleStoreModel" (wsM y0 b0 nl0 ret0)) (hd : decode cc pc = .ok (.putfield 172, 3)) {o : Nat} {fs : List Value} {v : Value} (he : M[o]? = some (.inr (10, fs))) (hl : 18 < fs.length) (hn : ∀ ad : Nat → Nat, narrow .int (mc_v ad v) = mc_v ad v ∧ fits .int (mc_v ad v) = true) (kk : gg X (M.set o (.inr (10, fs.set 18 v))) k n (pc + 3) L st) : gg X M k n pc L (v :: .ref o :: st) := g_put ok (C := RMo) (T := TMo) (N := 59) (f := 18) (ref := "TripleStoreModel") (fun w h => List.mem_cons_of_mem _ (inMo w h)) tyMo okMo nmMo rfl (by decide) (List.mem_cons_of_mem _ fl_Mo_172) rfl rfl (by decide +kernel) hd he hl hn kk
theorem fl_Mo_175 : Cond.fieldLink "TripleStoreModel" 175 "TripleStoreModel" "behind" "I" ∈ gT := gT_at 994 (by decide +kernel) (by decide +kernel)
theorem gf_Mo_175 {X : gC} {cc : ByteArray} {M : List mC} {k n pc : Nat} {L : List (Nat × Value)} {st : List Value} {y0 : MethodName} {b0 : ByteArray} {nl0 : Nat} {ret0 : Option FieldType} (ok : gO X cc "TripleStoreModel" (wsM y0 b0 nl0 ret0)) (hd : decode cc pc = .ok (.getfield 175, 3)) {o : Nat} {fs : List Value} {v : Value} (he : M[o]? = some (.inr (10, fs))) (hv : fs[19]? = some v) (kk : gg X M k n (pc + 3) L (v :: st)) : gg X M k n pc L (.ref o :: st) := g_get ok (C := RMo) (T := TMo) (N := 59) (f := 19) (ref := "TripleStoreModel") (fun w h => List.mem_cons_of_mem _ (inMo w h)) rfl (by decide) (List.mem_cons_of_mem _ fl_Mo_175) rfl hd he hv kk
theorem pf_Mo_175 {X : gC} {cc : ByteArray} {M : List mC} {k n pc : Nat} {L : List (Nat × Value)} {st : List Value} {y0 : MethodName} {b0 : ByteArray} {nl0 : Nat} {ret0 : Option FieldType} (ok : gO X cc "TripleStoreModel" (wsM y0 b0 nl0 ret0)) (hd : decode cc pc = .ok (.putfield 175, 3)) {o : Nat} {fs : List Value} {v : Value} (he : M[o]? = some (.inr (10, fs))) (hl : 19 < fs.length) (hn : ∀ ad : Nat → Nat, narrow .int (mc_v ad v) = mc_v ad v ∧ fits .int (mc_v ad v) = true) (kk : gg X (M.set o (.inr (10, fs.set 19 v))) k n (pc + 3) L st) : gg X M k n pc L (v :: .ref o :: st) := g_put ok (C := RMo) (T := TMo) (N := 59) (f := 19) (ref := "TripleStoreModel") (fun w h => List.mem_cons_of_mem _ (inMo w h)) tyMo okMo nmMo rfl (by decide) (List.mem_cons_of_mem _ fl_Mo_175) rfl rfl (by decide +kernel) hd he hl hn kk
theorem fl_Mo_220 : Cond.fieldLink "TripleStoreModel" 220 "TripleStoreModel" "wrong" "I" ∈ gT := gT_at 995 (by decide +kernel) (by decide +kernel)
theorem gf_Mo_220 {X : gC} {cc : ByteArray} {M : List mC} {k n pc : Nat} {L : List (Nat × Value)} {st : List Value} {y0 : MethodName} {b0 : ByteArray} {nl0 : Nat} {ret0 : Option FieldType} (ok : gO X cc "TripleStoreModel" (wsM y0 b0 nl0 ret0)) (hd : decode cc pc = .ok (.getfield 220, 3)) {o : Nat} {fs : List Value} {v : Value} (he : M[o]? = some (.inr (10, fs))) (hv : fs[20]? = some v) (kk : gg X M k n (pc + 3) L (v :: st)) : gg X M k n pc L (.ref o :: st) := g_get ok (C := RMo) (T := TMo) (N := 59) (f := 20) (ref := "TripleStoreModel") (fun w h => List.mem_cons_of_mem _ (inMo w h)) rfl (by decide) (List.mem_cons_of_mem _ fl_Mo_220) rfl hd he hv kk
theorem pf_Mo_220 {X : gC} {cc : ByteArray} {M : List mC} {k n pc : Nat} {L : List (Nat × Value)} {st : List Value} {y0 : MethodName} {b0 : ByteArray} {nl0 : Nat} {ret0 : Option FieldType} (ok : gO X cc "TripleStoreModel" (wsM y0 b0 nl0 ret0)) (hd : decode cc pc = .ok (.putfield 220, 3)) {o : Nat} {fs : List Value} {v : Value} (he : M[o]? = some (.inr (10, fs))) (hl : 20 < fs.length) (hn : ∀ ad : Nat → Nat, narrow .int (mc_v ad v) = mc_v ad v ∧ fits .int (mc_v ad v) = true) (kk : gg X (M.set o (.inr (10, fs.set 20 v))) k n (pc + 3) L st) : gg X M k n pc L (v :: .ref o :: st) := g_put ok (C := RMo) (T := TMo) (N := 59) (f := 20) (ref := "TripleStoreModel") (fun w h => List.mem_cons_of_mem _ (inMo w h)) tyMo okMo nmMo rfl (by decide) (List.mem_cons_of_mem _ fl_Mo_220) rfl rfl (by decide +kernel) hd he hl hn kk
theorem fl_Mo_281 : Cond.fieldLink "TripleStoreModel" 281 "TripleStoreModel" "starts" "Z" ∈ gT := gT_at 996 (by decide +kernel) (by decide +kernel)
theorem gf_Mo_281 {X : gC} {cc : ByteArray} {M : List mC} {k n pc : Nat} {L : List (Nat × Value)} {st : List Value} {y0 : MethodName} {b0 : ByteArray} {nl0 : Nat} {ret0 : Option FieldType} (ok : gO X cc "TripleStoreModel" (wsM y0 b0 nl0 ret0)) (hd : decode cc pc = .ok (.getfield 281, 3)) {o : Nat} {fs : List Value} {v : Value} (he : M[o]? = some (.inr (10, fs))) (hv : fs[21]? = some v) (kk : gg X M k n (pc + 3) L (v :: st)) : gg X M k n pc L (.ref o :: st) := g_get ok (C := RMo) (T := TMo) (N := 59) (f := 21) (ref := "TripleStoreModel") (fun w h => List.mem_cons_of_mem _ (inMo w h)) rfl (by decide) (List.mem_cons_of_mem _ fl_Mo_281) rfl hd he hv kk
theorem pf_Mo_281 {X : gC} {cc : ByteArray} {M : List mC} {k n pc : Nat} {L : List (Nat × Value)} {st : List Value} {y0 : MethodName} {b0 : ByteArray} {nl0 : Nat} {ret0 : Option FieldType} (ok : gO X cc "TripleStoreModel" (wsM y0 b0 nl0 ret0)) (hd : decode cc pc = .ok (.putfield 281, 3)) {o : Nat} {fs : List Value} {v : Value} (he : M[o]? = some (.inr (10, fs))) (hl : 21 < fs.length) (hn : ∀ ad : Nat → Nat, narrow .boolean (mc_v ad v) = mc_v ad v ∧ fits .boolean (mc_v ad v) = true) (kk : gg X (M.set o (.inr (10, fs.set 21 v))) k n (pc + 3) L st) : gg X M k n pc L (v :: .ref o :: st) := g_put ok (C := RMo) (T := TMo) (N := 59) (f := 21) (ref := "TripleStoreModel") (fun w h => List.mem_cons_of_mem _ (inMo w h)) tyMo okMo nmMo rfl (by decide) (List.mem_cons_of_mem _ fl_Mo_281) rfl rfl (by decide +kernel) hd he hl hn kk
theorem fl_Mo_262 : Cond.fieldLink "TripleStoreModel" 262 "TripleStoreModel" "holds" "Z" ∈ gT := gT_at 997 (by decide +kernel) (by decide +kernel)
theorem gf_Mo_262 {X : gC} {cc : ByteArray} {M : List mC} {k n pc : Nat} {L : List (Nat × Value)} {st : List Value} {y0 : MethodName} {b0 : ByteArray} {nl0 : Nat} {ret0 : Option FieldType} (ok : gO X cc "TripleStoreModel" (wsM y0 b0 nl0 ret0)) (hd : decode cc pc = .ok (.getfield 262, 3)) {o : Nat} {fs : List Value} {v : Value} (he : M[o]? = some (.inr (10, fs))) (hv : fs[22]? = some v) (kk : gg X M k n (pc + 3) L (v :: st)) : gg X M k n pc L (.ref o :: st) := g_get ok (C := RMo) (T := TMo) (N := 59) (f := 22) (ref := "TripleStoreModel") (fun w h => List.mem_cons_of_mem _ (inMo w h)) rfl (by decide) (List.mem_cons_of_mem _ fl_Mo_262) rfl hd he hv kk
theorem pf_Mo_262 {X : gC} {cc : ByteArray} {M : List mC} {k n pc : Nat} {L : List (Nat × Value)} {st : List Value} {y0 : MethodName} {b0 : ByteArray} {nl0 : Nat} {ret0 : Option FieldType} (ok : gO X cc "TripleStoreModel" (wsM y0 b0 nl0 ret0)) (hd : decode cc pc = .ok (.putfield 262, 3)) {o : Nat} {fs : List Value} {v : Value} (he : M[o]? = some (.inr (10, fs))) (hl : 22 < fs.length) (hn : ∀ ad : Nat → Nat, narrow .boolean (mc_v ad v) = mc_v ad v ∧ fits .boolean (mc_v ad v) = true) (kk : gg X (M.set o (.inr (10, fs.set 22 v))) k n (pc + 3) L st) : gg X M k n pc L (v :: .ref o :: st) := g_put ok (C := RMo) (T := TMo) (N := 59) (f := 22) (ref := "TripleStoreModel") (fun w h => List.mem_cons_of_mem _ (inMo w h)) tyMo okMo nmMo rfl (by decide) (List.mem_cons_of_mem _ fl_Mo_262) rfl rfl (by decide +kernel) hd he hl hn kk
theorem fl_Mo_34 : Cond.fieldLink "TripleStoreModel" 34 "TripleStoreModel" "name" "[J" ∈ gT := gT_at 998 (by decide +kernel) (by decide +kernel)
theorem gf_Mo_34 {X : gC} {cc : ByteArray} {M : List mC} {k n pc : Nat} {L : List (Nat × Value)} {st : List Value} {y0 : MethodName} {b0 : ByteArray} {nl0 : Nat} {ret0 : Option FieldType} (ok : gO X cc "TripleStoreModel" (wsM y0 b0 nl0 ret0)) (hd : decode cc pc = .ok (.getfield 34, 3)) {o : Nat} {fs : List Value} {v : Value} (he : M[o]? = some (.inr (10, fs))) (hv : fs[23]? = some v) (kk : gg X M k n (pc + 3) L (v :: st)) : gg X M k n pc L (.ref o :: st) := g_get ok (C := RMo) (T := TMo) (N := 59) (f := 23) (ref := "TripleStoreModel") (fun w h => List.mem_cons_of_mem _ (inMo w h)) rfl (by decide) (List.mem_cons_of_mem _ fl_Mo_34) rfl hd he hv kk
theorem pf_Mo_34 {X : gC} {cc : ByteArray} {M : List mC} {k n pc : Nat} {L : List (Nat × Value)} {st : List Value} {y0 : MethodName} {b0 : ByteArray} {nl0 : Nat} {ret0 : Option FieldType} (ok : gO X cc "TripleStoreModel" (wsM y0 b0 nl0 ret0)) (hin2 : (gM X).name = "<init>") (hd : decode cc pc = .ok (.putfield 34, 3)) {o : Nat} {fs : List Value} {v : Value} (he : M[o]? = some (.inr (10, fs))) (hl : 23 < fs.length) (hn : ∀ ad : Nat → Nat, narrow (.array .long) (mc_v ad v) = mc_v ad v ∧ fits (.array .long) (mc_v ad v) = true) (kk : gg X (M.set o (.inr (10, fs.set 23 v))) k n (pc + 3) L st) : gg X M k n pc L (v :: .ref o :: st) := g_putF ok (C := RMo) (T := TMo) (N := 59) (f := 23) (ref := "TripleStoreModel") (fun w h => List.mem_cons_of_mem _ (inMo w h)) tyMo okMo nmMo rfl (by decide) (List.mem_cons_of_mem _ fl_Mo_34) rfl rfl hin2 rfl (by decide +kernel) hd he hl hn kk
theorem fl_Mo_229 : Cond.fieldLink "TripleStoreModel" 229 "TripleStoreModel" "names" "I" ∈ gT := gT_at 999 (by decide +kernel) (by decide +kernel)
theorem gf_Mo_229 {X : gC} {cc : ByteArray} {M : List mC} {k n pc : Nat} {L : List (Nat × Value)} {st : List Value} {y0 : MethodName} {b0 : ByteArray} {nl0 : Nat} {ret0 : Option FieldType} (ok : gO X cc "TripleStoreModel" (wsM y0 b0 nl0 ret0)) (hd : decode cc pc = .ok (.getfield 229, 3)) {o : Nat} {fs : List Value} {v : Value} (he : M[o]? = some (.inr (10, fs))) (hv : fs[24]? = some v) (kk : gg X M k n (pc + 3) L (v :: st)) : gg X M k n pc L (.ref o :: st) := g_get ok (C := RMo) (T := TMo) (N := 59) (f := 24) (ref := "TripleStoreModel") (fun w h => List.mem_cons_of_mem _ (inMo w h)) rfl (by decide) (List.mem_cons_of_mem _ fl_Mo_229) rfl hd he hv kk
theorem pf_Mo_229 {X : gC} {cc : ByteArray} {M : List mC} {k n pc : Nat} {L : List (Nat × Value)} {st : List Value} {y0 : MethodName} {b0 : ByteArray} {nl0 : Nat} {ret0 : Option FieldType} (ok : gO X cc "TripleStoreModel" (wsM y0 b0 nl0 ret0)) (hd : decode cc pc = .ok (.putfield 229, 3)) {o : Nat} {fs : List Value} {v : Value} (he : M[o]? = some (.inr (10, fs))) (hl : 24 < fs.length) (hn : ∀ ad : Nat → Nat, narrow .int (mc_v ad v) = mc_v ad v ∧ fits .int (mc_v ad v) = true) (kk : gg X (M.set o (.inr (10, fs.set 24 v))) k n (pc + 3) L st) : gg X M k n pc L (v :: .ref o :: st) := g_put ok (C := RMo) (T := TMo) (N := 59) (f := 24) (ref := "TripleStoreModel") (fun w h => List.mem_cons_of_mem _ (inMo w h)) tyMo okMo nmMo rfl (by decide) (List.mem_cons_of_mem _ fl_Mo_229) rfl rfl (by decide +kernel) hd he hl hn kk
theorem fl_Mo_259 : Cond.fieldLink "TripleStoreModel" 259 "TripleStoreModel" "elements" "I" ∈ gT := gT_at 1000 (by decide +kernel) (by decide +kernel)
theorem gf_Mo_259 {X : gC} {cc : ByteArray} {M : List mC} {k n pc : Nat} {L : List (Nat × Value)} {st : List Value} {y0 : MethodName} {b0 : ByteArray} {nl0 : Nat} {ret0 : Option FieldType} (ok : gO X cc "TripleStoreModel" (wsM y0 b0 nl0 ret0)) (hd : decode cc pc = .ok (.getfield 259, 3)) {o : Nat} {fs : List Value} {v : Value} (he : M[o]? = some (.inr (10, fs))) (hv : fs[25]? = some v) (kk : gg X M k n (pc + 3) L (v :: st)) : gg X M k n pc L (.ref o :: st) := g_get ok (C := RMo) (T := TMo) (N := 59) (f := 25) (ref := "TripleStoreModel") (fun w h => List.mem_cons_of_mem _ (inMo w h)) rfl (by decide) (List.mem_cons_of_mem _ fl_Mo_259) rfl hd he hv kk
theorem pf_Mo_259 {X : gC} {cc : ByteArray} {M : List mC} {k n pc : Nat} {L : List (Nat × Value)} {st : List Value} {y0 : MethodName} {b0 : ByteArray} {nl0 : Nat} {ret0 : Option FieldType} (ok : gO X cc "TripleStoreModel" (wsM y0 b0 nl0 ret0)) (hd : decode cc pc = .ok (.putfield 259, 3)) {o : Nat} {fs : List Value} {v : Value} (he : M[o]? = some (.inr (10, fs))) (hl : 25 < fs.length) (hn : ∀ ad : Nat → Nat, narrow .int (mc_v ad v) = mc_v ad v ∧ fits .int (mc_v ad v) = true) (kk : gg X (M.set o (.inr (10, fs.set 25 v))) k n (pc + 3) L st) : gg X M k n pc L (v :: .ref o :: st) := g_put ok (C := RMo) (T := TMo) (N := 59) (f := 25) (ref := "TripleStoreModel") (fun w h => List.mem_cons_of_mem _ (inMo w h)) tyMo okMo nmMo rfl (by decide) (List.mem_cons_of_mem _ fl_Mo_259) rfl rfl (by decide +kernel) hd he hl hn kk
theorem fl_Mo_278 : Cond.fieldLink "TripleStoreModel" 278 "TripleStoreModel" "groups" "I" ∈ gT := gT_at 1001 (by decide +kernel) (by decide +kernel)
theorem gf_Mo_278 {X : gC} {cc : ByteArray} {M : List mC} {k n pc : Nat} {L : List (Nat × Value)} {st : List Value} {y0 : MethodName} {b0 : ByteArray} {nl0 : Nat} {ret0 : Option FieldType} (ok : gO X cc "TripleStoreModel" (wsM y0 b0 nl0 ret0)) (hd : decode cc pc = .ok (.getfield 278, 3)) {o : Nat} {fs : List Value} {v : Value} (he : M[o]? = some (.inr (10, fs))) (hv : fs[26]? = some v) (kk : gg X M k n (pc + 3) L (v :: st)) : gg X M k n pc L (.ref o :: st) := g_get ok (C := RMo) (T := TMo) (N := 59) (f := 26) (ref := "TripleStoreModel") (fun w h => List.mem_cons_of_mem _ (inMo w h)) rfl (by decide) (List.mem_cons_of_mem _ fl_Mo_278) rfl hd he hv kk
theorem pf_Mo_278 {X : gC} {cc : ByteArray} {M : List mC} {k n pc : Nat} {L : List (Nat × Value)} {st : List Value} {y0 : MethodName} {b0 : ByteArray} {nl0 : Nat} {ret0 : Option FieldType} (ok : gO X cc "TripleStoreModel" (wsM y0 b0 nl0 ret0)) (hd : decode cc pc = .ok (.putfield 278, 3)) {o : Nat} {fs : List Value} {v : Value} (he : M[o]? = some (.inr (10, fs))) (hl : 26 < fs.length) (hn : ∀ ad : Nat → Nat, narrow .int (mc_v ad v) = mc_v ad v ∧ fits .int (mc_v ad v) = true) (kk : gg X (M.set o (.inr (10, fs.set 26 v))) k n (pc + 3) L st) : gg X M k n pc L (v :: .ref o :: st) := g_put ok (C := RMo) (T := TMo) (N := 59) (f := 26) (ref := "TripleStoreModel") (fun w h => List.mem_cons_of_mem _ (inMo w h)) tyMo okMo nmMo rfl (by decide) (List.mem_cons_of_mem _ fl_Mo_278) rfl rfl (by decide +kernel) hd he hl hn kk
theorem fl_Mo_250 : Cond.fieldLink "TripleStoreModel" 250 "TripleStoreModel" "depth" "I" ∈ gT := gT_at 1002 (by decide +kernel) (by decide +kernel)
theorem gf_Mo_250 {X : gC} {cc : ByteArray} {M : List mC} {k n pc : Nat} {L : List (Nat × Value)} {st : List Value} {y0 : MethodName} {b0 : ByteArray} {nl0 : Nat} {ret0 : Option FieldType} (ok : gO X cc "TripleStoreModel" (wsM y0 b0 nl0 ret0)) (hd : decode cc pc = .ok (.getfield 250, 3)) {o : Nat} {fs : List Value} {v : Value} (he : M[o]? = some (.inr (10, fs))) (hv : fs[27]? = some v) (kk : gg X M k n (pc + 3) L (v :: st)) : gg X M k n pc L (.ref o :: st) := g_get ok (C := RMo) (T := TMo) (N := 59) (f := 27) (ref := "TripleStoreModel") (fun w h => List.mem_cons_of_mem _ (inMo w h)) rfl (by decide) (List.mem_cons_of_mem _ fl_Mo_250) rfl hd he hv kk
theorem pf_Mo_250 {X : gC} {cc : ByteArray} {M : List mC} {k n pc : Nat} {L : List (Nat × Value)} {st : List Value} {y0 : MethodName} {b0 : ByteArray} {nl0 : Nat} {ret0 : Option FieldType} (ok : gO X cc "TripleStoreModel" (wsM y0 b0 nl0 ret0)) (hd : decode cc pc = .ok (.putfield 250, 3)) {o : Nat} {fs : List Value} {v : Value} (he : M[o]? = some (.inr (10, fs))) (hl : 27 < fs.length) (hn : ∀ ad : Nat → Nat, narrow .int (mc_v ad v) = mc_v ad v ∧ fits .int (mc_v ad v) = true) (kk : gg X (M.set o (.inr (10, fs.set 27 v))) k n (pc + 3) L st) : gg X M k n pc L (v :: .ref o :: st) := g_put ok (C := RMo) (T := TMo) (N := 59) (f := 27) (ref := "TripleStoreModel") (fun w h => List.mem_cons_of_mem _ (inMo w h)) tyMo okMo nmMo rfl (by decide) (List.mem_cons_of_mem _ fl_Mo_250) rfl rfl (by decide +kernel) hd he hl hn kk
theorem fl_Mo_37 : Cond.fieldLink "TripleStoreModel" 37 "TripleStoreModel" "groupKind" "[I" ∈ gT := gT_at 1003 (by decide +kernel) (by decide +kernel)
theorem gf_Mo_37 {X : gC} {cc : ByteArray} {M : List mC} {k n pc : Nat} {L : List (Nat × Value)} {st : List Value} {y0 : MethodName} {b0 : ByteArray} {nl0 : Nat} {ret0 : Option FieldType} (ok : gO X cc "TripleStoreModel" (wsM y0 b0 nl0 ret0)) (hd : decode cc pc = .ok (.getfield 37, 3)) {o : Nat} {fs : List Value} {v : Value} (he : M[o]? = some (.inr (10, fs))) (hv : fs[28]? = some v) (kk : gg X M k n (pc + 3) L (v :: st)) : gg X M k n pc L (.ref o :: st) := g_get ok (C := RMo) (T := TMo) (N := 59) (f := 28) (ref := "TripleStoreModel") (fun w h => List.mem_cons_of_mem _ (inMo w h)) rfl (by decide) (List.mem_cons_of_mem _ fl_Mo_37) rfl hd he hv kk
theorem pf_Mo_37 {X : gC} {cc : ByteArray} {M : List mC} {k n pc : Nat} {L : List (Nat × Value)} {st : List Value} {y0 : MethodName} {b0 : ByteArray} {nl0 : Nat} {ret0 : Option FieldType} (ok : gO X cc "TripleStoreModel" (wsM y0 b0 nl0 ret0)) (hin2 : (gM X).name = "<init>") (hd : decode cc pc = .ok (.putfield 37, 3)) {o : Nat} {fs : List Value} {v : Value} (he : M[o]? = some (.inr (10, fs))) (hl : 28 < fs.length) (hn : ∀ ad : Nat → Nat, narrow (.array .int) (mc_v ad v) = mc_v ad v ∧ fits (.array .int) (mc_v ad v) = true) (kk : gg X (M.set o (.inr (10, fs.set 28 v))) k n (pc + 3) L st) : gg X M k n pc L (v :: .ref o :: st) := g_putF ok (C := RMo) (T := TMo) (N := 59) (f := 28) (ref := "TripleStoreModel") (fun w h => List.mem_cons_of_mem _ (inMo w h)) tyMo okMo nmMo rfl (by decide) (List.mem_cons_of_mem _ fl_Mo_37) rfl rfl hin2 rfl (by decide +kernel) hd he hl hn kk
theorem fl_Mo_40 : Cond.fieldLink "TripleStoreModel" 40 "TripleStoreModel" "groupId" "[I" ∈ gT := gT_at 1004 (by decide +kernel) (by decide +kernel)
theorem gf_Mo_40 {X : gC} {cc : ByteArray} {M : List mC} {k n pc : Nat} {L : List (Nat × Value)} {st : List Value} {y0 : MethodName} {b0 : ByteArray} {nl0 : Nat} {ret0 : Option FieldType} (ok : gO X cc "TripleStoreModel" (wsM y0 b0 nl0 ret0)) (hd : decode cc pc = .ok (.getfield 40, 3)) {o : Nat} {fs : List Value} {v : Value} (he : M[o]? = some (.inr (10, fs))) (hv : fs[29]? = some v) (kk : gg X M k n (pc + 3) L (v :: st)) : gg X M k n pc L (.ref o :: st) := g_get ok (C := RMo) (T := TMo) (N := 59) (f := 29) (ref := "TripleStoreModel") (fun w h => List.mem_cons_of_mem _ (inMo w h)) rfl (by decide) (List.mem_cons_of_mem _ fl_Mo_40) rfl hd he hv kk
theorem pf_Mo_40 {X : gC} {cc : ByteArray} {M : List mC} {k n pc : Nat} {L : List (Nat × Value)} {st : List Value} {y0 : MethodName} {b0 : ByteArray} {nl0 : Nat} {ret0 : Option FieldType} (ok : gO X cc "TripleStoreModel" (wsM y0 b0 nl0 ret0)) (hin2 : (gM X).name = "<init>") (hd : decode cc pc = .ok (.putfield 40, 3)) {o : Nat} {fs : List Value} {v : Value} (he : M[o]? = some (.inr (10, fs))) (hl : 29 < fs.length) (hn : ∀ ad : Nat → Nat, narrow (.array .int) (mc_v ad v) = mc_v ad v ∧ fits (.array .int) (mc_v ad v) = true) (kk : gg X (M.set o (.inr (10, fs.set 29 v))) k n (pc + 3) L st) : gg X M k n pc L (v :: .ref o :: st) := g_putF ok (C := RMo) (T := TMo) (N := 59) (f := 29) (ref := "TripleStoreModel") (fun w h => List.mem_cons_of_mem _ (inMo w h)) tyMo okMo nmMo rfl (by decide) (List.mem_cons_of_mem _ fl_Mo_40) rfl rfl hin2 rfl (by decide +kernel) hd he hl hn kk
theorem fl_Mo_43 : Cond.fieldLink "TripleStoreModel" 43 "TripleStoreModel" "op" "[I" ∈ gT := gT_at 1005 (by decide +kernel) (by decide +kernel)
theorem gf_Mo_43 {X : gC} {cc : ByteArray} {M : List mC} {k n pc : Nat} {L : List (Nat × Value)} {st : List Value} {y0 : MethodName} {b0 : ByteArray} {nl0 : Nat} {ret0 : Option FieldType} (ok : gO X cc "TripleStoreModel" (wsM y0 b0 nl0 ret0)) (hd : decode cc pc = .ok (.getfield 43, 3)) {o : Nat} {fs : List Value} {v : Value} (he : M[o]? = some (.inr (10, fs))) (hv : fs[30]? = some v) (kk : gg X M k n (pc + 3) L (v :: st)) : gg X M k n pc L (.ref o :: st) := g_get ok (C := RMo) (T := TMo) (N := 59) (f := 30) (ref := "TripleStoreModel") (fun w h => List.mem_cons_of_mem _ (inMo w h)) rfl (by decide) (List.mem_cons_of_mem _ fl_Mo_43) rfl hd he hv kk
theorem pf_Mo_43 {X : gC} {cc : ByteArray} {M : List mC} {k n pc : Nat} {L : List (Nat × Value)} {st : List Value} {y0 : MethodName} {b0 : ByteArray} {nl0 : Nat} {ret0 : Option FieldType} (ok : gO X cc "TripleStoreModel" (wsM y0 b0 nl0 ret0)) (hin2 : (gM X).name = "<init>") (hd : decode cc pc = .ok (.putfield 43, 3)) {o : Nat} {fs : List Value} {v : Value} (he : M[o]? = some (.inr (10, fs))) (hl : 30 < fs.length) (hn : ∀ ad : Nat → Nat, narrow (.array .int) (mc_v ad v) = mc_v ad v ∧ fits (.array .int) (mc_v ad v) = true) (kk : gg X (M.set o (.inr (10, fs.set 30 v))) k n (pc + 3) L st) : gg X M k n pc L (v :: .ref o :: st) := g_putF ok (C := RMo) (T := TMo) (N := 59) (f := 30) (ref := "TripleStoreModel") (fun w h => List.mem_cons_of_mem _ (inMo w h)) tyMo okMo nmMo rfl (by decide) (List.mem_cons_of_mem _ fl_Mo_43) rfl rfl hin2 rfl (by decide +kernel) hd he hl hn kk
theorem fl_Mo_46 : Cond.fieldLink "TripleStoreModel" 46 "TripleStoreModel" "arg" "[I" ∈ gT := gT_at 1006 (by decide +kernel) (by decide +kernel)
theorem gf_Mo_46 {X : gC} {cc : ByteArray} {M : List mC} {k n pc : Nat} {L : List (Nat × Value)} {st : List Value} {y0 : MethodName} {b0 : ByteArray} {nl0 : Nat} {ret0 : Option FieldType} (ok : gO X cc "TripleStoreModel" (wsM y0 b0 nl0 ret0)) (hd : decode cc pc = .ok (.getfield 46, 3)) {o : Nat} {fs : List Value} {v : Value} (he : M[o]? = some (.inr (10, fs))) (hv : fs[31]? = some v) (kk : gg X M k n (pc + 3) L (v :: st)) : gg X M k n pc L (.ref o :: st) := g_get ok (C := RMo) (T := TMo) (N := 59) (f := 31) (ref := "TripleStoreModel") (fun w h => List.mem_cons_of_mem _ (inMo w h)) rfl (by decide) (List.mem_cons_of_mem _ fl_Mo_46) rfl hd he hv kk
theorem pf_Mo_46 {X : gC} {cc : ByteArray} {M : List mC} {k n pc : Nat} {L : List (Nat × Value)} {st : List Value} {y0 : MethodName} {b0 : ByteArray} {nl0 : Nat} {ret0 : Option FieldType} (ok : gO X cc "TripleStoreModel" (wsM y0 b0 nl0 ret0)) (hin2 : (gM X).name = "<init>") (hd : decode cc pc = .ok (.putfield 46, 3)) {o : Nat} {fs : List Value} {v : Value} (he : M[o]? = some (.inr (10, fs))) (hl : 31 < fs.length) (hn : ∀ ad : Nat → Nat, narrow (.array .int) (mc_v ad v) = mc_v ad v ∧ fits (.array .int) (mc_v ad v) = true) (kk : gg X (M.set o (.inr (10, fs.set 31 v))) k n (pc + 3) L st) : gg X M k n pc L (v :: .ref o :: st) := g_putF ok (C := RMo) (T := TMo) (N := 59) (f := 31) (ref := "TripleStoreModel") (fun w h => List.mem_cons_of_mem _ (inMo w h)) tyMo okMo nmMo rfl (by decide) (List.mem_cons_of_mem _ fl_Mo_46) rfl rfl hin2 rfl (by decide +kernel) hd he hl hn kk
theorem fl_Mo_244 : Cond.fieldLink "TripleStoreModel" 244 "TripleStoreModel" "ops" "I" ∈ gT := gT_at 1007 (by decide +kernel) (by decide +kernel)
theorem gf_Mo_244 {X : gC} {cc : ByteArray} {M : List mC} {k n pc : Nat} {L : List (Nat × Value)} {st : List Value} {y0 : MethodName} {b0 : ByteArray} {nl0 : Nat} {ret0 : Option FieldType} (ok : gO X cc "TripleStoreModel" (wsM y0 b0 nl0 ret0)) (hd : decode cc pc = .ok (.getfield 244, 3)) {o : Nat} {fs : List Value} {v : Value} (he : M[o]? = some (.inr (10, fs))) (hv : fs[32]? = some v) (kk : gg X M k n (pc + 3) L (v :: st)) : gg X M k n pc L (.ref o :: st) := g_get ok (C := RMo) (T := TMo) (N := 59) (f := 32) (ref := "TripleStoreModel") (fun w h => List.mem_cons_of_mem _ (inMo w h)) rfl (by decide) (List.mem_cons_of_mem _ fl_Mo_244) rfl hd he hv kk
theorem pf_Mo_244 {X : gC} {cc : ByteArray} {M : List mC} {k n pc : Nat} {L : List (Nat × Value)} {st : List Value} {y0 : MethodName} {b0 : ByteArray} {nl0 : Nat} {ret0 : Option FieldType} (ok : gO X cc "TripleStoreModel" (wsM y0 b0 nl0 ret0)) (hd : decode cc pc = .ok (.putfield 244, 3)) {o : Nat} {fs : List Value} {v : Value} (he : M[o]? = some (.inr (10, fs))) (hl : 32 < fs.length) (hn : ∀ ad : Nat → Nat, narrow .int (mc_v ad v) = mc_v ad v ∧ fits .int (mc_v ad v) = true) (kk : gg X (M.set o (.inr (10, fs.set 32 v))) k n (pc + 3) L st) : gg X M k n pc L (v :: .ref o :: st) := g_put ok (C := RMo) (T := TMo) (N := 59) (f := 32) (ref := "TripleStoreModel") (fun w h => List.mem_cons_of_mem _ (inMo w h)) tyMo okMo nmMo rfl (by decide) (List.mem_cons_of_mem _ fl_Mo_244) rfl rfl (by decide +kernel) hd he hl hn kk
theorem fl_Mo_49 : Cond.fieldLink "TripleStoreModel" 49 "TripleStoreModel" "side" "[I" ∈ gT := gT_at 1008 (by decide +kernel) (by decide +kernel)
theorem gf_Mo_49 {X : gC} {cc : ByteArray} {M : List mC} {k n pc : Nat} {L : List (Nat × Value)} {st : List Value} {y0 : MethodName} {b0 : ByteArray} {nl0 : Nat} {ret0 : Option FieldType} (ok : gO X cc "TripleStoreModel" (wsM y0 b0 nl0 ret0)) (hd : decode cc pc = .ok (.getfield 49, 3)) {o : Nat} {fs : List Value} {v : Value} (he : M[o]? = some (.inr (10, fs))) (hv : fs[33]? = some v) (kk : gg X M k n (pc + 3) L (v :: st)) : gg X M k n pc L (.ref o :: st) := g_get ok (C := RMo) (T := TMo) (N := 59) (f := 33) (ref := "TripleStoreModel") (fun w h => List.mem_cons_of_mem _ (inMo w h)) rfl (by decide) (List.mem_cons_of_mem _ fl_Mo_49) rfl hd he hv kk
theorem pf_Mo_49 {X : gC} {cc : ByteArray} {M : List mC} {k n pc : Nat} {L : List (Nat × Value)} {st : List Value} {y0 : MethodName} {b0 : ByteArray} {nl0 : Nat} {ret0 : Option FieldType} (ok : gO X cc "TripleStoreModel" (wsM y0 b0 nl0 ret0)) (hin2 : (gM X).name = "<init>") (hd : decode cc pc = .ok (.putfield 49, 3)) {o : Nat} {fs : List Value} {v : Value} (he : M[o]? = some (.inr (10, fs))) (hl : 33 < fs.length) (hn : ∀ ad : Nat → Nat, narrow (.array .int) (mc_v ad v) = mc_v ad v ∧ fits (.array .int) (mc_v ad v) = true) (kk : gg X (M.set o (.inr (10, fs.set 33 v))) k n (pc + 3) L st) : gg X M k n pc L (v :: .ref o :: st) := g_putF ok (C := RMo) (T := TMo) (N := 59) (f := 33) (ref := "TripleStoreModel") (fun w h => List.mem_cons_of_mem _ (inMo w h)) tyMo okMo nmMo rfl (by decide) (List.mem_cons_of_mem _ fl_Mo_49) rfl rfl hin2 rfl (by decide +kernel) hd he hl hn kk
theorem fl_Mo_52 : Cond.fieldLink "TripleStoreModel" 52 "TripleStoreModel" "term" "[J" ∈ gT := gT_at 1009 (by decide +kernel) (by decide +kernel)
theorem gf_Mo_52 {X : gC} {cc : ByteArray} {M : List mC} {k n pc : Nat} {L : List (Nat × Value)} {st : List Value} {y0 : MethodName} {b0 : ByteArray} {nl0 : Nat} {ret0 : Option FieldType} (ok : gO X cc "TripleStoreModel" (wsM y0 b0 nl0 ret0)) (hd : decode cc pc = .ok (.getfield 52, 3)) {o : Nat} {fs : List Value} {v : Value} (he : M[o]? = some (.inr (10, fs))) (hv : fs[34]? = some v) (kk : gg X M k n (pc + 3) L (v :: st)) : gg X M k n pc L (.ref o :: st) := g_get ok (C := RMo) (T := TMo) (N := 59) (f := 34) (ref := "TripleStoreModel") (fun w h => List.mem_cons_of_mem _ (inMo w h)) rfl (by decide) (List.mem_cons_of_mem _ fl_Mo_52) rfl hd he hv kk
theorem pf_Mo_52 {X : gC} {cc : ByteArray} {M : List mC} {k n pc : Nat} {L : List (Nat × Value)} {st : List Value} {y0 : MethodName} {b0 : ByteArray} {nl0 : Nat} {ret0 : Option FieldType} (ok : gO X cc "TripleStoreModel" (wsM y0 b0 nl0 ret0)) (hin2 : (gM X).name = "<init>") (hd : decode cc pc = .ok (.putfield 52, 3)) {o : Nat} {fs : List Value} {v : Value} (he : M[o]? = some (.inr (10, fs))) (hl : 34 < fs.length) (hn : ∀ ad : Nat → Nat, narrow (.array .long) (mc_v ad v) = mc_v ad v ∧ fits (.array .long) (mc_v ad v) = true) (kk : gg X (M.set o (.inr (10, fs.set 34 v))) k n (pc + 3) L st) : gg X M k n pc L (v :: .ref o :: st) := g_putF ok (C := RMo) (T := TMo) (N := 59) (f := 34) (ref := "TripleStoreModel") (fun w h => List.mem_cons_of_mem _ (inMo w h)) tyMo okMo nmMo rfl (by decide) (List.mem_cons_of_mem _ fl_Mo_52) rfl rfl hin2 rfl (by decide +kernel) hd he hl hn kk
theorem fl_Mo_268 : Cond.fieldLink "TripleStoreModel" 268 "TripleStoreModel" "patterns" "I" ∈ gT := gT_at 1010 (by decide +kernel) (by decide +kernel)
theorem gf_Mo_268 {X : gC} {cc : ByteArray} {M : List mC} {k n pc : Nat} {L : List (Nat × Value)} {st : List Value} {y0 : MethodName} {b0 : ByteArray} {nl0 : Nat} {ret0 : Option FieldType} (ok : gO X cc "TripleStoreModel" (wsM y0 b0 nl0 ret0)) (hd : decode cc pc = .ok (.getfield 268, 3)) {o : Nat} {fs : List Value} {v : Value} (he : M[o]? = some (.inr (10, fs))) (hv : fs[35]? = some v) (kk : gg X M k n (pc + 3) L (v :: st)) : gg X M k n pc L (.ref o :: st) := g_get ok (C := RMo) (T := TMo) (N := 59) (f := 35) (ref := "TripleStoreModel") (fun w h => List.mem_cons_of_mem _ (inMo w h)) rfl (by decide) (List.mem_cons_of_mem _ fl_Mo_268) rfl hd he hv kk
theorem pf_Mo_268 {X : gC} {cc : ByteArray} {M : List mC} {k n pc : Nat} {L : List (Nat × Value)} {st : List Value} {y0 : MethodName} {b0 : ByteArray} {nl0 : Nat} {ret0 : Option FieldType} (ok : gO X cc "TripleStoreModel" (wsM y0 b0 nl0 ret0)) (hd : decode cc pc = .ok (.putfield 268, 3)) {o : Nat} {fs : List Value} {v : Value} (he : M[o]? = some (.inr (10, fs))) (hl : 35 < fs.length) (hn : ∀ ad : Nat → Nat, narrow .int (mc_v ad v) = mc_v ad v ∧ fits .int (mc_v ad v) = true) (kk : gg X (M.set o (.inr (10, fs.set 35 v))) k n (pc + 3) L st) : gg X M k n pc L (v :: .ref o :: st) := g_put ok (C := RMo) (T := TMo) (N := 59) (f := 35) (ref := "TripleStoreModel") (fun w h => List.mem_cons_of_mem _ (inMo w h)) tyMo okMo nmMo rfl (by decide) (List.mem_cons_of_mem _ fl_Mo_268) rfl rfl (by decide +kernel) hd he hl hn kk
theorem fl_Mo_55 : Cond.fieldLink "TripleStoreModel" 55 "TripleStoreModel" "testGroup" "[I" ∈ gT := gT_at 1011 (by decide +kernel) (by decide +kernel)
theorem gf_Mo_55 {X : gC} {cc : ByteArray} {M : List mC} {k n pc : Nat} {L : List (Nat × Value)} {st : List Value} {y0 : MethodName} {b0 : ByteArray} {nl0 : Nat} {ret0 : Option FieldType} (ok : gO X cc "TripleStoreModel" (wsM y0 b0 nl0 ret0)) (hd : decode cc pc = .ok (.getfield 55, 3)) {o : Nat} {fs : List Value} {v : Value} (he : M[o]? = some (.inr (10, fs))) (hv : fs[36]? = some v) (kk : gg X M k n (pc + 3) L (v :: st)) : gg X M k n pc L (.ref o :: st) := g_get ok (C := RMo) (T := TMo) (N := 59) (f := 36) (ref := "TripleStoreModel") (fun w h => List.mem_cons_of_mem _ (inMo w h)) rfl (by decide) (List.mem_cons_of_mem _ fl_Mo_55) rfl hd he hv kk
theorem pf_Mo_55 {X : gC} {cc : ByteArray} {M : List mC} {k n pc : Nat} {L : List (Nat × Value)} {st : List Value} {y0 : MethodName} {b0 : ByteArray} {nl0 : Nat} {ret0 : Option FieldType} (ok : gO X cc "TripleStoreModel" (wsM y0 b0 nl0 ret0)) (hin2 : (gM X).name = "<init>") (hd : decode cc pc = .ok (.putfield 55, 3)) {o : Nat} {fs : List Value} {v : Value} (he : M[o]? = some (.inr (10, fs))) (hl : 36 < fs.length) (hn : ∀ ad : Nat → Nat, narrow (.array .int) (mc_v ad v) = mc_v ad v ∧ fits (.array .int) (mc_v ad v) = true) (kk : gg X (M.set o (.inr (10, fs.set 36 v))) k n (pc + 3) L st) : gg X M k n pc L (v :: .ref o :: st) := g_putF ok (C := RMo) (T := TMo) (N := 59) (f := 36) (ref := "TripleStoreModel") (fun w h => List.mem_cons_of_mem _ (inMo w h)) tyMo okMo nmMo rfl (by decide) (List.mem_cons_of_mem _ fl_Mo_55) rfl rfl hin2 rfl (by decide +kernel) hd he hl hn kk
theorem fl_Mo_58 : Cond.fieldLink "TripleStoreModel" 58 "TripleStoreModel" "testSign" "[I" ∈ gT := gT_at 1012 (by decide +kernel) (by decide +kernel)
theorem gf_Mo_58 {X : gC} {cc : ByteArray} {M : List mC} {k n pc : Nat} {L : List (Nat × Value)} {st : List Value} {y0 : MethodName} {b0 : ByteArray} {nl0 : Nat} {ret0 : Option FieldType} (ok : gO X cc "TripleStoreModel" (wsM y0 b0 nl0 ret0)) (hd : decode cc pc = .ok (.getfield 58, 3)) {o : Nat} {fs : List Value} {v : Value} (he : M[o]? = some (.inr (10, fs))) (hv : fs[37]? = some v) (kk : gg X M k n (pc + 3) L (v :: st)) : gg X M k n pc L (.ref o :: st) := g_get ok (C := RMo) (T := TMo) (N := 59) (f := 37) (ref := "TripleStoreModel") (fun w h => List.mem_cons_of_mem _ (inMo w h)) rfl (by decide) (List.mem_cons_of_mem _ fl_Mo_58) rfl hd he hv kk
theorem pf_Mo_58 {X : gC} {cc : ByteArray} {M : List mC} {k n pc : Nat} {L : List (Nat × Value)} {st : List Value} {y0 : MethodName} {b0 : ByteArray} {nl0 : Nat} {ret0 : Option FieldType} (ok : gO X cc "TripleStoreModel" (wsM y0 b0 nl0 ret0)) (hin2 : (gM X).name = "<init>") (hd : decode cc pc = .ok (.putfield 58, 3)) {o : Nat} {fs : List Value} {v : Value} (he : M[o]? = some (.inr (10, fs))) (hl : 37 < fs.length) (hn : ∀ ad : Nat → Nat, narrow (.array .int) (mc_v ad v) = mc_v ad v ∧ fits (.array .int) (mc_v ad v) = true) (kk : gg X (M.set o (.inr (10, fs.set 37 v))) k n (pc + 3) L st) : gg X M k n pc L (v :: .ref o :: st) := g_putF ok (C := RMo) (T := TMo) (N := 59) (f := 37) (ref := "TripleStoreModel") (fun w h => List.mem_cons_of_mem _ (inMo w h)) tyMo okMo nmMo rfl (by decide) (List.mem_cons_of_mem _ fl_Mo_58) rfl rfl hin2 rfl (by decide +kernel) hd he hl hn kk
theorem fl_Mo_61 : Cond.fieldLink "TripleStoreModel" 61 "TripleStoreModel" "testNot" "[Z" ∈ gT := gT_at 1013 (by decide +kernel) (by decide +kernel)
theorem gf_Mo_61 {X : gC} {cc : ByteArray} {M : List mC} {k n pc : Nat} {L : List (Nat × Value)} {st : List Value} {y0 : MethodName} {b0 : ByteArray} {nl0 : Nat} {ret0 : Option FieldType} (ok : gO X cc "TripleStoreModel" (wsM y0 b0 nl0 ret0)) (hd : decode cc pc = .ok (.getfield 61, 3)) {o : Nat} {fs : List Value} {v : Value} (he : M[o]? = some (.inr (10, fs))) (hv : fs[38]? = some v) (kk : gg X M k n (pc + 3) L (v :: st)) : gg X M k n pc L (.ref o :: st) := g_get ok (C := RMo) (T := TMo) (N := 59) (f := 38) (ref := "TripleStoreModel") (fun w h => List.mem_cons_of_mem _ (inMo w h)) rfl (by decide) (List.mem_cons_of_mem _ fl_Mo_61) rfl hd he hv kk
theorem pf_Mo_61 {X : gC} {cc : ByteArray} {M : List mC} {k n pc : Nat} {L : List (Nat × Value)} {st : List Value} {y0 : MethodName} {b0 : ByteArray} {nl0 : Nat} {ret0 : Option FieldType} (ok : gO X cc "TripleStoreModel" (wsM y0 b0 nl0 ret0)) (hin2 : (gM X).name = "<init>") (hd : decode cc pc = .ok (.putfield 61, 3)) {o : Nat} {fs : List Value} {v : Value} (he : M[o]? = some (.inr (10, fs))) (hl : 38 < fs.length) (hn : ∀ ad : Nat → Nat, narrow (.array .boolean) (mc_v ad v) = mc_v ad v ∧ fits (.array .boolean) (mc_v ad v) = true) (kk : gg X (M.set o (.inr (10, fs.set 38 v))) k n (pc + 3) L st) : gg X M k n pc L (v :: .ref o :: st) := g_putF ok (C := RMo) (T := TMo) (N := 59) (f := 38) (ref := "TripleStoreModel") (fun w h => List.mem_cons_of_mem _ (inMo w h)) tyMo okMo nmMo rfl (by decide) (List.mem_cons_of_mem _ fl_Mo_61) rfl rfl hin2 rfl (by decide +kernel) hd he hl hn kk
theorem fl_Mo_247 : Cond.fieldLink "TripleStoreModel" 247 "TripleStoreModel" "tests" "I" ∈ gT := gT_at 1014 (by decide +kernel) (by decide +kernel)
theorem gf_Mo_247 {X : gC} {cc : ByteArray} {M : List mC} {k n pc : Nat} {L : List (Nat × Value)} {st : List Value} {y0 : MethodName} {b0 : ByteArray} {nl0 : Nat} {ret0 : Option FieldType} (ok : gO X cc "TripleStoreModel" (wsM y0 b0 nl0 ret0)) (hd : decode cc pc = .ok (.getfield 247, 3)) {o : Nat} {fs : List Value} {v : Value} (he : M[o]? = some (.inr (10, fs))) (hv : fs[39]? = some v) (kk : gg X M k n (pc + 3) L (v :: st)) : gg X M k n pc L (.ref o :: st) := g_get ok (C := RMo) (T := TMo) (N := 59) (f := 39) (ref := "TripleStoreModel") (fun w h => List.mem_cons_of_mem _ (inMo w h)) rfl (by decide) (List.mem_cons_of_mem _ fl_Mo_247) rfl hd he hv kk
theorem pf_Mo_247 {X : gC} {cc : ByteArray} {M : List mC} {k n pc : Nat} {L : List (Nat × Value)} {st : List Value} {y0 : MethodName} {b0 : ByteArray} {nl0 : Nat} {ret0 : Option FieldType} (ok : gO X cc "TripleStoreModel" (wsM y0 b0 nl0 ret0)) (hd : decode cc pc = .ok (.putfield 247, 3)) {o : Nat} {fs : List Value} {v : Value} (he : M[o]? = some (.inr (10, fs))) (hl : 39 < fs.length) (hn : ∀ ad : Nat → Nat, narrow .int (mc_v ad v) = mc_v ad v ∧ fits .int (mc_v ad v) = true) (kk : gg X (M.set o (.inr (10, fs.set 39 v))) k n (pc + 3) L st) : gg X M k n pc L (v :: .ref o :: st) := g_put ok (C := RMo) (T := TMo) (N := 59) (f := 39) (ref := "TripleStoreModel") (fun w h => List.mem_cons_of_mem _ (inMo w h)) tyMo okMo nmMo rfl (by decide) (List.mem_cons_of_mem _ fl_Mo_247) rfl rfl (by decide +kernel) hd he hl hn kk
theorem fl_Mo_64 : Cond.fieldLink "TripleStoreModel" 64 "TripleStoreModel" "wanted" "[I" ∈ gT := gT_at 1015 (by decide +kernel) (by decide +kernel)
theorem gf_Mo_64 {X : gC} {cc : ByteArray} {M : List mC} {k n pc : Nat} {L : List (Nat × Value)} {st : List Value} {y0 : MethodName} {b0 : ByteArray} {nl0 : Nat} {ret0 : Option FieldType} (ok : gO X cc "TripleStoreModel" (wsM y0 b0 nl0 ret0)) (hd : decode cc pc = .ok (.getfield 64, 3)) {o : Nat} {fs : List Value} {v : Value} (he : M[o]? = some (.inr (10, fs))) (hv : fs[40]? = some v) (kk : gg X M k n (pc + 3) L (v :: st)) : gg X M k n pc L (.ref o :: st) := g_get ok (C := RMo) (T := TMo) (N := 59) (f := 40) (ref := "TripleStoreModel") (fun w h => List.mem_cons_of_mem _ (inMo w h)) rfl (by decide) (List.mem_cons_of_mem _ fl_Mo_64) rfl hd he hv kk
theorem pf_Mo_64 {X : gC} {cc : ByteArray} {M : List mC} {k n pc : Nat} {L : List (Nat × Value)} {st : List Value} {y0 : MethodName} {b0 : ByteArray} {nl0 : Nat} {ret0 : Option FieldType} (ok : gO X cc "TripleStoreModel" (wsM y0 b0 nl0 ret0)) (hin2 : (gM X).name = "<init>") (hd : decode cc pc = .ok (.putfield 64, 3)) {o : Nat} {fs : List Value} {v : Value} (he : M[o]? = some (.inr (10, fs))) (hl : 40 < fs.length) (hn : ∀ ad : Nat → Nat, narrow (.array .int) (mc_v ad v) = mc_v ad v ∧ fits (.array .int) (mc_v ad v) = true) (kk : gg X (M.set o (.inr (10, fs.set 40 v))) k n (pc + 3) L st) : gg X M k n pc L (v :: .ref o :: st) := g_putF ok (C := RMo) (T := TMo) (N := 59) (f := 40) (ref := "TripleStoreModel") (fun w h => List.mem_cons_of_mem _ (inMo w h)) tyMo okMo nmMo rfl (by decide) (List.mem_cons_of_mem _ fl_Mo_64) rfl rfl hin2 rfl (by decide +kernel) hd he hl hn kk
theorem fl_Mo_296 : Cond.fieldLink "TripleStoreModel" 296 "TripleStoreModel" "wantedCount" "I" ∈ gT := gT_at 1016 (by decide +kernel) (by decide +kernel)
theorem gf_Mo_296 {X : gC} {cc : ByteArray} {M : List mC} {k n pc : Nat} {L : List (Nat × Value)} {st : List Value} {y0 : MethodName} {b0 : ByteArray} {nl0 : Nat} {ret0 : Option FieldType} (ok : gO X cc "TripleStoreModel" (wsM y0 b0 nl0 ret0)) (hd : decode cc pc = .ok (.getfield 296, 3)) {o : Nat} {fs : List Value} {v : Value} (he : M[o]? = some (.inr (10, fs))) (hv : fs[41]? = some v) (kk : gg X M k n (pc + 3) L (v :: st)) : gg X M k n pc L (.ref o :: st) := g_get ok (C := RMo) (T := TMo) (N := 59) (f := 41) (ref := "TripleStoreModel") (fun w h => List.mem_cons_of_mem _ (inMo w h)) rfl (by decide) (List.mem_cons_of_mem _ fl_Mo_296) rfl hd he hv kk
theorem pf_Mo_296 {X : gC} {cc : ByteArray} {M : List mC} {k n pc : Nat} {L : List (Nat × Value)} {st : List Value} {y0 : MethodName} {b0 : ByteArray} {nl0 : Nat} {ret0 : Option FieldType} (ok : gO X cc "TripleStoreModel" (wsM y0 b0 nl0 ret0)) (hd : decode cc pc = .ok (.putfield 296, 3)) {o : Nat} {fs : List Value} {v : Value} (he : M[o]? = some (.inr (10, fs))) (hl : 41 < fs.length) (hn : ∀ ad : Nat → Nat, narrow .int (mc_v ad v) = mc_v ad v ∧ fits .int (mc_v ad v) = true) (kk : gg X (M.set o (.inr (10, fs.set 41 v))) k n (pc + 3) L st) : gg X M k n pc L (v :: .ref o :: st) := g_put ok (C := RMo) (T := TMo) (N := 59) (f := 41) (ref := "TripleStoreModel") (fun w h => List.mem_cons_of_mem _ (inMo w h)) tyMo okMo nmMo rfl (by decide) (List.mem_cons_of_mem _ fl_Mo_296) rfl rfl (by decide +kernel) hd he hl hn kk
theorem fl_Mo_67 : Cond.fieldLink "TripleStoreModel" 67 "TripleStoreModel" "beside" "[I" ∈ gT := gT_at 1017 (by decide +kernel) (by decide +kernel)
theorem gf_Mo_67 {X : gC} {cc : ByteArray} {M : List mC} {k n pc : Nat} {L : List (Nat × Value)} {st : List Value} {y0 : MethodName} {b0 : ByteArray} {nl0 : Nat} {ret0 : Option FieldType} (ok : gO X cc "TripleStoreModel" (wsM y0 b0 nl0 ret0)) (hd : decode cc pc = .ok (.getfield 67, 3)) {o : Nat} {fs : List Value} {v : Value} (he : M[o]? = some (.inr (10, fs))) (hv : fs[42]? = some v) (kk : gg X M k n (pc + 3) L (v :: st)) : gg X M k n pc L (.ref o :: st) := g_get ok (C := RMo) (T := TMo) (N := 59) (f := 42) (ref := "TripleStoreModel") (fun w h => List.mem_cons_of_mem _ (inMo w h)) rfl (by decide) (List.mem_cons_of_mem _ fl_Mo_67) rfl hd he hv kk
theorem pf_Mo_67 {X : gC} {cc : ByteArray} {M : List mC} {k n pc : Nat} {L : List (Nat × Value)} {st : List Value} {y0 : MethodName} {b0 : ByteArray} {nl0 : Nat} {ret0 : Option FieldType} (ok : gO X cc "TripleStoreModel" (wsM y0 b0 nl0 ret0)) (hin2 : (gM X).name = "<init>") (hd : decode cc pc = .ok (.putfield 67, 3)) {o : Nat} {fs : List Value} {v : Value} (he : M[o]? = some (.inr (10, fs))) (hl : 42 < fs.length) (hn : ∀ ad : Nat → Nat, narrow (.array .int) (mc_v ad v) = mc_v ad v ∧ fits (.array .int) (mc_v ad v) = true) (kk : gg X (M.set o (.inr (10, fs.set 42 v))) k n (pc + 3) L st) : gg X M k n pc L (v :: .ref o :: st) := g_putF ok (C := RMo) (T := TMo) (N := 59) (f := 42) (ref := "TripleStoreModel") (fun w h => List.mem_cons_of_mem _ (inMo w h)) tyMo okMo nmMo rfl (by decide) (List.mem_cons_of_mem _ fl_Mo_67) rfl rfl hin2 rfl (by decide +kernel) hd he hl hn kk
theorem fl_Mo_293 : Cond.fieldLink "TripleStoreModel" 293 "TripleStoreModel" "distinct" "Z" ∈ gT := gT_at 1018 (by decide +kernel) (by decide +kernel)
theorem gf_Mo_293 {X : gC} {cc : ByteArray} {M : List mC} {k n pc : Nat} {L : List (Nat × Value)} {st : List Value} {y0 : MethodName} {b0 : ByteArray} {nl0 : Nat} {ret0 : Option FieldType} (ok : gO X cc "TripleStoreModel" (wsM y0 b0 nl0 ret0)) (hd : decode cc pc = .ok (.getfield 293, 3)) {o : Nat} {fs : List Value} {v : Value} (he : M[o]? = some (.inr (10, fs))) (hv : fs[43]? = some v) (kk : gg X M k n (pc + 3) L (v :: st)) : gg X M k n pc L (.ref o :: st) := g_get ok (C := RMo) (T := TMo) (N := 59) (f := 43) (ref := "TripleStoreModel") (fun w h => List.mem_cons_of_mem _ (inMo w h)) rfl (by decide) (List.mem_cons_of_mem _ fl_Mo_293) rfl hd he hv kk
theorem pf_Mo_293 {X : gC} {cc : ByteArray} {M : List mC} {k n pc : Nat} {L : List (Nat × Value)} {st : List Value} {y0 : MethodName} {b0 : ByteArray} {nl0 : Nat} {ret0 : Option FieldType} (ok : gO X cc "TripleStoreModel" (wsM y0 b0 nl0 ret0)) (hd : decode cc pc = .ok (.putfield 293, 3)) {o : Nat} {fs : List Value} {v : Value} (he : M[o]? = some (.inr (10, fs))) (hl : 43 < fs.length) (hn : ∀ ad : Nat → Nat, narrow .boolean (mc_v ad v) = mc_v ad v ∧ fits .boolean (mc_v ad v) = true) (kk : gg X (M.set o (.inr (10, fs.set 43 v))) k n (pc + 3) L st) : gg X M k n pc L (v :: .ref o :: st) := g_put ok (C := RMo) (T := TMo) (N := 59) (f := 43) (ref := "TripleStoreModel") (fun w h => List.mem_cons_of_mem _ (inMo w h)) tyMo okMo nmMo rfl (by decide) (List.mem_cons_of_mem _ fl_Mo_293) rfl rfl (by decide +kernel) hd he hl hn kk
theorem fl_Mo_302 : Cond.fieldLink "TripleStoreModel" 302 "TripleStoreModel" "orderBy" "I" ∈ gT := gT_at 1019 (by decide +kernel) (by decide +kernel)
theorem gf_Mo_302 {X : gC} {cc : ByteArray} {M : List mC} {k n pc : Nat} {L : List (Nat × Value)} {st : List Value} {y0 : MethodName} {b0 : ByteArray} {nl0 : Nat} {ret0 : Option FieldType} (ok : gO X cc "TripleStoreModel" (wsM y0 b0 nl0 ret0)) (hd : decode cc pc = .ok (.getfield 302, 3)) {o : Nat} {fs : List Value} {v : Value} (he : M[o]? = some (.inr (10, fs))) (hv : fs[44]? = some v) (kk : gg X M k n (pc + 3) L (v :: st)) : gg X M k n pc L (.ref o :: st) := g_get ok (C := RMo) (T := TMo) (N := 59) (f := 44) (ref := "TripleStoreModel") (fun w h => List.mem_cons_of_mem _ (inMo w h)) rfl (by decide) (List.mem_cons_of_mem _ fl_Mo_302) rfl hd he hv kk
theorem pf_Mo_302 {X : gC} {cc : ByteArray} {M : List mC} {k n pc : Nat} {L : List (Nat × Value)} {st : List Value} {y0 : MethodName} {b0 : ByteArray} {nl0 : Nat} {ret0 : Option FieldType} (ok : gO X cc "TripleStoreModel" (wsM y0 b0 nl0 ret0)) (hd : decode cc pc = .ok (.putfield 302, 3)) {o : Nat} {fs : List Value} {v : Value} (he : M[o]? = some (.inr (10, fs))) (hl : 44 < fs.length) (hn : ∀ ad : Nat → Nat, narrow .int (mc_v ad v) = mc_v ad v ∧ fits .int (mc_v ad v) = true) (kk : gg X (M.set o (.inr (10, fs.set 44 v))) k n (pc + 3) L st) : gg X M k n pc L (v :: .ref o :: st) := g_put ok (C := RMo) (T := TMo) (N := 59) (f := 44) (ref := "TripleStoreModel") (fun w h => List.mem_cons_of_mem _ (inMo w h)) tyMo okMo nmMo rfl (by decide) (List.mem_cons_of_mem _ fl_Mo_302) rfl rfl (by decide +kernel) hd he hl hn kk
theorem fl_Mo_305 : Cond.fieldLink "TripleStoreModel" 305 "TripleStoreModel" "falls" "Z" ∈ gT := gT_at 1020 (by decide +kernel) (by decide +kernel)
theorem gf_Mo_305 {X : gC} {cc : ByteArray} {M : List mC} {k n pc : Nat} {L : List (Nat × Value)} {st : List Value} {y0 : MethodName} {b0 : ByteArray} {nl0 : Nat} {ret0 : Option FieldType} (ok : gO X cc "TripleStoreModel" (wsM y0 b0 nl0 ret0)) (hd : decode cc pc = .ok (.getfield 305, 3)) {o : Nat} {fs : List Value} {v : Value} (he : M[o]? = some (.inr (10, fs))) (hv : fs[45]? = some v) (kk : gg X M k n (pc + 3) L (v :: st)) : gg X M k n pc L (.ref o :: st) := g_get ok (C := RMo) (T := TMo) (N := 59) (f := 45) (ref := "TripleStoreModel") (fun w h => List.mem_cons_of_mem _ (inMo w h)) rfl (by decide) (List.mem_cons_of_mem _ fl_Mo_305) rfl hd he hv kk
theorem pf_Mo_305 {X : gC} {cc : ByteArray} {M : List mC} {k n pc : Nat} {L : List (Nat × Value)} {st : List Value} {y0 : MethodName} {b0 : ByteArray} {nl0 : Nat} {ret0 : Option FieldType} (ok : gO X cc "TripleStoreModel" (wsM y0 b0 nl0 ret0)) (hd : decode cc pc = .ok (.putfield 305, 3)) {o : Nat} {fs : List Value} {v : Value} (he : M[o]? = some (.inr (10, fs))) (hl : 45 < fs.length) (hn : ∀ ad : Nat → Nat, narrow .boolean (mc_v ad v) = mc_v ad v ∧ fits .boolean (mc_v ad v) = true) (kk : gg X (M.set o (.inr (10, fs.set 45 v))) k n (pc + 3) L st) : gg X M k n pc L (v :: .ref o :: st) := g_put ok (C := RMo) (T := TMo) (N := 59) (f := 45) (ref := "TripleStoreModel") (fun w h => List.mem_cons_of_mem _ (inMo w h)) tyMo okMo nmMo rfl (by decide) (List.mem_cons_of_mem _ fl_Mo_305) rfl rfl (by decide +kernel) hd he hl hn kk
theorem fl_Mo_308 : Cond.fieldLink "TripleStoreModel" 308 "TripleStoreModel" "limit" "I" ∈ gT := gT_at 1021 (by decide +kernel) (by decide +kernel)
theorem gf_Mo_308 {X : gC} {cc : ByteArray} {M : List mC} {k n pc : Nat} {L : List (Nat × Value)} {st : List Value} {y0 : MethodName} {b0 : ByteArray} {nl0 : Nat} {ret0 : Option FieldType} (ok : gO X cc "TripleStoreModel" (wsM y0 b0 nl0 ret0)) (hd : decode cc pc = .ok (.getfield 308, 3)) {o : Nat} {fs : List Value} {v : Value} (he : M[o]? = some (.inr (10, fs))) (hv : fs[46]? = some v) (kk : gg X M k n (pc + 3) L (v :: st)) : gg X M k n pc L (.ref o :: st) := g_get ok (C := RMo) (T := TMo) (N := 59) (f := 46) (ref := "TripleStoreModel") (fun w h => List.mem_cons_of_mem _ (inMo w h)) rfl (by decide) (List.mem_cons_of_mem _ fl_Mo_308) rfl hd he hv kk
theorem pf_Mo_308 {X : gC} {cc : ByteArray} {M : List mC} {k n pc : Nat} {L : List (Nat × Value)} {st : List Value} {y0 : MethodName} {b0 : ByteArray} {nl0 : Nat} {ret0 : Option FieldType} (ok : gO X cc "TripleStoreModel" (wsM y0 b0 nl0 ret0)) (hd : decode cc pc = .ok (.putfield 308, 3)) {o : Nat} {fs : List Value} {v : Value} (he : M[o]? = some (.inr (10, fs))) (hl : 46 < fs.length) (hn : ∀ ad : Nat → Nat, narrow .int (mc_v ad v) = mc_v ad v ∧ fits .int (mc_v ad v) = true) (kk : gg X (M.set o (.inr (10, fs.set 46 v))) k n (pc + 3) L st) : gg X M k n pc L (v :: .ref o :: st) := g_put ok (C := RMo) (T := TMo) (N := 59) (f := 46) (ref := "TripleStoreModel") (fun w h => List.mem_cons_of_mem _ (inMo w h)) tyMo okMo nmMo rfl (by decide) (List.mem_cons_of_mem _ fl_Mo_308) rfl rfl (by decide +kernel) hd he hl hn kk
theorem fl_Mo_70 : Cond.fieldLink "TripleStoreModel" 70 "TripleStoreModel" "value" "[J" ∈ gT := gT_at 1022 (by decide +kernel) (by decide +kernel)
theorem gf_Mo_70 {X : gC} {cc : ByteArray} {M : List mC} {k n pc : Nat} {L : List (Nat × Value)} {st : List Value} {y0 : MethodName} {b0 : ByteArray} {nl0 : Nat} {ret0 : Option FieldType} (ok : gO X cc "TripleStoreModel" (wsM y0 b0 nl0 ret0)) (hd : decode cc pc = .ok (.getfield 70, 3)) {o : Nat} {fs : List Value} {v : Value} (he : M[o]? = some (.inr (10, fs))) (hv : fs[47]? = some v) (kk : gg X M k n (pc + 3) L (v :: st)) : gg X M k n pc L (.ref o :: st) := g_get ok (C := RMo) (T := TMo) (N := 59) (f := 47) (ref := "TripleStoreModel") (fun w h => List.mem_cons_of_mem _ (inMo w h)) rfl (by decide) (List.mem_cons_of_mem _ fl_Mo_70) rfl hd he hv kk
theorem pf_Mo_70 {X : gC} {cc : ByteArray} {M : List mC} {k n pc : Nat} {L : List (Nat × Value)} {st : List Value} {y0 : MethodName} {b0 : ByteArray} {nl0 : Nat} {ret0 : Option FieldType} (ok : gO X cc "TripleStoreModel" (wsM y0 b0 nl0 ret0)) (hin2 : (gM X).name = "<init>") (hd : decode cc pc = .ok (.putfield 70, 3)) {o : Nat} {fs : List Value} {v : Value} (he : M[o]? = some (.inr (10, fs))) (hl : 47 < fs.length) (hn : ∀ ad : Nat → Nat, narrow (.array .long) (mc_v ad v) = mc_v ad v ∧ fits (.array .long) (mc_v ad v) = true) (kk : gg X (M.set o (.inr (10, fs.set 47 v))) k n (pc + 3) L st) : gg X M k n pc L (v :: .ref o :: st) := g_putF ok (C := RMo) (T := TMo) (N := 59) (f := 47) (ref := "TripleStoreModel") (fun w h => List.mem_cons_of_mem _ (inMo w h)) tyMo okMo nmMo rfl (by decide) (List.mem_cons_of_mem _ fl_Mo_70) rfl rfl hin2 rfl (by decide +kernel) hd he hl hn kk
theorem fl_Mo_73 : Cond.fieldLink "TripleStoreModel" 73 "TripleStoreModel" "given" "[I" ∈ gT := gT_at 1023 (by decide +kernel) (by decide +kernel)
theorem gf_Mo_73 {X : gC} {cc : ByteArray} {M : List mC} {k n pc : Nat} {L : List (Nat × Value)} {st : List Value} {y0 : MethodName} {b0 : ByteArray} {nl0 : Nat} {ret0 : Option FieldType} (ok : gO X cc "TripleStoreModel" (wsM y0 b0 nl0 ret0)) (hd : decode cc pc = .ok (.getfield 73, 3)) {o : Nat} {fs : List Value} {v : Value} (he : M[o]? = some (.inr (10, fs))) (hv : fs[48]? = some v) (kk : gg X M k n (pc + 3) L (v :: st)) : gg X M k n pc L (.ref o :: st) := g_get ok (C := RMo) (T := TMo) (N := 59) (f := 48) (ref := "TripleStoreModel") (fun w h => List.mem_cons_of_mem _ (inMo w h)) rfl (by decide) (List.mem_cons_of_mem _ fl_Mo_73) rfl hd he hv kk
theorem pf_Mo_73 {X : gC} {cc : ByteArray} {M : List mC} {k n pc : Nat} {L : List (Nat × Value)} {st : List Value} {y0 : MethodName} {b0 : ByteArray} {nl0 : Nat} {ret0 : Option FieldType} (ok : gO X cc "TripleStoreModel" (wsM y0 b0 nl0 ret0)) (hin2 : (gM X).name = "<init>") (hd : decode cc pc = .ok (.putfield 73, 3)) {o : Nat} {fs : List Value} {v : Value} (he : M[o]? = some (.inr (10, fs))) (hl : 48 < fs.length) (hn : ∀ ad : Nat → Nat, narrow (.array .int) (mc_v ad v) = mc_v ad v ∧ fits (.array .int) (mc_v ad v) = true) (kk : gg X (M.set o (.inr (10, fs.set 48 v))) k n (pc + 3) L st) : gg X M k n pc L (v :: .ref o :: st) := g_putF ok (C := RMo) (T := TMo) (N := 59) (f := 48) (ref := "TripleStoreModel") (fun w h => List.mem_cons_of_mem _ (inMo w h)) tyMo okMo nmMo rfl (by decide) (List.mem_cons_of_mem _ fl_Mo_73) rfl rfl hin2 rfl (by decide +kernel) hd he hl hn kk
theorem fl_Mo_76 : Cond.fieldLink "TripleStoreModel" 76 "TripleStoreModel" "size" "[I" ∈ gT := gT_at 1024 (by decide +kernel) (by decide +kernel)
theorem gf_Mo_76 {X : gC} {cc : ByteArray} {M : List mC} {k n pc : Nat} {L : List (Nat × Value)} {st : List Value} {y0 : MethodName} {b0 : ByteArray} {nl0 : Nat} {ret0 : Option FieldType} (ok : gO X cc "TripleStoreModel" (wsM y0 b0 nl0 ret0)) (hd : decode cc pc = .ok (.getfield 76, 3)) {o : Nat} {fs : List Value} {v : Value} (he : M[o]? = some (.inr (10, fs))) (hv : fs[49]? = some v) (kk : gg X M k n (pc + 3) L (v :: st)) : gg X M k n pc L (.ref o :: st) := g_get ok (C := RMo) (T := TMo) (N := 59) (f := 49) (ref := "TripleStoreModel") (fun w h => List.mem_cons_of_mem _ (inMo w h)) rfl (by decide) (List.mem_cons_of_mem _ fl_Mo_76) rfl hd he hv kk
theorem pf_Mo_76 {X : gC} {cc : ByteArray} {M : List mC} {k n pc : Nat} {L : List (Nat × Value)} {st : List Value} {y0 : MethodName} {b0 : ByteArray} {nl0 : Nat} {ret0 : Option FieldType} (ok : gO X cc "TripleStoreModel" (wsM y0 b0 nl0 ret0)) (hin2 : (gM X).name = "<init>") (hd : decode cc pc = .ok (.putfield 76, 3)) {o : Nat} {fs : List Value} {v : Value} (he : M[o]? = some (.inr (10, fs))) (hl : 49 < fs.length) (hn : ∀ ad : Nat → Nat, narrow (.array .int) (mc_v ad v) = mc_v ad v ∧ fits (.array .int) (mc_v ad v) = true) (kk : gg X (M.set o (.inr (10, fs.set 49 v))) k n (pc + 3) L st) : gg X M k n pc L (v :: .ref o :: st) := g_putF ok (C := RMo) (T := TMo) (N := 59) (f := 49) (ref := "TripleStoreModel") (fun w h => List.mem_cons_of_mem _ (inMo w h)) tyMo okMo nmMo rfl (by decide) (List.mem_cons_of_mem _ fl_Mo_76) rfl rfl hin2 rfl (by decide +kernel) hd he hl hn kk
theorem fl_Mo_318 : Cond.fieldLink "TripleStoreModel" 318 "TripleStoreModel" "top" "I" ∈ gT := gT_at 1025 (by decide +kernel) (by decide +kernel)
theorem gf_Mo_318 {X : gC} {cc : ByteArray} {M : List mC} {k n pc : Nat} {L : List (Nat × Value)} {st : List Value} {y0 : MethodName} {b0 : ByteArray} {nl0 : Nat} {ret0 : Option FieldType} (ok : gO X cc "TripleStoreModel" (wsM y0 b0 nl0 ret0)) (hd : decode cc pc = .ok (.getfield 318, 3)) {o : Nat} {fs : List Value} {v : Value} (he : M[o]? = some (.inr (10, fs))) (hv : fs[50]? = some v) (kk : gg X M k n (pc + 3) L (v :: st)) : gg X M k n pc L (.ref o :: st) := g_get ok (C := RMo) (T := TMo) (N := 59) (f := 50) (ref := "TripleStoreModel") (fun w h => List.mem_cons_of_mem _ (inMo w h)) rfl (by decide) (List.mem_cons_of_mem _ fl_Mo_318) rfl hd he hv kk
theorem pf_Mo_318 {X : gC} {cc : ByteArray} {M : List mC} {k n pc : Nat} {L : List (Nat × Value)} {st : List Value} {y0 : MethodName} {b0 : ByteArray} {nl0 : Nat} {ret0 : Option FieldType} (ok : gO X cc "TripleStoreModel" (wsM y0 b0 nl0 ret0)) (hd : decode cc pc = .ok (.putfield 318, 3)) {o : Nat} {fs : List Value} {v : Value} (he : M[o]? = some (.inr (10, fs))) (hl : 50 < fs.length) (hn : ∀ ad : Nat → Nat, narrow .int (mc_v ad v) = mc_v ad v ∧ fits .int (mc_v ad v) = true) (kk : gg X (M.set o (.inr (10, fs.set 50 v))) k n (pc + 3) L st) : gg X M k n pc L (v :: .ref o :: st) := g_put ok (C := RMo) (T := TMo) (N := 59) (f := 50) (ref := "TripleStoreModel") (fun w h => List.mem_cons_of_mem _ (inMo w h)) tyMo okMo nmMo rfl (by decide) (List.mem_cons_of_mem _ fl_Mo_318) rfl rfl (by decide +kernel) hd he hl hn kk
theorem fl_Mo_311 : Cond.fieldLink "TripleStoreModel" 311 "TripleStoreModel" "tooMany" "Z" ∈ gT := gT_at 1026 (by decide +kernel) (by decide +kernel)
theorem gf_Mo_311 {X : gC} {cc : ByteArray} {M : List mC} {k n pc : Nat} {L : List (Nat × Value)} {st : List Value} {y0 : MethodName} {b0 : ByteArray} {nl0 : Nat} {ret0 : Option FieldType} (ok : gO X cc "TripleStoreModel" (wsM y0 b0 nl0 ret0)) (hd : decode cc pc = .ok (.getfield 311, 3)) {o : Nat} {fs : List Value} {v : Value} (he : M[o]? = some (.inr (10, fs))) (hv : fs[51]? = some v) (kk : gg X M k n (pc + 3) L (v :: st)) : gg X M k n pc L (.ref o :: st) := g_get ok (C := RMo) (T := TMo) (N := 59) (f := 51) (ref := "TripleStoreModel") (fun w h => List.mem_cons_of_mem _ (inMo w h)) rfl (by decide) (List.mem_cons_of_mem _ fl_Mo_311) rfl hd he hv kk
theorem pf_Mo_311 {X : gC} {cc : ByteArray} {M : List mC} {k n pc : Nat} {L : List (Nat × Value)} {st : List Value} {y0 : MethodName} {b0 : ByteArray} {nl0 : Nat} {ret0 : Option FieldType} (ok : gO X cc "TripleStoreModel" (wsM y0 b0 nl0 ret0)) (hd : decode cc pc = .ok (.putfield 311, 3)) {o : Nat} {fs : List Value} {v : Value} (he : M[o]? = some (.inr (10, fs))) (hl : 51 < fs.length) (hn : ∀ ad : Nat → Nat, narrow .boolean (mc_v ad v) = mc_v ad v ∧ fits .boolean (mc_v ad v) = true) (kk : gg X (M.set o (.inr (10, fs.set 51 v))) k n (pc + 3) L st) : gg X M k n pc L (v :: .ref o :: st) := g_put ok (C := RMo) (T := TMo) (N := 59) (f := 51) (ref := "TripleStoreModel") (fun w h => List.mem_cons_of_mem _ (inMo w h)) tyMo okMo nmMo rfl (by decide) (List.mem_cons_of_mem _ fl_Mo_311) rfl rfl (by decide +kernel) hd he hl hn kk
theorem fl_Mo_79 : Cond.fieldLink "TripleStoreModel" 79 "TripleStoreModel" "row" "[J" ∈ gT := gT_at 1027 (by decide +kernel) (by decide +kernel)
theorem gf_Mo_79 {X : gC} {cc : ByteArray} {M : List mC} {k n pc : Nat} {L : List (Nat × Value)} {st : List Value} {y0 : MethodName} {b0 : ByteArray} {nl0 : Nat} {ret0 : Option FieldType} (ok : gO X cc "TripleStoreModel" (wsM y0 b0 nl0 ret0)) (hd : decode cc pc = .ok (.getfield 79, 3)) {o : Nat} {fs : List Value} {v : Value} (he : M[o]? = some (.inr (10, fs))) (hv : fs[52]? = some v) (kk : gg X M k n (pc + 3) L (v :: st)) : gg X M k n pc L (.ref o :: st) := g_get ok (C := RMo) (T := TMo) (N := 59) (f := 52) (ref := "TripleStoreModel") (fun w h => List.mem_cons_of_mem _ (inMo w h)) rfl (by decide) (List.mem_cons_of_mem _ fl_Mo_79) rfl hd he hv kk
theorem pf_Mo_79 {X : gC} {cc : ByteArray} {M : List mC} {k n pc : Nat} {L : List (Nat × Value)} {st : List Value} {y0 : MethodName} {b0 : ByteArray} {nl0 : Nat} {ret0 : Option FieldType} (ok : gO X cc "TripleStoreModel" (wsM y0 b0 nl0 ret0)) (hin2 : (gM X).name = "<init>") (hd : decode cc pc = .ok (.putfield 79, 3)) {o : Nat} {fs : List Value} {v : Value} (he : M[o]? = some (.inr (10, fs))) (hl : 52 < fs.length) (hn : ∀ ad : Nat → Nat, narrow (.array .long) (mc_v ad v) = mc_v ad v ∧ fits (.array .long) (mc_v ad v) = true) (kk : gg X (M.set o (.inr (10, fs.set 52 v))) k n (pc + 3) L st) : gg X M k n pc L (v :: .ref o :: st) := g_putF ok (C := RMo) (T := TMo) (N := 59) (f := 52) (ref := "TripleStoreModel") (fun w h => List.mem_cons_of_mem _ (inMo w h)) tyMo okMo nmMo rfl (by decide) (List.mem_cons_of_mem _ fl_Mo_79) rfl rfl hin2 rfl (by decide +kernel) hd he hl hn kk
theorem fl_Mo_82 : Cond.fieldLink "TripleStoreModel" 82 "TripleStoreModel" "rowGiven" "[I" ∈ gT := gT_at 1028 (by decide +kernel) (by decide +kernel)
theorem gf_Mo_82 {X : gC} {cc : ByteArray} {M : List mC} {k n pc : Nat} {L : List (Nat × Value)} {st : List Value} {y0 : MethodName} {b0 : ByteArray} {nl0 : Nat} {ret0 : Option FieldType} (ok : gO X cc "TripleStoreModel" (wsM y0 b0 nl0 ret0)) (hd : decode cc pc = .ok (.getfield 82, 3)) {o : Nat} {fs : List Value} {v : Value} (he : M[o]? = some (.inr (10, fs))) (hv : fs[53]? = some v) (kk : gg X M k n (pc + 3) L (v :: st)) : gg X M k n pc L (.ref o :: st) := g_get ok (C := RMo) (T := TMo) (N := 59) (f := 53) (ref := "TripleStoreModel") (fun w h => List.mem_cons_of_mem _ (inMo w h)) rfl (by decide) (List.mem_cons_of_mem _ fl_Mo_82) rfl hd he hv kk
theorem pf_Mo_82 {X : gC} {cc : ByteArray} {M : List mC} {k n pc : Nat} {L : List (Nat × Value)} {st : List Value} {y0 : MethodName} {b0 : ByteArray} {nl0 : Nat} {ret0 : Option FieldType} (ok : gO X cc "TripleStoreModel" (wsM y0 b0 nl0 ret0)) (hin2 : (gM X).name = "<init>") (hd : decode cc pc = .ok (.putfield 82, 3)) {o : Nat} {fs : List Value} {v : Value} (he : M[o]? = some (.inr (10, fs))) (hl : 53 < fs.length) (hn : ∀ ad : Nat → Nat, narrow (.array .int) (mc_v ad v) = mc_v ad v ∧ fits (.array .int) (mc_v ad v) = true) (kk : gg X (M.set o (.inr (10, fs.set 53 v))) k n (pc + 3) L st) : gg X M k n pc L (v :: .ref o :: st) := g_putF ok (C := RMo) (T := TMo) (N := 59) (f := 53) (ref := "TripleStoreModel") (fun w h => List.mem_cons_of_mem _ (inMo w h)) tyMo okMo nmMo rfl (by decide) (List.mem_cons_of_mem _ fl_Mo_82) rfl rfl hin2 rfl (by decide +kernel) hd he hl hn kk
theorem fl_Mo_85 : Cond.fieldLink "TripleStoreModel" 85 "TripleStoreModel" "rowAt" "[I" ∈ gT := gT_at 1029 (by decide +kernel) (by decide +kernel)
theorem gf_Mo_85 {X : gC} {cc : ByteArray} {M : List mC} {k n pc : Nat} {L : List (Nat × Value)} {st : List Value} {y0 : MethodName} {b0 : ByteArray} {nl0 : Nat} {ret0 : Option FieldType} (ok : gO X cc "TripleStoreModel" (wsM y0 b0 nl0 ret0)) (hd : decode cc pc = .ok (.getfield 85, 3)) {o : Nat} {fs : List Value} {v : Value} (he : M[o]? = some (.inr (10, fs))) (hv : fs[54]? = some v) (kk : gg X M k n (pc + 3) L (v :: st)) : gg X M k n pc L (.ref o :: st) := g_get ok (C := RMo) (T := TMo) (N := 59) (f := 54) (ref := "TripleStoreModel") (fun w h => List.mem_cons_of_mem _ (inMo w h)) rfl (by decide) (List.mem_cons_of_mem _ fl_Mo_85) rfl hd he hv kk
theorem pf_Mo_85 {X : gC} {cc : ByteArray} {M : List mC} {k n pc : Nat} {L : List (Nat × Value)} {st : List Value} {y0 : MethodName} {b0 : ByteArray} {nl0 : Nat} {ret0 : Option FieldType} (ok : gO X cc "TripleStoreModel" (wsM y0 b0 nl0 ret0)) (hin2 : (gM X).name = "<init>") (hd : decode cc pc = .ok (.putfield 85, 3)) {o : Nat} {fs : List Value} {v : Value} (he : M[o]? = some (.inr (10, fs))) (hl : 54 < fs.length) (hn : ∀ ad : Nat → Nat, narrow (.array .int) (mc_v ad v) = mc_v ad v ∧ fits (.array .int) (mc_v ad v) = true) (kk : gg X (M.set o (.inr (10, fs.set 54 v))) k n (pc + 3) L st) : gg X M k n pc L (v :: .ref o :: st) := g_putF ok (C := RMo) (T := TMo) (N := 59) (f := 54) (ref := "TripleStoreModel") (fun w h => List.mem_cons_of_mem _ (inMo w h)) tyMo okMo nmMo rfl (by decide) (List.mem_cons_of_mem _ fl_Mo_85) rfl rfl hin2 rfl (by decide +kernel) hd he hl hn kk
theorem fl_Mo_358 : Cond.fieldLink "TripleStoreModel" 358 "TripleStoreModel" "rows" "I" ∈ gT := gT_at 1030 (by decide +kernel) (by decide +kernel)
theorem gf_Mo_358 {X : gC} {cc : ByteArray} {M : List mC} {k n pc : Nat} {L : List (Nat × Value)} {st : List Value} {y0 : MethodName} {b0 : ByteArray} {nl0 : Nat} {ret0 : Option FieldType} (ok : gO X cc "TripleStoreModel" (wsM y0 b0 nl0 ret0)) (hd : decode cc pc = .ok (.getfield 358, 3)) {o : Nat} {fs : List Value} {v : Value} (he : M[o]? = some (.inr (10, fs))) (hv : fs[55]? = some v) (kk : gg X M k n (pc + 3) L (v :: st)) : gg X M k n pc L (.ref o :: st) := g_get ok (C := RMo) (T := TMo) (N := 59) (f := 55) (ref := "TripleStoreModel") (fun w h => List.mem_cons_of_mem _ (inMo w h)) rfl (by decide) (List.mem_cons_of_mem _ fl_Mo_358) rfl hd he hv kk
theorem pf_Mo_358 {X : gC} {cc : ByteArray} {M : List mC} {k n pc : Nat} {L : List (Nat × Value)} {st : List Value} {y0 : MethodName} {b0 : ByteArray} {nl0 : Nat} {ret0 : Option FieldType} (ok : gO X cc "TripleStoreModel" (wsM y0 b0 nl0 ret0)) (hd : decode cc pc = .ok (.putfield 358, 3)) {o : Nat} {fs : List Value} {v : Value} (he : M[o]? = some (.inr (10, fs))) (hl : 55 < fs.length) (hn : ∀ ad : Nat → Nat, narrow .int (mc_v ad v) = mc_v ad v ∧ fits .int (mc_v ad v) = true) (kk : gg X (M.set o (.inr (10, fs.set 55 v))) k n (pc + 3) L st) : gg X M k n pc L (v :: .ref o :: st) := g_put ok (C := RMo) (T := TMo) (N := 59) (f := 55) (ref := "TripleStoreModel") (fun w h => List.mem_cons_of_mem _ (inMo w h)) tyMo okMo nmMo rfl (by decide) (List.mem_cons_of_mem _ fl_Mo_358) rfl rfl (by decide +kernel) hd he hl hn kk
theorem fl_Mo_88 : Cond.fieldLink "TripleStoreModel" 88 "TripleStoreModel" "column" "[I" ∈ gT := gT_at 1031 (by decide +kernel) (by decide +kernel)
theorem gf_Mo_88 {X : gC} {cc : ByteArray} {M : List mC} {k n pc : Nat} {L : List (Nat × Value)} {st : List Value} {y0 : MethodName} {b0 : ByteArray} {nl0 : Nat} {ret0 : Option FieldType} (ok : gO X cc "TripleStoreModel" (wsM y0 b0 nl0 ret0)) (hd : decode cc pc = .ok (.getfield 88, 3)) {o : Nat} {fs : List Value} {v : Value} (he : M[o]? = some (.inr (10, fs))) (hv : fs[56]? = some v) (kk : gg X M k n (pc + 3) L (v :: st)) : gg X M k n pc L (.ref o :: st) := g_get ok (C := RMo) (T := TMo) (N := 59) (f := 56) (ref := "TripleStoreModel") (fun w h => List.mem_cons_of_mem _ (inMo w h)) rfl (by decide) (List.mem_cons_of_mem _ fl_Mo_88) rfl hd he hv kk
theorem pf_Mo_88 {X : gC} {cc : ByteArray} {M : List mC} {k n pc : Nat} {L : List (Nat × Value)} {st : List Value} {y0 : MethodName} {b0 : ByteArray} {nl0 : Nat} {ret0 : Option FieldType} (ok : gO X cc "TripleStoreModel" (wsM y0 b0 nl0 ret0)) (hin2 : (gM X).name = "<init>") (hd : decode cc pc = .ok (.putfield 88, 3)) {o : Nat} {fs : List Value} {v : Value} (he : M[o]? = some (.inr (10, fs))) (hl : 56 < fs.length) (hn : ∀ ad : Nat → Nat, narrow (.array .int) (mc_v ad v) = mc_v ad v ∧ fits (.array .int) (mc_v ad v) = true) (kk : gg X (M.set o (.inr (10, fs.set 56 v))) k n (pc + 3) L st) : gg X M k n pc L (v :: .ref o :: st) := g_putF ok (C := RMo) (T := TMo) (N := 59) (f := 56) (ref := "TripleStoreModel") (fun w h => List.mem_cons_of_mem _ (inMo w h)) tyMo okMo nmMo rfl (by decide) (List.mem_cons_of_mem _ fl_Mo_88) rfl rfl hin2 rfl (by decide +kernel) hd he hl hn kk
theorem fl_Mo_364 : Cond.fieldLink "TripleStoreModel" 364 "TripleStoreModel" "columns" "I" ∈ gT := gT_at 1032 (by decide +kernel) (by decide +kernel)
theorem gf_Mo_364 {X : gC} {cc : ByteArray} {M : List mC} {k n pc : Nat} {L : List (Nat × Value)} {st : List Value} {y0 : MethodName} {b0 : ByteArray} {nl0 : Nat} {ret0 : Option FieldType} (ok : gO X cc "TripleStoreModel" (wsM y0 b0 nl0 ret0)) (hd : decode cc pc = .ok (.getfield 364, 3)) {o : Nat} {fs : List Value} {v : Value} (he : M[o]? = some (.inr (10, fs))) (hv : fs[57]? = some v) (kk : gg X M k n (pc + 3) L (v :: st)) : gg X M k n pc L (.ref o :: st) := g_get ok (C := RMo) (T := TMo) (N := 59) (f := 57) (ref := "TripleStoreModel") (fun w h => List.mem_cons_of_mem _ (inMo w h)) rfl (by decide) (List.mem_cons_of_mem _ fl_Mo_364) rfl hd he hv kk
theorem pf_Mo_364 {X : gC} {cc : ByteArray} {M : List mC} {k n pc : Nat} {L : List (Nat × Value)} {st : List Value} {y0 : MethodName} {b0 : ByteArray} {nl0 : Nat} {ret0 : Option FieldType} (ok : gO X cc "TripleStoreModel" (wsM y0 b0 nl0 ret0)) (hd : decode cc pc = .ok (.putfield 364, 3)) {o : Nat} {fs : List Value} {v : Value} (he : M[o]? = some (.inr (10, fs))) (hl : 57 < fs.length) (hn : ∀ ad : Nat → Nat, narrow .int (mc_v ad v) = mc_v ad v ∧ fits .int (mc_v ad v) = true) (kk : gg X (M.set o (.inr (10, fs.set 57 v))) k n (pc + 3) L st) : gg X M k n pc L (v :: .ref o :: st) := g_put ok (C := RMo) (T := TMo) (N := 59) (f := 57) (ref := "TripleStoreModel") (fun w h => List.mem_cons_of_mem _ (inMo w h)) tyMo okMo nmMo rfl (by decide) (List.mem_cons_of_mem _ fl_Mo_364) rfl rfl (by decide +kernel) hd he hl hn kk
theorem fl_Mo_91 : Cond.fieldLink "TripleStoreModel" 91 "TripleStoreModel" "code" "I" ∈ gT := gT_at 1033 (by decide +kernel) (by decide +kernel)
theorem gf_Mo_91 {X : gC} {cc : ByteArray} {M : List mC} {k n pc : Nat} {L : List (Nat × Value)} {st : List Value} {y0 : MethodName} {b0 : ByteArray} {nl0 : Nat} {ret0 : Option FieldType} (ok : gO X cc "TripleStoreModel" (wsM y0 b0 nl0 ret0)) (hd : decode cc pc = .ok (.getfield 91, 3)) {o : Nat} {fs : List Value} {v : Value} (he : M[o]? = some (.inr (10, fs))) (hv : fs[58]? = some v) (kk : gg X M k n (pc + 3) L (v :: st)) : gg X M k n pc L (.ref o :: st) := g_get ok (C := RMo) (T := TMo) (N := 59) (f := 58) (ref := "TripleStoreModel") (fun w h => List.mem_cons_of_mem _ (inMo w h)) rfl (by decide) (List.mem_cons_of_mem _ fl_Mo_91) rfl hd he hv kk
theorem pf_Mo_91 {X : gC} {cc : ByteArray} {M : List mC} {k n pc : Nat} {L : List (Nat × Value)} {st : List Value} {y0 : MethodName} {b0 : ByteArray} {nl0 : Nat} {ret0 : Option FieldType} (ok : gO X cc "TripleStoreModel" (wsM y0 b0 nl0 ret0)) (hd : decode cc pc = .ok (.putfield 91, 3)) {o : Nat} {fs : List Value} {v : Value} (he : M[o]? = some (.inr (10, fs))) (hl : 58 < fs.length) (hn : ∀ ad : Nat → Nat, narrow .int (mc_v ad v) = mc_v ad v ∧ fits .int (mc_v ad v) = true) (kk : gg X (M.set o (.inr (10, fs.set 58 v))) k n (pc + 3) L st) : gg X M k n pc L (v :: .ref o :: st) := g_put ok (C := RMo) (T := TMo) (N := 59) (f := 58) (ref := "TripleStoreModel") (fun w h => List.mem_cons_of_mem _ (inMo w h)) tyMo okMo nmMo rfl (by decide) (List.mem_cons_of_mem _ fl_Mo_91) rfl rfl (by decide +kernel) hd he hl hn kk
theorem fl_Sv_58 : Cond.fieldLinkNest "TripleStore$Solver" 58 "TripleStore$Element" "kind" "I" "TripleStore" ∈ yT := yT_at 121 (by decide +kernel) (by decide +kernel)
theorem gf_Sv_58 {X : gC} {cc : ByteArray} {M : List mC} {k n pc : Nat} {L : List (Nat × Value)} {st : List Value} {y0 : MethodName} {b0 : ByteArray} {nl0 : Nat} {ret0 : Option FieldType} (ok : gO X cc "TripleStore$Solver" (wsM y0 b0 nl0 ret0)) (hd : decode cc pc = .ok (.getfield 58, 3)) {o : Nat} {fs : List Value} {v : Value} (he : M[o]? = some (.inr (0, fs))) (hv : fs[0]? = some v) (kk : gg X M k n (pc + 3) L (v :: st)) : gg X M k n pc L (.ref o :: st) := g_getN (host := "TripleStore") ok (C := REl) (T := TEl) (N := 7) (f := 0) (ref := "TripleStore$Element") (fun w h => List.mem_cons_of_mem _ (inEl w h)) rfl (by decide) fl_Sv_58 rfl hd he hv kk
theorem pf_Sv_58 {X : gC} {cc : ByteArray} {M : List mC} {k n pc : Nat} {L : List (Nat × Value)} {st : List Value} {y0 : MethodName} {b0 : ByteArray} {nl0 : Nat} {ret0 : Option FieldType} (ok : gO X cc "TripleStore$Solver" (wsM y0 b0 nl0 ret0)) (hd : decode cc pc = .ok (.putfield 58, 3)) {o : Nat} {fs : List Value} {v : Value} (he : M[o]? = some (.inr (0, fs))) (hl : 0 < fs.length) (hn : ∀ ad : Nat → Nat, narrow .int (mc_v ad v) = mc_v ad v ∧ fits .int (mc_v ad v) = true) (kk : gg X (M.set o (.inr (0, fs.set 0 v))) k n (pc + 3) L st) : gg X M k n pc L (v :: .ref o :: st) := g_putN (host := "TripleStore") ok (C := REl) (T := TEl) (N := 7) (f := 0) (ref := "TripleStore$Element") (fun w h => List.mem_cons_of_mem _ (inEl w h)) tyEl okEl nmEl rfl (by decide) fl_Sv_58 rfl rfl (by decide +kernel) hd he hl hn kk
theorem fl_Pa_125 : Cond.fieldLinkNest "TripleStore$Parser" 125 "TripleStore$Element" "kind" "I" "TripleStore" ∈ yT := yT_at 122 (by decide +kernel) (by decide +kernel)
theorem gf_Pa_125 {X : gC} {cc : ByteArray} {M : List mC} {k n pc : Nat} {L : List (Nat × Value)} {st : List Value} {y0 : MethodName} {b0 : ByteArray} {nl0 : Nat} {ret0 : Option FieldType} (ok : gO X cc "TripleStore$Parser" (wsM y0 b0 nl0 ret0)) (hd : decode cc pc = .ok (.getfield 125, 3)) {o : Nat} {fs : List Value} {v : Value} (he : M[o]? = some (.inr (0, fs))) (hv : fs[0]? = some v) (kk : gg X M k n (pc + 3) L (v :: st)) : gg X M k n pc L (.ref o :: st) := g_getN (host := "TripleStore") ok (C := REl) (T := TEl) (N := 7) (f := 0) (ref := "TripleStore$Element") (fun w h => List.mem_cons_of_mem _ (inEl w h)) rfl (by decide) fl_Pa_125 rfl hd he hv kk
theorem pf_Pa_125 {X : gC} {cc : ByteArray} {M : List mC} {k n pc : Nat} {L : List (Nat × Value)} {st : List Value} {y0 : MethodName} {b0 : ByteArray} {nl0 : Nat} {ret0 : Option FieldType} (ok : gO X cc "TripleStore$Parser" (wsM y0 b0 nl0 ret0)) (hd : decode cc pc = .ok (.putfield 125, 3)) {o : Nat} {fs : List Value} {v : Value} (he : M[o]? = some (.inr (0, fs))) (hl : 0 < fs.length) (hn : ∀ ad : Nat → Nat, narrow .int (mc_v ad v) = mc_v ad v ∧ fits .int (mc_v ad v) = true) (kk : gg X (M.set o (.inr (0, fs.set 0 v))) k n (pc + 3) L st) : gg X M k n pc L (v :: .ref o :: st) := g_putN (host := "TripleStore") ok (C := REl) (T := TEl) (N := 7) (f := 0) (ref := "TripleStore$Element") (fun w h => List.mem_cons_of_mem _ (inEl w h)) tyEl okEl nmEl rfl (by decide) fl_Pa_125 rfl rfl (by decide +kernel) hd he hl hn kk
theorem fl_Sv_63 : Cond.fieldLinkNest "TripleStore$Solver" 63 "TripleStore$Element" "home" "I" "TripleStore" ∈ yT := yT_at 124 (by decide +kernel) (by decide +kernel)
theorem gf_Sv_63 {X : gC} {cc : ByteArray} {M : List mC} {k n pc : Nat} {L : List (Nat × Value)} {st : List Value} {y0 : MethodName} {b0 : ByteArray} {nl0 : Nat} {ret0 : Option FieldType} (ok : gO X cc "TripleStore$Solver" (wsM y0 b0 nl0 ret0)) (hd : decode cc pc = .ok (.getfield 63, 3)) {o : Nat} {fs : List Value} {v : Value} (he : M[o]? = some (.inr (0, fs))) (hv : fs[1]? = some v) (kk : gg X M k n (pc + 3) L (v :: st)) : gg X M k n pc L (.ref o :: st) := g_getN (host := "TripleStore") ok (C := REl) (T := TEl) (N := 7) (f := 1) (ref := "TripleStore$Element") (fun w h => List.mem_cons_of_mem _ (inEl w h)) rfl (by decide) fl_Sv_63 rfl hd he hv kk
theorem pf_Sv_63 {X : gC} {cc : ByteArray} {M : List mC} {k n pc : Nat} {L : List (Nat × Value)} {st : List Value} {y0 : MethodName} {b0 : ByteArray} {nl0 : Nat} {ret0 : Option FieldType} (ok : gO X cc "TripleStore$Solver" (wsM y0 b0 nl0 ret0)) (hd : decode cc pc = .ok (.putfield 63, 3)) {o : Nat} {fs : List Value} {v : Value} (he : M[o]? = some (.inr (0, fs))) (hl : 1 < fs.length) (hn : ∀ ad : Nat → Nat, narrow .int (mc_v ad v) = mc_v ad v ∧ fits .int (mc_v ad v) = true) (kk : gg X (M.set o (.inr (0, fs.set 1 v))) k n (pc + 3) L st) : gg X M k n pc L (v :: .ref o :: st) := g_putN (host := "TripleStore") ok (C := REl) (T := TEl) (N := 7) (f := 1) (ref := "TripleStore$Element") (fun w h => List.mem_cons_of_mem _ (inEl w h)) tyEl okEl nmEl rfl (by decide) fl_Sv_63 rfl rfl (by decide +kernel) hd he hl hn kk
theorem fl_Qu_55 : Cond.fieldLinkNest "TripleStore$Query" 55 "TripleStore$Element" "home" "I" "TripleStore" ∈ yT := yT_at 125 (by decide +kernel) (by decide +kernel)
theorem gf_Qu_55 {X : gC} {cc : ByteArray} {M : List mC} {k n pc : Nat} {L : List (Nat × Value)} {st : List Value} {y0 : MethodName} {b0 : ByteArray} {nl0 : Nat} {ret0 : Option FieldType} (ok : gO X cc "TripleStore$Query" (wsM y0 b0 nl0 ret0)) (hd : decode cc pc = .ok (.getfield 55, 3)) {o : Nat} {fs : List Value} {v : Value} (he : M[o]? = some (.inr (0, fs))) (hv : fs[1]? = some v) (kk : gg X M k n (pc + 3) L (v :: st)) : gg X M k n pc L (.ref o :: st) := g_getN (host := "TripleStore") ok (C := REl) (T := TEl) (N := 7) (f := 1) (ref := "TripleStore$Element") (fun w h => List.mem_cons_of_mem _ (inEl w h)) rfl (by decide) fl_Qu_55 rfl hd he hv kk
theorem pf_Qu_55 {X : gC} {cc : ByteArray} {M : List mC} {k n pc : Nat} {L : List (Nat × Value)} {st : List Value} {y0 : MethodName} {b0 : ByteArray} {nl0 : Nat} {ret0 : Option FieldType} (ok : gO X cc "TripleStore$Query" (wsM y0 b0 nl0 ret0)) (hd : decode cc pc = .ok (.putfield 55, 3)) {o : Nat} {fs : List Value} {v : Value} (he : M[o]? = some (.inr (0, fs))) (hl : 1 < fs.length) (hn : ∀ ad : Nat → Nat, narrow .int (mc_v ad v) = mc_v ad v ∧ fits .int (mc_v ad v) = true) (kk : gg X (M.set o (.inr (0, fs.set 1 v))) k n (pc + 3) L st) : gg X M k n pc L (v :: .ref o :: st) := g_putN (host := "TripleStore") ok (C := REl) (T := TEl) (N := 7) (f := 1) (ref := "TripleStore$Element") (fun w h => List.mem_cons_of_mem _ (inEl w h)) tyEl okEl nmEl rfl (by decide) fl_Qu_55 rfl rfl (by decide +kernel) hd he hl hn kk
theorem fl_Sv_97 : Cond.fieldLinkNest "TripleStore$Solver" 97 "TripleStore$Element" "first" "J" "TripleStore" ∈ yT := yT_at 127 (by decide +kernel) (by decide +kernel)
theorem gf_Sv_97 {X : gC} {cc : ByteArray} {M : List mC} {k n pc : Nat} {L : List (Nat × Value)} {st : List Value} {y0 : MethodName} {b0 : ByteArray} {nl0 : Nat} {ret0 : Option FieldType} (ok : gO X cc "TripleStore$Solver" (wsM y0 b0 nl0 ret0)) (hd : decode cc pc = .ok (.getfield 97, 3)) {o : Nat} {fs : List Value} {v : Value} (he : M[o]? = some (.inr (0, fs))) (hv : fs[2]? = some v) (kk : gg X M k n (pc + 3) L (v :: st)) : gg X M k n pc L (.ref o :: st) := g_getN (host := "TripleStore") ok (C := REl) (T := TEl) (N := 7) (f := 2) (ref := "TripleStore$Element") (fun w h => List.mem_cons_of_mem _ (inEl w h)) rfl (by decide) fl_Sv_97 rfl hd he hv kk
theorem pf_Sv_97 {X : gC} {cc : ByteArray} {M : List mC} {k n pc : Nat} {L : List (Nat × Value)} {st : List Value} {y0 : MethodName} {b0 : ByteArray} {nl0 : Nat} {ret0 : Option FieldType} (ok : gO X cc "TripleStore$Solver" (wsM y0 b0 nl0 ret0)) (hd : decode cc pc = .ok (.putfield 97, 3)) {o : Nat} {fs : List Value} {v : Value} (he : M[o]? = some (.inr (0, fs))) (hl : 2 < fs.length) (hn : ∀ ad : Nat → Nat, narrow .long (mc_v ad v) = mc_v ad v ∧ fits .long (mc_v ad v) = true) (kk : gg X (M.set o (.inr (0, fs.set 2 v))) k n (pc + 3) L st) : gg X M k n pc L (v :: .ref o :: st) := g_putN (host := "TripleStore") ok (C := REl) (T := TEl) (N := 7) (f := 2) (ref := "TripleStore$Element") (fun w h => List.mem_cons_of_mem _ (inEl w h)) tyEl okEl nmEl rfl (by decide) fl_Sv_97 rfl rfl (by decide +kernel) hd he hl hn kk
theorem fl_Pa_155 : Cond.fieldLinkNest "TripleStore$Parser" 155 "TripleStore$Element" "first" "J" "TripleStore" ∈ yT := yT_at 128 (by decide +kernel) (by decide +kernel)
theorem gf_Pa_155 {X : gC} {cc : ByteArray} {M : List mC} {k n pc : Nat} {L : List (Nat × Value)} {st : List Value} {y0 : MethodName} {b0 : ByteArray} {nl0 : Nat} {ret0 : Option FieldType} (ok : gO X cc "TripleStore$Parser" (wsM y0 b0 nl0 ret0)) (hd : decode cc pc = .ok (.getfield 155, 3)) {o : Nat} {fs : List Value} {v : Value} (he : M[o]? = some (.inr (0, fs))) (hv : fs[2]? = some v) (kk : gg X M k n (pc + 3) L (v :: st)) : gg X M k n pc L (.ref o :: st) := g_getN (host := "TripleStore") ok (C := REl) (T := TEl) (N := 7) (f := 2) (ref := "TripleStore$Element") (fun w h => List.mem_cons_of_mem _ (inEl w h)) rfl (by decide) fl_Pa_155 rfl hd he hv kk
theorem pf_Pa_155 {X : gC} {cc : ByteArray} {M : List mC} {k n pc : Nat} {L : List (Nat × Value)} {st : List Value} {y0 : MethodName} {b0 : ByteArray} {nl0 : Nat} {ret0 : Option FieldType} (ok : gO X cc "TripleStore$Parser" (wsM y0 b0 nl0 ret0)) (hd : decode cc pc = .ok (.putfield 155, 3)) {o : Nat} {fs : List Value} {v : Value} (he : M[o]? = some (.inr (0, fs))) (hl : 2 < fs.length) (hn : ∀ ad : Nat → Nat, narrow .long (mc_v ad v) = mc_v ad v ∧ fits .long (mc_v ad v) = true) (kk : gg X (M.set o (.inr (0, fs.set 2 v))) k n (pc + 3) L st) : gg X M k n pc L (v :: .ref o :: st) := g_putN (host := "TripleStore") ok (C := REl) (T := TEl) (N := 7) (f := 2) (ref := "TripleStore$Element") (fun w h => List.mem_cons_of_mem _ (inEl w h)) tyEl okEl nmEl rfl (by decide) fl_Pa_155 rfl rfl (by decide +kernel) hd he hl hn kk
theorem fl_Sv_109 : Cond.fieldLinkNest "TripleStore$Solver" 109 "TripleStore$Element" "second" "J" "TripleStore" ∈ yT := yT_at 130 (by decide +kernel) (by decide +kernel)
theorem gf_Sv_109 {X : gC} {cc : ByteArray} {M : List mC} {k n pc : Nat} {L : List (Nat × Value)} {st : List Value} {y0 : MethodName} {b0 : ByteArray} {nl0 : Nat} {ret0 : Option FieldType} (ok : gO X cc "TripleStore$Solver" (wsM y0 b0 nl0 ret0)) (hd : decode cc pc = .ok (.getfield 109, 3)) {o : Nat} {fs : List Value} {v : Value} (he : M[o]? = some (.inr (0, fs))) (hv : fs[3]? = some v) (kk : gg X M k n (pc + 3) L (v :: st)) : gg X M k n pc L (.ref o :: st) := g_getN (host := "TripleStore") ok (C := REl) (T := TEl) (N := 7) (f := 3) (ref := "TripleStore$Element") (fun w h => List.mem_cons_of_mem _ (inEl w h)) rfl (by decide) fl_Sv_109 rfl hd he hv kk
theorem pf_Sv_109 {X : gC} {cc : ByteArray} {M : List mC} {k n pc : Nat} {L : List (Nat × Value)} {st : List Value} {y0 : MethodName} {b0 : ByteArray} {nl0 : Nat} {ret0 : Option FieldType} (ok : gO X cc "TripleStore$Solver" (wsM y0 b0 nl0 ret0)) (hd : decode cc pc = .ok (.putfield 109, 3)) {o : Nat} {fs : List Value} {v : Value} (he : M[o]? = some (.inr (0, fs))) (hl : 3 < fs.length) (hn : ∀ ad : Nat → Nat, narrow .long (mc_v ad v) = mc_v ad v ∧ fits .long (mc_v ad v) = true) (kk : gg X (M.set o (.inr (0, fs.set 3 v))) k n (pc + 3) L st) : gg X M k n pc L (v :: .ref o :: st) := g_putN (host := "TripleStore") ok (C := REl) (T := TEl) (N := 7) (f := 3) (ref := "TripleStore$Element") (fun w h => List.mem_cons_of_mem _ (inEl w h)) tyEl okEl nmEl rfl (by decide) fl_Sv_109 rfl rfl (by decide +kernel) hd he hl hn kk
theorem fl_Pa_158 : Cond.fieldLinkNest "TripleStore$Parser" 158 "TripleStore$Element" "second" "J" "TripleStore" ∈ yT := yT_at 131 (by decide +kernel) (by decide +kernel)
theorem gf_Pa_158 {X : gC} {cc : ByteArray} {M : List mC} {k n pc : Nat} {L : List (Nat × Value)} {st : List Value} {y0 : MethodName} {b0 : ByteArray} {nl0 : Nat} {ret0 : Option FieldType} (ok : gO X cc "TripleStore$Parser" (wsM y0 b0 nl0 ret0)) (hd : decode cc pc = .ok (.getfield 158, 3)) {o : Nat} {fs : List Value} {v : Value} (he : M[o]? = some (.inr (0, fs))) (hv : fs[3]? = some v) (kk : gg X M k n (pc + 3) L (v :: st)) : gg X M k n pc L (.ref o :: st) := g_getN (host := "TripleStore") ok (C := REl) (T := TEl) (N := 7) (f := 3) (ref := "TripleStore$Element") (fun w h => List.mem_cons_of_mem _ (inEl w h)) rfl (by decide) fl_Pa_158 rfl hd he hv kk
theorem pf_Pa_158 {X : gC} {cc : ByteArray} {M : List mC} {k n pc : Nat} {L : List (Nat × Value)} {st : List Value} {y0 : MethodName} {b0 : ByteArray} {nl0 : Nat} {ret0 : Option FieldType} (ok : gO X cc "TripleStore$Parser" (wsM y0 b0 nl0 ret0)) (hd : decode cc pc = .ok (.putfield 158, 3)) {o : Nat} {fs : List Value} {v : Value} (he : M[o]? = some (.inr (0, fs))) (hl : 3 < fs.length) (hn : ∀ ad : Nat → Nat, narrow .long (mc_v ad v) = mc_v ad v ∧ fits .long (mc_v ad v) = true) (kk : gg X (M.set o (.inr (0, fs.set 3 v))) k n (pc + 3) L st) : gg X M k n pc L (v :: .ref o :: st) := g_putN (host := "TripleStore") ok (C := REl) (T := TEl) (N := 7) (f := 3) (ref := "TripleStore$Element") (fun w h => List.mem_cons_of_mem _ (inEl w h)) tyEl okEl nmEl rfl (by decide) fl_Pa_158 rfl rfl (by decide +kernel) hd he hl hn kk
theorem fl_Sv_115 : Cond.fieldLinkNest "TripleStore$Solver" 115 "TripleStore$Element" "third" "J" "TripleStore" ∈ yT := yT_at 133 (by decide +kernel) (by decide +kernel)
theorem gf_Sv_115 {X : gC} {cc : ByteArray} {M : List mC} {k n pc : Nat} {L : List (Nat × Value)} {st : List Value} {y0 : MethodName} {b0 : ByteArray} {nl0 : Nat} {ret0 : Option FieldType} (ok : gO X cc "TripleStore$Solver" (wsM y0 b0 nl0 ret0)) (hd : decode cc pc = .ok (.getfield 115, 3)) {o : Nat} {fs : List Value} {v : Value} (he : M[o]? = some (.inr (0, fs))) (hv : fs[4]? = some v) (kk : gg X M k n (pc + 3) L (v :: st)) : gg X M k n pc L (.ref o :: st) := g_getN (host := "TripleStore") ok (C := REl) (T := TEl) (N := 7) (f := 4) (ref := "TripleStore$Element") (fun w h => List.mem_cons_of_mem _ (inEl w h)) rfl (by decide) fl_Sv_115 rfl hd he hv kk
theorem pf_Sv_115 {X : gC} {cc : ByteArray} {M : List mC} {k n pc : Nat} {L : List (Nat × Value)} {st : List Value} {y0 : MethodName} {b0 : ByteArray} {nl0 : Nat} {ret0 : Option FieldType} (ok : gO X cc "TripleStore$Solver" (wsM y0 b0 nl0 ret0)) (hd : decode cc pc = .ok (.putfield 115, 3)) {o : Nat} {fs : List Value} {v : Value} (he : M[o]? = some (.inr (0, fs))) (hl : 4 < fs.length) (hn : ∀ ad : Nat → Nat, narrow .long (mc_v ad v) = mc_v ad v ∧ fits .long (mc_v ad v) = true) (kk : gg X (M.set o (.inr (0, fs.set 4 v))) k n (pc + 3) L st) : gg X M k n pc L (v :: .ref o :: st) := g_putN (host := "TripleStore") ok (C := REl) (T := TEl) (N := 7) (f := 4) (ref := "TripleStore$Element") (fun w h => List.mem_cons_of_mem _ (inEl w h)) tyEl okEl nmEl rfl (by decide) fl_Sv_115 rfl rfl (by decide +kernel) hd he hl hn kk
theorem fl_Pa_161 : Cond.fieldLinkNest "TripleStore$Parser" 161 "TripleStore$Element" "third" "J" "TripleStore" ∈ yT := yT_at 134 (by decide +kernel) (by decide +kernel)
theorem gf_Pa_161 {X : gC} {cc : ByteArray} {M : List mC} {k n pc : Nat} {L : List (Nat × Value)} {st : List Value} {y0 : MethodName} {b0 : ByteArray} {nl0 : Nat} {ret0 : Option FieldType} (ok : gO X cc "TripleStore$Parser" (wsM y0 b0 nl0 ret0)) (hd : decode cc pc = .ok (.getfield 161, 3)) {o : Nat} {fs : List Value} {v : Value} (he : M[o]? = some (.inr (0, fs))) (hv : fs[4]? = some v) (kk : gg X M k n (pc + 3) L (v :: st)) : gg X M k n pc L (.ref o :: st) := g_getN (host := "TripleStore") ok (C := REl) (T := TEl) (N := 7) (f := 4) (ref := "TripleStore$Element") (fun w h => List.mem_cons_of_mem _ (inEl w h)) rfl (by decide) fl_Pa_161 rfl hd he hv kk
theorem pf_Pa_161 {X : gC} {cc : ByteArray} {M : List mC} {k n pc : Nat} {L : List (Nat × Value)} {st : List Value} {y0 : MethodName} {b0 : ByteArray} {nl0 : Nat} {ret0 : Option FieldType} (ok : gO X cc "TripleStore$Parser" (wsM y0 b0 nl0 ret0)) (hd : decode cc pc = .ok (.putfield 161, 3)) {o : Nat} {fs : List Value} {v : Value} (he : M[o]? = some (.inr (0, fs))) (hl : 4 < fs.length) (hn : ∀ ad : Nat → Nat, narrow .long (mc_v ad v) = mc_v ad v ∧ fits .long (mc_v ad v) = true) (kk : gg X (M.set o (.inr (0, fs.set 4 v))) k n (pc + 3) L st) : gg X M k n pc L (v :: .ref o :: st) := g_putN (host := "TripleStore") ok (C := REl) (T := TEl) (N := 7) (f := 4) (ref := "TripleStore$Element") (fun w h => List.mem_cons_of_mem _ (inEl w h)) tyEl okEl nmEl rfl (by decide) fl_Pa_161 rfl rfl (by decide +kernel) hd he hl hn kk
theorem fl_Pa_169 : Cond.fieldLinkNest "TripleStore$Parser" 169 "TripleStore$Element" "sign" "I" "TripleStore" ∈ yT := yT_at 136 (by decide +kernel) (by decide +kernel)
theorem gf_Pa_169 {X : gC} {cc : ByteArray} {M : List mC} {k n pc : Nat} {L : List (Nat × Value)} {st : List Value} {y0 : MethodName} {b0 : ByteArray} {nl0 : Nat} {ret0 : Option FieldType} (ok : gO X cc "TripleStore$Parser" (wsM y0 b0 nl0 ret0)) (hd : decode cc pc = .ok (.getfield 169, 3)) {o : Nat} {fs : List Value} {v : Value} (he : M[o]? = some (.inr (0, fs))) (hv : fs[5]? = some v) (kk : gg X M k n (pc + 3) L (v :: st)) : gg X M k n pc L (.ref o :: st) := g_getN (host := "TripleStore") ok (C := REl) (T := TEl) (N := 7) (f := 5) (ref := "TripleStore$Element") (fun w h => List.mem_cons_of_mem _ (inEl w h)) rfl (by decide) fl_Pa_169 rfl hd he hv kk
theorem pf_Pa_169 {X : gC} {cc : ByteArray} {M : List mC} {k n pc : Nat} {L : List (Nat × Value)} {st : List Value} {y0 : MethodName} {b0 : ByteArray} {nl0 : Nat} {ret0 : Option FieldType} (ok : gO X cc "TripleStore$Parser" (wsM y0 b0 nl0 ret0)) (hd : decode cc pc = .ok (.putfield 169, 3)) {o : Nat} {fs : List Value} {v : Value} (he : M[o]? = some (.inr (0, fs))) (hl : 5 < fs.length) (hn : ∀ ad : Nat → Nat, narrow .int (mc_v ad v) = mc_v ad v ∧ fits .int (mc_v ad v) = true) (kk : gg X (M.set o (.inr (0, fs.set 5 v))) k n (pc + 3) L st) : gg X M k n pc L (v :: .ref o :: st) := g_putN (host := "TripleStore") ok (C := REl) (T := TEl) (N := 7) (f := 5) (ref := "TripleStore$Element") (fun w h => List.mem_cons_of_mem _ (inEl w h)) tyEl okEl nmEl rfl (by decide) fl_Pa_169 rfl rfl (by decide +kernel) hd he hl hn kk
theorem fl_Sv_169 : Cond.fieldLinkNest "TripleStore$Solver" 169 "TripleStore$Element" "sign" "I" "TripleStore" ∈ yT := yT_at 137 (by decide +kernel) (by decide +kernel)
theorem gf_Sv_169 {X : gC} {cc : ByteArray} {M : List mC} {k n pc : Nat} {L : List (Nat × Value)} {st : List Value} {y0 : MethodName} {b0 : ByteArray} {nl0 : Nat} {ret0 : Option FieldType} (ok : gO X cc "TripleStore$Solver" (wsM y0 b0 nl0 ret0)) (hd : decode cc pc = .ok (.getfield 169, 3)) {o : Nat} {fs : List Value} {v : Value} (he : M[o]? = some (.inr (0, fs))) (hv : fs[5]? = some v) (kk : gg X M k n (pc + 3) L (v :: st)) : gg X M k n pc L (.ref o :: st) := g_getN (host := "TripleStore") ok (C := REl) (T := TEl) (N := 7) (f := 5) (ref := "TripleStore$Element") (fun w h => List.mem_cons_of_mem _ (inEl w h)) rfl (by decide) fl_Sv_169 rfl hd he hv kk
theorem pf_Sv_169 {X : gC} {cc : ByteArray} {M : List mC} {k n pc : Nat} {L : List (Nat × Value)} {st : List Value} {y0 : MethodName} {b0 : ByteArray} {nl0 : Nat} {ret0 : Option FieldType} (ok : gO X cc "TripleStore$Solver" (wsM y0 b0 nl0 ret0)) (hd : decode cc pc = .ok (.putfield 169, 3)) {o : Nat} {fs : List Value} {v : Value} (he : M[o]? = some (.inr (0, fs))) (hl : 5 < fs.length) (hn : ∀ ad : Nat → Nat, narrow .int (mc_v ad v) = mc_v ad v ∧ fits .int (mc_v ad v) = true) (kk : gg X (M.set o (.inr (0, fs.set 5 v))) k n (pc + 3) L st) : gg X M k n pc L (v :: .ref o :: st) := g_putN (host := "TripleStore") ok (C := REl) (T := TEl) (N := 7) (f := 5) (ref := "TripleStore$Element") (fun w h => List.mem_cons_of_mem _ (inEl w h)) tyEl okEl nmEl rfl (by decide) fl_Sv_169 rfl rfl (by decide +kernel) hd he hl hn kk
theorem fl_Pa_164 : Cond.fieldLinkNest "TripleStore$Parser" 164 "TripleStore$Element" "negated" "Z" "TripleStore" ∈ yT := yT_at 139 (by decide +kernel) (by decide +kernel)
theorem gf_Pa_164 {X : gC} {cc : ByteArray} {M : List mC} {k n pc : Nat} {L : List (Nat × Value)} {st : List Value} {y0 : MethodName} {b0 : ByteArray} {nl0 : Nat} {ret0 : Option FieldType} (ok : gO X cc "TripleStore$Parser" (wsM y0 b0 nl0 ret0)) (hd : decode cc pc = .ok (.getfield 164, 3)) {o : Nat} {fs : List Value} {v : Value} (he : M[o]? = some (.inr (0, fs))) (hv : fs[6]? = some v) (kk : gg X M k n (pc + 3) L (v :: st)) : gg X M k n pc L (.ref o :: st) := g_getN (host := "TripleStore") ok (C := REl) (T := TEl) (N := 7) (f := 6) (ref := "TripleStore$Element") (fun w h => List.mem_cons_of_mem _ (inEl w h)) rfl (by decide) fl_Pa_164 rfl hd he hv kk
theorem pf_Pa_164 {X : gC} {cc : ByteArray} {M : List mC} {k n pc : Nat} {L : List (Nat × Value)} {st : List Value} {y0 : MethodName} {b0 : ByteArray} {nl0 : Nat} {ret0 : Option FieldType} (ok : gO X cc "TripleStore$Parser" (wsM y0 b0 nl0 ret0)) (hd : decode cc pc = .ok (.putfield 164, 3)) {o : Nat} {fs : List Value} {v : Value} (he : M[o]? = some (.inr (0, fs))) (hl : 6 < fs.length) (hn : ∀ ad : Nat → Nat, narrow .boolean (mc_v ad v) = mc_v ad v ∧ fits .boolean (mc_v ad v) = true) (kk : gg X (M.set o (.inr (0, fs.set 6 v))) k n (pc + 3) L st) : gg X M k n pc L (v :: .ref o :: st) := g_putN (host := "TripleStore") ok (C := REl) (T := TEl) (N := 7) (f := 6) (ref := "TripleStore$Element") (fun w h => List.mem_cons_of_mem _ (inEl w h)) tyEl okEl nmEl rfl (by decide) fl_Pa_164 rfl rfl (by decide +kernel) hd he hl hn kk
theorem fl_Sv_165 : Cond.fieldLinkNest "TripleStore$Solver" 165 "TripleStore$Element" "negated" "Z" "TripleStore" ∈ yT := yT_at 140 (by decide +kernel) (by decide +kernel)
theorem gf_Sv_165 {X : gC} {cc : ByteArray} {M : List mC} {k n pc : Nat} {L : List (Nat × Value)} {st : List Value} {y0 : MethodName} {b0 : ByteArray} {nl0 : Nat} {ret0 : Option FieldType} (ok : gO X cc "TripleStore$Solver" (wsM y0 b0 nl0 ret0)) (hd : decode cc pc = .ok (.getfield 165, 3)) {o : Nat} {fs : List Value} {v : Value} (he : M[o]? = some (.inr (0, fs))) (hv : fs[6]? = some v) (kk : gg X M k n (pc + 3) L (v :: st)) : gg X M k n pc L (.ref o :: st) := g_getN (host := "TripleStore") ok (C := REl) (T := TEl) (N := 7) (f := 6) (ref := "TripleStore$Element") (fun w h => List.mem_cons_of_mem _ (inEl w h)) rfl (by decide) fl_Sv_165 rfl hd he hv kk
theorem pf_Sv_165 {X : gC} {cc : ByteArray} {M : List mC} {k n pc : Nat} {L : List (Nat × Value)} {st : List Value} {y0 : MethodName} {b0 : ByteArray} {nl0 : Nat} {ret0 : Option FieldType} (ok : gO X cc "TripleStore$Solver" (wsM y0 b0 nl0 ret0)) (hd : decode cc pc = .ok (.putfield 165, 3)) {o : Nat} {fs : List Value} {v : Value} (he : M[o]? = some (.inr (0, fs))) (hl : 6 < fs.length) (hn : ∀ ad : Nat → Nat, narrow .boolean (mc_v ad v) = mc_v ad v ∧ fits .boolean (mc_v ad v) = true) (kk : gg X (M.set o (.inr (0, fs.set 6 v))) k n (pc + 3) L st) : gg X M k n pc L (v :: .ref o :: st) := g_putN (host := "TripleStore") ok (C := REl) (T := TEl) (N := 7) (f := 6) (ref := "TripleStore$Element") (fun w h => List.mem_cons_of_mem _ (inEl w h)) tyEl okEl nmEl rfl (by decide) fl_Sv_165 rfl rfl (by decide +kernel) hd he hl hn kk
theorem fl_Pa_63 : Cond.fieldLinkNest "TripleStore$Parser" 63 "TripleStore$Query" "selected" "[I" "TripleStore" ∈ yT := yT_at 159 (by decide +kernel) (by decide +kernel)
theorem gf_Pa_63 {X : gC} {cc : ByteArray} {M : List mC} {k n pc : Nat} {L : List (Nat × Value)} {st : List Value} {y0 : MethodName} {b0 : ByteArray} {nl0 : Nat} {ret0 : Option FieldType} (ok : gO X cc "TripleStore$Parser" (wsM y0 b0 nl0 ret0)) (hd : decode cc pc = .ok (.getfield 63, 3)) {o : Nat} {fs : List Value} {v : Value} (he : M[o]? = some (.inr (2, fs))) (hv : fs[2]? = some v) (kk : gg X M k n (pc + 3) L (v :: st)) : gg X M k n pc L (.ref o :: st) := g_getN (host := "TripleStore") ok (C := RQu) (T := TQu) (N := 12) (f := 2) (ref := "TripleStore$Query") (fun w h => List.mem_cons_of_mem _ (inQu w h)) rfl (by decide) fl_Pa_63 rfl hd he hv kk
theorem fl_Ro_64 : Cond.fieldLinkNest "TripleStore$Rows" 64 "TripleStore$Query" "selected" "[I" "TripleStore" ∈ yT := yT_at 160 (by decide +kernel) (by decide +kernel)
theorem gf_Ro_64 {X : gC} {cc : ByteArray} {M : List mC} {k n pc : Nat} {L : List (Nat × Value)} {st : List Value} {y0 : MethodName} {b0 : ByteArray} {nl0 : Nat} {ret0 : Option FieldType} (ok : gO X cc "TripleStore$Rows" (wsM y0 b0 nl0 ret0)) (hd : decode cc pc = .ok (.getfield 64, 3)) {o : Nat} {fs : List Value} {v : Value} (he : M[o]? = some (.inr (2, fs))) (hv : fs[2]? = some v) (kk : gg X M k n (pc + 3) L (v :: st)) : gg X M k n pc L (.ref o :: st) := g_getN (host := "TripleStore") ok (C := RQu) (T := TQu) (N := 12) (f := 2) (ref := "TripleStore$Query") (fun w h => List.mem_cons_of_mem _ (inQu w h)) rfl (by decide) fl_Ro_64 rfl hd he hv kk
theorem fl_Pa_69 : Cond.fieldLinkNest "TripleStore$Parser" 69 "TripleStore$Query" "columns" "I" "TripleStore" ∈ yT := yT_at 162 (by decide +kernel) (by decide +kernel)
theorem gf_Pa_69 {X : gC} {cc : ByteArray} {M : List mC} {k n pc : Nat} {L : List (Nat × Value)} {st : List Value} {y0 : MethodName} {b0 : ByteArray} {nl0 : Nat} {ret0 : Option FieldType} (ok : gO X cc "TripleStore$Parser" (wsM y0 b0 nl0 ret0)) (hd : decode cc pc = .ok (.getfield 69, 3)) {o : Nat} {fs : List Value} {v : Value} (he : M[o]? = some (.inr (2, fs))) (hv : fs[3]? = some v) (kk : gg X M k n (pc + 3) L (v :: st)) : gg X M k n pc L (.ref o :: st) := g_getN (host := "TripleStore") ok (C := RQu) (T := TQu) (N := 12) (f := 3) (ref := "TripleStore$Query") (fun w h => List.mem_cons_of_mem _ (inQu w h)) rfl (by decide) fl_Pa_69 rfl hd he hv kk
theorem pf_Pa_69 {X : gC} {cc : ByteArray} {M : List mC} {k n pc : Nat} {L : List (Nat × Value)} {st : List Value} {y0 : MethodName} {b0 : ByteArray} {nl0 : Nat} {ret0 : Option FieldType} (ok : gO X cc "TripleStore$Parser" (wsM y0 b0 nl0 ret0)) (hd : decode cc pc = .ok (.putfield 69, 3)) {o : Nat} {fs : List Value} {v : Value} (he : M[o]? = some (.inr (2, fs))) (hl : 3 < fs.length) (hn : ∀ ad : Nat → Nat, narrow .int (mc_v ad v) = mc_v ad v ∧ fits .int (mc_v ad v) = true) (kk : gg X (M.set o (.inr (2, fs.set 3 v))) k n (pc + 3) L st) : gg X M k n pc L (v :: .ref o :: st) := g_putN (host := "TripleStore") ok (C := RQu) (T := TQu) (N := 12) (f := 3) (ref := "TripleStore$Query") (fun w h => List.mem_cons_of_mem _ (inQu w h)) tyQu okQu nmQu rfl (by decide) fl_Pa_69 rfl rfl (by decide +kernel) hd he hl hn kk
theorem fl_TS_152 : Cond.fieldLinkNest "TripleStore" 152 "TripleStore$Query" "columns" "I" "TripleStore" ∈ yT := yT_at 163 (by decide +kernel) (by decide +kernel)
theorem gf_TS_152 {X : gC} {cc : ByteArray} {M : List mC} {k n pc : Nat} {L : List (Nat × Value)} {st : List Value} {y0 : MethodName} {b0 : ByteArray} {nl0 : Nat} {ret0 : Option FieldType} (ok : gO X cc "TripleStore" (wsM y0 b0 nl0 ret0)) (hd : decode cc pc = .ok (.getfield 152, 3)) {o : Nat} {fs : List Value} {v : Value} (he : M[o]? = some (.inr (2, fs))) (hv : fs[3]? = some v) (kk : gg X M k n (pc + 3) L (v :: st)) : gg X M k n pc L (.ref o :: st) := g_getN (host := "TripleStore") ok (C := RQu) (T := TQu) (N := 12) (f := 3) (ref := "TripleStore$Query") (fun w h => List.mem_cons_of_mem _ (inQu w h)) rfl (by decide) fl_TS_152 rfl hd he hv kk
theorem pf_TS_152 {X : gC} {cc : ByteArray} {M : List mC} {k n pc : Nat} {L : List (Nat × Value)} {st : List Value} {y0 : MethodName} {b0 : ByteArray} {nl0 : Nat} {ret0 : Option FieldType} (ok : gO X cc "TripleStore" (wsM y0 b0 nl0 ret0)) (hd : decode cc pc = .ok (.putfield 152, 3)) {o : Nat} {fs : List Value} {v : Value} (he : M[o]? = some (.inr (2, fs))) (hl : 3 < fs.length) (hn : ∀ ad : Nat → Nat, narrow .int (mc_v ad v) = mc_v ad v ∧ fits .int (mc_v ad v) = true) (kk : gg X (M.set o (.inr (2, fs.set 3 v))) k n (pc + 3) L st) : gg X M k n pc L (v :: .ref o :: st) := g_putN (host := "TripleStore") ok (C := RQu) (T := TQu) (N := 12) (f := 3) (ref := "TripleStore$Query") (fun w h => List.mem_cons_of_mem _ (inQu w h)) tyQu okQu nmQu rfl (by decide) fl_TS_152 rfl rfl (by decide +kernel) hd he hl hn kk
theorem fl_Pa_56 : Cond.fieldLinkNest "TripleStore$Parser" 56 "TripleStore$Query" "distinct" "Z" "TripleStore" ∈ yT := yT_at 165 (by decide +kernel) (by decide +kernel)
theorem gf_Pa_56 {X : gC} {cc : ByteArray} {M : List mC} {k n pc : Nat} {L : List (Nat × Value)} {st : List Value} {y0 : MethodName} {b0 : ByteArray} {nl0 : Nat} {ret0 : Option FieldType} (ok : gO X cc "TripleStore$Parser" (wsM y0 b0 nl0 ret0)) (hd : decode cc pc = .ok (.getfield 56, 3)) {o : Nat} {fs : List Value} {v : Value} (he : M[o]? = some (.inr (2, fs))) (hv : fs[4]? = some v) (kk : gg X M k n (pc + 3) L (v :: st)) : gg X M k n pc L (.ref o :: st) := g_getN (host := "TripleStore") ok (C := RQu) (T := TQu) (N := 12) (f := 4) (ref := "TripleStore$Query") (fun w h => List.mem_cons_of_mem _ (inQu w h)) rfl (by decide) fl_Pa_56 rfl hd he hv kk
theorem pf_Pa_56 {X : gC} {cc : ByteArray} {M : List mC} {k n pc : Nat} {L : List (Nat × Value)} {st : List Value} {y0 : MethodName} {b0 : ByteArray} {nl0 : Nat} {ret0 : Option FieldType} (ok : gO X cc "TripleStore$Parser" (wsM y0 b0 nl0 ret0)) (hd : decode cc pc = .ok (.putfield 56, 3)) {o : Nat} {fs : List Value} {v : Value} (he : M[o]? = some (.inr (2, fs))) (hl : 4 < fs.length) (hn : ∀ ad : Nat → Nat, narrow .boolean (mc_v ad v) = mc_v ad v ∧ fits .boolean (mc_v ad v) = true) (kk : gg X (M.set o (.inr (2, fs.set 4 v))) k n (pc + 3) L st) : gg X M k n pc L (v :: .ref o :: st) := g_putN (host := "TripleStore") ok (C := RQu) (T := TQu) (N := 12) (f := 4) (ref := "TripleStore$Query") (fun w h => List.mem_cons_of_mem _ (inQu w h)) tyQu okQu nmQu rfl (by decide) fl_Pa_56 rfl rfl (by decide +kernel) hd he hl hn kk
theorem fl_Ro_56 : Cond.fieldLinkNest "TripleStore$Rows" 56 "TripleStore$Query" "distinct" "Z" "TripleStore" ∈ yT := yT_at 166 (by decide +kernel) (by decide +kernel)
theorem gf_Ro_56 {X : gC} {cc : ByteArray} {M : List mC} {k n pc : Nat} {L : List (Nat × Value)} {st : List Value} {y0 : MethodName} {b0 : ByteArray} {nl0 : Nat} {ret0 : Option FieldType} (ok : gO X cc "TripleStore$Rows" (wsM y0 b0 nl0 ret0)) (hd : decode cc pc = .ok (.getfield 56, 3)) {o : Nat} {fs : List Value} {v : Value} (he : M[o]? = some (.inr (2, fs))) (hv : fs[4]? = some v) (kk : gg X M k n (pc + 3) L (v :: st)) : gg X M k n pc L (.ref o :: st) := g_getN (host := "TripleStore") ok (C := RQu) (T := TQu) (N := 12) (f := 4) (ref := "TripleStore$Query") (fun w h => List.mem_cons_of_mem _ (inQu w h)) rfl (by decide) fl_Ro_56 rfl hd he hv kk
theorem pf_Ro_56 {X : gC} {cc : ByteArray} {M : List mC} {k n pc : Nat} {L : List (Nat × Value)} {st : List Value} {y0 : MethodName} {b0 : ByteArray} {nl0 : Nat} {ret0 : Option FieldType} (ok : gO X cc "TripleStore$Rows" (wsM y0 b0 nl0 ret0)) (hd : decode cc pc = .ok (.putfield 56, 3)) {o : Nat} {fs : List Value} {v : Value} (he : M[o]? = some (.inr (2, fs))) (hl : 4 < fs.length) (hn : ∀ ad : Nat → Nat, narrow .boolean (mc_v ad v) = mc_v ad v ∧ fits .boolean (mc_v ad v) = true) (kk : gg X (M.set o (.inr (2, fs.set 4 v))) k n (pc + 3) L st) : gg X M k n pc L (v :: .ref o :: st) := g_putN (host := "TripleStore") ok (C := RQu) (T := TQu) (N := 12) (f := 4) (ref := "TripleStore$Query") (fun w h => List.mem_cons_of_mem _ (inQu w h)) tyQu okQu nmQu rfl (by decide) fl_Ro_56 rfl rfl (by decide +kernel) hd he hl hn kk
theorem fl_Pa_75 : Cond.fieldLinkNest "TripleStore$Parser" 75 "TripleStore$Query" "orderVariable" "I" "TripleStore" ∈ yT := yT_at 168 (by decide +kernel) (by decide +kernel)
theorem gf_Pa_75 {X : gC} {cc : ByteArray} {M : List mC} {k n pc : Nat} {L : List (Nat × Value)} {st : List Value} {y0 : MethodName} {b0 : ByteArray} {nl0 : Nat} {ret0 : Option FieldType} (ok : gO X cc "TripleStore$Parser" (wsM y0 b0 nl0 ret0)) (hd : decode cc pc = .ok (.getfield 75, 3)) {o : Nat} {fs : List Value} {v : Value} (he : M[o]? = some (.inr (2, fs))) (hv : fs[5]? = some v) (kk : gg X M k n (pc + 3) L (v :: st)) : gg X M k n pc L (.ref o :: st) := g_getN (host := "TripleStore") ok (C := RQu) (T := TQu) (N := 12) (f := 5) (ref := "TripleStore$Query") (fun w h => List.mem_cons_of_mem _ (inQu w h)) rfl (by decide) fl_Pa_75 rfl hd he hv kk
theorem pf_Pa_75 {X : gC} {cc : ByteArray} {M : List mC} {k n pc : Nat} {L : List (Nat × Value)} {st : List Value} {y0 : MethodName} {b0 : ByteArray} {nl0 : Nat} {ret0 : Option FieldType} (ok : gO X cc "TripleStore$Parser" (wsM y0 b0 nl0 ret0)) (hd : decode cc pc = .ok (.putfield 75, 3)) {o : Nat} {fs : List Value} {v : Value} (he : M[o]? = some (.inr (2, fs))) (hl : 5 < fs.length) (hn : ∀ ad : Nat → Nat, narrow .int (mc_v ad v) = mc_v ad v ∧ fits .int (mc_v ad v) = true) (kk : gg X (M.set o (.inr (2, fs.set 5 v))) k n (pc + 3) L st) : gg X M k n pc L (v :: .ref o :: st) := g_putN (host := "TripleStore") ok (C := RQu) (T := TQu) (N := 12) (f := 5) (ref := "TripleStore$Query") (fun w h => List.mem_cons_of_mem _ (inQu w h)) tyQu okQu nmQu rfl (by decide) fl_Pa_75 rfl rfl (by decide +kernel) hd he hl hn kk
theorem fl_Ro_78 : Cond.fieldLinkNest "TripleStore$Rows" 78 "TripleStore$Query" "orderVariable" "I" "TripleStore" ∈ yT := yT_at 169 (by decide +kernel) (by decide +kernel)
theorem gf_Ro_78 {X : gC} {cc : ByteArray} {M : List mC} {k n pc : Nat} {L : List (Nat × Value)} {st : List Value} {y0 : MethodName} {b0 : ByteArray} {nl0 : Nat} {ret0 : Option FieldType} (ok : gO X cc "TripleStore$Rows" (wsM y0 b0 nl0 ret0)) (hd : decode cc pc = .ok (.getfield 78, 3)) {o : Nat} {fs : List Value} {v : Value} (he : M[o]? = some (.inr (2, fs))) (hv : fs[5]? = some v) (kk : gg X M k n (pc + 3) L (v :: st)) : gg X M k n pc L (.ref o :: st) := g_getN (host := "TripleStore") ok (C := RQu) (T := TQu) (N := 12) (f := 5) (ref := "TripleStore$Query") (fun w h => List.mem_cons_of_mem _ (inQu w h)) rfl (by decide) fl_Ro_78 rfl hd he hv kk
theorem pf_Ro_78 {X : gC} {cc : ByteArray} {M : List mC} {k n pc : Nat} {L : List (Nat × Value)} {st : List Value} {y0 : MethodName} {b0 : ByteArray} {nl0 : Nat} {ret0 : Option FieldType} (ok : gO X cc "TripleStore$Rows" (wsM y0 b0 nl0 ret0)) (hd : decode cc pc = .ok (.putfield 78, 3)) {o : Nat} {fs : List Value} {v : Value} (he : M[o]? = some (.inr (2, fs))) (hl : 5 < fs.length) (hn : ∀ ad : Nat → Nat, narrow .int (mc_v ad v) = mc_v ad v ∧ fits .int (mc_v ad v) = true) (kk : gg X (M.set o (.inr (2, fs.set 5 v))) k n (pc + 3) L st) : gg X M k n pc L (v :: .ref o :: st) := g_putN (host := "TripleStore") ok (C := RQu) (T := TQu) (N := 12) (f := 5) (ref := "TripleStore$Query") (fun w h => List.mem_cons_of_mem _ (inQu w h)) tyQu okQu nmQu rfl (by decide) fl_Ro_78 rfl rfl (by decide +kernel) hd he hl hn kk
theorem fl_Pa_80 : Cond.fieldLinkNest "TripleStore$Parser" 80 "TripleStore$Query" "falling" "Z" "TripleStore" ∈ yT := yT_at 171 (by decide +kernel) (by decide +kernel)
theorem gf_Pa_80 {X : gC} {cc : ByteArray} {M : List mC} {k n pc : Nat} {L : List (Nat × Value)} {st : List Value} {y0 : MethodName} {b0 : ByteArray} {nl0 : Nat} {ret0 : Option FieldType} (ok : gO X cc "TripleStore$Parser" (wsM y0 b0 nl0 ret0)) (hd : decode cc pc = .ok (.getfield 80, 3)) {o : Nat} {fs : List Value} {v : Value} (he : M[o]? = some (.inr (2, fs))) (hv : fs[6]? = some v) (kk : gg X M k n (pc + 3) L (v :: st)) : gg X M k n pc L (.ref o :: st) := g_getN (host := "TripleStore") ok (C := RQu) (T := TQu) (N := 12) (f := 6) (ref := "TripleStore$Query") (fun w h => List.mem_cons_of_mem _ (inQu w h)) rfl (by decide) fl_Pa_80 rfl hd he hv kk
theorem pf_Pa_80 {X : gC} {cc : ByteArray} {M : List mC} {k n pc : Nat} {L : List (Nat × Value)} {st : List Value} {y0 : MethodName} {b0 : ByteArray} {nl0 : Nat} {ret0 : Option FieldType} (ok : gO X cc "TripleStore$Parser" (wsM y0 b0 nl0 ret0)) (hd : decode cc pc = .ok (.putfield 80, 3)) {o : Nat} {fs : List Value} {v : Value} (he : M[o]? = some (.inr (2, fs))) (hl : 6 < fs.length) (hn : ∀ ad : Nat → Nat, narrow .boolean (mc_v ad v) = mc_v ad v ∧ fits .boolean (mc_v ad v) = true) (kk : gg X (M.set o (.inr (2, fs.set 6 v))) k n (pc + 3) L st) : gg X M k n pc L (v :: .ref o :: st) := g_putN (host := "TripleStore") ok (C := RQu) (T := TQu) (N := 12) (f := 6) (ref := "TripleStore$Query") (fun w h => List.mem_cons_of_mem _ (inQu w h)) tyQu okQu nmQu rfl (by decide) fl_Pa_80 rfl rfl (by decide +kernel) hd he hl hn kk
theorem fl_Ro_81 : Cond.fieldLinkNest "TripleStore$Rows" 81 "TripleStore$Query" "falling" "Z" "TripleStore" ∈ yT := yT_at 172 (by decide +kernel) (by decide +kernel)
theorem gf_Ro_81 {X : gC} {cc : ByteArray} {M : List mC} {k n pc : Nat} {L : List (Nat × Value)} {st : List Value} {y0 : MethodName} {b0 : ByteArray} {nl0 : Nat} {ret0 : Option FieldType} (ok : gO X cc "TripleStore$Rows" (wsM y0 b0 nl0 ret0)) (hd : decode cc pc = .ok (.getfield 81, 3)) {o : Nat} {fs : List Value} {v : Value} (he : M[o]? = some (.inr (2, fs))) (hv : fs[6]? = some v) (kk : gg X M k n (pc + 3) L (v :: st)) : gg X M k n pc L (.ref o :: st) := g_getN (host := "TripleStore") ok (C := RQu) (T := TQu) (N := 12) (f := 6) (ref := "TripleStore$Query") (fun w h => List.mem_cons_of_mem _ (inQu w h)) rfl (by decide) fl_Ro_81 rfl hd he hv kk
theorem pf_Ro_81 {X : gC} {cc : ByteArray} {M : List mC} {k n pc : Nat} {L : List (Nat × Value)} {st : List Value} {y0 : MethodName} {b0 : ByteArray} {nl0 : Nat} {ret0 : Option FieldType} (ok : gO X cc "TripleStore$Rows" (wsM y0 b0 nl0 ret0)) (hd : decode cc pc = .ok (.putfield 81, 3)) {o : Nat} {fs : List Value} {v : Value} (he : M[o]? = some (.inr (2, fs))) (hl : 6 < fs.length) (hn : ∀ ad : Nat → Nat, narrow .boolean (mc_v ad v) = mc_v ad v ∧ fits .boolean (mc_v ad v) = true) (kk : gg X (M.set o (.inr (2, fs.set 6 v))) k n (pc + 3) L st) : gg X M k n pc L (v :: .ref o :: st) := g_putN (host := "TripleStore") ok (C := RQu) (T := TQu) (N := 12) (f := 6) (ref := "TripleStore$Query") (fun w h => List.mem_cons_of_mem _ (inQu w h)) tyQu okQu nmQu rfl (by decide) fl_Ro_81 rfl rfl (by decide +kernel) hd he hl hn kk
theorem fl_Pa_94 : Cond.fieldLinkNest "TripleStore$Parser" 94 "TripleStore$Query" "limit" "I" "TripleStore" ∈ yT := yT_at 174 (by decide +kernel) (by decide +kernel)
theorem gf_Pa_94 {X : gC} {cc : ByteArray} {M : List mC} {k n pc : Nat} {L : List (Nat × Value)} {st : List Value} {y0 : MethodName} {b0 : ByteArray} {nl0 : Nat} {ret0 : Option FieldType} (ok : gO X cc "TripleStore$Parser" (wsM y0 b0 nl0 ret0)) (hd : decode cc pc = .ok (.getfield 94, 3)) {o : Nat} {fs : List Value} {v : Value} (he : M[o]? = some (.inr (2, fs))) (hv : fs[7]? = some v) (kk : gg X M k n (pc + 3) L (v :: st)) : gg X M k n pc L (.ref o :: st) := g_getN (host := "TripleStore") ok (C := RQu) (T := TQu) (N := 12) (f := 7) (ref := "TripleStore$Query") (fun w h => List.mem_cons_of_mem _ (inQu w h)) rfl (by decide) fl_Pa_94 rfl hd he hv kk
theorem pf_Pa_94 {X : gC} {cc : ByteArray} {M : List mC} {k n pc : Nat} {L : List (Nat × Value)} {st : List Value} {y0 : MethodName} {b0 : ByteArray} {nl0 : Nat} {ret0 : Option FieldType} (ok : gO X cc "TripleStore$Parser" (wsM y0 b0 nl0 ret0)) (hd : decode cc pc = .ok (.putfield 94, 3)) {o : Nat} {fs : List Value} {v : Value} (he : M[o]? = some (.inr (2, fs))) (hl : 7 < fs.length) (hn : ∀ ad : Nat → Nat, narrow .int (mc_v ad v) = mc_v ad v ∧ fits .int (mc_v ad v) = true) (kk : gg X (M.set o (.inr (2, fs.set 7 v))) k n (pc + 3) L st) : gg X M k n pc L (v :: .ref o :: st) := g_putN (host := "TripleStore") ok (C := RQu) (T := TQu) (N := 12) (f := 7) (ref := "TripleStore$Query") (fun w h => List.mem_cons_of_mem _ (inQu w h)) tyQu okQu nmQu rfl (by decide) fl_Pa_94 rfl rfl (by decide +kernel) hd he hl hn kk
theorem fl_Ro_47 : Cond.fieldLinkNest "TripleStore$Rows" 47 "TripleStore$Query" "limit" "I" "TripleStore" ∈ yT := yT_at 175 (by decide +kernel) (by decide +kernel)
theorem gf_Ro_47 {X : gC} {cc : ByteArray} {M : List mC} {k n pc : Nat} {L : List (Nat × Value)} {st : List Value} {y0 : MethodName} {b0 : ByteArray} {nl0 : Nat} {ret0 : Option FieldType} (ok : gO X cc "TripleStore$Rows" (wsM y0 b0 nl0 ret0)) (hd : decode cc pc = .ok (.getfield 47, 3)) {o : Nat} {fs : List Value} {v : Value} (he : M[o]? = some (.inr (2, fs))) (hv : fs[7]? = some v) (kk : gg X M k n (pc + 3) L (v :: st)) : gg X M k n pc L (.ref o :: st) := g_getN (host := "TripleStore") ok (C := RQu) (T := TQu) (N := 12) (f := 7) (ref := "TripleStore$Query") (fun w h => List.mem_cons_of_mem _ (inQu w h)) rfl (by decide) fl_Ro_47 rfl hd he hv kk
theorem pf_Ro_47 {X : gC} {cc : ByteArray} {M : List mC} {k n pc : Nat} {L : List (Nat × Value)} {st : List Value} {y0 : MethodName} {b0 : ByteArray} {nl0 : Nat} {ret0 : Option FieldType} (ok : gO X cc "TripleStore$Rows" (wsM y0 b0 nl0 ret0)) (hd : decode cc pc = .ok (.putfield 47, 3)) {o : Nat} {fs : List Value} {v : Value} (he : M[o]? = some (.inr (2, fs))) (hl : 7 < fs.length) (hn : ∀ ad : Nat → Nat, narrow .int (mc_v ad v) = mc_v ad v ∧ fits .int (mc_v ad v) = true) (kk : gg X (M.set o (.inr (2, fs.set 7 v))) k n (pc + 3) L st) : gg X M k n pc L (v :: .ref o :: st) := g_putN (host := "TripleStore") ok (C := RQu) (T := TQu) (N := 12) (f := 7) (ref := "TripleStore$Query") (fun w h => List.mem_cons_of_mem _ (inQu w h)) tyQu okQu nmQu rfl (by decide) fl_Ro_47 rfl rfl (by decide +kernel) hd he hl hn kk
theorem fl_Sv_54 : Cond.fieldLinkNest "TripleStore$Solver" 54 "TripleStore$Query" "elements" "[LTripleStore$Element;" "TripleStore" ∈ yT := yT_at 177 (by decide +kernel) (by decide +kernel)
theorem gf_Sv_54 {X : gC} {cc : ByteArray} {M : List mC} {k n pc : Nat} {L : List (Nat × Value)} {st : List Value} {y0 : MethodName} {b0 : ByteArray} {nl0 : Nat} {ret0 : Option FieldType} (ok : gO X cc "TripleStore$Solver" (wsM y0 b0 nl0 ret0)) (hd : decode cc pc = .ok (.getfield 54, 3)) {o : Nat} {fs : List Value} {v : Value} (he : M[o]? = some (.inr (2, fs))) (hv : fs[8]? = some v) (kk : gg X M k n (pc + 3) L (v :: st)) : gg X M k n pc L (.ref o :: st) := g_getN (host := "TripleStore") ok (C := RQu) (T := TQu) (N := 12) (f := 8) (ref := "TripleStore$Query") (fun w h => List.mem_cons_of_mem _ (inQu w h)) rfl (by decide) fl_Sv_54 rfl hd he hv kk
theorem fl_Pa_117 : Cond.fieldLinkNest "TripleStore$Parser" 117 "TripleStore$Query" "elements" "[LTripleStore$Element;" "TripleStore" ∈ yT := yT_at 178 (by decide +kernel) (by decide +kernel)
theorem gf_Pa_117 {X : gC} {cc : ByteArray} {M : List mC} {k n pc : Nat} {L : List (Nat × Value)} {st : List Value} {y0 : MethodName} {b0 : ByteArray} {nl0 : Nat} {ret0 : Option FieldType} (ok : gO X cc "TripleStore$Parser" (wsM y0 b0 nl0 ret0)) (hd : decode cc pc = .ok (.getfield 117, 3)) {o : Nat} {fs : List Value} {v : Value} (he : M[o]? = some (.inr (2, fs))) (hv : fs[8]? = some v) (kk : gg X M k n (pc + 3) L (v :: st)) : gg X M k n pc L (.ref o :: st) := g_getN (host := "TripleStore") ok (C := RQu) (T := TQu) (N := 12) (f := 8) (ref := "TripleStore$Query") (fun w h => List.mem_cons_of_mem _ (inQu w h)) rfl (by decide) fl_Pa_117 rfl hd he hv kk
theorem fl_Sv_48 : Cond.fieldLinkNest "TripleStore$Solver" 48 "TripleStore$Query" "elementCount" "I" "TripleStore" ∈ yT := yT_at 180 (by decide +kernel) (by decide +kernel)
theorem gf_Sv_48 {X : gC} {cc : ByteArray} {M : List mC} {k n pc : Nat} {L : List (Nat × Value)} {st : List Value} {y0 : MethodName} {b0 : ByteArray} {nl0 : Nat} {ret0 : Option FieldType} (ok : gO X cc "TripleStore$Solver" (wsM y0 b0 nl0 ret0)) (hd : decode cc pc = .ok (.getfield 48, 3)) {o : Nat} {fs : List Value} {v : Value} (he : M[o]? = some (.inr (2, fs))) (hv : fs[9]? = some v) (kk : gg X M k n (pc + 3) L (v :: st)) : gg X M k n pc L (.ref o :: st) := g_getN (host := "TripleStore") ok (C := RQu) (T := TQu) (N := 12) (f := 9) (ref := "TripleStore$Query") (fun w h => List.mem_cons_of_mem _ (inQu w h)) rfl (by decide) fl_Sv_48 rfl hd he hv kk
theorem pf_Sv_48 {X : gC} {cc : ByteArray} {M : List mC} {k n pc : Nat} {L : List (Nat × Value)} {st : List Value} {y0 : MethodName} {b0 : ByteArray} {nl0 : Nat} {ret0 : Option FieldType} (ok : gO X cc "TripleStore$Solver" (wsM y0 b0 nl0 ret0)) (hd : decode cc pc = .ok (.putfield 48, 3)) {o : Nat} {fs : List Value} {v : Value} (he : M[o]? = some (.inr (2, fs))) (hl : 9 < fs.length) (hn : ∀ ad : Nat → Nat, narrow .int (mc_v ad v) = mc_v ad v ∧ fits .int (mc_v ad v) = true) (kk : gg X (M.set o (.inr (2, fs.set 9 v))) k n (pc + 3) L st) : gg X M k n pc L (v :: .ref o :: st) := g_putN (host := "TripleStore") ok (C := RQu) (T := TQu) (N := 12) (f := 9) (ref := "TripleStore$Query") (fun w h => List.mem_cons_of_mem _ (inQu w h)) tyQu okQu nmQu rfl (by decide) fl_Sv_48 rfl rfl (by decide +kernel) hd he hl hn kk
theorem fl_Sv_130 : Cond.fieldLinkNest "TripleStore$Solver" 130 "TripleStore$Query" "elementOfGroup" "[I" "TripleStore" ∈ yT := yT_at 182 (by decide +kernel) (by decide +kernel)
theorem gf_Sv_130 {X : gC} {cc : ByteArray} {M : List mC} {k n pc : Nat} {L : List (Nat × Value)} {st : List Value} {y0 : MethodName} {b0 : ByteArray} {nl0 : Nat} {ret0 : Option FieldType} (ok : gO X cc "TripleStore$Solver" (wsM y0 b0 nl0 ret0)) (hd : decode cc pc = .ok (.getfield 130, 3)) {o : Nat} {fs : List Value} {v : Value} (he : M[o]? = some (.inr (2, fs))) (hv : fs[10]? = some v) (kk : gg X M k n (pc + 3) L (v :: st)) : gg X M k n pc L (.ref o :: st) := g_getN (host := "TripleStore") ok (C := RQu) (T := TQu) (N := 12) (f := 10) (ref := "TripleStore$Query") (fun w h => List.mem_cons_of_mem _ (inQu w h)) rfl (by decide) fl_Sv_130 rfl hd he hv kk
theorem fl_Sv_127 : Cond.fieldLinkNest "TripleStore$Solver" 127 "TripleStore$Query" "groups" "I" "TripleStore" ∈ yT := yT_at 184 (by decide +kernel) (by decide +kernel)
theorem gf_Sv_127 {X : gC} {cc : ByteArray} {M : List mC} {k n pc : Nat} {L : List (Nat × Value)} {st : List Value} {y0 : MethodName} {b0 : ByteArray} {nl0 : Nat} {ret0 : Option FieldType} (ok : gO X cc "TripleStore$Solver" (wsM y0 b0 nl0 ret0)) (hd : decode cc pc = .ok (.getfield 127, 3)) {o : Nat} {fs : List Value} {v : Value} (he : M[o]? = some (.inr (2, fs))) (hv : fs[11]? = some v) (kk : gg X M k n (pc + 3) L (v :: st)) : gg X M k n pc L (.ref o :: st) := g_getN (host := "TripleStore") ok (C := RQu) (T := TQu) (N := 12) (f := 11) (ref := "TripleStore$Query") (fun w h => List.mem_cons_of_mem _ (inQu w h)) rfl (by decide) fl_Sv_127 rfl hd he hv kk
theorem pf_Sv_127 {X : gC} {cc : ByteArray} {M : List mC} {k n pc : Nat} {L : List (Nat × Value)} {st : List Value} {y0 : MethodName} {b0 : ByteArray} {nl0 : Nat} {ret0 : Option FieldType} (ok : gO X cc "TripleStore$Solver" (wsM y0 b0 nl0 ret0)) (hd : decode cc pc = .ok (.putfield 127, 3)) {o : Nat} {fs : List Value} {v : Value} (he : M[o]? = some (.inr (2, fs))) (hl : 11 < fs.length) (hn : ∀ ad : Nat → Nat, narrow .int (mc_v ad v) = mc_v ad v ∧ fits .int (mc_v ad v) = true) (kk : gg X (M.set o (.inr (2, fs.set 11 v))) k n (pc + 3) L st) : gg X M k n pc L (v :: .ref o :: st) := g_putN (host := "TripleStore") ok (C := RQu) (T := TQu) (N := 12) (f := 11) (ref := "TripleStore$Query") (fun w h => List.mem_cons_of_mem _ (inQu w h)) tyQu okQu nmQu rfl (by decide) fl_Sv_127 rfl rfl (by decide +kernel) hd he hl hn kk
end
section
theorem ml_La_52 : Cond.methodLink "TripleStoreLaw" 52 y_TS_init ∈ gT := gT_at 25 (by decide +kernel) (by decide +kernel)
theorem wi_TS : Cond.initialized "TripleStore" ∈ gT := gT_at 1 (by decide +kernel) (by decide +kernel)
theorem wn_TS_init : Cond.instanceMethod y_TS_init ∈ gT := gT_at 26 (by decide +kernel) (by decide +kernel)
theorem gc_La_52 {X : gC} {cc : ByteArray} {M : List mC} {k n pc : Nat} {L : List (Nat × Value)} {st rest : List Value} {y0 : MethodName} {b0 : ByteArray} {nl0 : Nat} {ret0 : Option FieldType} {rm : Room} {As : List Value} {post : Option Value → List mC → Prop} {o : Nat} (ok : gO X cc "TripleStoreLaw" (wsM y0 b0 nl0 ret0)) (hd : decode cc pc = .ok (.invokespecial 52, 3)) (hM : mm_ (gLa X) y_TS_init w_TS_init rm (.ref o :: As) M post) (hst : As.reverse ++ .ref o :: rest = st) (hn : As.length = 0) (hrest : (rest.map fun v => v.category).sum ≤ 8) (hR : gF X rm 1 k n) (hL : ∀ q ∈ L, mk_v M.length q.2) (hrs : ∀ v ∈ rest, mk_v M.length v) (kk : ∀ r M', post r M' → gg X M' (k + rm.cells) (n + rm.slots) (pc + 3) L (r.toList ++ rest)) : gg X M k n pc L st := g_callI ok hM i_TS_init ml_La_52 wn_TS_init wi_TS rfl ⟨by decide, by decide, by rw [hn]; decide +kernel⟩ hd hst hrest hR hL hrs kk
theorem ml_St_11 : Cond.methodLink "TripleStore$Store" 11 y_Tr_init ∈ gT := gT_at 39 (by decide +kernel) (by decide +kernel)
theorem wi_Tr : Cond.initialized "TripleStore$Triples" ∈ gT := gT_at 3 (by decide +kernel) (by decide +kernel)
theorem wn_Tr_init : Cond.instanceMethod y_Tr_init ∈ gT := gT_at 40 (by decide +kernel) (by decide +kernel)
theorem gc_St_11 {X : gC} {cc : ByteArray} {M : List mC} {k n pc : Nat} {L : List (Nat × Value)} {st rest : List Value} {y0 : MethodName} {b0 : ByteArray} {nl0 : Nat} {ret0 : Option FieldType} {rm : Room} {As : List Value} {post : Option Value → List mC → Prop} {o : Nat} (ok : gO X cc "TripleStore$Store" (wsM y0 b0 nl0 ret0)) (hd : decode cc pc = .ok (.invokespecial 11, 3)) (hM : mm_ (gLa X) y_Tr_init w_Tr_init rm (.ref o :: As) M post) (hst : As.reverse ++ .ref o :: rest = st) (hn : As.length = 1) (hrest : (rest.map fun v => v.category).sum ≤ 8) (hR : gF X rm 2 k n) (hL : ∀ q ∈ L, mk_v M.length q.2) (hrs : ∀ v ∈ rest, mk_v M.length v) (kk : ∀ r M', post r M' → gg X M' (k + rm.cells) (n + rm.slots) (pc + 3) L (r.toList ++ rest)) : gg X M k n pc L st := g_callI ok hM i_Tr_init ml_St_11 wn_Tr_init wi_Tr rfl ⟨by decide, by decide, by rw [hn]; decide +kernel⟩ hd hst hrest hR hL hrs kk
theorem ml_TS_29 : Cond.methodLink "TripleStore" 29 y_Qu_init ∈ gT := gT_at 109 (by decide +kernel) (by decide +kernel)
theorem wi_Qu : Cond.initialized "TripleStore$Query" ∈ gT := gT_at 5 (by decide +kernel) (by decide +kernel)
theorem wn_Qu_init : Cond.instanceMethod y_Qu_init ∈ gT := gT_at 110 (by decide +kernel) (by decide +kernel)
theorem gc_TS_29 {X : gC} {cc : ByteArray} {M : List mC} {k n pc : Nat} {L : List (Nat × Value)} {st rest : List Value} {y0 : MethodName} {b0 : ByteArray} {nl0 : Nat} {ret0 : Option FieldType} {rm : Room} {As : List Value} {post : Option Value → List mC → Prop} {o : Nat} (ok : gO X cc "TripleStore" (wsM y0 b0 nl0 ret0)) (hd : decode cc pc = .ok (.invokespecial 29, 3)) (hM : mm_ (gLa X) y_Qu_init w_Qu_init rm (.ref o :: As) M post) (hst : As.reverse ++ .ref o :: rest = st) (hn : As.length = 0) (hrest : (rest.map fun v => v.category).sum ≤ 8) (hR : gF X rm 2 k n) (hL : ∀ q ∈ L, mk_v M.length q.2) (hrs : ∀ v ∈ rest, mk_v M.length v) (kk : ∀ r M', post r M' → gg X M' (k + rm.cells) (n + rm.slots) (pc + 3) L (r.toList ++ rest)) : gg X M k n pc L st := g_callI ok hM i_Qu_init ml_TS_29 wn_Qu_init wi_Qu rfl ⟨by decide, by decide, by rw [hn]; decide +kernel⟩ hd hst hrest hR hL hrs kk
theorem ml_TS_36 : Cond.methodLink "TripleStore" 36 y_Pa_init ∈ gT := gT_at 212 (by decide +kernel) (by decide +kernel)
theorem wi_Pa : Cond.initialized "TripleStore$Parser" ∈ gT := gT_at 7 (by decide +kernel) (by decide +kernel)
theorem wn_Pa_init : Cond.instanceMethod y_Pa_init ∈ gT := gT_at 213 (by decide +kernel) (by decide +kernel)
theorem gc_TS_36 {X : gC} {cc : ByteArray} {M : List mC} {k n pc : Nat} {L : List (Nat × Value)} {st rest : List Value} {y0 : MethodName} {b0 : ByteArray} {nl0 : Nat} {ret0 : Option FieldType} {rm : Room} {As : List Value} {post : Option Value → List mC → Prop} {o : Nat} (ok : gO X cc "TripleStore" (wsM y0 b0 nl0 ret0)) (hd : decode cc pc = .ok (.invokespecial 36, 3)) (hM : mm_ (gLa X) y_Pa_init w_Pa_init rm (.ref o :: As) M post) (hst : As.reverse ++ .ref o :: rest = st) (hn : As.length = 2) (hrest : (rest.map fun v => v.category).sum ≤ 8) (hR : gF X rm 3 k n) (hL : ∀ q ∈ L, mk_v M.length q.2) (hrs : ∀ v ∈ rest, mk_v M.length v) (kk : ∀ r M', post r M' → gg X M' (k + rm.cells) (n + rm.slots) (pc + 3) L (r.toList ++ rest)) : gg X M k n pc L st := g_callI ok hM i_Pa_init ml_TS_36 wn_Pa_init wi_Pa rfl ⟨by decide, by decide, by rw [hn]; decide +kernel⟩ hd hst hrest hR hL hrs kk
theorem ml_TS_45 : Cond.methodLink "TripleStore" 45 y_Sv_init ∈ gT := gT_at 228 (by decide +kernel) (by decide +kernel)
theorem wi_Sv : Cond.initialized "TripleStore$Solver" ∈ gT := gT_at 8 (by decide +kernel) (by decide +kernel)
theorem wn_Sv_init : Cond.instanceMethod y_Sv_init ∈ gT := gT_at 229 (by decide +kernel) (by decide +kernel)
theorem gc_TS_45 {X : gC} {cc : ByteArray} {M : List mC} {k n pc : Nat} {L : List (Nat × Value)} {st rest : List Value} {y0 : MethodName} {b0 : ByteArray} {nl0 : Nat} {ret0 : Option FieldType} {rm : Room} {As : List Value} {post : Option Value → List mC → Prop} {o : Nat} (ok : gO X cc "TripleStore" (wsM y0 b0 nl0 ret0)) (hd : decode cc pc = .ok (.invokespecial 45, 3)) (hM : mm_ (gLa X) y_Sv_init w_Sv_init rm (.ref o :: As) M post) (hst : As.reverse ++ .ref o :: rest = st) (hn : As.length = 2) (hrest : (rest.map fun v => v.category).sum ≤ 8) (hR : gF X rm 4 k n) (hL : ∀ q ∈ L, mk_v M.length q.2) (hrs : ∀ v ∈ rest, mk_v M.length v) (kk : ∀ r M', post r M' → gg X M' (k + rm.cells) (n + rm.slots) (pc + 3) L (r.toList ++ rest)) : gg X M k n pc L st := g_callI ok hM i_Sv_init ml_TS_45 wn_Sv_init wi_Sv rfl ⟨by decide, by decide, by rw [hn]; decide +kernel⟩ hd hst hrest hR hL hrs kk
theorem ml_La_80 : Cond.methodLink "TripleStoreLaw" 80 y_TS_sync ∈ gT := gT_at 309 (by decide +kernel) (by decide +kernel)
theorem wn_TS_sync : Cond.instanceMethod y_TS_sync ∈ gT := gT_at 310 (by decide +kernel) (by decide +kernel)
theorem ws_TS_sync : Cond.selects "TripleStore" y_TS_sync y_TS_sync ∈ gT := gT_at 311 (by decide +kernel) (by decide +kernel)
theorem gc_La_80 {X : gC} {cc : ByteArray} {M : List mC} {k n pc : Nat} {L : List (Nat × Value)} {st rest : List Value} {y0 : MethodName} {b0 : ByteArray} {nl0 : Nat} {ret0 : Option FieldType} {rm : Room} {As : List Value} {post : Option Value → List mC → Prop} {o : Nat} {fs : List Value} (ok : gO X cc "TripleStoreLaw" (wsM y0 b0 nl0 ret0)) (hd : decode cc pc = .ok (.invokevirtual 80, 3)) (hM : mm_ (gLa X) y_TS_sync w_TS_sync rm (.ref o :: As) M post) (hst : As.reverse ++ .ref o :: rest = st) (hn : As.length = 0) (hrest : (rest.map fun v => v.category).sum ≤ 8) (hR : gF X rm 1 k n) (he : M[o]? = some (.inr (9, fs))) (hlen : ∀ r M', post r M' → M'.length = M.length) (kk : ∀ r M', post r M' → gg X M' (k + rm.cells) (n + rm.slots) (pc + 3) L (r.toList ++ rest)) : gg X M k n pc L st := g_callV ok (C := RTS) (T := TTS) (N := 9) hM i_TS_sync ml_La_80 wn_TS_sync ws_TS_sync wi_TS ⟨rfl, by decide, by decide, by rw [hn]; decide +kernel⟩ rfl hd hst hrest hR he hlen kk
theorem ml_TS_119 : Cond.methodLink "TripleStore" 119 y_St_syncAll ∈ gT := gT_at 313 (by decide +kernel) (by decide +kernel)
theorem wi_St : Cond.initialized "TripleStore$Store" ∈ gT := gT_at 2 (by decide +kernel) (by decide +kernel)
theorem wn_St_syncAll : Cond.instanceMethod y_St_syncAll ∈ gT := gT_at 314 (by decide +kernel) (by decide +kernel)
theorem ws_St_syncAll : Cond.selects "TripleStore$Store" y_St_syncAll y_St_syncAll ∈ gT := gT_at 315 (by decide +kernel) (by decide +kernel)
theorem gc_TS_119 {X : gC} {cc : ByteArray} {M : List mC} {k n pc : Nat} {L : List (Nat × Value)} {st rest : List Value} {y0 : MethodName} {b0 : ByteArray} {nl0 : Nat} {ret0 : Option FieldType} {rm : Room} {As : List Value} {post : Option Value → List mC → Prop} {o : Nat} {fs : List Value} (ok : gO X cc "TripleStore" (wsM y0 b0 nl0 ret0)) (hd : decode cc pc = .ok (.invokevirtual 119, 3)) (hM : mm_ (gLa X) y_St_syncAll w_St_syncAll rm (.ref o :: As) M post) (hst : As.reverse ++ .ref o :: rest = st) (hn : As.length = 0) (hrest : (rest.map fun v => v.category).sum ≤ 8) (hR : gF X rm 2 k n) (he : M[o]? = some (.inr (6, fs))) (hlen : ∀ r M', post r M' → M'.length = M.length) (kk : ∀ r M', post r M' → gg X M' (k + rm.cells) (n + rm.slots) (pc + 3) L (r.toList ++ rest)) : gg X M k n pc L st := g_callV ok (C := RSt) (T := TSt) (N := 8) hM i_St_syncAll ml_TS_119 wn_St_syncAll ws_St_syncAll wi_St ⟨rfl, by decide, by decide, by rw [hn]; decide +kernel⟩ rfl hd hst hrest hR he hlen kk
theorem ml_La_95 : Cond.methodLink "TripleStoreLaw" 95 y_TS_fault ∈ gT := gT_at 317 (by decide +kernel) (by decide +kernel)
theorem wn_TS_fault : Cond.instanceMethod y_TS_fault ∈ gT := gT_at 318 (by decide +kernel) (by decide +kernel)
theorem ws_TS_fault : Cond.selects "TripleStore" y_TS_fault y_TS_fault ∈ gT := gT_at 319 (by decide +kernel) (by decide +kernel)
theorem gc_La_95 {X : gC} {cc : ByteArray} {M : List mC} {k n pc : Nat} {L : List (Nat × Value)} {st rest : List Value} {y0 : MethodName} {b0 : ByteArray} {nl0 : Nat} {ret0 : Option FieldType} {rm : Room} {As : List Value} {post : Option Value → List mC → Prop} {o : Nat} {fs : List Value} (ok : gO X cc "TripleStoreLaw" (wsM y0 b0 nl0 ret0)) (hd : decode cc pc = .ok (.invokevirtual 95, 3)) (hM : mm_ (gLa X) y_TS_fault w_TS_fault rm (.ref o :: As) M post) (hst : As.reverse ++ .ref o :: rest = st) (hn : As.length = 0) (hrest : (rest.map fun v => v.category).sum ≤ 8) (hR : gF X rm 1 k n) (he : M[o]? = some (.inr (9, fs))) (hlen : ∀ r M', post r M' → M'.length = M.length) (kk : ∀ r M', post r M' → gg X M' (k + rm.cells) (n + rm.slots) (pc + 3) L (r.toList ++ rest)) : gg X M k n pc L st := g_callV ok (C := RTS) (T := TTS) (N := 9) hM i_TS_fault ml_La_95 wn_TS_fault ws_TS_fault wi_TS ⟨rfl, by decide, by decide, by rw [hn]; decide +kernel⟩ rfl hd hst hrest hR he hlen kk
theorem ml_La_7 : Cond.methodLink "TripleStoreLaw" 7 y_TS_add ∈ gT := gT_at 326 (by decide +kernel) (by decide +kernel)
theorem wn_TS_add : Cond.instanceMethod y_TS_add ∈ gT := gT_at 327 (by decide +kernel) (by decide +kernel)
theorem ws_TS_add : Cond.selects "TripleStore" y_TS_add y_TS_add ∈ gT := gT_at 328 (by decide +kernel) (by decide +kernel)
theorem gc_La_7 {X : gC} {cc : ByteArray} {M : List mC} {k n pc : Nat} {L : List (Nat × Value)} {st rest : List Value} {y0 : MethodName} {b0 : ByteArray} {nl0 : Nat} {ret0 : Option FieldType} {rm : Room} {As : List Value} {post : Option Value → List mC → Prop} {o : Nat} {fs : List Value} (ok : gO X cc "TripleStoreLaw" (wsM y0 b0 nl0 ret0)) (hd : decode cc pc = .ok (.invokevirtual 7, 3)) (hM : mm_ (gLa X) y_TS_add w_TS_add rm (.ref o :: As) M post) (hst : As.reverse ++ .ref o :: rest = st) (hn : As.length = 3) (hrest : (rest.map fun v => v.category).sum ≤ 8) (hR : gF X rm 13 k n) (he : M[o]? = some (.inr (9, fs))) (hlen : ∀ r M', post r M' → M'.length = M.length) (kk : ∀ r M', post r M' → gg X M' (k + rm.cells) (n + rm.slots) (pc + 3) L (r.toList ++ rest)) : gg X M k n pc L st := g_callV ok (C := RTS) (T := TTS) (N := 9) hM i_TS_add ml_La_7 wn_TS_add ws_TS_add wi_TS ⟨rfl, by decide, by decide, by rw [hn]; decide +kernel⟩ rfl hd hst hrest hR he hlen kk
theorem ml_TS_66 : Cond.methodLink "TripleStore" 66 y_Te_isTriple ∈ gT := gT_at 330 (by decide +kernel) (by decide +kernel)
theorem wi_Te : Cond.initialized "TripleStore$Terms" ∈ gT := gT_at 12 (by decide +kernel) (by decide +kernel)
theorem wt_Te_isTriple : Cond.static y_Te_isTriple ∈ gT := gT_at 331 (by decide +kernel) (by decide +kernel)
theorem gc_TS_66 {X : gC} {cc : ByteArray} {M : List mC} {k n pc : Nat} {L : List (Nat × Value)} {st rest : List Value} {y0 : MethodName} {b0 : ByteArray} {nl0 : Nat} {ret0 : Option FieldType} {rm : Room} {As : List Value} {post : Option Value → List mC → Prop} (ok : gO X cc "TripleStore" (wsM y0 b0 nl0 ret0)) (hd : decode cc pc = .ok (.invokestatic 66, 3)) (hM : mm_ (gLa X) y_Te_isTriple w_Te_isTriple rm As M post) (hst : As.reverse ++ rest = st) (hn : As.length = 3) (hrest : (rest.map fun v => v.category).sum ≤ 8) (hR : gF X rm 6 k n) (hlen : ∀ r M', post r M' → M'.length = M.length) (kk : ∀ r M', post r M' → gg X M' (k + rm.cells) (n + rm.slots) (pc + 3) L (r.toList ++ rest)) : gg X M k n pc L st := g_callS ok hM i_Te_isTriple ml_TS_66 wt_Te_isTriple wi_Te ⟨by decide, by decide, by rw [hn]; decide +kernel⟩ hd hst hrest hR hlen kk
theorem ml_Te_9 : Cond.methodLink "TripleStore$Terms" 9 y_Te_isWord ∈ gT := gT_at 333 (by decide +kernel) (by decide +kernel)
theorem wt_Te_isWord : Cond.static y_Te_isWord ∈ gT := gT_at 334 (by decide +kernel) (by decide +kernel)
theorem gc_Te_9 {X : gC} {cc : ByteArray} {M : List mC} {k n pc : Nat} {L : List (Nat × Value)} {st rest : List Value} {y0 : MethodName} {b0 : ByteArray} {nl0 : Nat} {ret0 : Option FieldType} {rm : Room} {As : List Value} {post : Option Value → List mC → Prop} (ok : gO X cc "TripleStore$Terms" (wsM y0 b0 nl0 ret0)) (hd : decode cc pc = .ok (.invokestatic 9, 3)) (hM : mm_ (gLa X) y_Te_isWord w_Te_isWord rm As M post) (hst : As.reverse ++ rest = st) (hn : As.length = 1) (hrest : (rest.map fun v => v.category).sum ≤ 8) (hR : gF X rm 5 k n) (hlen : ∀ r M', post r M' → M'.length = M.length) (kk : ∀ r M', post r M' → gg X M' (k + rm.cells) (n + rm.slots) (pc + 3) L (r.toList ++ rest)) : gg X M k n pc L st := g_callS ok hM i_Te_isWord ml_Te_9 wt_Te_isWord wi_Te ⟨by decide, by decide, by rw [hn]; decide +kernel⟩ hd hst hrest hR hlen kk
theorem ml_Te_20 : Cond.methodLink "TripleStore$Terms" 20 y_Te_isLetter ∈ gT := gT_at 337 (by decide +kernel) (by decide +kernel)
theorem wt_Te_isLetter : Cond.static y_Te_isLetter ∈ gT := gT_at 338 (by decide +kernel) (by decide +kernel)
theorem gc_Te_20 {X : gC} {cc : ByteArray} {M : List mC} {k n pc : Nat} {L : List (Nat × Value)} {st rest : List Value} {y0 : MethodName} {b0 : ByteArray} {nl0 : Nat} {ret0 : Option FieldType} {rm : Room} {As : List Value} {post : Option Value → List mC → Prop} (ok : gO X cc "TripleStore$Terms" (wsM y0 b0 nl0 ret0)) (hd : decode cc pc = .ok (.invokestatic 20, 3)) (hM : mm_ (gLa X) y_Te_isLetter w_Te_isLetter rm As M post) (hst : As.reverse ++ rest = st) (hn : As.length = 1) (hrest : (rest.map fun v => v.category).sum ≤ 8) (hR : gF X rm 1 k n) (hlen : ∀ r M', post r M' → M'.length = M.length) (kk : ∀ r M', post r M' → gg X M' (k + rm.cells) (n + rm.slots) (pc + 3) L (r.toList ++ rest)) : gg X M k n pc L st := g_callS ok hM i_Te_isLetter ml_Te_20 wt_Te_isLetter wi_Te ⟨by decide, by decide, by rw [hn]; decide +kernel⟩ hd hst hrest hR hlen kk
theorem ml_Te_15 : Cond.methodLink "TripleStore$Terms" 15 y_Te_isNumber ∈ gT := gT_at 340 (by decide +kernel) (by decide +kernel)
theorem wt_Te_isNumber : Cond.static y_Te_isNumber ∈ gT := gT_at 341 (by decide +kernel) (by decide +kernel)
theorem gc_Te_15 {X : gC} {cc : ByteArray} {M : List mC} {k n pc : Nat} {L : List (Nat × Value)} {st rest : List Value} {y0 : MethodName} {b0 : ByteArray} {nl0 : Nat} {ret0 : Option FieldType} {rm : Room} {As : List Value} {post : Option Value → List mC → Prop} (ok : gO X cc "TripleStore$Terms" (wsM y0 b0 nl0 ret0)) (hd : decode cc pc = .ok (.invokestatic 15, 3)) (hM : mm_ (gLa X) y_Te_isNumber w_Te_isNumber rm As M post) (hst : As.reverse ++ rest = st) (hn : As.length = 1) (hrest : (rest.map fun v => v.category).sum ≤ 8) (hR : gF X rm 2 k n) (hlen : ∀ r M', post r M' → M'.length = M.length) (kk : ∀ r M', post r M' → gg X M' (k + rm.cells) (n + rm.slots) (pc + 3) L (r.toList ++ rest)) : gg X M k n pc L st := g_callS ok hM i_Te_isNumber ml_Te_15 wt_Te_isNumber wi_Te ⟨by decide, by decide, by rw [hn]; decide +kernel⟩ hd hst hrest hR hlen kk
theorem ml_TS_79 : Cond.methodLink "TripleStore" 79 y_Te_held ∈ gT := gT_at 413 (by decide +kernel) (by decide +kernel)
theorem wt_Te_held : Cond.static y_Te_held ∈ gT := gT_at 414 (by decide +kernel) (by decide +kernel)
theorem gc_TS_79 {X : gC} {cc : ByteArray} {M : List mC} {k n pc : Nat} {L : List (Nat × Value)} {st rest : List Value} {y0 : MethodName} {b0 : ByteArray} {nl0 : Nat} {ret0 : Option FieldType} {rm : Room} {As : List Value} {post : Option Value → List mC → Prop} (ok : gO X cc "TripleStore" (wsM y0 b0 nl0 ret0)) (hd : decode cc pc = .ok (.invokestatic 79, 3)) (hM : mm_ (gLa X) y_Te_held w_Te_held rm As M post) (hst : As.reverse ++ rest = st) (hn : As.length = 1) (hrest : (rest.map fun v => v.category).sum ≤ 8) (hR : gF X rm 5 k n) (hlen : ∀ r M', post r M' → M'.length = M.length) (kk : ∀ r M', post r M' → gg X M' (k + rm.cells) (n + rm.slots) (pc + 3) L (r.toList ++ rest)) : gg X M k n pc L st := g_callS ok hM i_Te_held ml_TS_79 wt_Te_held wi_Te ⟨by decide, by decide, by rw [hn]; decide +kernel⟩ hd hst hrest hR hlen kk
theorem ml_TS_83 : Cond.methodLink "TripleStore" 83 y_St_has ∈ gT := gT_at 416 (by decide +kernel) (by decide +kernel)
theorem wn_St_has : Cond.instanceMethod y_St_has ∈ gT := gT_at 417 (by decide +kernel) (by decide +kernel)
theorem ws_St_has : Cond.selects "TripleStore$Store" y_St_has y_St_has ∈ gT := gT_at 418 (by decide +kernel) (by decide +kernel)
theorem gc_TS_83 {X : gC} {cc : ByteArray} {M : List mC} {k n pc : Nat} {L : List (Nat × Value)} {st rest : List Value} {y0 : MethodName} {b0 : ByteArray} {nl0 : Nat} {ret0 : Option FieldType} {rm : Room} {As : List Value} {post : Option Value → List mC → Prop} {o : Nat} {fs : List Value} (ok : gO X cc "TripleStore" (wsM y0 b0 nl0 ret0)) (hd : decode cc pc = .ok (.invokevirtual 83, 3)) (hM : mm_ (gLa X) y_St_has w_St_has rm (.ref o :: As) M post) (hst : As.reverse ++ .ref o :: rest = st) (hn : As.length = 3) (hrest : (rest.map fun v => v.category).sum ≤ 8) (hR : gF X rm 7 k n) (he : M[o]? = some (.inr (6, fs))) (hlen : ∀ r M', post r M' → M'.length = M.length) (kk : ∀ r M', post r M' → gg X M' (k + rm.cells) (n + rm.slots) (pc + 3) L (r.toList ++ rest)) : gg X M k n pc L st := g_callV ok (C := RSt) (T := TSt) (N := 8) hM i_St_has ml_TS_83 wn_St_has ws_St_has wi_St ⟨rfl, by decide, by decide, by rw [hn]; decide +kernel⟩ rfl hd hst hrest hR he hlen kk
theorem ml_St_49 : Cond.methodLink "TripleStore$Store" 49 y_Tr_find ∈ gT := gT_at 420 (by decide +kernel) (by decide +kernel)
theorem wn_Tr_find : Cond.instanceMethod y_Tr_find ∈ gT := gT_at 421 (by decide +kernel) (by decide +kernel)
theorem ws_Tr_find : Cond.selects "TripleStore$Triples" y_Tr_find y_Tr_find ∈ gT := gT_at 422 (by decide +kernel) (by decide +kernel)
theorem gc_St_49 {X : gC} {cc : ByteArray} {M : List mC} {k n pc : Nat} {L : List (Nat × Value)} {st rest : List Value} {y0 : MethodName} {b0 : ByteArray} {nl0 : Nat} {ret0 : Option FieldType} {rm : Room} {As : List Value} {post : Option Value → List mC → Prop} {o : Nat} {fs : List Value} (ok : gO X cc "TripleStore$Store" (wsM y0 b0 nl0 ret0)) (hd : decode cc pc = .ok (.invokevirtual 49, 3)) (hM : mm_ (gLa X) y_Tr_find w_Tr_find rm (.ref o :: As) M post) (hst : As.reverse ++ .ref o :: rest = st) (hn : As.length = 3) (hrest : (rest.map fun v => v.category).sum ≤ 8) (hR : gF X rm 8 k n) (he : M[o]? = some (.inr (8, fs))) (hlen : ∀ r M', post r M' → M'.length = M.length) (kk : ∀ r M', post r M' → gg X M' (k + rm.cells) (n + rm.slots) (pc + 3) L (r.toList ++ rest)) : gg X M k n pc L st := g_callV ok (C := RTr) (T := TTr) (N := 4) hM i_Tr_find ml_St_49 wn_Tr_find ws_Tr_find wi_Tr ⟨rfl, by decide, by decide, by rw [hn]; decide +kernel⟩ rfl hd hst hrest hR he hlen kk
theorem ml_TS_86 : Cond.methodLink "TripleStore" 86 y_St_size ∈ gT := gT_at 424 (by decide +kernel) (by decide +kernel)
theorem wn_St_size : Cond.instanceMethod y_St_size ∈ gT := gT_at 425 (by decide +kernel) (by decide +kernel)
theorem ws_St_size : Cond.selects "TripleStore$Store" y_St_size y_St_size ∈ gT := gT_at 426 (by decide +kernel) (by decide +kernel)
theorem gc_TS_86 {X : gC} {cc : ByteArray} {M : List mC} {k n pc : Nat} {L : List (Nat × Value)} {st rest : List Value} {y0 : MethodName} {b0 : ByteArray} {nl0 : Nat} {ret0 : Option FieldType} {rm : Room} {As : List Value} {post : Option Value → List mC → Prop} {o : Nat} {fs : List Value} (ok : gO X cc "TripleStore" (wsM y0 b0 nl0 ret0)) (hd : decode cc pc = .ok (.invokevirtual 86, 3)) (hM : mm_ (gLa X) y_St_size w_St_size rm (.ref o :: As) M post) (hst : As.reverse ++ .ref o :: rest = st) (hn : As.length = 0) (hrest : (rest.map fun v => v.category).sum ≤ 8) (hR : gF X rm 1 k n) (he : M[o]? = some (.inr (6, fs))) (hlen : ∀ r M', post r M' → M'.length = M.length) (kk : ∀ r M', post r M' → gg X M' (k + rm.cells) (n + rm.slots) (pc + 3) L (r.toList ++ rest)) : gg X M k n pc L st := g_callV ok (C := RSt) (T := TSt) (N := 8) hM i_St_size ml_TS_86 wn_St_size ws_St_size wi_St ⟨rfl, by decide, by decide, by rw [hn]; decide +kernel⟩ rfl hd hst hrest hR he hlen kk
theorem ml_St_45 : Cond.methodLink "TripleStore$Store" 45 y_Tr_size ∈ gT := gT_at 428 (by decide +kernel) (by decide +kernel)
theorem wn_Tr_size : Cond.instanceMethod y_Tr_size ∈ gT := gT_at 429 (by decide +kernel) (by decide +kernel)
theorem ws_Tr_size : Cond.selects "TripleStore$Triples" y_Tr_size y_Tr_size ∈ gT := gT_at 430 (by decide +kernel) (by decide +kernel)
theorem gc_St_45 {X : gC} {cc : ByteArray} {M : List mC} {k n pc : Nat} {L : List (Nat × Value)} {st rest : List Value} {y0 : MethodName} {b0 : ByteArray} {nl0 : Nat} {ret0 : Option FieldType} {rm : Room} {As : List Value} {post : Option Value → List mC → Prop} {o : Nat} {fs : List Value} (ok : gO X cc "TripleStore$Store" (wsM y0 b0 nl0 ret0)) (hd : decode cc pc = .ok (.invokevirtual 45, 3)) (hM : mm_ (gLa X) y_Tr_size w_Tr_size rm (.ref o :: As) M post) (hst : As.reverse ++ .ref o :: rest = st) (hn : As.length = 0) (hrest : (rest.map fun v => v.category).sum ≤ 8) (hR : gF X rm 1 k n) (he : M[o]? = some (.inr (8, fs))) (hlen : ∀ r M', post r M' → M'.length = M.length) (kk : ∀ r M', post r M' → gg X M' (k + rm.cells) (n + rm.slots) (pc + 3) L (r.toList ++ rest)) : gg X M k n pc L st := g_callV ok (C := RTr) (T := TTr) (N := 4) hM i_Tr_size ml_St_45 wn_Tr_size ws_Tr_size wi_Tr ⟨rfl, by decide, by decide, by rw [hn]; decide +kernel⟩ rfl hd hst hrest hR he hlen kk
theorem ml_TS_95 : Cond.methodLink "TripleStore" 95 y_St_insert ∈ gT := gT_at 448 (by decide +kernel) (by decide +kernel)
theorem wn_St_insert : Cond.instanceMethod y_St_insert ∈ gT := gT_at 449 (by decide +kernel) (by decide +kernel)
theorem ws_St_insert : Cond.selects "TripleStore$Store" y_St_insert y_St_insert ∈ gT := gT_at 450 (by decide +kernel) (by decide +kernel)
theorem gc_TS_95 {X : gC} {cc : ByteArray} {M : List mC} {k n pc : Nat} {L : List (Nat × Value)} {st rest : List Value} {y0 : MethodName} {b0 : ByteArray} {nl0 : Nat} {ret0 : Option FieldType} {rm : Room} {As : List Value} {post : Option Value → List mC → Prop} {o : Nat} {fs : List Value} (ok : gO X cc "TripleStore" (wsM y0 b0 nl0 ret0)) (hd : decode cc pc = .ok (.invokevirtual 95, 3)) (hM : mm_ (gLa X) y_St_insert w_St_insert rm (.ref o :: As) M post) (hst : As.reverse ++ .ref o :: rest = st) (hn : As.length = 3) (hrest : (rest.map fun v => v.category).sum ≤ 8) (hR : gF X rm 7 k n) (he : M[o]? = some (.inr (6, fs))) (hlen : ∀ r M', post r M' → M'.length = M.length) (kk : ∀ r M', post r M' → gg X M' (k + rm.cells) (n + rm.slots) (pc + 3) L (r.toList ++ rest)) : gg X M k n pc L st := g_callV ok (C := RSt) (T := TSt) (N := 8) hM i_St_insert ml_TS_95 wn_St_insert ws_St_insert wi_St ⟨rfl, by decide, by decide, by rw [hn]; decide +kernel⟩ rfl hd hst hrest hR he hlen kk
theorem ml_St_63 : Cond.methodLink "TripleStore$Store" 63 y_Tr_isFull ∈ gT := gT_at 452 (by decide +kernel) (by decide +kernel)
theorem wn_Tr_isFull : Cond.instanceMethod y_Tr_isFull ∈ gT := gT_at 453 (by decide +kernel) (by decide +kernel)
theorem ws_Tr_isFull : Cond.selects "TripleStore$Triples" y_Tr_isFull y_Tr_isFull ∈ gT := gT_at 454 (by decide +kernel) (by decide +kernel)
theorem gc_St_63 {X : gC} {cc : ByteArray} {M : List mC} {k n pc : Nat} {L : List (Nat × Value)} {st rest : List Value} {y0 : MethodName} {b0 : ByteArray} {nl0 : Nat} {ret0 : Option FieldType} {rm : Room} {As : List Value} {post : Option Value → List mC → Prop} {o : Nat} {fs : List Value} (ok : gO X cc "TripleStore$Store" (wsM y0 b0 nl0 ret0)) (hd : decode cc pc = .ok (.invokevirtual 63, 3)) (hM : mm_ (gLa X) y_Tr_isFull w_Tr_isFull rm (.ref o :: As) M post) (hst : As.reverse ++ .ref o :: rest = st) (hn : As.length = 0) (hrest : (rest.map fun v => v.category).sum ≤ 8) (hR : gF X rm 1 k n) (he : M[o]? = some (.inr (8, fs))) (hlen : ∀ r M', post r M' → M'.length = M.length) (kk : ∀ r M', post r M' → gg X M' (k + rm.cells) (n + rm.slots) (pc + 3) L (r.toList ++ rest)) : gg X M k n pc L st := g_callV ok (C := RTr) (T := TTr) (N := 4) hM i_Tr_isFull ml_St_63 wn_Tr_isFull ws_Tr_isFull wi_Tr ⟨rfl, by decide, by decide, by rw [hn]; decide +kernel⟩ rfl hd hst hrest hR he hlen kk
theorem ml_St_67 : Cond.methodLink "TripleStore$Store" 67 y_Tr_put ∈ gT := gT_at 456 (by decide +kernel) (by decide +kernel)
theorem wn_Tr_put : Cond.instanceMethod y_Tr_put ∈ gT := gT_at 457 (by decide +kernel) (by decide +kernel)
theorem ws_Tr_put : Cond.selects "TripleStore$Triples" y_Tr_put y_Tr_put ∈ gT := gT_at 458 (by decide +kernel) (by decide +kernel)
theorem gc_St_67 {X : gC} {cc : ByteArray} {M : List mC} {k n pc : Nat} {L : List (Nat × Value)} {st rest : List Value} {y0 : MethodName} {b0 : ByteArray} {nl0 : Nat} {ret0 : Option FieldType} {rm : Room} {As : List Value} {post : Option Value → List mC → Prop} {o : Nat} {fs : List Value} (ok : gO X cc "TripleStore$Store" (wsM y0 b0 nl0 ret0)) (hd : decode cc pc = .ok (.invokevirtual 67, 3)) (hM : mm_ (gLa X) y_Tr_put w_Tr_put rm (.ref o :: As) M post) (hst : As.reverse ++ .ref o :: rest = st) (hn : As.length = 3) (hrest : (rest.map fun v => v.category).sum ≤ 8) (hR : gF X rm 7 k n) (he : M[o]? = some (.inr (8, fs))) (hlen : ∀ r M', post r M' → M'.length = M.length) (kk : ∀ r M', post r M' → gg X M' (k + rm.cells) (n + rm.slots) (pc + 3) L (r.toList ++ rest)) : gg X M k n pc L st := g_callV ok (C := RTr) (T := TTr) (N := 4) hM i_Tr_put ml_St_67 wn_Tr_put ws_Tr_put wi_Tr ⟨rfl, by decide, by decide, by rw [hn]; decide +kernel⟩ rfl hd hst hrest hR he hlen kk
theorem ml_Tr_25 : Cond.methodLink "TripleStore$Triples" 25 y_Tr_isFull ∈ gT := gT_at 460 (by decide +kernel) (by decide +kernel)
theorem gc_Tr_25 {X : gC} {cc : ByteArray} {M : List mC} {k n pc : Nat} {L : List (Nat × Value)} {st rest : List Value} {y0 : MethodName} {b0 : ByteArray} {nl0 : Nat} {ret0 : Option FieldType} {rm : Room} {As : List Value} {post : Option Value → List mC → Prop} {o : Nat} {fs : List Value} (ok : gO X cc "TripleStore$Triples" (wsM y0 b0 nl0 ret0)) (hd : decode cc pc = .ok (.invokevirtual 25, 3)) (hM : mm_ (gLa X) y_Tr_isFull w_Tr_isFull rm (.ref o :: As) M post) (hst : As.reverse ++ .ref o :: rest = st) (hn : As.length = 0) (hrest : (rest.map fun v => v.category).sum ≤ 8) (hR : gF X rm 1 k n) (he : M[o]? = some (.inr (8, fs))) (hlen : ∀ r M', post r M' → M'.length = M.length) (kk : ∀ r M', post r M' → gg X M' (k + rm.cells) (n + rm.slots) (pc + 3) L (r.toList ++ rest)) : gg X M k n pc L st := g_callV ok (C := RTr) (T := TTr) (N := 4) hM i_Tr_isFull ml_Tr_25 wn_Tr_isFull ws_Tr_isFull wi_Tr ⟨rfl, by decide, by decide, by rw [hn]; decide +kernel⟩ rfl hd hst hrest hR he hlen kk
theorem ml_St_71 : Cond.methodLink "TripleStore$Store" 71 y_St_noteChange ∈ gT := gT_at 461 (by decide +kernel) (by decide +kernel)
theorem wn_St_noteChange : Cond.instanceMethod y_St_noteChange ∈ gT := gT_at 463 (by decide +kernel) (by decide +kernel)
theorem ws_St_noteChange : Cond.selects "TripleStore$Store" y_St_noteChange y_St_noteChange ∈ gT := gT_pr 1 (by decide +kernel) (by decide +kernel)
theorem gc_St_71 {X : gC} {cc : ByteArray} {M : List mC} {k n pc : Nat} {L : List (Nat × Value)} {st rest : List Value} {y0 : MethodName} {b0 : ByteArray} {nl0 : Nat} {ret0 : Option FieldType} {rm : Room} {As : List Value} {post : Option Value → List mC → Prop} {o : Nat} {fs : List Value} (ok : gO X cc "TripleStore$Store" (wsM y0 b0 nl0 ret0)) (hd : decode cc pc = .ok (.invokevirtual 71, 3)) (hM : mm_ (gLa X) y_St_noteChange w_St_noteChange rm (.ref o :: As) M post) (hst : As.reverse ++ .ref o :: rest = st) (hn : As.length = 4) (hrest : (rest.map fun v => v.category).sum ≤ 8) (hR : gF X rm 9 k n) (he : M[o]? = some (.inr (6, fs))) (hlen : ∀ r M', post r M' → M'.length = M.length) (kk : ∀ r M', post r M' → gg X M' (k + rm.cells) (n + rm.slots) (pc + 3) L (r.toList ++ rest)) : gg X M k n pc L st := g_callV ok (C := RSt) (T := TSt) (N := 8) hM i_St_noteChange ml_St_71 wn_St_noteChange ws_St_noteChange wi_St ⟨rfl, by decide, by decide, by rw [hn]; decide +kernel⟩ rfl hd hst hrest hR he hlen kk
theorem ml_St_78 : Cond.methodLink "TripleStore$Store" 78 y_St_countCommitted ∈ gT := gT_at 465 (by decide +kernel) (by decide +kernel)
theorem wn_St_countCommitted : Cond.instanceMethod y_St_countCommitted ∈ gT := gT_at 467 (by decide +kernel) (by decide +kernel)
theorem ws_St_countCommitted : Cond.selects "TripleStore$Store" y_St_countCommitted y_St_countCommitted ∈ gT := gT_pr 2 (by decide +kernel) (by decide +kernel)
theorem gc_St_78 {X : gC} {cc : ByteArray} {M : List mC} {k n pc : Nat} {L : List (Nat × Value)} {st rest : List Value} {y0 : MethodName} {b0 : ByteArray} {nl0 : Nat} {ret0 : Option FieldType} {rm : Room} {As : List Value} {post : Option Value → List mC → Prop} {o : Nat} {fs : List Value} (ok : gO X cc "TripleStore$Store" (wsM y0 b0 nl0 ret0)) (hd : decode cc pc = .ok (.invokevirtual 78, 3)) (hM : mm_ (gLa X) y_St_countCommitted w_St_countCommitted rm (.ref o :: As) M post) (hst : As.reverse ++ .ref o :: rest = st) (hn : As.length = 0) (hrest : (rest.map fun v => v.category).sum ≤ 8) (hR : gF X rm 1 k n) (he : M[o]? = some (.inr (6, fs))) (hlen : ∀ r M', post r M' → M'.length = M.length) (kk : ∀ r M', post r M' → gg X M' (k + rm.cells) (n + rm.slots) (pc + 3) L (r.toList ++ rest)) : gg X M k n pc L st := g_callV ok (C := RSt) (T := TSt) (N := 8) hM i_St_countCommitted ml_St_78 wn_St_countCommitted ws_St_countCommitted wi_St ⟨rfl, by decide, by decide, by rw [hn]; decide +kernel⟩ rfl hd hst hrest hR he hlen kk
theorem ml_La_17 : Cond.methodLink "TripleStoreLaw" 17 y_TS_remove ∈ gT := gT_at 472 (by decide +kernel) (by decide +kernel)
theorem wn_TS_remove : Cond.instanceMethod y_TS_remove ∈ gT := gT_at 473 (by decide +kernel) (by decide +kernel)
theorem ws_TS_remove : Cond.selects "TripleStore" y_TS_remove y_TS_remove ∈ gT := gT_at 474 (by decide +kernel) (by decide +kernel)
theorem gc_La_17 {X : gC} {cc : ByteArray} {M : List mC} {k n pc : Nat} {L : List (Nat × Value)} {st rest : List Value} {y0 : MethodName} {b0 : ByteArray} {nl0 : Nat} {ret0 : Option FieldType} {rm : Room} {As : List Value} {post : Option Value → List mC → Prop} {o : Nat} {fs : List Value} (ok : gO X cc "TripleStoreLaw" (wsM y0 b0 nl0 ret0)) (hd : decode cc pc = .ok (.invokevirtual 17, 3)) (hM : mm_ (gLa X) y_TS_remove w_TS_remove rm (.ref o :: As) M post) (hst : As.reverse ++ .ref o :: rest = st) (hn : As.length = 3) (hrest : (rest.map fun v => v.category).sum ≤ 8) (hR : gF X rm 7 k n) (he : M[o]? = some (.inr (9, fs))) (hlen : ∀ r M', post r M' → M'.length = M.length) (kk : ∀ r M', post r M' → gg X M' (k + rm.cells) (n + rm.slots) (pc + 3) L (r.toList ++ rest)) : gg X M k n pc L st := g_callV ok (C := RTS) (T := TTS) (N := 9) hM i_TS_remove ml_La_17 wn_TS_remove ws_TS_remove wi_TS ⟨rfl, by decide, by decide, by rw [hn]; decide +kernel⟩ rfl hd hst hrest hR he hlen kk
theorem ml_TS_99 : Cond.methodLink "TripleStore" 99 y_St_delete ∈ gT := gT_at 476 (by decide +kernel) (by decide +kernel)
theorem wn_St_delete : Cond.instanceMethod y_St_delete ∈ gT := gT_at 477 (by decide +kernel) (by decide +kernel)
theorem ws_St_delete : Cond.selects "TripleStore$Store" y_St_delete y_St_delete ∈ gT := gT_at 478 (by decide +kernel) (by decide +kernel)
theorem gc_TS_99 {X : gC} {cc : ByteArray} {M : List mC} {k n pc : Nat} {L : List (Nat × Value)} {st rest : List Value} {y0 : MethodName} {b0 : ByteArray} {nl0 : Nat} {ret0 : Option FieldType} {rm : Room} {As : List Value} {post : Option Value → List mC → Prop} {o : Nat} {fs : List Value} (ok : gO X cc "TripleStore" (wsM y0 b0 nl0 ret0)) (hd : decode cc pc = .ok (.invokevirtual 99, 3)) (hM : mm_ (gLa X) y_St_delete w_St_delete rm (.ref o :: As) M post) (hst : As.reverse ++ .ref o :: rest = st) (hn : As.length = 3) (hrest : (rest.map fun v => v.category).sum ≤ 8) (hR : gF X rm 8 k n) (he : M[o]? = some (.inr (6, fs))) (hlen : ∀ r M', post r M' → M'.length = M.length) (kk : ∀ r M', post r M' → gg X M' (k + rm.cells) (n + rm.slots) (pc + 3) L (r.toList ++ rest)) : gg X M k n pc L st := g_callV ok (C := RSt) (T := TSt) (N := 8) hM i_St_delete ml_TS_99 wn_St_delete ws_St_delete wi_St ⟨rfl, by decide, by decide, by rw [hn]; decide +kernel⟩ rfl hd hst hrest hR he hlen kk
theorem ml_St_75 : Cond.methodLink "TripleStore$Store" 75 y_Tr_drop ∈ gT := gT_at 480 (by decide +kernel) (by decide +kernel)
theorem wn_Tr_drop : Cond.instanceMethod y_Tr_drop ∈ gT := gT_at 481 (by decide +kernel) (by decide +kernel)
theorem ws_Tr_drop : Cond.selects "TripleStore$Triples" y_Tr_drop y_Tr_drop ∈ gT := gT_at 482 (by decide +kernel) (by decide +kernel)
theorem gc_St_75 {X : gC} {cc : ByteArray} {M : List mC} {k n pc : Nat} {L : List (Nat × Value)} {st rest : List Value} {y0 : MethodName} {b0 : ByteArray} {nl0 : Nat} {ret0 : Option FieldType} {rm : Room} {As : List Value} {post : Option Value → List mC → Prop} {o : Nat} {fs : List Value} (ok : gO X cc "TripleStore$Store" (wsM y0 b0 nl0 ret0)) (hd : decode cc pc = .ok (.invokevirtual 75, 3)) (hM : mm_ (gLa X) y_Tr_drop w_Tr_drop rm (.ref o :: As) M post) (hst : As.reverse ++ .ref o :: rest = st) (hn : As.length = 1) (hrest : (rest.map fun v => v.category).sum ≤ 8) (hR : gF X rm 2 k n) (he : M[o]? = some (.inr (8, fs))) (hlen : ∀ r M', post r M' → M'.length = M.length) (kk : ∀ r M', post r M' → gg X M' (k + rm.cells) (n + rm.slots) (pc + 3) L (r.toList ++ rest)) : gg X M k n pc L st := g_callV ok (C := RTr) (T := TTr) (N := 4) hM i_Tr_drop ml_St_75 wn_Tr_drop ws_Tr_drop wi_Tr ⟨rfl, by decide, by decide, by rw [hn]; decide +kernel⟩ rfl hd hst hrest hR he hlen kk
theorem ml_La_20 : Cond.methodLink "TripleStoreLaw" 20 y_TS_begin ∈ gT := gT_at 487 (by decide +kernel) (by decide +kernel)
theorem wn_TS_begin : Cond.instanceMethod y_TS_begin ∈ gT := gT_at 488 (by decide +kernel) (by decide +kernel)
theorem ws_TS_begin : Cond.selects "TripleStore" y_TS_begin y_TS_begin ∈ gT := gT_at 489 (by decide +kernel) (by decide +kernel)
theorem gc_La_20 {X : gC} {cc : ByteArray} {M : List mC} {k n pc : Nat} {L : List (Nat × Value)} {st rest : List Value} {y0 : MethodName} {b0 : ByteArray} {nl0 : Nat} {ret0 : Option FieldType} {rm : Room} {As : List Value} {post : Option Value → List mC → Prop} {o : Nat} {fs : List Value} (ok : gO X cc "TripleStoreLaw" (wsM y0 b0 nl0 ret0)) (hd : decode cc pc = .ok (.invokevirtual 20, 3)) (hM : mm_ (gLa X) y_TS_begin w_TS_begin rm (.ref o :: As) M post) (hst : As.reverse ++ .ref o :: rest = st) (hn : As.length = 0) (hrest : (rest.map fun v => v.category).sum ≤ 8) (hR : gF X rm 1 k n) (he : M[o]? = some (.inr (9, fs))) (hlen : ∀ r M', post r M' → M'.length = M.length) (kk : ∀ r M', post r M' → gg X M' (k + rm.cells) (n + rm.slots) (pc + 3) L (r.toList ++ rest)) : gg X M k n pc L st := g_callV ok (C := RTS) (T := TTS) (N := 9) hM i_TS_begin ml_La_20 wn_TS_begin ws_TS_begin wi_TS ⟨rfl, by decide, by decide, by rw [hn]; decide +kernel⟩ rfl hd hst hrest hR he hlen kk
theorem ml_TS_102 : Cond.methodLink "TripleStore" 102 y_St_isOpen ∈ gT := gT_at 491 (by decide +kernel) (by decide +kernel)
theorem wn_St_isOpen : Cond.instanceMethod y_St_isOpen ∈ gT := gT_at 492 (by decide +kernel) (by decide +kernel)
theorem ws_St_isOpen : Cond.selects "TripleStore$Store" y_St_isOpen y_St_isOpen ∈ gT := gT_at 493 (by decide +kernel) (by decide +kernel)
theorem gc_TS_102 {X : gC} {cc : ByteArray} {M : List mC} {k n pc : Nat} {L : List (Nat × Value)} {st rest : List Value} {y0 : MethodName} {b0 : ByteArray} {nl0 : Nat} {ret0 : Option FieldType} {rm : Room} {As : List Value} {post : Option Value → List mC → Prop} {o : Nat} {fs : List Value} (ok : gO X cc "TripleStore" (wsM y0 b0 nl0 ret0)) (hd : decode cc pc = .ok (.invokevirtual 102, 3)) (hM : mm_ (gLa X) y_St_isOpen w_St_isOpen rm (.ref o :: As) M post) (hst : As.reverse ++ .ref o :: rest = st) (hn : As.length = 0) (hrest : (rest.map fun v => v.category).sum ≤ 8) (hR : gF X rm 1 k n) (he : M[o]? = some (.inr (6, fs))) (hlen : ∀ r M', post r M' → M'.length = M.length) (kk : ∀ r M', post r M' → gg X M' (k + rm.cells) (n + rm.slots) (pc + 3) L (r.toList ++ rest)) : gg X M k n pc L st := g_callV ok (C := RSt) (T := TSt) (N := 8) hM i_St_isOpen ml_TS_102 wn_St_isOpen ws_St_isOpen wi_St ⟨rfl, by decide, by decide, by rw [hn]; decide +kernel⟩ rfl hd hst hrest hR he hlen kk
theorem ml_TS_108 : Cond.methodLink "TripleStore" 108 y_St_openTransaction ∈ gT := gT_at 496 (by decide +kernel) (by decide +kernel)
theorem wn_St_openTransaction : Cond.instanceMethod y_St_openTransaction ∈ gT := gT_at 497 (by decide +kernel) (by decide +kernel)
theorem ws_St_openTransaction : Cond.selects "TripleStore$Store" y_St_openTransaction y_St_openTransaction ∈ gT := gT_at 498 (by decide +kernel) (by decide +kernel)
theorem gc_TS_108 {X : gC} {cc : ByteArray} {M : List mC} {k n pc : Nat} {L : List (Nat × Value)} {st rest : List Value} {y0 : MethodName} {b0 : ByteArray} {nl0 : Nat} {ret0 : Option FieldType} {rm : Room} {As : List Value} {post : Option Value → List mC → Prop} {o : Nat} {fs : List Value} (ok : gO X cc "TripleStore" (wsM y0 b0 nl0 ret0)) (hd : decode cc pc = .ok (.invokevirtual 108, 3)) (hM : mm_ (gLa X) y_St_openTransaction w_St_openTransaction rm (.ref o :: As) M post) (hst : As.reverse ++ .ref o :: rest = st) (hn : As.length = 0) (hrest : (rest.map fun v => v.category).sum ≤ 8) (hR : gF X rm 1 k n) (he : M[o]? = some (.inr (6, fs))) (hlen : ∀ r M', post r M' → M'.length = M.length) (kk : ∀ r M', post r M' → gg X M' (k + rm.cells) (n + rm.slots) (pc + 3) L (r.toList ++ rest)) : gg X M k n pc L st := g_callV ok (C := RSt) (T := TSt) (N := 8) hM i_St_openTransaction ml_TS_108 wn_St_openTransaction ws_St_openTransaction wi_St ⟨rfl, by decide, by decide, by rw [hn]; decide +kernel⟩ rfl hd hst hrest hR he hlen kk
theorem ml_La_24 : Cond.methodLink "TripleStoreLaw" 24 y_TS_commit ∈ gT := gT_at 503 (by decide +kernel) (by decide +kernel)
theorem wn_TS_commit : Cond.instanceMethod y_TS_commit ∈ gT := gT_at 504 (by decide +kernel) (by decide +kernel)
theorem ws_TS_commit : Cond.selects "TripleStore" y_TS_commit y_TS_commit ∈ gT := gT_at 505 (by decide +kernel) (by decide +kernel)
theorem gc_La_24 {X : gC} {cc : ByteArray} {M : List mC} {k n pc : Nat} {L : List (Nat × Value)} {st rest : List Value} {y0 : MethodName} {b0 : ByteArray} {nl0 : Nat} {ret0 : Option FieldType} {rm : Room} {As : List Value} {post : Option Value → List mC → Prop} {o : Nat} {fs : List Value} (ok : gO X cc "TripleStoreLaw" (wsM y0 b0 nl0 ret0)) (hd : decode cc pc = .ok (.invokevirtual 24, 3)) (hM : mm_ (gLa X) y_TS_commit w_TS_commit rm (.ref o :: As) M post) (hst : As.reverse ++ .ref o :: rest = st) (hn : As.length = 0) (hrest : (rest.map fun v => v.category).sum ≤ 8) (hR : gF X rm 1 k n) (he : M[o]? = some (.inr (9, fs))) (hlen : ∀ r M', post r M' → M'.length = M.length) (kk : ∀ r M', post r M' → gg X M' (k + rm.cells) (n + rm.slots) (pc + 3) L (r.toList ++ rest)) : gg X M k n pc L st := g_callV ok (C := RTS) (T := TTS) (N := 9) hM i_TS_commit ml_La_24 wn_TS_commit ws_TS_commit wi_TS ⟨rfl, by decide, by decide, by rw [hn]; decide +kernel⟩ rfl hd hst hrest hR he hlen kk
theorem ml_TS_113 : Cond.methodLink "TripleStore" 113 y_St_commitOpen ∈ gT := gT_at 508 (by decide +kernel) (by decide +kernel)
theorem wn_St_commitOpen : Cond.instanceMethod y_St_commitOpen ∈ gT := gT_at 509 (by decide +kernel) (by decide +kernel)
theorem ws_St_commitOpen : Cond.selects "TripleStore$Store" y_St_commitOpen y_St_commitOpen ∈ gT := gT_at 510 (by decide +kernel) (by decide +kernel)
theorem gc_TS_113 {X : gC} {cc : ByteArray} {M : List mC} {k n pc : Nat} {L : List (Nat × Value)} {st rest : List Value} {y0 : MethodName} {b0 : ByteArray} {nl0 : Nat} {ret0 : Option FieldType} {rm : Room} {As : List Value} {post : Option Value → List mC → Prop} {o : Nat} {fs : List Value} (ok : gO X cc "TripleStore" (wsM y0 b0 nl0 ret0)) (hd : decode cc pc = .ok (.invokevirtual 113, 3)) (hM : mm_ (gLa X) y_St_commitOpen w_St_commitOpen rm (.ref o :: As) M post) (hst : As.reverse ++ .ref o :: rest = st) (hn : As.length = 0) (hrest : (rest.map fun v => v.category).sum ≤ 8) (hR : gF X rm 2 k n) (he : M[o]? = some (.inr (6, fs))) (hlen : ∀ r M', post r M' → M'.length = M.length) (kk : ∀ r M', post r M' → gg X M' (k + rm.cells) (n + rm.slots) (pc + 3) L (r.toList ++ rest)) : gg X M k n pc L st := g_callV ok (C := RSt) (T := TSt) (N := 8) hM i_St_commitOpen ml_TS_113 wn_St_commitOpen ws_St_commitOpen wi_St ⟨rfl, by decide, by decide, by rw [hn]; decide +kernel⟩ rfl hd hst hrest hR he hlen kk
theorem ml_La_27 : Cond.methodLink "TripleStoreLaw" 27 y_TS_rollback ∈ gT := gT_at 515 (by decide +kernel) (by decide +kernel)
theorem wn_TS_rollback : Cond.instanceMethod y_TS_rollback ∈ gT := gT_at 516 (by decide +kernel) (by decide +kernel)
theorem ws_TS_rollback : Cond.selects "TripleStore" y_TS_rollback y_TS_rollback ∈ gT := gT_at 517 (by decide +kernel) (by decide +kernel)
theorem gc_La_27 {X : gC} {cc : ByteArray} {M : List mC} {k n pc : Nat} {L : List (Nat × Value)} {st rest : List Value} {y0 : MethodName} {b0 : ByteArray} {nl0 : Nat} {ret0 : Option FieldType} {rm : Room} {As : List Value} {post : Option Value → List mC → Prop} {o : Nat} {fs : List Value} (ok : gO X cc "TripleStoreLaw" (wsM y0 b0 nl0 ret0)) (hd : decode cc pc = .ok (.invokevirtual 27, 3)) (hM : mm_ (gLa X) y_TS_rollback w_TS_rollback rm (.ref o :: As) M post) (hst : As.reverse ++ .ref o :: rest = st) (hn : As.length = 0) (hrest : (rest.map fun v => v.category).sum ≤ 8) (hR : gF X rm 1 k n) (he : M[o]? = some (.inr (9, fs))) (hlen : ∀ r M', post r M' → M'.length = M.length) (kk : ∀ r M', post r M' → gg X M' (k + rm.cells) (n + rm.slots) (pc + 3) L (r.toList ++ rest)) : gg X M k n pc L st := g_callV ok (C := RTS) (T := TTS) (N := 9) hM i_TS_rollback ml_La_27 wn_TS_rollback ws_TS_rollback wi_TS ⟨rfl, by decide, by decide, by rw [hn]; decide +kernel⟩ rfl hd hst hrest hR he hlen kk
theorem ml_TS_116 : Cond.methodLink "TripleStore" 116 y_St_undoOpen ∈ gT := gT_at 519 (by decide +kernel) (by decide +kernel)
theorem wn_St_undoOpen : Cond.instanceMethod y_St_undoOpen ∈ gT := gT_at 520 (by decide +kernel) (by decide +kernel)
theorem ws_St_undoOpen : Cond.selects "TripleStore$Store" y_St_undoOpen y_St_undoOpen ∈ gT := gT_at 521 (by decide +kernel) (by decide +kernel)
theorem gc_TS_116 {X : gC} {cc : ByteArray} {M : List mC} {k n pc : Nat} {L : List (Nat × Value)} {st rest : List Value} {y0 : MethodName} {b0 : ByteArray} {nl0 : Nat} {ret0 : Option FieldType} {rm : Room} {As : List Value} {post : Option Value → List mC → Prop} {o : Nat} {fs : List Value} (ok : gO X cc "TripleStore" (wsM y0 b0 nl0 ret0)) (hd : decode cc pc = .ok (.invokevirtual 116, 3)) (hM : mm_ (gLa X) y_St_undoOpen w_St_undoOpen rm (.ref o :: As) M post) (hst : As.reverse ++ .ref o :: rest = st) (hn : As.length = 0) (hrest : (rest.map fun v => v.category).sum ≤ 8) (hR : gF X rm 2 k n) (he : M[o]? = some (.inr (6, fs))) (hlen : ∀ r M', post r M' → M'.length = M.length) (kk : ∀ r M', post r M' → gg X M' (k + rm.cells) (n + rm.slots) (pc + 3) L (r.toList ++ rest)) : gg X M k n pc L st := g_callV ok (C := RSt) (T := TSt) (N := 8) hM i_St_undoOpen ml_TS_116 wn_St_undoOpen ws_St_undoOpen wi_St ⟨rfl, by decide, by decide, by rw [hn]; decide +kernel⟩ rfl hd hst hrest hR he hlen kk
theorem ml_St_81 : Cond.methodLink "TripleStore$Store" 81 y_St_undoFrom ∈ gT := gT_at 523 (by decide +kernel) (by decide +kernel)
theorem wn_St_undoFrom : Cond.instanceMethod y_St_undoFrom ∈ gT := gT_at 525 (by decide +kernel) (by decide +kernel)
theorem ws_St_undoFrom : Cond.selects "TripleStore$Store" y_St_undoFrom y_St_undoFrom ∈ gT := gT_pr 3 (by decide +kernel) (by decide +kernel)
theorem gc_St_81 {X : gC} {cc : ByteArray} {M : List mC} {k n pc : Nat} {L : List (Nat × Value)} {st rest : List Value} {y0 : MethodName} {b0 : ByteArray} {nl0 : Nat} {ret0 : Option FieldType} {rm : Room} {As : List Value} {post : Option Value → List mC → Prop} {o : Nat} {fs : List Value} (ok : gO X cc "TripleStore$Store" (wsM y0 b0 nl0 ret0)) (hd : decode cc pc = .ok (.invokevirtual 81, 3)) (hM : mm_ (gLa X) y_St_undoFrom w_St_undoFrom rm (.ref o :: As) M post) (hst : As.reverse ++ .ref o :: rest = st) (hn : As.length = 1) (hrest : (rest.map fun v => v.category).sum ≤ 8) (hR : gF X rm 3 k n) (he : M[o]? = some (.inr (6, fs))) (hlen : ∀ r M', post r M' → M'.length = M.length) (kk : ∀ r M', post r M' → gg X M' (k + rm.cells) (n + rm.slots) (pc + 3) L (r.toList ++ rest)) : gg X M k n pc L st := g_callV ok (C := RSt) (T := TSt) (N := 8) hM i_St_undoFrom ml_St_81 wn_St_undoFrom ws_St_undoFrom wi_St ⟨rfl, by decide, by decide, by rw [hn]; decide +kernel⟩ rfl hd hst hrest hR he hlen kk
theorem ml_St_90 : Cond.methodLink "TripleStore$Store" 90 y_St_undoLast ∈ gT := gT_at 527 (by decide +kernel) (by decide +kernel)
theorem wn_St_undoLast : Cond.instanceMethod y_St_undoLast ∈ gT := gT_at 529 (by decide +kernel) (by decide +kernel)
theorem ws_St_undoLast : Cond.selects "TripleStore$Store" y_St_undoLast y_St_undoLast ∈ gT := gT_pr 4 (by decide +kernel) (by decide +kernel)
theorem gc_St_90 {X : gC} {cc : ByteArray} {M : List mC} {k n pc : Nat} {L : List (Nat × Value)} {st rest : List Value} {y0 : MethodName} {b0 : ByteArray} {nl0 : Nat} {ret0 : Option FieldType} {rm : Room} {As : List Value} {post : Option Value → List mC → Prop} {o : Nat} {fs : List Value} (ok : gO X cc "TripleStore$Store" (wsM y0 b0 nl0 ret0)) (hd : decode cc pc = .ok (.invokevirtual 90, 3)) (hM : mm_ (gLa X) y_St_undoLast w_St_undoLast rm (.ref o :: As) M post) (hst : As.reverse ++ .ref o :: rest = st) (hn : As.length = 1) (hrest : (rest.map fun v => v.category).sum ≤ 8) (hR : gF X rm 8 k n) (he : M[o]? = some (.inr (6, fs))) (hlen : ∀ r M', post r M' → M'.length = M.length) (kk : ∀ r M', post r M' → gg X M' (k + rm.cells) (n + rm.slots) (pc + 3) L (r.toList ++ rest)) : gg X M k n pc L st := g_callV ok (C := RSt) (T := TSt) (N := 8) hM i_St_undoLast ml_St_90 wn_St_undoLast ws_St_undoLast wi_St ⟨rfl, by decide, by decide, by rw [hn]; decide +kernel⟩ rfl hd hst hrest hR he hlen kk
theorem ml_St_53 : Cond.methodLink "TripleStore$Store" 53 y_Tr_subject ∈ gT := gT_at 531 (by decide +kernel) (by decide +kernel)
theorem wn_Tr_subject : Cond.instanceMethod y_Tr_subject ∈ gT := gT_at 532 (by decide +kernel) (by decide +kernel)
theorem ws_Tr_subject : Cond.selects "TripleStore$Triples" y_Tr_subject y_Tr_subject ∈ gT := gT_at 533 (by decide +kernel) (by decide +kernel)
theorem gc_St_53 {X : gC} {cc : ByteArray} {M : List mC} {k n pc : Nat} {L : List (Nat × Value)} {st rest : List Value} {y0 : MethodName} {b0 : ByteArray} {nl0 : Nat} {ret0 : Option FieldType} {rm : Room} {As : List Value} {post : Option Value → List mC → Prop} {o : Nat} {fs : List Value} (ok : gO X cc "TripleStore$Store" (wsM y0 b0 nl0 ret0)) (hd : decode cc pc = .ok (.invokevirtual 53, 3)) (hM : mm_ (gLa X) y_Tr_subject w_Tr_subject rm (.ref o :: As) M post) (hst : As.reverse ++ .ref o :: rest = st) (hn : As.length = 1) (hrest : (rest.map fun v => v.category).sum ≤ 8) (hR : gF X rm 2 k n) (he : M[o]? = some (.inr (8, fs))) (hlen : ∀ r M', post r M' → M'.length = M.length) (kk : ∀ r M', post r M' → gg X M' (k + rm.cells) (n + rm.slots) (pc + 3) L (r.toList ++ rest)) : gg X M k n pc L st := g_callV ok (C := RTr) (T := TTr) (N := 4) hM i_Tr_subject ml_St_53 wn_Tr_subject ws_Tr_subject wi_Tr ⟨rfl, by decide, by decide, by rw [hn]; decide +kernel⟩ rfl hd hst hrest hR he hlen kk
theorem ml_St_57 : Cond.methodLink "TripleStore$Store" 57 y_Tr_predicate ∈ gT := gT_at 535 (by decide +kernel) (by decide +kernel)
theorem wn_Tr_predicate : Cond.instanceMethod y_Tr_predicate ∈ gT := gT_at 536 (by decide +kernel) (by decide +kernel)
theorem ws_Tr_predicate : Cond.selects "TripleStore$Triples" y_Tr_predicate y_Tr_predicate ∈ gT := gT_at 537 (by decide +kernel) (by decide +kernel)
theorem gc_St_57 {X : gC} {cc : ByteArray} {M : List mC} {k n pc : Nat} {L : List (Nat × Value)} {st rest : List Value} {y0 : MethodName} {b0 : ByteArray} {nl0 : Nat} {ret0 : Option FieldType} {rm : Room} {As : List Value} {post : Option Value → List mC → Prop} {o : Nat} {fs : List Value} (ok : gO X cc "TripleStore$Store" (wsM y0 b0 nl0 ret0)) (hd : decode cc pc = .ok (.invokevirtual 57, 3)) (hM : mm_ (gLa X) y_Tr_predicate w_Tr_predicate rm (.ref o :: As) M post) (hst : As.reverse ++ .ref o :: rest = st) (hn : As.length = 1) (hrest : (rest.map fun v => v.category).sum ≤ 8) (hR : gF X rm 2 k n) (he : M[o]? = some (.inr (8, fs))) (hlen : ∀ r M', post r M' → M'.length = M.length) (kk : ∀ r M', post r M' → gg X M' (k + rm.cells) (n + rm.slots) (pc + 3) L (r.toList ++ rest)) : gg X M k n pc L st := g_callV ok (C := RTr) (T := TTr) (N := 4) hM i_Tr_predicate ml_St_57 wn_Tr_predicate ws_Tr_predicate wi_Tr ⟨rfl, by decide, by decide, by rw [hn]; decide +kernel⟩ rfl hd hst hrest hR he hlen kk
theorem ml_St_60 : Cond.methodLink "TripleStore$Store" 60 y_Tr_object ∈ gT := gT_at 539 (by decide +kernel) (by decide +kernel)
theorem wn_Tr_object : Cond.instanceMethod y_Tr_object ∈ gT := gT_at 540 (by decide +kernel) (by decide +kernel)
theorem ws_Tr_object : Cond.selects "TripleStore$Triples" y_Tr_object y_Tr_object ∈ gT := gT_at 541 (by decide +kernel) (by decide +kernel)
theorem gc_St_60 {X : gC} {cc : ByteArray} {M : List mC} {k n pc : Nat} {L : List (Nat × Value)} {st rest : List Value} {y0 : MethodName} {b0 : ByteArray} {nl0 : Nat} {ret0 : Option FieldType} {rm : Room} {As : List Value} {post : Option Value → List mC → Prop} {o : Nat} {fs : List Value} (ok : gO X cc "TripleStore$Store" (wsM y0 b0 nl0 ret0)) (hd : decode cc pc = .ok (.invokevirtual 60, 3)) (hM : mm_ (gLa X) y_Tr_object w_Tr_object rm (.ref o :: As) M post) (hst : As.reverse ++ .ref o :: rest = st) (hn : As.length = 1) (hrest : (rest.map fun v => v.category).sum ≤ 8) (hR : gF X rm 2 k n) (he : M[o]? = some (.inr (8, fs))) (hlen : ∀ r M', post r M' → M'.length = M.length) (kk : ∀ r M', post r M' → gg X M' (k + rm.cells) (n + rm.slots) (pc + 3) L (r.toList ++ rest)) : gg X M k n pc L st := g_callV ok (C := RTr) (T := TTr) (N := 4) hM i_Tr_object ml_St_60 wn_Tr_object ws_Tr_object wi_Tr ⟨rfl, by decide, by decide, by rw [hn]; decide +kernel⟩ rfl hd hst hrest hR he hlen kk
theorem ml_La_30 : Cond.methodLink "TripleStoreLaw" 30 y_TS_crash ∈ gT := gT_at 546 (by decide +kernel) (by decide +kernel)
theorem wn_TS_crash : Cond.instanceMethod y_TS_crash ∈ gT := gT_at 547 (by decide +kernel) (by decide +kernel)
theorem ws_TS_crash : Cond.selects "TripleStore" y_TS_crash y_TS_crash ∈ gT := gT_at 548 (by decide +kernel) (by decide +kernel)
theorem gc_La_30 {X : gC} {cc : ByteArray} {M : List mC} {k n pc : Nat} {L : List (Nat × Value)} {st rest : List Value} {y0 : MethodName} {b0 : ByteArray} {nl0 : Nat} {ret0 : Option FieldType} {rm : Room} {As : List Value} {post : Option Value → List mC → Prop} {o : Nat} {fs : List Value} (ok : gO X cc "TripleStoreLaw" (wsM y0 b0 nl0 ret0)) (hd : decode cc pc = .ok (.invokevirtual 30, 3)) (hM : mm_ (gLa X) y_TS_crash w_TS_crash rm (.ref o :: As) M post) (hst : As.reverse ++ .ref o :: rest = st) (hn : As.length = 1) (hrest : (rest.map fun v => v.category).sum ≤ 8) (hR : gF X rm 2 k n) (he : M[o]? = some (.inr (9, fs))) (hlen : ∀ r M', post r M' → M'.length = M.length) (kk : ∀ r M', post r M' → gg X M' (k + rm.cells) (n + rm.slots) (pc + 3) L (r.toList ++ rest)) : gg X M k n pc L st := g_callV ok (C := RTS) (T := TTS) (N := 9) hM i_TS_crash ml_La_30 wn_TS_crash ws_TS_crash wi_TS ⟨rfl, by decide, by decide, by rw [hn]; decide +kernel⟩ rfl hd hst hrest hR he hlen kk
theorem ml_TS_124 : Cond.methodLink "TripleStore" 124 y_St_loseBut ∈ gT := gT_at 551 (by decide +kernel) (by decide +kernel)
theorem wn_St_loseBut : Cond.instanceMethod y_St_loseBut ∈ gT := gT_at 552 (by decide +kernel) (by decide +kernel)
theorem ws_St_loseBut : Cond.selects "TripleStore$Store" y_St_loseBut y_St_loseBut ∈ gT := gT_at 553 (by decide +kernel) (by decide +kernel)
theorem gc_TS_124 {X : gC} {cc : ByteArray} {M : List mC} {k n pc : Nat} {L : List (Nat × Value)} {st rest : List Value} {y0 : MethodName} {b0 : ByteArray} {nl0 : Nat} {ret0 : Option FieldType} {rm : Room} {As : List Value} {post : Option Value → List mC → Prop} {o : Nat} {fs : List Value} (ok : gO X cc "TripleStore" (wsM y0 b0 nl0 ret0)) (hd : decode cc pc = .ok (.invokevirtual 124, 3)) (hM : mm_ (gLa X) y_St_loseBut w_St_loseBut rm (.ref o :: As) M post) (hst : As.reverse ++ .ref o :: rest = st) (hn : As.length = 1) (hrest : (rest.map fun v => v.category).sum ≤ 8) (hR : gF X rm 2 k n) (he : M[o]? = some (.inr (6, fs))) (hlen : ∀ r M', post r M' → M'.length = M.length) (kk : ∀ r M', post r M' → gg X M' (k + rm.cells) (n + rm.slots) (pc + 3) L (r.toList ++ rest)) : gg X M k n pc L st := g_callV ok (C := RSt) (T := TSt) (N := 8) hM i_St_loseBut ml_TS_124 wn_St_loseBut ws_St_loseBut wi_St ⟨rfl, by decide, by decide, by rw [hn]; decide +kernel⟩ rfl hd hst hrest hR he hlen kk
theorem ml_La_34 : Cond.methodLink "TripleStoreLaw" 34 y_TS_append ∈ gT := gT_at 561 (by decide +kernel) (by decide +kernel)
theorem wn_TS_append : Cond.instanceMethod y_TS_append ∈ gT := gT_at 562 (by decide +kernel) (by decide +kernel)
theorem ws_TS_append : Cond.selects "TripleStore" y_TS_append y_TS_append ∈ gT := gT_at 563 (by decide +kernel) (by decide +kernel)
theorem gc_La_34 {X : gC} {cc : ByteArray} {M : List mC} {k n pc : Nat} {L : List (Nat × Value)} {st rest : List Value} {y0 : MethodName} {b0 : ByteArray} {nl0 : Nat} {ret0 : Option FieldType} {rm : Room} {As : List Value} {post : Option Value → List mC → Prop} {o : Nat} {fs : List Value} (ok : gO X cc "TripleStoreLaw" (wsM y0 b0 nl0 ret0)) (hd : decode cc pc = .ok (.invokevirtual 34, 3)) (hM : mm_ (gLa X) y_TS_append w_TS_append rm (.ref o :: As) M post) (hst : As.reverse ++ .ref o :: rest = st) (hn : As.length = 2) (hrest : (rest.map fun v => v.category).sum ≤ 8) (hR : gF X rm 5 k n) (he : M[o]? = some (.inr (9, fs))) (hlen : ∀ r M', post r M' → M'.length = M.length) (kk : ∀ r M', post r M' → gg X M' (k + rm.cells) (n + rm.slots) (pc + 3) L (r.toList ++ rest)) : gg X M k n pc L st := g_callV ok (C := RTS) (T := TTS) (N := 9) hM i_TS_append ml_La_34 wn_TS_append ws_TS_append wi_TS ⟨rfl, by decide, by decide, by rw [hn]; decide +kernel⟩ rfl hd hst hrest hR he hlen kk
theorem ml_TS_128 : Cond.methodLink "TripleStore" 128 y_TS_areTextCodes ∈ gT := gT_at 565 (by decide +kernel) (by decide +kernel)
theorem wt_TS_areTextCodes : Cond.static y_TS_areTextCodes ∈ gT := gT_at 566 (by decide +kernel) (by decide +kernel)
theorem gc_TS_128 {X : gC} {cc : ByteArray} {M : List mC} {k n pc : Nat} {L : List (Nat × Value)} {st rest : List Value} {y0 : MethodName} {b0 : ByteArray} {nl0 : Nat} {ret0 : Option FieldType} {rm : Room} {As : List Value} {post : Option Value → List mC → Prop} (ok : gO X cc "TripleStore" (wsM y0 b0 nl0 ret0)) (hd : decode cc pc = .ok (.invokestatic 128, 3)) (hM : mm_ (gLa X) y_TS_areTextCodes w_TS_areTextCodes rm As M post) (hst : As.reverse ++ rest = st) (hn : As.length = 2) (hrest : (rest.map fun v => v.category).sum ≤ 8) (hR : gF X rm 5 k n) (hlen : ∀ r M', post r M' → M'.length = M.length) (kk : ∀ r M', post r M' → gg X M' (k + rm.cells) (n + rm.slots) (pc + 3) L (r.toList ++ rest)) : gg X M k n pc L st := g_callS ok hM i_TS_areTextCodes ml_TS_128 wt_TS_areTextCodes wi_TS ⟨by decide, by decide, by rw [hn]; decide +kernel⟩ hd hst hrest hR hlen kk
theorem ml_TS_136 : Cond.methodLink "TripleStore" 136 y_TS_byteAt ∈ gT := gT_at 568 (by decide +kernel) (by decide +kernel)
theorem wt_TS_byteAt : Cond.static y_TS_byteAt ∈ gT := gT_at 569 (by decide +kernel) (by decide +kernel)
theorem gc_TS_136 {X : gC} {cc : ByteArray} {M : List mC} {k n pc : Nat} {L : List (Nat × Value)} {st rest : List Value} {y0 : MethodName} {b0 : ByteArray} {nl0 : Nat} {ret0 : Option FieldType} {rm : Room} {As : List Value} {post : Option Value → List mC → Prop} (ok : gO X cc "TripleStore" (wsM y0 b0 nl0 ret0)) (hd : decode cc pc = .ok (.invokestatic 136, 3)) (hM : mm_ (gLa X) y_TS_byteAt w_TS_byteAt rm As M post) (hst : As.reverse ++ rest = st) (hn : As.length = 2) (hrest : (rest.map fun v => v.category).sum ≤ 8) (hR : gF X rm 3 k n) (hlen : ∀ r M', post r M' → M'.length = M.length) (kk : ∀ r M', post r M' → gg X M' (k + rm.cells) (n + rm.slots) (pc + 3) L (r.toList ++ rest)) : gg X M k n pc L st := g_callS ok hM i_TS_byteAt ml_TS_136 wt_TS_byteAt wi_TS ⟨by decide, by decide, by rw [hn]; decide +kernel⟩ hd hst hrest hR hlen kk
theorem ml_La_38 : Cond.methodLink "TripleStoreLaw" 38 y_TS_ask ∈ gT := gT_at 576 (by decide +kernel) (by decide +kernel)
theorem wn_TS_ask : Cond.instanceMethod y_TS_ask ∈ gT := gT_at 577 (by decide +kernel) (by decide +kernel)
theorem ws_TS_ask : Cond.selects "TripleStore" y_TS_ask y_TS_ask ∈ gT := gT_at 578 (by decide +kernel) (by decide +kernel)
theorem gc_La_38 {X : gC} {cc : ByteArray} {M : List mC} {k n pc : Nat} {L : List (Nat × Value)} {st rest : List Value} {y0 : MethodName} {b0 : ByteArray} {nl0 : Nat} {ret0 : Option FieldType} {rm : Room} {As : List Value} {post : Option Value → List mC → Prop} {o : Nat} {fs : List Value} (ok : gO X cc "TripleStoreLaw" (wsM y0 b0 nl0 ret0)) (hd : decode cc pc = .ok (.invokevirtual 38, 3)) (hM : mm_ (gLa X) y_TS_ask w_TS_ask rm (.ref o :: As) M post) (hst : As.reverse ++ .ref o :: rest = st) (hn : As.length = 0) (hrest : (rest.map fun v => v.category).sum ≤ 8) (hR : gF X rm 2 k n) (he : M[o]? = some (.inr (9, fs))) (hlen : ∀ r M', post r M' → M'.length = M.length) (kk : ∀ r M', post r M' → gg X M' (k + rm.cells) (n + rm.slots) (pc + 3) L (r.toList ++ rest)) : gg X M k n pc L st := g_callV ok (C := RTS) (T := TTS) (N := 9) hM i_TS_ask ml_La_38 wn_TS_ask ws_TS_ask wi_TS ⟨rfl, by decide, by decide, by rw [hn]; decide +kernel⟩ rfl hd hst hrest hR he hlen kk
theorem ml_TS_140 : Cond.methodLink "TripleStore" 140 y_To_readAll ∈ gT := gT_at 580 (by decide +kernel) (by decide +kernel)
theorem wi_To : Cond.initialized "TripleStore$Tokens" ∈ gT := gT_at 4 (by decide +kernel) (by decide +kernel)
theorem wn_To_readAll : Cond.instanceMethod y_To_readAll ∈ gT := gT_at 581 (by decide +kernel) (by decide +kernel)
theorem ws_To_readAll : Cond.selects "TripleStore$Tokens" y_To_readAll y_To_readAll ∈ gT := gT_at 582 (by decide +kernel) (by decide +kernel)
theorem gc_TS_140 {X : gC} {cc : ByteArray} {M : List mC} {k n pc : Nat} {L : List (Nat × Value)} {st rest : List Value} {y0 : MethodName} {b0 : ByteArray} {nl0 : Nat} {ret0 : Option FieldType} {rm : Room} {As : List Value} {post : Option Value → List mC → Prop} {o : Nat} {fs : List Value} (ok : gO X cc "TripleStore" (wsM y0 b0 nl0 ret0)) (hd : decode cc pc = .ok (.invokevirtual 140, 3)) (hM : mm_ (gLa X) y_To_readAll w_To_readAll rm (.ref o :: As) M post) (hst : As.reverse ++ .ref o :: rest = st) (hn : As.length = 2) (hrest : (rest.map fun v => v.category).sum ≤ 8) (hR : gF X rm 6 k n) (he : M[o]? = some (.inr (7, fs))) (hlen : ∀ r M', post r M' → M'.length = M.length) (kk : ∀ r M', post r M' → gg X M' (k + rm.cells) (n + rm.slots) (pc + 3) L (r.toList ++ rest)) : gg X M k n pc L st := g_callV ok (C := RTo) (T := TTo) (N := 5) hM i_To_readAll ml_TS_140 wn_To_readAll ws_To_readAll wi_To ⟨rfl, by decide, by decide, by rw [hn]; decide +kernel⟩ rfl hd hst hrest hR he hlen kk
theorem ml_To_36 : Cond.methodLink "TripleStore$Tokens" 36 y_To_readToken ∈ gT := gT_at 584 (by decide +kernel) (by decide +kernel)
theorem wn_To_readToken : Cond.instanceMethod y_To_readToken ∈ gT := gT_at 586 (by decide +kernel) (by decide +kernel)
theorem ws_To_readToken : Cond.selects "TripleStore$Tokens" y_To_readToken y_To_readToken ∈ gT := gT_pr 5 (by decide +kernel) (by decide +kernel)
theorem gc_To_36 {X : gC} {cc : ByteArray} {M : List mC} {k n pc : Nat} {L : List (Nat × Value)} {st rest : List Value} {y0 : MethodName} {b0 : ByteArray} {nl0 : Nat} {ret0 : Option FieldType} {rm : Room} {As : List Value} {post : Option Value → List mC → Prop} {o : Nat} {fs : List Value} (ok : gO X cc "TripleStore$Tokens" (wsM y0 b0 nl0 ret0)) (hd : decode cc pc = .ok (.invokevirtual 36, 3)) (hM : mm_ (gLa X) y_To_readToken w_To_readToken rm (.ref o :: As) M post) (hst : As.reverse ++ .ref o :: rest = st) (hn : As.length = 3) (hrest : (rest.map fun v => v.category).sum ≤ 8) (hR : gF X rm 5 k n) (he : M[o]? = some (.inr (7, fs))) (hlen : ∀ r M', post r M' → M'.length = M.length) (kk : ∀ r M', post r M' → gg X M' (k + rm.cells) (n + rm.slots) (pc + 3) L (r.toList ++ rest)) : gg X M k n pc L st := g_callV ok (C := RTo) (T := TTo) (N := 5) hM i_To_readToken ml_To_36 wn_To_readToken ws_To_readToken wi_To ⟨rfl, by decide, by decide, by rw [hn]; decide +kernel⟩ rfl hd hst hrest hR he hlen kk
theorem ml_To_44 : Cond.methodLink "TripleStore$Tokens" 44 y_Te_isLetter ∈ gT := gT_at 588 (by decide +kernel) (by decide +kernel)
theorem gc_To_44 {X : gC} {cc : ByteArray} {M : List mC} {k n pc : Nat} {L : List (Nat × Value)} {st rest : List Value} {y0 : MethodName} {b0 : ByteArray} {nl0 : Nat} {ret0 : Option FieldType} {rm : Room} {As : List Value} {post : Option Value → List mC → Prop} (ok : gO X cc "TripleStore$Tokens" (wsM y0 b0 nl0 ret0)) (hd : decode cc pc = .ok (.invokestatic 44, 3)) (hM : mm_ (gLa X) y_Te_isLetter w_Te_isLetter rm As M post) (hst : As.reverse ++ rest = st) (hn : As.length = 1) (hrest : (rest.map fun v => v.category).sum ≤ 8) (hR : gF X rm 1 k n) (hlen : ∀ r M', post r M' → M'.length = M.length) (kk : ∀ r M', post r M' → gg X M' (k + rm.cells) (n + rm.slots) (pc + 3) L (r.toList ++ rest)) : gg X M k n pc L st := g_callS ok hM i_Te_isLetter ml_To_44 wt_Te_isLetter wi_Te ⟨by decide, by decide, by rw [hn]; decide +kernel⟩ hd hst hrest hR hlen kk
theorem ml_To_50 : Cond.methodLink "TripleStore$Tokens" 50 y_To_readWord ∈ gT := gT_at 589 (by decide +kernel) (by decide +kernel)
theorem wn_To_readWord : Cond.instanceMethod y_To_readWord ∈ gT := gT_at 591 (by decide +kernel) (by decide +kernel)
theorem ws_To_readWord : Cond.selects "TripleStore$Tokens" y_To_readWord y_To_readWord ∈ gT := gT_pr 6 (by decide +kernel) (by decide +kernel)
theorem gc_To_50 {X : gC} {cc : ByteArray} {M : List mC} {k n pc : Nat} {L : List (Nat × Value)} {st rest : List Value} {y0 : MethodName} {b0 : ByteArray} {nl0 : Nat} {ret0 : Option FieldType} {rm : Room} {As : List Value} {post : Option Value → List mC → Prop} {o : Nat} {fs : List Value} (ok : gO X cc "TripleStore$Tokens" (wsM y0 b0 nl0 ret0)) (hd : decode cc pc = .ok (.invokevirtual 50, 3)) (hM : mm_ (gLa X) y_To_readWord w_To_readWord rm (.ref o :: As) M post) (hst : As.reverse ++ .ref o :: rest = st) (hn : As.length = 3) (hrest : (rest.map fun v => v.category).sum ≤ 8) (hR : gF X rm 7 k n) (he : M[o]? = some (.inr (7, fs))) (hlen : ∀ r M', post r M' → M'.length = M.length) (kk : ∀ r M', post r M' → gg X M' (k + rm.cells) (n + rm.slots) (pc + 3) L (r.toList ++ rest)) : gg X M k n pc L st := g_callV ok (C := RTo) (T := TTo) (N := 5) hM i_To_readWord ml_To_50 wn_To_readWord ws_To_readWord wi_To ⟨rfl, by decide, by decide, by rw [hn]; decide +kernel⟩ rfl hd hst hrest hR he hlen kk
theorem ml_To_65 : Cond.methodLink "TripleStore$Tokens" 65 y_To_endOfLetters ∈ gT := gT_at 593 (by decide +kernel) (by decide +kernel)
theorem wt_To_endOfLetters : Cond.static y_To_endOfLetters ∈ gT := gT_at 594 (by decide +kernel) (by decide +kernel)
theorem gc_To_65 {X : gC} {cc : ByteArray} {M : List mC} {k n pc : Nat} {L : List (Nat × Value)} {st rest : List Value} {y0 : MethodName} {b0 : ByteArray} {nl0 : Nat} {ret0 : Option FieldType} {rm : Room} {As : List Value} {post : Option Value → List mC → Prop} (ok : gO X cc "TripleStore$Tokens" (wsM y0 b0 nl0 ret0)) (hd : decode cc pc = .ok (.invokestatic 65, 3)) (hM : mm_ (gLa X) y_To_endOfLetters w_To_endOfLetters rm As M post) (hst : As.reverse ++ rest = st) (hn : As.length = 3) (hrest : (rest.map fun v => v.category).sum ≤ 8) (hR : gF X rm 4 k n) (hlen : ∀ r M', post r M' → M'.length = M.length) (kk : ∀ r M', post r M' → gg X M' (k + rm.cells) (n + rm.slots) (pc + 3) L (r.toList ++ rest)) : gg X M k n pc L st := g_callS ok hM i_To_endOfLetters ml_To_65 wt_To_endOfLetters wi_To ⟨by decide, by decide, by rw [hn]; decide +kernel⟩ hd hst hrest hR hlen kk
theorem ml_To_68 : Cond.methodLink "TripleStore$Tokens" 68 y_To_packed ∈ gT := gT_at 596 (by decide +kernel) (by decide +kernel)
theorem wt_To_packed : Cond.static y_To_packed ∈ gT := gT_at 597 (by decide +kernel) (by decide +kernel)
theorem gc_To_68 {X : gC} {cc : ByteArray} {M : List mC} {k n pc : Nat} {L : List (Nat × Value)} {st rest : List Value} {y0 : MethodName} {b0 : ByteArray} {nl0 : Nat} {ret0 : Option FieldType} {rm : Room} {As : List Value} {post : Option Value → List mC → Prop} (ok : gO X cc "TripleStore$Tokens" (wsM y0 b0 nl0 ret0)) (hd : decode cc pc = .ok (.invokestatic 68, 3)) (hM : mm_ (gLa X) y_To_packed w_To_packed rm As M post) (hst : As.reverse ++ rest = st) (hn : As.length = 3) (hrest : (rest.map fun v => v.category).sum ≤ 8) (hR : gF X rm 6 k n) (hlen : ∀ r M', post r M' → M'.length = M.length) (kk : ∀ r M', post r M' → gg X M' (k + rm.cells) (n + rm.slots) (pc + 3) L (r.toList ++ rest)) : gg X M k n pc L st := g_callS ok hM i_To_packed ml_To_68 wt_To_packed wi_To ⟨by decide, by decide, by rw [hn]; decide +kernel⟩ hd hst hrest hR hlen kk
theorem ml_To_40 : Cond.methodLink "TripleStore$Tokens" 40 y_To_note ∈ gT := gT_at 599 (by decide +kernel) (by decide +kernel)
theorem wn_To_note : Cond.instanceMethod y_To_note ∈ gT := gT_at 601 (by decide +kernel) (by decide +kernel)
theorem ws_To_note : Cond.selects "TripleStore$Tokens" y_To_note y_To_note ∈ gT := gT_pr 7 (by decide +kernel) (by decide +kernel)
theorem gc_To_40 {X : gC} {cc : ByteArray} {M : List mC} {k n pc : Nat} {L : List (Nat × Value)} {st rest : List Value} {y0 : MethodName} {b0 : ByteArray} {nl0 : Nat} {ret0 : Option FieldType} {rm : Room} {As : List Value} {post : Option Value → List mC → Prop} {o : Nat} {fs : List Value} (ok : gO X cc "TripleStore$Tokens" (wsM y0 b0 nl0 ret0)) (hd : decode cc pc = .ok (.invokevirtual 40, 3)) (hM : mm_ (gLa X) y_To_note w_To_note rm (.ref o :: As) M post) (hst : As.reverse ++ .ref o :: rest = st) (hn : As.length = 3) (hrest : (rest.map fun v => v.category).sum ≤ 8) (hR : gF X rm 5 k n) (he : M[o]? = some (.inr (7, fs))) (hlen : ∀ r M', post r M' → M'.length = M.length) (kk : ∀ r M', post r M' → gg X M' (k + rm.cells) (n + rm.slots) (pc + 3) L (r.toList ++ rest)) : gg X M k n pc L st := g_callV ok (C := RTo) (T := TTo) (N := 5) hM i_To_note ml_To_40 wn_To_note ws_To_note wi_To ⟨rfl, by decide, by decide, by rw [hn]; decide +kernel⟩ rfl hd hst hrest hR he hlen kk
theorem ml_To_72 : Cond.methodLink "TripleStore$Tokens" 72 y_To_isKey ∈ gT := gT_at 603 (by decide +kernel) (by decide +kernel)
theorem wt_To_isKey : Cond.static y_To_isKey ∈ gT := gT_at 604 (by decide +kernel) (by decide +kernel)
theorem gc_To_72 {X : gC} {cc : ByteArray} {M : List mC} {k n pc : Nat} {L : List (Nat × Value)} {st rest : List Value} {y0 : MethodName} {b0 : ByteArray} {nl0 : Nat} {ret0 : Option FieldType} {rm : Room} {As : List Value} {post : Option Value → List mC → Prop} (ok : gO X cc "TripleStore$Tokens" (wsM y0 b0 nl0 ret0)) (hd : decode cc pc = .ok (.invokestatic 72, 3)) (hM : mm_ (gLa X) y_To_isKey w_To_isKey rm As M post) (hst : As.reverse ++ rest = st) (hn : As.length = 1) (hrest : (rest.map fun v => v.category).sum ≤ 8) (hR : gF X rm 2 k n) (hlen : ∀ r M', post r M' → M'.length = M.length) (kk : ∀ r M', post r M' → gg X M' (k + rm.cells) (n + rm.slots) (pc + 3) L (r.toList ++ rest)) : gg X M k n pc L st := g_callS ok hM i_To_isKey ml_To_72 wt_To_isKey wi_To ⟨by decide, by decide, by rw [hn]; decide +kernel⟩ hd hst hrest hR hlen kk
theorem ml_To_53 : Cond.methodLink "TripleStore$Tokens" 53 y_Te_isDigit ∈ gT := gT_at 617 (by decide +kernel) (by decide +kernel)
theorem wt_Te_isDigit : Cond.static y_Te_isDigit ∈ gT := gT_at 618 (by decide +kernel) (by decide +kernel)
theorem gc_To_53 {X : gC} {cc : ByteArray} {M : List mC} {k n pc : Nat} {L : List (Nat × Value)} {st rest : List Value} {y0 : MethodName} {b0 : ByteArray} {nl0 : Nat} {ret0 : Option FieldType} {rm : Room} {As : List Value} {post : Option Value → List mC → Prop} (ok : gO X cc "TripleStore$Tokens" (wsM y0 b0 nl0 ret0)) (hd : decode cc pc = .ok (.invokestatic 53, 3)) (hM : mm_ (gLa X) y_Te_isDigit w_Te_isDigit rm As M post) (hst : As.reverse ++ rest = st) (hn : As.length = 1) (hrest : (rest.map fun v => v.category).sum ≤ 8) (hR : gF X rm 1 k n) (hlen : ∀ r M', post r M' → M'.length = M.length) (kk : ∀ r M', post r M' → gg X M' (k + rm.cells) (n + rm.slots) (pc + 3) L (r.toList ++ rest)) : gg X M k n pc L st := g_callS ok hM i_Te_isDigit ml_To_53 wt_Te_isDigit wi_Te ⟨by decide, by decide, by rw [hn]; decide +kernel⟩ hd hst hrest hR hlen kk
theorem ml_To_56 : Cond.methodLink "TripleStore$Tokens" 56 y_To_readNumber ∈ gT := gT_at 620 (by decide +kernel) (by decide +kernel)
theorem wn_To_readNumber : Cond.instanceMethod y_To_readNumber ∈ gT := gT_at 622 (by decide +kernel) (by decide +kernel)
theorem ws_To_readNumber : Cond.selects "TripleStore$Tokens" y_To_readNumber y_To_readNumber ∈ gT := gT_pr 8 (by decide +kernel) (by decide +kernel)
theorem gc_To_56 {X : gC} {cc : ByteArray} {M : List mC} {k n pc : Nat} {L : List (Nat × Value)} {st rest : List Value} {y0 : MethodName} {b0 : ByteArray} {nl0 : Nat} {ret0 : Option FieldType} {rm : Room} {As : List Value} {post : Option Value → List mC → Prop} {o : Nat} {fs : List Value} (ok : gO X cc "TripleStore$Tokens" (wsM y0 b0 nl0 ret0)) (hd : decode cc pc = .ok (.invokevirtual 56, 3)) (hM : mm_ (gLa X) y_To_readNumber w_To_readNumber rm (.ref o :: As) M post) (hst : As.reverse ++ .ref o :: rest = st) (hn : As.length = 3) (hrest : (rest.map fun v => v.category).sum ≤ 8) (hR : gF X rm 6 k n) (he : M[o]? = some (.inr (7, fs))) (hlen : ∀ r M', post r M' → M'.length = M.length) (kk : ∀ r M', post r M' → gg X M' (k + rm.cells) (n + rm.slots) (pc + 3) L (r.toList ++ rest)) : gg X M k n pc L st := g_callV ok (C := RTo) (T := TTo) (N := 5) hM i_To_readNumber ml_To_56 wn_To_readNumber ws_To_readNumber wi_To ⟨rfl, by decide, by decide, by rw [hn]; decide +kernel⟩ rfl hd hst hrest hR he hlen kk
theorem ml_To_59 : Cond.methodLink "TripleStore$Tokens" 59 y_To_readVariable ∈ gT := gT_at 624 (by decide +kernel) (by decide +kernel)
theorem wn_To_readVariable : Cond.instanceMethod y_To_readVariable ∈ gT := gT_at 626 (by decide +kernel) (by decide +kernel)
theorem ws_To_readVariable : Cond.selects "TripleStore$Tokens" y_To_readVariable y_To_readVariable ∈ gT := gT_pr 9 (by decide +kernel) (by decide +kernel)
theorem gc_To_59 {X : gC} {cc : ByteArray} {M : List mC} {k n pc : Nat} {L : List (Nat × Value)} {st rest : List Value} {y0 : MethodName} {b0 : ByteArray} {nl0 : Nat} {ret0 : Option FieldType} {rm : Room} {As : List Value} {post : Option Value → List mC → Prop} {o : Nat} {fs : List Value} (ok : gO X cc "TripleStore$Tokens" (wsM y0 b0 nl0 ret0)) (hd : decode cc pc = .ok (.invokevirtual 59, 3)) (hM : mm_ (gLa X) y_To_readVariable w_To_readVariable rm (.ref o :: As) M post) (hst : As.reverse ++ .ref o :: rest = st) (hn : As.length = 3) (hrest : (rest.map fun v => v.category).sum ≤ 8) (hR : gF X rm 7 k n) (he : M[o]? = some (.inr (7, fs))) (hlen : ∀ r M', post r M' → M'.length = M.length) (kk : ∀ r M', post r M' → gg X M' (k + rm.cells) (n + rm.slots) (pc + 3) L (r.toList ++ rest)) : gg X M k n pc L st := g_callV ok (C := RTo) (T := TTo) (N := 5) hM i_To_readVariable ml_To_59 wn_To_readVariable ws_To_readVariable wi_To ⟨rfl, by decide, by decide, by rw [hn]; decide +kernel⟩ rfl hd hst hrest hR he hlen kk
theorem ml_To_62 : Cond.methodLink "TripleStore$Tokens" 62 y_To_isSign ∈ gT := gT_at 628 (by decide +kernel) (by decide +kernel)
theorem wt_To_isSign : Cond.static y_To_isSign ∈ gT := gT_at 629 (by decide +kernel) (by decide +kernel)
theorem gc_To_62 {X : gC} {cc : ByteArray} {M : List mC} {k n pc : Nat} {L : List (Nat × Value)} {st rest : List Value} {y0 : MethodName} {b0 : ByteArray} {nl0 : Nat} {ret0 : Option FieldType} {rm : Room} {As : List Value} {post : Option Value → List mC → Prop} (ok : gO X cc "TripleStore$Tokens" (wsM y0 b0 nl0 ret0)) (hd : decode cc pc = .ok (.invokestatic 62, 3)) (hM : mm_ (gLa X) y_To_isSign w_To_isSign rm As M post) (hst : As.reverse ++ rest = st) (hn : As.length = 1) (hrest : (rest.map fun v => v.category).sum ≤ 8) (hR : gF X rm 1 k n) (hlen : ∀ r M', post r M' → M'.length = M.length) (kk : ∀ r M', post r M' → gg X M' (k + rm.cells) (n + rm.slots) (pc + 3) L (r.toList ++ rest)) : gg X M k n pc L st := g_callS ok hM i_To_isSign ml_To_62 wt_To_isSign wi_To ⟨by decide, by decide, by rw [hn]; decide +kernel⟩ hd hst hrest hR hlen kk
theorem ml_TS_144 : Cond.methodLink "TripleStore" 144 y_Pa_readQuery ∈ gT := gT_at 631 (by decide +kernel) (by decide +kernel)
theorem wn_Pa_readQuery : Cond.instanceMethod y_Pa_readQuery ∈ gT := gT_at 632 (by decide +kernel) (by decide +kernel)
theorem ws_Pa_readQuery : Cond.selects "TripleStore$Parser" y_Pa_readQuery y_Pa_readQuery ∈ gT := gT_at 633 (by decide +kernel) (by decide +kernel)
theorem gc_TS_144 {X : gC} {cc : ByteArray} {M : List mC} {k n pc : Nat} {L : List (Nat × Value)} {st rest : List Value} {y0 : MethodName} {b0 : ByteArray} {nl0 : Nat} {ret0 : Option FieldType} {rm : Room} {As : List Value} {post : Option Value → List mC → Prop} {o : Nat} {fs : List Value} (ok : gO X cc "TripleStore" (wsM y0 b0 nl0 ret0)) (hd : decode cc pc = .ok (.invokevirtual 144, 3)) (hM : mm_ (gLa X) y_Pa_readQuery w_Pa_readQuery rm (.ref o :: As) M post) (hst : As.reverse ++ .ref o :: rest = st) (hn : As.length = 0) (hrest : (rest.map fun v => v.category).sum ≤ 8) (hR : gF X rm 1 k n) (he : M[o]? = some (.inr (1, fs))) (hlen : ∀ r M', post r M' → M'.length = M.length) (kk : ∀ r M', post r M' → gg X M' (k + rm.cells) (n + rm.slots) (pc + 3) L (r.toList ++ rest)) : gg X M k n pc L st := g_callV ok (C := RPa) (T := TPa) (N := 3) hM i_Pa_readQuery ml_TS_144 wn_Pa_readQuery ws_Pa_readQuery wi_Pa ⟨rfl, by decide, by decide, by rw [hn]; decide +kernel⟩ rfl hd hst hrest hR he hlen kk
theorem ml_Pa_23 : Cond.methodLink "TripleStore$Parser" 23 y_Qu_clear ∈ gT := gT_at 635 (by decide +kernel) (by decide +kernel)
theorem wn_Qu_clear : Cond.instanceMethod y_Qu_clear ∈ gT := gT_at 636 (by decide +kernel) (by decide +kernel)
theorem ws_Qu_clear : Cond.selects "TripleStore$Query" y_Qu_clear y_Qu_clear ∈ gT := gT_at 637 (by decide +kernel) (by decide +kernel)
theorem gc_Pa_23 {X : gC} {cc : ByteArray} {M : List mC} {k n pc : Nat} {L : List (Nat × Value)} {st rest : List Value} {y0 : MethodName} {b0 : ByteArray} {nl0 : Nat} {ret0 : Option FieldType} {rm : Room} {As : List Value} {post : Option Value → List mC → Prop} {o : Nat} {fs : List Value} (ok : gO X cc "TripleStore$Parser" (wsM y0 b0 nl0 ret0)) (hd : decode cc pc = .ok (.invokevirtual 23, 3)) (hM : mm_ (gLa X) y_Qu_clear w_Qu_clear rm (.ref o :: As) M post) (hst : As.reverse ++ .ref o :: rest = st) (hn : As.length = 0) (hrest : (rest.map fun v => v.category).sum ≤ 8) (hR : gF X rm 1 k n) (he : M[o]? = some (.inr (2, fs))) (hlen : ∀ r M', post r M' → M'.length = M.length) (kk : ∀ r M', post r M' → gg X M' (k + rm.cells) (n + rm.slots) (pc + 3) L (r.toList ++ rest)) : gg X M k n pc L st := g_callV ok (C := RQu) (T := TQu) (N := 12) hM i_Qu_clear ml_Pa_23 wn_Qu_clear ws_Qu_clear wi_Qu ⟨rfl, by decide, by decide, by rw [hn]; decide +kernel⟩ rfl hd hst hrest hR he hlen kk
theorem ml_Pa_32 : Cond.methodLink "TripleStore$Parser" 32 y_To_takeKey ∈ gT := gT_at 640 (by decide +kernel) (by decide +kernel)
theorem wn_To_takeKey : Cond.instanceMethod y_To_takeKey ∈ gT := gT_at 641 (by decide +kernel) (by decide +kernel)
theorem ws_To_takeKey : Cond.selects "TripleStore$Tokens" y_To_takeKey y_To_takeKey ∈ gT := gT_at 642 (by decide +kernel) (by decide +kernel)
theorem gc_Pa_32 {X : gC} {cc : ByteArray} {M : List mC} {k n pc : Nat} {L : List (Nat × Value)} {st rest : List Value} {y0 : MethodName} {b0 : ByteArray} {nl0 : Nat} {ret0 : Option FieldType} {rm : Room} {As : List Value} {post : Option Value → List mC → Prop} {o : Nat} {fs : List Value} (ok : gO X cc "TripleStore$Parser" (wsM y0 b0 nl0 ret0)) (hd : decode cc pc = .ok (.invokevirtual 32, 3)) (hM : mm_ (gLa X) y_To_takeKey w_To_takeKey rm (.ref o :: As) M post) (hst : As.reverse ++ .ref o :: rest = st) (hn : As.length = 1) (hrest : (rest.map fun v => v.category).sum ≤ 8) (hR : gF X rm 4 k n) (he : M[o]? = some (.inr (7, fs))) (hlen : ∀ r M', post r M' → M'.length = M.length) (kk : ∀ r M', post r M' → gg X M' (k + rm.cells) (n + rm.slots) (pc + 3) L (r.toList ++ rest)) : gg X M k n pc L st := g_callV ok (C := RTo) (T := TTo) (N := 5) hM i_To_takeKey ml_Pa_32 wn_To_takeKey ws_To_takeKey wi_To ⟨rfl, by decide, by decide, by rw [hn]; decide +kernel⟩ rfl hd hst hrest hR he hlen kk
theorem ml_To_33 : Cond.methodLink "TripleStore$Tokens" 33 y_To_step ∈ gT := gT_at 644 (by decide +kernel) (by decide +kernel)
theorem wn_To_step : Cond.instanceMethod y_To_step ∈ gT := gT_at 645 (by decide +kernel) (by decide +kernel)
theorem ws_To_step : Cond.selects "TripleStore$Tokens" y_To_step y_To_step ∈ gT := gT_at 646 (by decide +kernel) (by decide +kernel)
theorem gc_To_33 {X : gC} {cc : ByteArray} {M : List mC} {k n pc : Nat} {L : List (Nat × Value)} {st rest : List Value} {y0 : MethodName} {b0 : ByteArray} {nl0 : Nat} {ret0 : Option FieldType} {rm : Room} {As : List Value} {post : Option Value → List mC → Prop} {o : Nat} {fs : List Value} (ok : gO X cc "TripleStore$Tokens" (wsM y0 b0 nl0 ret0)) (hd : decode cc pc = .ok (.invokevirtual 33, 3)) (hM : mm_ (gLa X) y_To_step w_To_step rm (.ref o :: As) M post) (hst : As.reverse ++ .ref o :: rest = st) (hn : As.length = 0) (hrest : (rest.map fun v => v.category).sum ≤ 8) (hR : gF X rm 1 k n) (he : M[o]? = some (.inr (7, fs))) (hlen : ∀ r M', post r M' → M'.length = M.length) (kk : ∀ r M', post r M' → gg X M' (k + rm.cells) (n + rm.slots) (pc + 3) L (r.toList ++ rest)) : gg X M k n pc L st := g_callV ok (C := RTo) (T := TTo) (N := 5) hM i_To_step ml_To_33 wn_To_step ws_To_step wi_To ⟨rfl, by decide, by decide, by rw [hn]; decide +kernel⟩ rfl hd hst hrest hR he hlen kk
theorem ml_Pa_36 : Cond.methodLink "TripleStore$Parser" 36 y_Pa_readSelected ∈ gT := gT_at 648 (by decide +kernel) (by decide +kernel)
theorem wn_Pa_readSelected : Cond.instanceMethod y_Pa_readSelected ∈ gT := gT_at 650 (by decide +kernel) (by decide +kernel)
theorem ws_Pa_readSelected : Cond.selects "TripleStore$Parser" y_Pa_readSelected y_Pa_readSelected ∈ gT := gT_pr 10 (by decide +kernel) (by decide +kernel)
theorem gc_Pa_36 {X : gC} {cc : ByteArray} {M : List mC} {k n pc : Nat} {L : List (Nat × Value)} {st rest : List Value} {y0 : MethodName} {b0 : ByteArray} {nl0 : Nat} {ret0 : Option FieldType} {rm : Room} {As : List Value} {post : Option Value → List mC → Prop} {o : Nat} {fs : List Value} (ok : gO X cc "TripleStore$Parser" (wsM y0 b0 nl0 ret0)) (hd : decode cc pc = .ok (.invokevirtual 36, 3)) (hM : mm_ (gLa X) y_Pa_readSelected w_Pa_readSelected rm (.ref o :: As) M post) (hst : As.reverse ++ .ref o :: rest = st) (hn : As.length = 0) (hrest : (rest.map fun v => v.category).sum ≤ 8) (hR : gF X rm 2 k n) (he : M[o]? = some (.inr (1, fs))) (hlen : ∀ r M', post r M' → M'.length = M.length) (kk : ∀ r M', post r M' → gg X M' (k + rm.cells) (n + rm.slots) (pc + 3) L (r.toList ++ rest)) : gg X M k n pc L st := g_callV ok (C := RPa) (T := TPa) (N := 3) hM i_Pa_readSelected ml_Pa_36 wn_Pa_readSelected ws_Pa_readSelected wi_Pa ⟨rfl, by decide, by decide, by rw [hn]; decide +kernel⟩ rfl hd hst hrest hR he hlen kk
theorem ml_Pa_50 : Cond.methodLink "TripleStore$Parser" 50 y_To_kind ∈ gT := gT_at 653 (by decide +kernel) (by decide +kernel)
theorem wn_To_kind : Cond.instanceMethod y_To_kind ∈ gT := gT_at 654 (by decide +kernel) (by decide +kernel)
theorem ws_To_kind : Cond.selects "TripleStore$Tokens" y_To_kind y_To_kind ∈ gT := gT_at 655 (by decide +kernel) (by decide +kernel)
theorem gc_Pa_50 {X : gC} {cc : ByteArray} {M : List mC} {k n pc : Nat} {L : List (Nat × Value)} {st rest : List Value} {y0 : MethodName} {b0 : ByteArray} {nl0 : Nat} {ret0 : Option FieldType} {rm : Room} {As : List Value} {post : Option Value → List mC → Prop} {o : Nat} {fs : List Value} (ok : gO X cc "TripleStore$Parser" (wsM y0 b0 nl0 ret0)) (hd : decode cc pc = .ok (.invokevirtual 50, 3)) (hM : mm_ (gLa X) y_To_kind w_To_kind rm (.ref o :: As) M post) (hst : As.reverse ++ .ref o :: rest = st) (hn : As.length = 0) (hrest : (rest.map fun v => v.category).sum ≤ 8) (hR : gF X rm 1 k n) (he : M[o]? = some (.inr (7, fs))) (hlen : ∀ r M', post r M' → M'.length = M.length) (kk : ∀ r M', post r M' → gg X M' (k + rm.cells) (n + rm.slots) (pc + 3) L (r.toList ++ rest)) : gg X M k n pc L st := g_callV ok (C := RTo) (T := TTo) (N := 5) hM i_To_kind ml_Pa_50 wn_To_kind ws_To_kind wi_To ⟨rfl, by decide, by decide, by rw [hn]; decide +kernel⟩ rfl hd hst hrest hR he hlen kk
theorem ml_Pa_60 : Cond.methodLink "TripleStore$Parser" 60 y_Pa_readVariable ∈ gT := gT_at 657 (by decide +kernel) (by decide +kernel)
theorem wn_Pa_readVariable : Cond.instanceMethod y_Pa_readVariable ∈ gT := gT_at 659 (by decide +kernel) (by decide +kernel)
theorem ws_Pa_readVariable : Cond.selects "TripleStore$Parser" y_Pa_readVariable y_Pa_readVariable ∈ gT := gT_pr 11 (by decide +kernel) (by decide +kernel)
theorem gc_Pa_60 {X : gC} {cc : ByteArray} {M : List mC} {k n pc : Nat} {L : List (Nat × Value)} {st rest : List Value} {y0 : MethodName} {b0 : ByteArray} {nl0 : Nat} {ret0 : Option FieldType} {rm : Room} {As : List Value} {post : Option Value → List mC → Prop} {o : Nat} {fs : List Value} (ok : gO X cc "TripleStore$Parser" (wsM y0 b0 nl0 ret0)) (hd : decode cc pc = .ok (.invokevirtual 60, 3)) (hM : mm_ (gLa X) y_Pa_readVariable w_Pa_readVariable rm (.ref o :: As) M post) (hst : As.reverse ++ .ref o :: rest = st) (hn : As.length = 0) (hrest : (rest.map fun v => v.category).sum ≤ 8) (hR : gF X rm 2 k n) (he : M[o]? = some (.inr (1, fs))) (hlen : ∀ r M', post r M' → M'.length = M.length) (kk : ∀ r M', post r M' → gg X M' (k + rm.cells) (n + rm.slots) (pc + 3) L (r.toList ++ rest)) : gg X M k n pc L st := g_callV ok (C := RPa) (T := TPa) (N := 3) hM i_Pa_readVariable ml_Pa_60 wn_Pa_readVariable ws_Pa_readVariable wi_Pa ⟨rfl, by decide, by decide, by rw [hn]; decide +kernel⟩ rfl hd hst hrest hR he hlen kk
theorem ml_Pa_85 : Cond.methodLink "TripleStore$Parser" 85 y_To_value ∈ gT := gT_at 661 (by decide +kernel) (by decide +kernel)
theorem wn_To_value : Cond.instanceMethod y_To_value ∈ gT := gT_at 662 (by decide +kernel) (by decide +kernel)
theorem ws_To_value : Cond.selects "TripleStore$Tokens" y_To_value y_To_value ∈ gT := gT_at 663 (by decide +kernel) (by decide +kernel)
theorem gc_Pa_85 {X : gC} {cc : ByteArray} {M : List mC} {k n pc : Nat} {L : List (Nat × Value)} {st rest : List Value} {y0 : MethodName} {b0 : ByteArray} {nl0 : Nat} {ret0 : Option FieldType} {rm : Room} {As : List Value} {post : Option Value → List mC → Prop} {o : Nat} {fs : List Value} (ok : gO X cc "TripleStore$Parser" (wsM y0 b0 nl0 ret0)) (hd : decode cc pc = .ok (.invokevirtual 85, 3)) (hM : mm_ (gLa X) y_To_value w_To_value rm (.ref o :: As) M post) (hst : As.reverse ++ .ref o :: rest = st) (hn : As.length = 0) (hrest : (rest.map fun v => v.category).sum ≤ 8) (hR : gF X rm 1 k n) (he : M[o]? = some (.inr (7, fs))) (hlen : ∀ r M', post r M' → M'.length = M.length) (kk : ∀ r M', post r M' → gg X M' (k + rm.cells) (n + rm.slots) (pc + 3) L (r.toList ++ rest)) : gg X M k n pc L st := g_callV ok (C := RTo) (T := TTo) (N := 5) hM i_To_value ml_Pa_85 wn_To_value ws_To_value wi_To ⟨rfl, by decide, by decide, by rw [hn]; decide +kernel⟩ rfl hd hst hrest hR he hlen kk
theorem ml_Pa_175 : Cond.methodLink "TripleStore$Parser" 175 y_Qu_variable ∈ gT := gT_at 665 (by decide +kernel) (by decide +kernel)
theorem wn_Qu_variable : Cond.instanceMethod y_Qu_variable ∈ gT := gT_at 666 (by decide +kernel) (by decide +kernel)
theorem ws_Qu_variable : Cond.selects "TripleStore$Query" y_Qu_variable y_Qu_variable ∈ gT := gT_at 667 (by decide +kernel) (by decide +kernel)
theorem gc_Pa_175 {X : gC} {cc : ByteArray} {M : List mC} {k n pc : Nat} {L : List (Nat × Value)} {st rest : List Value} {y0 : MethodName} {b0 : ByteArray} {nl0 : Nat} {ret0 : Option FieldType} {rm : Room} {As : List Value} {post : Option Value → List mC → Prop} {o : Nat} {fs : List Value} (ok : gO X cc "TripleStore$Parser" (wsM y0 b0 nl0 ret0)) (hd : decode cc pc = .ok (.invokevirtual 175, 3)) (hM : mm_ (gLa X) y_Qu_variable w_Qu_variable rm (.ref o :: As) M post) (hst : As.reverse ++ .ref o :: rest = st) (hn : As.length = 1) (hrest : (rest.map fun v => v.category).sum ≤ 8) (hR : gF X rm 4 k n) (he : M[o]? = some (.inr (2, fs))) (hlen : ∀ r M', post r M' → M'.length = M.length) (kk : ∀ r M', post r M' → gg X M' (k + rm.cells) (n + rm.slots) (pc + 3) L (r.toList ++ rest)) : gg X M k n pc L st := g_callV ok (C := RQu) (T := TQu) (N := 12) hM i_Qu_variable ml_Pa_175 wn_Qu_variable ws_Qu_variable wi_Qu ⟨rfl, by decide, by decide, by rw [hn]; decide +kernel⟩ rfl hd hst hrest hR he hlen kk
theorem ml_Pa_97 : Cond.methodLink "TripleStore$Parser" 97 y_To_step ∈ gT := gT_at 669 (by decide +kernel) (by decide +kernel)
theorem gc_Pa_97 {X : gC} {cc : ByteArray} {M : List mC} {k n pc : Nat} {L : List (Nat × Value)} {st rest : List Value} {y0 : MethodName} {b0 : ByteArray} {nl0 : Nat} {ret0 : Option FieldType} {rm : Room} {As : List Value} {post : Option Value → List mC → Prop} {o : Nat} {fs : List Value} (ok : gO X cc "TripleStore$Parser" (wsM y0 b0 nl0 ret0)) (hd : decode cc pc = .ok (.invokevirtual 97, 3)) (hM : mm_ (gLa X) y_To_step w_To_step rm (.ref o :: As) M post) (hst : As.reverse ++ .ref o :: rest = st) (hn : As.length = 0) (hrest : (rest.map fun v => v.category).sum ≤ 8) (hR : gF X rm 1 k n) (he : M[o]? = some (.inr (7, fs))) (hlen : ∀ r M', post r M' → M'.length = M.length) (kk : ∀ r M', post r M' → gg X M' (k + rm.cells) (n + rm.slots) (pc + 3) L (r.toList ++ rest)) : gg X M k n pc L st := g_callV ok (C := RTo) (T := TTo) (N := 5) hM i_To_step ml_Pa_97 wn_To_step ws_To_step wi_To ⟨rfl, by decide, by decide, by rw [hn]; decide +kernel⟩ rfl hd hst hrest hR he hlen kk
theorem ml_Pa_40 : Cond.methodLink "TripleStore$Parser" 40 y_Pa_readGroup ∈ gT := gT_at 671 (by decide +kernel) (by decide +kernel)
theorem wn_Pa_readGroup : Cond.instanceMethod y_Pa_readGroup ∈ gT := gT_at 673 (by decide +kernel) (by decide +kernel)
theorem ws_Pa_readGroup : Cond.selects "TripleStore$Parser" y_Pa_readGroup y_Pa_readGroup ∈ gT := gT_pr 12 (by decide +kernel) (by decide +kernel)
theorem gc_Pa_40 {X : gC} {cc : ByteArray} {M : List mC} {k n pc : Nat} {L : List (Nat × Value)} {st rest : List Value} {y0 : MethodName} {b0 : ByteArray} {nl0 : Nat} {ret0 : Option FieldType} {rm : Room} {As : List Value} {post : Option Value → List mC → Prop} {o : Nat} {fs : List Value} (ok : gO X cc "TripleStore$Parser" (wsM y0 b0 nl0 ret0)) (hd : decode cc pc = .ok (.invokevirtual 40, 3)) (hM : mm_ (gLa X) y_Pa_readGroup w_Pa_readGroup rm (.ref o :: As) M post) (hst : As.reverse ++ .ref o :: rest = st) (hn : As.length = 2) (hrest : (rest.map fun v => v.category).sum ≤ 8) (hR : gF X rm 5 k n) (he : M[o]? = some (.inr (1, fs))) (hlen : ∀ r M', post r M' → M'.length = M.length) (kk : ∀ r M', post r M' → gg X M' (k + rm.cells) (n + rm.slots) (pc + 3) L (r.toList ++ rest)) : gg X M k n pc L st := g_callV ok (C := RPa) (T := TPa) (N := 3) hM i_Pa_readGroup ml_Pa_40 wn_Pa_readGroup ws_Pa_readGroup wi_Pa ⟨rfl, by decide, by decide, by rw [hn]; decide +kernel⟩ rfl hd hst hrest hR he hlen kk
theorem ml_Pa_100 : Cond.methodLink "TripleStore$Parser" 100 y_To_isAtSign ∈ gT := gT_at 675 (by decide +kernel) (by decide +kernel)
theorem wn_To_isAtSign : Cond.instanceMethod y_To_isAtSign ∈ gT := gT_at 676 (by decide +kernel) (by decide +kernel)
theorem ws_To_isAtSign : Cond.selects "TripleStore$Tokens" y_To_isAtSign y_To_isAtSign ∈ gT := gT_at 677 (by decide +kernel) (by decide +kernel)
theorem gc_Pa_100 {X : gC} {cc : ByteArray} {M : List mC} {k n pc : Nat} {L : List (Nat × Value)} {st rest : List Value} {y0 : MethodName} {b0 : ByteArray} {nl0 : Nat} {ret0 : Option FieldType} {rm : Room} {As : List Value} {post : Option Value → List mC → Prop} {o : Nat} {fs : List Value} (ok : gO X cc "TripleStore$Parser" (wsM y0 b0 nl0 ret0)) (hd : decode cc pc = .ok (.invokevirtual 100, 3)) (hM : mm_ (gLa X) y_To_isAtSign w_To_isAtSign rm (.ref o :: As) M post) (hst : As.reverse ++ .ref o :: rest = st) (hn : As.length = 1) (hrest : (rest.map fun v => v.category).sum ≤ 8) (hR : gF X rm 2 k n) (he : M[o]? = some (.inr (7, fs))) (hlen : ∀ r M', post r M' → M'.length = M.length) (kk : ∀ r M', post r M' → gg X M' (k + rm.cells) (n + rm.slots) (pc + 3) L (r.toList ++ rest)) : gg X M k n pc L st := g_callV ok (C := RTo) (T := TTo) (N := 5) hM i_To_isAtSign ml_Pa_100 wn_To_isAtSign ws_To_isAtSign wi_To ⟨rfl, by decide, by decide, by rw [hn]; decide +kernel⟩ rfl hd hst hrest hR he hlen kk
theorem ml_Pa_104 : Cond.methodLink "TripleStore$Parser" 104 y_Qu_newGroup ∈ gT := gT_at 679 (by decide +kernel) (by decide +kernel)
theorem wn_Qu_newGroup : Cond.instanceMethod y_Qu_newGroup ∈ gT := gT_at 680 (by decide +kernel) (by decide +kernel)
theorem ws_Qu_newGroup : Cond.selects "TripleStore$Query" y_Qu_newGroup y_Qu_newGroup ∈ gT := gT_at 681 (by decide +kernel) (by decide +kernel)
theorem gc_Pa_104 {X : gC} {cc : ByteArray} {M : List mC} {k n pc : Nat} {L : List (Nat × Value)} {st rest : List Value} {y0 : MethodName} {b0 : ByteArray} {nl0 : Nat} {ret0 : Option FieldType} {rm : Room} {As : List Value} {post : Option Value → List mC → Prop} {o : Nat} {fs : List Value} (ok : gO X cc "TripleStore$Parser" (wsM y0 b0 nl0 ret0)) (hd : decode cc pc = .ok (.invokevirtual 104, 3)) (hM : mm_ (gLa X) y_Qu_newGroup w_Qu_newGroup rm (.ref o :: As) M post) (hst : As.reverse ++ .ref o :: rest = st) (hn : As.length = 1) (hrest : (rest.map fun v => v.category).sum ≤ 8) (hR : gF X rm 2 k n) (he : M[o]? = some (.inr (2, fs))) (hlen : ∀ r M', post r M' → M'.length = M.length) (kk : ∀ r M', post r M' → gg X M' (k + rm.cells) (n + rm.slots) (pc + 3) L (r.toList ++ rest)) : gg X M k n pc L st := g_callV ok (C := RQu) (T := TQu) (N := 12) hM i_Qu_newGroup ml_Pa_104 wn_Qu_newGroup ws_Qu_newGroup wi_Qu ⟨rfl, by decide, by decide, by rw [hn]; decide +kernel⟩ rfl hd hst hrest hR he hlen kk
theorem ml_Pa_108 : Cond.methodLink "TripleStore$Parser" 108 y_To_takeSign ∈ gT := gT_at 683 (by decide +kernel) (by decide +kernel)
theorem wn_To_takeSign : Cond.instanceMethod y_To_takeSign ∈ gT := gT_at 684 (by decide +kernel) (by decide +kernel)
theorem ws_To_takeSign : Cond.selects "TripleStore$Tokens" y_To_takeSign y_To_takeSign ∈ gT := gT_at 685 (by decide +kernel) (by decide +kernel)
theorem gc_Pa_108 {X : gC} {cc : ByteArray} {M : List mC} {k n pc : Nat} {L : List (Nat × Value)} {st rest : List Value} {y0 : MethodName} {b0 : ByteArray} {nl0 : Nat} {ret0 : Option FieldType} {rm : Room} {As : List Value} {post : Option Value → List mC → Prop} {o : Nat} {fs : List Value} (ok : gO X cc "TripleStore$Parser" (wsM y0 b0 nl0 ret0)) (hd : decode cc pc = .ok (.invokevirtual 108, 3)) (hM : mm_ (gLa X) y_To_takeSign w_To_takeSign rm (.ref o :: As) M post) (hst : As.reverse ++ .ref o :: rest = st) (hn : As.length = 1) (hrest : (rest.map fun v => v.category).sum ≤ 8) (hR : gF X rm 3 k n) (he : M[o]? = some (.inr (7, fs))) (hlen : ∀ r M', post r M' → M'.length = M.length) (kk : ∀ r M', post r M' → gg X M' (k + rm.cells) (n + rm.slots) (pc + 3) L (r.toList ++ rest)) : gg X M k n pc L st := g_callV ok (C := RTo) (T := TTo) (N := 5) hM i_To_takeSign ml_Pa_108 wn_To_takeSign ws_To_takeSign wi_To ⟨rfl, by decide, by decide, by rw [hn]; decide +kernel⟩ rfl hd hst hrest hR he hlen kk
theorem ml_To_29 : Cond.methodLink "TripleStore$Tokens" 29 y_To_isAtSign ∈ gT := gT_at 687 (by decide +kernel) (by decide +kernel)
theorem gc_To_29 {X : gC} {cc : ByteArray} {M : List mC} {k n pc : Nat} {L : List (Nat × Value)} {st rest : List Value} {y0 : MethodName} {b0 : ByteArray} {nl0 : Nat} {ret0 : Option FieldType} {rm : Room} {As : List Value} {post : Option Value → List mC → Prop} {o : Nat} {fs : List Value} (ok : gO X cc "TripleStore$Tokens" (wsM y0 b0 nl0 ret0)) (hd : decode cc pc = .ok (.invokevirtual 29, 3)) (hM : mm_ (gLa X) y_To_isAtSign w_To_isAtSign rm (.ref o :: As) M post) (hst : As.reverse ++ .ref o :: rest = st) (hn : As.length = 1) (hrest : (rest.map fun v => v.category).sum ≤ 8) (hR : gF X rm 2 k n) (he : M[o]? = some (.inr (7, fs))) (hlen : ∀ r M', post r M' → M'.length = M.length) (kk : ∀ r M', post r M' → gg X M' (k + rm.cells) (n + rm.slots) (pc + 3) L (r.toList ++ rest)) : gg X M k n pc L st := g_callV ok (C := RTo) (T := TTo) (N := 5) hM i_To_isAtSign ml_To_29 wn_To_isAtSign ws_To_isAtSign wi_To ⟨rfl, by decide, by decide, by rw [hn]; decide +kernel⟩ rfl hd hst hrest hR he hlen kk
theorem ml_Pa_111 : Cond.methodLink "TripleStore$Parser" 111 y_Pa_readElement ∈ gT := gT_at 688 (by decide +kernel) (by decide +kernel)
theorem wn_Pa_readElement : Cond.instanceMethod y_Pa_readElement ∈ gT := gT_at 690 (by decide +kernel) (by decide +kernel)
theorem ws_Pa_readElement : Cond.selects "TripleStore$Parser" y_Pa_readElement y_Pa_readElement ∈ gT := gT_pr 13 (by decide +kernel) (by decide +kernel)
theorem gc_Pa_111 {X : gC} {cc : ByteArray} {M : List mC} {k n pc : Nat} {L : List (Nat × Value)} {st rest : List Value} {y0 : MethodName} {b0 : ByteArray} {nl0 : Nat} {ret0 : Option FieldType} {rm : Room} {As : List Value} {post : Option Value → List mC → Prop} {o : Nat} {fs : List Value} (ok : gO X cc "TripleStore$Parser" (wsM y0 b0 nl0 ret0)) (hd : decode cc pc = .ok (.invokevirtual 111, 3)) (hM : mm_ (gLa X) y_Pa_readElement w_Pa_readElement rm (.ref o :: As) M post) (hst : As.reverse ++ .ref o :: rest = st) (hn : As.length = 2) (hrest : (rest.map fun v => v.category).sum ≤ 8) (hR : gF X rm 5 k n) (he : M[o]? = some (.inr (1, fs))) (hlen : ∀ r M', post r M' → M'.length = M.length) (kk : ∀ r M', post r M' → gg X M' (k + rm.cells) (n + rm.slots) (pc + 3) L (r.toList ++ rest)) : gg X M k n pc L st := g_callV ok (C := RPa) (T := TPa) (N := 3) hM i_Pa_readElement ml_Pa_111 wn_Pa_readElement ws_Pa_readElement wi_Pa ⟨rfl, by decide, by decide, by rw [hn]; decide +kernel⟩ rfl hd hst hrest hR he hlen kk
theorem ml_Pa_114 : Cond.methodLink "TripleStore$Parser" 114 y_Qu_newElement ∈ gT := gT_at 692 (by decide +kernel) (by decide +kernel)
theorem wn_Qu_newElement : Cond.instanceMethod y_Qu_newElement ∈ gT := gT_at 693 (by decide +kernel) (by decide +kernel)
theorem ws_Qu_newElement : Cond.selects "TripleStore$Query" y_Qu_newElement y_Qu_newElement ∈ gT := gT_at 694 (by decide +kernel) (by decide +kernel)
theorem gc_Pa_114 {X : gC} {cc : ByteArray} {M : List mC} {k n pc : Nat} {L : List (Nat × Value)} {st rest : List Value} {y0 : MethodName} {b0 : ByteArray} {nl0 : Nat} {ret0 : Option FieldType} {rm : Room} {As : List Value} {post : Option Value → List mC → Prop} {o : Nat} {fs : List Value} (ok : gO X cc "TripleStore$Parser" (wsM y0 b0 nl0 ret0)) (hd : decode cc pc = .ok (.invokevirtual 114, 3)) (hM : mm_ (gLa X) y_Qu_newElement w_Qu_newElement rm (.ref o :: As) M post) (hst : As.reverse ++ .ref o :: rest = st) (hn : As.length = 1) (hrest : (rest.map fun v => v.category).sum ≤ 8) (hR : gF X rm 2 k n) (he : M[o]? = some (.inr (2, fs))) (hlen : ∀ r M', post r M' → M'.length = M.length) (kk : ∀ r M', post r M' → gg X M' (k + rm.cells) (n + rm.slots) (pc + 3) L (r.toList ++ rest)) : gg X M k n pc L st := g_callV ok (C := RQu) (T := TQu) (N := 12) hM i_Qu_newElement ml_Pa_114 wn_Qu_newElement ws_Qu_newElement wi_Qu ⟨rfl, by decide, by decide, by rw [hn]; decide +kernel⟩ rfl hd hst hrest hR he hlen kk
theorem ml_Pa_127 : Cond.methodLink "TripleStore$Parser" 127 y_Pa_readNots ∈ gT := gT_at 697 (by decide +kernel) (by decide +kernel)
theorem wn_Pa_readNots : Cond.instanceMethod y_Pa_readNots ∈ gT := gT_at 699 (by decide +kernel) (by decide +kernel)
theorem ws_Pa_readNots : Cond.selects "TripleStore$Parser" y_Pa_readNots y_Pa_readNots ∈ gT := gT_pr 14 (by decide +kernel) (by decide +kernel)
theorem gc_Pa_127 {X : gC} {cc : ByteArray} {M : List mC} {k n pc : Nat} {L : List (Nat × Value)} {st rest : List Value} {y0 : MethodName} {b0 : ByteArray} {nl0 : Nat} {ret0 : Option FieldType} {rm : Room} {As : List Value} {post : Option Value → List mC → Prop} {o : Nat} {fs : List Value} (ok : gO X cc "TripleStore$Parser" (wsM y0 b0 nl0 ret0)) (hd : decode cc pc = .ok (.invokevirtual 127, 3)) (hM : mm_ (gLa X) y_Pa_readNots w_Pa_readNots rm (.ref o :: As) M post) (hst : As.reverse ++ .ref o :: rest = st) (hn : As.length = 1) (hrest : (rest.map fun v => v.category).sum ≤ 8) (hR : gF X rm 3 k n) (he : M[o]? = some (.inr (1, fs))) (hlen : ∀ r M', post r M' → M'.length = M.length) (kk : ∀ r M', post r M' → gg X M' (k + rm.cells) (n + rm.slots) (pc + 3) L (r.toList ++ rest)) : gg X M k n pc L st := g_callV ok (C := RPa) (T := TPa) (N := 3) hM i_Pa_readNots ml_Pa_127 wn_Pa_readNots ws_Pa_readNots wi_Pa ⟨rfl, by decide, by decide, by rw [hn]; decide +kernel⟩ rfl hd hst hrest hR he hlen kk
theorem ml_Pa_133 : Cond.methodLink "TripleStore$Parser" 133 y_Pa_readBound ∈ gT := gT_at 703 (by decide +kernel) (by decide +kernel)
theorem wn_Pa_readBound : Cond.instanceMethod y_Pa_readBound ∈ gT := gT_at 705 (by decide +kernel) (by decide +kernel)
theorem ws_Pa_readBound : Cond.selects "TripleStore$Parser" y_Pa_readBound y_Pa_readBound ∈ gT := gT_pr 15 (by decide +kernel) (by decide +kernel)
theorem gc_Pa_133 {X : gC} {cc : ByteArray} {M : List mC} {k n pc : Nat} {L : List (Nat × Value)} {st rest : List Value} {y0 : MethodName} {b0 : ByteArray} {nl0 : Nat} {ret0 : Option FieldType} {rm : Room} {As : List Value} {post : Option Value → List mC → Prop} {o : Nat} {fs : List Value} (ok : gO X cc "TripleStore$Parser" (wsM y0 b0 nl0 ret0)) (hd : decode cc pc = .ok (.invokevirtual 133, 3)) (hM : mm_ (gLa X) y_Pa_readBound w_Pa_readBound rm (.ref o :: As) M post) (hst : As.reverse ++ .ref o :: rest = st) (hn : As.length = 1) (hrest : (rest.map fun v => v.category).sum ≤ 8) (hR : gF X rm 3 k n) (he : M[o]? = some (.inr (1, fs))) (hlen : ∀ r M', post r M' → M'.length = M.length) (kk : ∀ r M', post r M' → gg X M' (k + rm.cells) (n + rm.slots) (pc + 3) L (r.toList ++ rest)) : gg X M k n pc L st := g_callV ok (C := RPa) (T := TPa) (N := 3) hM i_Pa_readBound ml_Pa_133 wn_Pa_readBound ws_Pa_readBound wi_Pa ⟨rfl, by decide, by decide, by rw [hn]; decide +kernel⟩ rfl hd hst hrest hR he hlen kk
theorem ml_Pa_137 : Cond.methodLink "TripleStore$Parser" 137 y_Pa_readComparison ∈ gT := gT_at 707 (by decide +kernel) (by decide +kernel)
theorem wn_Pa_readComparison : Cond.instanceMethod y_Pa_readComparison ∈ gT := gT_at 709 (by decide +kernel) (by decide +kernel)
theorem ws_Pa_readComparison : Cond.selects "TripleStore$Parser" y_Pa_readComparison y_Pa_readComparison ∈ gT := gT_pr 16 (by decide +kernel) (by decide +kernel)
theorem gc_Pa_137 {X : gC} {cc : ByteArray} {M : List mC} {k n pc : Nat} {L : List (Nat × Value)} {st rest : List Value} {y0 : MethodName} {b0 : ByteArray} {nl0 : Nat} {ret0 : Option FieldType} {rm : Room} {As : List Value} {post : Option Value → List mC → Prop} {o : Nat} {fs : List Value} (ok : gO X cc "TripleStore$Parser" (wsM y0 b0 nl0 ret0)) (hd : decode cc pc = .ok (.invokevirtual 137, 3)) (hM : mm_ (gLa X) y_Pa_readComparison w_Pa_readComparison rm (.ref o :: As) M post) (hst : As.reverse ++ .ref o :: rest = st) (hn : As.length = 1) (hrest : (rest.map fun v => v.category).sum ≤ 8) (hR : gF X rm 3 k n) (he : M[o]? = some (.inr (1, fs))) (hlen : ∀ r M', post r M' → M'.length = M.length) (kk : ∀ r M', post r M' → gg X M' (k + rm.cells) (n + rm.slots) (pc + 3) L (r.toList ++ rest)) : gg X M k n pc L st := g_callV ok (C := RPa) (T := TPa) (N := 3) hM i_Pa_readComparison ml_Pa_137 wn_Pa_readComparison ws_Pa_readComparison wi_Pa ⟨rfl, by decide, by decide, by rw [hn]; decide +kernel⟩ rfl hd hst hrest hR he hlen kk
theorem ml_Pa_152 : Cond.methodLink "TripleStore$Parser" 152 y_Pa_readSide ∈ gT := gT_at 711 (by decide +kernel) (by decide +kernel)
theorem wn_Pa_readSide : Cond.instanceMethod y_Pa_readSide ∈ gT := gT_at 713 (by decide +kernel) (by decide +kernel)
theorem ws_Pa_readSide : Cond.selects "TripleStore$Parser" y_Pa_readSide y_Pa_readSide ∈ gT := gT_pr 17 (by decide +kernel) (by decide +kernel)
theorem gc_Pa_152 {X : gC} {cc : ByteArray} {M : List mC} {k n pc : Nat} {L : List (Nat × Value)} {st rest : List Value} {y0 : MethodName} {b0 : ByteArray} {nl0 : Nat} {ret0 : Option FieldType} {rm : Room} {As : List Value} {post : Option Value → List mC → Prop} {o : Nat} {fs : List Value} (ok : gO X cc "TripleStore$Parser" (wsM y0 b0 nl0 ret0)) (hd : decode cc pc = .ok (.invokevirtual 152, 3)) (hM : mm_ (gLa X) y_Pa_readSide w_Pa_readSide rm (.ref o :: As) M post) (hst : As.reverse ++ .ref o :: rest = st) (hn : As.length = 0) (hrest : (rest.map fun v => v.category).sum ≤ 8) (hR : gF X rm 1 k n) (he : M[o]? = some (.inr (1, fs))) (hlen : ∀ r M', post r M' → M'.length = M.length) (kk : ∀ r M', post r M' → gg X M' (k + rm.cells) (n + rm.slots) (pc + 3) L (r.toList ++ rest)) : gg X M k n pc L st := g_callV ok (C := RPa) (T := TPa) (N := 3) hM i_Pa_readSide ml_Pa_152 wn_Pa_readSide ws_Pa_readSide wi_Pa ⟨rfl, by decide, by decide, by rw [hn]; decide +kernel⟩ rfl hd hst hrest hR he hlen kk
theorem ml_Pa_172 : Cond.methodLink "TripleStore$Parser" 172 y_Pa_isAtComparison ∈ gT := gT_at 715 (by decide +kernel) (by decide +kernel)
theorem wn_Pa_isAtComparison : Cond.instanceMethod y_Pa_isAtComparison ∈ gT := gT_at 717 (by decide +kernel) (by decide +kernel)
theorem ws_Pa_isAtComparison : Cond.selects "TripleStore$Parser" y_Pa_isAtComparison y_Pa_isAtComparison ∈ gT := gT_pr 18 (by decide +kernel) (by decide +kernel)
theorem gc_Pa_172 {X : gC} {cc : ByteArray} {M : List mC} {k n pc : Nat} {L : List (Nat × Value)} {st rest : List Value} {y0 : MethodName} {b0 : ByteArray} {nl0 : Nat} {ret0 : Option FieldType} {rm : Room} {As : List Value} {post : Option Value → List mC → Prop} {o : Nat} {fs : List Value} (ok : gO X cc "TripleStore$Parser" (wsM y0 b0 nl0 ret0)) (hd : decode cc pc = .ok (.invokevirtual 172, 3)) (hM : mm_ (gLa X) y_Pa_isAtComparison w_Pa_isAtComparison rm (.ref o :: As) M post) (hst : As.reverse ++ .ref o :: rest = st) (hn : As.length = 0) (hrest : (rest.map fun v => v.category).sum ≤ 8) (hR : gF X rm 1 k n) (he : M[o]? = some (.inr (1, fs))) (hlen : ∀ r M', post r M' → M'.length = M.length) (kk : ∀ r M', post r M' → gg X M' (k + rm.cells) (n + rm.slots) (pc + 3) L (r.toList ++ rest)) : gg X M k n pc L st := g_callV ok (C := RPa) (T := TPa) (N := 3) hM i_Pa_isAtComparison ml_Pa_172 wn_Pa_isAtComparison ws_Pa_isAtComparison wi_Pa ⟨rfl, by decide, by decide, by rw [hn]; decide +kernel⟩ rfl hd hst hrest hR he hlen kk
theorem ml_Pa_144 : Cond.methodLink "TripleStore$Parser" 144 y_Pa_readUnion ∈ gT := gT_at 721 (by decide +kernel) (by decide +kernel)
theorem wn_Pa_readUnion : Cond.instanceMethod y_Pa_readUnion ∈ gT := gT_at 723 (by decide +kernel) (by decide +kernel)
theorem ws_Pa_readUnion : Cond.selects "TripleStore$Parser" y_Pa_readUnion y_Pa_readUnion ∈ gT := gT_pr 19 (by decide +kernel) (by decide +kernel)
theorem gc_Pa_144 {X : gC} {cc : ByteArray} {M : List mC} {k n pc : Nat} {L : List (Nat × Value)} {st rest : List Value} {y0 : MethodName} {b0 : ByteArray} {nl0 : Nat} {ret0 : Option FieldType} {rm : Room} {As : List Value} {post : Option Value → List mC → Prop} {o : Nat} {fs : List Value} (ok : gO X cc "TripleStore$Parser" (wsM y0 b0 nl0 ret0)) (hd : decode cc pc = .ok (.invokevirtual 144, 3)) (hM : mm_ (gLa X) y_Pa_readUnion w_Pa_readUnion rm (.ref o :: As) M post) (hst : As.reverse ++ .ref o :: rest = st) (hn : As.length = 2) (hrest : (rest.map fun v => v.category).sum ≤ 8) (hR : gF X rm 4 k n) (he : M[o]? = some (.inr (1, fs))) (hlen : ∀ r M', post r M' → M'.length = M.length) (kk : ∀ r M', post r M' → gg X M' (k + rm.cells) (n + rm.slots) (pc + 3) L (r.toList ++ rest)) : gg X M k n pc L st := g_callV ok (C := RPa) (T := TPa) (N := 3) hM i_Pa_readUnion ml_Pa_144 wn_Pa_readUnion ws_Pa_readUnion wi_Pa ⟨rfl, by decide, by decide, by rw [hn]; decide +kernel⟩ rfl hd hst hrest hR he hlen kk
theorem ml_Pa_147 : Cond.methodLink "TripleStore$Parser" 147 y_Pa_readPattern ∈ gT := gT_at 726 (by decide +kernel) (by decide +kernel)
theorem wn_Pa_readPattern : Cond.instanceMethod y_Pa_readPattern ∈ gT := gT_at 728 (by decide +kernel) (by decide +kernel)
theorem ws_Pa_readPattern : Cond.selects "TripleStore$Parser" y_Pa_readPattern y_Pa_readPattern ∈ gT := gT_pr 20 (by decide +kernel) (by decide +kernel)
theorem gc_Pa_147 {X : gC} {cc : ByteArray} {M : List mC} {k n pc : Nat} {L : List (Nat × Value)} {st rest : List Value} {y0 : MethodName} {b0 : ByteArray} {nl0 : Nat} {ret0 : Option FieldType} {rm : Room} {As : List Value} {post : Option Value → List mC → Prop} {o : Nat} {fs : List Value} (ok : gO X cc "TripleStore$Parser" (wsM y0 b0 nl0 ret0)) (hd : decode cc pc = .ok (.invokevirtual 147, 3)) (hM : mm_ (gLa X) y_Pa_readPattern w_Pa_readPattern rm (.ref o :: As) M post) (hst : As.reverse ++ .ref o :: rest = st) (hn : As.length = 1) (hrest : (rest.map fun v => v.category).sum ≤ 8) (hR : gF X rm 2 k n) (he : M[o]? = some (.inr (1, fs))) (hlen : ∀ r M', post r M' → M'.length = M.length) (kk : ∀ r M', post r M' → gg X M' (k + rm.cells) (n + rm.slots) (pc + 3) L (r.toList ++ rest)) : gg X M k n pc L st := g_callV ok (C := RPa) (T := TPa) (N := 3) hM i_Pa_readPattern ml_Pa_147 wn_Pa_readPattern ws_Pa_readPattern wi_Pa ⟨rfl, by decide, by decide, by rw [hn]; decide +kernel⟩ rfl hd hst hrest hR he hlen kk
theorem ml_Pa_44 : Cond.methodLink "TripleStore$Parser" 44 y_Pa_readOrder ∈ gT := gT_at 730 (by decide +kernel) (by decide +kernel)
theorem wn_Pa_readOrder : Cond.instanceMethod y_Pa_readOrder ∈ gT := gT_at 732 (by decide +kernel) (by decide +kernel)
theorem ws_Pa_readOrder : Cond.selects "TripleStore$Parser" y_Pa_readOrder y_Pa_readOrder ∈ gT := gT_pr 21 (by decide +kernel) (by decide +kernel)
theorem gc_Pa_44 {X : gC} {cc : ByteArray} {M : List mC} {k n pc : Nat} {L : List (Nat × Value)} {st rest : List Value} {y0 : MethodName} {b0 : ByteArray} {nl0 : Nat} {ret0 : Option FieldType} {rm : Room} {As : List Value} {post : Option Value → List mC → Prop} {o : Nat} {fs : List Value} (ok : gO X cc "TripleStore$Parser" (wsM y0 b0 nl0 ret0)) (hd : decode cc pc = .ok (.invokevirtual 44, 3)) (hM : mm_ (gLa X) y_Pa_readOrder w_Pa_readOrder rm (.ref o :: As) M post) (hst : As.reverse ++ .ref o :: rest = st) (hn : As.length = 0) (hrest : (rest.map fun v => v.category).sum ≤ 8) (hR : gF X rm 1 k n) (he : M[o]? = some (.inr (1, fs))) (hlen : ∀ r M', post r M' → M'.length = M.length) (kk : ∀ r M', post r M' → gg X M' (k + rm.cells) (n + rm.slots) (pc + 3) L (r.toList ++ rest)) : gg X M k n pc L st := g_callV ok (C := RPa) (T := TPa) (N := 3) hM i_Pa_readOrder ml_Pa_44 wn_Pa_readOrder ws_Pa_readOrder wi_Pa ⟨rfl, by decide, by decide, by rw [hn]; decide +kernel⟩ rfl hd hst hrest hR he hlen kk
theorem ml_Pa_47 : Cond.methodLink "TripleStore$Parser" 47 y_Pa_readLimit ∈ gT := gT_at 736 (by decide +kernel) (by decide +kernel)
theorem wn_Pa_readLimit : Cond.instanceMethod y_Pa_readLimit ∈ gT := gT_at 738 (by decide +kernel) (by decide +kernel)
theorem ws_Pa_readLimit : Cond.selects "TripleStore$Parser" y_Pa_readLimit y_Pa_readLimit ∈ gT := gT_pr 22 (by decide +kernel) (by decide +kernel)
theorem gc_Pa_47 {X : gC} {cc : ByteArray} {M : List mC} {k n pc : Nat} {L : List (Nat × Value)} {st rest : List Value} {y0 : MethodName} {b0 : ByteArray} {nl0 : Nat} {ret0 : Option FieldType} {rm : Room} {As : List Value} {post : Option Value → List mC → Prop} {o : Nat} {fs : List Value} (ok : gO X cc "TripleStore$Parser" (wsM y0 b0 nl0 ret0)) (hd : decode cc pc = .ok (.invokevirtual 47, 3)) (hM : mm_ (gLa X) y_Pa_readLimit w_Pa_readLimit rm (.ref o :: As) M post) (hst : As.reverse ++ .ref o :: rest = st) (hn : As.length = 0) (hrest : (rest.map fun v => v.category).sum ≤ 8) (hR : gF X rm 3 k n) (he : M[o]? = some (.inr (1, fs))) (hlen : ∀ r M', post r M' → M'.length = M.length) (kk : ∀ r M', post r M' → gg X M' (k + rm.cells) (n + rm.slots) (pc + 3) L (r.toList ++ rest)) : gg X M k n pc L st := g_callV ok (C := RPa) (T := TPa) (N := 3) hM i_Pa_readLimit ml_Pa_47 wn_Pa_readLimit ws_Pa_readLimit wi_Pa ⟨rfl, by decide, by decide, by rw [hn]; decide +kernel⟩ rfl hd hst hrest hR he hlen kk
theorem ml_Pa_89 : Cond.methodLink "TripleStore$Parser" 89 y_Te_isHeldNumber ∈ gT := gT_at 741 (by decide +kernel) (by decide +kernel)
theorem wt_Te_isHeldNumber : Cond.static y_Te_isHeldNumber ∈ gT := gT_at 742 (by decide +kernel) (by decide +kernel)
theorem gc_Pa_89 {X : gC} {cc : ByteArray} {M : List mC} {k n pc : Nat} {L : List (Nat × Value)} {st rest : List Value} {y0 : MethodName} {b0 : ByteArray} {nl0 : Nat} {ret0 : Option FieldType} {rm : Room} {As : List Value} {post : Option Value → List mC → Prop} (ok : gO X cc "TripleStore$Parser" (wsM y0 b0 nl0 ret0)) (hd : decode cc pc = .ok (.invokestatic 89, 3)) (hM : mm_ (gLa X) y_Te_isHeldNumber w_Te_isHeldNumber rm As M post) (hst : As.reverse ++ rest = st) (hn : As.length = 1) (hrest : (rest.map fun v => v.category).sum ≤ 8) (hR : gF X rm 2 k n) (hlen : ∀ r M', post r M' → M'.length = M.length) (kk : ∀ r M', post r M' → gg X M' (k + rm.cells) (n + rm.slots) (pc + 3) L (r.toList ++ rest)) : gg X M k n pc L st := g_callS ok hM i_Te_isHeldNumber ml_Pa_89 wt_Te_isHeldNumber wi_Te ⟨by decide, by decide, by rw [hn]; decide +kernel⟩ hd hst hrest hR hlen kk
theorem ml_TS_147 : Cond.methodLink "TripleStore" 147 y_To_place ∈ gT := gT_at 745 (by decide +kernel) (by decide +kernel)
theorem wn_To_place : Cond.instanceMethod y_To_place ∈ gT := gT_at 746 (by decide +kernel) (by decide +kernel)
theorem ws_To_place : Cond.selects "TripleStore$Tokens" y_To_place y_To_place ∈ gT := gT_at 747 (by decide +kernel) (by decide +kernel)
theorem gc_TS_147 {X : gC} {cc : ByteArray} {M : List mC} {k n pc : Nat} {L : List (Nat × Value)} {st rest : List Value} {y0 : MethodName} {b0 : ByteArray} {nl0 : Nat} {ret0 : Option FieldType} {rm : Room} {As : List Value} {post : Option Value → List mC → Prop} {o : Nat} {fs : List Value} (ok : gO X cc "TripleStore" (wsM y0 b0 nl0 ret0)) (hd : decode cc pc = .ok (.invokevirtual 147, 3)) (hM : mm_ (gLa X) y_To_place w_To_place rm (.ref o :: As) M post) (hst : As.reverse ++ .ref o :: rest = st) (hn : As.length = 0) (hrest : (rest.map fun v => v.category).sum ≤ 8) (hR : gF X rm 1 k n) (he : M[o]? = some (.inr (7, fs))) (hlen : ∀ r M', post r M' → M'.length = M.length) (kk : ∀ r M', post r M' → gg X M' (k + rm.cells) (n + rm.slots) (pc + 3) L (r.toList ++ rest)) : gg X M k n pc L st := g_callV ok (C := RTo) (T := TTo) (N := 5) hM i_To_place ml_TS_147 wn_To_place ws_To_place wi_To ⟨rfl, by decide, by decide, by rw [hn]; decide +kernel⟩ rfl hd hst hrest hR he hlen kk
theorem ml_TS_155 : Cond.methodLink "TripleStore" 155 y_Ro_clear ∈ gT := gT_at 750 (by decide +kernel) (by decide +kernel)
theorem wi_Ro : Cond.initialized "TripleStore$Rows" ∈ gT := gT_at 10 (by decide +kernel) (by decide +kernel)
theorem wn_Ro_clear : Cond.instanceMethod y_Ro_clear ∈ gT := gT_at 751 (by decide +kernel) (by decide +kernel)
theorem ws_Ro_clear : Cond.selects "TripleStore$Rows" y_Ro_clear y_Ro_clear ∈ gT := gT_at 752 (by decide +kernel) (by decide +kernel)
theorem gc_TS_155 {X : gC} {cc : ByteArray} {M : List mC} {k n pc : Nat} {L : List (Nat × Value)} {st rest : List Value} {y0 : MethodName} {b0 : ByteArray} {nl0 : Nat} {ret0 : Option FieldType} {rm : Room} {As : List Value} {post : Option Value → List mC → Prop} {o : Nat} {fs : List Value} (ok : gO X cc "TripleStore" (wsM y0 b0 nl0 ret0)) (hd : decode cc pc = .ok (.invokevirtual 155, 3)) (hM : mm_ (gLa X) y_Ro_clear w_Ro_clear rm (.ref o :: As) M post) (hst : As.reverse ++ .ref o :: rest = st) (hn : As.length = 1) (hrest : (rest.map fun v => v.category).sum ≤ 8) (hR : gF X rm 2 k n) (he : M[o]? = some (.inr (3, fs))) (hlen : ∀ r M', post r M' → M'.length = M.length) (kk : ∀ r M', post r M' → gg X M' (k + rm.cells) (n + rm.slots) (pc + 3) L (r.toList ++ rest)) : gg X M k n pc L st := g_callV ok (C := RRo) (T := TRo) (N := 4) hM i_Ro_clear ml_TS_155 wn_Ro_clear ws_Ro_clear wi_Ro ⟨rfl, by decide, by decide, by rw [hn]; decide +kernel⟩ rfl hd hst hrest hR he hlen kk
theorem ml_TS_158 : Cond.methodLink "TripleStore" 158 y_Sv_solveGroup ∈ gT := gT_at 755 (by decide +kernel) (by decide +kernel)
theorem wn_Sv_solveGroup : Cond.instanceMethod y_Sv_solveGroup ∈ gT := gT_at 756 (by decide +kernel) (by decide +kernel)
theorem ws_Sv_solveGroup : Cond.selects "TripleStore$Solver" y_Sv_solveGroup y_Sv_solveGroup ∈ gT := gT_at 757 (by decide +kernel) (by decide +kernel)
theorem gc_TS_158 {X : gC} {cc : ByteArray} {M : List mC} {k n pc : Nat} {L : List (Nat × Value)} {st rest : List Value} {y0 : MethodName} {b0 : ByteArray} {nl0 : Nat} {ret0 : Option FieldType} {rm : Room} {As : List Value} {post : Option Value → List mC → Prop} {o : Nat} {fs : List Value} (ok : gO X cc "TripleStore" (wsM y0 b0 nl0 ret0)) (hd : decode cc pc = .ok (.invokevirtual 158, 3)) (hM : mm_ (gLa X) y_Sv_solveGroup w_Sv_solveGroup rm (.ref o :: As) M post) (hst : As.reverse ++ .ref o :: rest = st) (hn : As.length = 2) (hrest : (rest.map fun v => v.category).sum ≤ 8) (hR : gF X rm 6 k n) (he : M[o]? = some (.inr (5, fs))) (hlen : ∀ r M', post r M' → M'.length = M.length) (kk : ∀ r M', post r M' → gg X M' (k + rm.cells) (n + rm.slots) (pc + 3) L (r.toList ++ rest)) : gg X M k n pc L st := g_callV ok (C := RSv) (T := TSv) (N := 5) hM i_Sv_solveGroup ml_TS_158 wn_Sv_solveGroup ws_Sv_solveGroup wi_Sv ⟨rfl, by decide, by decide, by rw [hn]; decide +kernel⟩ rfl hd hst hrest hR he hlen kk
theorem ml_Sv_41 : Cond.methodLink "TripleStore$Solver" 41 y_So_clear ∈ gT := gT_at 762 (by decide +kernel) (by decide +kernel)
theorem wi_So : Cond.initialized "TripleStore$Solutions" ∈ gT := gT_at 9 (by decide +kernel) (by decide +kernel)
theorem wn_So_clear : Cond.instanceMethod y_So_clear ∈ gT := gT_at 763 (by decide +kernel) (by decide +kernel)
theorem ws_So_clear : Cond.selects "TripleStore$Solutions" y_So_clear y_So_clear ∈ gT := gT_at 764 (by decide +kernel) (by decide +kernel)
theorem gc_Sv_41 {X : gC} {cc : ByteArray} {M : List mC} {k n pc : Nat} {L : List (Nat × Value)} {st rest : List Value} {y0 : MethodName} {b0 : ByteArray} {nl0 : Nat} {ret0 : Option FieldType} {rm : Room} {As : List Value} {post : Option Value → List mC → Prop} {o : Nat} {fs : List Value} (ok : gO X cc "TripleStore$Solver" (wsM y0 b0 nl0 ret0)) (hd : decode cc pc = .ok (.invokevirtual 41, 3)) (hM : mm_ (gLa X) y_So_clear w_So_clear rm (.ref o :: As) M post) (hst : As.reverse ++ .ref o :: rest = st) (hn : As.length = 0) (hrest : (rest.map fun v => v.category).sum ≤ 8) (hR : gF X rm 1 k n) (he : M[o]? = some (.inr (4, fs))) (hlen : ∀ r M', post r M' → M'.length = M.length) (kk : ∀ r M', post r M' → gg X M' (k + rm.cells) (n + rm.slots) (pc + 3) L (r.toList ++ rest)) : gg X M k n pc L st := g_callV ok (C := RSo) (T := TSo) (N := 2) hM i_So_clear ml_Sv_41 wn_So_clear ws_So_clear wi_So ⟨rfl, by decide, by decide, by rw [hn]; decide +kernel⟩ rfl hd hst hrest hR he hlen kk
theorem ml_Sv_44 : Cond.methodLink "TripleStore$Solver" 44 y_So_put ∈ gT := gT_at 766 (by decide +kernel) (by decide +kernel)
theorem wn_So_put : Cond.instanceMethod y_So_put ∈ gT := gT_at 767 (by decide +kernel) (by decide +kernel)
theorem ws_So_put : Cond.selects "TripleStore$Solutions" y_So_put y_So_put ∈ gT := gT_at 768 (by decide +kernel) (by decide +kernel)
theorem gc_Sv_44 {X : gC} {cc : ByteArray} {M : List mC} {k n pc : Nat} {L : List (Nat × Value)} {st rest : List Value} {y0 : MethodName} {b0 : ByteArray} {nl0 : Nat} {ret0 : Option FieldType} {rm : Room} {As : List Value} {post : Option Value → List mC → Prop} {o : Nat} {fs : List Value} (ok : gO X cc "TripleStore$Solver" (wsM y0 b0 nl0 ret0)) (hd : decode cc pc = .ok (.invokevirtual 44, 3)) (hM : mm_ (gLa X) y_So_put w_So_put rm (.ref o :: As) M post) (hst : As.reverse ++ .ref o :: rest = st) (hn : As.length = 1) (hrest : (rest.map fun v => v.category).sum ≤ 8) (hR : gF X rm 2 k n) (he : M[o]? = some (.inr (4, fs))) (hlen : ∀ r M', post r M' → M'.length = M.length) (kk : ∀ r M', post r M' → gg X M' (k + rm.cells) (n + rm.slots) (pc + 3) L (r.toList ++ rest)) : gg X M k n pc L st := g_callV ok (C := RSo) (T := TSo) (N := 2) hM i_So_put ml_Sv_44 wn_So_put ws_So_put wi_So ⟨rfl, by decide, by decide, by rw [hn]; decide +kernel⟩ rfl hd hst hrest hR he hlen kk
theorem ml_Sv_66 : Cond.methodLink "TripleStore$Solver" 66 y_Sv_joinPattern ∈ gT := gT_at 773 (by decide +kernel) (by decide +kernel)
theorem wn_Sv_joinPattern : Cond.instanceMethod y_Sv_joinPattern ∈ gT := gT_at 775 (by decide +kernel) (by decide +kernel)
theorem ws_Sv_joinPattern : Cond.selects "TripleStore$Solver" y_Sv_joinPattern y_Sv_joinPattern ∈ gT := gT_pr 23 (by decide +kernel) (by decide +kernel)
theorem gc_Sv_66 {X : gC} {cc : ByteArray} {M : List mC} {k n pc : Nat} {L : List (Nat × Value)} {st rest : List Value} {y0 : MethodName} {b0 : ByteArray} {nl0 : Nat} {ret0 : Option FieldType} {rm : Room} {As : List Value} {post : Option Value → List mC → Prop} {o : Nat} {fs : List Value} (ok : gO X cc "TripleStore$Solver" (wsM y0 b0 nl0 ret0)) (hd : decode cc pc = .ok (.invokevirtual 66, 3)) (hM : mm_ (gLa X) y_Sv_joinPattern w_Sv_joinPattern rm (.ref o :: As) M post) (hst : As.reverse ++ .ref o :: rest = st) (hn : As.length = 3) (hrest : (rest.map fun v => v.category).sum ≤ 8) (hR : gF X rm 6 k n) (he : M[o]? = some (.inr (5, fs))) (hlen : ∀ r M', post r M' → M'.length = M.length) (kk : ∀ r M', post r M' → gg X M' (k + rm.cells) (n + rm.slots) (pc + 3) L (r.toList ++ rest)) : gg X M k n pc L st := g_callV ok (C := RSv) (T := TSv) (N := 5) hM i_Sv_joinPattern ml_Sv_66 wn_Sv_joinPattern ws_Sv_joinPattern wi_Sv ⟨rfl, by decide, by decide, by rw [hn]; decide +kernel⟩ rfl hd hst hrest hR he hlen kk
theorem ml_Sv_82 : Cond.methodLink "TripleStore$Solver" 82 y_So_size ∈ gT := gT_at 777 (by decide +kernel) (by decide +kernel)
theorem wn_So_size : Cond.instanceMethod y_So_size ∈ gT := gT_at 778 (by decide +kernel) (by decide +kernel)
theorem ws_So_size : Cond.selects "TripleStore$Solutions" y_So_size y_So_size ∈ gT := gT_at 779 (by decide +kernel) (by decide +kernel)
theorem gc_Sv_82 {X : gC} {cc : ByteArray} {M : List mC} {k n pc : Nat} {L : List (Nat × Value)} {st rest : List Value} {y0 : MethodName} {b0 : ByteArray} {nl0 : Nat} {ret0 : Option FieldType} {rm : Room} {As : List Value} {post : Option Value → List mC → Prop} {o : Nat} {fs : List Value} (ok : gO X cc "TripleStore$Solver" (wsM y0 b0 nl0 ret0)) (hd : decode cc pc = .ok (.invokevirtual 82, 3)) (hM : mm_ (gLa X) y_So_size w_So_size rm (.ref o :: As) M post) (hst : As.reverse ++ .ref o :: rest = st) (hn : As.length = 0) (hrest : (rest.map fun v => v.category).sum ≤ 8) (hR : gF X rm 1 k n) (he : M[o]? = some (.inr (4, fs))) (hlen : ∀ r M', post r M' → M'.length = M.length) (kk : ∀ r M', post r M' → gg X M' (k + rm.cells) (n + rm.slots) (pc + 3) L (r.toList ++ rest)) : gg X M k n pc L st := g_callV ok (C := RSo) (T := TSo) (N := 2) hM i_So_size ml_Sv_82 wn_So_size ws_So_size wi_So ⟨rfl, by decide, by decide, by rw [hn]; decide +kernel⟩ rfl hd hst hrest hR he hlen kk
theorem ml_Sv_86 : Cond.methodLink "TripleStore$Solver" 86 y_St_size ∈ gT := gT_at 781 (by decide +kernel) (by decide +kernel)
theorem gc_Sv_86 {X : gC} {cc : ByteArray} {M : List mC} {k n pc : Nat} {L : List (Nat × Value)} {st rest : List Value} {y0 : MethodName} {b0 : ByteArray} {nl0 : Nat} {ret0 : Option FieldType} {rm : Room} {As : List Value} {post : Option Value → List mC → Prop} {o : Nat} {fs : List Value} (ok : gO X cc "TripleStore$Solver" (wsM y0 b0 nl0 ret0)) (hd : decode cc pc = .ok (.invokevirtual 86, 3)) (hM : mm_ (gLa X) y_St_size w_St_size rm (.ref o :: As) M post) (hst : As.reverse ++ .ref o :: rest = st) (hn : As.length = 0) (hrest : (rest.map fun v => v.category).sum ≤ 8) (hR : gF X rm 1 k n) (he : M[o]? = some (.inr (6, fs))) (hlen : ∀ r M', post r M' → M'.length = M.length) (kk : ∀ r M', post r M' → gg X M' (k + rm.cells) (n + rm.slots) (pc + 3) L (r.toList ++ rest)) : gg X M k n pc L st := g_callV ok (C := RSt) (T := TSt) (N := 8) hM i_St_size ml_Sv_86 wn_St_size ws_St_size wi_St ⟨rfl, by decide, by decide, by rw [hn]; decide +kernel⟩ rfl hd hst hrest hR he hlen kk
theorem ml_Sv_89 : Cond.methodLink "TripleStore$Solver" 89 y_So_copy ∈ gT := gT_at 782 (by decide +kernel) (by decide +kernel)
theorem wn_So_copy : Cond.instanceMethod y_So_copy ∈ gT := gT_at 783 (by decide +kernel) (by decide +kernel)
theorem ws_So_copy : Cond.selects "TripleStore$Solutions" y_So_copy y_So_copy ∈ gT := gT_at 784 (by decide +kernel) (by decide +kernel)
theorem gc_Sv_89 {X : gC} {cc : ByteArray} {M : List mC} {k n pc : Nat} {L : List (Nat × Value)} {st rest : List Value} {y0 : MethodName} {b0 : ByteArray} {nl0 : Nat} {ret0 : Option FieldType} {rm : Room} {As : List Value} {post : Option Value → List mC → Prop} {o : Nat} {fs : List Value} (ok : gO X cc "TripleStore$Solver" (wsM y0 b0 nl0 ret0)) (hd : decode cc pc = .ok (.invokevirtual 89, 3)) (hM : mm_ (gLa X) y_So_copy w_So_copy rm (.ref o :: As) M post) (hst : As.reverse ++ .ref o :: rest = st) (hn : As.length = 2) (hrest : (rest.map fun v => v.category).sum ≤ 8) (hR : gF X rm 3 k n) (he : M[o]? = some (.inr (4, fs))) (hlen : ∀ r M', post r M' → M'.length = M.length) (kk : ∀ r M', post r M' → gg X M' (k + rm.cells) (n + rm.slots) (pc + 3) L (r.toList ++ rest)) : gg X M k n pc L st := g_callV ok (C := RSo) (T := TSo) (N := 2) hM i_So_copy ml_Sv_89 wn_So_copy ws_So_copy wi_So ⟨rfl, by decide, by decide, by rw [hn]; decide +kernel⟩ rfl hd hst hrest hR he hlen kk
theorem ml_Sv_93 : Cond.methodLink "TripleStore$Solver" 93 y_Sv_fitsTriple ∈ gT := gT_at 786 (by decide +kernel) (by decide +kernel)
theorem wn_Sv_fitsTriple : Cond.instanceMethod y_Sv_fitsTriple ∈ gT := gT_at 788 (by decide +kernel) (by decide +kernel)
theorem ws_Sv_fitsTriple : Cond.selects "TripleStore$Solver" y_Sv_fitsTriple y_Sv_fitsTriple ∈ gT := gT_pr 24 (by decide +kernel) (by decide +kernel)
theorem gc_Sv_93 {X : gC} {cc : ByteArray} {M : List mC} {k n pc : Nat} {L : List (Nat × Value)} {st rest : List Value} {y0 : MethodName} {b0 : ByteArray} {nl0 : Nat} {ret0 : Option FieldType} {rm : Room} {As : List Value} {post : Option Value → List mC → Prop} {o : Nat} {fs : List Value} (ok : gO X cc "TripleStore$Solver" (wsM y0 b0 nl0 ret0)) (hd : decode cc pc = .ok (.invokevirtual 93, 3)) (hM : mm_ (gLa X) y_Sv_fitsTriple w_Sv_fitsTriple rm (.ref o :: As) M post) (hst : As.reverse ++ .ref o :: rest = st) (hn : As.length = 2) (hrest : (rest.map fun v => v.category).sum ≤ 8) (hR : gF X rm 3 k n) (he : M[o]? = some (.inr (5, fs))) (hlen : ∀ r M', post r M' → M'.length = M.length) (kk : ∀ r M', post r M' → gg X M' (k + rm.cells) (n + rm.slots) (pc + 3) L (r.toList ++ rest)) : gg X M k n pc L st := g_callV ok (C := RSv) (T := TSv) (N := 5) hM i_Sv_fitsTriple ml_Sv_93 wn_Sv_fitsTriple ws_Sv_fitsTriple wi_Sv ⟨rfl, by decide, by decide, by rw [hn]; decide +kernel⟩ rfl hd hst hrest hR he hlen kk
theorem ml_Sv_101 : Cond.methodLink "TripleStore$Solver" 101 y_St_subject ∈ gT := gT_at 790 (by decide +kernel) (by decide +kernel)
theorem wn_St_subject : Cond.instanceMethod y_St_subject ∈ gT := gT_at 791 (by decide +kernel) (by decide +kernel)
theorem ws_St_subject : Cond.selects "TripleStore$Store" y_St_subject y_St_subject ∈ gT := gT_at 792 (by decide +kernel) (by decide +kernel)
theorem gc_Sv_101 {X : gC} {cc : ByteArray} {M : List mC} {k n pc : Nat} {L : List (Nat × Value)} {st rest : List Value} {y0 : MethodName} {b0 : ByteArray} {nl0 : Nat} {ret0 : Option FieldType} {rm : Room} {As : List Value} {post : Option Value → List mC → Prop} {o : Nat} {fs : List Value} (ok : gO X cc "TripleStore$Solver" (wsM y0 b0 nl0 ret0)) (hd : decode cc pc = .ok (.invokevirtual 101, 3)) (hM : mm_ (gLa X) y_St_subject w_St_subject rm (.ref o :: As) M post) (hst : As.reverse ++ .ref o :: rest = st) (hn : As.length = 1) (hrest : (rest.map fun v => v.category).sum ≤ 8) (hR : gF X rm 2 k n) (he : M[o]? = some (.inr (6, fs))) (hlen : ∀ r M', post r M' → M'.length = M.length) (kk : ∀ r M', post r M' → gg X M' (k + rm.cells) (n + rm.slots) (pc + 3) L (r.toList ++ rest)) : gg X M k n pc L st := g_callV ok (C := RSt) (T := TSt) (N := 8) hM i_St_subject ml_Sv_101 wn_St_subject ws_St_subject wi_St ⟨rfl, by decide, by decide, by rw [hn]; decide +kernel⟩ rfl hd hst hrest hR he hlen kk
theorem ml_Sv_105 : Cond.methodLink "TripleStore$Solver" 105 y_Sv_fitsTerm ∈ gT := gT_at 794 (by decide +kernel) (by decide +kernel)
theorem wn_Sv_fitsTerm : Cond.instanceMethod y_Sv_fitsTerm ∈ gT := gT_at 796 (by decide +kernel) (by decide +kernel)
theorem ws_Sv_fitsTerm : Cond.selects "TripleStore$Solver" y_Sv_fitsTerm y_Sv_fitsTerm ∈ gT := gT_pr 25 (by decide +kernel) (by decide +kernel)
theorem gc_Sv_105 {X : gC} {cc : ByteArray} {M : List mC} {k n pc : Nat} {L : List (Nat × Value)} {st rest : List Value} {y0 : MethodName} {b0 : ByteArray} {nl0 : Nat} {ret0 : Option FieldType} {rm : Room} {As : List Value} {post : Option Value → List mC → Prop} {o : Nat} {fs : List Value} (ok : gO X cc "TripleStore$Solver" (wsM y0 b0 nl0 ret0)) (hd : decode cc pc = .ok (.invokevirtual 105, 3)) (hM : mm_ (gLa X) y_Sv_fitsTerm w_Sv_fitsTerm rm (.ref o :: As) M post) (hst : As.reverse ++ .ref o :: rest = st) (hn : As.length = 2) (hrest : (rest.map fun v => v.category).sum ≤ 8) (hR : gF X rm 8 k n) (he : M[o]? = some (.inr (5, fs))) (hlen : ∀ r M', post r M' → M'.length = M.length) (kk : ∀ r M', post r M' → gg X M' (k + rm.cells) (n + rm.slots) (pc + 3) L (r.toList ++ rest)) : gg X M k n pc L st := g_callV ok (C := RSv) (T := TSv) (N := 5) hM i_Sv_fitsTerm ml_Sv_105 wn_Sv_fitsTerm ws_Sv_fitsTerm wi_Sv ⟨rfl, by decide, by decide, by rw [hn]; decide +kernel⟩ rfl hd hst hrest hR he hlen kk
theorem ml_Sv_121 : Cond.methodLink "TripleStore$Solver" 121 y_Sv_termOf ∈ gT := gT_at 798 (by decide +kernel) (by decide +kernel)
theorem wn_Sv_termOf : Cond.instanceMethod y_Sv_termOf ∈ gT := gT_at 800 (by decide +kernel) (by decide +kernel)
theorem ws_Sv_termOf : Cond.selects "TripleStore$Solver" y_Sv_termOf y_Sv_termOf ∈ gT := gT_pr 26 (by decide +kernel) (by decide +kernel)
theorem gc_Sv_121 {X : gC} {cc : ByteArray} {M : List mC} {k n pc : Nat} {L : List (Nat × Value)} {st rest : List Value} {y0 : MethodName} {b0 : ByteArray} {nl0 : Nat} {ret0 : Option FieldType} {rm : Room} {As : List Value} {post : Option Value → List mC → Prop} {o : Nat} {fs : List Value} (ok : gO X cc "TripleStore$Solver" (wsM y0 b0 nl0 ret0)) (hd : decode cc pc = .ok (.invokevirtual 121, 3)) (hM : mm_ (gLa X) y_Sv_termOf w_Sv_termOf rm (.ref o :: As) M post) (hst : As.reverse ++ .ref o :: rest = st) (hn : As.length = 1) (hrest : (rest.map fun v => v.category).sum ≤ 8) (hR : gF X rm 4 k n) (he : M[o]? = some (.inr (5, fs))) (hlen : ∀ r M', post r M' → M'.length = M.length) (kk : ∀ r M', post r M' → gg X M' (k + rm.cells) (n + rm.slots) (pc + 3) L (r.toList ++ rest)) : gg X M k n pc L st := g_callV ok (C := RSv) (T := TSv) (N := 5) hM i_Sv_termOf ml_Sv_121 wn_Sv_termOf ws_Sv_termOf wi_Sv ⟨rfl, by decide, by decide, by rw [hn]; decide +kernel⟩ rfl hd hst hrest hR he hlen kk
theorem ml_Sv_112 : Cond.methodLink "TripleStore$Solver" 112 y_St_predicate ∈ gT := gT_at 803 (by decide +kernel) (by decide +kernel)
theorem wn_St_predicate : Cond.instanceMethod y_St_predicate ∈ gT := gT_at 804 (by decide +kernel) (by decide +kernel)
theorem ws_St_predicate : Cond.selects "TripleStore$Store" y_St_predicate y_St_predicate ∈ gT := gT_at 805 (by decide +kernel) (by decide +kernel)
theorem gc_Sv_112 {X : gC} {cc : ByteArray} {M : List mC} {k n pc : Nat} {L : List (Nat × Value)} {st rest : List Value} {y0 : MethodName} {b0 : ByteArray} {nl0 : Nat} {ret0 : Option FieldType} {rm : Room} {As : List Value} {post : Option Value → List mC → Prop} {o : Nat} {fs : List Value} (ok : gO X cc "TripleStore$Solver" (wsM y0 b0 nl0 ret0)) (hd : decode cc pc = .ok (.invokevirtual 112, 3)) (hM : mm_ (gLa X) y_St_predicate w_St_predicate rm (.ref o :: As) M post) (hst : As.reverse ++ .ref o :: rest = st) (hn : As.length = 1) (hrest : (rest.map fun v => v.category).sum ≤ 8) (hR : gF X rm 2 k n) (he : M[o]? = some (.inr (6, fs))) (hlen : ∀ r M', post r M' → M'.length = M.length) (kk : ∀ r M', post r M' → gg X M' (k + rm.cells) (n + rm.slots) (pc + 3) L (r.toList ++ rest)) : gg X M k n pc L st := g_callV ok (C := RSt) (T := TSt) (N := 8) hM i_St_predicate ml_Sv_112 wn_St_predicate ws_St_predicate wi_St ⟨rfl, by decide, by decide, by rw [hn]; decide +kernel⟩ rfl hd hst hrest hR he hlen kk
theorem ml_Sv_118 : Cond.methodLink "TripleStore$Solver" 118 y_St_object ∈ gT := gT_at 807 (by decide +kernel) (by decide +kernel)
theorem wn_St_object : Cond.instanceMethod y_St_object ∈ gT := gT_at 808 (by decide +kernel) (by decide +kernel)
theorem ws_St_object : Cond.selects "TripleStore$Store" y_St_object y_St_object ∈ gT := gT_at 809 (by decide +kernel) (by decide +kernel)
theorem gc_Sv_118 {X : gC} {cc : ByteArray} {M : List mC} {k n pc : Nat} {L : List (Nat × Value)} {st rest : List Value} {y0 : MethodName} {b0 : ByteArray} {nl0 : Nat} {ret0 : Option FieldType} {rm : Room} {As : List Value} {post : Option Value → List mC → Prop} {o : Nat} {fs : List Value} (ok : gO X cc "TripleStore$Solver" (wsM y0 b0 nl0 ret0)) (hd : decode cc pc = .ok (.invokevirtual 118, 3)) (hM : mm_ (gLa X) y_St_object w_St_object rm (.ref o :: As) M post) (hst : As.reverse ++ .ref o :: rest = st) (hn : As.length = 1) (hrest : (rest.map fun v => v.category).sum ≤ 8) (hR : gF X rm 2 k n) (he : M[o]? = some (.inr (6, fs))) (hlen : ∀ r M', post r M' → M'.length = M.length) (kk : ∀ r M', post r M' → gg X M' (k + rm.cells) (n + rm.slots) (pc + 3) L (r.toList ++ rest)) : gg X M k n pc L st := g_callV ok (C := RSt) (T := TSt) (N := 8) hM i_St_object ml_Sv_118 wn_St_object ws_St_object wi_St ⟨rfl, by decide, by decide, by rw [hn]; decide +kernel⟩ rfl hd hst hrest hR he hlen kk
theorem ml_Sv_70 : Cond.methodLink "TripleStore$Solver" 70 y_Sv_applyGroups ∈ gT := gT_at 811 (by decide +kernel) (by decide +kernel)
theorem wn_Sv_applyGroups : Cond.instanceMethod y_Sv_applyGroups ∈ gT := gT_at 813 (by decide +kernel) (by decide +kernel)
theorem ws_Sv_applyGroups : Cond.selects "TripleStore$Solver" y_Sv_applyGroups y_Sv_applyGroups ∈ gT := gT_pr 27 (by decide +kernel) (by decide +kernel)
theorem gc_Sv_70 {X : gC} {cc : ByteArray} {M : List mC} {k n pc : Nat} {L : List (Nat × Value)} {st rest : List Value} {y0 : MethodName} {b0 : ByteArray} {nl0 : Nat} {ret0 : Option FieldType} {rm : Room} {As : List Value} {post : Option Value → List mC → Prop} {o : Nat} {fs : List Value} (ok : gO X cc "TripleStore$Solver" (wsM y0 b0 nl0 ret0)) (hd : decode cc pc = .ok (.invokevirtual 70, 3)) (hM : mm_ (gLa X) y_Sv_applyGroups w_Sv_applyGroups rm (.ref o :: As) M post) (hst : As.reverse ++ .ref o :: rest = st) (hn : As.length = 3) (hrest : (rest.map fun v => v.category).sum ≤ 8) (hR : gF X rm 6 k n) (he : M[o]? = some (.inr (5, fs))) (hlen : ∀ r M', post r M' → M'.length = M.length) (kk : ∀ r M', post r M' → gg X M' (k + rm.cells) (n + rm.slots) (pc + 3) L (r.toList ++ rest)) : gg X M k n pc L st := g_callV ok (C := RSv) (T := TSv) (N := 5) hM i_Sv_applyGroups ml_Sv_70 wn_Sv_applyGroups ws_Sv_applyGroups wi_Sv ⟨rfl, by decide, by decide, by rw [hn]; decide +kernel⟩ rfl hd hst hrest hR he hlen kk
theorem ml_Sv_134 : Cond.methodLink "TripleStore$Solver" 134 y_Sv_solveGroup ∈ gT := gT_at 815 (by decide +kernel) (by decide +kernel)
theorem gc_Sv_134 {X : gC} {cc : ByteArray} {M : List mC} {k n pc : Nat} {L : List (Nat × Value)} {st rest : List Value} {y0 : MethodName} {b0 : ByteArray} {nl0 : Nat} {ret0 : Option FieldType} {rm : Room} {As : List Value} {post : Option Value → List mC → Prop} {o : Nat} {fs : List Value} (ok : gO X cc "TripleStore$Solver" (wsM y0 b0 nl0 ret0)) (hd : decode cc pc = .ok (.invokevirtual 134, 3)) (hM : mm_ (gLa X) y_Sv_solveGroup w_Sv_solveGroup rm (.ref o :: As) M post) (hst : As.reverse ++ .ref o :: rest = st) (hn : As.length = 2) (hrest : (rest.map fun v => v.category).sum ≤ 8) (hR : gF X rm 6 k n) (he : M[o]? = some (.inr (5, fs))) (hlen : ∀ r M', post r M' → M'.length = M.length) (kk : ∀ r M', post r M' → gg X M' (k + rm.cells) (n + rm.slots) (pc + 3) L (r.toList ++ rest)) : gg X M k n pc L st := g_callV ok (C := RSv) (T := TSv) (N := 5) hM i_Sv_solveGroup ml_Sv_134 wn_Sv_solveGroup ws_Sv_solveGroup wi_Sv ⟨rfl, by decide, by decide, by rw [hn]; decide +kernel⟩ rfl hd hst hrest hR he hlen kk
theorem ml_Sv_138 : Cond.methodLink "TripleStore$Solver" 138 y_Sv_applySolved ∈ gT := gT_at 816 (by decide +kernel) (by decide +kernel)
theorem wn_Sv_applySolved : Cond.instanceMethod y_Sv_applySolved ∈ gT := gT_at 818 (by decide +kernel) (by decide +kernel)
theorem ws_Sv_applySolved : Cond.selects "TripleStore$Solver" y_Sv_applySolved y_Sv_applySolved ∈ gT := gT_pr 28 (by decide +kernel) (by decide +kernel)
theorem gc_Sv_138 {X : gC} {cc : ByteArray} {M : List mC} {k n pc : Nat} {L : List (Nat × Value)} {st rest : List Value} {y0 : MethodName} {b0 : ByteArray} {nl0 : Nat} {ret0 : Option FieldType} {rm : Room} {As : List Value} {post : Option Value → List mC → Prop} {o : Nat} {fs : List Value} (ok : gO X cc "TripleStore$Solver" (wsM y0 b0 nl0 ret0)) (hd : decode cc pc = .ok (.invokevirtual 138, 3)) (hM : mm_ (gLa X) y_Sv_applySolved w_Sv_applySolved rm (.ref o :: As) M post) (hst : As.reverse ++ .ref o :: rest = st) (hn : As.length = 4) (hrest : (rest.map fun v => v.category).sum ≤ 8) (hR : gF X rm 8 k n) (he : M[o]? = some (.inr (5, fs))) (hlen : ∀ r M', post r M' → M'.length = M.length) (kk : ∀ r M', post r M' → gg X M' (k + rm.cells) (n + rm.slots) (pc + 3) L (r.toList ++ rest)) : gg X M k n pc L st := g_callV ok (C := RSv) (T := TSv) (N := 5) hM i_Sv_applySolved ml_Sv_138 wn_Sv_applySolved ws_Sv_applySolved wi_Sv ⟨rfl, by decide, by decide, by rw [hn]; decide +kernel⟩ rfl hd hst hrest hR he hlen kk
theorem ml_Sv_142 : Cond.methodLink "TripleStore$Solver" 142 y_Sv_hasPartner ∈ gT := gT_at 820 (by decide +kernel) (by decide +kernel)
theorem wn_Sv_hasPartner : Cond.instanceMethod y_Sv_hasPartner ∈ gT := gT_at 822 (by decide +kernel) (by decide +kernel)
theorem ws_Sv_hasPartner : Cond.selects "TripleStore$Solver" y_Sv_hasPartner y_Sv_hasPartner ∈ gT := gT_pr 29 (by decide +kernel) (by decide +kernel)
theorem gc_Sv_142 {X : gC} {cc : ByteArray} {M : List mC} {k n pc : Nat} {L : List (Nat × Value)} {st rest : List Value} {y0 : MethodName} {b0 : ByteArray} {nl0 : Nat} {ret0 : Option FieldType} {rm : Room} {As : List Value} {post : Option Value → List mC → Prop} {o : Nat} {fs : List Value} (ok : gO X cc "TripleStore$Solver" (wsM y0 b0 nl0 ret0)) (hd : decode cc pc = .ok (.invokevirtual 142, 3)) (hM : mm_ (gLa X) y_Sv_hasPartner w_Sv_hasPartner rm (.ref o :: As) M post) (hst : As.reverse ++ .ref o :: rest = st) (hn : As.length = 4) (hrest : (rest.map fun v => v.category).sum ≤ 8) (hR : gF X rm 6 k n) (he : M[o]? = some (.inr (5, fs))) (hlen : ∀ r M', post r M' → M'.length = M.length) (kk : ∀ r M', post r M' → gg X M' (k + rm.cells) (n + rm.slots) (pc + 3) L (r.toList ++ rest)) : gg X M k n pc L st := g_callV ok (C := RSv) (T := TSv) (N := 5) hM i_Sv_hasPartner ml_Sv_142 wn_Sv_hasPartner ws_Sv_hasPartner wi_Sv ⟨rfl, by decide, by decide, by rw [hn]; decide +kernel⟩ rfl hd hst hrest hR he hlen kk
theorem ml_Sv_154 : Cond.methodLink "TripleStore$Solver" 154 y_So_sharesVariable ∈ gT := gT_at 824 (by decide +kernel) (by decide +kernel)
theorem wn_So_sharesVariable : Cond.instanceMethod y_So_sharesVariable ∈ gT := gT_at 825 (by decide +kernel) (by decide +kernel)
theorem ws_So_sharesVariable : Cond.selects "TripleStore$Solutions" y_So_sharesVariable y_So_sharesVariable ∈ gT := gT_at 826 (by decide +kernel) (by decide +kernel)
theorem gc_Sv_154 {X : gC} {cc : ByteArray} {M : List mC} {k n pc : Nat} {L : List (Nat × Value)} {st rest : List Value} {y0 : MethodName} {b0 : ByteArray} {nl0 : Nat} {ret0 : Option FieldType} {rm : Room} {As : List Value} {post : Option Value → List mC → Prop} {o : Nat} {fs : List Value} (ok : gO X cc "TripleStore$Solver" (wsM y0 b0 nl0 ret0)) (hd : decode cc pc = .ok (.invokevirtual 154, 3)) (hM : mm_ (gLa X) y_So_sharesVariable w_So_sharesVariable rm (.ref o :: As) M post) (hst : As.reverse ++ .ref o :: rest = st) (hn : As.length = 2) (hrest : (rest.map fun v => v.category).sum ≤ 8) (hR : gF X rm 4 k n) (he : M[o]? = some (.inr (4, fs))) (hlen : ∀ r M', post r M' → M'.length = M.length) (kk : ∀ r M', post r M' → gg X M' (k + rm.cells) (n + rm.slots) (pc + 3) L (r.toList ++ rest)) : gg X M k n pc L st := g_callV ok (C := RSo) (T := TSo) (N := 2) hM i_So_sharesVariable ml_Sv_154 wn_So_sharesVariable ws_So_sharesVariable wi_So ⟨rfl, by decide, by decide, by rw [hn]; decide +kernel⟩ rfl hd hst hrest hR he hlen kk
theorem ml_So_27 : Cond.methodLink "TripleStore$Solutions" 27 y_So_term ∈ gT := gT_at 828 (by decide +kernel) (by decide +kernel)
theorem wn_So_term : Cond.instanceMethod y_So_term ∈ gT := gT_at 829 (by decide +kernel) (by decide +kernel)
theorem ws_So_term : Cond.selects "TripleStore$Solutions" y_So_term y_So_term ∈ gT := gT_at 830 (by decide +kernel) (by decide +kernel)
theorem gc_So_27 {X : gC} {cc : ByteArray} {M : List mC} {k n pc : Nat} {L : List (Nat × Value)} {st rest : List Value} {y0 : MethodName} {b0 : ByteArray} {nl0 : Nat} {ret0 : Option FieldType} {rm : Room} {As : List Value} {post : Option Value → List mC → Prop} {o : Nat} {fs : List Value} (ok : gO X cc "TripleStore$Solutions" (wsM y0 b0 nl0 ret0)) (hd : decode cc pc = .ok (.invokevirtual 27, 3)) (hM : mm_ (gLa X) y_So_term w_So_term rm (.ref o :: As) M post) (hst : As.reverse ++ .ref o :: rest = st) (hn : As.length = 2) (hrest : (rest.map fun v => v.category).sum ≤ 8) (hR : gF X rm 3 k n) (he : M[o]? = some (.inr (4, fs))) (hlen : ∀ r M', post r M' → M'.length = M.length) (kk : ∀ r M', post r M' → gg X M' (k + rm.cells) (n + rm.slots) (pc + 3) L (r.toList ++ rest)) : gg X M k n pc L st := g_callV ok (C := RSo) (T := TSo) (N := 2) hM i_So_term ml_So_27 wn_So_term ws_So_term wi_So ⟨rfl, by decide, by decide, by rw [hn]; decide +kernel⟩ rfl hd hst hrest hR he hlen kk
theorem ml_Sv_150 : Cond.methodLink "TripleStore$Solver" 150 y_So_joinInto ∈ gT := gT_at 832 (by decide +kernel) (by decide +kernel)
theorem wn_So_joinInto : Cond.instanceMethod y_So_joinInto ∈ gT := gT_at 833 (by decide +kernel) (by decide +kernel)
theorem ws_So_joinInto : Cond.selects "TripleStore$Solutions" y_So_joinInto y_So_joinInto ∈ gT := gT_at 834 (by decide +kernel) (by decide +kernel)
theorem gc_Sv_150 {X : gC} {cc : ByteArray} {M : List mC} {k n pc : Nat} {L : List (Nat × Value)} {st rest : List Value} {y0 : MethodName} {b0 : ByteArray} {nl0 : Nat} {ret0 : Option FieldType} {rm : Room} {As : List Value} {post : Option Value → List mC → Prop} {o : Nat} {fs : List Value} (ok : gO X cc "TripleStore$Solver" (wsM y0 b0 nl0 ret0)) (hd : decode cc pc = .ok (.invokevirtual 150, 3)) (hM : mm_ (gLa X) y_So_joinInto w_So_joinInto rm (.ref o :: As) M post) (hst : As.reverse ++ .ref o :: rest = st) (hn : As.length = 2) (hrest : (rest.map fun v => v.category).sum ≤ 8) (hR : gF X rm 6 k n) (he : M[o]? = some (.inr (4, fs))) (hlen : ∀ r M', post r M' → M'.length = M.length) (kk : ∀ r M', post r M' → gg X M' (k + rm.cells) (n + rm.slots) (pc + 3) L (r.toList ++ rest)) : gg X M k n pc L st := g_callV ok (C := RSo) (T := TSo) (N := 2) hM i_So_joinInto ml_Sv_150 wn_So_joinInto ws_So_joinInto wi_So ⟨rfl, by decide, by decide, by rw [hn]; decide +kernel⟩ rfl hd hst hrest hR he hlen kk
theorem ml_Sv_146 : Cond.methodLink "TripleStore$Solver" 146 y_Sv_joinAll ∈ gT := gT_at 836 (by decide +kernel) (by decide +kernel)
theorem wn_Sv_joinAll : Cond.instanceMethod y_Sv_joinAll ∈ gT := gT_at 838 (by decide +kernel) (by decide +kernel)
theorem ws_Sv_joinAll : Cond.selects "TripleStore$Solver" y_Sv_joinAll y_Sv_joinAll ∈ gT := gT_pr 30 (by decide +kernel) (by decide +kernel)
theorem gc_Sv_146 {X : gC} {cc : ByteArray} {M : List mC} {k n pc : Nat} {L : List (Nat × Value)} {st rest : List Value} {y0 : MethodName} {b0 : ByteArray} {nl0 : Nat} {ret0 : Option FieldType} {rm : Room} {As : List Value} {post : Option Value → List mC → Prop} {o : Nat} {fs : List Value} (ok : gO X cc "TripleStore$Solver" (wsM y0 b0 nl0 ret0)) (hd : decode cc pc = .ok (.invokevirtual 146, 3)) (hM : mm_ (gLa X) y_Sv_joinAll w_Sv_joinAll rm (.ref o :: As) M post) (hst : As.reverse ++ .ref o :: rest = st) (hn : As.length = 4) (hrest : (rest.map fun v => v.category).sum ≤ 8) (hR : gF X rm 6 k n) (he : M[o]? = some (.inr (5, fs))) (hlen : ∀ r M', post r M' → M'.length = M.length) (kk : ∀ r M', post r M' → gg X M' (k + rm.cells) (n + rm.slots) (pc + 3) L (r.toList ++ rest)) : gg X M k n pc L st := g_callV ok (C := RSv) (T := TSv) (N := 5) hM i_Sv_joinAll ml_Sv_146 wn_Sv_joinAll ws_Sv_joinAll wi_Sv ⟨rfl, by decide, by decide, by rw [hn]; decide +kernel⟩ rfl hd hst hrest hR he hlen kk
theorem ml_Sv_74 : Cond.methodLink "TripleStore$Solver" 74 y_Sv_turn ∈ gT := gT_at 840 (by decide +kernel) (by decide +kernel)
theorem wn_Sv_turn : Cond.instanceMethod y_Sv_turn ∈ gT := gT_at 842 (by decide +kernel) (by decide +kernel)
theorem ws_Sv_turn : Cond.selects "TripleStore$Solver" y_Sv_turn y_Sv_turn ∈ gT := gT_pr 31 (by decide +kernel) (by decide +kernel)
theorem gc_Sv_74 {X : gC} {cc : ByteArray} {M : List mC} {k n pc : Nat} {L : List (Nat × Value)} {st rest : List Value} {y0 : MethodName} {b0 : ByteArray} {nl0 : Nat} {ret0 : Option FieldType} {rm : Room} {As : List Value} {post : Option Value → List mC → Prop} {o : Nat} {fs : List Value} (ok : gO X cc "TripleStore$Solver" (wsM y0 b0 nl0 ret0)) (hd : decode cc pc = .ok (.invokevirtual 74, 3)) (hM : mm_ (gLa X) y_Sv_turn w_Sv_turn rm (.ref o :: As) M post) (hst : As.reverse ++ .ref o :: rest = st) (hn : As.length = 1) (hrest : (rest.map fun v => v.category).sum ≤ 8) (hR : gF X rm 3 k n) (he : M[o]? = some (.inr (5, fs))) (hlen : ∀ r M', post r M' → M'.length = M.length) (kk : ∀ r M', post r M' → gg X M' (k + rm.cells) (n + rm.slots) (pc + 3) L (r.toList ++ rest)) : gg X M k n pc L st := g_callV ok (C := RSv) (T := TSv) (N := 5) hM i_Sv_turn ml_Sv_74 wn_Sv_turn ws_Sv_turn wi_Sv ⟨rfl, by decide, by decide, by rw [hn]; decide +kernel⟩ rfl hd hst hrest hR he hlen kk
theorem ml_Sv_78 : Cond.methodLink "TripleStore$Solver" 78 y_Sv_keepPassing ∈ gT := gT_at 844 (by decide +kernel) (by decide +kernel)
theorem wn_Sv_keepPassing : Cond.instanceMethod y_Sv_keepPassing ∈ gT := gT_at 846 (by decide +kernel) (by decide +kernel)
theorem ws_Sv_keepPassing : Cond.selects "TripleStore$Solver" y_Sv_keepPassing y_Sv_keepPassing ∈ gT := gT_pr 32 (by decide +kernel) (by decide +kernel)
theorem gc_Sv_78 {X : gC} {cc : ByteArray} {M : List mC} {k n pc : Nat} {L : List (Nat × Value)} {st rest : List Value} {y0 : MethodName} {b0 : ByteArray} {nl0 : Nat} {ret0 : Option FieldType} {rm : Room} {As : List Value} {post : Option Value → List mC → Prop} {o : Nat} {fs : List Value} (ok : gO X cc "TripleStore$Solver" (wsM y0 b0 nl0 ret0)) (hd : decode cc pc = .ok (.invokevirtual 78, 3)) (hM : mm_ (gLa X) y_Sv_keepPassing w_Sv_keepPassing rm (.ref o :: As) M post) (hst : As.reverse ++ .ref o :: rest = st) (hn : As.length = 3) (hrest : (rest.map fun v => v.category).sum ≤ 8) (hR : gF X rm 5 k n) (he : M[o]? = some (.inr (5, fs))) (hlen : ∀ r M', post r M' → M'.length = M.length) (kk : ∀ r M', post r M' → gg X M' (k + rm.cells) (n + rm.slots) (pc + 3) L (r.toList ++ rest)) : gg X M k n pc L st := g_callV ok (C := RSv) (T := TSv) (N := 5) hM i_Sv_keepPassing ml_Sv_78 wn_Sv_keepPassing ws_Sv_keepPassing wi_Sv ⟨rfl, by decide, by decide, by rw [hn]; decide +kernel⟩ rfl hd hst hrest hR he hlen kk
theorem ml_Sv_157 : Cond.methodLink "TripleStore$Solver" 157 y_Sv_passesTests ∈ gT := gT_at 848 (by decide +kernel) (by decide +kernel)
theorem wn_Sv_passesTests : Cond.instanceMethod y_Sv_passesTests ∈ gT := gT_at 850 (by decide +kernel) (by decide +kernel)
theorem ws_Sv_passesTests : Cond.selects "TripleStore$Solver" y_Sv_passesTests y_Sv_passesTests ∈ gT := gT_pr 33 (by decide +kernel) (by decide +kernel)
theorem gc_Sv_157 {X : gC} {cc : ByteArray} {M : List mC} {k n pc : Nat} {L : List (Nat × Value)} {st rest : List Value} {y0 : MethodName} {b0 : ByteArray} {nl0 : Nat} {ret0 : Option FieldType} {rm : Room} {As : List Value} {post : Option Value → List mC → Prop} {o : Nat} {fs : List Value} (ok : gO X cc "TripleStore$Solver" (wsM y0 b0 nl0 ret0)) (hd : decode cc pc = .ok (.invokevirtual 157, 3)) (hM : mm_ (gLa X) y_Sv_passesTests w_Sv_passesTests rm (.ref o :: As) M post) (hst : As.reverse ++ .ref o :: rest = st) (hn : As.length = 1) (hrest : (rest.map fun v => v.category).sum ≤ 8) (hR : gF X rm 4 k n) (he : M[o]? = some (.inr (5, fs))) (hlen : ∀ r M', post r M' → M'.length = M.length) (kk : ∀ r M', post r M' → gg X M' (k + rm.cells) (n + rm.slots) (pc + 3) L (r.toList ++ rest)) : gg X M k n pc L st := g_callV ok (C := RSv) (T := TSv) (N := 5) hM i_Sv_passesTests ml_Sv_157 wn_Sv_passesTests ws_Sv_passesTests wi_Sv ⟨rfl, by decide, by decide, by rw [hn]; decide +kernel⟩ rfl hd hst hrest hR he hlen kk
theorem ml_Sv_161 : Cond.methodLink "TripleStore$Solver" 161 y_Sv_holds ∈ gT := gT_at 852 (by decide +kernel) (by decide +kernel)
theorem wn_Sv_holds : Cond.instanceMethod y_Sv_holds ∈ gT := gT_at 854 (by decide +kernel) (by decide +kernel)
theorem ws_Sv_holds : Cond.selects "TripleStore$Solver" y_Sv_holds y_Sv_holds ∈ gT := gT_pr 34 (by decide +kernel) (by decide +kernel)
theorem gc_Sv_161 {X : gC} {cc : ByteArray} {M : List mC} {k n pc : Nat} {L : List (Nat × Value)} {st rest : List Value} {y0 : MethodName} {b0 : ByteArray} {nl0 : Nat} {ret0 : Option FieldType} {rm : Room} {As : List Value} {post : Option Value → List mC → Prop} {o : Nat} {fs : List Value} (ok : gO X cc "TripleStore$Solver" (wsM y0 b0 nl0 ret0)) (hd : decode cc pc = .ok (.invokevirtual 161, 3)) (hM : mm_ (gLa X) y_Sv_holds w_Sv_holds rm (.ref o :: As) M post) (hst : As.reverse ++ .ref o :: rest = st) (hn : As.length = 1) (hrest : (rest.map fun v => v.category).sum ≤ 8) (hR : gF X rm 6 k n) (he : M[o]? = some (.inr (5, fs))) (hlen : ∀ r M', post r M' → M'.length = M.length) (kk : ∀ r M', post r M' → gg X M' (k + rm.cells) (n + rm.slots) (pc + 3) L (r.toList ++ rest)) : gg X M k n pc L st := g_callV ok (C := RSv) (T := TSv) (N := 5) hM i_Sv_holds ml_Sv_161 wn_Sv_holds ws_Sv_holds wi_Sv ⟨rfl, by decide, by decide, by rw [hn]; decide +kernel⟩ rfl hd hst hrest hR he hlen kk
theorem ml_TS_164 : Cond.methodLink "TripleStore" 164 y_Sv_solutions ∈ gT := gT_at 857 (by decide +kernel) (by decide +kernel)
theorem wn_Sv_solutions : Cond.instanceMethod y_Sv_solutions ∈ gT := gT_at 858 (by decide +kernel) (by decide +kernel)
theorem ws_Sv_solutions : Cond.selects "TripleStore$Solver" y_Sv_solutions y_Sv_solutions ∈ gT := gT_at 859 (by decide +kernel) (by decide +kernel)
theorem gc_TS_164 {X : gC} {cc : ByteArray} {M : List mC} {k n pc : Nat} {L : List (Nat × Value)} {st rest : List Value} {y0 : MethodName} {b0 : ByteArray} {nl0 : Nat} {ret0 : Option FieldType} {rm : Room} {As : List Value} {post : Option Value → List mC → Prop} {o : Nat} {fs : List Value} (ok : gO X cc "TripleStore" (wsM y0 b0 nl0 ret0)) (hd : decode cc pc = .ok (.invokevirtual 164, 3)) (hM : mm_ (gLa X) y_Sv_solutions w_Sv_solutions rm (.ref o :: As) M post) (hst : As.reverse ++ .ref o :: rest = st) (hn : As.length = 0) (hrest : (rest.map fun v => v.category).sum ≤ 8) (hR : gF X rm 1 k n) (he : M[o]? = some (.inr (5, fs))) (hlen : ∀ r M', post r M' → M'.length = M.length) (kk : ∀ r M', post r M' → gg X M' (k + rm.cells) (n + rm.slots) (pc + 3) L (r.toList ++ rest)) : gg X M k n pc L st := g_callV ok (C := RSv) (T := TSv) (N := 5) hM i_Sv_solutions ml_TS_164 wn_Sv_solutions ws_Sv_solutions wi_Sv ⟨rfl, by decide, by decide, by rw [hn]; decide +kernel⟩ rfl hd hst hrest hR he hlen kk
theorem ml_TS_168 : Cond.methodLink "TripleStore" 168 y_Ro_fill ∈ gT := gT_at 861 (by decide +kernel) (by decide +kernel)
theorem wn_Ro_fill : Cond.instanceMethod y_Ro_fill ∈ gT := gT_at 862 (by decide +kernel) (by decide +kernel)
theorem ws_Ro_fill : Cond.selects "TripleStore$Rows" y_Ro_fill y_Ro_fill ∈ gT := gT_at 863 (by decide +kernel) (by decide +kernel)
theorem gc_TS_168 {X : gC} {cc : ByteArray} {M : List mC} {k n pc : Nat} {L : List (Nat × Value)} {st rest : List Value} {y0 : MethodName} {b0 : ByteArray} {nl0 : Nat} {ret0 : Option FieldType} {rm : Room} {As : List Value} {post : Option Value → List mC → Prop} {o : Nat} {fs : List Value} (ok : gO X cc "TripleStore" (wsM y0 b0 nl0 ret0)) (hd : decode cc pc = .ok (.invokevirtual 168, 3)) (hM : mm_ (gLa X) y_Ro_fill w_Ro_fill rm (.ref o :: As) M post) (hst : As.reverse ++ .ref o :: rest = st) (hn : As.length = 2) (hrest : (rest.map fun v => v.category).sum ≤ 8) (hR : gF X rm 4 k n) (he : M[o]? = some (.inr (3, fs))) (hlen : ∀ r M', post r M' → M'.length = M.length) (kk : ∀ r M', post r M' → gg X M' (k + rm.cells) (n + rm.slots) (pc + 3) L (r.toList ++ rest)) : gg X M k n pc L st := g_callV ok (C := RRo) (T := TRo) (N := 4) hM i_Ro_fill ml_TS_168 wn_Ro_fill ws_Ro_fill wi_Ro ⟨rfl, by decide, by decide, by rw [hn]; decide +kernel⟩ rfl hd hst hrest hR he hlen kk
theorem ml_Ro_38 : Cond.methodLink "TripleStore$Rows" 38 y_Ro_sort ∈ gT := gT_at 865 (by decide +kernel) (by decide +kernel)
theorem wn_Ro_sort : Cond.instanceMethod y_Ro_sort ∈ gT := gT_at 867 (by decide +kernel) (by decide +kernel)
theorem ws_Ro_sort : Cond.selects "TripleStore$Rows" y_Ro_sort y_Ro_sort ∈ gT := gT_pr 35 (by decide +kernel) (by decide +kernel)
theorem gc_Ro_38 {X : gC} {cc : ByteArray} {M : List mC} {k n pc : Nat} {L : List (Nat × Value)} {st rest : List Value} {y0 : MethodName} {b0 : ByteArray} {nl0 : Nat} {ret0 : Option FieldType} {rm : Room} {As : List Value} {post : Option Value → List mC → Prop} {o : Nat} {fs : List Value} (ok : gO X cc "TripleStore$Rows" (wsM y0 b0 nl0 ret0)) (hd : decode cc pc = .ok (.invokevirtual 38, 3)) (hM : mm_ (gLa X) y_Ro_sort w_Ro_sort rm (.ref o :: As) M post) (hst : As.reverse ++ .ref o :: rest = st) (hn : As.length = 2) (hrest : (rest.map fun v => v.category).sum ≤ 8) (hR : gF X rm 5 k n) (he : M[o]? = some (.inr (3, fs))) (hlen : ∀ r M', post r M' → M'.length = M.length) (kk : ∀ r M', post r M' → gg X M' (k + rm.cells) (n + rm.slots) (pc + 3) L (r.toList ++ rest)) : gg X M k n pc L st := g_callV ok (C := RRo) (T := TRo) (N := 4) hM i_Ro_sort ml_Ro_38 wn_Ro_sort ws_Ro_sort wi_Ro ⟨rfl, by decide, by decide, by rw [hn]; decide +kernel⟩ rfl hd hst hrest hR he hlen kk
theorem ml_Ro_42 : Cond.methodLink "TripleStore$Rows" 42 y_So_size ∈ gT := gT_at 869 (by decide +kernel) (by decide +kernel)
theorem gc_Ro_42 {X : gC} {cc : ByteArray} {M : List mC} {k n pc : Nat} {L : List (Nat × Value)} {st rest : List Value} {y0 : MethodName} {b0 : ByteArray} {nl0 : Nat} {ret0 : Option FieldType} {rm : Room} {As : List Value} {post : Option Value → List mC → Prop} {o : Nat} {fs : List Value} (ok : gO X cc "TripleStore$Rows" (wsM y0 b0 nl0 ret0)) (hd : decode cc pc = .ok (.invokevirtual 42, 3)) (hM : mm_ (gLa X) y_So_size w_So_size rm (.ref o :: As) M post) (hst : As.reverse ++ .ref o :: rest = st) (hn : As.length = 0) (hrest : (rest.map fun v => v.category).sum ≤ 8) (hR : gF X rm 1 k n) (he : M[o]? = some (.inr (4, fs))) (hlen : ∀ r M', post r M' → M'.length = M.length) (kk : ∀ r M', post r M' → gg X M' (k + rm.cells) (n + rm.slots) (pc + 3) L (r.toList ++ rest)) : gg X M k n pc L st := g_callV ok (C := RSo) (T := TSo) (N := 2) hM i_So_size ml_Ro_42 wn_So_size ws_So_size wi_So ⟨rfl, by decide, by decide, by rw [hn]; decide +kernel⟩ rfl hd hst hrest hR he hlen kk
theorem ml_Ro_74 : Cond.methodLink "TripleStore$Rows" 74 y_Ro_standsBefore ∈ gT := gT_at 870 (by decide +kernel) (by decide +kernel)
theorem wn_Ro_standsBefore : Cond.instanceMethod y_Ro_standsBefore ∈ gT := gT_at 872 (by decide +kernel) (by decide +kernel)
theorem ws_Ro_standsBefore : Cond.selects "TripleStore$Rows" y_Ro_standsBefore y_Ro_standsBefore ∈ gT := gT_pr 36 (by decide +kernel) (by decide +kernel)
theorem gc_Ro_74 {X : gC} {cc : ByteArray} {M : List mC} {k n pc : Nat} {L : List (Nat × Value)} {st rest : List Value} {y0 : MethodName} {b0 : ByteArray} {nl0 : Nat} {ret0 : Option FieldType} {rm : Room} {As : List Value} {post : Option Value → List mC → Prop} {o : Nat} {fs : List Value} (ok : gO X cc "TripleStore$Rows" (wsM y0 b0 nl0 ret0)) (hd : decode cc pc = .ok (.invokevirtual 74, 3)) (hM : mm_ (gLa X) y_Ro_standsBefore w_Ro_standsBefore rm (.ref o :: As) M post) (hst : As.reverse ++ .ref o :: rest = st) (hn : As.length = 4) (hrest : (rest.map fun v => v.category).sum ≤ 8) (hR : gF X rm 10 k n) (he : M[o]? = some (.inr (3, fs))) (hlen : ∀ r M', post r M' → M'.length = M.length) (kk : ∀ r M', post r M' → gg X M' (k + rm.cells) (n + rm.slots) (pc + 3) L (r.toList ++ rest)) : gg X M k n pc L st := g_callV ok (C := RRo) (T := TRo) (N := 4) hM i_Ro_standsBefore ml_Ro_74 wn_Ro_standsBefore ws_Ro_standsBefore wi_Ro ⟨rfl, by decide, by decide, by rw [hn]; decide +kernel⟩ rfl hd hst hrest hR he hlen kk
theorem ml_Ro_67 : Cond.methodLink "TripleStore$Rows" 67 y_So_term ∈ gT := gT_at 874 (by decide +kernel) (by decide +kernel)
theorem gc_Ro_67 {X : gC} {cc : ByteArray} {M : List mC} {k n pc : Nat} {L : List (Nat × Value)} {st rest : List Value} {y0 : MethodName} {b0 : ByteArray} {nl0 : Nat} {ret0 : Option FieldType} {rm : Room} {As : List Value} {post : Option Value → List mC → Prop} {o : Nat} {fs : List Value} (ok : gO X cc "TripleStore$Rows" (wsM y0 b0 nl0 ret0)) (hd : decode cc pc = .ok (.invokevirtual 67, 3)) (hM : mm_ (gLa X) y_So_term w_So_term rm (.ref o :: As) M post) (hst : As.reverse ++ .ref o :: rest = st) (hn : As.length = 2) (hrest : (rest.map fun v => v.category).sum ≤ 8) (hR : gF X rm 3 k n) (he : M[o]? = some (.inr (4, fs))) (hlen : ∀ r M', post r M' → M'.length = M.length) (kk : ∀ r M', post r M' → gg X M' (k + rm.cells) (n + rm.slots) (pc + 3) L (r.toList ++ rest)) : gg X M k n pc L st := g_callV ok (C := RSo) (T := TSo) (N := 2) hM i_So_term ml_Ro_67 wn_So_term ws_So_term wi_So ⟨rfl, by decide, by decide, by rw [hn]; decide +kernel⟩ rfl hd hst hrest hR he hlen kk
theorem ml_Ro_52 : Cond.methodLink "TripleStore$Rows" 52 y_Ro_takeRow ∈ gT := gT_at 875 (by decide +kernel) (by decide +kernel)
theorem wn_Ro_takeRow : Cond.instanceMethod y_Ro_takeRow ∈ gT := gT_at 877 (by decide +kernel) (by decide +kernel)
theorem ws_Ro_takeRow : Cond.selects "TripleStore$Rows" y_Ro_takeRow y_Ro_takeRow ∈ gT := gT_pr 37 (by decide +kernel) (by decide +kernel)
theorem gc_Ro_52 {X : gC} {cc : ByteArray} {M : List mC} {k n pc : Nat} {L : List (Nat × Value)} {st rest : List Value} {y0 : MethodName} {b0 : ByteArray} {nl0 : Nat} {ret0 : Option FieldType} {rm : Room} {As : List Value} {post : Option Value → List mC → Prop} {o : Nat} {fs : List Value} (ok : gO X cc "TripleStore$Rows" (wsM y0 b0 nl0 ret0)) (hd : decode cc pc = .ok (.invokevirtual 52, 3)) (hM : mm_ (gLa X) y_Ro_takeRow w_Ro_takeRow rm (.ref o :: As) M post) (hst : As.reverse ++ .ref o :: rest = st) (hn : As.length = 3) (hrest : (rest.map fun v => v.category).sum ≤ 8) (hR : gF X rm 5 k n) (he : M[o]? = some (.inr (3, fs))) (hlen : ∀ r M', post r M' → M'.length = M.length) (kk : ∀ r M', post r M' → gg X M' (k + rm.cells) (n + rm.slots) (pc + 3) L (r.toList ++ rest)) : gg X M k n pc L st := g_callV ok (C := RRo) (T := TRo) (N := 4) hM i_Ro_takeRow ml_Ro_52 wn_Ro_takeRow ws_Ro_takeRow wi_Ro ⟨rfl, by decide, by decide, by rw [hn]; decide +kernel⟩ rfl hd hst hrest hR he hlen kk
theorem ml_Ro_60 : Cond.methodLink "TripleStore$Rows" 60 y_Ro_isLastKnown ∈ gT := gT_at 879 (by decide +kernel) (by decide +kernel)
theorem wn_Ro_isLastKnown : Cond.instanceMethod y_Ro_isLastKnown ∈ gT := gT_at 881 (by decide +kernel) (by decide +kernel)
theorem ws_Ro_isLastKnown : Cond.selects "TripleStore$Rows" y_Ro_isLastKnown y_Ro_isLastKnown ∈ gT := gT_pr 38 (by decide +kernel) (by decide +kernel)
theorem gc_Ro_60 {X : gC} {cc : ByteArray} {M : List mC} {k n pc : Nat} {L : List (Nat × Value)} {st rest : List Value} {y0 : MethodName} {b0 : ByteArray} {nl0 : Nat} {ret0 : Option FieldType} {rm : Room} {As : List Value} {post : Option Value → List mC → Prop} {o : Nat} {fs : List Value} (ok : gO X cc "TripleStore$Rows" (wsM y0 b0 nl0 ret0)) (hd : decode cc pc = .ok (.invokevirtual 60, 3)) (hM : mm_ (gLa X) y_Ro_isLastKnown w_Ro_isLastKnown rm (.ref o :: As) M post) (hst : As.reverse ++ .ref o :: rest = st) (hn : As.length = 0) (hrest : (rest.map fun v => v.category).sum ≤ 8) (hR : gF X rm 2 k n) (he : M[o]? = some (.inr (3, fs))) (hlen : ∀ r M', post r M' → M'.length = M.length) (kk : ∀ r M', post r M' → gg X M' (k + rm.cells) (n + rm.slots) (pc + 3) L (r.toList ++ rest)) : gg X M k n pc L st := g_callV ok (C := RRo) (T := TRo) (N := 4) hM i_Ro_isLastKnown ml_Ro_60 wn_Ro_isLastKnown ws_Ro_isLastKnown wi_Ro ⟨rfl, by decide, by decide, by rw [hn]; decide +kernel⟩ rfl hd hst hrest hR he hlen kk
theorem ml_Ro_71 : Cond.methodLink "TripleStore$Rows" 71 y_Ro_isSameRow ∈ gT := gT_at 883 (by decide +kernel) (by decide +kernel)
theorem wn_Ro_isSameRow : Cond.instanceMethod y_Ro_isSameRow ∈ gT := gT_at 885 (by decide +kernel) (by decide +kernel)
theorem ws_Ro_isSameRow : Cond.selects "TripleStore$Rows" y_Ro_isSameRow y_Ro_isSameRow ∈ gT := gT_pr 39 (by decide +kernel) (by decide +kernel)
theorem gc_Ro_71 {X : gC} {cc : ByteArray} {M : List mC} {k n pc : Nat} {L : List (Nat × Value)} {st rest : List Value} {y0 : MethodName} {b0 : ByteArray} {nl0 : Nat} {ret0 : Option FieldType} {rm : Room} {As : List Value} {post : Option Value → List mC → Prop} {o : Nat} {fs : List Value} (ok : gO X cc "TripleStore$Rows" (wsM y0 b0 nl0 ret0)) (hd : decode cc pc = .ok (.invokevirtual 71, 3)) (hM : mm_ (gLa X) y_Ro_isSameRow w_Ro_isSameRow rm (.ref o :: As) M post) (hst : As.reverse ++ .ref o :: rest = st) (hn : As.length = 2) (hrest : (rest.map fun v => v.category).sum ≤ 8) (hR : gF X rm 4 k n) (he : M[o]? = some (.inr (3, fs))) (hlen : ∀ r M', post r M' → M'.length = M.length) (kk : ∀ r M', post r M' → gg X M' (k + rm.cells) (n + rm.slots) (pc + 3) L (r.toList ++ rest)) : gg X M k n pc L st := g_callV ok (C := RRo) (T := TRo) (N := 4) hM i_Ro_isSameRow ml_Ro_71 wn_Ro_isSameRow ws_Ro_isSameRow wi_Ro ⟨rfl, by decide, by decide, by rw [hn]; decide +kernel⟩ rfl hd hst hrest hR he hlen kk
theorem ml_TS_172 : Cond.methodLink "TripleStore" 172 y_Ro_size ∈ gT := gT_at 887 (by decide +kernel) (by decide +kernel)
theorem wn_Ro_size : Cond.instanceMethod y_Ro_size ∈ gT := gT_at 888 (by decide +kernel) (by decide +kernel)
theorem ws_Ro_size : Cond.selects "TripleStore$Rows" y_Ro_size y_Ro_size ∈ gT := gT_at 889 (by decide +kernel) (by decide +kernel)
theorem gc_TS_172 {X : gC} {cc : ByteArray} {M : List mC} {k n pc : Nat} {L : List (Nat × Value)} {st rest : List Value} {y0 : MethodName} {b0 : ByteArray} {nl0 : Nat} {ret0 : Option FieldType} {rm : Room} {As : List Value} {post : Option Value → List mC → Prop} {o : Nat} {fs : List Value} (ok : gO X cc "TripleStore" (wsM y0 b0 nl0 ret0)) (hd : decode cc pc = .ok (.invokevirtual 172, 3)) (hM : mm_ (gLa X) y_Ro_size w_Ro_size rm (.ref o :: As) M post) (hst : As.reverse ++ .ref o :: rest = st) (hn : As.length = 0) (hrest : (rest.map fun v => v.category).sum ≤ 8) (hR : gF X rm 1 k n) (he : M[o]? = some (.inr (3, fs))) (hlen : ∀ r M', post r M' → M'.length = M.length) (kk : ∀ r M', post r M' → gg X M' (k + rm.cells) (n + rm.slots) (pc + 3) L (r.toList ++ rest)) : gg X M k n pc L st := g_callV ok (C := RRo) (T := TRo) (N := 4) hM i_Ro_size ml_TS_172 wn_Ro_size ws_Ro_size wi_Ro ⟨rfl, by decide, by decide, by rw [hn]; decide +kernel⟩ rfl hd hst hrest hR he hlen kk
theorem ml_La_41 : Cond.methodLink "TripleStoreLaw" 41 y_TS_cell ∈ gT := gT_at 896 (by decide +kernel) (by decide +kernel)
theorem wn_TS_cell : Cond.instanceMethod y_TS_cell ∈ gT := gT_at 897 (by decide +kernel) (by decide +kernel)
theorem ws_TS_cell : Cond.selects "TripleStore" y_TS_cell y_TS_cell ∈ gT := gT_at 898 (by decide +kernel) (by decide +kernel)
theorem gc_La_41 {X : gC} {cc : ByteArray} {M : List mC} {k n pc : Nat} {L : List (Nat × Value)} {st rest : List Value} {y0 : MethodName} {b0 : ByteArray} {nl0 : Nat} {ret0 : Option FieldType} {rm : Room} {As : List Value} {post : Option Value → List mC → Prop} {o : Nat} {fs : List Value} (ok : gO X cc "TripleStoreLaw" (wsM y0 b0 nl0 ret0)) (hd : decode cc pc = .ok (.invokevirtual 41, 3)) (hM : mm_ (gLa X) y_TS_cell w_TS_cell rm (.ref o :: As) M post) (hst : As.reverse ++ .ref o :: rest = st) (hn : As.length = 2) (hrest : (rest.map fun v => v.category).sum ≤ 8) (hR : gF X rm 5 k n) (he : M[o]? = some (.inr (9, fs))) (hlen : ∀ r M', post r M' → M'.length = M.length) (kk : ∀ r M', post r M' → gg X M' (k + rm.cells) (n + rm.slots) (pc + 3) L (r.toList ++ rest)) : gg X M k n pc L st := g_callV ok (C := RTS) (T := TTS) (N := 9) hM i_TS_cell ml_La_41 wn_TS_cell ws_TS_cell wi_TS ⟨rfl, by decide, by decide, by rw [hn]; decide +kernel⟩ rfl hd hst hrest hR he hlen kk
theorem ml_TS_173 : Cond.methodLink "TripleStore" 173 y_Ro_hasPlace ∈ gT := gT_at 900 (by decide +kernel) (by decide +kernel)
theorem wn_Ro_hasPlace : Cond.instanceMethod y_Ro_hasPlace ∈ gT := gT_at 901 (by decide +kernel) (by decide +kernel)
theorem ws_Ro_hasPlace : Cond.selects "TripleStore$Rows" y_Ro_hasPlace y_Ro_hasPlace ∈ gT := gT_at 902 (by decide +kernel) (by decide +kernel)
theorem gc_TS_173 {X : gC} {cc : ByteArray} {M : List mC} {k n pc : Nat} {L : List (Nat × Value)} {st rest : List Value} {y0 : MethodName} {b0 : ByteArray} {nl0 : Nat} {ret0 : Option FieldType} {rm : Room} {As : List Value} {post : Option Value → List mC → Prop} {o : Nat} {fs : List Value} (ok : gO X cc "TripleStore" (wsM y0 b0 nl0 ret0)) (hd : decode cc pc = .ok (.invokevirtual 173, 3)) (hM : mm_ (gLa X) y_Ro_hasPlace w_Ro_hasPlace rm (.ref o :: As) M post) (hst : As.reverse ++ .ref o :: rest = st) (hn : As.length = 2) (hrest : (rest.map fun v => v.category).sum ≤ 8) (hR : gF X rm 3 k n) (he : M[o]? = some (.inr (3, fs))) (hlen : ∀ r M', post r M' → M'.length = M.length) (kk : ∀ r M', post r M' → gg X M' (k + rm.cells) (n + rm.slots) (pc + 3) L (r.toList ++ rest)) : gg X M k n pc L st := g_callV ok (C := RRo) (T := TRo) (N := 4) hM i_Ro_hasPlace ml_TS_173 wn_Ro_hasPlace ws_Ro_hasPlace wi_Ro ⟨rfl, by decide, by decide, by rw [hn]; decide +kernel⟩ rfl hd hst hrest hR he hlen kk
theorem ml_TS_181 : Cond.methodLink "TripleStore" 181 y_Ro_term ∈ gT := gT_at 920 (by decide +kernel) (by decide +kernel)
theorem wn_Ro_term : Cond.instanceMethod y_Ro_term ∈ gT := gT_at 921 (by decide +kernel) (by decide +kernel)
theorem ws_Ro_term : Cond.selects "TripleStore$Rows" y_Ro_term y_Ro_term ∈ gT := gT_at 922 (by decide +kernel) (by decide +kernel)
theorem gc_TS_181 {X : gC} {cc : ByteArray} {M : List mC} {k n pc : Nat} {L : List (Nat × Value)} {st rest : List Value} {y0 : MethodName} {b0 : ByteArray} {nl0 : Nat} {ret0 : Option FieldType} {rm : Room} {As : List Value} {post : Option Value → List mC → Prop} {o : Nat} {fs : List Value} (ok : gO X cc "TripleStore" (wsM y0 b0 nl0 ret0)) (hd : decode cc pc = .ok (.invokevirtual 181, 3)) (hM : mm_ (gLa X) y_Ro_term w_Ro_term rm (.ref o :: As) M post) (hst : As.reverse ++ .ref o :: rest = st) (hn : As.length = 2) (hrest : (rest.map fun v => v.category).sum ≤ 8) (hR : gF X rm 3 k n) (he : M[o]? = some (.inr (3, fs))) (hlen : ∀ r M', post r M' → M'.length = M.length) (kk : ∀ r M', post r M' → gg X M' (k + rm.cells) (n + rm.slots) (pc + 3) L (r.toList ++ rest)) : gg X M k n pc L st := g_callV ok (C := RRo) (T := TRo) (N := 4) hM i_Ro_term ml_TS_181 wn_Ro_term ws_Ro_term wi_Ro ⟨rfl, by decide, by decide, by rw [hn]; decide +kernel⟩ rfl hd hst hrest hR he hlen kk
theorem ml_Ro_26 : Cond.methodLink "TripleStore$Rows" 26 y_Ro_hasPlace ∈ gT := gT_at 924 (by decide +kernel) (by decide +kernel)
theorem gc_Ro_26 {X : gC} {cc : ByteArray} {M : List mC} {k n pc : Nat} {L : List (Nat × Value)} {st rest : List Value} {y0 : MethodName} {b0 : ByteArray} {nl0 : Nat} {ret0 : Option FieldType} {rm : Room} {As : List Value} {post : Option Value → List mC → Prop} {o : Nat} {fs : List Value} (ok : gO X cc "TripleStore$Rows" (wsM y0 b0 nl0 ret0)) (hd : decode cc pc = .ok (.invokevirtual 26, 3)) (hM : mm_ (gLa X) y_Ro_hasPlace w_Ro_hasPlace rm (.ref o :: As) M post) (hst : As.reverse ++ .ref o :: rest = st) (hn : As.length = 2) (hrest : (rest.map fun v => v.category).sum ≤ 8) (hR : gF X rm 3 k n) (he : M[o]? = some (.inr (3, fs))) (hlen : ∀ r M', post r M' → M'.length = M.length) (kk : ∀ r M', post r M' → gg X M' (k + rm.cells) (n + rm.slots) (pc + 3) L (r.toList ++ rest)) : gg X M k n pc L st := g_callV ok (C := RRo) (T := TRo) (N := 4) hM i_Ro_hasPlace ml_Ro_26 wn_Ro_hasPlace ws_Ro_hasPlace wi_Ro ⟨rfl, by decide, by decide, by rw [hn]; decide +kernel⟩ rfl hd hst hrest hR he hlen kk
theorem ml_TS_190 : Cond.methodLink "TripleStore" 190 y_Te_shown ∈ gT := gT_at 941 (by decide +kernel) (by decide +kernel)
theorem wt_Te_shown : Cond.static y_Te_shown ∈ gT := gT_at 942 (by decide +kernel) (by decide +kernel)
theorem gc_TS_190 {X : gC} {cc : ByteArray} {M : List mC} {k n pc : Nat} {L : List (Nat × Value)} {st rest : List Value} {y0 : MethodName} {b0 : ByteArray} {nl0 : Nat} {ret0 : Option FieldType} {rm : Room} {As : List Value} {post : Option Value → List mC → Prop} (ok : gO X cc "TripleStore" (wsM y0 b0 nl0 ret0)) (hd : decode cc pc = .ok (.invokestatic 190, 3)) (hM : mm_ (gLa X) y_Te_shown w_Te_shown rm As M post) (hst : As.reverse ++ rest = st) (hn : As.length = 1) (hrest : (rest.map fun v => v.category).sum ≤ 8) (hR : gF X rm 5 k n) (hlen : ∀ r M', post r M' → M'.length = M.length) (kk : ∀ r M', post r M' → gg X M' (k + rm.cells) (n + rm.slots) (pc + 3) L (r.toList ++ rest)) : gg X M k n pc L st := g_callS ok hM i_Te_shown ml_TS_190 wt_Te_shown wi_Te ⟨by decide, by decide, by rw [hn]; decide +kernel⟩ hd hst hrest hR hlen kk
theorem ml_Te_28 : Cond.methodLink "TripleStore$Terms" 28 y_Te_isHeldNumber ∈ gT := gT_at 944 (by decide +kernel) (by decide +kernel)
theorem gc_Te_28 {X : gC} {cc : ByteArray} {M : List mC} {k n pc : Nat} {L : List (Nat × Value)} {st rest : List Value} {y0 : MethodName} {b0 : ByteArray} {nl0 : Nat} {ret0 : Option FieldType} {rm : Room} {As : List Value} {post : Option Value → List mC → Prop} (ok : gO X cc "TripleStore$Terms" (wsM y0 b0 nl0 ret0)) (hd : decode cc pc = .ok (.invokestatic 28, 3)) (hM : mm_ (gLa X) y_Te_isHeldNumber w_Te_isHeldNumber rm As M post) (hst : As.reverse ++ rest = st) (hn : As.length = 1) (hrest : (rest.map fun v => v.category).sum ≤ 8) (hR : gF X rm 2 k n) (hlen : ∀ r M', post r M' → M'.length = M.length) (kk : ∀ r M', post r M' → gg X M' (k + rm.cells) (n + rm.slots) (pc + 3) L (r.toList ++ rest)) : gg X M k n pc L st := g_callS ok hM i_Te_isHeldNumber ml_Te_28 wt_Te_isHeldNumber wi_Te ⟨by decide, by decide, by rw [hn]; decide +kernel⟩ hd hst hrest hR hlen kk
theorem ml_La_49 : Cond.methodLink "TripleStoreLaw" 49 y_TS_count ∈ gT := gT_at 948 (by decide +kernel) (by decide +kernel)
theorem wn_TS_count : Cond.instanceMethod y_TS_count ∈ gT := gT_at 949 (by decide +kernel) (by decide +kernel)
theorem ws_TS_count : Cond.selects "TripleStore" y_TS_count y_TS_count ∈ gT := gT_at 950 (by decide +kernel) (by decide +kernel)
theorem gc_La_49 {X : gC} {cc : ByteArray} {M : List mC} {k n pc : Nat} {L : List (Nat × Value)} {st rest : List Value} {y0 : MethodName} {b0 : ByteArray} {nl0 : Nat} {ret0 : Option FieldType} {rm : Room} {As : List Value} {post : Option Value → List mC → Prop} {o : Nat} {fs : List Value} (ok : gO X cc "TripleStoreLaw" (wsM y0 b0 nl0 ret0)) (hd : decode cc pc = .ok (.invokevirtual 49, 3)) (hM : mm_ (gLa X) y_TS_count w_TS_count rm (.ref o :: As) M post) (hst : As.reverse ++ .ref o :: rest = st) (hn : As.length = 1) (hrest : (rest.map fun v => v.category).sum ≤ 8) (hR : gF X rm 2 k n) (he : M[o]? = some (.inr (9, fs))) (hlen : ∀ r M', post r M' → M'.length = M.length) (kk : ∀ r M', post r M' → gg X M' (k + rm.cells) (n + rm.slots) (pc + 3) L (r.toList ++ rest)) : gg X M k n pc L st := g_callV ok (C := RTS) (T := TTS) (N := 9) hM i_TS_count ml_La_49 wn_TS_count ws_TS_count wi_TS ⟨rfl, by decide, by decide, by rw [hn]; decide +kernel⟩ rfl hd hst hrest hR he hlen kk
theorem ml_TS_193 : Cond.methodLink "TripleStore" 193 y_Ro_columns ∈ gT := gT_at 952 (by decide +kernel) (by decide +kernel)
theorem wn_Ro_columns : Cond.instanceMethod y_Ro_columns ∈ gT := gT_at 953 (by decide +kernel) (by decide +kernel)
theorem ws_Ro_columns : Cond.selects "TripleStore$Rows" y_Ro_columns y_Ro_columns ∈ gT := gT_at 954 (by decide +kernel) (by decide +kernel)
theorem gc_TS_193 {X : gC} {cc : ByteArray} {M : List mC} {k n pc : Nat} {L : List (Nat × Value)} {st rest : List Value} {y0 : MethodName} {b0 : ByteArray} {nl0 : Nat} {ret0 : Option FieldType} {rm : Room} {As : List Value} {post : Option Value → List mC → Prop} {o : Nat} {fs : List Value} (ok : gO X cc "TripleStore" (wsM y0 b0 nl0 ret0)) (hd : decode cc pc = .ok (.invokevirtual 193, 3)) (hM : mm_ (gLa X) y_Ro_columns w_Ro_columns rm (.ref o :: As) M post) (hst : As.reverse ++ .ref o :: rest = st) (hn : As.length = 0) (hrest : (rest.map fun v => v.category).sum ≤ 8) (hR : gF X rm 1 k n) (he : M[o]? = some (.inr (3, fs))) (hlen : ∀ r M', post r M' → M'.length = M.length) (kk : ∀ r M', post r M' → gg X M' (k + rm.cells) (n + rm.slots) (pc + 3) L (r.toList ++ rest)) : gg X M k n pc L st := g_callV ok (C := RRo) (T := TRo) (N := 4) hM i_Ro_columns ml_TS_193 wn_Ro_columns ws_Ro_columns wi_Ro ⟨rfl, by decide, by decide, by rw [hn]; decide +kernel⟩ rfl hd hst hrest hR he hlen kk
theorem ml_TS_195 : Cond.methodLink "TripleStore" 195 y_St_committed ∈ gT := gT_at 956 (by decide +kernel) (by decide +kernel)
theorem wn_St_committed : Cond.instanceMethod y_St_committed ∈ gT := gT_at 957 (by decide +kernel) (by decide +kernel)
theorem ws_St_committed : Cond.selects "TripleStore$Store" y_St_committed y_St_committed ∈ gT := gT_at 958 (by decide +kernel) (by decide +kernel)
theorem gc_TS_195 {X : gC} {cc : ByteArray} {M : List mC} {k n pc : Nat} {L : List (Nat × Value)} {st rest : List Value} {y0 : MethodName} {b0 : ByteArray} {nl0 : Nat} {ret0 : Option FieldType} {rm : Room} {As : List Value} {post : Option Value → List mC → Prop} {o : Nat} {fs : List Value} (ok : gO X cc "TripleStore" (wsM y0 b0 nl0 ret0)) (hd : decode cc pc = .ok (.invokevirtual 195, 3)) (hM : mm_ (gLa X) y_St_committed w_St_committed rm (.ref o :: As) M post) (hst : As.reverse ++ .ref o :: rest = st) (hn : As.length = 0) (hrest : (rest.map fun v => v.category).sum ≤ 8) (hR : gF X rm 1 k n) (he : M[o]? = some (.inr (6, fs))) (hlen : ∀ r M', post r M' → M'.length = M.length) (kk : ∀ r M', post r M' → gg X M' (k + rm.cells) (n + rm.slots) (pc + 3) L (r.toList ++ rest)) : gg X M k n pc L st := g_callV ok (C := RSt) (T := TSt) (N := 8) hM i_St_committed ml_TS_195 wn_St_committed ws_St_committed wi_St ⟨rfl, by decide, by decide, by rw [hn]; decide +kernel⟩ rfl hd hst hrest hR he hlen kk
theorem ml_TS_198 : Cond.methodLink "TripleStore" 198 y_St_unsynced ∈ gT := gT_at 960 (by decide +kernel) (by decide +kernel)
theorem wn_St_unsynced : Cond.instanceMethod y_St_unsynced ∈ gT := gT_at 961 (by decide +kernel) (by decide +kernel)
theorem ws_St_unsynced : Cond.selects "TripleStore$Store" y_St_unsynced y_St_unsynced ∈ gT := gT_at 962 (by decide +kernel) (by decide +kernel)
theorem gc_TS_198 {X : gC} {cc : ByteArray} {M : List mC} {k n pc : Nat} {L : List (Nat × Value)} {st rest : List Value} {y0 : MethodName} {b0 : ByteArray} {nl0 : Nat} {ret0 : Option FieldType} {rm : Room} {As : List Value} {post : Option Value → List mC → Prop} {o : Nat} {fs : List Value} (ok : gO X cc "TripleStore" (wsM y0 b0 nl0 ret0)) (hd : decode cc pc = .ok (.invokevirtual 198, 3)) (hM : mm_ (gLa X) y_St_unsynced w_St_unsynced rm (.ref o :: As) M post) (hst : As.reverse ++ .ref o :: rest = st) (hn : As.length = 0) (hrest : (rest.map fun v => v.category).sum ≤ 8) (hR : gF X rm 1 k n) (he : M[o]? = some (.inr (6, fs))) (hlen : ∀ r M', post r M' → M'.length = M.length) (kk : ∀ r M', post r M' → gg X M' (k + rm.cells) (n + rm.slots) (pc + 3) L (r.toList ++ rest)) : gg X M k n pc L st := g_callV ok (C := RSt) (T := TSt) (N := 8) hM i_St_unsynced ml_TS_198 wn_St_unsynced ws_St_unsynced wi_St ⟨rfl, by decide, by decide, by rw [hn]; decide +kernel⟩ rfl hd hst hrest hR he hlen kk
theorem ml_TS_201 : Cond.methodLink "TripleStore" 201 y_St_changes ∈ gT := gT_at 964 (by decide +kernel) (by decide +kernel)
theorem wn_St_changes : Cond.instanceMethod y_St_changes ∈ gT := gT_at 965 (by decide +kernel) (by decide +kernel)
theorem ws_St_changes : Cond.selects "TripleStore$Store" y_St_changes y_St_changes ∈ gT := gT_at 966 (by decide +kernel) (by decide +kernel)
theorem gc_TS_201 {X : gC} {cc : ByteArray} {M : List mC} {k n pc : Nat} {L : List (Nat × Value)} {st rest : List Value} {y0 : MethodName} {b0 : ByteArray} {nl0 : Nat} {ret0 : Option FieldType} {rm : Room} {As : List Value} {post : Option Value → List mC → Prop} {o : Nat} {fs : List Value} (ok : gO X cc "TripleStore" (wsM y0 b0 nl0 ret0)) (hd : decode cc pc = .ok (.invokevirtual 201, 3)) (hM : mm_ (gLa X) y_St_changes w_St_changes rm (.ref o :: As) M post) (hst : As.reverse ++ .ref o :: rest = st) (hn : As.length = 0) (hrest : (rest.map fun v => v.category).sum ≤ 8) (hR : gF X rm 1 k n) (he : M[o]? = some (.inr (6, fs))) (hlen : ∀ r M', post r M' → M'.length = M.length) (kk : ∀ r M', post r M' → gg X M' (k + rm.cells) (n + rm.slots) (pc + 3) L (r.toList ++ rest)) : gg X M k n pc L st := g_callV ok (C := RSt) (T := TSt) (N := 8) hM i_St_changes ml_TS_201 wn_St_changes ws_St_changes wi_St ⟨rfl, by decide, by decide, by rw [hn]; decide +kernel⟩ rfl hd hst hrest hR he hlen kk
theorem ml_La_55 : Cond.methodLink "TripleStoreLaw" 55 y_Mo_init ∈ gT := gT_at 971 (by decide +kernel) (by decide +kernel)
theorem wi_Mo : Cond.initialized "TripleStoreModel" ∈ gT := gT_at 11 (by decide +kernel) (by decide +kernel)
theorem wn_Mo_init : Cond.instanceMethod y_Mo_init ∈ gT := gT_at 972 (by decide +kernel) (by decide +kernel)
theorem gc_La_55 {X : gC} {cc : ByteArray} {M : List mC} {k n pc : Nat} {L : List (Nat × Value)} {st rest : List Value} {y0 : MethodName} {b0 : ByteArray} {nl0 : Nat} {ret0 : Option FieldType} {rm : Room} {As : List Value} {post : Option Value → List mC → Prop} {o : Nat} (ok : gO X cc "TripleStoreLaw" (wsM y0 b0 nl0 ret0)) (hd : decode cc pc = .ok (.invokespecial 55, 3)) (hM : mm_ (gLa X) y_Mo_init w_Mo_init rm (.ref o :: As) M post) (hst : As.reverse ++ .ref o :: rest = st) (hn : As.length = 0) (hrest : (rest.map fun v => v.category).sum ≤ 8) (hR : gF X rm 1 k n) (hL : ∀ q ∈ L, mk_v M.length q.2) (hrs : ∀ v ∈ rest, mk_v M.length v) (kk : ∀ r M', post r M' → gg X M' (k + rm.cells) (n + rm.slots) (pc + 3) L (r.toList ++ rest)) : gg X M k n pc L st := g_callI ok hM i_Mo_init ml_La_55 wn_Mo_init wi_Mo rfl ⟨by decide, by decide, by rw [hn]; decide +kernel⟩ hd hst hrest hR hL hrs kk
theorem ml_La_64 : Cond.methodLink "TripleStoreLaw" 64 y_Mo_thrown ∈ gT := gT_at 1153 (by decide +kernel) (by decide +kernel)
theorem wn_Mo_thrown : Cond.instanceMethod y_Mo_thrown ∈ gT := gT_at 1154 (by decide +kernel) (by decide +kernel)
theorem ws_Mo_thrown : Cond.selects "TripleStoreModel" y_Mo_thrown y_Mo_thrown ∈ gT := gT_at 1155 (by decide +kernel) (by decide +kernel)
theorem gc_La_64 {X : gC} {cc : ByteArray} {M : List mC} {k n pc : Nat} {L : List (Nat × Value)} {st rest : List Value} {y0 : MethodName} {b0 : ByteArray} {nl0 : Nat} {ret0 : Option FieldType} {rm : Room} {As : List Value} {post : Option Value → List mC → Prop} {o : Nat} {fs : List Value} (ok : gO X cc "TripleStoreLaw" (wsM y0 b0 nl0 ret0)) (hd : decode cc pc = .ok (.invokevirtual 64, 3)) (hM : mm_ (gLa X) y_Mo_thrown w_Mo_thrown rm (.ref o :: As) M post) (hst : As.reverse ++ .ref o :: rest = st) (hn : As.length = 0) (hrest : (rest.map fun v => v.category).sum ≤ 8) (hR : gF X rm 1 k n) (he : M[o]? = some (.inr (10, fs))) (hlen : ∀ r M', post r M' → M'.length = M.length) (kk : ∀ r M', post r M' → gg X M' (k + rm.cells) (n + rm.slots) (pc + 3) L (r.toList ++ rest)) : gg X M k n pc L st := g_callV ok (C := RMo) (T := TMo) (N := 59) hM i_Mo_thrown ml_La_64 wn_Mo_thrown ws_Mo_thrown wi_Mo ⟨rfl, by decide, by decide, by rw [hn]; decide +kernel⟩ rfl hd hst hrest hR he hlen kk
theorem ml_La_63 : Cond.methodLink "TripleStoreLaw" 63 y_Mo_add ∈ gT := gT_at 1157 (by decide +kernel) (by decide +kernel)
theorem wn_Mo_add : Cond.instanceMethod y_Mo_add ∈ gT := gT_at 1158 (by decide +kernel) (by decide +kernel)
theorem ws_Mo_add : Cond.selects "TripleStoreModel" y_Mo_add y_Mo_add ∈ gT := gT_at 1159 (by decide +kernel) (by decide +kernel)
theorem gc_La_63 {X : gC} {cc : ByteArray} {M : List mC} {k n pc : Nat} {L : List (Nat × Value)} {st rest : List Value} {y0 : MethodName} {b0 : ByteArray} {nl0 : Nat} {ret0 : Option FieldType} {rm : Room} {As : List Value} {post : Option Value → List mC → Prop} {o : Nat} {fs : List Value} (ok : gO X cc "TripleStoreLaw" (wsM y0 b0 nl0 ret0)) (hd : decode cc pc = .ok (.invokevirtual 63, 3)) (hM : mm_ (gLa X) y_Mo_add w_Mo_add rm (.ref o :: As) M post) (hst : As.reverse ++ .ref o :: rest = st) (hn : As.length = 3) (hrest : (rest.map fun v => v.category).sum ≤ 8) (hR : gF X rm 7 k n) (he : M[o]? = some (.inr (10, fs))) (hlen : ∀ r M', post r M' → M'.length = M.length) (kk : ∀ r M', post r M' → gg X M' (k + rm.cells) (n + rm.slots) (pc + 3) L (r.toList ++ rest)) : gg X M k n pc L st := g_callV ok (C := RMo) (T := TMo) (N := 59) hM i_Mo_add ml_La_63 wn_Mo_add ws_Mo_add wi_Mo ⟨rfl, by decide, by decide, by rw [hn]; decide +kernel⟩ rfl hd hst hrest hR he hlen kk
theorem ml_Mo_140 : Cond.methodLink "TripleStoreModel" 140 y_Mo_isTriple ∈ gT := gT_at 1161 (by decide +kernel) (by decide +kernel)
theorem wn_Mo_isTriple : Cond.instanceMethod y_Mo_isTriple ∈ gT := gT_at 1163 (by decide +kernel) (by decide +kernel)
theorem ws_Mo_isTriple : Cond.selects "TripleStoreModel" y_Mo_isTriple y_Mo_isTriple ∈ gT := gT_pr 40 (by decide +kernel) (by decide +kernel)
theorem gc_Mo_140 {X : gC} {cc : ByteArray} {M : List mC} {k n pc : Nat} {L : List (Nat × Value)} {st rest : List Value} {y0 : MethodName} {b0 : ByteArray} {nl0 : Nat} {ret0 : Option FieldType} {rm : Room} {As : List Value} {post : Option Value → List mC → Prop} {o : Nat} {fs : List Value} (ok : gO X cc "TripleStoreModel" (wsM y0 b0 nl0 ret0)) (hd : decode cc pc = .ok (.invokevirtual 140, 3)) (hM : mm_ (gLa X) y_Mo_isTriple w_Mo_isTriple rm (.ref o :: As) M post) (hst : As.reverse ++ .ref o :: rest = st) (hn : As.length = 3) (hrest : (rest.map fun v => v.category).sum ≤ 8) (hR : gF X rm 7 k n) (he : M[o]? = some (.inr (10, fs))) (hlen : ∀ r M', post r M' → M'.length = M.length) (kk : ∀ r M', post r M' → gg X M' (k + rm.cells) (n + rm.slots) (pc + 3) L (r.toList ++ rest)) : gg X M k n pc L st := g_callV ok (C := RMo) (T := TMo) (N := 59) hM i_Mo_isTriple ml_Mo_140 wn_Mo_isTriple ws_Mo_isTriple wi_Mo ⟨rfl, by decide, by decide, by rw [hn]; decide +kernel⟩ rfl hd hst hrest hR he hlen kk
theorem ml_Mo_133 : Cond.methodLink "TripleStoreModel" 133 y_Mo_isWord ∈ gT := gT_at 1165 (by decide +kernel) (by decide +kernel)
theorem wt_Mo_isWord : Cond.static y_Mo_isWord ∈ gT := gT_at 1166 (by decide +kernel) (by decide +kernel)
theorem gc_Mo_133 {X : gC} {cc : ByteArray} {M : List mC} {k n pc : Nat} {L : List (Nat × Value)} {st rest : List Value} {y0 : MethodName} {b0 : ByteArray} {nl0 : Nat} {ret0 : Option FieldType} {rm : Room} {As : List Value} {post : Option Value → List mC → Prop} (ok : gO X cc "TripleStoreModel" (wsM y0 b0 nl0 ret0)) (hd : decode cc pc = .ok (.invokestatic 133, 3)) (hM : mm_ (gLa X) y_Mo_isWord w_Mo_isWord rm As M post) (hst : As.reverse ++ rest = st) (hn : As.length = 1) (hrest : (rest.map fun v => v.category).sum ≤ 8) (hR : gF X rm 5 k n) (hlen : ∀ r M', post r M' → M'.length = M.length) (kk : ∀ r M', post r M' → gg X M' (k + rm.cells) (n + rm.slots) (pc + 3) L (r.toList ++ rest)) : gg X M k n pc L st := g_callS ok hM i_Mo_isWord ml_Mo_133 wt_Mo_isWord wi_Mo ⟨by decide, by decide, by rw [hn]; decide +kernel⟩ hd hst hrest hR hlen kk
theorem ml_Mo_94 : Cond.methodLink "TripleStoreModel" 94 y_Mo_in ∈ gT := gT_at 1168 (by decide +kernel) (by decide +kernel)
theorem wt_Mo_in : Cond.static y_Mo_in ∈ gT := gT_at 1169 (by decide +kernel) (by decide +kernel)
theorem gc_Mo_94 {X : gC} {cc : ByteArray} {M : List mC} {k n pc : Nat} {L : List (Nat × Value)} {st rest : List Value} {y0 : MethodName} {b0 : ByteArray} {nl0 : Nat} {ret0 : Option FieldType} {rm : Room} {As : List Value} {post : Option Value → List mC → Prop} (ok : gO X cc "TripleStoreModel" (wsM y0 b0 nl0 ret0)) (hd : decode cc pc = .ok (.invokestatic 94, 3)) (hM : mm_ (gLa X) y_Mo_in w_Mo_in rm As M post) (hst : As.reverse ++ rest = st) (hn : As.length = 3) (hrest : (rest.map fun v => v.category).sum ≤ 8) (hR : gF X rm 3 k n) (hlen : ∀ r M', post r M' → M'.length = M.length) (kk : ∀ r M', post r M' → gg X M' (k + rm.cells) (n + rm.slots) (pc + 3) L (r.toList ++ rest)) : gg X M k n pc L st := g_callS ok hM i_Mo_in ml_Mo_94 wt_Mo_in wi_Mo ⟨by decide, by decide, by rw [hn]; decide +kernel⟩ hd hst hrest hR hlen kk
theorem ml_Mo_137 : Cond.methodLink "TripleStoreModel" 137 y_Mo_isNumber ∈ gT := gT_at 1171 (by decide +kernel) (by decide +kernel)
theorem wt_Mo_isNumber : Cond.static y_Mo_isNumber ∈ gT := gT_at 1172 (by decide +kernel) (by decide +kernel)
theorem gc_Mo_137 {X : gC} {cc : ByteArray} {M : List mC} {k n pc : Nat} {L : List (Nat × Value)} {st rest : List Value} {y0 : MethodName} {b0 : ByteArray} {nl0 : Nat} {ret0 : Option FieldType} {rm : Room} {As : List Value} {post : Option Value → List mC → Prop} (ok : gO X cc "TripleStoreModel" (wsM y0 b0 nl0 ret0)) (hd : decode cc pc = .ok (.invokestatic 137, 3)) (hM : mm_ (gLa X) y_Mo_isNumber w_Mo_isNumber rm As M post) (hst : As.reverse ++ rest = st) (hn : As.length = 1) (hrest : (rest.map fun v => v.category).sum ≤ 8) (hR : gF X rm 2 k n) (hlen : ∀ r M', post r M' → M'.length = M.length) (kk : ∀ r M', post r M' → gg X M' (k + rm.cells) (n + rm.slots) (pc + 3) L (r.toList ++ rest)) : gg X M k n pc L st := g_callS ok hM i_Mo_isNumber ml_Mo_137 wt_Mo_isNumber wi_Mo ⟨by decide, by decide, by rw [hn]; decide +kernel⟩ hd hst hrest hR hlen kk
theorem ml_Mo_109 : Cond.methodLink "TripleStoreModel" 109 y_Mo_good ∈ gT := gT_at 1176 (by decide +kernel) (by decide +kernel)
theorem wn_Mo_good : Cond.instanceMethod y_Mo_good ∈ gT := gT_at 1178 (by decide +kernel) (by decide +kernel)
theorem ws_Mo_good : Cond.selects "TripleStoreModel" y_Mo_good y_Mo_good ∈ gT := gT_pr 41 (by decide +kernel) (by decide +kernel)
theorem gc_Mo_109 {X : gC} {cc : ByteArray} {M : List mC} {k n pc : Nat} {L : List (Nat × Value)} {st rest : List Value} {y0 : MethodName} {b0 : ByteArray} {nl0 : Nat} {ret0 : Option FieldType} {rm : Room} {As : List Value} {post : Option Value → List mC → Prop} {o : Nat} {fs : List Value} (ok : gO X cc "TripleStoreModel" (wsM y0 b0 nl0 ret0)) (hd : decode cc pc = .ok (.invokevirtual 109, 3)) (hM : mm_ (gLa X) y_Mo_good w_Mo_good rm (.ref o :: As) M post) (hst : As.reverse ++ .ref o :: rest = st) (hn : As.length = 2) (hrest : (rest.map fun v => v.category).sum ≤ 8) (hR : gF X rm 3 k n) (he : M[o]? = some (.inr (10, fs))) (hlen : ∀ r M', post r M' → M'.length = M.length) (kk : ∀ r M', post r M' → gg X M' (k + rm.cells) (n + rm.slots) (pc + 3) L (r.toList ++ rest)) : gg X M k n pc L st := g_callV ok (C := RMo) (T := TMo) (N := 59) hM i_Mo_good ml_Mo_109 wn_Mo_good ws_Mo_good wi_Mo ⟨rfl, by decide, by decide, by rw [hn]; decide +kernel⟩ rfl hd hst hrest hR he hlen kk
theorem ml_Mo_144 : Cond.methodLink "TripleStoreModel" 144 y_Mo_does ∈ gT := gT_at 1180 (by decide +kernel) (by decide +kernel)
theorem wn_Mo_does : Cond.instanceMethod y_Mo_does ∈ gT := gT_at 1182 (by decide +kernel) (by decide +kernel)
theorem ws_Mo_does : Cond.selects "TripleStoreModel" y_Mo_does y_Mo_does ∈ gT := gT_pr 42 (by decide +kernel) (by decide +kernel)
theorem gc_Mo_144 {X : gC} {cc : ByteArray} {M : List mC} {k n pc : Nat} {L : List (Nat × Value)} {st rest : List Value} {y0 : MethodName} {b0 : ByteArray} {nl0 : Nat} {ret0 : Option FieldType} {rm : Room} {As : List Value} {post : Option Value → List mC → Prop} {o : Nat} {fs : List Value} (ok : gO X cc "TripleStoreModel" (wsM y0 b0 nl0 ret0)) (hd : decode cc pc = .ok (.invokevirtual 144, 3)) (hM : mm_ (gLa X) y_Mo_does w_Mo_does rm (.ref o :: As) M post) (hst : As.reverse ++ .ref o :: rest = st) (hn : As.length = 4) (hrest : (rest.map fun v => v.category).sum ≤ 8) (hR : gF X rm 9 k n) (he : M[o]? = some (.inr (10, fs))) (hlen : ∀ r M', post r M' → M'.length = M.length) (kk : ∀ r M', post r M' → gg X M' (k + rm.cells) (n + rm.slots) (pc + 3) L (r.toList ++ rest)) : gg X M k n pc L st := g_callV ok (C := RMo) (T := TMo) (N := 59) hM i_Mo_does ml_Mo_144 wn_Mo_does ws_Mo_does wi_Mo ⟨rfl, by decide, by decide, by rw [hn]; decide +kernel⟩ rfl hd hst hrest hR he hlen kk
theorem ml_Mo_105 : Cond.methodLink "TripleStoreModel" 105 y_Mo_find ∈ gT := gT_at 1184 (by decide +kernel) (by decide +kernel)
theorem wn_Mo_find : Cond.instanceMethod y_Mo_find ∈ gT := gT_at 1186 (by decide +kernel) (by decide +kernel)
theorem ws_Mo_find : Cond.selects "TripleStoreModel" y_Mo_find y_Mo_find ∈ gT := gT_pr 43 (by decide +kernel) (by decide +kernel)
theorem gc_Mo_105 {X : gC} {cc : ByteArray} {M : List mC} {k n pc : Nat} {L : List (Nat × Value)} {st rest : List Value} {y0 : MethodName} {b0 : ByteArray} {nl0 : Nat} {ret0 : Option FieldType} {rm : Room} {As : List Value} {post : Option Value → List mC → Prop} {o : Nat} {fs : List Value} (ok : gO X cc "TripleStoreModel" (wsM y0 b0 nl0 ret0)) (hd : decode cc pc = .ok (.invokevirtual 105, 3)) (hM : mm_ (gLa X) y_Mo_find w_Mo_find rm (.ref o :: As) M post) (hst : As.reverse ++ .ref o :: rest = st) (hn : As.length = 3) (hrest : (rest.map fun v => v.category).sum ≤ 8) (hR : gF X rm 8 k n) (he : M[o]? = some (.inr (10, fs))) (hlen : ∀ r M', post r M' → M'.length = M.length) (kk : ∀ r M', post r M' → gg X M' (k + rm.cells) (n + rm.slots) (pc + 3) L (r.toList ++ rest)) : gg X M k n pc L st := g_callV ok (C := RMo) (T := TMo) (N := 59) hM i_Mo_find ml_Mo_105 wn_Mo_find ws_Mo_find wi_Mo ⟨rfl, by decide, by decide, by rw [hn]; decide +kernel⟩ rfl hd hst hrest hR he hlen kk
theorem ml_Mo_113 : Cond.methodLink "TripleStoreModel" 113 y_Mo_apply ∈ gT := gT_at 1188 (by decide +kernel) (by decide +kernel)
theorem wn_Mo_apply : Cond.instanceMethod y_Mo_apply ∈ gT := gT_at 1190 (by decide +kernel) (by decide +kernel)
theorem ws_Mo_apply : Cond.selects "TripleStoreModel" y_Mo_apply y_Mo_apply ∈ gT := gT_pr 44 (by decide +kernel) (by decide +kernel)
theorem gc_Mo_113 {X : gC} {cc : ByteArray} {M : List mC} {k n pc : Nat} {L : List (Nat × Value)} {st rest : List Value} {y0 : MethodName} {b0 : ByteArray} {nl0 : Nat} {ret0 : Option FieldType} {rm : Room} {As : List Value} {post : Option Value → List mC → Prop} {o : Nat} {fs : List Value} (ok : gO X cc "TripleStoreModel" (wsM y0 b0 nl0 ret0)) (hd : decode cc pc = .ok (.invokevirtual 113, 3)) (hM : mm_ (gLa X) y_Mo_apply w_Mo_apply rm (.ref o :: As) M post) (hst : As.reverse ++ .ref o :: rest = st) (hn : As.length = 4) (hrest : (rest.map fun v => v.category).sum ≤ 8) (hR : gF X rm 10 k n) (he : M[o]? = some (.inr (10, fs))) (hlen : ∀ r M', post r M' → M'.length = M.length) (kk : ∀ r M', post r M' → gg X M' (k + rm.cells) (n + rm.slots) (pc + 3) L (r.toList ++ rest)) : gg X M k n pc L st := g_callV ok (C := RMo) (T := TMo) (N := 59) hM i_Mo_apply ml_Mo_113 wn_Mo_apply ws_Mo_apply wi_Mo ⟨rfl, by decide, by decide, by rw [hn]; decide +kernel⟩ rfl hd hst hrest hR he hlen kk
theorem ml_Mo_127 : Cond.methodLink "TripleStoreModel" 127 y_Mo_close ∈ gT := gT_at 1192 (by decide +kernel) (by decide +kernel)
theorem wn_Mo_close : Cond.instanceMethod y_Mo_close ∈ gT := gT_at 1194 (by decide +kernel) (by decide +kernel)
theorem ws_Mo_close : Cond.selects "TripleStoreModel" y_Mo_close y_Mo_close ∈ gT := gT_pr 45 (by decide +kernel) (by decide +kernel)
theorem gc_Mo_127 {X : gC} {cc : ByteArray} {M : List mC} {k n pc : Nat} {L : List (Nat × Value)} {st rest : List Value} {y0 : MethodName} {b0 : ByteArray} {nl0 : Nat} {ret0 : Option FieldType} {rm : Room} {As : List Value} {post : Option Value → List mC → Prop} {o : Nat} {fs : List Value} (ok : gO X cc "TripleStoreModel" (wsM y0 b0 nl0 ret0)) (hd : decode cc pc = .ok (.invokevirtual 127, 3)) (hM : mm_ (gLa X) y_Mo_close w_Mo_close rm (.ref o :: As) M post) (hst : As.reverse ++ .ref o :: rest = st) (hn : As.length = 0) (hrest : (rest.map fun v => v.category).sum ≤ 8) (hR : gF X rm 1 k n) (he : M[o]? = some (.inr (10, fs))) (hlen : ∀ r M', post r M' → M'.length = M.length) (kk : ∀ r M', post r M' → gg X M' (k + rm.cells) (n + rm.slots) (pc + 3) L (r.toList ++ rest)) : gg X M k n pc L st := g_callV ok (C := RMo) (T := TMo) (N := 59) hM i_Mo_close ml_Mo_127 wn_Mo_close ws_Mo_close wi_Mo ⟨rfl, by decide, by decide, by rw [hn]; decide +kernel⟩ rfl hd hst hrest hR he hlen kk
theorem ml_La_69 : Cond.methodLink "TripleStoreLaw" 69 y_Mo_remove ∈ gT := gT_at 1196 (by decide +kernel) (by decide +kernel)
theorem wn_Mo_remove : Cond.instanceMethod y_Mo_remove ∈ gT := gT_at 1197 (by decide +kernel) (by decide +kernel)
theorem ws_Mo_remove : Cond.selects "TripleStoreModel" y_Mo_remove y_Mo_remove ∈ gT := gT_at 1198 (by decide +kernel) (by decide +kernel)
theorem gc_La_69 {X : gC} {cc : ByteArray} {M : List mC} {k n pc : Nat} {L : List (Nat × Value)} {st rest : List Value} {y0 : MethodName} {b0 : ByteArray} {nl0 : Nat} {ret0 : Option FieldType} {rm : Room} {As : List Value} {post : Option Value → List mC → Prop} {o : Nat} {fs : List Value} (ok : gO X cc "TripleStoreLaw" (wsM y0 b0 nl0 ret0)) (hd : decode cc pc = .ok (.invokevirtual 69, 3)) (hM : mm_ (gLa X) y_Mo_remove w_Mo_remove rm (.ref o :: As) M post) (hst : As.reverse ++ .ref o :: rest = st) (hn : As.length = 3) (hrest : (rest.map fun v => v.category).sum ≤ 8) (hR : gF X rm 7 k n) (he : M[o]? = some (.inr (10, fs))) (hlen : ∀ r M', post r M' → M'.length = M.length) (kk : ∀ r M', post r M' → gg X M' (k + rm.cells) (n + rm.slots) (pc + 3) L (r.toList ++ rest)) : gg X M k n pc L st := g_callV ok (C := RMo) (T := TMo) (N := 59) hM i_Mo_remove ml_La_69 wn_Mo_remove ws_Mo_remove wi_Mo ⟨rfl, by decide, by decide, by rw [hn]; decide +kernel⟩ rfl hd hst hrest hR he hlen kk
theorem ml_La_73 : Cond.methodLink "TripleStoreLaw" 73 y_Mo_begin ∈ gT := gT_at 1200 (by decide +kernel) (by decide +kernel)
theorem wn_Mo_begin : Cond.instanceMethod y_Mo_begin ∈ gT := gT_at 1201 (by decide +kernel) (by decide +kernel)
theorem ws_Mo_begin : Cond.selects "TripleStoreModel" y_Mo_begin y_Mo_begin ∈ gT := gT_at 1202 (by decide +kernel) (by decide +kernel)
theorem gc_La_73 {X : gC} {cc : ByteArray} {M : List mC} {k n pc : Nat} {L : List (Nat × Value)} {st rest : List Value} {y0 : MethodName} {b0 : ByteArray} {nl0 : Nat} {ret0 : Option FieldType} {rm : Room} {As : List Value} {post : Option Value → List mC → Prop} {o : Nat} {fs : List Value} (ok : gO X cc "TripleStoreLaw" (wsM y0 b0 nl0 ret0)) (hd : decode cc pc = .ok (.invokevirtual 73, 3)) (hM : mm_ (gLa X) y_Mo_begin w_Mo_begin rm (.ref o :: As) M post) (hst : As.reverse ++ .ref o :: rest = st) (hn : As.length = 0) (hrest : (rest.map fun v => v.category).sum ≤ 8) (hR : gF X rm 1 k n) (he : M[o]? = some (.inr (10, fs))) (hlen : ∀ r M', post r M' → M'.length = M.length) (kk : ∀ r M', post r M' → gg X M' (k + rm.cells) (n + rm.slots) (pc + 3) L (r.toList ++ rest)) : gg X M k n pc L st := g_callV ok (C := RMo) (T := TMo) (N := 59) hM i_Mo_begin ml_La_73 wn_Mo_begin ws_Mo_begin wi_Mo ⟨rfl, by decide, by decide, by rw [hn]; decide +kernel⟩ rfl hd hst hrest hR he hlen kk
theorem ml_La_76 : Cond.methodLink "TripleStoreLaw" 76 y_Mo_commit ∈ gT := gT_at 1204 (by decide +kernel) (by decide +kernel)
theorem wn_Mo_commit : Cond.instanceMethod y_Mo_commit ∈ gT := gT_at 1205 (by decide +kernel) (by decide +kernel)
theorem ws_Mo_commit : Cond.selects "TripleStoreModel" y_Mo_commit y_Mo_commit ∈ gT := gT_at 1206 (by decide +kernel) (by decide +kernel)
theorem gc_La_76 {X : gC} {cc : ByteArray} {M : List mC} {k n pc : Nat} {L : List (Nat × Value)} {st rest : List Value} {y0 : MethodName} {b0 : ByteArray} {nl0 : Nat} {ret0 : Option FieldType} {rm : Room} {As : List Value} {post : Option Value → List mC → Prop} {o : Nat} {fs : List Value} (ok : gO X cc "TripleStoreLaw" (wsM y0 b0 nl0 ret0)) (hd : decode cc pc = .ok (.invokevirtual 76, 3)) (hM : mm_ (gLa X) y_Mo_commit w_Mo_commit rm (.ref o :: As) M post) (hst : As.reverse ++ .ref o :: rest = st) (hn : As.length = 0) (hrest : (rest.map fun v => v.category).sum ≤ 8) (hR : gF X rm 1 k n) (he : M[o]? = some (.inr (10, fs))) (hlen : ∀ r M', post r M' → M'.length = M.length) (kk : ∀ r M', post r M' → gg X M' (k + rm.cells) (n + rm.slots) (pc + 3) L (r.toList ++ rest)) : gg X M k n pc L st := g_callV ok (C := RMo) (T := TMo) (N := 59) hM i_Mo_commit ml_La_76 wn_Mo_commit ws_Mo_commit wi_Mo ⟨rfl, by decide, by decide, by rw [hn]; decide +kernel⟩ rfl hd hst hrest hR he hlen kk
theorem ml_La_79 : Cond.methodLink "TripleStoreLaw" 79 y_Mo_rollback ∈ gT := gT_at 1208 (by decide +kernel) (by decide +kernel)
theorem wn_Mo_rollback : Cond.instanceMethod y_Mo_rollback ∈ gT := gT_at 1209 (by decide +kernel) (by decide +kernel)
theorem ws_Mo_rollback : Cond.selects "TripleStoreModel" y_Mo_rollback y_Mo_rollback ∈ gT := gT_at 1210 (by decide +kernel) (by decide +kernel)
theorem gc_La_79 {X : gC} {cc : ByteArray} {M : List mC} {k n pc : Nat} {L : List (Nat × Value)} {st rest : List Value} {y0 : MethodName} {b0 : ByteArray} {nl0 : Nat} {ret0 : Option FieldType} {rm : Room} {As : List Value} {post : Option Value → List mC → Prop} {o : Nat} {fs : List Value} (ok : gO X cc "TripleStoreLaw" (wsM y0 b0 nl0 ret0)) (hd : decode cc pc = .ok (.invokevirtual 79, 3)) (hM : mm_ (gLa X) y_Mo_rollback w_Mo_rollback rm (.ref o :: As) M post) (hst : As.reverse ++ .ref o :: rest = st) (hn : As.length = 0) (hrest : (rest.map fun v => v.category).sum ≤ 8) (hR : gF X rm 2 k n) (he : M[o]? = some (.inr (10, fs))) (hlen : ∀ r M', post r M' → M'.length = M.length) (kk : ∀ r M', post r M' → gg X M' (k + rm.cells) (n + rm.slots) (pc + 3) L (r.toList ++ rest)) : gg X M k n pc L st := g_callV ok (C := RMo) (T := TMo) (N := 59) hM i_Mo_rollback ml_La_79 wn_Mo_rollback ws_Mo_rollback wi_Mo ⟨rfl, by decide, by decide, by rw [hn]; decide +kernel⟩ rfl hd hst hrest hR he hlen kk
theorem ml_Mo_151 : Cond.methodLink "TripleStoreModel" 151 y_Mo_undo ∈ gT := gT_at 1212 (by decide +kernel) (by decide +kernel)
theorem wn_Mo_undo : Cond.instanceMethod y_Mo_undo ∈ gT := gT_at 1214 (by decide +kernel) (by decide +kernel)
theorem ws_Mo_undo : Cond.selects "TripleStoreModel" y_Mo_undo y_Mo_undo ∈ gT := gT_pr 46 (by decide +kernel) (by decide +kernel)
theorem gc_Mo_151 {X : gC} {cc : ByteArray} {M : List mC} {k n pc : Nat} {L : List (Nat × Value)} {st rest : List Value} {y0 : MethodName} {b0 : ByteArray} {nl0 : Nat} {ret0 : Option FieldType} {rm : Room} {As : List Value} {post : Option Value → List mC → Prop} {o : Nat} {fs : List Value} (ok : gO X cc "TripleStoreModel" (wsM y0 b0 nl0 ret0)) (hd : decode cc pc = .ok (.invokevirtual 151, 3)) (hM : mm_ (gLa X) y_Mo_undo w_Mo_undo rm (.ref o :: As) M post) (hst : As.reverse ++ .ref o :: rest = st) (hn : As.length = 1) (hrest : (rest.map fun v => v.category).sum ≤ 8) (hR : gF X rm 2 k n) (he : M[o]? = some (.inr (10, fs))) (hlen : ∀ r M', post r M' → M'.length = M.length) (kk : ∀ r M', post r M' → gg X M' (k + rm.cells) (n + rm.slots) (pc + 3) L (r.toList ++ rest)) : gg X M k n pc L st := g_callV ok (C := RMo) (T := TMo) (N := 59) hM i_Mo_undo ml_Mo_151 wn_Mo_undo ws_Mo_undo wi_Mo ⟨rfl, by decide, by decide, by rw [hn]; decide +kernel⟩ rfl hd hst hrest hR he hlen kk
theorem ml_La_83 : Cond.methodLink "TripleStoreLaw" 83 y_Mo_sync ∈ gT := gT_at 1216 (by decide +kernel) (by decide +kernel)
theorem wn_Mo_sync : Cond.instanceMethod y_Mo_sync ∈ gT := gT_at 1217 (by decide +kernel) (by decide +kernel)
theorem ws_Mo_sync : Cond.selects "TripleStoreModel" y_Mo_sync y_Mo_sync ∈ gT := gT_at 1218 (by decide +kernel) (by decide +kernel)
theorem gc_La_83 {X : gC} {cc : ByteArray} {M : List mC} {k n pc : Nat} {L : List (Nat × Value)} {st rest : List Value} {y0 : MethodName} {b0 : ByteArray} {nl0 : Nat} {ret0 : Option FieldType} {rm : Room} {As : List Value} {post : Option Value → List mC → Prop} {o : Nat} {fs : List Value} (ok : gO X cc "TripleStoreLaw" (wsM y0 b0 nl0 ret0)) (hd : decode cc pc = .ok (.invokevirtual 83, 3)) (hM : mm_ (gLa X) y_Mo_sync w_Mo_sync rm (.ref o :: As) M post) (hst : As.reverse ++ .ref o :: rest = st) (hn : As.length = 0) (hrest : (rest.map fun v => v.category).sum ≤ 8) (hR : gF X rm 2 k n) (he : M[o]? = some (.inr (10, fs))) (hlen : ∀ r M', post r M' → M'.length = M.length) (kk : ∀ r M', post r M' → gg X M' (k + rm.cells) (n + rm.slots) (pc + 3) L (r.toList ++ rest)) : gg X M k n pc L st := g_callV ok (C := RMo) (T := TMo) (N := 59) hM i_Mo_sync ml_La_83 wn_Mo_sync ws_Mo_sync wi_Mo ⟨rfl, by decide, by decide, by rw [hn]; decide +kernel⟩ rfl hd hst hrest hR he hlen kk
theorem ml_Mo_158 : Cond.methodLink "TripleStoreModel" 158 y_Mo_settle ∈ gT := gT_at 1220 (by decide +kernel) (by decide +kernel)
theorem wn_Mo_settle : Cond.instanceMethod y_Mo_settle ∈ gT := gT_at 1222 (by decide +kernel) (by decide +kernel)
theorem ws_Mo_settle : Cond.selects "TripleStoreModel" y_Mo_settle y_Mo_settle ∈ gT := gT_pr 47 (by decide +kernel) (by decide +kernel)
theorem gc_Mo_158 {X : gC} {cc : ByteArray} {M : List mC} {k n pc : Nat} {L : List (Nat × Value)} {st rest : List Value} {y0 : MethodName} {b0 : ByteArray} {nl0 : Nat} {ret0 : Option FieldType} {rm : Room} {As : List Value} {post : Option Value → List mC → Prop} {o : Nat} {fs : List Value} (ok : gO X cc "TripleStoreModel" (wsM y0 b0 nl0 ret0)) (hd : decode cc pc = .ok (.invokevirtual 158, 3)) (hM : mm_ (gLa X) y_Mo_settle w_Mo_settle rm (.ref o :: As) M post) (hst : As.reverse ++ .ref o :: rest = st) (hn : As.length = 0) (hrest : (rest.map fun v => v.category).sum ≤ 8) (hR : gF X rm 5 k n) (he : M[o]? = some (.inr (10, fs))) (hlen : ∀ r M', post r M' → M'.length = M.length) (kk : ∀ r M', post r M' → gg X M' (k + rm.cells) (n + rm.slots) (pc + 3) L (r.toList ++ rest)) : gg X M k n pc L st := g_callV ok (C := RMo) (T := TMo) (N := 59) hM i_Mo_settle ml_Mo_158 wn_Mo_settle ws_Mo_settle wi_Mo ⟨rfl, by decide, by decide, by rw [hn]; decide +kernel⟩ rfl hd hst hrest hR he hlen kk
theorem ml_La_87 : Cond.methodLink "TripleStoreLaw" 87 y_Mo_crash ∈ gT := gT_at 1224 (by decide +kernel) (by decide +kernel)
theorem wn_Mo_crash : Cond.instanceMethod y_Mo_crash ∈ gT := gT_at 1225 (by decide +kernel) (by decide +kernel)
theorem ws_Mo_crash : Cond.selects "TripleStoreModel" y_Mo_crash y_Mo_crash ∈ gT := gT_at 1226 (by decide +kernel) (by decide +kernel)
theorem gc_La_87 {X : gC} {cc : ByteArray} {M : List mC} {k n pc : Nat} {L : List (Nat × Value)} {st rest : List Value} {y0 : MethodName} {b0 : ByteArray} {nl0 : Nat} {ret0 : Option FieldType} {rm : Room} {As : List Value} {post : Option Value → List mC → Prop} {o : Nat} {fs : List Value} (ok : gO X cc "TripleStoreLaw" (wsM y0 b0 nl0 ret0)) (hd : decode cc pc = .ok (.invokevirtual 87, 3)) (hM : mm_ (gLa X) y_Mo_crash w_Mo_crash rm (.ref o :: As) M post) (hst : As.reverse ++ .ref o :: rest = st) (hn : As.length = 1) (hrest : (rest.map fun v => v.category).sum ≤ 8) (hR : gF X rm 4 k n) (he : M[o]? = some (.inr (10, fs))) (hlen : ∀ r M', post r M' → M'.length = M.length) (kk : ∀ r M', post r M' → gg X M' (k + rm.cells) (n + rm.slots) (pc + 3) L (r.toList ++ rest)) : gg X M k n pc L st := g_callV ok (C := RMo) (T := TMo) (N := 59) hM i_Mo_crash ml_La_87 wn_Mo_crash ws_Mo_crash wi_Mo ⟨rfl, by decide, by decide, by rw [hn]; decide +kernel⟩ rfl hd hst hrest hR he hlen kk
theorem ml_La_91 : Cond.methodLink "TripleStoreLaw" 91 y_Mo_append ∈ gT := gT_at 1228 (by decide +kernel) (by decide +kernel)
theorem wn_Mo_append : Cond.instanceMethod y_Mo_append ∈ gT := gT_at 1229 (by decide +kernel) (by decide +kernel)
theorem ws_Mo_append : Cond.selects "TripleStoreModel" y_Mo_append y_Mo_append ∈ gT := gT_at 1230 (by decide +kernel) (by decide +kernel)
theorem gc_La_91 {X : gC} {cc : ByteArray} {M : List mC} {k n pc : Nat} {L : List (Nat × Value)} {st rest : List Value} {y0 : MethodName} {b0 : ByteArray} {nl0 : Nat} {ret0 : Option FieldType} {rm : Room} {As : List Value} {post : Option Value → List mC → Prop} {o : Nat} {fs : List Value} (ok : gO X cc "TripleStoreLaw" (wsM y0 b0 nl0 ret0)) (hd : decode cc pc = .ok (.invokevirtual 91, 3)) (hM : mm_ (gLa X) y_Mo_append w_Mo_append rm (.ref o :: As) M post) (hst : As.reverse ++ .ref o :: rest = st) (hn : As.length = 2) (hrest : (rest.map fun v => v.category).sum ≤ 8) (hR : gF X rm 5 k n) (he : M[o]? = some (.inr (10, fs))) (hlen : ∀ r M', post r M' → M'.length = M.length) (kk : ∀ r M', post r M' → gg X M' (k + rm.cells) (n + rm.slots) (pc + 3) L (r.toList ++ rest)) : gg X M k n pc L st := g_callV ok (C := RMo) (T := TMo) (N := 59) hM i_Mo_append ml_La_91 wn_Mo_append ws_Mo_append wi_Mo ⟨rfl, by decide, by decide, by rw [hn]; decide +kernel⟩ rfl hd hst hrest hR he hlen kk
theorem ml_La_94 : Cond.methodLink "TripleStoreLaw" 94 y_Mo_ask ∈ gT := gT_at 1232 (by decide +kernel) (by decide +kernel)
theorem wn_Mo_ask : Cond.instanceMethod y_Mo_ask ∈ gT := gT_at 1233 (by decide +kernel) (by decide +kernel)
theorem ws_Mo_ask : Cond.selects "TripleStoreModel" y_Mo_ask y_Mo_ask ∈ gT := gT_at 1234 (by decide +kernel) (by decide +kernel)
theorem gc_La_94 {X : gC} {cc : ByteArray} {M : List mC} {k n pc : Nat} {L : List (Nat × Value)} {st rest : List Value} {y0 : MethodName} {b0 : ByteArray} {nl0 : Nat} {ret0 : Option FieldType} {rm : Room} {As : List Value} {post : Option Value → List mC → Prop} {o : Nat} {fs : List Value} (ok : gO X cc "TripleStoreLaw" (wsM y0 b0 nl0 ret0)) (hd : decode cc pc = .ok (.invokevirtual 94, 3)) (hM : mm_ (gLa X) y_Mo_ask w_Mo_ask rm (.ref o :: As) M post) (hst : As.reverse ++ .ref o :: rest = st) (hn : As.length = 0) (hrest : (rest.map fun v => v.category).sum ≤ 8) (hR : gF X rm 2 k n) (he : M[o]? = some (.inr (10, fs))) (hlen : ∀ r M', post r M' → M'.length = M.length) (kk : ∀ r M', post r M' → gg X M' (k + rm.cells) (n + rm.slots) (pc + 3) L (r.toList ++ rest)) : gg X M k n pc L st := g_callV ok (C := RMo) (T := TMo) (N := 59) hM i_Mo_ask ml_La_94 wn_Mo_ask ws_Mo_ask wi_Mo ⟨rfl, by decide, by decide, by rw [hn]; decide +kernel⟩ rfl hd hst hrest hR he hlen kk
theorem ml_Mo_226 : Cond.methodLink "TripleStoreModel" 226 y_Mo_next ∈ gT := gT_at 1236 (by decide +kernel) (by decide +kernel)
theorem wn_Mo_next : Cond.instanceMethod y_Mo_next ∈ gT := gT_at 1238 (by decide +kernel) (by decide +kernel)
theorem ws_Mo_next : Cond.selects "TripleStoreModel" y_Mo_next y_Mo_next ∈ gT := gT_pr 48 (by decide +kernel) (by decide +kernel)
theorem gc_Mo_226 {X : gC} {cc : ByteArray} {M : List mC} {k n pc : Nat} {L : List (Nat × Value)} {st rest : List Value} {y0 : MethodName} {b0 : ByteArray} {nl0 : Nat} {ret0 : Option FieldType} {rm : Room} {As : List Value} {post : Option Value → List mC → Prop} {o : Nat} {fs : List Value} (ok : gO X cc "TripleStoreModel" (wsM y0 b0 nl0 ret0)) (hd : decode cc pc = .ok (.invokevirtual 226, 3)) (hM : mm_ (gLa X) y_Mo_next w_Mo_next rm (.ref o :: As) M post) (hst : As.reverse ++ .ref o :: rest = st) (hn : As.length = 0) (hrest : (rest.map fun v => v.category).sum ≤ 8) (hR : gF X rm 3 k n) (he : M[o]? = some (.inr (10, fs))) (hlen : ∀ r M', post r M' → M'.length = M.length) (kk : ∀ r M', post r M' → gg X M' (k + rm.cells) (n + rm.slots) (pc + 3) L (r.toList ++ rest)) : gg X M k n pc L st := g_callV ok (C := RMo) (T := TMo) (N := 59) hM i_Mo_next ml_Mo_226 wn_Mo_next ws_Mo_next wi_Mo ⟨rfl, by decide, by decide, by rw [hn]; decide +kernel⟩ rfl hd hst hrest hR he hlen kk
theorem ml_Mo_168 : Cond.methodLink "TripleStoreModel" 168 y_Mo_isLetter ∈ gT := gT_at 1240 (by decide +kernel) (by decide +kernel)
theorem wt_Mo_isLetter : Cond.static y_Mo_isLetter ∈ gT := gT_at 1241 (by decide +kernel) (by decide +kernel)
theorem gc_Mo_168 {X : gC} {cc : ByteArray} {M : List mC} {k n pc : Nat} {L : List (Nat × Value)} {st rest : List Value} {y0 : MethodName} {b0 : ByteArray} {nl0 : Nat} {ret0 : Option FieldType} {rm : Room} {As : List Value} {post : Option Value → List mC → Prop} (ok : gO X cc "TripleStoreModel" (wsM y0 b0 nl0 ret0)) (hd : decode cc pc = .ok (.invokestatic 168, 3)) (hM : mm_ (gLa X) y_Mo_isLetter w_Mo_isLetter rm As M post) (hst : As.reverse ++ rest = st) (hn : As.length = 1) (hrest : (rest.map fun v => v.category).sum ≤ 8) (hR : gF X rm 1 k n) (hlen : ∀ r M', post r M' → M'.length = M.length) (kk : ∀ r M', post r M' → gg X M' (k + rm.cells) (n + rm.slots) (pc + 3) L (r.toList ++ rest)) : gg X M k n pc L st := g_callS ok hM i_Mo_isLetter ml_Mo_168 wt_Mo_isLetter wi_Mo ⟨by decide, by decide, by rw [hn]; decide +kernel⟩ hd hst hrest hR hlen kk
theorem ml_Mo_184 : Cond.methodLink "TripleStoreModel" 184 y_Mo_letters ∈ gT := gT_at 1243 (by decide +kernel) (by decide +kernel)
theorem wn_Mo_letters : Cond.instanceMethod y_Mo_letters ∈ gT := gT_at 1245 (by decide +kernel) (by decide +kernel)
theorem ws_Mo_letters : Cond.selects "TripleStoreModel" y_Mo_letters y_Mo_letters ∈ gT := gT_pr 49 (by decide +kernel) (by decide +kernel)
theorem gc_Mo_184 {X : gC} {cc : ByteArray} {M : List mC} {k n pc : Nat} {L : List (Nat × Value)} {st rest : List Value} {y0 : MethodName} {b0 : ByteArray} {nl0 : Nat} {ret0 : Option FieldType} {rm : Room} {As : List Value} {post : Option Value → List mC → Prop} {o : Nat} {fs : List Value} (ok : gO X cc "TripleStoreModel" (wsM y0 b0 nl0 ret0)) (hd : decode cc pc = .ok (.invokevirtual 184, 3)) (hM : mm_ (gLa X) y_Mo_letters w_Mo_letters rm (.ref o :: As) M post) (hst : As.reverse ++ .ref o :: rest = st) (hn : As.length = 1) (hrest : (rest.map fun v => v.category).sum ≤ 8) (hR : gF X rm 3 k n) (he : M[o]? = some (.inr (10, fs))) (hlen : ∀ r M', post r M' → M'.length = M.length) (kk : ∀ r M', post r M' → gg X M' (k + rm.cells) (n + rm.slots) (pc + 3) L (r.toList ++ rest)) : gg X M k n pc L st := g_callV ok (C := RMo) (T := TMo) (N := 59) hM i_Mo_letters ml_Mo_184 wn_Mo_letters ws_Mo_letters wi_Mo ⟨rfl, by decide, by decide, by rw [hn]; decide +kernel⟩ rfl hd hst hrest hR he hlen kk
theorem ml_Mo_188 : Cond.methodLink "TripleStoreModel" 188 y_Mo_isFigure ∈ gT := gT_at 1247 (by decide +kernel) (by decide +kernel)
theorem wt_Mo_isFigure : Cond.static y_Mo_isFigure ∈ gT := gT_at 1248 (by decide +kernel) (by decide +kernel)
theorem gc_Mo_188 {X : gC} {cc : ByteArray} {M : List mC} {k n pc : Nat} {L : List (Nat × Value)} {st rest : List Value} {y0 : MethodName} {b0 : ByteArray} {nl0 : Nat} {ret0 : Option FieldType} {rm : Room} {As : List Value} {post : Option Value → List mC → Prop} (ok : gO X cc "TripleStoreModel" (wsM y0 b0 nl0 ret0)) (hd : decode cc pc = .ok (.invokestatic 188, 3)) (hM : mm_ (gLa X) y_Mo_isFigure w_Mo_isFigure rm As M post) (hst : As.reverse ++ rest = st) (hn : As.length = 1) (hrest : (rest.map fun v => v.category).sum ≤ 8) (hR : gF X rm 1 k n) (hlen : ∀ r M', post r M' → M'.length = M.length) (kk : ∀ r M', post r M' → gg X M' (k + rm.cells) (n + rm.slots) (pc + 3) L (r.toList ++ rest)) : gg X M k n pc L st := g_callS ok hM i_Mo_isFigure ml_Mo_188 wt_Mo_isFigure wi_Mo ⟨by decide, by decide, by rw [hn]; decide +kernel⟩ hd hst hrest hR hlen kk
theorem ml_Mo_361 : Cond.methodLink "TripleStoreModel" 361 y_Mo_readQuery ∈ gT := gT_at 1252 (by decide +kernel) (by decide +kernel)
theorem wn_Mo_readQuery : Cond.instanceMethod y_Mo_readQuery ∈ gT := gT_at 1254 (by decide +kernel) (by decide +kernel)
theorem ws_Mo_readQuery : Cond.selects "TripleStoreModel" y_Mo_readQuery y_Mo_readQuery ∈ gT := gT_pr 50 (by decide +kernel) (by decide +kernel)
theorem gc_Mo_361 {X : gC} {cc : ByteArray} {M : List mC} {k n pc : Nat} {L : List (Nat × Value)} {st rest : List Value} {y0 : MethodName} {b0 : ByteArray} {nl0 : Nat} {ret0 : Option FieldType} {rm : Room} {As : List Value} {post : Option Value → List mC → Prop} {o : Nat} {fs : List Value} (ok : gO X cc "TripleStoreModel" (wsM y0 b0 nl0 ret0)) (hd : decode cc pc = .ok (.invokevirtual 361, 3)) (hM : mm_ (gLa X) y_Mo_readQuery w_Mo_readQuery rm (.ref o :: As) M post) (hst : As.reverse ++ .ref o :: rest = st) (hn : As.length = 0) (hrest : (rest.map fun v => v.category).sum ≤ 8) (hR : gF X rm 2 k n) (he : M[o]? = some (.inr (10, fs))) (hlen : ∀ r M', post r M' → M'.length = M.length) (kk : ∀ r M', post r M' → gg X M' (k + rm.cells) (n + rm.slots) (pc + 3) L (r.toList ++ rest)) : gg X M k n pc L st := g_callV ok (C := RMo) (T := TMo) (N := 59) hM i_Mo_readQuery ml_Mo_361 wn_Mo_readQuery ws_Mo_readQuery wi_Mo ⟨rfl, by decide, by decide, by rw [hn]; decide +kernel⟩ rfl hd hst hrest hR he hlen kk
theorem ml_Mo_217 : Cond.methodLink "TripleStoreModel" 217 y_Mo_isKey ∈ gT := gT_at 1256 (by decide +kernel) (by decide +kernel)
theorem wn_Mo_isKey : Cond.instanceMethod y_Mo_isKey ∈ gT := gT_at 1258 (by decide +kernel) (by decide +kernel)
theorem ws_Mo_isKey : Cond.selects "TripleStoreModel" y_Mo_isKey y_Mo_isKey ∈ gT := gT_pr 51 (by decide +kernel) (by decide +kernel)
theorem gc_Mo_217 {X : gC} {cc : ByteArray} {M : List mC} {k n pc : Nat} {L : List (Nat × Value)} {st rest : List Value} {y0 : MethodName} {b0 : ByteArray} {nl0 : Nat} {ret0 : Option FieldType} {rm : Room} {As : List Value} {post : Option Value → List mC → Prop} {o : Nat} {fs : List Value} (ok : gO X cc "TripleStoreModel" (wsM y0 b0 nl0 ret0)) (hd : decode cc pc = .ok (.invokevirtual 217, 3)) (hM : mm_ (gLa X) y_Mo_isKey w_Mo_isKey rm (.ref o :: As) M post) (hst : As.reverse ++ .ref o :: rest = st) (hn : As.length = 1) (hrest : (rest.map fun v => v.category).sum ≤ 8) (hR : gF X rm 4 k n) (he : M[o]? = some (.inr (10, fs))) (hlen : ∀ r M', post r M' → M'.length = M.length) (kk : ∀ r M', post r M' → gg X M' (k + rm.cells) (n + rm.slots) (pc + 3) L (r.toList ++ rest)) : gg X M k n pc L st := g_callV ok (C := RMo) (T := TMo) (N := 59) hM i_Mo_isKey ml_Mo_217 wn_Mo_isKey ws_Mo_isKey wi_Mo ⟨rfl, by decide, by decide, by rw [hn]; decide +kernel⟩ rfl hd hst hrest hR he hlen kk
theorem ml_Mo_232 : Cond.methodLink "TripleStoreModel" 232 y_Mo_goOn ∈ gT := gT_at 1271 (by decide +kernel) (by decide +kernel)
theorem wn_Mo_goOn : Cond.instanceMethod y_Mo_goOn ∈ gT := gT_at 1273 (by decide +kernel) (by decide +kernel)
theorem ws_Mo_goOn : Cond.selects "TripleStoreModel" y_Mo_goOn y_Mo_goOn ∈ gT := gT_pr 52 (by decide +kernel) (by decide +kernel)
theorem gc_Mo_232 {X : gC} {cc : ByteArray} {M : List mC} {k n pc : Nat} {L : List (Nat × Value)} {st rest : List Value} {y0 : MethodName} {b0 : ByteArray} {nl0 : Nat} {ret0 : Option FieldType} {rm : Room} {As : List Value} {post : Option Value → List mC → Prop} {o : Nat} {fs : List Value} (ok : gO X cc "TripleStoreModel" (wsM y0 b0 nl0 ret0)) (hd : decode cc pc = .ok (.invokevirtual 232, 3)) (hM : mm_ (gLa X) y_Mo_goOn w_Mo_goOn rm (.ref o :: As) M post) (hst : As.reverse ++ .ref o :: rest = st) (hn : As.length = 1) (hrest : (rest.map fun v => v.category).sum ≤ 8) (hR : gF X rm 2 k n) (he : M[o]? = some (.inr (10, fs))) (hlen : ∀ r M', post r M' → M'.length = M.length) (kk : ∀ r M', post r M' → gg X M' (k + rm.cells) (n + rm.slots) (pc + 3) L (r.toList ++ rest)) : gg X M k n pc L st := g_callV ok (C := RMo) (T := TMo) (N := 59) hM i_Mo_goOn ml_Mo_232 wn_Mo_goOn ws_Mo_goOn wi_Mo ⟨rfl, by decide, by decide, by rw [hn]; decide +kernel⟩ rfl hd hst hrest hR he hlen kk
theorem ml_Mo_223 : Cond.methodLink "TripleStoreModel" 223 y_Mo_stop ∈ gT := gT_at 1275 (by decide +kernel) (by decide +kernel)
theorem wn_Mo_stop : Cond.instanceMethod y_Mo_stop ∈ gT := gT_at 1277 (by decide +kernel) (by decide +kernel)
theorem ws_Mo_stop : Cond.selects "TripleStoreModel" y_Mo_stop y_Mo_stop ∈ gT := gT_pr 53 (by decide +kernel) (by decide +kernel)
theorem gc_Mo_223 {X : gC} {cc : ByteArray} {M : List mC} {k n pc : Nat} {L : List (Nat × Value)} {st rest : List Value} {y0 : MethodName} {b0 : ByteArray} {nl0 : Nat} {ret0 : Option FieldType} {rm : Room} {As : List Value} {post : Option Value → List mC → Prop} {o : Nat} {fs : List Value} (ok : gO X cc "TripleStoreModel" (wsM y0 b0 nl0 ret0)) (hd : decode cc pc = .ok (.invokevirtual 223, 3)) (hM : mm_ (gLa X) y_Mo_stop w_Mo_stop rm (.ref o :: As) M post) (hst : As.reverse ++ .ref o :: rest = st) (hn : As.length = 0) (hrest : (rest.map fun v => v.category).sum ≤ 8) (hR : gF X rm 1 k n) (he : M[o]? = some (.inr (10, fs))) (hlen : ∀ r M', post r M' → M'.length = M.length) (kk : ∀ r M', post r M' → gg X M' (k + rm.cells) (n + rm.slots) (pc + 3) L (r.toList ++ rest)) : gg X M k n pc L st := g_callV ok (C := RMo) (T := TMo) (N := 59) hM i_Mo_stop ml_Mo_223 wn_Mo_stop ws_Mo_stop wi_Mo ⟨rfl, by decide, by decide, by rw [hn]; decide +kernel⟩ rfl hd hst hrest hR he hlen kk
theorem ml_Mo_236 : Cond.methodLink "TripleStoreModel" 236 y_Mo_readVariable ∈ gT := gT_at 1279 (by decide +kernel) (by decide +kernel)
theorem wn_Mo_readVariable : Cond.instanceMethod y_Mo_readVariable ∈ gT := gT_at 1281 (by decide +kernel) (by decide +kernel)
theorem ws_Mo_readVariable : Cond.selects "TripleStoreModel" y_Mo_readVariable y_Mo_readVariable ∈ gT := gT_pr 54 (by decide +kernel) (by decide +kernel)
theorem gc_Mo_236 {X : gC} {cc : ByteArray} {M : List mC} {k n pc : Nat} {L : List (Nat × Value)} {st rest : List Value} {y0 : MethodName} {b0 : ByteArray} {nl0 : Nat} {ret0 : Option FieldType} {rm : Room} {As : List Value} {post : Option Value → List mC → Prop} {o : Nat} {fs : List Value} (ok : gO X cc "TripleStoreModel" (wsM y0 b0 nl0 ret0)) (hd : decode cc pc = .ok (.invokevirtual 236, 3)) (hM : mm_ (gLa X) y_Mo_readVariable w_Mo_readVariable rm (.ref o :: As) M post) (hst : As.reverse ++ .ref o :: rest = st) (hn : As.length = 0) (hrest : (rest.map fun v => v.category).sum ≤ 8) (hR : gF X rm 3 k n) (he : M[o]? = some (.inr (10, fs))) (hlen : ∀ r M', post r M' → M'.length = M.length) (kk : ∀ r M', post r M' → gg X M' (k + rm.cells) (n + rm.slots) (pc + 3) L (r.toList ++ rest)) : gg X M k n pc L st := g_callV ok (C := RMo) (T := TMo) (N := 59) hM i_Mo_readVariable ml_Mo_236 wn_Mo_readVariable ws_Mo_readVariable wi_Mo ⟨rfl, by decide, by decide, by rw [hn]; decide +kernel⟩ rfl hd hst hrest hR he hlen kk
theorem ml_Mo_299 : Cond.methodLink "TripleStoreModel" 299 y_Mo_readGroups ∈ gT := gT_at 1283 (by decide +kernel) (by decide +kernel)
theorem wn_Mo_readGroups : Cond.instanceMethod y_Mo_readGroups ∈ gT := gT_at 1285 (by decide +kernel) (by decide +kernel)
theorem ws_Mo_readGroups : Cond.selects "TripleStoreModel" y_Mo_readGroups y_Mo_readGroups ∈ gT := gT_pr 55 (by decide +kernel) (by decide +kernel)
theorem gc_Mo_299 {X : gC} {cc : ByteArray} {M : List mC} {k n pc : Nat} {L : List (Nat × Value)} {st rest : List Value} {y0 : MethodName} {b0 : ByteArray} {nl0 : Nat} {ret0 : Option FieldType} {rm : Room} {As : List Value} {post : Option Value → List mC → Prop} {o : Nat} {fs : List Value} (ok : gO X cc "TripleStoreModel" (wsM y0 b0 nl0 ret0)) (hd : decode cc pc = .ok (.invokevirtual 299, 3)) (hM : mm_ (gLa X) y_Mo_readGroups w_Mo_readGroups rm (.ref o :: As) M post) (hst : As.reverse ++ .ref o :: rest = st) (hn : As.length = 0) (hrest : (rest.map fun v => v.category).sum ≤ 8) (hR : gF X rm 1 k n) (he : M[o]? = some (.inr (10, fs))) (hlen : ∀ r M', post r M' → M'.length = M.length) (kk : ∀ r M', post r M' → gg X M' (k + rm.cells) (n + rm.slots) (pc + 3) L (r.toList ++ rest)) : gg X M k n pc L st := g_callV ok (C := RMo) (T := TMo) (N := 59) hM i_Mo_readGroups ml_Mo_299 wn_Mo_readGroups ws_Mo_readGroups wi_Mo ⟨rfl, by decide, by decide, by rw [hn]; decide +kernel⟩ rfl hd hst hrest hR he hlen kk
theorem ml_Mo_275 : Cond.methodLink "TripleStoreModel" 275 y_Mo_readStart ∈ gT := gT_at 1287 (by decide +kernel) (by decide +kernel)
theorem wn_Mo_readStart : Cond.instanceMethod y_Mo_readStart ∈ gT := gT_at 1289 (by decide +kernel) (by decide +kernel)
theorem ws_Mo_readStart : Cond.selects "TripleStoreModel" y_Mo_readStart y_Mo_readStart ∈ gT := gT_pr 56 (by decide +kernel) (by decide +kernel)
theorem gc_Mo_275 {X : gC} {cc : ByteArray} {M : List mC} {k n pc : Nat} {L : List (Nat × Value)} {st rest : List Value} {y0 : MethodName} {b0 : ByteArray} {nl0 : Nat} {ret0 : Option FieldType} {rm : Room} {As : List Value} {post : Option Value → List mC → Prop} {o : Nat} {fs : List Value} (ok : gO X cc "TripleStoreModel" (wsM y0 b0 nl0 ret0)) (hd : decode cc pc = .ok (.invokevirtual 275, 3)) (hM : mm_ (gLa X) y_Mo_readStart w_Mo_readStart rm (.ref o :: As) M post) (hst : As.reverse ++ .ref o :: rest = st) (hn : As.length = 1) (hrest : (rest.map fun v => v.category).sum ≤ 8) (hR : gF X rm 3 k n) (he : M[o]? = some (.inr (10, fs))) (hlen : ∀ r M', post r M' → M'.length = M.length) (kk : ∀ r M', post r M' → gg X M' (k + rm.cells) (n + rm.slots) (pc + 3) L (r.toList ++ rest)) : gg X M k n pc L st := g_callV ok (C := RMo) (T := TMo) (N := 59) hM i_Mo_readStart ml_Mo_275 wn_Mo_readStart ws_Mo_readStart wi_Mo ⟨rfl, by decide, by decide, by rw [hn]; decide +kernel⟩ rfl hd hst hrest hR he hlen kk
theorem ml_Mo_256 : Cond.methodLink "TripleStoreModel" 256 y_Mo_isSign ∈ gT := gT_at 1291 (by decide +kernel) (by decide +kernel)
theorem wn_Mo_isSign : Cond.instanceMethod y_Mo_isSign ∈ gT := gT_at 1293 (by decide +kernel) (by decide +kernel)
theorem ws_Mo_isSign : Cond.selects "TripleStoreModel" y_Mo_isSign y_Mo_isSign ∈ gT := gT_pr 57 (by decide +kernel) (by decide +kernel)
theorem gc_Mo_256 {X : gC} {cc : ByteArray} {M : List mC} {k n pc : Nat} {L : List (Nat × Value)} {st rest : List Value} {y0 : MethodName} {b0 : ByteArray} {nl0 : Nat} {ret0 : Option FieldType} {rm : Room} {As : List Value} {post : Option Value → List mC → Prop} {o : Nat} {fs : List Value} (ok : gO X cc "TripleStoreModel" (wsM y0 b0 nl0 ret0)) (hd : decode cc pc = .ok (.invokevirtual 256, 3)) (hM : mm_ (gLa X) y_Mo_isSign w_Mo_isSign rm (.ref o :: As) M post) (hst : As.reverse ++ .ref o :: rest = st) (hn : As.length = 1) (hrest : (rest.map fun v => v.category).sum ≤ 8) (hR : gF X rm 2 k n) (he : M[o]? = some (.inr (10, fs))) (hlen : ∀ r M', post r M' → M'.length = M.length) (kk : ∀ r M', post r M' → gg X M' (k + rm.cells) (n + rm.slots) (pc + 3) L (r.toList ++ rest)) : gg X M k n pc L st := g_callV ok (C := RMo) (T := TMo) (N := 59) hM i_Mo_isSign ml_Mo_256 wn_Mo_isSign ws_Mo_isSign wi_Mo ⟨rfl, by decide, by decide, by rw [hn]; decide +kernel⟩ rfl hd hst hrest hR he hlen kk
theorem ml_Mo_271 : Cond.methodLink "TripleStoreModel" 271 y_Mo_emit ∈ gT := gT_at 1295 (by decide +kernel) (by decide +kernel)
theorem wn_Mo_emit : Cond.instanceMethod y_Mo_emit ∈ gT := gT_at 1297 (by decide +kernel) (by decide +kernel)
theorem ws_Mo_emit : Cond.selects "TripleStoreModel" y_Mo_emit y_Mo_emit ∈ gT := gT_pr 58 (by decide +kernel) (by decide +kernel)
theorem gc_Mo_271 {X : gC} {cc : ByteArray} {M : List mC} {k n pc : Nat} {L : List (Nat × Value)} {st rest : List Value} {y0 : MethodName} {b0 : ByteArray} {nl0 : Nat} {ret0 : Option FieldType} {rm : Room} {As : List Value} {post : Option Value → List mC → Prop} {o : Nat} {fs : List Value} (ok : gO X cc "TripleStoreModel" (wsM y0 b0 nl0 ret0)) (hd : decode cc pc = .ok (.invokevirtual 271, 3)) (hM : mm_ (gLa X) y_Mo_emit w_Mo_emit rm (.ref o :: As) M post) (hst : As.reverse ++ .ref o :: rest = st) (hn : As.length = 2) (hrest : (rest.map fun v => v.category).sum ≤ 8) (hR : gF X rm 3 k n) (he : M[o]? = some (.inr (10, fs))) (hlen : ∀ r M', post r M' → M'.length = M.length) (kk : ∀ r M', post r M' → gg X M' (k + rm.cells) (n + rm.slots) (pc + 3) L (r.toList ++ rest)) : gg X M k n pc L st := g_callV ok (C := RMo) (T := TMo) (N := 59) hM i_Mo_emit ml_Mo_271 wn_Mo_emit ws_Mo_emit wi_Mo ⟨rfl, by decide, by decide, by rw [hn]; decide +kernel⟩ rfl hd hst hrest hR he hlen kk
theorem ml_Mo_284 : Cond.methodLink "TripleStoreModel" 284 y_Mo_readElement ∈ gT := gT_at 1299 (by decide +kernel) (by decide +kernel)
theorem wn_Mo_readElement : Cond.instanceMethod y_Mo_readElement ∈ gT := gT_at 1301 (by decide +kernel) (by decide +kernel)
theorem ws_Mo_readElement : Cond.selects "TripleStoreModel" y_Mo_readElement y_Mo_readElement ∈ gT := gT_pr 59 (by decide +kernel) (by decide +kernel)
theorem gc_Mo_284 {X : gC} {cc : ByteArray} {M : List mC} {k n pc : Nat} {L : List (Nat × Value)} {st rest : List Value} {y0 : MethodName} {b0 : ByteArray} {nl0 : Nat} {ret0 : Option FieldType} {rm : Room} {As : List Value} {post : Option Value → List mC → Prop} {o : Nat} {fs : List Value} (ok : gO X cc "TripleStoreModel" (wsM y0 b0 nl0 ret0)) (hd : decode cc pc = .ok (.invokevirtual 284, 3)) (hM : mm_ (gLa X) y_Mo_readElement w_Mo_readElement rm (.ref o :: As) M post) (hst : As.reverse ++ .ref o :: rest = st) (hn : As.length = 0) (hrest : (rest.map fun v => v.category).sum ≤ 8) (hR : gF X rm 4 k n) (he : M[o]? = some (.inr (10, fs))) (hlen : ∀ r M', post r M' → M'.length = M.length) (kk : ∀ r M', post r M' → gg X M' (k + rm.cells) (n + rm.slots) (pc + 3) L (r.toList ++ rest)) : gg X M k n pc L st := g_callV ok (C := RMo) (T := TMo) (N := 59) hM i_Mo_readElement ml_Mo_284 wn_Mo_readElement ws_Mo_readElement wi_Mo ⟨rfl, by decide, by decide, by rw [hn]; decide +kernel⟩ rfl hd hst hrest hR he hlen kk
theorem ml_Mo_240 : Cond.methodLink "TripleStoreModel" 240 y_Mo_isTerm ∈ gT := gT_at 1303 (by decide +kernel) (by decide +kernel)
theorem wn_Mo_isTerm : Cond.instanceMethod y_Mo_isTerm ∈ gT := gT_at 1305 (by decide +kernel) (by decide +kernel)
theorem ws_Mo_isTerm : Cond.selects "TripleStoreModel" y_Mo_isTerm y_Mo_isTerm ∈ gT := gT_pr 60 (by decide +kernel) (by decide +kernel)
theorem gc_Mo_240 {X : gC} {cc : ByteArray} {M : List mC} {k n pc : Nat} {L : List (Nat × Value)} {st rest : List Value} {y0 : MethodName} {b0 : ByteArray} {nl0 : Nat} {ret0 : Option FieldType} {rm : Room} {As : List Value} {post : Option Value → List mC → Prop} {o : Nat} {fs : List Value} (ok : gO X cc "TripleStoreModel" (wsM y0 b0 nl0 ret0)) (hd : decode cc pc = .ok (.invokevirtual 240, 3)) (hM : mm_ (gLa X) y_Mo_isTerm w_Mo_isTerm rm (.ref o :: As) M post) (hst : As.reverse ++ .ref o :: rest = st) (hn : As.length = 0) (hrest : (rest.map fun v => v.category).sum ≤ 8) (hR : gF X rm 3 k n) (he : M[o]? = some (.inr (10, fs))) (hlen : ∀ r M', post r M' → M'.length = M.length) (kk : ∀ r M', post r M' → gg X M' (k + rm.cells) (n + rm.slots) (pc + 3) L (r.toList ++ rest)) : gg X M k n pc L st := g_callV ok (C := RMo) (T := TMo) (N := 59) hM i_Mo_isTerm ml_Mo_240 wn_Mo_isTerm ws_Mo_isTerm wi_Mo ⟨rfl, by decide, by decide, by rw [hn]; decide +kernel⟩ rfl hd hst hrest hR he hlen kk
theorem ml_Mo_265 : Cond.methodLink "TripleStoreModel" 265 y_Mo_readTest ∈ gT := gT_at 1307 (by decide +kernel) (by decide +kernel)
theorem wn_Mo_readTest : Cond.instanceMethod y_Mo_readTest ∈ gT := gT_at 1309 (by decide +kernel) (by decide +kernel)
theorem ws_Mo_readTest : Cond.selects "TripleStoreModel" y_Mo_readTest y_Mo_readTest ∈ gT := gT_pr 61 (by decide +kernel) (by decide +kernel)
theorem gc_Mo_265 {X : gC} {cc : ByteArray} {M : List mC} {k n pc : Nat} {L : List (Nat × Value)} {st rest : List Value} {y0 : MethodName} {b0 : ByteArray} {nl0 : Nat} {ret0 : Option FieldType} {rm : Room} {As : List Value} {post : Option Value → List mC → Prop} {o : Nat} {fs : List Value} (ok : gO X cc "TripleStoreModel" (wsM y0 b0 nl0 ret0)) (hd : decode cc pc = .ok (.invokevirtual 265, 3)) (hM : mm_ (gLa X) y_Mo_readTest w_Mo_readTest rm (.ref o :: As) M post) (hst : As.reverse ++ .ref o :: rest = st) (hn : As.length = 0) (hrest : (rest.map fun v => v.category).sum ≤ 8) (hR : gF X rm 3 k n) (he : M[o]? = some (.inr (10, fs))) (hlen : ∀ r M', post r M' → M'.length = M.length) (kk : ∀ r M', post r M' → gg X M' (k + rm.cells) (n + rm.slots) (pc + 3) L (r.toList ++ rest)) : gg X M k n pc L st := g_callV ok (C := RMo) (T := TMo) (N := 59) hM i_Mo_readTest ml_Mo_265 wn_Mo_readTest ws_Mo_readTest wi_Mo ⟨rfl, by decide, by decide, by rw [hn]; decide +kernel⟩ rfl hd hst hrest hR he hlen kk
theorem ml_Mo_253 : Cond.methodLink "TripleStoreModel" 253 y_Mo_readSide ∈ gT := gT_at 1311 (by decide +kernel) (by decide +kernel)
theorem wn_Mo_readSide : Cond.instanceMethod y_Mo_readSide ∈ gT := gT_at 1313 (by decide +kernel) (by decide +kernel)
theorem ws_Mo_readSide : Cond.selects "TripleStoreModel" y_Mo_readSide y_Mo_readSide ∈ gT := gT_pr 62 (by decide +kernel) (by decide +kernel)
theorem gc_Mo_253 {X : gC} {cc : ByteArray} {M : List mC} {k n pc : Nat} {L : List (Nat × Value)} {st rest : List Value} {y0 : MethodName} {b0 : ByteArray} {nl0 : Nat} {ret0 : Option FieldType} {rm : Room} {As : List Value} {post : Option Value → List mC → Prop} {o : Nat} {fs : List Value} (ok : gO X cc "TripleStoreModel" (wsM y0 b0 nl0 ret0)) (hd : decode cc pc = .ok (.invokevirtual 253, 3)) (hM : mm_ (gLa X) y_Mo_readSide w_Mo_readSide rm (.ref o :: As) M post) (hst : As.reverse ++ .ref o :: rest = st) (hn : As.length = 1) (hrest : (rest.map fun v => v.category).sum ≤ 8) (hR : gF X rm 3 k n) (he : M[o]? = some (.inr (10, fs))) (hlen : ∀ r M', post r M' → M'.length = M.length) (kk : ∀ r M', post r M' → gg X M' (k + rm.cells) (n + rm.slots) (pc + 3) L (r.toList ++ rest)) : gg X M k n pc L st := g_callV ok (C := RMo) (T := TMo) (N := 59) hM i_Mo_readSide ml_Mo_253 wn_Mo_readSide ws_Mo_readSide wi_Mo ⟨rfl, by decide, by decide, by rw [hn]; decide +kernel⟩ rfl hd hst hrest hR he hlen kk
theorem ml_Mo_287 : Cond.methodLink "TripleStoreModel" 287 y_Mo_readOn ∈ gT := gT_at 1315 (by decide +kernel) (by decide +kernel)
theorem wn_Mo_readOn : Cond.instanceMethod y_Mo_readOn ∈ gT := gT_at 1317 (by decide +kernel) (by decide +kernel)
theorem ws_Mo_readOn : Cond.selects "TripleStoreModel" y_Mo_readOn y_Mo_readOn ∈ gT := gT_pr 63 (by decide +kernel) (by decide +kernel)
theorem gc_Mo_287 {X : gC} {cc : ByteArray} {M : List mC} {k n pc : Nat} {L : List (Nat × Value)} {st rest : List Value} {y0 : MethodName} {b0 : ByteArray} {nl0 : Nat} {ret0 : Option FieldType} {rm : Room} {As : List Value} {post : Option Value → List mC → Prop} {o : Nat} {fs : List Value} (ok : gO X cc "TripleStoreModel" (wsM y0 b0 nl0 ret0)) (hd : decode cc pc = .ok (.invokevirtual 287, 3)) (hM : mm_ (gLa X) y_Mo_readOn w_Mo_readOn rm (.ref o :: As) M post) (hst : As.reverse ++ .ref o :: rest = st) (hn : As.length = 0) (hrest : (rest.map fun v => v.category).sum ≤ 8) (hR : gF X rm 2 k n) (he : M[o]? = some (.inr (10, fs))) (hlen : ∀ r M', post r M' → M'.length = M.length) (kk : ∀ r M', post r M' → gg X M' (k + rm.cells) (n + rm.slots) (pc + 3) L (r.toList ++ rest)) : gg X M k n pc L st := g_callV ok (C := RMo) (T := TMo) (N := 59) hM i_Mo_readOn ml_Mo_287 wn_Mo_readOn ws_Mo_readOn wi_Mo ⟨rfl, by decide, by decide, by rw [hn]; decide +kernel⟩ rfl hd hst hrest hR he hlen kk
theorem ml_Mo_290 : Cond.methodLink "TripleStoreModel" 290 y_Mo_readClose ∈ gT := gT_at 1319 (by decide +kernel) (by decide +kernel)
theorem wn_Mo_readClose : Cond.instanceMethod y_Mo_readClose ∈ gT := gT_at 1321 (by decide +kernel) (by decide +kernel)
theorem ws_Mo_readClose : Cond.selects "TripleStoreModel" y_Mo_readClose y_Mo_readClose ∈ gT := gT_pr 64 (by decide +kernel) (by decide +kernel)
theorem gc_Mo_290 {X : gC} {cc : ByteArray} {M : List mC} {k n pc : Nat} {L : List (Nat × Value)} {st rest : List Value} {y0 : MethodName} {b0 : ByteArray} {nl0 : Nat} {ret0 : Option FieldType} {rm : Room} {As : List Value} {post : Option Value → List mC → Prop} {o : Nat} {fs : List Value} (ok : gO X cc "TripleStoreModel" (wsM y0 b0 nl0 ret0)) (hd : decode cc pc = .ok (.invokevirtual 290, 3)) (hM : mm_ (gLa X) y_Mo_readClose w_Mo_readClose rm (.ref o :: As) M post) (hst : As.reverse ++ .ref o :: rest = st) (hn : As.length = 0) (hrest : (rest.map fun v => v.category).sum ≤ 8) (hR : gF X rm 2 k n) (he : M[o]? = some (.inr (10, fs))) (hlen : ∀ r M', post r M' → M'.length = M.length) (kk : ∀ r M', post r M' → gg X M' (k + rm.cells) (n + rm.slots) (pc + 3) L (r.toList ++ rest)) : gg X M k n pc L st := g_callV ok (C := RMo) (T := TMo) (N := 59) hM i_Mo_readClose ml_Mo_290 wn_Mo_readClose ws_Mo_readClose wi_Mo ⟨rfl, by decide, by decide, by rw [hn]; decide +kernel⟩ rfl hd hst hrest hR he hlen kk
theorem ml_Mo_367 : Cond.methodLink "TripleStoreModel" 367 y_Mo_work ∈ gT := gT_at 1323 (by decide +kernel) (by decide +kernel)
theorem wn_Mo_work : Cond.instanceMethod y_Mo_work ∈ gT := gT_at 1325 (by decide +kernel) (by decide +kernel)
theorem ws_Mo_work : Cond.selects "TripleStoreModel" y_Mo_work y_Mo_work ∈ gT := gT_pr 65 (by decide +kernel) (by decide +kernel)
theorem gc_Mo_367 {X : gC} {cc : ByteArray} {M : List mC} {k n pc : Nat} {L : List (Nat × Value)} {st rest : List Value} {y0 : MethodName} {b0 : ByteArray} {nl0 : Nat} {ret0 : Option FieldType} {rm : Room} {As : List Value} {post : Option Value → List mC → Prop} {o : Nat} {fs : List Value} (ok : gO X cc "TripleStoreModel" (wsM y0 b0 nl0 ret0)) (hd : decode cc pc = .ok (.invokevirtual 367, 3)) (hM : mm_ (gLa X) y_Mo_work w_Mo_work rm (.ref o :: As) M post) (hst : As.reverse ++ .ref o :: rest = st) (hn : As.length = 2) (hrest : (rest.map fun v => v.category).sum ≤ 8) (hR : gF X rm 4 k n) (he : M[o]? = some (.inr (10, fs))) (hlen : ∀ r M', post r M' → M'.length = M.length) (kk : ∀ r M', post r M' → gg X M' (k + rm.cells) (n + rm.slots) (pc + 3) L (r.toList ++ rest)) : gg X M k n pc L st := g_callV ok (C := RMo) (T := TMo) (N := 59) hM i_Mo_work ml_Mo_367 wn_Mo_work ws_Mo_work wi_Mo ⟨rfl, by decide, by decide, by rw [hn]; decide +kernel⟩ rfl hd hst hrest hR he hlen kk
theorem ml_Mo_338 : Cond.methodLink "TripleStoreModel" 338 y_Mo_match ∈ gT := gT_at 1327 (by decide +kernel) (by decide +kernel)
theorem wn_Mo_match : Cond.instanceMethod y_Mo_match ∈ gT := gT_at 1329 (by decide +kernel) (by decide +kernel)
theorem ws_Mo_match : Cond.selects "TripleStoreModel" y_Mo_match y_Mo_match ∈ gT := gT_pr 66 (by decide +kernel) (by decide +kernel)
theorem gc_Mo_338 {X : gC} {cc : ByteArray} {M : List mC} {k n pc : Nat} {L : List (Nat × Value)} {st rest : List Value} {y0 : MethodName} {b0 : ByteArray} {nl0 : Nat} {ret0 : Option FieldType} {rm : Room} {As : List Value} {post : Option Value → List mC → Prop} {o : Nat} {fs : List Value} (ok : gO X cc "TripleStoreModel" (wsM y0 b0 nl0 ret0)) (hd : decode cc pc = .ok (.invokevirtual 338, 3)) (hM : mm_ (gLa X) y_Mo_match w_Mo_match rm (.ref o :: As) M post) (hst : As.reverse ++ .ref o :: rest = st) (hn : As.length = 1) (hrest : (rest.map fun v => v.category).sum ≤ 8) (hR : gF X rm 10 k n) (he : M[o]? = some (.inr (10, fs))) (hlen : ∀ r M', post r M' → M'.length = M.length) (kk : ∀ r M', post r M' → gg X M' (k + rm.cells) (n + rm.slots) (pc + 3) L (r.toList ++ rest)) : gg X M k n pc L st := g_callV ok (C := RMo) (T := TMo) (N := 59) hM i_Mo_match ml_Mo_338 wn_Mo_match ws_Mo_match wi_Mo ⟨rfl, by decide, by decide, by rw [hn]; decide +kernel⟩ rfl hd hst hrest hR he hlen kk
theorem ml_Mo_341 : Cond.methodLink "TripleStoreModel" 341 y_Mo_combine ∈ gT := gT_at 1331 (by decide +kernel) (by decide +kernel)
theorem wn_Mo_combine : Cond.instanceMethod y_Mo_combine ∈ gT := gT_at 1333 (by decide +kernel) (by decide +kernel)
theorem ws_Mo_combine : Cond.selects "TripleStoreModel" y_Mo_combine y_Mo_combine ∈ gT := gT_pr 67 (by decide +kernel) (by decide +kernel)
theorem gc_Mo_341 {X : gC} {cc : ByteArray} {M : List mC} {k n pc : Nat} {L : List (Nat × Value)} {st rest : List Value} {y0 : MethodName} {b0 : ByteArray} {nl0 : Nat} {ret0 : Option FieldType} {rm : Room} {As : List Value} {post : Option Value → List mC → Prop} {o : Nat} {fs : List Value} (ok : gO X cc "TripleStoreModel" (wsM y0 b0 nl0 ret0)) (hd : decode cc pc = .ok (.invokevirtual 341, 3)) (hM : mm_ (gLa X) y_Mo_combine w_Mo_combine rm (.ref o :: As) M post) (hst : As.reverse ++ .ref o :: rest = st) (hn : As.length = 1) (hrest : (rest.map fun v => v.category).sum ≤ 8) (hR : gF X rm 8 k n) (he : M[o]? = some (.inr (10, fs))) (hlen : ∀ r M', post r M' → M'.length = M.length) (kk : ∀ r M', post r M' → gg X M' (k + rm.cells) (n + rm.slots) (pc + 3) L (r.toList ++ rest)) : gg X M k n pc L st := g_callV ok (C := RMo) (T := TMo) (N := 59) hM i_Mo_combine ml_Mo_341 wn_Mo_combine ws_Mo_combine wi_Mo ⟨rfl, by decide, by decide, by rw [hn]; decide +kernel⟩ rfl hd hst hrest hR he hlen kk
theorem ml_Mo_321 : Cond.methodLink "TripleStoreModel" 321 y_Mo_compatible ∈ gT := gT_at 1335 (by decide +kernel) (by decide +kernel)
theorem wn_Mo_compatible : Cond.instanceMethod y_Mo_compatible ∈ gT := gT_at 1337 (by decide +kernel) (by decide +kernel)
theorem ws_Mo_compatible : Cond.selects "TripleStoreModel" y_Mo_compatible y_Mo_compatible ∈ gT := gT_pr 68 (by decide +kernel) (by decide +kernel)
theorem gc_Mo_321 {X : gC} {cc : ByteArray} {M : List mC} {k n pc : Nat} {L : List (Nat × Value)} {st rest : List Value} {y0 : MethodName} {b0 : ByteArray} {nl0 : Nat} {ret0 : Option FieldType} {rm : Room} {As : List Value} {post : Option Value → List mC → Prop} {o : Nat} {fs : List Value} (ok : gO X cc "TripleStoreModel" (wsM y0 b0 nl0 ret0)) (hd : decode cc pc = .ok (.invokevirtual 321, 3)) (hM : mm_ (gLa X) y_Mo_compatible w_Mo_compatible rm (.ref o :: As) M post) (hst : As.reverse ++ .ref o :: rest = st) (hn : As.length = 2) (hrest : (rest.map fun v => v.category).sum ≤ 8) (hR : gF X rm 4 k n) (he : M[o]? = some (.inr (10, fs))) (hlen : ∀ r M', post r M' → M'.length = M.length) (kk : ∀ r M', post r M' → gg X M' (k + rm.cells) (n + rm.slots) (pc + 3) L (r.toList ++ rest)) : gg X M k n pc L st := g_callV ok (C := RMo) (T := TMo) (N := 59) hM i_Mo_compatible ml_Mo_321 wn_Mo_compatible ws_Mo_compatible wi_Mo ⟨rfl, by decide, by decide, by rw [hn]; decide +kernel⟩ rfl hd hst hrest hR he hlen kk
theorem ml_Mo_325 : Cond.methodLink "TripleStoreModel" 325 y_Mo_join ∈ gT := gT_at 1339 (by decide +kernel) (by decide +kernel)
theorem wn_Mo_join : Cond.instanceMethod y_Mo_join ∈ gT := gT_at 1341 (by decide +kernel) (by decide +kernel)
theorem ws_Mo_join : Cond.selects "TripleStoreModel" y_Mo_join y_Mo_join ∈ gT := gT_pr 69 (by decide +kernel) (by decide +kernel)
theorem gc_Mo_325 {X : gC} {cc : ByteArray} {M : List mC} {k n pc : Nat} {L : List (Nat × Value)} {st rest : List Value} {y0 : MethodName} {b0 : ByteArray} {nl0 : Nat} {ret0 : Option FieldType} {rm : Room} {As : List Value} {post : Option Value → List mC → Prop} {o : Nat} {fs : List Value} (ok : gO X cc "TripleStoreModel" (wsM y0 b0 nl0 ret0)) (hd : decode cc pc = .ok (.invokevirtual 325, 3)) (hM : mm_ (gLa X) y_Mo_join w_Mo_join rm (.ref o :: As) M post) (hst : As.reverse ++ .ref o :: rest = st) (hn : As.length = 4) (hrest : (rest.map fun v => v.category).sum ≤ 8) (hR : gF X rm 8 k n) (he : M[o]? = some (.inr (10, fs))) (hlen : ∀ r M', post r M' → M'.length = M.length) (kk : ∀ r M', post r M' → gg X M' (k + rm.cells) (n + rm.slots) (pc + 3) L (r.toList ++ rest)) : gg X M k n pc L st := g_callV ok (C := RMo) (T := TMo) (N := 59) hM i_Mo_join ml_Mo_325 wn_Mo_join ws_Mo_join wi_Mo ⟨rfl, by decide, by decide, by rw [hn]; decide +kernel⟩ rfl hd hst hrest hR he hlen kk
theorem ml_Mo_314 : Cond.methodLink "TripleStoreModel" 314 y_Mo_addTo ∈ gT := gT_at 1343 (by decide +kernel) (by decide +kernel)
theorem wn_Mo_addTo : Cond.instanceMethod y_Mo_addTo ∈ gT := gT_at 1345 (by decide +kernel) (by decide +kernel)
theorem ws_Mo_addTo : Cond.selects "TripleStoreModel" y_Mo_addTo y_Mo_addTo ∈ gT := gT_pr 70 (by decide +kernel) (by decide +kernel)
theorem gc_Mo_314 {X : gC} {cc : ByteArray} {M : List mC} {k n pc : Nat} {L : List (Nat × Value)} {st rest : List Value} {y0 : MethodName} {b0 : ByteArray} {nl0 : Nat} {ret0 : Option FieldType} {rm : Room} {As : List Value} {post : Option Value → List mC → Prop} {o : Nat} {fs : List Value} (ok : gO X cc "TripleStoreModel" (wsM y0 b0 nl0 ret0)) (hd : decode cc pc = .ok (.invokevirtual 314, 3)) (hM : mm_ (gLa X) y_Mo_addTo w_Mo_addTo rm (.ref o :: As) M post) (hst : As.reverse ++ .ref o :: rest = st) (hn : As.length = 3) (hrest : (rest.map fun v => v.category).sum ≤ 8) (hR : gF X rm 6 k n) (he : M[o]? = some (.inr (10, fs))) (hlen : ∀ r M', post r M' → M'.length = M.length) (kk : ∀ r M', post r M' → gg X M' (k + rm.cells) (n + rm.slots) (pc + 3) L (r.toList ++ rest)) : gg X M k n pc L st := g_callV ok (C := RMo) (T := TMo) (N := 59) hM i_Mo_addTo ml_Mo_314 wn_Mo_addTo ws_Mo_addTo wi_Mo ⟨rfl, by decide, by decide, by rw [hn]; decide +kernel⟩ rfl hd hst hrest hR he hlen kk
theorem ml_Mo_329 : Cond.methodLink "TripleStoreModel" 329 y_Mo_copy ∈ gT := gT_at 1347 (by decide +kernel) (by decide +kernel)
theorem wn_Mo_copy : Cond.instanceMethod y_Mo_copy ∈ gT := gT_at 1349 (by decide +kernel) (by decide +kernel)
theorem ws_Mo_copy : Cond.selects "TripleStoreModel" y_Mo_copy y_Mo_copy ∈ gT := gT_pr 71 (by decide +kernel) (by decide +kernel)
theorem gc_Mo_329 {X : gC} {cc : ByteArray} {M : List mC} {k n pc : Nat} {L : List (Nat × Value)} {st rest : List Value} {y0 : MethodName} {b0 : ByteArray} {nl0 : Nat} {ret0 : Option FieldType} {rm : Room} {As : List Value} {post : Option Value → List mC → Prop} {o : Nat} {fs : List Value} (ok : gO X cc "TripleStoreModel" (wsM y0 b0 nl0 ret0)) (hd : decode cc pc = .ok (.invokevirtual 329, 3)) (hM : mm_ (gLa X) y_Mo_copy w_Mo_copy rm (.ref o :: As) M post) (hst : As.reverse ++ .ref o :: rest = st) (hn : As.length = 2) (hrest : (rest.map fun v => v.category).sum ≤ 8) (hR : gF X rm 4 k n) (he : M[o]? = some (.inr (10, fs))) (hlen : ∀ r M', post r M' → M'.length = M.length) (kk : ∀ r M', post r M' → gg X M' (k + rm.cells) (n + rm.slots) (pc + 3) L (r.toList ++ rest)) : gg X M k n pc L st := g_callV ok (C := RMo) (T := TMo) (N := 59) hM i_Mo_copy ml_Mo_329 wn_Mo_copy ws_Mo_copy wi_Mo ⟨rfl, by decide, by decide, by rw [hn]; decide +kernel⟩ rfl hd hst hrest hR he hlen kk
theorem ml_Mo_344 : Cond.methodLink "TripleStoreModel" 344 y_Mo_filter ∈ gT := gT_at 1351 (by decide +kernel) (by decide +kernel)
theorem wn_Mo_filter : Cond.instanceMethod y_Mo_filter ∈ gT := gT_at 1353 (by decide +kernel) (by decide +kernel)
theorem ws_Mo_filter : Cond.selects "TripleStoreModel" y_Mo_filter y_Mo_filter ∈ gT := gT_pr 72 (by decide +kernel) (by decide +kernel)
theorem gc_Mo_344 {X : gC} {cc : ByteArray} {M : List mC} {k n pc : Nat} {L : List (Nat × Value)} {st rest : List Value} {y0 : MethodName} {b0 : ByteArray} {nl0 : Nat} {ret0 : Option FieldType} {rm : Room} {As : List Value} {post : Option Value → List mC → Prop} {o : Nat} {fs : List Value} (ok : gO X cc "TripleStoreModel" (wsM y0 b0 nl0 ret0)) (hd : decode cc pc = .ok (.invokevirtual 344, 3)) (hM : mm_ (gLa X) y_Mo_filter w_Mo_filter rm (.ref o :: As) M post) (hst : As.reverse ++ .ref o :: rest = st) (hn : As.length = 1) (hrest : (rest.map fun v => v.category).sum ≤ 8) (hR : gF X rm 6 k n) (he : M[o]? = some (.inr (10, fs))) (hlen : ∀ r M', post r M' → M'.length = M.length) (kk : ∀ r M', post r M' → gg X M' (k + rm.cells) (n + rm.slots) (pc + 3) L (r.toList ++ rest)) : gg X M k n pc L st := g_callV ok (C := RMo) (T := TMo) (N := 59) hM i_Mo_filter ml_Mo_344 wn_Mo_filter ws_Mo_filter wi_Mo ⟨rfl, by decide, by decide, by rw [hn]; decide +kernel⟩ rfl hd hst hrest hR he hlen kk
theorem ml_Mo_336 : Cond.methodLink "TripleStoreModel" 336 y_Mo_holds ∈ gT := gT_at 1355 (by decide +kernel) (by decide +kernel)
theorem wn_Mo_holds : Cond.instanceMethod y_Mo_holds ∈ gT := gT_at 1357 (by decide +kernel) (by decide +kernel)
theorem ws_Mo_holds : Cond.selects "TripleStoreModel" y_Mo_holds y_Mo_holds ∈ gT := gT_pr 73 (by decide +kernel) (by decide +kernel)
theorem gc_Mo_336 {X : gC} {cc : ByteArray} {M : List mC} {k n pc : Nat} {L : List (Nat × Value)} {st rest : List Value} {y0 : MethodName} {b0 : ByteArray} {nl0 : Nat} {ret0 : Option FieldType} {rm : Room} {As : List Value} {post : Option Value → List mC → Prop} {o : Nat} {fs : List Value} (ok : gO X cc "TripleStoreModel" (wsM y0 b0 nl0 ret0)) (hd : decode cc pc = .ok (.invokevirtual 336, 3)) (hM : mm_ (gLa X) y_Mo_holds w_Mo_holds rm (.ref o :: As) M post) (hst : As.reverse ++ .ref o :: rest = st) (hn : As.length = 2) (hrest : (rest.map fun v => v.category).sum ≤ 8) (hR : gF X rm 7 k n) (he : M[o]? = some (.inr (10, fs))) (hlen : ∀ r M', post r M' → M'.length = M.length) (kk : ∀ r M', post r M' → gg X M' (k + rm.cells) (n + rm.slots) (pc + 3) L (r.toList ++ rest)) : gg X M k n pc L st := g_callV ok (C := RMo) (T := TMo) (N := 59) hM i_Mo_holds ml_Mo_336 wn_Mo_holds ws_Mo_holds wi_Mo ⟨rfl, by decide, by decide, by rw [hn]; decide +kernel⟩ rfl hd hst hrest hR he hlen kk
theorem ml_Mo_332 : Cond.methodLink "TripleStoreModel" 332 y_Mo_compare ∈ gT := gT_at 1359 (by decide +kernel) (by decide +kernel)
theorem wt_Mo_compare : Cond.static y_Mo_compare ∈ gT := gT_at 1360 (by decide +kernel) (by decide +kernel)
theorem gc_Mo_332 {X : gC} {cc : ByteArray} {M : List mC} {k n pc : Nat} {L : List (Nat × Value)} {st rest : List Value} {y0 : MethodName} {b0 : ByteArray} {nl0 : Nat} {ret0 : Option FieldType} {rm : Room} {As : List Value} {post : Option Value → List mC → Prop} (ok : gO X cc "TripleStoreModel" (wsM y0 b0 nl0 ret0)) (hd : decode cc pc = .ok (.invokestatic 332, 3)) (hM : mm_ (gLa X) y_Mo_compare w_Mo_compare rm As M post) (hst : As.reverse ++ rest = st) (hn : As.length = 2) (hrest : (rest.map fun v => v.category).sum ≤ 8) (hR : gF X rm 8 k n) (hlen : ∀ r M', post r M' → M'.length = M.length) (kk : ∀ r M', post r M' → gg X M' (k + rm.cells) (n + rm.slots) (pc + 3) L (r.toList ++ rest)) : gg X M k n pc L st := g_callS ok hM i_Mo_compare ml_Mo_332 wt_Mo_compare wi_Mo ⟨by decide, by decide, by rw [hn]; decide +kernel⟩ hd hst hrest hR hlen kk
theorem ml_Mo_370 : Cond.methodLink "TripleStoreModel" 370 y_Mo_makeRows ∈ gT := gT_at 1362 (by decide +kernel) (by decide +kernel)
theorem wn_Mo_makeRows : Cond.instanceMethod y_Mo_makeRows ∈ gT := gT_at 1364 (by decide +kernel) (by decide +kernel)
theorem ws_Mo_makeRows : Cond.selects "TripleStoreModel" y_Mo_makeRows y_Mo_makeRows ∈ gT := gT_pr 74 (by decide +kernel) (by decide +kernel)
theorem gc_Mo_370 {X : gC} {cc : ByteArray} {M : List mC} {k n pc : Nat} {L : List (Nat × Value)} {st rest : List Value} {y0 : MethodName} {b0 : ByteArray} {nl0 : Nat} {ret0 : Option FieldType} {rm : Room} {As : List Value} {post : Option Value → List mC → Prop} {o : Nat} {fs : List Value} (ok : gO X cc "TripleStoreModel" (wsM y0 b0 nl0 ret0)) (hd : decode cc pc = .ok (.invokevirtual 370, 3)) (hM : mm_ (gLa X) y_Mo_makeRows w_Mo_makeRows rm (.ref o :: As) M post) (hst : As.reverse ++ .ref o :: rest = st) (hn : As.length = 0) (hrest : (rest.map fun v => v.category).sum ≤ 8) (hR : gF X rm 5 k n) (he : M[o]? = some (.inr (10, fs))) (hlen : ∀ r M', post r M' → M'.length = M.length) (kk : ∀ r M', post r M' → gg X M' (k + rm.cells) (n + rm.slots) (pc + 3) L (r.toList ++ rest)) : gg X M k n pc L st := g_callV ok (C := RMo) (T := TMo) (N := 59) hM i_Mo_makeRows ml_Mo_370 wn_Mo_makeRows ws_Mo_makeRows wi_Mo ⟨rfl, by decide, by decide, by rw [hn]; decide +kernel⟩ rfl hd hst hrest hR he hlen kk
theorem ml_Mo_355 : Cond.methodLink "TripleStoreModel" 355 y_Mo_before ∈ gT := gT_at 1366 (by decide +kernel) (by decide +kernel)
theorem wn_Mo_before : Cond.instanceMethod y_Mo_before ∈ gT := gT_at 1368 (by decide +kernel) (by decide +kernel)
theorem ws_Mo_before : Cond.selects "TripleStoreModel" y_Mo_before y_Mo_before ∈ gT := gT_pr 75 (by decide +kernel) (by decide +kernel)
theorem gc_Mo_355 {X : gC} {cc : ByteArray} {M : List mC} {k n pc : Nat} {L : List (Nat × Value)} {st rest : List Value} {y0 : MethodName} {b0 : ByteArray} {nl0 : Nat} {ret0 : Option FieldType} {rm : Room} {As : List Value} {post : Option Value → List mC → Prop} {o : Nat} {fs : List Value} (ok : gO X cc "TripleStoreModel" (wsM y0 b0 nl0 ret0)) (hd : decode cc pc = .ok (.invokevirtual 355, 3)) (hM : mm_ (gLa X) y_Mo_before w_Mo_before rm (.ref o :: As) M post) (hst : As.reverse ++ .ref o :: rest = st) (hn : As.length = 2) (hrest : (rest.map fun v => v.category).sum ≤ 8) (hR : gF X rm 4 k n) (he : M[o]? = some (.inr (10, fs))) (hlen : ∀ r M', post r M' → M'.length = M.length) (kk : ∀ r M', post r M' → gg X M' (k + rm.cells) (n + rm.slots) (pc + 3) L (r.toList ++ rest)) : gg X M k n pc L st := g_callV ok (C := RMo) (T := TMo) (N := 59) hM i_Mo_before ml_Mo_355 wn_Mo_before ws_Mo_before wi_Mo ⟨rfl, by decide, by decide, by rw [hn]; decide +kernel⟩ rfl hd hst hrest hR he hlen kk
theorem ml_Mo_347 : Cond.methodLink "TripleStoreModel" 347 y_Mo_by ∈ gT := gT_at 1370 (by decide +kernel) (by decide +kernel)
theorem wn_Mo_by : Cond.instanceMethod y_Mo_by ∈ gT := gT_at 1372 (by decide +kernel) (by decide +kernel)
theorem ws_Mo_by : Cond.selects "TripleStoreModel" y_Mo_by y_Mo_by ∈ gT := gT_pr 76 (by decide +kernel) (by decide +kernel)
theorem gc_Mo_347 {X : gC} {cc : ByteArray} {M : List mC} {k n pc : Nat} {L : List (Nat × Value)} {st rest : List Value} {y0 : MethodName} {b0 : ByteArray} {nl0 : Nat} {ret0 : Option FieldType} {rm : Room} {As : List Value} {post : Option Value → List mC → Prop} {o : Nat} {fs : List Value} (ok : gO X cc "TripleStoreModel" (wsM y0 b0 nl0 ret0)) (hd : decode cc pc = .ok (.invokevirtual 347, 3)) (hM : mm_ (gLa X) y_Mo_by w_Mo_by rm (.ref o :: As) M post) (hst : As.reverse ++ .ref o :: rest = st) (hn : As.length = 3) (hrest : (rest.map fun v => v.category).sum ≤ 8) (hR : gF X rm 6 k n) (he : M[o]? = some (.inr (10, fs))) (hlen : ∀ r M', post r M' → M'.length = M.length) (kk : ∀ r M', post r M' → gg X M' (k + rm.cells) (n + rm.slots) (pc + 3) L (r.toList ++ rest)) : gg X M k n pc L st := g_callV ok (C := RMo) (T := TMo) (N := 59) hM i_Mo_by ml_Mo_347 wn_Mo_by ws_Mo_by wi_Mo ⟨rfl, by decide, by decide, by rw [hn]; decide +kernel⟩ rfl hd hst hrest hR he hlen kk
theorem ml_Mo_351 : Cond.methodLink "TripleStoreModel" 351 y_Mo_byTerms ∈ gT := gT_at 1374 (by decide +kernel) (by decide +kernel)
theorem wn_Mo_byTerms : Cond.instanceMethod y_Mo_byTerms ∈ gT := gT_at 1376 (by decide +kernel) (by decide +kernel)
theorem ws_Mo_byTerms : Cond.selects "TripleStoreModel" y_Mo_byTerms y_Mo_byTerms ∈ gT := gT_pr 77 (by decide +kernel) (by decide +kernel)
theorem gc_Mo_351 {X : gC} {cc : ByteArray} {M : List mC} {k n pc : Nat} {L : List (Nat × Value)} {st rest : List Value} {y0 : MethodName} {b0 : ByteArray} {nl0 : Nat} {ret0 : Option FieldType} {rm : Room} {As : List Value} {post : Option Value → List mC → Prop} {o : Nat} {fs : List Value} (ok : gO X cc "TripleStoreModel" (wsM y0 b0 nl0 ret0)) (hd : decode cc pc = .ok (.invokevirtual 351, 3)) (hM : mm_ (gLa X) y_Mo_byTerms w_Mo_byTerms rm (.ref o :: As) M post) (hst : As.reverse ++ .ref o :: rest = st) (hn : As.length = 2) (hrest : (rest.map fun v => v.category).sum ≤ 8) (hR : gF X rm 5 k n) (he : M[o]? = some (.inr (10, fs))) (hlen : ∀ r M', post r M' → M'.length = M.length) (kk : ∀ r M', post r M' → gg X M' (k + rm.cells) (n + rm.slots) (pc + 3) L (r.toList ++ rest)) : gg X M k n pc L st := g_callV ok (C := RMo) (T := TMo) (N := 59) hM i_Mo_byTerms ml_Mo_351 wn_Mo_byTerms ws_Mo_byTerms wi_Mo ⟨rfl, by decide, by decide, by rw [hn]; decide +kernel⟩ rfl hd hst hrest hR he hlen kk
theorem ml_La_98 : Cond.methodLink "TripleStoreLaw" 98 y_Mo_fault ∈ gT := gT_at 1378 (by decide +kernel) (by decide +kernel)
theorem wn_Mo_fault : Cond.instanceMethod y_Mo_fault ∈ gT := gT_at 1379 (by decide +kernel) (by decide +kernel)
theorem ws_Mo_fault : Cond.selects "TripleStoreModel" y_Mo_fault y_Mo_fault ∈ gT := gT_at 1380 (by decide +kernel) (by decide +kernel)
theorem gc_La_98 {X : gC} {cc : ByteArray} {M : List mC} {k n pc : Nat} {L : List (Nat × Value)} {st rest : List Value} {y0 : MethodName} {b0 : ByteArray} {nl0 : Nat} {ret0 : Option FieldType} {rm : Room} {As : List Value} {post : Option Value → List mC → Prop} {o : Nat} {fs : List Value} (ok : gO X cc "TripleStoreLaw" (wsM y0 b0 nl0 ret0)) (hd : decode cc pc = .ok (.invokevirtual 98, 3)) (hM : mm_ (gLa X) y_Mo_fault w_Mo_fault rm (.ref o :: As) M post) (hst : As.reverse ++ .ref o :: rest = st) (hn : As.length = 0) (hrest : (rest.map fun v => v.category).sum ≤ 8) (hR : gF X rm 1 k n) (he : M[o]? = some (.inr (10, fs))) (hlen : ∀ r M', post r M' → M'.length = M.length) (kk : ∀ r M', post r M' → gg X M' (k + rm.cells) (n + rm.slots) (pc + 3) L (r.toList ++ rest)) : gg X M k n pc L st := g_callV ok (C := RMo) (T := TMo) (N := 59) hM i_Mo_fault ml_La_98 wn_Mo_fault ws_Mo_fault wi_Mo ⟨rfl, by decide, by decide, by rw [hn]; decide +kernel⟩ rfl hd hst hrest hR he hlen kk
theorem ml_La_102 : Cond.methodLink "TripleStoreLaw" 102 y_Mo_cell ∈ gT := gT_at 1382 (by decide +kernel) (by decide +kernel)
theorem wn_Mo_cell : Cond.instanceMethod y_Mo_cell ∈ gT := gT_at 1383 (by decide +kernel) (by decide +kernel)
theorem ws_Mo_cell : Cond.selects "TripleStoreModel" y_Mo_cell y_Mo_cell ∈ gT := gT_at 1384 (by decide +kernel) (by decide +kernel)
theorem gc_La_102 {X : gC} {cc : ByteArray} {M : List mC} {k n pc : Nat} {L : List (Nat × Value)} {st rest : List Value} {y0 : MethodName} {b0 : ByteArray} {nl0 : Nat} {ret0 : Option FieldType} {rm : Room} {As : List Value} {post : Option Value → List mC → Prop} {o : Nat} {fs : List Value} (ok : gO X cc "TripleStoreLaw" (wsM y0 b0 nl0 ret0)) (hd : decode cc pc = .ok (.invokevirtual 102, 3)) (hM : mm_ (gLa X) y_Mo_cell w_Mo_cell rm (.ref o :: As) M post) (hst : As.reverse ++ .ref o :: rest = st) (hn : As.length = 2) (hrest : (rest.map fun v => v.category).sum ≤ 8) (hR : gF X rm 4 k n) (he : M[o]? = some (.inr (10, fs))) (hlen : ∀ r M', post r M' → M'.length = M.length) (kk : ∀ r M', post r M' → gg X M' (k + rm.cells) (n + rm.slots) (pc + 3) L (r.toList ++ rest)) : gg X M k n pc L st := g_callV ok (C := RMo) (T := TMo) (N := 59) hM i_Mo_cell ml_La_102 wn_Mo_cell ws_Mo_cell wi_Mo ⟨rfl, by decide, by decide, by rw [hn]; decide +kernel⟩ rfl hd hst hrest hR he hlen kk
theorem ml_La_105 : Cond.methodLink "TripleStoreLaw" 105 y_Mo_count ∈ gT := gT_at 1386 (by decide +kernel) (by decide +kernel)
theorem wn_Mo_count : Cond.instanceMethod y_Mo_count ∈ gT := gT_at 1387 (by decide +kernel) (by decide +kernel)
theorem ws_Mo_count : Cond.selects "TripleStoreModel" y_Mo_count y_Mo_count ∈ gT := gT_at 1388 (by decide +kernel) (by decide +kernel)
theorem gc_La_105 {X : gC} {cc : ByteArray} {M : List mC} {k n pc : Nat} {L : List (Nat × Value)} {st rest : List Value} {y0 : MethodName} {b0 : ByteArray} {nl0 : Nat} {ret0 : Option FieldType} {rm : Room} {As : List Value} {post : Option Value → List mC → Prop} {o : Nat} {fs : List Value} (ok : gO X cc "TripleStoreLaw" (wsM y0 b0 nl0 ret0)) (hd : decode cc pc = .ok (.invokevirtual 105, 3)) (hM : mm_ (gLa X) y_Mo_count w_Mo_count rm (.ref o :: As) M post) (hst : As.reverse ++ .ref o :: rest = st) (hn : As.length = 1) (hrest : (rest.map fun v => v.category).sum ≤ 8) (hR : gF X rm 2 k n) (he : M[o]? = some (.inr (10, fs))) (hlen : ∀ r M', post r M' → M'.length = M.length) (kk : ∀ r M', post r M' → gg X M' (k + rm.cells) (n + rm.slots) (pc + 3) L (r.toList ++ rest)) : gg X M k n pc L st := g_callV ok (C := RMo) (T := TMo) (N := 59) hM i_Mo_count ml_La_105 wn_Mo_count ws_Mo_count wi_Mo ⟨rfl, by decide, by decide, by rw [hn]; decide +kernel⟩ rfl hd hst hrest hR he hlen kk
theorem ml_TS_11 : Cond.methodLinkNest "TripleStore" 11 y_St_init "TripleStore" ∈ yT := yT_at 33 (by decide +kernel) (by decide +kernel)
theorem wn_St_init : Cond.instanceMethod y_St_init ∈ gT := gT_at 34 (by decide +kernel) (by decide +kernel)
theorem gc_TS_11 {X : gC} {cc : ByteArray} {M : List mC} {k n pc : Nat} {L : List (Nat × Value)} {st rest : List Value} {y0 : MethodName} {b0 : ByteArray} {nl0 : Nat} {ret0 : Option FieldType} {rm : Room} {As : List Value} {post : Option Value → List mC → Prop} {o : Nat} (ok : gO X cc "TripleStore" (wsM y0 b0 nl0 ret0)) (hd : decode cc pc = .ok (.invokespecial 11, 3)) (hM : mm_ (gLa X) y_St_init w_St_init rm (.ref o :: As) M post) (hst : As.reverse ++ .ref o :: rest = st) (hn : As.length = 0) (hrest : (rest.map fun v => v.category).sum ≤ 8) (hR : gF X rm 1 k n) (hL : ∀ q ∈ L, mk_v M.length q.2) (hrs : ∀ v ∈ rest, mk_v M.length v) (kk : ∀ r M', post r M' → gg X M' (k + rm.cells) (n + rm.slots) (pc + 3) L (r.toList ++ rest)) : gg X M k n pc L st := g_callIN ok (host := "TripleStore") hM i_St_init ml_TS_11 wn_St_init wi_St rfl ⟨by decide, by decide, by rw [hn]; decide +kernel⟩ hd hst hrest hR hL hrs kk
theorem ml_TS_22 : Cond.methodLinkNest "TripleStore" 22 y_To_init "TripleStore" ∈ yT := yT_at 86 (by decide +kernel) (by decide +kernel)
theorem wn_To_init : Cond.instanceMethod y_To_init ∈ gT := gT_at 87 (by decide +kernel) (by decide +kernel)
theorem gc_TS_22 {X : gC} {cc : ByteArray} {M : List mC} {k n pc : Nat} {L : List (Nat × Value)} {st rest : List Value} {y0 : MethodName} {b0 : ByteArray} {nl0 : Nat} {ret0 : Option FieldType} {rm : Room} {As : List Value} {post : Option Value → List mC → Prop} {o : Nat} (ok : gO X cc "TripleStore" (wsM y0 b0 nl0 ret0)) (hd : decode cc pc = .ok (.invokespecial 22, 3)) (hM : mm_ (gLa X) y_To_init w_To_init rm (.ref o :: As) M post) (hst : As.reverse ++ .ref o :: rest = st) (hn : As.length = 0) (hrest : (rest.map fun v => v.category).sum ≤ 8) (hR : gF X rm 1 k n) (hL : ∀ q ∈ L, mk_v M.length q.2) (hrs : ∀ v ∈ rest, mk_v M.length v) (kk : ∀ r M', post r M' → gg X M' (k + rm.cells) (n + rm.slots) (pc + 3) L (r.toList ++ rest)) : gg X M k n pc L st := g_callIN ok (host := "TripleStore") hM i_To_init ml_TS_22 wn_To_init wi_To rfl ⟨by decide, by decide, by rw [hn]; decide +kernel⟩ hd hst hrest hR hL hrs kk
theorem ml_Qu_54 : Cond.methodLinkNest "TripleStore$Query" 54 y_El_init "TripleStore" ∈ yT := yT_at 116 (by decide +kernel) (by decide +kernel)
theorem wi_El : Cond.initialized "TripleStore$Element" ∈ gT := gT_at 6 (by decide +kernel) (by decide +kernel)
theorem wn_El_init : Cond.instanceMethod y_El_init ∈ gT := gT_at 117 (by decide +kernel) (by decide +kernel)
theorem gc_Qu_54 {X : gC} {cc : ByteArray} {M : List mC} {k n pc : Nat} {L : List (Nat × Value)} {st rest : List Value} {y0 : MethodName} {b0 : ByteArray} {nl0 : Nat} {ret0 : Option FieldType} {rm : Room} {As : List Value} {post : Option Value → List mC → Prop} {o : Nat} (ok : gO X cc "TripleStore$Query" (wsM y0 b0 nl0 ret0)) (hd : decode cc pc = .ok (.invokespecial 54, 3)) (hM : mm_ (gLa X) y_El_init w_El_init rm (.ref o :: As) M post) (hst : As.reverse ++ .ref o :: rest = st) (hn : As.length = 0) (hrest : (rest.map fun v => v.category).sum ≤ 8) (hR : gF X rm 1 k n) (hL : ∀ q ∈ L, mk_v M.length q.2) (hrs : ∀ v ∈ rest, mk_v M.length v) (kk : ∀ r M', post r M' → gg X M' (k + rm.cells) (n + rm.slots) (pc + 3) L (r.toList ++ rest)) : gg X M k n pc L st := g_callIN ok (host := "TripleStore") hM i_El_init ml_Qu_54 wn_El_init wi_El rfl ⟨by decide, by decide, by rw [hn]; decide +kernel⟩ hd hst hrest hR hL hrs kk
theorem ml_Sv_32 : Cond.methodLinkNest "TripleStore$Solver" 32 y_So_init "TripleStore" ∈ yT := yT_at 235 (by decide +kernel) (by decide +kernel)
theorem wn_So_init : Cond.instanceMethod y_So_init ∈ gT := gT_at 236 (by decide +kernel) (by decide +kernel)
theorem gc_Sv_32 {X : gC} {cc : ByteArray} {M : List mC} {k n pc : Nat} {L : List (Nat × Value)} {st rest : List Value} {y0 : MethodName} {b0 : ByteArray} {nl0 : Nat} {ret0 : Option FieldType} {rm : Room} {As : List Value} {post : Option Value → List mC → Prop} {o : Nat} (ok : gO X cc "TripleStore$Solver" (wsM y0 b0 nl0 ret0)) (hd : decode cc pc = .ok (.invokespecial 32, 3)) (hM : mm_ (gLa X) y_So_init w_So_init rm (.ref o :: As) M post) (hst : As.reverse ++ .ref o :: rest = st) (hn : As.length = 0) (hrest : (rest.map fun v => v.category).sum ≤ 8) (hR : gF X rm 1 k n) (hL : ∀ q ∈ L, mk_v M.length q.2) (hrs : ∀ v ∈ rest, mk_v M.length v) (kk : ∀ r M', post r M' → gg X M' (k + rm.cells) (n + rm.slots) (pc + 3) L (r.toList ++ rest)) : gg X M k n pc L st := g_callIN ok (host := "TripleStore") hM i_So_init ml_Sv_32 wn_So_init wi_So rfl ⟨by decide, by decide, by rw [hn]; decide +kernel⟩ hd hst hrest hR hL hrs kk
theorem ml_TS_54 : Cond.methodLinkNest "TripleStore" 54 y_Ro_init "TripleStore" ∈ yT := yT_at 264 (by decide +kernel) (by decide +kernel)
theorem wn_Ro_init : Cond.instanceMethod y_Ro_init ∈ gT := gT_at 265 (by decide +kernel) (by decide +kernel)
theorem gc_TS_54 {X : gC} {cc : ByteArray} {M : List mC} {k n pc : Nat} {L : List (Nat × Value)} {st rest : List Value} {y0 : MethodName} {b0 : ByteArray} {nl0 : Nat} {ret0 : Option FieldType} {rm : Room} {As : List Value} {post : Option Value → List mC → Prop} {o : Nat} (ok : gO X cc "TripleStore" (wsM y0 b0 nl0 ret0)) (hd : decode cc pc = .ok (.invokespecial 54, 3)) (hM : mm_ (gLa X) y_Ro_init w_Ro_init rm (.ref o :: As) M post) (hst : As.reverse ++ .ref o :: rest = st) (hn : As.length = 0) (hrest : (rest.map fun v => v.category).sum ≤ 8) (hR : gF X rm 1 k n) (hL : ∀ q ∈ L, mk_v M.length q.2) (hrs : ∀ v ∈ rest, mk_v M.length v) (kk : ∀ r M', post r M' → gg X M' (k + rm.cells) (n + rm.slots) (pc + 3) L (r.toList ++ rest)) : gg X M k n pc L st := g_callIN ok (host := "TripleStore") hM i_Ro_init ml_TS_54 wn_Ro_init wi_Ro rfl ⟨by decide, by decide, by rw [hn]; decide +kernel⟩ hd hst hrest hR hL hrs kk
end
section
theorem d_El_init_0 : decode c_El_init 0 = .ok (.aload_n 0, 1) := by decide +kernel
theorem d_El_init_1 : decode c_El_init 1 = .ok (.invokespecial 3, 3) := by decide +kernel
theorem d_El_init_4 : decode c_El_init 4 = .ok (.aload_n 0, 1) := by decide +kernel
theorem d_El_init_5 : decode c_El_init 5 = .ok (.iconst 0, 1) := by decide +kernel
theorem d_El_init_6 : decode c_El_init 6 = .ok (.putfield 11, 3) := by decide +kernel
theorem d_El_init_9 : decode c_El_init 9 = .ok (.aload_n 0, 1) := by decide +kernel
theorem d_El_init_10 : decode c_El_init 10 = .ok (.iconst 0, 1) := by decide +kernel
theorem d_El_init_11 : decode c_El_init 11 = .ok (.putfield 15, 3) := by decide +kernel
theorem d_El_init_14 : decode c_El_init 14 = .ok (.aload_n 0, 1) := by decide +kernel
theorem d_El_init_15 : decode c_El_init 15 = .ok (.lconst 0, 1) := by decide +kernel
theorem d_El_init_16 : decode c_El_init 16 = .ok (.putfield 18, 3) := by decide +kernel
theorem d_El_init_19 : decode c_El_init 19 = .ok (.aload_n 0, 1) := by decide +kernel
theorem d_El_init_20 : decode c_El_init 20 = .ok (.lconst 0, 1) := by decide +kernel
theorem d_El_init_21 : decode c_El_init 21 = .ok (.putfield 22, 3) := by decide +kernel
theorem d_El_init_24 : decode c_El_init 24 = .ok (.aload_n 0, 1) := by decide +kernel
theorem d_El_init_25 : decode c_El_init 25 = .ok (.lconst 0, 1) := by decide +kernel
theorem d_El_init_26 : decode c_El_init 26 = .ok (.putfield 25, 3) := by decide +kernel
theorem d_El_init_29 : decode c_El_init 29 = .ok (.aload_n 0, 1) := by decide +kernel
theorem d_El_init_30 : decode c_El_init 30 = .ok (.iconst 0, 1) := by decide +kernel
theorem d_El_init_31 : decode c_El_init 31 = .ok (.putfield 28, 3) := by decide +kernel
theorem d_El_init_34 : decode c_El_init 34 = .ok (.aload_n 0, 1) := by decide +kernel
theorem d_El_init_35 : decode c_El_init 35 = .ok (.iconst 0, 1) := by decide +kernel
theorem d_El_init_36 : decode c_El_init 36 = .ok (.putfield 31, 3) := by decide +kernel
theorem d_El_init_39 : decode c_El_init 39 = .ok (.return_, 1) := by decide +kernel
theorem d_So_init_0 : decode c_So_init 0 = .ok (.aload_n 0, 1) := by decide +kernel
theorem d_So_init_1 : decode c_So_init 1 = .ok (.invokespecial 3, 3) := by decide +kernel
theorem d_So_init_4 : decode c_So_init 4 = .ok (.aload_n 0, 1) := by decide +kernel
theorem d_So_init_5 : decode c_So_init 5 = .ok (.sipush 900, 3) := by decide +kernel
theorem d_So_init_8 : decode c_So_init 8 = .ok (.newarray .long, 2) := by decide +kernel
theorem d_So_init_10 : decode c_So_init 10 = .ok (.putfield 9, 3) := by decide +kernel
theorem d_So_init_13 : decode c_So_init 13 = .ok (.aload_n 0, 1) := by decide +kernel
theorem d_So_init_14 : decode c_So_init 14 = .ok (.iconst 0, 1) := by decide +kernel
theorem d_So_init_15 : decode c_So_init 15 = .ok (.putfield 15, 3) := by decide +kernel
theorem d_So_init_18 : decode c_So_init 18 = .ok (.return_, 1) := by decide +kernel
theorem d_So_size_0 : decode c_So_size 0 = .ok (.aload_n 0, 1) := by decide +kernel
theorem d_So_size_1 : decode c_So_size 1 = .ok (.getfield 15, 3) := by decide +kernel
theorem d_So_size_4 : decode c_So_size 4 = .ok (.ireturn, 1) := by decide +kernel
theorem d_So_clear_0 : decode c_So_clear 0 = .ok (.aload_n 0, 1) := by decide +kernel
theorem d_So_clear_1 : decode c_So_clear 1 = .ok (.iconst 0, 1) := by decide +kernel
theorem d_So_clear_2 : decode c_So_clear 2 = .ok (.putfield 15, 3) := by decide +kernel
theorem d_So_clear_5 : decode c_So_clear 5 = .ok (.return_, 1) := by decide +kernel
theorem d_So_term_0 : decode c_So_term 0 = .ok (.iload_n 1, 1) := by decide +kernel
theorem d_So_term_1 : decode c_So_term 1 = .ok (.ifCond .lt 21, 3) := by decide +kernel
theorem d_So_term_4 : decode c_So_term 4 = .ok (.iload_n 1, 1) := by decide +kernel
theorem d_So_term_5 : decode c_So_term 5 = .ok (.aload_n 0, 1) := by decide +kernel
theorem d_So_term_6 : decode c_So_term 6 = .ok (.getfield 15, 3) := by decide +kernel
theorem d_So_term_9 : decode c_So_term 9 = .ok (.if_icmp .ge 13, 3) := by decide +kernel
theorem d_So_term_12 : decode c_So_term 12 = .ok (.iload_n 2, 1) := by decide +kernel
theorem d_So_term_13 : decode c_So_term 13 = .ok (.ifCond .lt 9, 3) := by decide +kernel
theorem d_So_term_16 : decode c_So_term 16 = .ok (.iload_n 2, 1) := by decide +kernel
theorem d_So_term_17 : decode c_So_term 17 = .ok (.bipush 6, 2) := by decide +kernel
theorem d_So_term_19 : decode c_So_term 19 = .ok (.if_icmp .lt 5, 3) := by decide +kernel
theorem d_So_term_22 : decode c_So_term 22 = .ok (.lconst 0, 1) := by decide +kernel
theorem d_So_term_23 : decode c_So_term 23 = .ok (.lreturn, 1) := by decide +kernel
theorem d_So_term_24 : decode c_So_term 24 = .ok (.aload_n 0, 1) := by decide +kernel
theorem d_So_term_25 : decode c_So_term 25 = .ok (.getfield 9, 3) := by decide +kernel
theorem d_So_term_28 : decode c_So_term 28 = .ok (.iload_n 1, 1) := by decide +kernel
theorem d_So_term_29 : decode c_So_term 29 = .ok (.bipush 6, 2) := by decide +kernel
theorem d_So_term_31 : decode c_So_term 31 = .ok (.imul, 1) := by decide +kernel
theorem d_So_term_32 : decode c_So_term 32 = .ok (.iload_n 2, 1) := by decide +kernel
theorem d_So_term_33 : decode c_So_term 33 = .ok (.iadd, 1) := by decide +kernel
theorem d_So_term_34 : decode c_So_term 34 = .ok (.laload, 1) := by decide +kernel
theorem d_So_term_35 : decode c_So_term 35 = .ok (.lreturn, 1) := by decide +kernel
theorem d_So_put_0 : decode c_So_put 0 = .ok (.aload_n 0, 1) := by decide +kernel
theorem d_So_put_1 : decode c_So_put 1 = .ok (.getfield 15, 3) := by decide +kernel
theorem d_So_put_4 : decode c_So_put 4 = .ok (.sipush 150, 3) := by decide +kernel
theorem d_So_put_7 : decode c_So_put 7 = .ok (.if_icmp .lt 5, 3) := by decide +kernel
theorem d_So_put_10 : decode c_So_put 10 = .ok (.iconst 0, 1) := by decide +kernel
theorem d_So_put_11 : decode c_So_put 11 = .ok (.ireturn, 1) := by decide +kernel
theorem d_So_put_12 : decode c_So_put 12 = .ok (.aload_n 1, 1) := by decide +kernel
theorem d_So_put_13 : decode c_So_put 13 = .ok (.iconst 0, 1) := by decide +kernel
theorem d_So_put_14 : decode c_So_put 14 = .ok (.aload_n 0, 1) := by decide +kernel
theorem d_So_put_15 : decode c_So_put 15 = .ok (.getfield 9, 3) := by decide +kernel
theorem d_So_put_18 : decode c_So_put 18 = .ok (.aload_n 0, 1) := by decide +kernel
theorem d_So_put_19 : decode c_So_put 19 = .ok (.getfield 15, 3) := by decide +kernel
theorem d_So_put_22 : decode c_So_put 22 = .ok (.bipush 6, 2) := by decide +kernel
theorem d_So_put_24 : decode c_So_put 24 = .ok (.imul, 1) := by decide +kernel
theorem d_So_put_25 : decode c_So_put 25 = .ok (.bipush 6, 2) := by decide +kernel
theorem d_So_put_27 : decode c_So_put 27 = .ok (.invokestatic 21, 3) := by decide +kernel
theorem d_So_put_30 : decode c_So_put 30 = .ok (.aload_n 0, 1) := by decide +kernel
theorem d_So_put_31 : decode c_So_put 31 = .ok (.dup, 1) := by decide +kernel
theorem d_So_put_32 : decode c_So_put 32 = .ok (.getfield 15, 3) := by decide +kernel
theorem d_So_put_35 : decode c_So_put 35 = .ok (.iconst 1, 1) := by decide +kernel
theorem d_So_put_36 : decode c_So_put 36 = .ok (.iadd, 1) := by decide +kernel
theorem d_So_put_37 : decode c_So_put 37 = .ok (.putfield 15, 3) := by decide +kernel
theorem d_So_put_40 : decode c_So_put 40 = .ok (.iconst 1, 1) := by decide +kernel
theorem d_So_put_41 : decode c_So_put 41 = .ok (.ireturn, 1) := by decide +kernel
theorem d_So_copy_0 : decode c_So_copy 0 = .ok (.iload_n 1, 1) := by decide +kernel
theorem d_So_copy_1 : decode c_So_copy 1 = .ok (.ifCond .lt 26, 3) := by decide +kernel
theorem d_So_copy_4 : decode c_So_copy 4 = .ok (.iload_n 1, 1) := by decide +kernel
theorem d_So_copy_5 : decode c_So_copy 5 = .ok (.aload_n 0, 1) := by decide +kernel
theorem d_So_copy_6 : decode c_So_copy 6 = .ok (.getfield 15, 3) := by decide +kernel
theorem d_So_copy_9 : decode c_So_copy 9 = .ok (.if_icmp .ge 18, 3) := by decide +kernel
theorem d_So_copy_12 : decode c_So_copy 12 = .ok (.aload_n 0, 1) := by decide +kernel
theorem d_So_copy_13 : decode c_So_copy 13 = .ok (.getfield 9, 3) := by decide +kernel
theorem d_So_copy_16 : decode c_So_copy 16 = .ok (.iload_n 1, 1) := by decide +kernel
theorem d_So_copy_17 : decode c_So_copy 17 = .ok (.bipush 6, 2) := by decide +kernel
theorem d_So_copy_19 : decode c_So_copy 19 = .ok (.imul, 1) := by decide +kernel
theorem d_So_copy_20 : decode c_So_copy 20 = .ok (.aload_n 2, 1) := by decide +kernel
theorem d_So_copy_21 : decode c_So_copy 21 = .ok (.iconst 0, 1) := by decide +kernel
theorem d_So_copy_22 : decode c_So_copy 22 = .ok (.bipush 6, 2) := by decide +kernel
theorem d_So_copy_24 : decode c_So_copy 24 = .ok (.invokestatic 21, 3) := by decide +kernel
theorem d_So_copy_27 : decode c_So_copy 27 = .ok (.return_, 1) := by decide +kernel
theorem d_So_joinInto_0 : decode c_So_joinInto 0 = .ok (.iconst 0, 1) := by decide +kernel
theorem d_So_joinInto_1 : decode c_So_joinInto 1 = .ok (.istore_n 3, 1) := by decide +kernel
theorem d_So_joinInto_2 : decode c_So_joinInto 2 = .ok (.iload_n 3, 1) := by decide +kernel
theorem d_So_joinInto_3 : decode c_So_joinInto 3 = .ok (.bipush 6, 2) := by decide +kernel
theorem d_So_joinInto_5 : decode c_So_joinInto 5 = .ok (.if_icmp .ge 51, 3) := by decide +kernel
theorem d_So_joinInto_8 : decode c_So_joinInto 8 = .ok (.aload_n 0, 1) := by decide +kernel
theorem d_So_joinInto_9 : decode c_So_joinInto 9 = .ok (.iload_n 1, 1) := by decide +kernel
theorem d_So_joinInto_10 : decode c_So_joinInto 10 = .ok (.iload_n 3, 1) := by decide +kernel
theorem d_So_joinInto_11 : decode c_So_joinInto 11 = .ok (.invokevirtual 27, 3) := by decide +kernel
theorem d_So_joinInto_14 : decode c_So_joinInto 14 = .ok (.lstore 4, 2) := by decide +kernel
theorem d_So_joinInto_16 : decode c_So_joinInto 16 = .ok (.aload_n 2, 1) := by decide +kernel
theorem d_So_joinInto_17 : decode c_So_joinInto 17 = .ok (.iload_n 3, 1) := by decide +kernel
theorem d_So_joinInto_18 : decode c_So_joinInto 18 = .ok (.laload, 1) := by decide +kernel
theorem d_So_joinInto_19 : decode c_So_joinInto 19 = .ok (.lconst 0, 1) := by decide +kernel
theorem d_So_joinInto_20 : decode c_So_joinInto 20 = .ok (.lcmp, 1) := by decide +kernel
theorem d_So_joinInto_21 : decode c_So_joinInto 21 = .ok (.ifCond .ne 11, 3) := by decide +kernel
theorem d_So_joinInto_24 : decode c_So_joinInto 24 = .ok (.aload_n 2, 1) := by decide +kernel
theorem d_So_joinInto_25 : decode c_So_joinInto 25 = .ok (.iload_n 3, 1) := by decide +kernel
theorem d_So_joinInto_26 : decode c_So_joinInto 26 = .ok (.lload 4, 2) := by decide +kernel
theorem d_So_joinInto_28 : decode c_So_joinInto 28 = .ok (.lastore, 1) := by decide +kernel
theorem d_So_joinInto_29 : decode c_So_joinInto 29 = .ok (.goto 21, 3) := by decide +kernel
theorem d_So_joinInto_32 : decode c_So_joinInto 32 = .ok (.lload 4, 2) := by decide +kernel
theorem d_So_joinInto_34 : decode c_So_joinInto 34 = .ok (.lconst 0, 1) := by decide +kernel
theorem d_So_joinInto_35 : decode c_So_joinInto 35 = .ok (.lcmp, 1) := by decide +kernel
theorem d_So_joinInto_36 : decode c_So_joinInto 36 = .ok (.ifCond .eq 14, 3) := by decide +kernel
theorem d_So_joinInto_39 : decode c_So_joinInto 39 = .ok (.lload 4, 2) := by decide +kernel
theorem d_So_joinInto_41 : decode c_So_joinInto 41 = .ok (.aload_n 2, 1) := by decide +kernel
theorem d_So_joinInto_42 : decode c_So_joinInto 42 = .ok (.iload_n 3, 1) := by decide +kernel
theorem d_So_joinInto_43 : decode c_So_joinInto 43 = .ok (.laload, 1) := by decide +kernel
theorem d_So_joinInto_44 : decode c_So_joinInto 44 = .ok (.lcmp, 1) := by decide +kernel
theorem d_So_joinInto_45 : decode c_So_joinInto 45 = .ok (.ifCond .eq 5, 3) := by decide +kernel
theorem d_So_joinInto_48 : decode c_So_joinInto 48 = .ok (.iconst 0, 1) := by decide +kernel
theorem d_So_joinInto_49 : decode c_So_joinInto 49 = .ok (.ireturn, 1) := by decide +kernel
theorem d_So_joinInto_50 : decode c_So_joinInto 50 = .ok (.iinc 3 1, 3) := by decide +kernel
theorem d_So_joinInto_53 : decode c_So_joinInto 53 = .ok (.goto (-51), 3) := by decide +kernel
theorem d_So_joinInto_56 : decode c_So_joinInto 56 = .ok (.iconst 1, 1) := by decide +kernel
theorem d_So_joinInto_57 : decode c_So_joinInto 57 = .ok (.ireturn, 1) := by decide +kernel
theorem d_So_sharesVariable_0 : decode c_So_sharesVariable 0 = .ok (.iconst 0, 1) := by decide +kernel
theorem d_So_sharesVariable_1 : decode c_So_sharesVariable 1 = .ok (.istore_n 3, 1) := by decide +kernel
theorem d_So_sharesVariable_2 : decode c_So_sharesVariable 2 = .ok (.iload_n 3, 1) := by decide +kernel
theorem d_So_sharesVariable_3 : decode c_So_sharesVariable 3 = .ok (.bipush 6, 2) := by decide +kernel
theorem d_So_sharesVariable_5 : decode c_So_sharesVariable 5 = .ok (.if_icmp .ge 30, 3) := by decide +kernel
theorem d_So_sharesVariable_8 : decode c_So_sharesVariable 8 = .ok (.aload_n 2, 1) := by decide +kernel
theorem d_So_sharesVariable_9 : decode c_So_sharesVariable 9 = .ok (.iload_n 3, 1) := by decide +kernel
theorem d_So_sharesVariable_10 : decode c_So_sharesVariable 10 = .ok (.laload, 1) := by decide +kernel
theorem d_So_sharesVariable_11 : decode c_So_sharesVariable 11 = .ok (.lconst 0, 1) := by decide +kernel
theorem d_So_sharesVariable_12 : decode c_So_sharesVariable 12 = .ok (.lcmp, 1) := by decide +kernel
theorem d_So_sharesVariable_13 : decode c_So_sharesVariable 13 = .ok (.ifCond .eq 16, 3) := by decide +kernel
theorem d_So_sharesVariable_16 : decode c_So_sharesVariable 16 = .ok (.aload_n 0, 1) := by decide +kernel
theorem d_So_sharesVariable_17 : decode c_So_sharesVariable 17 = .ok (.iload_n 1, 1) := by decide +kernel
theorem d_So_sharesVariable_18 : decode c_So_sharesVariable 18 = .ok (.iload_n 3, 1) := by decide +kernel
theorem d_So_sharesVariable_19 : decode c_So_sharesVariable 19 = .ok (.invokevirtual 27, 3) := by decide +kernel
theorem d_So_sharesVariable_22 : decode c_So_sharesVariable 22 = .ok (.lconst 0, 1) := by decide +kernel
theorem d_So_sharesVariable_23 : decode c_So_sharesVariable 23 = .ok (.lcmp, 1) := by decide +kernel
theorem d_So_sharesVariable_24 : decode c_So_sharesVariable 24 = .ok (.ifCond .eq 5, 3) := by decide +kernel
theorem d_So_sharesVariable_27 : decode c_So_sharesVariable 27 = .ok (.iconst 1, 1) := by decide +kernel
theorem d_So_sharesVariable_28 : decode c_So_sharesVariable 28 = .ok (.ireturn, 1) := by decide +kernel
theorem d_So_sharesVariable_29 : decode c_So_sharesVariable 29 = .ok (.iinc 3 1, 3) := by decide +kernel
theorem d_So_sharesVariable_32 : decode c_So_sharesVariable 32 = .ok (.goto (-30), 3) := by decide +kernel
theorem d_So_sharesVariable_35 : decode c_So_sharesVariable 35 = .ok (.iconst 0, 1) := by decide +kernel
theorem d_So_sharesVariable_36 : decode c_So_sharesVariable 36 = .ok (.ireturn, 1) := by decide +kernel
theorem d_St_init_0 : decode c_St_init 0 = .ok (.aload_n 0, 1) := by decide +kernel
theorem d_St_init_1 : decode c_St_init 1 = .ok (.invokespecial 3, 3) := by decide +kernel
theorem d_St_init_4 : decode c_St_init 4 = .ok (.aload_n 0, 1) := by decide +kernel
theorem d_St_init_5 : decode c_St_init 5 = .ok (.new 9, 3) := by decide +kernel
theorem d_St_init_8 : decode c_St_init 8 = .ok (.dup, 1) := by decide +kernel
theorem d_St_init_9 : decode c_St_init 9 = .ok (.bipush 48, 2) := by decide +kernel
theorem d_St_init_11 : decode c_St_init 11 = .ok (.invokespecial 11, 3) := by decide +kernel
theorem d_St_init_14 : decode c_St_init 14 = .ok (.putfield 14, 3) := by decide +kernel
theorem d_St_init_17 : decode c_St_init 17 = .ok (.aload_n 0, 1) := by decide +kernel
theorem d_St_init_18 : decode c_St_init 18 = .ok (.new 9, 3) := by decide +kernel
theorem d_St_init_21 : decode c_St_init 21 = .ok (.dup, 1) := by decide +kernel
theorem d_St_init_22 : decode c_St_init 22 = .ok (.sipush 512, 3) := by decide +kernel
theorem d_St_init_25 : decode c_St_init 25 = .ok (.invokespecial 11, 3) := by decide +kernel
theorem d_St_init_28 : decode c_St_init 28 = .ok (.putfield 20, 3) := by decide +kernel
theorem d_St_init_31 : decode c_St_init 31 = .ok (.aload_n 0, 1) := by decide +kernel
theorem d_St_init_32 : decode c_St_init 32 = .ok (.sipush 512, 3) := by decide +kernel
theorem d_St_init_35 : decode c_St_init 35 = .ok (.newarray .boolean, 2) := by decide +kernel
theorem d_St_init_37 : decode c_St_init 37 = .ok (.putfield 23, 3) := by decide +kernel
theorem d_St_init_40 : decode c_St_init 40 = .ok (.aload_n 0, 1) := by decide +kernel
theorem d_St_init_41 : decode c_St_init 41 = .ok (.sipush 512, 3) := by decide +kernel
theorem d_St_init_44 : decode c_St_init 44 = .ok (.newarray .int, 2) := by decide +kernel
theorem d_St_init_46 : decode c_St_init 46 = .ok (.putfield 27, 3) := by decide +kernel
theorem d_St_init_49 : decode c_St_init 49 = .ok (.aload_n 0, 1) := by decide +kernel
theorem d_St_init_50 : decode c_St_init 50 = .ok (.iconst 0, 1) := by decide +kernel
theorem d_St_init_51 : decode c_St_init 51 = .ok (.putfield 31, 3) := by decide +kernel
theorem d_St_init_54 : decode c_St_init 54 = .ok (.aload_n 0, 1) := by decide +kernel
theorem d_St_init_55 : decode c_St_init 55 = .ok (.iconst 0, 1) := by decide +kernel
theorem d_St_init_56 : decode c_St_init 56 = .ok (.putfield 35, 3) := by decide +kernel
theorem d_St_init_59 : decode c_St_init 59 = .ok (.aload_n 0, 1) := by decide +kernel
theorem d_St_init_60 : decode c_St_init 60 = .ok (.iconst 0, 1) := by decide +kernel
theorem d_St_init_61 : decode c_St_init 61 = .ok (.putfield 39, 3) := by decide +kernel
theorem d_St_init_64 : decode c_St_init 64 = .ok (.aload_n 0, 1) := by decide +kernel
theorem d_St_init_65 : decode c_St_init 65 = .ok (.iconst 0, 1) := by decide +kernel
theorem d_St_init_66 : decode c_St_init 66 = .ok (.putfield 42, 3) := by decide +kernel
theorem d_St_init_69 : decode c_St_init 69 = .ok (.return_, 1) := by decide +kernel
theorem d_St_size_0 : decode c_St_size 0 = .ok (.aload_n 0, 1) := by decide +kernel
theorem d_St_size_1 : decode c_St_size 1 = .ok (.getfield 14, 3) := by decide +kernel
theorem d_St_size_4 : decode c_St_size 4 = .ok (.invokevirtual 45, 3) := by decide +kernel
theorem d_St_size_7 : decode c_St_size 7 = .ok (.ireturn, 1) := by decide +kernel
theorem d_St_isOpen_0 : decode c_St_isOpen 0 = .ok (.aload_n 0, 1) := by decide +kernel
theorem d_St_isOpen_1 : decode c_St_isOpen 1 = .ok (.getfield 31, 3) := by decide +kernel
theorem d_St_isOpen_4 : decode c_St_isOpen 4 = .ok (.ireturn, 1) := by decide +kernel
theorem d_St_changes_0 : decode c_St_changes 0 = .ok (.aload_n 0, 1) := by decide +kernel
theorem d_St_changes_1 : decode c_St_changes 1 = .ok (.getfield 35, 3) := by decide +kernel
theorem d_St_changes_4 : decode c_St_changes 4 = .ok (.ireturn, 1) := by decide +kernel
theorem d_St_committed_0 : decode c_St_committed 0 = .ok (.aload_n 0, 1) := by decide +kernel
theorem d_St_committed_1 : decode c_St_committed 1 = .ok (.getfield 39, 3) := by decide +kernel
theorem d_St_committed_4 : decode c_St_committed 4 = .ok (.ireturn, 1) := by decide +kernel
theorem d_St_unsynced_0 : decode c_St_unsynced 0 = .ok (.aload_n 0, 1) := by decide +kernel
theorem d_St_unsynced_1 : decode c_St_unsynced 1 = .ok (.getfield 42, 3) := by decide +kernel
theorem d_St_unsynced_4 : decode c_St_unsynced 4 = .ok (.ireturn, 1) := by decide +kernel
theorem d_St_has_0 : decode c_St_has 0 = .ok (.aload_n 0, 1) := by decide +kernel
theorem d_St_has_1 : decode c_St_has 1 = .ok (.getfield 14, 3) := by decide +kernel
theorem d_St_has_4 : decode c_St_has 4 = .ok (.lload_n 1, 1) := by decide +kernel
theorem d_St_has_5 : decode c_St_has 5 = .ok (.lload_n 3, 1) := by decide +kernel
theorem d_St_has_6 : decode c_St_has 6 = .ok (.lload 5, 2) := by decide +kernel
theorem d_St_has_8 : decode c_St_has 8 = .ok (.invokevirtual 49, 3) := by decide +kernel
theorem d_St_has_11 : decode c_St_has 11 = .ok (.ifCond .lt 7, 3) := by decide +kernel
theorem d_St_has_14 : decode c_St_has 14 = .ok (.iconst 1, 1) := by decide +kernel
theorem d_St_has_15 : decode c_St_has 15 = .ok (.goto 4, 3) := by decide +kernel
theorem d_St_has_18 : decode c_St_has 18 = .ok (.iconst 0, 1) := by decide +kernel
theorem d_St_has_19 : decode c_St_has 19 = .ok (.ireturn, 1) := by decide +kernel
theorem d_St_subject_0 : decode c_St_subject 0 = .ok (.aload_n 0, 1) := by decide +kernel
theorem d_St_subject_1 : decode c_St_subject 1 = .ok (.getfield 14, 3) := by decide +kernel
theorem d_St_subject_4 : decode c_St_subject 4 = .ok (.iload_n 1, 1) := by decide +kernel
theorem d_St_subject_5 : decode c_St_subject 5 = .ok (.invokevirtual 53, 3) := by decide +kernel
theorem d_St_subject_8 : decode c_St_subject 8 = .ok (.lreturn, 1) := by decide +kernel
theorem d_St_predicate_0 : decode c_St_predicate 0 = .ok (.aload_n 0, 1) := by decide +kernel
theorem d_St_predicate_1 : decode c_St_predicate 1 = .ok (.getfield 14, 3) := by decide +kernel
theorem d_St_predicate_4 : decode c_St_predicate 4 = .ok (.iload_n 1, 1) := by decide +kernel
theorem d_St_predicate_5 : decode c_St_predicate 5 = .ok (.invokevirtual 57, 3) := by decide +kernel
theorem d_St_predicate_8 : decode c_St_predicate 8 = .ok (.lreturn, 1) := by decide +kernel
theorem d_St_object_0 : decode c_St_object 0 = .ok (.aload_n 0, 1) := by decide +kernel
theorem d_St_object_1 : decode c_St_object 1 = .ok (.getfield 14, 3) := by decide +kernel
theorem d_St_object_4 : decode c_St_object 4 = .ok (.iload_n 1, 1) := by decide +kernel
theorem d_St_object_5 : decode c_St_object 5 = .ok (.invokevirtual 60, 3) := by decide +kernel
theorem d_St_object_8 : decode c_St_object 8 = .ok (.lreturn, 1) := by decide +kernel
theorem d_St_insert_0 : decode c_St_insert 0 = .ok (.aload_n 0, 1) := by decide +kernel
theorem d_St_insert_1 : decode c_St_insert 1 = .ok (.getfield 20, 3) := by decide +kernel
theorem d_St_insert_4 : decode c_St_insert 4 = .ok (.invokevirtual 63, 3) := by decide +kernel
theorem d_St_insert_7 : decode c_St_insert 7 = .ok (.ifCond .ne 13, 3) := by decide +kernel
theorem d_St_insert_10 : decode c_St_insert 10 = .ok (.aload_n 0, 1) := by decide +kernel
theorem d_St_insert_11 : decode c_St_insert 11 = .ok (.getfield 14, 3) := by decide +kernel
theorem d_St_insert_14 : decode c_St_insert 14 = .ok (.invokevirtual 63, 3) := by decide +kernel
theorem d_St_insert_17 : decode c_St_insert 17 = .ok (.ifCond .eq 5, 3) := by decide +kernel
theorem d_St_insert_20 : decode c_St_insert 20 = .ok (.iconst 0, 1) := by decide +kernel
theorem d_St_insert_21 : decode c_St_insert 21 = .ok (.ireturn, 1) := by decide +kernel
theorem d_St_insert_22 : decode c_St_insert 22 = .ok (.aload_n 0, 1) := by decide +kernel
theorem d_St_insert_23 : decode c_St_insert 23 = .ok (.getfield 14, 3) := by decide +kernel
theorem d_St_insert_26 : decode c_St_insert 26 = .ok (.lload_n 1, 1) := by decide +kernel
theorem d_St_insert_27 : decode c_St_insert 27 = .ok (.lload_n 3, 1) := by decide +kernel
theorem d_St_insert_28 : decode c_St_insert 28 = .ok (.lload 5, 2) := by decide +kernel
theorem d_St_insert_30 : decode c_St_insert 30 = .ok (.invokevirtual 67, 3) := by decide +kernel
theorem d_St_insert_33 : decode c_St_insert 33 = .ok (.aload_n 0, 1) := by decide +kernel
theorem d_St_insert_34 : decode c_St_insert 34 = .ok (.lload_n 1, 1) := by decide +kernel
theorem d_St_insert_35 : decode c_St_insert 35 = .ok (.lload_n 3, 1) := by decide +kernel
theorem d_St_insert_36 : decode c_St_insert 36 = .ok (.lload 5, 2) := by decide +kernel
theorem d_St_insert_38 : decode c_St_insert 38 = .ok (.iconst 1, 1) := by decide +kernel
theorem d_St_insert_39 : decode c_St_insert 39 = .ok (.invokevirtual 71, 3) := by decide +kernel
theorem d_St_insert_42 : decode c_St_insert 42 = .ok (.iconst 1, 1) := by decide +kernel
theorem d_St_insert_43 : decode c_St_insert 43 = .ok (.ireturn, 1) := by decide +kernel
theorem d_St_delete_0 : decode c_St_delete 0 = .ok (.aload_n 0, 1) := by decide +kernel
theorem d_St_delete_1 : decode c_St_delete 1 = .ok (.getfield 14, 3) := by decide +kernel
theorem d_St_delete_4 : decode c_St_delete 4 = .ok (.lload_n 1, 1) := by decide +kernel
theorem d_St_delete_5 : decode c_St_delete 5 = .ok (.lload_n 3, 1) := by decide +kernel
theorem d_St_delete_6 : decode c_St_delete 6 = .ok (.lload 5, 2) := by decide +kernel
theorem d_St_delete_8 : decode c_St_delete 8 = .ok (.invokevirtual 49, 3) := by decide +kernel
theorem d_St_delete_11 : decode c_St_delete 11 = .ok (.istore 7, 2) := by decide +kernel
theorem d_St_delete_13 : decode c_St_delete 13 = .ok (.iload 7, 2) := by decide +kernel
theorem d_St_delete_15 : decode c_St_delete 15 = .ok (.ifCond .lt 13, 3) := by decide +kernel
theorem d_St_delete_18 : decode c_St_delete 18 = .ok (.aload_n 0, 1) := by decide +kernel
theorem d_St_delete_19 : decode c_St_delete 19 = .ok (.getfield 20, 3) := by decide +kernel
theorem d_St_delete_22 : decode c_St_delete 22 = .ok (.invokevirtual 63, 3) := by decide +kernel
theorem d_St_delete_25 : decode c_St_delete 25 = .ok (.ifCond .eq 5, 3) := by decide +kernel
theorem d_St_delete_28 : decode c_St_delete 28 = .ok (.iconst 0, 1) := by decide +kernel
theorem d_St_delete_29 : decode c_St_delete 29 = .ok (.ireturn, 1) := by decide +kernel
theorem d_St_delete_30 : decode c_St_delete 30 = .ok (.aload_n 0, 1) := by decide +kernel
theorem d_St_delete_31 : decode c_St_delete 31 = .ok (.getfield 14, 3) := by decide +kernel
theorem d_St_delete_34 : decode c_St_delete 34 = .ok (.iload 7, 2) := by decide +kernel
theorem d_St_delete_36 : decode c_St_delete 36 = .ok (.invokevirtual 75, 3) := by decide +kernel
theorem d_St_delete_39 : decode c_St_delete 39 = .ok (.aload_n 0, 1) := by decide +kernel
theorem d_St_delete_40 : decode c_St_delete 40 = .ok (.lload_n 1, 1) := by decide +kernel
theorem d_St_delete_41 : decode c_St_delete 41 = .ok (.lload_n 3, 1) := by decide +kernel
theorem d_St_delete_42 : decode c_St_delete 42 = .ok (.lload 5, 2) := by decide +kernel
theorem d_St_delete_44 : decode c_St_delete 44 = .ok (.iconst 0, 1) := by decide +kernel
theorem d_St_delete_45 : decode c_St_delete 45 = .ok (.invokevirtual 71, 3) := by decide +kernel
theorem d_St_delete_48 : decode c_St_delete 48 = .ok (.iconst 1, 1) := by decide +kernel
theorem d_St_delete_49 : decode c_St_delete 49 = .ok (.ireturn, 1) := by decide +kernel
theorem d_St_noteChange_0 : decode c_St_noteChange 0 = .ok (.aload_n 0, 1) := by decide +kernel
theorem d_St_noteChange_1 : decode c_St_noteChange 1 = .ok (.getfield 20, 3) := by decide +kernel
theorem d_St_noteChange_4 : decode c_St_noteChange 4 = .ok (.invokevirtual 45, 3) := by decide +kernel
theorem d_St_noteChange_7 : decode c_St_noteChange 7 = .ok (.istore 8, 2) := by decide +kernel
theorem d_St_noteChange_9 : decode c_St_noteChange 9 = .ok (.iload 8, 2) := by decide +kernel
theorem d_St_noteChange_11 : decode c_St_noteChange 11 = .ok (.sipush 512, 3) := by decide +kernel
theorem d_St_noteChange_14 : decode c_St_noteChange 14 = .ok (.if_icmp .lt 4, 3) := by decide +kernel
theorem d_St_noteChange_17 : decode c_St_noteChange 17 = .ok (.return_, 1) := by decide +kernel
theorem d_St_noteChange_18 : decode c_St_noteChange 18 = .ok (.aload_n 0, 1) := by decide +kernel
theorem d_St_noteChange_19 : decode c_St_noteChange 19 = .ok (.getfield 20, 3) := by decide +kernel
theorem d_St_noteChange_22 : decode c_St_noteChange 22 = .ok (.lload_n 1, 1) := by decide +kernel
theorem d_St_noteChange_23 : decode c_St_noteChange 23 = .ok (.lload_n 3, 1) := by decide +kernel
theorem d_St_noteChange_24 : decode c_St_noteChange 24 = .ok (.lload 5, 2) := by decide +kernel
theorem d_St_noteChange_26 : decode c_St_noteChange 26 = .ok (.invokevirtual 67, 3) := by decide +kernel
theorem d_St_noteChange_29 : decode c_St_noteChange 29 = .ok (.aload_n 0, 1) := by decide +kernel
theorem d_St_noteChange_30 : decode c_St_noteChange 30 = .ok (.getfield 23, 3) := by decide +kernel
theorem d_St_noteChange_33 : decode c_St_noteChange 33 = .ok (.iload 8, 2) := by decide +kernel
theorem d_St_noteChange_35 : decode c_St_noteChange 35 = .ok (.iload 7, 2) := by decide +kernel
theorem d_St_noteChange_37 : decode c_St_noteChange 37 = .ok (.bastore, 1) := by decide +kernel
theorem d_St_noteChange_38 : decode c_St_noteChange 38 = .ok (.aload_n 0, 1) := by decide +kernel
theorem d_St_noteChange_39 : decode c_St_noteChange 39 = .ok (.getfield 27, 3) := by decide +kernel
theorem d_St_noteChange_42 : decode c_St_noteChange 42 = .ok (.iload 8, 2) := by decide +kernel
theorem d_St_noteChange_44 : decode c_St_noteChange 44 = .ok (.aload_n 0, 1) := by decide +kernel
theorem d_St_noteChange_45 : decode c_St_noteChange 45 = .ok (.getfield 39, 3) := by decide +kernel
theorem d_St_noteChange_48 : decode c_St_noteChange 48 = .ok (.iastore, 1) := by decide +kernel
theorem d_St_noteChange_49 : decode c_St_noteChange 49 = .ok (.aload_n 0, 1) := by decide +kernel
theorem d_St_noteChange_50 : decode c_St_noteChange 50 = .ok (.getfield 31, 3) := by decide +kernel
theorem d_St_noteChange_53 : decode c_St_noteChange 53 = .ok (.ifCond .eq 16, 3) := by decide +kernel
theorem d_St_noteChange_56 : decode c_St_noteChange 56 = .ok (.aload_n 0, 1) := by decide +kernel
theorem d_St_noteChange_57 : decode c_St_noteChange 57 = .ok (.dup, 1) := by decide +kernel
theorem d_St_noteChange_58 : decode c_St_noteChange 58 = .ok (.getfield 35, 3) := by decide +kernel
theorem d_St_noteChange_61 : decode c_St_noteChange 61 = .ok (.iconst 1, 1) := by decide +kernel
theorem d_St_noteChange_62 : decode c_St_noteChange 62 = .ok (.iadd, 1) := by decide +kernel
theorem d_St_noteChange_63 : decode c_St_noteChange 63 = .ok (.putfield 35, 3) := by decide +kernel
theorem d_St_noteChange_66 : decode c_St_noteChange 66 = .ok (.goto 7, 3) := by decide +kernel
theorem d_St_noteChange_69 : decode c_St_noteChange 69 = .ok (.aload_n 0, 1) := by decide +kernel
theorem d_St_noteChange_70 : decode c_St_noteChange 70 = .ok (.invokevirtual 78, 3) := by decide +kernel
theorem d_St_noteChange_73 : decode c_St_noteChange 73 = .ok (.return_, 1) := by decide +kernel
theorem d_St_countCommitted_0 : decode c_St_countCommitted 0 = .ok (.aload_n 0, 1) := by decide +kernel
theorem d_St_countCommitted_1 : decode c_St_countCommitted 1 = .ok (.dup, 1) := by decide +kernel
theorem d_St_countCommitted_2 : decode c_St_countCommitted 2 = .ok (.getfield 39, 3) := by decide +kernel
theorem d_St_countCommitted_5 : decode c_St_countCommitted 5 = .ok (.iconst 1, 1) := by decide +kernel
theorem d_St_countCommitted_6 : decode c_St_countCommitted 6 = .ok (.iadd, 1) := by decide +kernel
theorem d_St_countCommitted_7 : decode c_St_countCommitted 7 = .ok (.putfield 39, 3) := by decide +kernel
theorem d_St_countCommitted_10 : decode c_St_countCommitted 10 = .ok (.aload_n 0, 1) := by decide +kernel
theorem d_St_countCommitted_11 : decode c_St_countCommitted 11 = .ok (.dup, 1) := by decide +kernel
theorem d_St_countCommitted_12 : decode c_St_countCommitted 12 = .ok (.getfield 42, 3) := by decide +kernel
theorem d_St_countCommitted_15 : decode c_St_countCommitted 15 = .ok (.iconst 1, 1) := by decide +kernel
theorem d_St_countCommitted_16 : decode c_St_countCommitted 16 = .ok (.iadd, 1) := by decide +kernel
theorem d_St_countCommitted_17 : decode c_St_countCommitted 17 = .ok (.putfield 42, 3) := by decide +kernel
theorem d_St_countCommitted_20 : decode c_St_countCommitted 20 = .ok (.return_, 1) := by decide +kernel
theorem d_St_openTransaction_0 : decode c_St_openTransaction 0 = .ok (.aload_n 0, 1) := by decide +kernel
theorem d_St_openTransaction_1 : decode c_St_openTransaction 1 = .ok (.iconst 1, 1) := by decide +kernel
theorem d_St_openTransaction_2 : decode c_St_openTransaction 2 = .ok (.putfield 31, 3) := by decide +kernel
theorem d_St_openTransaction_5 : decode c_St_openTransaction 5 = .ok (.aload_n 0, 1) := by decide +kernel
theorem d_St_openTransaction_6 : decode c_St_openTransaction 6 = .ok (.getfield 39, 3) := by decide +kernel
theorem d_St_openTransaction_9 : decode c_St_openTransaction 9 = .ok (.ireturn, 1) := by decide +kernel
theorem d_St_commitOpen_0 : decode c_St_commitOpen 0 = .ok (.aload_n 0, 1) := by decide +kernel
theorem d_St_commitOpen_1 : decode c_St_commitOpen 1 = .ok (.getfield 35, 3) := by decide +kernel
theorem d_St_commitOpen_4 : decode c_St_commitOpen 4 = .ok (.istore_n 1, 1) := by decide +kernel
theorem d_St_commitOpen_5 : decode c_St_commitOpen 5 = .ok (.aload_n 0, 1) := by decide +kernel
theorem d_St_commitOpen_6 : decode c_St_commitOpen 6 = .ok (.iconst 0, 1) := by decide +kernel
theorem d_St_commitOpen_7 : decode c_St_commitOpen 7 = .ok (.putfield 31, 3) := by decide +kernel
theorem d_St_commitOpen_10 : decode c_St_commitOpen 10 = .ok (.aload_n 0, 1) := by decide +kernel
theorem d_St_commitOpen_11 : decode c_St_commitOpen 11 = .ok (.iconst 0, 1) := by decide +kernel
theorem d_St_commitOpen_12 : decode c_St_commitOpen 12 = .ok (.putfield 35, 3) := by decide +kernel
theorem d_St_commitOpen_15 : decode c_St_commitOpen 15 = .ok (.aload_n 0, 1) := by decide +kernel
theorem d_St_commitOpen_16 : decode c_St_commitOpen 16 = .ok (.invokevirtual 78, 3) := by decide +kernel
theorem d_St_commitOpen_19 : decode c_St_commitOpen 19 = .ok (.iload_n 1, 1) := by decide +kernel
theorem d_St_commitOpen_20 : decode c_St_commitOpen 20 = .ok (.ireturn, 1) := by decide +kernel
theorem d_St_undoOpen_0 : decode c_St_undoOpen 0 = .ok (.aload_n 0, 1) := by decide +kernel
theorem d_St_undoOpen_1 : decode c_St_undoOpen 1 = .ok (.getfield 35, 3) := by decide +kernel
theorem d_St_undoOpen_4 : decode c_St_undoOpen 4 = .ok (.istore_n 1, 1) := by decide +kernel
theorem d_St_undoOpen_5 : decode c_St_undoOpen 5 = .ok (.aload_n 0, 1) := by decide +kernel
theorem d_St_undoOpen_6 : decode c_St_undoOpen 6 = .ok (.aload_n 0, 1) := by decide +kernel
theorem d_St_undoOpen_7 : decode c_St_undoOpen 7 = .ok (.getfield 39, 3) := by decide +kernel
theorem d_St_undoOpen_10 : decode c_St_undoOpen 10 = .ok (.invokevirtual 81, 3) := by decide +kernel
theorem d_St_undoOpen_13 : decode c_St_undoOpen 13 = .ok (.iload_n 1, 1) := by decide +kernel
theorem d_St_undoOpen_14 : decode c_St_undoOpen 14 = .ok (.ireturn, 1) := by decide +kernel
theorem d_St_syncAll_0 : decode c_St_syncAll 0 = .ok (.aload_n 0, 1) := by decide +kernel
theorem d_St_syncAll_1 : decode c_St_syncAll 1 = .ok (.getfield 42, 3) := by decide +kernel
theorem d_St_syncAll_4 : decode c_St_syncAll 4 = .ok (.istore_n 1, 1) := by decide +kernel
theorem d_St_syncAll_5 : decode c_St_syncAll 5 = .ok (.aload_n 0, 1) := by decide +kernel
theorem d_St_syncAll_6 : decode c_St_syncAll 6 = .ok (.iconst 0, 1) := by decide +kernel
theorem d_St_syncAll_7 : decode c_St_syncAll 7 = .ok (.putfield 42, 3) := by decide +kernel
theorem d_St_syncAll_10 : decode c_St_syncAll 10 = .ok (.iload_n 1, 1) := by decide +kernel
theorem d_St_syncAll_11 : decode c_St_syncAll 11 = .ok (.ireturn, 1) := by decide +kernel
theorem d_St_loseBut_0 : decode c_St_loseBut 0 = .ok (.aload_n 0, 1) := by decide +kernel
theorem d_St_loseBut_1 : decode c_St_loseBut 1 = .ok (.aload_n 0, 1) := by decide +kernel
theorem d_St_loseBut_2 : decode c_St_loseBut 2 = .ok (.getfield 39, 3) := by decide +kernel
theorem d_St_loseBut_5 : decode c_St_loseBut 5 = .ok (.aload_n 0, 1) := by decide +kernel
theorem d_St_loseBut_6 : decode c_St_loseBut 6 = .ok (.getfield 42, 3) := by decide +kernel
theorem d_St_loseBut_9 : decode c_St_loseBut 9 = .ok (.isub, 1) := by decide +kernel
theorem d_St_loseBut_10 : decode c_St_loseBut 10 = .ok (.iload_n 1, 1) := by decide +kernel
theorem d_St_loseBut_11 : decode c_St_loseBut 11 = .ok (.aload_n 0, 1) := by decide +kernel
theorem d_St_loseBut_12 : decode c_St_loseBut 12 = .ok (.getfield 42, 3) := by decide +kernel
theorem d_St_loseBut_15 : decode c_St_loseBut 15 = .ok (.invokestatic 84, 3) := by decide +kernel
theorem d_St_loseBut_18 : decode c_St_loseBut 18 = .ok (.iadd, 1) := by decide +kernel
theorem d_St_loseBut_19 : decode c_St_loseBut 19 = .ok (.invokevirtual 81, 3) := by decide +kernel
theorem d_St_loseBut_22 : decode c_St_loseBut 22 = .ok (.aload_n 0, 1) := by decide +kernel
theorem d_St_loseBut_23 : decode c_St_loseBut 23 = .ok (.iconst 0, 1) := by decide +kernel
theorem d_St_loseBut_24 : decode c_St_loseBut 24 = .ok (.putfield 42, 3) := by decide +kernel
theorem d_St_loseBut_27 : decode c_St_loseBut 27 = .ok (.return_, 1) := by decide +kernel
theorem d_St_undoFrom_0 : decode c_St_undoFrom 0 = .ok (.aload_n 0, 1) := by decide +kernel
theorem d_St_undoFrom_1 : decode c_St_undoFrom 1 = .ok (.getfield 20, 3) := by decide +kernel
theorem d_St_undoFrom_4 : decode c_St_undoFrom 4 = .ok (.invokevirtual 45, 3) := by decide +kernel
theorem d_St_undoFrom_7 : decode c_St_undoFrom 7 = .ok (.iconst 1, 1) := by decide +kernel
theorem d_St_undoFrom_8 : decode c_St_undoFrom 8 = .ok (.isub, 1) := by decide +kernel
theorem d_St_undoFrom_9 : decode c_St_undoFrom 9 = .ok (.istore_n 2, 1) := by decide +kernel
theorem d_St_undoFrom_10 : decode c_St_undoFrom 10 = .ok (.iload_n 2, 1) := by decide +kernel
theorem d_St_undoFrom_11 : decode c_St_undoFrom 11 = .ok (.ifCond .lt 24, 3) := by decide +kernel
theorem d_St_undoFrom_14 : decode c_St_undoFrom 14 = .ok (.aload_n 0, 1) := by decide +kernel
theorem d_St_undoFrom_15 : decode c_St_undoFrom 15 = .ok (.getfield 27, 3) := by decide +kernel
theorem d_St_undoFrom_18 : decode c_St_undoFrom 18 = .ok (.iload_n 2, 1) := by decide +kernel
theorem d_St_undoFrom_19 : decode c_St_undoFrom 19 = .ok (.iaload, 1) := by decide +kernel
theorem d_St_undoFrom_20 : decode c_St_undoFrom 20 = .ok (.iload_n 1, 1) := by decide +kernel
theorem d_St_undoFrom_21 : decode c_St_undoFrom 21 = .ok (.if_icmp .lt 14, 3) := by decide +kernel
theorem d_St_undoFrom_24 : decode c_St_undoFrom 24 = .ok (.aload_n 0, 1) := by decide +kernel
theorem d_St_undoFrom_25 : decode c_St_undoFrom 25 = .ok (.iload_n 2, 1) := by decide +kernel
theorem d_St_undoFrom_26 : decode c_St_undoFrom 26 = .ok (.invokevirtual 90, 3) := by decide +kernel
theorem d_St_undoFrom_29 : decode c_St_undoFrom 29 = .ok (.iinc 2 (-1), 3) := by decide +kernel
theorem d_St_undoFrom_32 : decode c_St_undoFrom 32 = .ok (.goto (-22), 3) := by decide +kernel
theorem d_St_undoFrom_35 : decode c_St_undoFrom 35 = .ok (.aload_n 0, 1) := by decide +kernel
theorem d_St_undoFrom_36 : decode c_St_undoFrom 36 = .ok (.iconst 0, 1) := by decide +kernel
theorem d_St_undoFrom_37 : decode c_St_undoFrom 37 = .ok (.putfield 31, 3) := by decide +kernel
theorem d_St_undoFrom_40 : decode c_St_undoFrom 40 = .ok (.aload_n 0, 1) := by decide +kernel
theorem d_St_undoFrom_41 : decode c_St_undoFrom 41 = .ok (.iconst 0, 1) := by decide +kernel
theorem d_St_undoFrom_42 : decode c_St_undoFrom 42 = .ok (.putfield 35, 3) := by decide +kernel
theorem d_St_undoFrom_45 : decode c_St_undoFrom 45 = .ok (.return_, 1) := by decide +kernel
theorem d_St_undoLast_0 : decode c_St_undoLast 0 = .ok (.aload_n 0, 1) := by decide +kernel
theorem d_St_undoLast_1 : decode c_St_undoLast 1 = .ok (.getfield 20, 3) := by decide +kernel
theorem d_St_undoLast_4 : decode c_St_undoLast 4 = .ok (.iload_n 1, 1) := by decide +kernel
theorem d_St_undoLast_5 : decode c_St_undoLast 5 = .ok (.invokevirtual 53, 3) := by decide +kernel
theorem d_St_undoLast_8 : decode c_St_undoLast 8 = .ok (.lstore_n 2, 1) := by decide +kernel
theorem d_St_undoLast_9 : decode c_St_undoLast 9 = .ok (.aload_n 0, 1) := by decide +kernel
theorem d_St_undoLast_10 : decode c_St_undoLast 10 = .ok (.getfield 20, 3) := by decide +kernel
theorem d_St_undoLast_13 : decode c_St_undoLast 13 = .ok (.iload_n 1, 1) := by decide +kernel
theorem d_St_undoLast_14 : decode c_St_undoLast 14 = .ok (.invokevirtual 57, 3) := by decide +kernel
theorem d_St_undoLast_17 : decode c_St_undoLast 17 = .ok (.lstore 4, 2) := by decide +kernel
theorem d_St_undoLast_19 : decode c_St_undoLast 19 = .ok (.aload_n 0, 1) := by decide +kernel
theorem d_St_undoLast_20 : decode c_St_undoLast 20 = .ok (.getfield 20, 3) := by decide +kernel
theorem d_St_undoLast_23 : decode c_St_undoLast 23 = .ok (.iload_n 1, 1) := by decide +kernel
theorem d_St_undoLast_24 : decode c_St_undoLast 24 = .ok (.invokevirtual 60, 3) := by decide +kernel
theorem d_St_undoLast_27 : decode c_St_undoLast 27 = .ok (.lstore 6, 2) := by decide +kernel
theorem d_St_undoLast_29 : decode c_St_undoLast 29 = .ok (.aload_n 0, 1) := by decide +kernel
theorem d_St_undoLast_30 : decode c_St_undoLast 30 = .ok (.getfield 23, 3) := by decide +kernel
theorem d_St_undoLast_33 : decode c_St_undoLast 33 = .ok (.iload_n 1, 1) := by decide +kernel
theorem d_St_undoLast_34 : decode c_St_undoLast 34 = .ok (.baload, 1) := by decide +kernel
theorem d_St_undoLast_35 : decode c_St_undoLast 35 = .ok (.ifCond .eq 25, 3) := by decide +kernel
theorem d_St_undoLast_38 : decode c_St_undoLast 38 = .ok (.aload_n 0, 1) := by decide +kernel
theorem d_St_undoLast_39 : decode c_St_undoLast 39 = .ok (.getfield 14, 3) := by decide +kernel
theorem d_St_undoLast_42 : decode c_St_undoLast 42 = .ok (.aload_n 0, 1) := by decide +kernel
theorem d_St_undoLast_43 : decode c_St_undoLast 43 = .ok (.getfield 14, 3) := by decide +kernel
theorem d_St_undoLast_46 : decode c_St_undoLast 46 = .ok (.lload_n 2, 1) := by decide +kernel
theorem d_St_undoLast_47 : decode c_St_undoLast 47 = .ok (.lload 4, 2) := by decide +kernel
theorem d_St_undoLast_49 : decode c_St_undoLast 49 = .ok (.lload 6, 2) := by decide +kernel
theorem d_St_undoLast_51 : decode c_St_undoLast 51 = .ok (.invokevirtual 49, 3) := by decide +kernel
theorem d_St_undoLast_54 : decode c_St_undoLast 54 = .ok (.invokevirtual 75, 3) := by decide +kernel
theorem d_St_undoLast_57 : decode c_St_undoLast 57 = .ok (.goto 15, 3) := by decide +kernel
theorem d_St_undoLast_60 : decode c_St_undoLast 60 = .ok (.aload_n 0, 1) := by decide +kernel
theorem d_St_undoLast_61 : decode c_St_undoLast 61 = .ok (.getfield 14, 3) := by decide +kernel
theorem d_St_undoLast_64 : decode c_St_undoLast 64 = .ok (.lload_n 2, 1) := by decide +kernel
theorem d_St_undoLast_65 : decode c_St_undoLast 65 = .ok (.lload 4, 2) := by decide +kernel
theorem d_St_undoLast_67 : decode c_St_undoLast 67 = .ok (.lload 6, 2) := by decide +kernel
theorem d_St_undoLast_69 : decode c_St_undoLast 69 = .ok (.invokevirtual 67, 3) := by decide +kernel
theorem d_St_undoLast_72 : decode c_St_undoLast 72 = .ok (.aload_n 0, 1) := by decide +kernel
theorem d_St_undoLast_73 : decode c_St_undoLast 73 = .ok (.getfield 20, 3) := by decide +kernel
theorem d_St_undoLast_76 : decode c_St_undoLast 76 = .ok (.iload_n 1, 1) := by decide +kernel
theorem d_St_undoLast_77 : decode c_St_undoLast 77 = .ok (.invokevirtual 75, 3) := by decide +kernel
theorem d_St_undoLast_80 : decode c_St_undoLast 80 = .ok (.return_, 1) := by decide +kernel
theorem d_Te_isTriple_0 : decode c_Te_isTriple 0 = .ok (.lload_n 0, 1) := by decide +kernel
theorem d_Te_isTriple_1 : decode c_Te_isTriple 1 = .ok (.invokestatic 9, 3) := by decide +kernel
theorem d_Te_isTriple_4 : decode c_Te_isTriple 4 = .ok (.ifCond .eq 30, 3) := by decide +kernel
theorem d_Te_isTriple_7 : decode c_Te_isTriple 7 = .ok (.lload_n 2, 1) := by decide +kernel
theorem d_Te_isTriple_8 : decode c_Te_isTriple 8 = .ok (.invokestatic 9, 3) := by decide +kernel
theorem d_Te_isTriple_11 : decode c_Te_isTriple 11 = .ok (.ifCond .eq 23, 3) := by decide +kernel
theorem d_Te_isTriple_14 : decode c_Te_isTriple 14 = .ok (.lload 4, 2) := by decide +kernel
theorem d_Te_isTriple_16 : decode c_Te_isTriple 16 = .ok (.invokestatic 9, 3) := by decide +kernel
theorem d_Te_isTriple_19 : decode c_Te_isTriple 19 = .ok (.ifCond .ne 11, 3) := by decide +kernel
theorem d_Te_isTriple_22 : decode c_Te_isTriple 22 = .ok (.lload 4, 2) := by decide +kernel
theorem d_Te_isTriple_24 : decode c_Te_isTriple 24 = .ok (.invokestatic 15, 3) := by decide +kernel
theorem d_Te_isTriple_27 : decode c_Te_isTriple 27 = .ok (.ifCond .eq 7, 3) := by decide +kernel
theorem d_Te_isTriple_30 : decode c_Te_isTriple 30 = .ok (.iconst 1, 1) := by decide +kernel
theorem d_Te_isTriple_31 : decode c_Te_isTriple 31 = .ok (.goto 4, 3) := by decide +kernel
theorem d_Te_isTriple_34 : decode c_Te_isTriple 34 = .ok (.iconst 0, 1) := by decide +kernel
theorem d_Te_isTriple_35 : decode c_Te_isTriple 35 = .ok (.ireturn, 1) := by decide +kernel
theorem d_Te_isWord_0 : decode c_Te_isWord 0 = .ok (.lload_n 0, 1) := by decide +kernel
theorem d_Te_isWord_1 : decode c_Te_isWord 1 = .ok (.lstore_n 2, 1) := by decide +kernel
theorem d_Te_isWord_2 : decode c_Te_isWord 2 = .ok (.iconst 0, 1) := by decide +kernel
theorem d_Te_isWord_3 : decode c_Te_isWord 3 = .ok (.istore 4, 2) := by decide +kernel
theorem d_Te_isWord_5 : decode c_Te_isWord 5 = .ok (.iload 4, 2) := by decide +kernel
theorem d_Te_isWord_7 : decode c_Te_isWord 7 = .ok (.bipush 8, 2) := by decide +kernel
theorem d_Te_isWord_9 : decode c_Te_isWord 9 = .ok (.if_icmp .ge 26, 3) := by decide +kernel
theorem d_Te_isWord_12 : decode c_Te_isWord 12 = .ok (.lload_n 2, 1) := by decide +kernel
theorem d_Te_isWord_13 : decode c_Te_isWord 13 = .ok (.ldc2_w 18, 3) := by decide +kernel
theorem d_Te_isWord_16 : decode c_Te_isWord 16 = .ok (.land, 1) := by decide +kernel
theorem d_Te_isWord_17 : decode c_Te_isWord 17 = .ok (.l2i, 1) := by decide +kernel
theorem d_Te_isWord_18 : decode c_Te_isWord 18 = .ok (.invokestatic 20, 3) := by decide +kernel
theorem d_Te_isWord_21 : decode c_Te_isWord 21 = .ok (.ifCond .eq 14, 3) := by decide +kernel
theorem d_Te_isWord_24 : decode c_Te_isWord 24 = .ok (.lload_n 2, 1) := by decide +kernel
theorem d_Te_isWord_25 : decode c_Te_isWord 25 = .ok (.bipush 8, 2) := by decide +kernel
theorem d_Te_isWord_27 : decode c_Te_isWord 27 = .ok (.lushr, 1) := by decide +kernel
theorem d_Te_isWord_28 : decode c_Te_isWord 28 = .ok (.lstore_n 2, 1) := by decide +kernel
theorem d_Te_isWord_29 : decode c_Te_isWord 29 = .ok (.iinc 4 1, 3) := by decide +kernel
theorem d_Te_isWord_32 : decode c_Te_isWord 32 = .ok (.goto (-27), 3) := by decide +kernel
theorem d_Te_isWord_35 : decode c_Te_isWord 35 = .ok (.iload 4, 2) := by decide +kernel
theorem d_Te_isWord_37 : decode c_Te_isWord 37 = .ok (.ifCond .le 13, 3) := by decide +kernel
theorem d_Te_isWord_40 : decode c_Te_isWord 40 = .ok (.lload_n 2, 1) := by decide +kernel
theorem d_Te_isWord_41 : decode c_Te_isWord 41 = .ok (.lconst 0, 1) := by decide +kernel
theorem d_Te_isWord_42 : decode c_Te_isWord 42 = .ok (.lcmp, 1) := by decide +kernel
theorem d_Te_isWord_43 : decode c_Te_isWord 43 = .ok (.ifCond .ne 7, 3) := by decide +kernel
theorem d_Te_isWord_46 : decode c_Te_isWord 46 = .ok (.iconst 1, 1) := by decide +kernel
theorem d_Te_isWord_47 : decode c_Te_isWord 47 = .ok (.goto 4, 3) := by decide +kernel
theorem d_Te_isWord_50 : decode c_Te_isWord 50 = .ok (.iconst 0, 1) := by decide +kernel
theorem d_Te_isWord_51 : decode c_Te_isWord 51 = .ok (.ireturn, 1) := by decide +kernel
theorem d_Te_isNumber_0 : decode c_Te_isNumber 0 = .ok (.lload_n 0, 1) := by decide +kernel
theorem d_Te_isNumber_1 : decode c_Te_isNumber 1 = .ok (.lconst 0, 1) := by decide +kernel
theorem d_Te_isNumber_2 : decode c_Te_isNumber 2 = .ok (.lcmp, 1) := by decide +kernel
theorem d_Te_isNumber_3 : decode c_Te_isNumber 3 = .ok (.ifCond .ge 15, 3) := by decide +kernel
theorem d_Te_isNumber_6 : decode c_Te_isNumber 6 = .ok (.lload_n 0, 1) := by decide +kernel
theorem d_Te_isNumber_7 : decode c_Te_isNumber 7 = .ok (.ldc2_w 24, 3) := by decide +kernel
theorem d_Te_isNumber_10 : decode c_Te_isNumber 10 = .ok (.lcmp, 1) := by decide +kernel
theorem d_Te_isNumber_11 : decode c_Te_isNumber 11 = .ok (.ifCond .lt 7, 3) := by decide +kernel
theorem d_Te_isNumber_14 : decode c_Te_isNumber 14 = .ok (.iconst 1, 1) := by decide +kernel
theorem d_Te_isNumber_15 : decode c_Te_isNumber 15 = .ok (.goto 4, 3) := by decide +kernel
theorem d_Te_isNumber_18 : decode c_Te_isNumber 18 = .ok (.iconst 0, 1) := by decide +kernel
theorem d_Te_isNumber_19 : decode c_Te_isNumber 19 = .ok (.ireturn, 1) := by decide +kernel
theorem d_Te_isHeldNumber_0 : decode c_Te_isHeldNumber 0 = .ok (.lload_n 0, 1) := by decide +kernel
theorem d_Te_isHeldNumber_1 : decode c_Te_isHeldNumber 1 = .ok (.lconst 0, 1) := by decide +kernel
theorem d_Te_isHeldNumber_2 : decode c_Te_isHeldNumber 2 = .ok (.lcmp, 1) := by decide +kernel
theorem d_Te_isHeldNumber_3 : decode c_Te_isHeldNumber 3 = .ok (.ifCond .le 15, 3) := by decide +kernel
theorem d_Te_isHeldNumber_6 : decode c_Te_isHeldNumber 6 = .ok (.lload_n 0, 1) := by decide +kernel
theorem d_Te_isHeldNumber_7 : decode c_Te_isHeldNumber 7 = .ok (.ldc2_w 26, 3) := by decide +kernel
theorem d_Te_isHeldNumber_10 : decode c_Te_isHeldNumber 10 = .ok (.lcmp, 1) := by decide +kernel
theorem d_Te_isHeldNumber_11 : decode c_Te_isHeldNumber 11 = .ok (.ifCond .gt 7, 3) := by decide +kernel
theorem d_Te_isHeldNumber_14 : decode c_Te_isHeldNumber 14 = .ok (.iconst 1, 1) := by decide +kernel
theorem d_Te_isHeldNumber_15 : decode c_Te_isHeldNumber 15 = .ok (.goto 4, 3) := by decide +kernel
theorem d_Te_isHeldNumber_18 : decode c_Te_isHeldNumber 18 = .ok (.iconst 0, 1) := by decide +kernel
theorem d_Te_isHeldNumber_19 : decode c_Te_isHeldNumber 19 = .ok (.ireturn, 1) := by decide +kernel
theorem d_Te_isLetter_0 : decode c_Te_isLetter 0 = .ok (.iload_n 0, 1) := by decide +kernel
theorem d_Te_isLetter_1 : decode c_Te_isLetter 1 = .ok (.bipush 97, 2) := by decide +kernel
theorem d_Te_isLetter_3 : decode c_Te_isLetter 3 = .ok (.if_icmp .lt 13, 3) := by decide +kernel
theorem d_Te_isLetter_6 : decode c_Te_isLetter 6 = .ok (.iload_n 0, 1) := by decide +kernel
theorem d_Te_isLetter_7 : decode c_Te_isLetter 7 = .ok (.bipush 122, 2) := by decide +kernel
theorem d_Te_isLetter_9 : decode c_Te_isLetter 9 = .ok (.if_icmp .gt 7, 3) := by decide +kernel
theorem d_Te_isLetter_12 : decode c_Te_isLetter 12 = .ok (.iconst 1, 1) := by decide +kernel
theorem d_Te_isLetter_13 : decode c_Te_isLetter 13 = .ok (.goto 4, 3) := by decide +kernel
theorem d_Te_isLetter_16 : decode c_Te_isLetter 16 = .ok (.iconst 0, 1) := by decide +kernel
theorem d_Te_isLetter_17 : decode c_Te_isLetter 17 = .ok (.ireturn, 1) := by decide +kernel
theorem d_Te_isDigit_0 : decode c_Te_isDigit 0 = .ok (.iload_n 0, 1) := by decide +kernel
theorem d_Te_isDigit_1 : decode c_Te_isDigit 1 = .ok (.bipush 48, 2) := by decide +kernel
theorem d_Te_isDigit_3 : decode c_Te_isDigit 3 = .ok (.if_icmp .lt 13, 3) := by decide +kernel
theorem d_Te_isDigit_6 : decode c_Te_isDigit 6 = .ok (.iload_n 0, 1) := by decide +kernel
theorem d_Te_isDigit_7 : decode c_Te_isDigit 7 = .ok (.bipush 57, 2) := by decide +kernel
theorem d_Te_isDigit_9 : decode c_Te_isDigit 9 = .ok (.if_icmp .gt 7, 3) := by decide +kernel
theorem d_Te_isDigit_12 : decode c_Te_isDigit 12 = .ok (.iconst 1, 1) := by decide +kernel
theorem d_Te_isDigit_13 : decode c_Te_isDigit 13 = .ok (.goto 4, 3) := by decide +kernel
theorem d_Te_isDigit_16 : decode c_Te_isDigit 16 = .ok (.iconst 0, 1) := by decide +kernel
theorem d_Te_isDigit_17 : decode c_Te_isDigit 17 = .ok (.ireturn, 1) := by decide +kernel
theorem d_Te_held_0 : decode c_Te_held 0 = .ok (.lload_n 0, 1) := by decide +kernel
theorem d_Te_held_1 : decode c_Te_held 1 = .ok (.lconst 0, 1) := by decide +kernel
theorem d_Te_held_2 : decode c_Te_held 2 = .ok (.lcmp, 1) := by decide +kernel
theorem d_Te_held_3 : decode c_Te_held 3 = .ok (.ifCond .ge 6, 3) := by decide +kernel
theorem d_Te_held_6 : decode c_Te_held 6 = .ok (.lload_n 0, 1) := by decide +kernel
theorem d_Te_held_7 : decode c_Te_held 7 = .ok (.lneg, 1) := by decide +kernel
theorem d_Te_held_8 : decode c_Te_held 8 = .ok (.lreturn, 1) := by decide +kernel
theorem d_Te_held_9 : decode c_Te_held 9 = .ok (.lload_n 0, 1) := by decide +kernel
theorem d_Te_held_10 : decode c_Te_held 10 = .ok (.lstore_n 2, 1) := by decide +kernel
theorem d_Te_held_11 : decode c_Te_held 11 = .ok (.iconst 1, 1) := by decide +kernel
theorem d_Te_held_12 : decode c_Te_held 12 = .ok (.istore 4, 2) := by decide +kernel
theorem d_Te_held_14 : decode c_Te_held 14 = .ok (.iload 4, 2) := by decide +kernel
theorem d_Te_held_16 : decode c_Te_held 16 = .ok (.bipush 8, 2) := by decide +kernel
theorem d_Te_held_18 : decode c_Te_held 18 = .ok (.if_icmp .ge 23, 3) := by decide +kernel
theorem d_Te_held_21 : decode c_Te_held 21 = .ok (.lload_n 2, 1) := by decide +kernel
theorem d_Te_held_22 : decode c_Te_held 22 = .ok (.bipush 56, 2) := by decide +kernel
theorem d_Te_held_24 : decode c_Te_held 24 = .ok (.lushr, 1) := by decide +kernel
theorem d_Te_held_25 : decode c_Te_held 25 = .ok (.lconst 0, 1) := by decide +kernel
theorem d_Te_held_26 : decode c_Te_held 26 = .ok (.lcmp, 1) := by decide +kernel
theorem d_Te_held_27 : decode c_Te_held 27 = .ok (.ifCond .ne 14, 3) := by decide +kernel
theorem d_Te_held_30 : decode c_Te_held 30 = .ok (.lload_n 2, 1) := by decide +kernel
theorem d_Te_held_31 : decode c_Te_held 31 = .ok (.bipush 8, 2) := by decide +kernel
theorem d_Te_held_33 : decode c_Te_held 33 = .ok (.lshl, 1) := by decide +kernel
theorem d_Te_held_34 : decode c_Te_held 34 = .ok (.lstore_n 2, 1) := by decide +kernel
theorem d_Te_held_35 : decode c_Te_held 35 = .ok (.iinc 4 1, 3) := by decide +kernel
theorem d_Te_held_38 : decode c_Te_held 38 = .ok (.goto (-24), 3) := by decide +kernel
theorem d_Te_held_41 : decode c_Te_held 41 = .ok (.lload_n 2, 1) := by decide +kernel
theorem d_Te_held_42 : decode c_Te_held 42 = .ok (.lreturn, 1) := by decide +kernel
theorem d_Te_shown_0 : decode c_Te_shown 0 = .ok (.lload_n 0, 1) := by decide +kernel
theorem d_Te_shown_1 : decode c_Te_shown 1 = .ok (.invokestatic 28, 3) := by decide +kernel
theorem d_Te_shown_4 : decode c_Te_shown 4 = .ok (.ifCond .eq 6, 3) := by decide +kernel
theorem d_Te_shown_7 : decode c_Te_shown 7 = .ok (.lload_n 0, 1) := by decide +kernel
theorem d_Te_shown_8 : decode c_Te_shown 8 = .ok (.lneg, 1) := by decide +kernel
theorem d_Te_shown_9 : decode c_Te_shown 9 = .ok (.lreturn, 1) := by decide +kernel
theorem d_Te_shown_10 : decode c_Te_shown 10 = .ok (.lload_n 0, 1) := by decide +kernel
theorem d_Te_shown_11 : decode c_Te_shown 11 = .ok (.lstore_n 2, 1) := by decide +kernel
theorem d_Te_shown_12 : decode c_Te_shown 12 = .ok (.iconst 1, 1) := by decide +kernel
theorem d_Te_shown_13 : decode c_Te_shown 13 = .ok (.istore 4, 2) := by decide +kernel
theorem d_Te_shown_15 : decode c_Te_shown 15 = .ok (.iload 4, 2) := by decide +kernel
theorem d_Te_shown_17 : decode c_Te_shown 17 = .ok (.bipush 8, 2) := by decide +kernel
theorem d_Te_shown_19 : decode c_Te_shown 19 = .ok (.if_icmp .ge 24, 3) := by decide +kernel
theorem d_Te_shown_22 : decode c_Te_shown 22 = .ok (.lload_n 2, 1) := by decide +kernel
theorem d_Te_shown_23 : decode c_Te_shown 23 = .ok (.ldc2_w 18, 3) := by decide +kernel
theorem d_Te_shown_26 : decode c_Te_shown 26 = .ok (.land, 1) := by decide +kernel
theorem d_Te_shown_27 : decode c_Te_shown 27 = .ok (.lconst 0, 1) := by decide +kernel
theorem d_Te_shown_28 : decode c_Te_shown 28 = .ok (.lcmp, 1) := by decide +kernel
theorem d_Te_shown_29 : decode c_Te_shown 29 = .ok (.ifCond .ne 14, 3) := by decide +kernel
theorem d_Te_shown_32 : decode c_Te_shown 32 = .ok (.lload_n 2, 1) := by decide +kernel
theorem d_Te_shown_33 : decode c_Te_shown 33 = .ok (.bipush 8, 2) := by decide +kernel
theorem d_Te_shown_35 : decode c_Te_shown 35 = .ok (.lushr, 1) := by decide +kernel
theorem d_Te_shown_36 : decode c_Te_shown 36 = .ok (.lstore_n 2, 1) := by decide +kernel
theorem d_Te_shown_37 : decode c_Te_shown 37 = .ok (.iinc 4 1, 3) := by decide +kernel
theorem d_Te_shown_40 : decode c_Te_shown 40 = .ok (.goto (-25), 3) := by decide +kernel
theorem d_Te_shown_43 : decode c_Te_shown 43 = .ok (.lload_n 2, 1) := by decide +kernel
theorem d_Te_shown_44 : decode c_Te_shown 44 = .ok (.lreturn, 1) := by decide +kernel
theorem d_Tr_init_0 : decode c_Tr_init 0 = .ok (.aload_n 0, 1) := by decide +kernel
theorem d_Tr_init_1 : decode c_Tr_init 1 = .ok (.invokespecial 1, 3) := by decide +kernel
theorem d_Tr_init_4 : decode c_Tr_init 4 = .ok (.aload_n 0, 1) := by decide +kernel
theorem d_Tr_init_5 : decode c_Tr_init 5 = .ok (.iconst 0, 1) := by decide +kernel
theorem d_Tr_init_6 : decode c_Tr_init 6 = .ok (.putfield 7, 3) := by decide +kernel
theorem d_Tr_init_9 : decode c_Tr_init 9 = .ok (.aload_n 0, 1) := by decide +kernel
theorem d_Tr_init_10 : decode c_Tr_init 10 = .ok (.iload_n 1, 1) := by decide +kernel
theorem d_Tr_init_11 : decode c_Tr_init 11 = .ok (.newarray .long, 2) := by decide +kernel
theorem d_Tr_init_13 : decode c_Tr_init 13 = .ok (.putfield 13, 3) := by decide +kernel
theorem d_Tr_init_16 : decode c_Tr_init 16 = .ok (.aload_n 0, 1) := by decide +kernel
theorem d_Tr_init_17 : decode c_Tr_init 17 = .ok (.iload_n 1, 1) := by decide +kernel
theorem d_Tr_init_18 : decode c_Tr_init 18 = .ok (.newarray .long, 2) := by decide +kernel
theorem d_Tr_init_20 : decode c_Tr_init 20 = .ok (.putfield 17, 3) := by decide +kernel
theorem d_Tr_init_23 : decode c_Tr_init 23 = .ok (.aload_n 0, 1) := by decide +kernel
theorem d_Tr_init_24 : decode c_Tr_init 24 = .ok (.iload_n 1, 1) := by decide +kernel
theorem d_Tr_init_25 : decode c_Tr_init 25 = .ok (.newarray .long, 2) := by decide +kernel
theorem d_Tr_init_27 : decode c_Tr_init 27 = .ok (.putfield 20, 3) := by decide +kernel
theorem d_Tr_init_30 : decode c_Tr_init 30 = .ok (.return_, 1) := by decide +kernel
theorem d_Tr_size_0 : decode c_Tr_size 0 = .ok (.aload_n 0, 1) := by decide +kernel
theorem d_Tr_size_1 : decode c_Tr_size 1 = .ok (.getfield 7, 3) := by decide +kernel
theorem d_Tr_size_4 : decode c_Tr_size 4 = .ok (.ireturn, 1) := by decide +kernel
theorem d_Tr_isFull_0 : decode c_Tr_isFull 0 = .ok (.aload_n 0, 1) := by decide +kernel
theorem d_Tr_isFull_1 : decode c_Tr_isFull 1 = .ok (.getfield 7, 3) := by decide +kernel
theorem d_Tr_isFull_4 : decode c_Tr_isFull 4 = .ok (.aload_n 0, 1) := by decide +kernel
theorem d_Tr_isFull_5 : decode c_Tr_isFull 5 = .ok (.getfield 13, 3) := by decide +kernel
theorem d_Tr_isFull_8 : decode c_Tr_isFull 8 = .ok (.arraylength, 1) := by decide +kernel
theorem d_Tr_isFull_9 : decode c_Tr_isFull 9 = .ok (.if_icmp .lt 7, 3) := by decide +kernel
theorem d_Tr_isFull_12 : decode c_Tr_isFull 12 = .ok (.iconst 1, 1) := by decide +kernel
theorem d_Tr_isFull_13 : decode c_Tr_isFull 13 = .ok (.goto 4, 3) := by decide +kernel
theorem d_Tr_isFull_16 : decode c_Tr_isFull 16 = .ok (.iconst 0, 1) := by decide +kernel
theorem d_Tr_isFull_17 : decode c_Tr_isFull 17 = .ok (.ireturn, 1) := by decide +kernel
theorem d_Tr_subject_0 : decode c_Tr_subject 0 = .ok (.iload_n 1, 1) := by decide +kernel
theorem d_Tr_subject_1 : decode c_Tr_subject 1 = .ok (.ifCond .lt 20, 3) := by decide +kernel
theorem d_Tr_subject_4 : decode c_Tr_subject 4 = .ok (.iload_n 1, 1) := by decide +kernel
theorem d_Tr_subject_5 : decode c_Tr_subject 5 = .ok (.aload_n 0, 1) := by decide +kernel
theorem d_Tr_subject_6 : decode c_Tr_subject 6 = .ok (.getfield 7, 3) := by decide +kernel
theorem d_Tr_subject_9 : decode c_Tr_subject 9 = .ok (.if_icmp .ge 12, 3) := by decide +kernel
theorem d_Tr_subject_12 : decode c_Tr_subject 12 = .ok (.aload_n 0, 1) := by decide +kernel
theorem d_Tr_subject_13 : decode c_Tr_subject 13 = .ok (.getfield 13, 3) := by decide +kernel
theorem d_Tr_subject_16 : decode c_Tr_subject 16 = .ok (.iload_n 1, 1) := by decide +kernel
theorem d_Tr_subject_17 : decode c_Tr_subject 17 = .ok (.laload, 1) := by decide +kernel
theorem d_Tr_subject_18 : decode c_Tr_subject 18 = .ok (.goto 4, 3) := by decide +kernel
theorem d_Tr_subject_21 : decode c_Tr_subject 21 = .ok (.lconst 0, 1) := by decide +kernel
theorem d_Tr_subject_22 : decode c_Tr_subject 22 = .ok (.lreturn, 1) := by decide +kernel
theorem d_Tr_predicate_0 : decode c_Tr_predicate 0 = .ok (.iload_n 1, 1) := by decide +kernel
theorem d_Tr_predicate_1 : decode c_Tr_predicate 1 = .ok (.ifCond .lt 20, 3) := by decide +kernel
theorem d_Tr_predicate_4 : decode c_Tr_predicate 4 = .ok (.iload_n 1, 1) := by decide +kernel
theorem d_Tr_predicate_5 : decode c_Tr_predicate 5 = .ok (.aload_n 0, 1) := by decide +kernel
theorem d_Tr_predicate_6 : decode c_Tr_predicate 6 = .ok (.getfield 7, 3) := by decide +kernel
theorem d_Tr_predicate_9 : decode c_Tr_predicate 9 = .ok (.if_icmp .ge 12, 3) := by decide +kernel
theorem d_Tr_predicate_12 : decode c_Tr_predicate 12 = .ok (.aload_n 0, 1) := by decide +kernel
theorem d_Tr_predicate_13 : decode c_Tr_predicate 13 = .ok (.getfield 17, 3) := by decide +kernel
theorem d_Tr_predicate_16 : decode c_Tr_predicate 16 = .ok (.iload_n 1, 1) := by decide +kernel
theorem d_Tr_predicate_17 : decode c_Tr_predicate 17 = .ok (.laload, 1) := by decide +kernel
theorem d_Tr_predicate_18 : decode c_Tr_predicate 18 = .ok (.goto 4, 3) := by decide +kernel
theorem d_Tr_predicate_21 : decode c_Tr_predicate 21 = .ok (.lconst 0, 1) := by decide +kernel
theorem d_Tr_predicate_22 : decode c_Tr_predicate 22 = .ok (.lreturn, 1) := by decide +kernel
theorem d_Tr_object_0 : decode c_Tr_object 0 = .ok (.iload_n 1, 1) := by decide +kernel
theorem d_Tr_object_1 : decode c_Tr_object 1 = .ok (.ifCond .lt 20, 3) := by decide +kernel
theorem d_Tr_object_4 : decode c_Tr_object 4 = .ok (.iload_n 1, 1) := by decide +kernel
theorem d_Tr_object_5 : decode c_Tr_object 5 = .ok (.aload_n 0, 1) := by decide +kernel
theorem d_Tr_object_6 : decode c_Tr_object 6 = .ok (.getfield 7, 3) := by decide +kernel
theorem d_Tr_object_9 : decode c_Tr_object 9 = .ok (.if_icmp .ge 12, 3) := by decide +kernel
theorem d_Tr_object_12 : decode c_Tr_object 12 = .ok (.aload_n 0, 1) := by decide +kernel
theorem d_Tr_object_13 : decode c_Tr_object 13 = .ok (.getfield 20, 3) := by decide +kernel
theorem d_Tr_object_16 : decode c_Tr_object 16 = .ok (.iload_n 1, 1) := by decide +kernel
theorem d_Tr_object_17 : decode c_Tr_object 17 = .ok (.laload, 1) := by decide +kernel
theorem d_Tr_object_18 : decode c_Tr_object 18 = .ok (.goto 4, 3) := by decide +kernel
theorem d_Tr_object_21 : decode c_Tr_object 21 = .ok (.lconst 0, 1) := by decide +kernel
theorem d_Tr_object_22 : decode c_Tr_object 22 = .ok (.lreturn, 1) := by decide +kernel
theorem d_Tr_find_0 : decode c_Tr_find 0 = .ok (.iconst 0, 1) := by decide +kernel
theorem d_Tr_find_1 : decode c_Tr_find 1 = .ok (.istore 7, 2) := by decide +kernel
theorem d_Tr_find_3 : decode c_Tr_find 3 = .ok (.iload 7, 2) := by decide +kernel
theorem d_Tr_find_5 : decode c_Tr_find 5 = .ok (.aload_n 0, 1) := by decide +kernel
theorem d_Tr_find_6 : decode c_Tr_find 6 = .ok (.getfield 7, 3) := by decide +kernel
theorem d_Tr_find_9 : decode c_Tr_find 9 = .ok (.if_icmp .ge 49, 3) := by decide +kernel
theorem d_Tr_find_12 : decode c_Tr_find 12 = .ok (.aload_n 0, 1) := by decide +kernel
theorem d_Tr_find_13 : decode c_Tr_find 13 = .ok (.getfield 13, 3) := by decide +kernel
theorem d_Tr_find_16 : decode c_Tr_find 16 = .ok (.iload 7, 2) := by decide +kernel
theorem d_Tr_find_18 : decode c_Tr_find 18 = .ok (.laload, 1) := by decide +kernel
theorem d_Tr_find_19 : decode c_Tr_find 19 = .ok (.lload_n 1, 1) := by decide +kernel
theorem d_Tr_find_20 : decode c_Tr_find 20 = .ok (.lcmp, 1) := by decide +kernel
theorem d_Tr_find_21 : decode c_Tr_find 21 = .ok (.ifCond .ne 31, 3) := by decide +kernel
theorem d_Tr_find_24 : decode c_Tr_find 24 = .ok (.aload_n 0, 1) := by decide +kernel
theorem d_Tr_find_25 : decode c_Tr_find 25 = .ok (.getfield 17, 3) := by decide +kernel
theorem d_Tr_find_28 : decode c_Tr_find 28 = .ok (.iload 7, 2) := by decide +kernel
theorem d_Tr_find_30 : decode c_Tr_find 30 = .ok (.laload, 1) := by decide +kernel
theorem d_Tr_find_31 : decode c_Tr_find 31 = .ok (.lload_n 3, 1) := by decide +kernel
theorem d_Tr_find_32 : decode c_Tr_find 32 = .ok (.lcmp, 1) := by decide +kernel
theorem d_Tr_find_33 : decode c_Tr_find 33 = .ok (.ifCond .ne 19, 3) := by decide +kernel
theorem d_Tr_find_36 : decode c_Tr_find 36 = .ok (.aload_n 0, 1) := by decide +kernel
theorem d_Tr_find_37 : decode c_Tr_find 37 = .ok (.getfield 20, 3) := by decide +kernel
theorem d_Tr_find_40 : decode c_Tr_find 40 = .ok (.iload 7, 2) := by decide +kernel
theorem d_Tr_find_42 : decode c_Tr_find 42 = .ok (.laload, 1) := by decide +kernel
theorem d_Tr_find_43 : decode c_Tr_find 43 = .ok (.lload 5, 2) := by decide +kernel
theorem d_Tr_find_45 : decode c_Tr_find 45 = .ok (.lcmp, 1) := by decide +kernel
theorem d_Tr_find_46 : decode c_Tr_find 46 = .ok (.ifCond .ne 6, 3) := by decide +kernel
theorem d_Tr_find_49 : decode c_Tr_find 49 = .ok (.iload 7, 2) := by decide +kernel
theorem d_Tr_find_51 : decode c_Tr_find 51 = .ok (.ireturn, 1) := by decide +kernel
theorem d_Tr_find_52 : decode c_Tr_find 52 = .ok (.iinc 7 1, 3) := by decide +kernel
theorem d_Tr_find_55 : decode c_Tr_find 55 = .ok (.goto (-52), 3) := by decide +kernel
theorem d_Tr_find_58 : decode c_Tr_find 58 = .ok (.iconst (-1), 1) := by decide +kernel
theorem d_Tr_find_59 : decode c_Tr_find 59 = .ok (.ireturn, 1) := by decide +kernel
theorem d_Tr_put_0 : decode c_Tr_put 0 = .ok (.aload_n 0, 1) := by decide +kernel
theorem d_Tr_put_1 : decode c_Tr_put 1 = .ok (.invokevirtual 25, 3) := by decide +kernel
theorem d_Tr_put_4 : decode c_Tr_put 4 = .ok (.ifCond .eq 4, 3) := by decide +kernel
theorem d_Tr_put_7 : decode c_Tr_put 7 = .ok (.return_, 1) := by decide +kernel
theorem d_Tr_put_8 : decode c_Tr_put 8 = .ok (.aload_n 0, 1) := by decide +kernel
theorem d_Tr_put_9 : decode c_Tr_put 9 = .ok (.getfield 13, 3) := by decide +kernel
theorem d_Tr_put_12 : decode c_Tr_put 12 = .ok (.aload_n 0, 1) := by decide +kernel
theorem d_Tr_put_13 : decode c_Tr_put 13 = .ok (.getfield 7, 3) := by decide +kernel
theorem d_Tr_put_16 : decode c_Tr_put 16 = .ok (.lload_n 1, 1) := by decide +kernel
theorem d_Tr_put_17 : decode c_Tr_put 17 = .ok (.lastore, 1) := by decide +kernel
theorem d_Tr_put_18 : decode c_Tr_put 18 = .ok (.aload_n 0, 1) := by decide +kernel
theorem d_Tr_put_19 : decode c_Tr_put 19 = .ok (.getfield 17, 3) := by decide +kernel
theorem d_Tr_put_22 : decode c_Tr_put 22 = .ok (.aload_n 0, 1) := by decide +kernel
theorem d_Tr_put_23 : decode c_Tr_put 23 = .ok (.getfield 7, 3) := by decide +kernel
theorem d_Tr_put_26 : decode c_Tr_put 26 = .ok (.lload_n 3, 1) := by decide +kernel
theorem d_Tr_put_27 : decode c_Tr_put 27 = .ok (.lastore, 1) := by decide +kernel
theorem d_Tr_put_28 : decode c_Tr_put 28 = .ok (.aload_n 0, 1) := by decide +kernel
theorem d_Tr_put_29 : decode c_Tr_put 29 = .ok (.getfield 20, 3) := by decide +kernel
theorem d_Tr_put_32 : decode c_Tr_put 32 = .ok (.aload_n 0, 1) := by decide +kernel
theorem d_Tr_put_33 : decode c_Tr_put 33 = .ok (.getfield 7, 3) := by decide +kernel
theorem d_Tr_put_36 : decode c_Tr_put 36 = .ok (.lload 5, 2) := by decide +kernel
theorem d_Tr_put_38 : decode c_Tr_put 38 = .ok (.lastore, 1) := by decide +kernel
theorem d_Tr_put_39 : decode c_Tr_put 39 = .ok (.aload_n 0, 1) := by decide +kernel
theorem d_Tr_put_40 : decode c_Tr_put 40 = .ok (.dup, 1) := by decide +kernel
theorem d_Tr_put_41 : decode c_Tr_put 41 = .ok (.getfield 7, 3) := by decide +kernel
theorem d_Tr_put_44 : decode c_Tr_put 44 = .ok (.iconst 1, 1) := by decide +kernel
theorem d_Tr_put_45 : decode c_Tr_put 45 = .ok (.iadd, 1) := by decide +kernel
theorem d_Tr_put_46 : decode c_Tr_put 46 = .ok (.putfield 7, 3) := by decide +kernel
theorem d_Tr_put_49 : decode c_Tr_put 49 = .ok (.return_, 1) := by decide +kernel
theorem d_Tr_drop_0 : decode c_Tr_drop 0 = .ok (.iload_n 1, 1) := by decide +kernel
theorem d_Tr_drop_1 : decode c_Tr_drop 1 = .ok (.ifCond .lt 11, 3) := by decide +kernel
theorem d_Tr_drop_4 : decode c_Tr_drop 4 = .ok (.iload_n 1, 1) := by decide +kernel
theorem d_Tr_drop_5 : decode c_Tr_drop 5 = .ok (.aload_n 0, 1) := by decide +kernel
theorem d_Tr_drop_6 : decode c_Tr_drop 6 = .ok (.getfield 7, 3) := by decide +kernel
theorem d_Tr_drop_9 : decode c_Tr_drop 9 = .ok (.if_icmp .lt 4, 3) := by decide +kernel
theorem d_Tr_drop_12 : decode c_Tr_drop 12 = .ok (.return_, 1) := by decide +kernel
theorem d_Tr_drop_13 : decode c_Tr_drop 13 = .ok (.aload_n 0, 1) := by decide +kernel
theorem d_Tr_drop_14 : decode c_Tr_drop 14 = .ok (.dup, 1) := by decide +kernel
theorem d_Tr_drop_15 : decode c_Tr_drop 15 = .ok (.getfield 7, 3) := by decide +kernel
theorem d_Tr_drop_18 : decode c_Tr_drop 18 = .ok (.iconst 1, 1) := by decide +kernel
theorem d_Tr_drop_19 : decode c_Tr_drop 19 = .ok (.isub, 1) := by decide +kernel
theorem d_Tr_drop_20 : decode c_Tr_drop 20 = .ok (.putfield 7, 3) := by decide +kernel
theorem d_Tr_drop_23 : decode c_Tr_drop 23 = .ok (.aload_n 0, 1) := by decide +kernel
theorem d_Tr_drop_24 : decode c_Tr_drop 24 = .ok (.getfield 13, 3) := by decide +kernel
theorem d_Tr_drop_27 : decode c_Tr_drop 27 = .ok (.iload_n 1, 1) := by decide +kernel
theorem d_Tr_drop_28 : decode c_Tr_drop 28 = .ok (.aload_n 0, 1) := by decide +kernel
theorem d_Tr_drop_29 : decode c_Tr_drop 29 = .ok (.getfield 13, 3) := by decide +kernel
theorem d_Tr_drop_32 : decode c_Tr_drop 32 = .ok (.aload_n 0, 1) := by decide +kernel
theorem d_Tr_drop_33 : decode c_Tr_drop 33 = .ok (.getfield 7, 3) := by decide +kernel
theorem d_Tr_drop_36 : decode c_Tr_drop 36 = .ok (.laload, 1) := by decide +kernel
theorem d_Tr_drop_37 : decode c_Tr_drop 37 = .ok (.lastore, 1) := by decide +kernel
theorem d_Tr_drop_38 : decode c_Tr_drop 38 = .ok (.aload_n 0, 1) := by decide +kernel
theorem d_Tr_drop_39 : decode c_Tr_drop 39 = .ok (.getfield 17, 3) := by decide +kernel
theorem d_Tr_drop_42 : decode c_Tr_drop 42 = .ok (.iload_n 1, 1) := by decide +kernel
theorem d_Tr_drop_43 : decode c_Tr_drop 43 = .ok (.aload_n 0, 1) := by decide +kernel
theorem d_Tr_drop_44 : decode c_Tr_drop 44 = .ok (.getfield 17, 3) := by decide +kernel
theorem d_Tr_drop_47 : decode c_Tr_drop 47 = .ok (.aload_n 0, 1) := by decide +kernel
theorem d_Tr_drop_48 : decode c_Tr_drop 48 = .ok (.getfield 7, 3) := by decide +kernel
theorem d_Tr_drop_51 : decode c_Tr_drop 51 = .ok (.laload, 1) := by decide +kernel
theorem d_Tr_drop_52 : decode c_Tr_drop 52 = .ok (.lastore, 1) := by decide +kernel
theorem d_Tr_drop_53 : decode c_Tr_drop 53 = .ok (.aload_n 0, 1) := by decide +kernel
theorem d_Tr_drop_54 : decode c_Tr_drop 54 = .ok (.getfield 20, 3) := by decide +kernel
theorem d_Tr_drop_57 : decode c_Tr_drop 57 = .ok (.iload_n 1, 1) := by decide +kernel
theorem d_Tr_drop_58 : decode c_Tr_drop 58 = .ok (.aload_n 0, 1) := by decide +kernel
theorem d_Tr_drop_59 : decode c_Tr_drop 59 = .ok (.getfield 20, 3) := by decide +kernel
theorem d_Tr_drop_62 : decode c_Tr_drop 62 = .ok (.aload_n 0, 1) := by decide +kernel
theorem d_Tr_drop_63 : decode c_Tr_drop 63 = .ok (.getfield 7, 3) := by decide +kernel
theorem d_Tr_drop_66 : decode c_Tr_drop 66 = .ok (.laload, 1) := by decide +kernel
theorem d_Tr_drop_67 : decode c_Tr_drop 67 = .ok (.lastore, 1) := by decide +kernel
theorem d_Tr_drop_68 : decode c_Tr_drop 68 = .ok (.return_, 1) := by decide +kernel
end
section
section GLC
variable {X : gC} {cc : ByteArray} {own : String} {Ts : List Cond} {M : List mC} {k n pc : Nat} {L : List (Nat × Value)} {st : List Value}
theorem g_lc_eq (ok : gO X cc own Ts) {x y : Int64} {off : Int} {tgt : Nat} (hd : decode cc pc = .ok (.lcmp, 1)) (hd2 : decode cc (pc + 1) = .ok (.ifCond .eq off, 3)) (ht : ((pc + 1 : Nat) : Int) + off = (tgt : Int)) (kt : x = y → gg X M k n tgt L st) (kf : ¬ x = y → gg X M k n (pc + 4) L st) : gg X M k n pc L (.long y :: .long x :: st) := by
  refine g_lcmp ok hd ?_
  exact g_if_eq ok hd2 ht (fun z => kt ((lg_cmp_eq x y).mp z)) (fun z => kf (fun q => z ((lg_cmp_eq x y).mpr q)))
theorem g_lc_ne (ok : gO X cc own Ts) {x y : Int64} {off : Int} {tgt : Nat} (hd : decode cc pc = .ok (.lcmp, 1)) (hd2 : decode cc (pc + 1) = .ok (.ifCond .ne off, 3)) (ht : ((pc + 1 : Nat) : Int) + off = (tgt : Int)) (kt : ¬ x = y → gg X M k n tgt L st) (kf : x = y → gg X M k n (pc + 4) L st) : gg X M k n pc L (.long y :: .long x :: st) := by
  refine g_lcmp ok hd ?_
  exact g_if_ne ok hd2 ht (fun z => kt (fun q => z ((lg_cmp_eq x y).mpr q))) (fun z => kf ((lg_cmp_eq x y).mp z))
theorem g_lc_lt (ok : gO X cc own Ts) {x y : Int64} {off : Int} {tgt : Nat} (hd : decode cc pc = .ok (.lcmp, 1)) (hd2 : decode cc (pc + 1) = .ok (.ifCond .lt off, 3)) (ht : ((pc + 1 : Nat) : Int) + off = (tgt : Int)) (kt : x < y → gg X M k n tgt L st) (kf : ¬ x < y → gg X M k n (pc + 4) L st) : gg X M k n pc L (.long y :: .long x :: st) := by
  refine g_lcmp ok hd ?_
  exact g_if_lt ok hd2 ht (fun z => kt ((lg_cmp_lt x y).mp z)) (fun z => kf (fun q => z ((lg_cmp_lt x y).mpr q)))
theorem g_lc_ge (ok : gO X cc own Ts) {x y : Int64} {off : Int} {tgt : Nat} (hd : decode cc pc = .ok (.lcmp, 1)) (hd2 : decode cc (pc + 1) = .ok (.ifCond .ge off, 3)) (ht : ((pc + 1 : Nat) : Int) + off = (tgt : Int)) (kt : y ≤ x → gg X M k n tgt L st) (kf : ¬ y ≤ x → gg X M k n (pc + 4) L st) : gg X M k n pc L (.long y :: .long x :: st) := by
  refine g_lcmp ok hd ?_
  exact g_if_ge ok hd2 ht (fun z => kt ((lg_cmp_ge x y).mp z)) (fun z => kf (fun q => z ((lg_cmp_ge x y).mpr q)))
theorem g_lc_gt (ok : gO X cc own Ts) {x y : Int64} {off : Int} {tgt : Nat} (hd : decode cc pc = .ok (.lcmp, 1)) (hd2 : decode cc (pc + 1) = .ok (.ifCond .gt off, 3)) (ht : ((pc + 1 : Nat) : Int) + off = (tgt : Int)) (kt : y < x → gg X M k n tgt L st) (kf : ¬ y < x → gg X M k n (pc + 4) L st) : gg X M k n pc L (.long y :: .long x :: st) := by
  refine g_lcmp ok hd ?_
  exact g_if_gt ok hd2 ht (fun z => kt ((lg_cmp_gt x y).mp z)) (fun z => kf (fun q => z ((lg_cmp_gt x y).mpr q)))
theorem g_lc_le (ok : gO X cc own Ts) {x y : Int64} {off : Int} {tgt : Nat} (hd : decode cc pc = .ok (.lcmp, 1)) (hd2 : decode cc (pc + 1) = .ok (.ifCond .le off, 3)) (ht : ((pc + 1 : Nat) : Int) + off = (tgt : Int)) (kt : x ≤ y → gg X M k n tgt L st) (kf : ¬ x ≤ y → gg X M k n (pc + 4) L st) : gg X M k n pc L (.long y :: .long x :: st) := by
  refine g_lcmp ok hd ?_
  exact g_if_le ok hd2 ht (fun z => kt ((lg_cmp_le x y).mp z)) (fun z => kf (fun q => z ((lg_cmp_le x y).mpr q)))
end GLC
theorem gE.nL {X : gC} {l9 : Launch} {y : MethodName} {rm : Room} {nl : Nat} {ret : Option FieldType} {M0 : List mC} {post : Option Value → List mC → Prop} (E : gE X l9 y rm nl ret M0 post) : gL X = nl := by
  obtain ⟨p, l, e, R, s, m, args, below, meth, c, nL, D, tc, A, n0, ad0, Q⟩ := X
  exact E.2.2.1
theorem gE.nR {X : gC} {l9 : Launch} {y : MethodName} {rm : Room} {nl : Nat} {ret : Option FieldType} {M0 : List mC} {post : Option Value → List mC → Prop} (E : gE X l9 y rm nl ret M0 post) : gR X = rm := by
  obtain ⟨p, l, e, R, s, m, args, below, meth, c, nL, D, tc, A, n0, ad0, Q⟩ := X
  exact E.2.1
theorem gE.La {X : gC} {l9 : Launch} {y : MethodName} {rm : Room} {nl : Nat} {ret : Option FieldType} {M0 : List mC} {post : Option Value → List mC → Prop} (E : gE X l9 y rm nl ret M0 post) : gLa X = l9 := by
  obtain ⟨p, l, e, R, s, m, args, below, meth, c, nL, D, tc, A, n0, ad0, Q⟩ := X
  exact E.1
theorem gE.nm {X : gC} {l9 : Launch} {y : MethodName} {rm : Room} {nl : Nat} {ret : Option FieldType} {M0 : List mC} {post : Option Value → List mC → Prop} (E : gE X l9 y rm nl ret M0 post) : (gM X).name = y.name := by
  obtain ⟨p, l, e, R, s, m, args, below, meth, c, nL, D, tc, A, n0, ad0, Q⟩ := X
  exact E.2.2.2.2.2.2.2
theorem i_Object : Cond.code Lib.objectInit ⟨#[0xb1]⟩ 1 none ∈ gT := gT_at 30 (by decide +kernel) (by decide +kernel)
theorem wn_Object : Cond.instanceMethod Lib.objectInit ∈ gT := gT_at 29 (by decide +kernel) (by decide +kernel)
theorem ml_TS_3 : Cond.methodLink "TripleStore" 3 Lib.objectInit ∈ gT := gT_at 28 (by decide +kernel) (by decide +kernel)
theorem ml_St_3 : Cond.methodLink "TripleStore$Store" 3 Lib.objectInit ∈ gT := gT_at 36 (by decide +kernel) (by decide +kernel)
theorem ml_Tr_1 : Cond.methodLink "TripleStore$Triples" 1 Lib.objectInit ∈ gT := gT_at 42 (by decide +kernel) (by decide +kernel)
theorem ml_To_3 : Cond.methodLink "TripleStore$Tokens" 3 Lib.objectInit ∈ gT := gT_at 89 (by decide +kernel) (by decide +kernel)
theorem ml_Qu_3 : Cond.methodLink "TripleStore$Query" 3 Lib.objectInit ∈ gT := gT_at 112 (by decide +kernel) (by decide +kernel)
theorem ml_El_3 : Cond.methodLink "TripleStore$Element" 3 Lib.objectInit ∈ gT := gT_at 119 (by decide +kernel) (by decide +kernel)
theorem ml_Pa_3 : Cond.methodLink "TripleStore$Parser" 3 Lib.objectInit ∈ gT := gT_at 215 (by decide +kernel) (by decide +kernel)
theorem ml_Sv_3 : Cond.methodLink "TripleStore$Solver" 3 Lib.objectInit ∈ gT := gT_at 231 (by decide +kernel) (by decide +kernel)
theorem ml_So_3 : Cond.methodLink "TripleStore$Solutions" 3 Lib.objectInit ∈ gT := gT_at 238 (by decide +kernel) (by decide +kernel)
theorem ml_Ro_3 : Cond.methodLink "TripleStore$Rows" 3 Lib.objectInit ∈ gT := gT_at 267 (by decide +kernel) (by decide +kernel)
theorem ml_Mo_1 : Cond.methodLink "TripleStoreModel" 1 Lib.objectInit ∈ gT := gT_at 974 (by decide +kernel) (by decide +kernel)
theorem gs_ne {M : List mC} {i j : Nat} {c : mC} (h : i ≠ j) : (M.set i c)[j]? = M[j]? := List.getElem?_set_ne h
theorem gs_eq {M : List mC} {i : Nat} {c c0 : mC} (h : M[i]? = some c0) : (M.set i c)[i]? = some c := List.getElem?_set_self (List.getElem?_eq_some_iff.mp h).1
theorem ne_ao {M : List mC} {i j : Nat} {x : Nat × vp_A} {y : Nat × List Value} (h : M[i]? = some (.inl x)) (h2 : M[j]? = some (.inr y)) : i ≠ j := by
  intro e
  subst e
  rw [h] at h2
  cases h2
def rmh (h : Nat) : Room := { frames := h, cells := 0, slots := 0, locals := 64 * h }
theorem gF_h {X : gC} {h h' nl : Nat} (hX : gR X = rmh h') (h1 : h + 1 ≤ h') (h2 : nl ≤ 45) : gF X (rmh h) nl 0 0 := by
  unfold gF
  rw [hX]
  simp only [rmh]
  omega
end
section
theorem k_So_init_0 {X : gC} {M : List mC} {k n : Nat} {x0 : Nat} (ok : gO X c_So_init "TripleStore$Solutions" w_So_init)  (hf : 1 ≤ (gR X).frames) (hl2 : (([] : List Value).map fun v => v.category).sum + 12 ≤ (gR X).locals) (kk : gg X M k n 4 [(0, .ref x0)] []) : gg X M k n 0 [(0, .ref x0)] [] := by
  refine g_aload_n ok d_So_init_0 rfl (j := 0) rfl ?_
  exact g_objI ok ml_So_3 wn_Object i_Object d_So_init_1 hf hl2 kk
theorem k_So_size_0 {X : gC} {M : List mC} {k n : Nat} {x0 : Nat} {fs2 : List Value} {f3 : Int32} (ok : gO X c_So_size "TripleStore$Solutions" w_So_size) (h1 : M[x0]? = some (.inr (4, fs2))) (h4 : fs2[1]? = some (.int f3)) {l9 : Launch} {rm : Room} {M0 : List mC} {post : Option Value → List mC → Prop} (E : gE X l9 y_So_size rm 1 (some .int) M0 post) (hp : post (some (.int f3)) M) (hk : k ≤ rm.cells) (hn : n ≤ rm.slots) : gg X M k n 0 [(0, .ref x0)] [] := by
  refine g_aload_n ok d_So_size_0 rfl (j := 0) rfl ?_
  refine gf_So_15 ok d_So_size_1 h1 h4 ?_
  exact g_iret ok E d_So_size_4 hp hk hn
theorem k_So_clear_0 {X : gC} {M : List mC} {k n : Nat} {x0 : Nat} {fs2 : List Value} {M5 : List mC} (ok : gO X c_So_clear "TripleStore$Solutions" w_So_clear) (h1 : M[x0]? = some (.inr (4, fs2))) (h4 : 2 ≤ fs2.length) (h6 : M.set x0 (.inr (4, (fs2.set 1 (.int 0)))) = M5) {l9 : Launch} {rm : Room} {M0 : List mC} {post : Option Value → List mC → Prop} (E : gE X l9 y_So_clear rm 1 none M0 post) (hp : post (none) M5) (hk : k ≤ rm.cells) (hn : n ≤ rm.slots) : gg X M k n 0 [(0, .ref x0)] [] := by
  refine g_aload_n ok d_So_clear_0 rfl (j := 0) rfl ?_
  refine g_iconst (v := 0) ok d_So_clear_1 (by decide) ?_
  have h3 : 1 < (fs2).length := by first | omega | (simp only [List.length_set]; omega)
  refine pf_So_15 ok d_So_clear_2 h1 h3 (fun _ => ⟨rfl, rfl⟩) ?_
  rw [h6]
  have h7 : M5[x0]? = some (.inr (4, (fs2.set 1 (.int 0)))) := by rw [← h6]; exact gs_eq h1
  have h8 : (fs2.set 1 (.int 0))[1]? = some (.int 0) := List.getElem?_set_self h3
  exact g_vret ok E d_So_clear_5 hp hk hn
theorem k_So_term_0 {X : gC} {M : List mC} {k n : Nat} {x0 : Nat} {x1 : Int32} {x2 : Int32} (ok : gO X c_So_term "TripleStore$Solutions" w_So_term)  (kt : x1 < 0 → gg X M k n 22 [(0, .ref x0), (1, .int x1), (2, .int x2)] []) (kf : ¬ x1 < 0 → gg X M k n 4 [(0, .ref x0), (1, .int x1), (2, .int x2)] []) : gg X M k n 0 [(0, .ref x0), (1, .int x1), (2, .int x2)] [] := by
  refine g_iload_n ok d_So_term_0 rfl (j := 1) rfl ?_
  exact g_if_lt (tgt := 22) ok d_So_term_1 (by decide) kt kf
theorem k_So_term_4 {X : gC} {M : List mC} {k n : Nat} {x0 : Nat} {x1 : Int32} {x2 : Int32} {fs2 : List Value} {f3 : Int32} (ok : gO X c_So_term "TripleStore$Solutions" w_So_term) (h1 : M[x0]? = some (.inr (4, fs2))) (h4 : fs2[1]? = some (.int f3)) (kt : f3 ≤ x1 → gg X M k n 22 [(0, .ref x0), (1, .int x1), (2, .int x2)] []) (kf : ¬ f3 ≤ x1 → gg X M k n 12 [(0, .ref x0), (1, .int x1), (2, .int x2)] []) : gg X M k n 4 [(0, .ref x0), (1, .int x1), (2, .int x2)] [] := by
  refine g_iload_n ok d_So_term_4 rfl (j := 1) rfl ?_
  refine g_aload_n ok d_So_term_5 rfl (j := 0) rfl ?_
  refine gf_So_15 ok d_So_term_6 h1 h4 ?_
  exact g_icmp_ge (tgt := 22) ok d_So_term_9 (by decide) kt kf
theorem k_So_term_12 {X : gC} {M : List mC} {k n : Nat} {x0 : Nat} {x1 : Int32} {x2 : Int32} (ok : gO X c_So_term "TripleStore$Solutions" w_So_term)  (kt : x2 < 0 → gg X M k n 22 [(0, .ref x0), (1, .int x1), (2, .int x2)] []) (kf : ¬ x2 < 0 → gg X M k n 16 [(0, .ref x0), (1, .int x1), (2, .int x2)] []) : gg X M k n 12 [(0, .ref x0), (1, .int x1), (2, .int x2)] [] := by
  refine g_iload_n ok d_So_term_12 rfl (j := 2) rfl ?_
  exact g_if_lt (tgt := 22) ok d_So_term_13 (by decide) kt kf
theorem k_So_term_16 {X : gC} {M : List mC} {k n : Nat} {x0 : Nat} {x1 : Int32} {x2 : Int32} (ok : gO X c_So_term "TripleStore$Solutions" w_So_term)  (kt : x2 < 6 → gg X M k n 24 [(0, .ref x0), (1, .int x1), (2, .int x2)] []) (kf : ¬ x2 < 6 → gg X M k n 22 [(0, .ref x0), (1, .int x1), (2, .int x2)] []) : gg X M k n 16 [(0, .ref x0), (1, .int x1), (2, .int x2)] [] := by
  refine g_iload_n ok d_So_term_16 rfl (j := 2) rfl ?_
  refine g_bipush (v := 6) ok d_So_term_17 (by decide) ?_
  exact g_icmp_lt (tgt := 24) ok d_So_term_19 (by decide) kt kf
theorem k_So_term_22 {X : gC} {M : List mC} {k n : Nat} {x0 : Nat} {x1 : Int32} {x2 : Int32} (ok : gO X c_So_term "TripleStore$Solutions" w_So_term)  {l9 : Launch} {rm : Room} {M0 : List mC} {post : Option Value → List mC → Prop} (E : gE X l9 y_So_term rm 3 (some .long) M0 post) (hp : post (some (.long 0)) M) (hk : k ≤ rm.cells) (hn : n ≤ rm.slots) : gg X M k n 22 [(0, .ref x0), (1, .int x1), (2, .int x2)] [] := by
  refine g_lconst (v := 0) ok d_So_term_22 (by decide) ?_
  exact g_lret ok E d_So_term_23 hp hk hn
theorem k_So_term_24 {X : gC} {M : List mC} {k n : Nat} {x0 : Nat} {x1 : Int32} {x2 : Int32} {fs2 : List Value} {f3 : Nat} {g6 : Nat → Int64} {N7 : Nat} (ok : gO X c_So_term "TripleStore$Solutions" w_So_term) (h1 : M[x0]? = some (.inr (4, fs2))) (h4 : fs2[0]? = some (.ref f3)) (h5 : M[f3]? = some (.inl (1, N7, .inr (.inl g6)))) (h8 : vp_in ((x1 * 6) + x2) N7) {l9 : Launch} {rm : Room} {M0 : List mC} {post : Option Value → List mC → Prop} (E : gE X l9 y_So_term rm 3 (some .long) M0 post) (hp : post (some (.long (g6 ((x1 * 6) + x2).toNatClampNeg))) M) (hk : k ≤ rm.cells) (hn : n ≤ rm.slots) : gg X M k n 24 [(0, .ref x0), (1, .int x1), (2, .int x2)] [] := by
  refine g_aload_n ok d_So_term_24 rfl (j := 0) rfl ?_
  refine gf_So_9 ok d_So_term_25 h1 h4 ?_
  refine g_iload_n ok d_So_term_28 rfl (j := 1) rfl ?_
  refine g_bipush (v := 6) ok d_So_term_29 (by decide) ?_
  refine g_imul ok d_So_term_31 ?_
  refine g_iload_n ok d_So_term_32 rfl (j := 2) rfl ?_
  refine g_iadd ok d_So_term_33 ?_
  refine g_lald (t := 1) ok rfl d_So_term_34 h5 h8 ?_
  exact g_lret ok E d_So_term_35 hp hk hn
theorem k_So_put_0 {X : gC} {M : List mC} {k n : Nat} {x0 : Nat} {x1 : Nat} {fs2 : List Value} {f3 : Int32} (ok : gO X c_So_put "TripleStore$Solutions" w_So_put) (h1 : M[x0]? = some (.inr (4, fs2))) (h4 : fs2[1]? = some (.int f3)) (kt : f3 < 150 → gg X M k n 12 [(0, .ref x0), (1, .ref x1)] []) (kf : ¬ f3 < 150 → gg X M k n 10 [(0, .ref x0), (1, .ref x1)] []) : gg X M k n 0 [(0, .ref x0), (1, .ref x1)] [] := by
  refine g_aload_n ok d_So_put_0 rfl (j := 0) rfl ?_
  refine gf_So_15 ok d_So_put_1 h1 h4 ?_
  refine g_sipush (v := 150) ok d_So_put_4 (by decide) ?_
  exact g_icmp_lt (tgt := 12) ok d_So_put_7 (by decide) kt kf
theorem k_So_put_10 {X : gC} {M : List mC} {k n : Nat} {x0 : Nat} {x1 : Nat} (ok : gO X c_So_put "TripleStore$Solutions" w_So_put)  {l9 : Launch} {rm : Room} {M0 : List mC} {post : Option Value → List mC → Prop} (E : gE X l9 y_So_put rm 2 (some .boolean) M0 post) (hp : post (some (.int 0)) M) (hk : k ≤ rm.cells) (hn : n ≤ rm.slots) : gg X M k n 10 [(0, .ref x0), (1, .ref x1)] [] := by
  refine g_iconst (v := 0) ok d_So_put_10 (by decide) ?_
  exact g_zret ok E d_So_put_11 rfl hp hk hn
theorem k_So_put_30 {X : gC} {M : List mC} {k n : Nat} {x0 : Nat} {x1 : Nat} {fs2 : List Value} {f3 : Int32} {M7 : List mC} (ok : gO X c_So_put "TripleStore$Solutions" w_So_put) (h1 : M[x0]? = some (.inr (4, fs2))) (h4 : fs2[1]? = some (.int f3)) (h6 : 2 ≤ fs2.length) (h8 : M.set x0 (.inr (4, (fs2.set 1 (.int (f3 + 1))))) = M7) {l9 : Launch} {rm : Room} {M0 : List mC} {post : Option Value → List mC → Prop} (E : gE X l9 y_So_put rm 2 (some .boolean) M0 post) (hp : post (some (.int 1)) M7) (hk : k ≤ rm.cells) (hn : n ≤ rm.slots) : gg X M k n 30 [(0, .ref x0), (1, .ref x1)] [] := by
  refine g_aload_n ok d_So_put_30 rfl (j := 0) rfl ?_
  refine g_dup ok d_So_put_31 rfl ?_
  refine gf_So_15 ok d_So_put_32 h1 h4 ?_
  refine g_iconst (v := 1) ok d_So_put_35 (by decide) ?_
  refine g_iadd ok d_So_put_36 ?_
  have h5 : 1 < (fs2).length := by first | omega | (simp only [List.length_set]; omega)
  refine pf_So_15 ok d_So_put_37 h1 h5 (fun _ => ⟨rfl, rfl⟩) ?_
  rw [h8]
  have h9 : M7[x0]? = some (.inr (4, (fs2.set 1 (.int (f3 + 1))))) := by rw [← h8]; exact gs_eq h1
  have h10 : (fs2.set 1 (.int (f3 + 1)))[1]? = some (.int (f3 + 1)) := List.getElem?_set_self h5
  refine g_iconst (v := 1) ok d_So_put_40 (by decide) ?_
  exact g_zret ok E d_So_put_41 rfl hp hk hn
theorem k_So_copy_0 {X : gC} {M : List mC} {k n : Nat} {x0 : Nat} {x1 : Int32} {x2 : Nat} (ok : gO X c_So_copy "TripleStore$Solutions" w_So_copy)  (kt : x1 < 0 → gg X M k n 27 [(0, .ref x0), (1, .int x1), (2, .ref x2)] []) (kf : ¬ x1 < 0 → gg X M k n 4 [(0, .ref x0), (1, .int x1), (2, .ref x2)] []) : gg X M k n 0 [(0, .ref x0), (1, .int x1), (2, .ref x2)] [] := by
  refine g_iload_n ok d_So_copy_0 rfl (j := 1) rfl ?_
  exact g_if_lt (tgt := 27) ok d_So_copy_1 (by decide) kt kf
theorem k_So_copy_4 {X : gC} {M : List mC} {k n : Nat} {x0 : Nat} {x1 : Int32} {x2 : Nat} {fs2 : List Value} {f3 : Int32} (ok : gO X c_So_copy "TripleStore$Solutions" w_So_copy) (h1 : M[x0]? = some (.inr (4, fs2))) (h4 : fs2[1]? = some (.int f3)) (kt : f3 ≤ x1 → gg X M k n 27 [(0, .ref x0), (1, .int x1), (2, .ref x2)] []) (kf : ¬ f3 ≤ x1 → gg X M k n 12 [(0, .ref x0), (1, .int x1), (2, .ref x2)] []) : gg X M k n 4 [(0, .ref x0), (1, .int x1), (2, .ref x2)] [] := by
  refine g_iload_n ok d_So_copy_4 rfl (j := 1) rfl ?_
  refine g_aload_n ok d_So_copy_5 rfl (j := 0) rfl ?_
  refine gf_So_15 ok d_So_copy_6 h1 h4 ?_
  exact g_icmp_ge (tgt := 27) ok d_So_copy_9 (by decide) kt kf
theorem k_So_copy_27 {X : gC} {M : List mC} {k n : Nat} {x0 : Nat} {x1 : Int32} {x2 : Nat} (ok : gO X c_So_copy "TripleStore$Solutions" w_So_copy)  {l9 : Launch} {rm : Room} {M0 : List mC} {post : Option Value → List mC → Prop} (E : gE X l9 y_So_copy rm 3 none M0 post) (hp : post (none) M) (hk : k ≤ rm.cells) (hn : n ≤ rm.slots) : gg X M k n 27 [(0, .ref x0), (1, .int x1), (2, .ref x2)] [] := by
  exact g_vret ok E d_So_copy_27 hp hk hn
theorem k_So_joinInto_0 {X : gC} {M : List mC} {k n : Nat} {x0 : Nat} {x1 : Int32} {x2 : Nat} (ok : gO X c_So_joinInto "TripleStore$Solutions" w_So_joinInto) (hl : gL X = 6)  (kk : gg X M k n 2 [(0, .ref x0), (1, .int x1), (2, .ref x2), (3, .int 0)] []) : gg X M k n 0 [(0, .ref x0), (1, .int x1), (2, .ref x2)] [] := by
  refine g_iconst (v := 0) ok d_So_joinInto_0 (by decide) ?_
  refine g_istore_n (L' := [(0, .ref x0), (1, .int x1), (2, .ref x2), (3, .int 0)]) ok d_So_joinInto_1 rfl (by rw [hl]; decide) rfl ?_
  exact kk
theorem k_So_joinInto_2 {X : gC} {M : List mC} {k n : Nat} {x0 : Nat} {x1 : Int32} {x2 : Nat} {x3 : Int32} (ok : gO X c_So_joinInto "TripleStore$Solutions" w_So_joinInto)  (kt : 6 ≤ x3 → gg X M k n 56 [(0, .ref x0), (1, .int x1), (2, .ref x2), (3, .int x3)] []) (kf : ¬ 6 ≤ x3 → gg X M k n 8 [(0, .ref x0), (1, .int x1), (2, .ref x2), (3, .int x3)] []) : gg X M k n 2 [(0, .ref x0), (1, .int x1), (2, .ref x2), (3, .int x3)] [] := by
  refine g_iload_n ok d_So_joinInto_2 rfl (j := 3) rfl ?_
  refine g_bipush (v := 6) ok d_So_joinInto_3 (by decide) ?_
  exact g_icmp_ge (tgt := 56) ok d_So_joinInto_5 (by decide) kt kf
theorem k_So_joinInto_8 {X : gC} {M : List mC} {k n : Nat} {x0 : Nat} {x1 : Int32} {x2 : Nat} {x3 : Int32} {fs2 : List Value} (ok : gO X c_So_joinInto "TripleStore$Solutions" w_So_joinInto) (h1 : M[x0]? = some (.inr (4, fs2))) {rm : Room} {post : Option Value → List mC → Prop} (hm : mm_ (gLa X) y_So_term w_So_term rm [.ref x0, .int x1, .int x3] M post) (hR : gF X rm 3 k n) (hlen : ∀ r M', post r M' → M'.length = M.length) (kk : ∀ r M', post r M' → gg X M' (k + rm.cells) (n + rm.slots) 14 [(0, .ref x0), (1, .int x1), (2, .ref x2), (3, .int x3)] (r.toList ++ [])) : gg X M k n 8 [(0, .ref x0), (1, .int x1), (2, .ref x2), (3, .int x3)] [] := by
  refine g_aload_n ok d_So_joinInto_8 rfl (j := 0) rfl ?_
  refine g_iload_n ok d_So_joinInto_9 rfl (j := 1) rfl ?_
  refine g_iload_n ok d_So_joinInto_10 rfl (j := 3) rfl ?_
  exact gc_So_27 (As := [.int x1, .int x3]) (rest := []) ok d_So_joinInto_11 hm rfl rfl (Nat.le_of_ble_eq_true rfl) hR h1 hlen kk
theorem k_So_joinInto_14 {X : gC} {M : List mC} {k n : Nat} {x0 : Nat} {x1 : Int32} {x2 : Nat} {x3 : Int32} {s0 : Int64} {g2 : Nat → Int64} {N3 : Nat} (ok : gO X c_So_joinInto "TripleStore$Solutions" w_So_joinInto) (hl : gL X = 6) (h1 : M[x2]? = some (.inl (1, N3, .inr (.inl g2)))) (h4 : vp_in x3 N3) (kt : ¬ (g2 x3.toNatClampNeg) = 0 → gg X M k n 32 [(0, .ref x0), (1, .int x1), (2, .ref x2), (3, .int x3), (4, .long s0)] []) (kf : (g2 x3.toNatClampNeg) = 0 → gg X M k n 24 [(0, .ref x0), (1, .int x1), (2, .ref x2), (3, .int x3), (4, .long s0)] []) : gg X M k n 14 [(0, .ref x0), (1, .int x1), (2, .ref x2), (3, .int x3)] [.long s0] := by
  refine g_lstore (L' := [(0, .ref x0), (1, .int x1), (2, .ref x2), (3, .int x3), (4, .long s0)]) ok d_So_joinInto_14 (by rw [hl]; decide) rfl ?_
  refine g_aload_n ok d_So_joinInto_16 rfl (j := 2) rfl ?_
  refine g_iload_n ok d_So_joinInto_17 rfl (j := 3) rfl ?_
  refine g_lald (t := 1) ok rfl d_So_joinInto_18 h1 h4 ?_
  refine g_lconst (v := 0) ok d_So_joinInto_19 (by decide) ?_
  exact g_lc_ne (tgt := 32) ok d_So_joinInto_20 d_So_joinInto_21 (by decide) kt kf
theorem k_So_joinInto_24 {X : gC} {M : List mC} {k n : Nat} {x0 : Nat} {x1 : Int32} {x2 : Nat} {x3 : Int32} {x4 : Int64} {g2 : Nat → Int64} {N3 : Nat} {M5 : List mC} (ok : gO X c_So_joinInto "TripleStore$Solutions" w_So_joinInto) (h1 : M[x2]? = some (.inl (1, N3, .inr (.inl g2)))) (h4 : vp_in x3 N3) (h6 : M.set x2 (.inl (1, N3, .inr (.inl (vp_updL g2 x3.toNatClampNeg x4)))) = M5) (kk : gg X M5 k n 50 [(0, .ref x0), (1, .int x1), (2, .ref x2), (3, .int x3), (4, .long x4)] []) : gg X M k n 24 [(0, .ref x0), (1, .int x1), (2, .ref x2), (3, .int x3), (4, .long x4)] [] := by
  refine g_aload_n ok d_So_joinInto_24 rfl (j := 2) rfl ?_
  refine g_iload_n ok d_So_joinInto_25 rfl (j := 3) rfl ?_
  refine g_lload ok d_So_joinInto_26 (j := 4) rfl ?_
  refine g_last (t := 1) ok rfl d_So_joinInto_28 h1 h4 ?_
  rw [h6]
  have h7 : M5[x2]? = some (.inl (1, N3, .inr (.inl (vp_updL g2 x3.toNatClampNeg x4)))) := by rw [← h6]; exact gs_eq h1
  exact g_goto (tgt := 50) ok d_So_joinInto_29 (by decide) kk
theorem k_So_joinInto_32 {X : gC} {M : List mC} {k n : Nat} {x0 : Nat} {x1 : Int32} {x2 : Nat} {x3 : Int32} {x4 : Int64} (ok : gO X c_So_joinInto "TripleStore$Solutions" w_So_joinInto)  (kt : x4 = 0 → gg X M k n 50 [(0, .ref x0), (1, .int x1), (2, .ref x2), (3, .int x3), (4, .long x4)] []) (kf : ¬ x4 = 0 → gg X M k n 39 [(0, .ref x0), (1, .int x1), (2, .ref x2), (3, .int x3), (4, .long x4)] []) : gg X M k n 32 [(0, .ref x0), (1, .int x1), (2, .ref x2), (3, .int x3), (4, .long x4)] [] := by
  refine g_lload ok d_So_joinInto_32 (j := 4) rfl ?_
  refine g_lconst (v := 0) ok d_So_joinInto_34 (by decide) ?_
  exact g_lc_eq (tgt := 50) ok d_So_joinInto_35 d_So_joinInto_36 (by decide) kt kf
theorem k_So_joinInto_39 {X : gC} {M : List mC} {k n : Nat} {x0 : Nat} {x1 : Int32} {x2 : Nat} {x3 : Int32} {x4 : Int64} {g2 : Nat → Int64} {N3 : Nat} (ok : gO X c_So_joinInto "TripleStore$Solutions" w_So_joinInto) (h1 : M[x2]? = some (.inl (1, N3, .inr (.inl g2)))) (h4 : vp_in x3 N3) (kt : x4 = (g2 x3.toNatClampNeg) → gg X M k n 50 [(0, .ref x0), (1, .int x1), (2, .ref x2), (3, .int x3), (4, .long x4)] []) (kf : ¬ x4 = (g2 x3.toNatClampNeg) → gg X M k n 48 [(0, .ref x0), (1, .int x1), (2, .ref x2), (3, .int x3), (4, .long x4)] []) : gg X M k n 39 [(0, .ref x0), (1, .int x1), (2, .ref x2), (3, .int x3), (4, .long x4)] [] := by
  refine g_lload ok d_So_joinInto_39 (j := 4) rfl ?_
  refine g_aload_n ok d_So_joinInto_41 rfl (j := 2) rfl ?_
  refine g_iload_n ok d_So_joinInto_42 rfl (j := 3) rfl ?_
  refine g_lald (t := 1) ok rfl d_So_joinInto_43 h1 h4 ?_
  exact g_lc_eq (tgt := 50) ok d_So_joinInto_44 d_So_joinInto_45 (by decide) kt kf
theorem k_So_joinInto_48 {X : gC} {M : List mC} {k n : Nat} {x0 : Nat} {x1 : Int32} {x2 : Nat} {x3 : Int32} {x4 : Int64} (ok : gO X c_So_joinInto "TripleStore$Solutions" w_So_joinInto)  {l9 : Launch} {rm : Room} {M0 : List mC} {post : Option Value → List mC → Prop} (E : gE X l9 y_So_joinInto rm 6 (some .boolean) M0 post) (hp : post (some (.int 0)) M) (hk : k ≤ rm.cells) (hn : n ≤ rm.slots) : gg X M k n 48 [(0, .ref x0), (1, .int x1), (2, .ref x2), (3, .int x3), (4, .long x4)] [] := by
  refine g_iconst (v := 0) ok d_So_joinInto_48 (by decide) ?_
  exact g_zret ok E d_So_joinInto_49 rfl hp hk hn
theorem k_So_joinInto_50 {X : gC} {M : List mC} {k n : Nat} {x0 : Nat} {x1 : Int32} {x2 : Nat} {x3 : Int32} {x4 : Int64} (ok : gO X c_So_joinInto "TripleStore$Solutions" w_So_joinInto) (hl : gL X = 6)  (kk : gg X M k n 2 [(0, .ref x0), (1, .int x1), (2, .ref x2), (3, .int (x3 + 1)), (4, .long x4)] []) : gg X M k n 50 [(0, .ref x0), (1, .int x1), (2, .ref x2), (3, .int x3), (4, .long x4)] [] := by
  refine g_iinc (L' := [(0, .ref x0), (1, .int x1), (2, .ref x2), (3, .int (x3 + 1)), (4, .long x4)]) (v := (x3 + 1)) ok d_So_joinInto_50 (j := 3) rfl rfl (by rw [hl]; decide) rfl ?_
  exact g_goto (tgt := 2) ok d_So_joinInto_53 (by decide) kk
theorem k_So_joinInto_56 {X : gC} {M : List mC} {k n : Nat} {x0 : Nat} {x1 : Int32} {x2 : Nat} {x3 : Int32} (ok : gO X c_So_joinInto "TripleStore$Solutions" w_So_joinInto)  {l9 : Launch} {rm : Room} {M0 : List mC} {post : Option Value → List mC → Prop} (E : gE X l9 y_So_joinInto rm 6 (some .boolean) M0 post) (hp : post (some (.int 1)) M) (hk : k ≤ rm.cells) (hn : n ≤ rm.slots) : gg X M k n 56 [(0, .ref x0), (1, .int x1), (2, .ref x2), (3, .int x3)] [] := by
  refine g_iconst (v := 1) ok d_So_joinInto_56 (by decide) ?_
  exact g_zret ok E d_So_joinInto_57 rfl hp hk hn
theorem k_So_sharesVariable_0 {X : gC} {M : List mC} {k n : Nat} {x0 : Nat} {x1 : Int32} {x2 : Nat} (ok : gO X c_So_sharesVariable "TripleStore$Solutions" w_So_sharesVariable) (hl : gL X = 4)  (kk : gg X M k n 2 [(0, .ref x0), (1, .int x1), (2, .ref x2), (3, .int 0)] []) : gg X M k n 0 [(0, .ref x0), (1, .int x1), (2, .ref x2)] [] := by
  refine g_iconst (v := 0) ok d_So_sharesVariable_0 (by decide) ?_
  refine g_istore_n (L' := [(0, .ref x0), (1, .int x1), (2, .ref x2), (3, .int 0)]) ok d_So_sharesVariable_1 rfl (by rw [hl]; decide) rfl ?_
  exact kk
theorem k_So_sharesVariable_2 {X : gC} {M : List mC} {k n : Nat} {x0 : Nat} {x1 : Int32} {x2 : Nat} {x3 : Int32} (ok : gO X c_So_sharesVariable "TripleStore$Solutions" w_So_sharesVariable)  (kt : 6 ≤ x3 → gg X M k n 35 [(0, .ref x0), (1, .int x1), (2, .ref x2), (3, .int x3)] []) (kf : ¬ 6 ≤ x3 → gg X M k n 8 [(0, .ref x0), (1, .int x1), (2, .ref x2), (3, .int x3)] []) : gg X M k n 2 [(0, .ref x0), (1, .int x1), (2, .ref x2), (3, .int x3)] [] := by
  refine g_iload_n ok d_So_sharesVariable_2 rfl (j := 3) rfl ?_
  refine g_bipush (v := 6) ok d_So_sharesVariable_3 (by decide) ?_
  exact g_icmp_ge (tgt := 35) ok d_So_sharesVariable_5 (by decide) kt kf
theorem k_So_sharesVariable_8 {X : gC} {M : List mC} {k n : Nat} {x0 : Nat} {x1 : Int32} {x2 : Nat} {x3 : Int32} {g2 : Nat → Int64} {N3 : Nat} (ok : gO X c_So_sharesVariable "TripleStore$Solutions" w_So_sharesVariable) (h1 : M[x2]? = some (.inl (1, N3, .inr (.inl g2)))) (h4 : vp_in x3 N3) (kt : (g2 x3.toNatClampNeg) = 0 → gg X M k n 29 [(0, .ref x0), (1, .int x1), (2, .ref x2), (3, .int x3)] []) (kf : ¬ (g2 x3.toNatClampNeg) = 0 → gg X M k n 16 [(0, .ref x0), (1, .int x1), (2, .ref x2), (3, .int x3)] []) : gg X M k n 8 [(0, .ref x0), (1, .int x1), (2, .ref x2), (3, .int x3)] [] := by
  refine g_aload_n ok d_So_sharesVariable_8 rfl (j := 2) rfl ?_
  refine g_iload_n ok d_So_sharesVariable_9 rfl (j := 3) rfl ?_
  refine g_lald (t := 1) ok rfl d_So_sharesVariable_10 h1 h4 ?_
  refine g_lconst (v := 0) ok d_So_sharesVariable_11 (by decide) ?_
  exact g_lc_eq (tgt := 29) ok d_So_sharesVariable_12 d_So_sharesVariable_13 (by decide) kt kf
theorem k_So_sharesVariable_16 {X : gC} {M : List mC} {k n : Nat} {x0 : Nat} {x1 : Int32} {x2 : Nat} {x3 : Int32} {fs2 : List Value} (ok : gO X c_So_sharesVariable "TripleStore$Solutions" w_So_sharesVariable) (h1 : M[x0]? = some (.inr (4, fs2))) {rm : Room} {post : Option Value → List mC → Prop} (hm : mm_ (gLa X) y_So_term w_So_term rm [.ref x0, .int x1, .int x3] M post) (hR : gF X rm 3 k n) (hlen : ∀ r M', post r M' → M'.length = M.length) (kk : ∀ r M', post r M' → gg X M' (k + rm.cells) (n + rm.slots) 22 [(0, .ref x0), (1, .int x1), (2, .ref x2), (3, .int x3)] (r.toList ++ [])) : gg X M k n 16 [(0, .ref x0), (1, .int x1), (2, .ref x2), (3, .int x3)] [] := by
  refine g_aload_n ok d_So_sharesVariable_16 rfl (j := 0) rfl ?_
  refine g_iload_n ok d_So_sharesVariable_17 rfl (j := 1) rfl ?_
  refine g_iload_n ok d_So_sharesVariable_18 rfl (j := 3) rfl ?_
  exact gc_So_27 (As := [.int x1, .int x3]) (rest := []) ok d_So_sharesVariable_19 hm rfl rfl (Nat.le_of_ble_eq_true rfl) hR h1 hlen kk
theorem k_So_sharesVariable_22 {X : gC} {M : List mC} {k n : Nat} {x0 : Nat} {x1 : Int32} {x2 : Nat} {x3 : Int32} {s0 : Int64} (ok : gO X c_So_sharesVariable "TripleStore$Solutions" w_So_sharesVariable)  (kt : s0 = 0 → gg X M k n 29 [(0, .ref x0), (1, .int x1), (2, .ref x2), (3, .int x3)] []) (kf : ¬ s0 = 0 → gg X M k n 27 [(0, .ref x0), (1, .int x1), (2, .ref x2), (3, .int x3)] []) : gg X M k n 22 [(0, .ref x0), (1, .int x1), (2, .ref x2), (3, .int x3)] [.long s0] := by
  refine g_lconst (v := 0) ok d_So_sharesVariable_22 (by decide) ?_
  exact g_lc_eq (tgt := 29) ok d_So_sharesVariable_23 d_So_sharesVariable_24 (by decide) kt kf
theorem k_So_sharesVariable_27 {X : gC} {M : List mC} {k n : Nat} {x0 : Nat} {x1 : Int32} {x2 : Nat} {x3 : Int32} (ok : gO X c_So_sharesVariable "TripleStore$Solutions" w_So_sharesVariable)  {l9 : Launch} {rm : Room} {M0 : List mC} {post : Option Value → List mC → Prop} (E : gE X l9 y_So_sharesVariable rm 4 (some .boolean) M0 post) (hp : post (some (.int 1)) M) (hk : k ≤ rm.cells) (hn : n ≤ rm.slots) : gg X M k n 27 [(0, .ref x0), (1, .int x1), (2, .ref x2), (3, .int x3)] [] := by
  refine g_iconst (v := 1) ok d_So_sharesVariable_27 (by decide) ?_
  exact g_zret ok E d_So_sharesVariable_28 rfl hp hk hn
theorem k_So_sharesVariable_29 {X : gC} {M : List mC} {k n : Nat} {x0 : Nat} {x1 : Int32} {x2 : Nat} {x3 : Int32} (ok : gO X c_So_sharesVariable "TripleStore$Solutions" w_So_sharesVariable) (hl : gL X = 4)  (kk : gg X M k n 2 [(0, .ref x0), (1, .int x1), (2, .ref x2), (3, .int (x3 + 1))] []) : gg X M k n 29 [(0, .ref x0), (1, .int x1), (2, .ref x2), (3, .int x3)] [] := by
  refine g_iinc (L' := [(0, .ref x0), (1, .int x1), (2, .ref x2), (3, .int (x3 + 1))]) (v := (x3 + 1)) ok d_So_sharesVariable_29 (j := 3) rfl rfl (by rw [hl]; decide) rfl ?_
  exact g_goto (tgt := 2) ok d_So_sharesVariable_32 (by decide) kk
theorem k_So_sharesVariable_35 {X : gC} {M : List mC} {k n : Nat} {x0 : Nat} {x1 : Int32} {x2 : Nat} {x3 : Int32} (ok : gO X c_So_sharesVariable "TripleStore$Solutions" w_So_sharesVariable)  {l9 : Launch} {rm : Room} {M0 : List mC} {post : Option Value → List mC → Prop} (E : gE X l9 y_So_sharesVariable rm 4 (some .boolean) M0 post) (hp : post (some (.int 0)) M) (hk : k ≤ rm.cells) (hn : n ≤ rm.slots) : gg X M k n 35 [(0, .ref x0), (1, .int x1), (2, .ref x2), (3, .int x3)] [] := by
  refine g_iconst (v := 0) ok d_So_sharesVariable_35 (by decide) ?_
  exact g_zret ok E d_So_sharesVariable_36 rfl hp hk hn
theorem k_St_init_0 {X : gC} {M : List mC} {k n : Nat} {x0 : Nat} (ok : gO X c_St_init "TripleStore$Store" w_St_init)  (hf : 1 ≤ (gR X).frames) (hl2 : (([] : List Value).map fun v => v.category).sum + 12 ≤ (gR X).locals) (kk : gg X M k n 4 [(0, .ref x0)] []) : gg X M k n 0 [(0, .ref x0)] [] := by
  refine g_aload_n ok d_St_init_0 rfl (j := 0) rfl ?_
  exact g_objI ok ml_St_3 wn_Object i_Object d_St_init_1 hf hl2 kk
theorem k_St_size_0 {X : gC} {M : List mC} {k n : Nat} {x0 : Nat} {fs2 : List Value} {f3 : Nat} {fs6 : List Value} (ok : gO X c_St_size "TripleStore$Store" w_St_size) (h1 : M[x0]? = some (.inr (6, fs2))) (h4 : fs2[0]? = some (.ref f3)) (h5 : M[f3]? = some (.inr (8, fs6))) {rm : Room} {post : Option Value → List mC → Prop} (hm : mm_ (gLa X) y_Tr_size w_Tr_size rm [.ref f3] M post) (hR : gF X rm 1 k n) (hlen : ∀ r M', post r M' → M'.length = M.length) (kk : ∀ r M', post r M' → gg X M' (k + rm.cells) (n + rm.slots) 7 [(0, .ref x0)] (r.toList ++ [])) : gg X M k n 0 [(0, .ref x0)] [] := by
  refine g_aload_n ok d_St_size_0 rfl (j := 0) rfl ?_
  refine gf_St_14 ok d_St_size_1 h1 h4 ?_
  exact gc_St_45 (As := []) (rest := []) ok d_St_size_4 hm rfl rfl (Nat.le_of_ble_eq_true rfl) hR h5 hlen kk
theorem k_St_size_7 {X : gC} {M : List mC} {k n : Nat} {x0 : Nat} {s0 : Int32} (ok : gO X c_St_size "TripleStore$Store" w_St_size)  {l9 : Launch} {rm : Room} {M0 : List mC} {post : Option Value → List mC → Prop} (E : gE X l9 y_St_size rm 1 (some .int) M0 post) (hp : post (some (.int s0)) M) (hk : k ≤ rm.cells) (hn : n ≤ rm.slots) : gg X M k n 7 [(0, .ref x0)] [.int s0] := by
  exact g_iret ok E d_St_size_7 hp hk hn
theorem k_St_isOpen_0 {X : gC} {M : List mC} {k n : Nat} {x0 : Nat} {fs2 : List Value} {f3 : Int32} (ok : gO X c_St_isOpen "TripleStore$Store" w_St_isOpen) (h1 : M[x0]? = some (.inr (6, fs2))) (h4 : fs2[4]? = some (.int f3)) {l9 : Launch} {rm : Room} {M0 : List mC} {post : Option Value → List mC → Prop} (E : gE X l9 y_St_isOpen rm 1 (some .boolean) M0 post) (hz : narrow .boolean (.int f3) = .int f3) (hp : post (some (.int f3)) M) (hk : k ≤ rm.cells) (hn : n ≤ rm.slots) : gg X M k n 0 [(0, .ref x0)] [] := by
  refine g_aload_n ok d_St_isOpen_0 rfl (j := 0) rfl ?_
  refine gf_St_31 ok d_St_isOpen_1 h1 h4 ?_
  exact g_zret ok E d_St_isOpen_4 hz hp hk hn
theorem k_St_changes_0 {X : gC} {M : List mC} {k n : Nat} {x0 : Nat} {fs2 : List Value} {f3 : Int32} (ok : gO X c_St_changes "TripleStore$Store" w_St_changes) (h1 : M[x0]? = some (.inr (6, fs2))) (h4 : fs2[5]? = some (.int f3)) {l9 : Launch} {rm : Room} {M0 : List mC} {post : Option Value → List mC → Prop} (E : gE X l9 y_St_changes rm 1 (some .int) M0 post) (hp : post (some (.int f3)) M) (hk : k ≤ rm.cells) (hn : n ≤ rm.slots) : gg X M k n 0 [(0, .ref x0)] [] := by
  refine g_aload_n ok d_St_changes_0 rfl (j := 0) rfl ?_
  refine gf_St_35 ok d_St_changes_1 h1 h4 ?_
  exact g_iret ok E d_St_changes_4 hp hk hn
theorem k_St_committed_0 {X : gC} {M : List mC} {k n : Nat} {x0 : Nat} {fs2 : List Value} {f3 : Int32} (ok : gO X c_St_committed "TripleStore$Store" w_St_committed) (h1 : M[x0]? = some (.inr (6, fs2))) (h4 : fs2[6]? = some (.int f3)) {l9 : Launch} {rm : Room} {M0 : List mC} {post : Option Value → List mC → Prop} (E : gE X l9 y_St_committed rm 1 (some .int) M0 post) (hp : post (some (.int f3)) M) (hk : k ≤ rm.cells) (hn : n ≤ rm.slots) : gg X M k n 0 [(0, .ref x0)] [] := by
  refine g_aload_n ok d_St_committed_0 rfl (j := 0) rfl ?_
  refine gf_St_39 ok d_St_committed_1 h1 h4 ?_
  exact g_iret ok E d_St_committed_4 hp hk hn
theorem k_St_unsynced_0 {X : gC} {M : List mC} {k n : Nat} {x0 : Nat} {fs2 : List Value} {f3 : Int32} (ok : gO X c_St_unsynced "TripleStore$Store" w_St_unsynced) (h1 : M[x0]? = some (.inr (6, fs2))) (h4 : fs2[7]? = some (.int f3)) {l9 : Launch} {rm : Room} {M0 : List mC} {post : Option Value → List mC → Prop} (E : gE X l9 y_St_unsynced rm 1 (some .int) M0 post) (hp : post (some (.int f3)) M) (hk : k ≤ rm.cells) (hn : n ≤ rm.slots) : gg X M k n 0 [(0, .ref x0)] [] := by
  refine g_aload_n ok d_St_unsynced_0 rfl (j := 0) rfl ?_
  refine gf_St_42 ok d_St_unsynced_1 h1 h4 ?_
  exact g_iret ok E d_St_unsynced_4 hp hk hn
theorem k_St_has_0 {X : gC} {M : List mC} {k n : Nat} {x0 : Nat} {x1 : Int64} {x3 : Int64} {x5 : Int64} {fs2 : List Value} {f3 : Nat} {fs6 : List Value} (ok : gO X c_St_has "TripleStore$Store" w_St_has) (h1 : M[x0]? = some (.inr (6, fs2))) (h4 : fs2[0]? = some (.ref f3)) (h5 : M[f3]? = some (.inr (8, fs6))) {rm : Room} {post : Option Value → List mC → Prop} (hm : mm_ (gLa X) y_Tr_find w_Tr_find rm [.ref f3, .long x1, .long x3, .long x5] M post) (hR : gF X rm 8 k n) (hlen : ∀ r M', post r M' → M'.length = M.length) (kk : ∀ r M', post r M' → gg X M' (k + rm.cells) (n + rm.slots) 11 [(0, .ref x0), (1, .long x1), (3, .long x3), (5, .long x5)] (r.toList ++ [])) : gg X M k n 0 [(0, .ref x0), (1, .long x1), (3, .long x3), (5, .long x5)] [] := by
  refine g_aload_n ok d_St_has_0 rfl (j := 0) rfl ?_
  refine gf_St_14 ok d_St_has_1 h1 h4 ?_
  refine g_lload_n ok d_St_has_4 rfl (j := 1) rfl ?_
  refine g_lload_n ok d_St_has_5 rfl (j := 2) rfl ?_
  refine g_lload ok d_St_has_6 (j := 3) rfl ?_
  exact gc_St_49 (As := [.long x1, .long x3, .long x5]) (rest := []) ok d_St_has_8 hm rfl rfl (Nat.le_of_ble_eq_true rfl) hR h5 hlen kk
theorem k_St_has_11 {X : gC} {M : List mC} {k n : Nat} {x0 : Nat} {x1 : Int64} {x3 : Int64} {x5 : Int64} {s0 : Int32} (ok : gO X c_St_has "TripleStore$Store" w_St_has)  (kt : s0 < 0 → gg X M k n 18 [(0, .ref x0), (1, .long x1), (3, .long x3), (5, .long x5)] []) (kf : ¬ s0 < 0 → gg X M k n 14 [(0, .ref x0), (1, .long x1), (3, .long x3), (5, .long x5)] []) : gg X M k n 11 [(0, .ref x0), (1, .long x1), (3, .long x3), (5, .long x5)] [.int s0] := by
  exact g_if_lt (tgt := 18) ok d_St_has_11 (by decide) kt kf
theorem k_St_has_14 {X : gC} {M : List mC} {k n : Nat} {x0 : Nat} {x1 : Int64} {x3 : Int64} {x5 : Int64} (ok : gO X c_St_has "TripleStore$Store" w_St_has)  (kk : gg X M k n 19 [(0, .ref x0), (1, .long x1), (3, .long x3), (5, .long x5)] [.int 1]) : gg X M k n 14 [(0, .ref x0), (1, .long x1), (3, .long x3), (5, .long x5)] [] := by
  refine g_iconst (v := 1) ok d_St_has_14 (by decide) ?_
  exact g_goto (tgt := 19) ok d_St_has_15 (by decide) kk
theorem k_St_has_18 {X : gC} {M : List mC} {k n : Nat} {x0 : Nat} {x1 : Int64} {x3 : Int64} {x5 : Int64} (ok : gO X c_St_has "TripleStore$Store" w_St_has)  (kk : gg X M k n 19 [(0, .ref x0), (1, .long x1), (3, .long x3), (5, .long x5)] [.int 0]) : gg X M k n 18 [(0, .ref x0), (1, .long x1), (3, .long x3), (5, .long x5)] [] := by
  refine g_iconst (v := 0) ok d_St_has_18 (by decide) ?_
  exact kk
theorem k_St_has_19 {X : gC} {M : List mC} {k n : Nat} {x0 : Nat} {x1 : Int64} {x3 : Int64} {x5 : Int64} {s0 : Int32} (ok : gO X c_St_has "TripleStore$Store" w_St_has)  {l9 : Launch} {rm : Room} {M0 : List mC} {post : Option Value → List mC → Prop} (E : gE X l9 y_St_has rm 7 (some .boolean) M0 post) (hz : narrow .boolean (.int s0) = .int s0) (hp : post (some (.int s0)) M) (hk : k ≤ rm.cells) (hn : n ≤ rm.slots) : gg X M k n 19 [(0, .ref x0), (1, .long x1), (3, .long x3), (5, .long x5)] [.int s0] := by
  exact g_zret ok E d_St_has_19 hz hp hk hn
theorem k_St_subject_0 {X : gC} {M : List mC} {k n : Nat} {x0 : Nat} {x1 : Int32} {fs2 : List Value} {f3 : Nat} {fs6 : List Value} (ok : gO X c_St_subject "TripleStore$Store" w_St_subject) (h1 : M[x0]? = some (.inr (6, fs2))) (h4 : fs2[0]? = some (.ref f3)) (h5 : M[f3]? = some (.inr (8, fs6))) {rm : Room} {post : Option Value → List mC → Prop} (hm : mm_ (gLa X) y_Tr_subject w_Tr_subject rm [.ref f3, .int x1] M post) (hR : gF X rm 2 k n) (hlen : ∀ r M', post r M' → M'.length = M.length) (kk : ∀ r M', post r M' → gg X M' (k + rm.cells) (n + rm.slots) 8 [(0, .ref x0), (1, .int x1)] (r.toList ++ [])) : gg X M k n 0 [(0, .ref x0), (1, .int x1)] [] := by
  refine g_aload_n ok d_St_subject_0 rfl (j := 0) rfl ?_
  refine gf_St_14 ok d_St_subject_1 h1 h4 ?_
  refine g_iload_n ok d_St_subject_4 rfl (j := 1) rfl ?_
  exact gc_St_53 (As := [.int x1]) (rest := []) ok d_St_subject_5 hm rfl rfl (Nat.le_of_ble_eq_true rfl) hR h5 hlen kk
theorem k_St_subject_8 {X : gC} {M : List mC} {k n : Nat} {x0 : Nat} {x1 : Int32} {s0 : Int64} (ok : gO X c_St_subject "TripleStore$Store" w_St_subject)  {l9 : Launch} {rm : Room} {M0 : List mC} {post : Option Value → List mC → Prop} (E : gE X l9 y_St_subject rm 2 (some .long) M0 post) (hp : post (some (.long s0)) M) (hk : k ≤ rm.cells) (hn : n ≤ rm.slots) : gg X M k n 8 [(0, .ref x0), (1, .int x1)] [.long s0] := by
  exact g_lret ok E d_St_subject_8 hp hk hn
theorem k_St_predicate_0 {X : gC} {M : List mC} {k n : Nat} {x0 : Nat} {x1 : Int32} {fs2 : List Value} {f3 : Nat} {fs6 : List Value} (ok : gO X c_St_predicate "TripleStore$Store" w_St_predicate) (h1 : M[x0]? = some (.inr (6, fs2))) (h4 : fs2[0]? = some (.ref f3)) (h5 : M[f3]? = some (.inr (8, fs6))) {rm : Room} {post : Option Value → List mC → Prop} (hm : mm_ (gLa X) y_Tr_predicate w_Tr_predicate rm [.ref f3, .int x1] M post) (hR : gF X rm 2 k n) (hlen : ∀ r M', post r M' → M'.length = M.length) (kk : ∀ r M', post r M' → gg X M' (k + rm.cells) (n + rm.slots) 8 [(0, .ref x0), (1, .int x1)] (r.toList ++ [])) : gg X M k n 0 [(0, .ref x0), (1, .int x1)] [] := by
  refine g_aload_n ok d_St_predicate_0 rfl (j := 0) rfl ?_
  refine gf_St_14 ok d_St_predicate_1 h1 h4 ?_
  refine g_iload_n ok d_St_predicate_4 rfl (j := 1) rfl ?_
  exact gc_St_57 (As := [.int x1]) (rest := []) ok d_St_predicate_5 hm rfl rfl (Nat.le_of_ble_eq_true rfl) hR h5 hlen kk
theorem k_St_predicate_8 {X : gC} {M : List mC} {k n : Nat} {x0 : Nat} {x1 : Int32} {s0 : Int64} (ok : gO X c_St_predicate "TripleStore$Store" w_St_predicate)  {l9 : Launch} {rm : Room} {M0 : List mC} {post : Option Value → List mC → Prop} (E : gE X l9 y_St_predicate rm 2 (some .long) M0 post) (hp : post (some (.long s0)) M) (hk : k ≤ rm.cells) (hn : n ≤ rm.slots) : gg X M k n 8 [(0, .ref x0), (1, .int x1)] [.long s0] := by
  exact g_lret ok E d_St_predicate_8 hp hk hn
theorem k_St_object_0 {X : gC} {M : List mC} {k n : Nat} {x0 : Nat} {x1 : Int32} {fs2 : List Value} {f3 : Nat} {fs6 : List Value} (ok : gO X c_St_object "TripleStore$Store" w_St_object) (h1 : M[x0]? = some (.inr (6, fs2))) (h4 : fs2[0]? = some (.ref f3)) (h5 : M[f3]? = some (.inr (8, fs6))) {rm : Room} {post : Option Value → List mC → Prop} (hm : mm_ (gLa X) y_Tr_object w_Tr_object rm [.ref f3, .int x1] M post) (hR : gF X rm 2 k n) (hlen : ∀ r M', post r M' → M'.length = M.length) (kk : ∀ r M', post r M' → gg X M' (k + rm.cells) (n + rm.slots) 8 [(0, .ref x0), (1, .int x1)] (r.toList ++ [])) : gg X M k n 0 [(0, .ref x0), (1, .int x1)] [] := by
  refine g_aload_n ok d_St_object_0 rfl (j := 0) rfl ?_
  refine gf_St_14 ok d_St_object_1 h1 h4 ?_
  refine g_iload_n ok d_St_object_4 rfl (j := 1) rfl ?_
  exact gc_St_60 (As := [.int x1]) (rest := []) ok d_St_object_5 hm rfl rfl (Nat.le_of_ble_eq_true rfl) hR h5 hlen kk
theorem k_St_object_8 {X : gC} {M : List mC} {k n : Nat} {x0 : Nat} {x1 : Int32} {s0 : Int64} (ok : gO X c_St_object "TripleStore$Store" w_St_object)  {l9 : Launch} {rm : Room} {M0 : List mC} {post : Option Value → List mC → Prop} (E : gE X l9 y_St_object rm 2 (some .long) M0 post) (hp : post (some (.long s0)) M) (hk : k ≤ rm.cells) (hn : n ≤ rm.slots) : gg X M k n 8 [(0, .ref x0), (1, .int x1)] [.long s0] := by
  exact g_lret ok E d_St_object_8 hp hk hn
theorem k_St_insert_0 {X : gC} {M : List mC} {k n : Nat} {x0 : Nat} {x1 : Int64} {x3 : Int64} {x5 : Int64} {fs2 : List Value} {f3 : Nat} {fs6 : List Value} (ok : gO X c_St_insert "TripleStore$Store" w_St_insert) (h1 : M[x0]? = some (.inr (6, fs2))) (h4 : fs2[1]? = some (.ref f3)) (h5 : M[f3]? = some (.inr (8, fs6))) {rm : Room} {post : Option Value → List mC → Prop} (hm : mm_ (gLa X) y_Tr_isFull w_Tr_isFull rm [.ref f3] M post) (hR : gF X rm 1 k n) (hlen : ∀ r M', post r M' → M'.length = M.length) (kk : ∀ r M', post r M' → gg X M' (k + rm.cells) (n + rm.slots) 7 [(0, .ref x0), (1, .long x1), (3, .long x3), (5, .long x5)] (r.toList ++ [])) : gg X M k n 0 [(0, .ref x0), (1, .long x1), (3, .long x3), (5, .long x5)] [] := by
  refine g_aload_n ok d_St_insert_0 rfl (j := 0) rfl ?_
  refine gf_St_20 ok d_St_insert_1 h1 h4 ?_
  exact gc_St_63 (As := []) (rest := []) ok d_St_insert_4 hm rfl rfl (Nat.le_of_ble_eq_true rfl) hR h5 hlen kk
theorem k_St_insert_7 {X : gC} {M : List mC} {k n : Nat} {x0 : Nat} {x1 : Int64} {x3 : Int64} {x5 : Int64} {s0 : Int32} (ok : gO X c_St_insert "TripleStore$Store" w_St_insert)  (kt : ¬ s0 = 0 → gg X M k n 20 [(0, .ref x0), (1, .long x1), (3, .long x3), (5, .long x5)] []) (kf : s0 = 0 → gg X M k n 10 [(0, .ref x0), (1, .long x1), (3, .long x3), (5, .long x5)] []) : gg X M k n 7 [(0, .ref x0), (1, .long x1), (3, .long x3), (5, .long x5)] [.int s0] := by
  exact g_if_ne (tgt := 20) ok d_St_insert_7 (by decide) kt kf
theorem k_St_insert_10 {X : gC} {M : List mC} {k n : Nat} {x0 : Nat} {x1 : Int64} {x3 : Int64} {x5 : Int64} {fs2 : List Value} {f3 : Nat} {fs6 : List Value} (ok : gO X c_St_insert "TripleStore$Store" w_St_insert) (h1 : M[x0]? = some (.inr (6, fs2))) (h4 : fs2[0]? = some (.ref f3)) (h5 : M[f3]? = some (.inr (8, fs6))) {rm : Room} {post : Option Value → List mC → Prop} (hm : mm_ (gLa X) y_Tr_isFull w_Tr_isFull rm [.ref f3] M post) (hR : gF X rm 1 k n) (hlen : ∀ r M', post r M' → M'.length = M.length) (kk : ∀ r M', post r M' → gg X M' (k + rm.cells) (n + rm.slots) 17 [(0, .ref x0), (1, .long x1), (3, .long x3), (5, .long x5)] (r.toList ++ [])) : gg X M k n 10 [(0, .ref x0), (1, .long x1), (3, .long x3), (5, .long x5)] [] := by
  refine g_aload_n ok d_St_insert_10 rfl (j := 0) rfl ?_
  refine gf_St_14 ok d_St_insert_11 h1 h4 ?_
  exact gc_St_63 (As := []) (rest := []) ok d_St_insert_14 hm rfl rfl (Nat.le_of_ble_eq_true rfl) hR h5 hlen kk
theorem k_St_insert_17 {X : gC} {M : List mC} {k n : Nat} {x0 : Nat} {x1 : Int64} {x3 : Int64} {x5 : Int64} {s0 : Int32} (ok : gO X c_St_insert "TripleStore$Store" w_St_insert)  (kt : s0 = 0 → gg X M k n 22 [(0, .ref x0), (1, .long x1), (3, .long x3), (5, .long x5)] []) (kf : ¬ s0 = 0 → gg X M k n 20 [(0, .ref x0), (1, .long x1), (3, .long x3), (5, .long x5)] []) : gg X M k n 17 [(0, .ref x0), (1, .long x1), (3, .long x3), (5, .long x5)] [.int s0] := by
  exact g_if_eq (tgt := 22) ok d_St_insert_17 (by decide) kt kf
theorem k_St_insert_20 {X : gC} {M : List mC} {k n : Nat} {x0 : Nat} {x1 : Int64} {x3 : Int64} {x5 : Int64} (ok : gO X c_St_insert "TripleStore$Store" w_St_insert)  {l9 : Launch} {rm : Room} {M0 : List mC} {post : Option Value → List mC → Prop} (E : gE X l9 y_St_insert rm 7 (some .int) M0 post) (hp : post (some (.int 0)) M) (hk : k ≤ rm.cells) (hn : n ≤ rm.slots) : gg X M k n 20 [(0, .ref x0), (1, .long x1), (3, .long x3), (5, .long x5)] [] := by
  refine g_iconst (v := 0) ok d_St_insert_20 (by decide) ?_
  exact g_iret ok E d_St_insert_21 hp hk hn
theorem k_St_insert_22 {X : gC} {M : List mC} {k n : Nat} {x0 : Nat} {x1 : Int64} {x3 : Int64} {x5 : Int64} {fs2 : List Value} {f3 : Nat} {fs6 : List Value} (ok : gO X c_St_insert "TripleStore$Store" w_St_insert) (h1 : M[x0]? = some (.inr (6, fs2))) (h4 : fs2[0]? = some (.ref f3)) (h5 : M[f3]? = some (.inr (8, fs6))) {rm : Room} {post : Option Value → List mC → Prop} (hm : mm_ (gLa X) y_Tr_put w_Tr_put rm [.ref f3, .long x1, .long x3, .long x5] M post) (hR : gF X rm 7 k n) (hlen : ∀ r M', post r M' → M'.length = M.length) (kk : ∀ r M', post r M' → gg X M' (k + rm.cells) (n + rm.slots) 33 [(0, .ref x0), (1, .long x1), (3, .long x3), (5, .long x5)] (r.toList ++ [])) : gg X M k n 22 [(0, .ref x0), (1, .long x1), (3, .long x3), (5, .long x5)] [] := by
  refine g_aload_n ok d_St_insert_22 rfl (j := 0) rfl ?_
  refine gf_St_14 ok d_St_insert_23 h1 h4 ?_
  refine g_lload_n ok d_St_insert_26 rfl (j := 1) rfl ?_
  refine g_lload_n ok d_St_insert_27 rfl (j := 2) rfl ?_
  refine g_lload ok d_St_insert_28 (j := 3) rfl ?_
  exact gc_St_67 (As := [.long x1, .long x3, .long x5]) (rest := []) ok d_St_insert_30 hm rfl rfl (Nat.le_of_ble_eq_true rfl) hR h5 hlen kk
theorem k_St_insert_33 {X : gC} {M : List mC} {k n : Nat} {x0 : Nat} {x1 : Int64} {x3 : Int64} {x5 : Int64} {fs2 : List Value} (ok : gO X c_St_insert "TripleStore$Store" w_St_insert) (h1 : M[x0]? = some (.inr (6, fs2))) {rm : Room} {post : Option Value → List mC → Prop} (hm : mm_ (gLa X) y_St_noteChange w_St_noteChange rm [.ref x0, .long x1, .long x3, .long x5, .int 1] M post) (hR : gF X rm 9 k n) (hlen : ∀ r M', post r M' → M'.length = M.length) (kk : ∀ r M', post r M' → gg X M' (k + rm.cells) (n + rm.slots) 42 [(0, .ref x0), (1, .long x1), (3, .long x3), (5, .long x5)] (r.toList ++ [])) : gg X M k n 33 [(0, .ref x0), (1, .long x1), (3, .long x3), (5, .long x5)] [] := by
  refine g_aload_n ok d_St_insert_33 rfl (j := 0) rfl ?_
  refine g_lload_n ok d_St_insert_34 rfl (j := 1) rfl ?_
  refine g_lload_n ok d_St_insert_35 rfl (j := 2) rfl ?_
  refine g_lload ok d_St_insert_36 (j := 3) rfl ?_
  refine g_iconst (v := 1) ok d_St_insert_38 (by decide) ?_
  exact gc_St_71 (As := [.long x1, .long x3, .long x5, .int 1]) (rest := []) ok d_St_insert_39 hm rfl rfl (Nat.le_of_ble_eq_true rfl) hR h1 hlen kk
theorem k_St_insert_42 {X : gC} {M : List mC} {k n : Nat} {x0 : Nat} {x1 : Int64} {x3 : Int64} {x5 : Int64} (ok : gO X c_St_insert "TripleStore$Store" w_St_insert)  {l9 : Launch} {rm : Room} {M0 : List mC} {post : Option Value → List mC → Prop} (E : gE X l9 y_St_insert rm 7 (some .int) M0 post) (hp : post (some (.int 1)) M) (hk : k ≤ rm.cells) (hn : n ≤ rm.slots) : gg X M k n 42 [(0, .ref x0), (1, .long x1), (3, .long x3), (5, .long x5)] [] := by
  refine g_iconst (v := 1) ok d_St_insert_42 (by decide) ?_
  exact g_iret ok E d_St_insert_43 hp hk hn
theorem k_St_delete_0 {X : gC} {M : List mC} {k n : Nat} {x0 : Nat} {x1 : Int64} {x3 : Int64} {x5 : Int64} {fs2 : List Value} {f3 : Nat} {fs6 : List Value} (ok : gO X c_St_delete "TripleStore$Store" w_St_delete) (h1 : M[x0]? = some (.inr (6, fs2))) (h4 : fs2[0]? = some (.ref f3)) (h5 : M[f3]? = some (.inr (8, fs6))) {rm : Room} {post : Option Value → List mC → Prop} (hm : mm_ (gLa X) y_Tr_find w_Tr_find rm [.ref f3, .long x1, .long x3, .long x5] M post) (hR : gF X rm 8 k n) (hlen : ∀ r M', post r M' → M'.length = M.length) (kk : ∀ r M', post r M' → gg X M' (k + rm.cells) (n + rm.slots) 11 [(0, .ref x0), (1, .long x1), (3, .long x3), (5, .long x5)] (r.toList ++ [])) : gg X M k n 0 [(0, .ref x0), (1, .long x1), (3, .long x3), (5, .long x5)] [] := by
  refine g_aload_n ok d_St_delete_0 rfl (j := 0) rfl ?_
  refine gf_St_14 ok d_St_delete_1 h1 h4 ?_
  refine g_lload_n ok d_St_delete_4 rfl (j := 1) rfl ?_
  refine g_lload_n ok d_St_delete_5 rfl (j := 2) rfl ?_
  refine g_lload ok d_St_delete_6 (j := 3) rfl ?_
  exact gc_St_49 (As := [.long x1, .long x3, .long x5]) (rest := []) ok d_St_delete_8 hm rfl rfl (Nat.le_of_ble_eq_true rfl) hR h5 hlen kk
theorem k_St_delete_11 {X : gC} {M : List mC} {k n : Nat} {x0 : Nat} {x1 : Int64} {x3 : Int64} {x5 : Int64} {s0 : Int32} (ok : gO X c_St_delete "TripleStore$Store" w_St_delete) (hl : gL X = 8)  (kt : s0 < 0 → gg X M k n 28 [(0, .ref x0), (1, .long x1), (3, .long x3), (5, .long x5), (7, .int s0)] []) (kf : ¬ s0 < 0 → gg X M k n 18 [(0, .ref x0), (1, .long x1), (3, .long x3), (5, .long x5), (7, .int s0)] []) : gg X M k n 11 [(0, .ref x0), (1, .long x1), (3, .long x3), (5, .long x5)] [.int s0] := by
  refine g_istore (L' := [(0, .ref x0), (1, .long x1), (3, .long x3), (5, .long x5), (7, .int s0)]) ok d_St_delete_11 (by rw [hl]; decide) rfl ?_
  refine g_iload ok d_St_delete_13 (j := 4) rfl ?_
  exact g_if_lt (tgt := 28) ok d_St_delete_15 (by decide) kt kf
theorem k_St_delete_18 {X : gC} {M : List mC} {k n : Nat} {x0 : Nat} {x1 : Int64} {x3 : Int64} {x5 : Int64} {x7 : Int32} {fs2 : List Value} {f3 : Nat} {fs6 : List Value} (ok : gO X c_St_delete "TripleStore$Store" w_St_delete) (h1 : M[x0]? = some (.inr (6, fs2))) (h4 : fs2[1]? = some (.ref f3)) (h5 : M[f3]? = some (.inr (8, fs6))) {rm : Room} {post : Option Value → List mC → Prop} (hm : mm_ (gLa X) y_Tr_isFull w_Tr_isFull rm [.ref f3] M post) (hR : gF X rm 1 k n) (hlen : ∀ r M', post r M' → M'.length = M.length) (kk : ∀ r M', post r M' → gg X M' (k + rm.cells) (n + rm.slots) 25 [(0, .ref x0), (1, .long x1), (3, .long x3), (5, .long x5), (7, .int x7)] (r.toList ++ [])) : gg X M k n 18 [(0, .ref x0), (1, .long x1), (3, .long x3), (5, .long x5), (7, .int x7)] [] := by
  refine g_aload_n ok d_St_delete_18 rfl (j := 0) rfl ?_
  refine gf_St_20 ok d_St_delete_19 h1 h4 ?_
  exact gc_St_63 (As := []) (rest := []) ok d_St_delete_22 hm rfl rfl (Nat.le_of_ble_eq_true rfl) hR h5 hlen kk
theorem k_St_delete_25 {X : gC} {M : List mC} {k n : Nat} {x0 : Nat} {x1 : Int64} {x3 : Int64} {x5 : Int64} {x7 : Int32} {s0 : Int32} (ok : gO X c_St_delete "TripleStore$Store" w_St_delete)  (kt : s0 = 0 → gg X M k n 30 [(0, .ref x0), (1, .long x1), (3, .long x3), (5, .long x5), (7, .int x7)] []) (kf : ¬ s0 = 0 → gg X M k n 28 [(0, .ref x0), (1, .long x1), (3, .long x3), (5, .long x5), (7, .int x7)] []) : gg X M k n 25 [(0, .ref x0), (1, .long x1), (3, .long x3), (5, .long x5), (7, .int x7)] [.int s0] := by
  exact g_if_eq (tgt := 30) ok d_St_delete_25 (by decide) kt kf
theorem k_St_delete_28 {X : gC} {M : List mC} {k n : Nat} {x0 : Nat} {x1 : Int64} {x3 : Int64} {x5 : Int64} {x7 : Int32} (ok : gO X c_St_delete "TripleStore$Store" w_St_delete)  {l9 : Launch} {rm : Room} {M0 : List mC} {post : Option Value → List mC → Prop} (E : gE X l9 y_St_delete rm 8 (some .int) M0 post) (hp : post (some (.int 0)) M) (hk : k ≤ rm.cells) (hn : n ≤ rm.slots) : gg X M k n 28 [(0, .ref x0), (1, .long x1), (3, .long x3), (5, .long x5), (7, .int x7)] [] := by
  refine g_iconst (v := 0) ok d_St_delete_28 (by decide) ?_
  exact g_iret ok E d_St_delete_29 hp hk hn
theorem k_St_delete_30 {X : gC} {M : List mC} {k n : Nat} {x0 : Nat} {x1 : Int64} {x3 : Int64} {x5 : Int64} {x7 : Int32} {fs2 : List Value} {f3 : Nat} {fs6 : List Value} (ok : gO X c_St_delete "TripleStore$Store" w_St_delete) (h1 : M[x0]? = some (.inr (6, fs2))) (h4 : fs2[0]? = some (.ref f3)) (h5 : M[f3]? = some (.inr (8, fs6))) {rm : Room} {post : Option Value → List mC → Prop} (hm : mm_ (gLa X) y_Tr_drop w_Tr_drop rm [.ref f3, .int x7] M post) (hR : gF X rm 2 k n) (hlen : ∀ r M', post r M' → M'.length = M.length) (kk : ∀ r M', post r M' → gg X M' (k + rm.cells) (n + rm.slots) 39 [(0, .ref x0), (1, .long x1), (3, .long x3), (5, .long x5), (7, .int x7)] (r.toList ++ [])) : gg X M k n 30 [(0, .ref x0), (1, .long x1), (3, .long x3), (5, .long x5), (7, .int x7)] [] := by
  refine g_aload_n ok d_St_delete_30 rfl (j := 0) rfl ?_
  refine gf_St_14 ok d_St_delete_31 h1 h4 ?_
  refine g_iload ok d_St_delete_34 (j := 4) rfl ?_
  exact gc_St_75 (As := [.int x7]) (rest := []) ok d_St_delete_36 hm rfl rfl (Nat.le_of_ble_eq_true rfl) hR h5 hlen kk
theorem k_St_delete_39 {X : gC} {M : List mC} {k n : Nat} {x0 : Nat} {x1 : Int64} {x3 : Int64} {x5 : Int64} {x7 : Int32} {fs2 : List Value} (ok : gO X c_St_delete "TripleStore$Store" w_St_delete) (h1 : M[x0]? = some (.inr (6, fs2))) {rm : Room} {post : Option Value → List mC → Prop} (hm : mm_ (gLa X) y_St_noteChange w_St_noteChange rm [.ref x0, .long x1, .long x3, .long x5, .int 0] M post) (hR : gF X rm 9 k n) (hlen : ∀ r M', post r M' → M'.length = M.length) (kk : ∀ r M', post r M' → gg X M' (k + rm.cells) (n + rm.slots) 48 [(0, .ref x0), (1, .long x1), (3, .long x3), (5, .long x5), (7, .int x7)] (r.toList ++ [])) : gg X M k n 39 [(0, .ref x0), (1, .long x1), (3, .long x3), (5, .long x5), (7, .int x7)] [] := by
  refine g_aload_n ok d_St_delete_39 rfl (j := 0) rfl ?_
  refine g_lload_n ok d_St_delete_40 rfl (j := 1) rfl ?_
  refine g_lload_n ok d_St_delete_41 rfl (j := 2) rfl ?_
  refine g_lload ok d_St_delete_42 (j := 3) rfl ?_
  refine g_iconst (v := 0) ok d_St_delete_44 (by decide) ?_
  exact gc_St_71 (As := [.long x1, .long x3, .long x5, .int 0]) (rest := []) ok d_St_delete_45 hm rfl rfl (Nat.le_of_ble_eq_true rfl) hR h1 hlen kk
theorem k_St_delete_48 {X : gC} {M : List mC} {k n : Nat} {x0 : Nat} {x1 : Int64} {x3 : Int64} {x5 : Int64} {x7 : Int32} (ok : gO X c_St_delete "TripleStore$Store" w_St_delete)  {l9 : Launch} {rm : Room} {M0 : List mC} {post : Option Value → List mC → Prop} (E : gE X l9 y_St_delete rm 8 (some .int) M0 post) (hp : post (some (.int 1)) M) (hk : k ≤ rm.cells) (hn : n ≤ rm.slots) : gg X M k n 48 [(0, .ref x0), (1, .long x1), (3, .long x3), (5, .long x5), (7, .int x7)] [] := by
  refine g_iconst (v := 1) ok d_St_delete_48 (by decide) ?_
  exact g_iret ok E d_St_delete_49 hp hk hn
theorem k_St_noteChange_0 {X : gC} {M : List mC} {k n : Nat} {x0 : Nat} {x1 : Int64} {x3 : Int64} {x5 : Int64} {x7 : Int32} {fs2 : List Value} {f3 : Nat} {fs6 : List Value} (ok : gO X c_St_noteChange "TripleStore$Store" w_St_noteChange) (h1 : M[x0]? = some (.inr (6, fs2))) (h4 : fs2[1]? = some (.ref f3)) (h5 : M[f3]? = some (.inr (8, fs6))) {rm : Room} {post : Option Value → List mC → Prop} (hm : mm_ (gLa X) y_Tr_size w_Tr_size rm [.ref f3] M post) (hR : gF X rm 1 k n) (hlen : ∀ r M', post r M' → M'.length = M.length) (kk : ∀ r M', post r M' → gg X M' (k + rm.cells) (n + rm.slots) 7 [(0, .ref x0), (1, .long x1), (3, .long x3), (5, .long x5), (7, .int x7)] (r.toList ++ [])) : gg X M k n 0 [(0, .ref x0), (1, .long x1), (3, .long x3), (5, .long x5), (7, .int x7)] [] := by
  refine g_aload_n ok d_St_noteChange_0 rfl (j := 0) rfl ?_
  refine gf_St_20 ok d_St_noteChange_1 h1 h4 ?_
  exact gc_St_45 (As := []) (rest := []) ok d_St_noteChange_4 hm rfl rfl (Nat.le_of_ble_eq_true rfl) hR h5 hlen kk
theorem k_St_noteChange_7 {X : gC} {M : List mC} {k n : Nat} {x0 : Nat} {x1 : Int64} {x3 : Int64} {x5 : Int64} {x7 : Int32} {s0 : Int32} (ok : gO X c_St_noteChange "TripleStore$Store" w_St_noteChange) (hl : gL X = 9)  (kt : s0 < 512 → gg X M k n 18 [(0, .ref x0), (1, .long x1), (3, .long x3), (5, .long x5), (7, .int x7), (8, .int s0)] []) (kf : ¬ s0 < 512 → gg X M k n 17 [(0, .ref x0), (1, .long x1), (3, .long x3), (5, .long x5), (7, .int x7), (8, .int s0)] []) : gg X M k n 7 [(0, .ref x0), (1, .long x1), (3, .long x3), (5, .long x5), (7, .int x7)] [.int s0] := by
  refine g_istore (L' := [(0, .ref x0), (1, .long x1), (3, .long x3), (5, .long x5), (7, .int x7), (8, .int s0)]) ok d_St_noteChange_7 (by rw [hl]; decide) rfl ?_
  refine g_iload ok d_St_noteChange_9 (j := 5) rfl ?_
  refine g_sipush (v := 512) ok d_St_noteChange_11 (by decide) ?_
  exact g_icmp_lt (tgt := 18) ok d_St_noteChange_14 (by decide) kt kf
theorem k_St_noteChange_17 {X : gC} {M : List mC} {k n : Nat} {x0 : Nat} {x1 : Int64} {x3 : Int64} {x5 : Int64} {x7 : Int32} {x8 : Int32} (ok : gO X c_St_noteChange "TripleStore$Store" w_St_noteChange)  {l9 : Launch} {rm : Room} {M0 : List mC} {post : Option Value → List mC → Prop} (E : gE X l9 y_St_noteChange rm 9 none M0 post) (hp : post (none) M) (hk : k ≤ rm.cells) (hn : n ≤ rm.slots) : gg X M k n 17 [(0, .ref x0), (1, .long x1), (3, .long x3), (5, .long x5), (7, .int x7), (8, .int x8)] [] := by
  exact g_vret ok E d_St_noteChange_17 hp hk hn
theorem k_St_noteChange_18 {X : gC} {M : List mC} {k n : Nat} {x0 : Nat} {x1 : Int64} {x3 : Int64} {x5 : Int64} {x7 : Int32} {x8 : Int32} {fs2 : List Value} {f3 : Nat} {fs6 : List Value} (ok : gO X c_St_noteChange "TripleStore$Store" w_St_noteChange) (h1 : M[x0]? = some (.inr (6, fs2))) (h4 : fs2[1]? = some (.ref f3)) (h5 : M[f3]? = some (.inr (8, fs6))) {rm : Room} {post : Option Value → List mC → Prop} (hm : mm_ (gLa X) y_Tr_put w_Tr_put rm [.ref f3, .long x1, .long x3, .long x5] M post) (hR : gF X rm 7 k n) (hlen : ∀ r M', post r M' → M'.length = M.length) (kk : ∀ r M', post r M' → gg X M' (k + rm.cells) (n + rm.slots) 29 [(0, .ref x0), (1, .long x1), (3, .long x3), (5, .long x5), (7, .int x7), (8, .int x8)] (r.toList ++ [])) : gg X M k n 18 [(0, .ref x0), (1, .long x1), (3, .long x3), (5, .long x5), (7, .int x7), (8, .int x8)] [] := by
  refine g_aload_n ok d_St_noteChange_18 rfl (j := 0) rfl ?_
  refine gf_St_20 ok d_St_noteChange_19 h1 h4 ?_
  refine g_lload_n ok d_St_noteChange_22 rfl (j := 1) rfl ?_
  refine g_lload_n ok d_St_noteChange_23 rfl (j := 2) rfl ?_
  refine g_lload ok d_St_noteChange_24 (j := 3) rfl ?_
  exact gc_St_67 (As := [.long x1, .long x3, .long x5]) (rest := []) ok d_St_noteChange_26 hm rfl rfl (Nat.le_of_ble_eq_true rfl) hR h5 hlen kk
theorem k_St_noteChange_29 {X : gC} {M : List mC} {k n : Nat} {x0 : Nat} {x1 : Int64} {x3 : Int64} {x5 : Int64} {x7 : Int32} {x8 : Int32} {fs2 : List Value} {f3 : Nat} {g6 : Nat → Int32} {N7 : Nat} {M9 : List mC} {f13 : Nat} {f15 : Int32} {g18 : Nat → Int32} {N19 : Nat} {M23 : List mC} {f27 : Int32} (ok : gO X c_St_noteChange "TripleStore$Store" w_St_noteChange) (h1 : M[x0]? = some (.inr (6, fs2))) (h4 : fs2[2]? = some (.ref f3)) (h5 : M[f3]? = some (.inl (3, N7, .inl g6))) (h8 : vp_in x8 N7) (h10 : M.set f3 (.inl (3, N7, .inl (upd g6 x8.toNatClampNeg (vp_nar .boolean x7)))) = M9) (h14 : fs2[3]? = some (.ref f13)) (h16 : fs2[6]? = some (.int f15)) (h17 : M[f13]? = some (.inl (0, N19, .inl g18))) (h21 : f13 ≠ f3) (h22 : vp_in x8 N19) (h24 : M9.set f13 (.inl (0, N19, .inl (upd g18 x8.toNatClampNeg f15))) = M23) (h28 : fs2[4]? = some (.int f27)) (kt : f27 = 0 → gg X M23 k n 69 [(0, .ref x0), (1, .long x1), (3, .long x3), (5, .long x5), (7, .int x7), (8, .int x8)] []) (kf : ¬ f27 = 0 → gg X M23 k n 56 [(0, .ref x0), (1, .long x1), (3, .long x3), (5, .long x5), (7, .int x7), (8, .int x8)] []) : gg X M k n 29 [(0, .ref x0), (1, .long x1), (3, .long x3), (5, .long x5), (7, .int x7), (8, .int x8)] [] := by
  refine g_aload_n ok d_St_noteChange_29 rfl (j := 0) rfl ?_
  refine gf_St_23 ok d_St_noteChange_30 h1 h4 ?_
  refine g_iload ok d_St_noteChange_33 (j := 5) rfl ?_
  refine g_iload ok d_St_noteChange_35 (j := 4) rfl ?_
  refine g_zast (t := 3) ok rfl d_St_noteChange_37 h5 h8 ?_
  rw [h10]
  have h11 : M9[f3]? = some (.inl (3, N7, .inl (upd g6 x8.toNatClampNeg (vp_nar .boolean x7)))) := by rw [← h10]; exact gs_eq h5
  refine g_aload_n ok d_St_noteChange_38 rfl (j := 0) rfl ?_
  have h12 : M9[x0]? = some (.inr (6, fs2)) := by rw [← h10]; exact (gs_ne (ne_ao h5 h1)).trans h1
  refine gf_St_27 ok d_St_noteChange_39 h12 h14 ?_
  refine g_iload ok d_St_noteChange_42 (j := 5) rfl ?_
  refine g_aload_n ok d_St_noteChange_44 rfl (j := 0) rfl ?_
  refine gf_St_39 ok d_St_noteChange_45 h12 h16 ?_
  have h20 : M9[f13]? = some (.inl (0, N19, .inl g18)) := by rw [← h10]; exact (gs_ne (Ne.symm h21)).trans h17
  refine g_iast (t := 0) ok rfl d_St_noteChange_48 h20 h22 ?_
  rw [h24]
  have h25 : M23[f13]? = some (.inl (0, N19, .inl (upd g18 x8.toNatClampNeg f15))) := by rw [← h24]; exact gs_eq h20
  refine g_aload_n ok d_St_noteChange_49 rfl (j := 0) rfl ?_
  have h26 : M23[x0]? = some (.inr (6, fs2)) := by rw [← h24]; exact (gs_ne (ne_ao h20 h12)).trans h12
  refine gf_St_31 ok d_St_noteChange_50 h26 h28 ?_
  exact g_if_eq (tgt := 69) ok d_St_noteChange_53 (by decide) kt kf
theorem k_St_noteChange_56 {X : gC} {M : List mC} {k n : Nat} {x0 : Nat} {x1 : Int64} {x3 : Int64} {x5 : Int64} {x7 : Int32} {x8 : Int32} {fs2 : List Value} {f3 : Int32} {M7 : List mC} (ok : gO X c_St_noteChange "TripleStore$Store" w_St_noteChange) (h1 : M[x0]? = some (.inr (6, fs2))) (h4 : fs2[5]? = some (.int f3)) (h6 : 8 ≤ fs2.length) (h8 : M.set x0 (.inr (6, (fs2.set 5 (.int (f3 + 1))))) = M7) (kk : gg X M7 k n 73 [(0, .ref x0), (1, .long x1), (3, .long x3), (5, .long x5), (7, .int x7), (8, .int x8)] []) : gg X M k n 56 [(0, .ref x0), (1, .long x1), (3, .long x3), (5, .long x5), (7, .int x7), (8, .int x8)] [] := by
  refine g_aload_n ok d_St_noteChange_56 rfl (j := 0) rfl ?_
  refine g_dup ok d_St_noteChange_57 rfl ?_
  refine gf_St_35 ok d_St_noteChange_58 h1 h4 ?_
  refine g_iconst (v := 1) ok d_St_noteChange_61 (by decide) ?_
  refine g_iadd ok d_St_noteChange_62 ?_
  have h5 : 5 < (fs2).length := by first | omega | (simp only [List.length_set]; omega)
  refine pf_St_35 ok d_St_noteChange_63 h1 h5 (fun _ => ⟨rfl, rfl⟩) ?_
  rw [h8]
  have h9 : M7[x0]? = some (.inr (6, (fs2.set 5 (.int (f3 + 1))))) := by rw [← h8]; exact gs_eq h1
  have h10 : (fs2.set 5 (.int (f3 + 1)))[5]? = some (.int (f3 + 1)) := List.getElem?_set_self h5
  exact g_goto (tgt := 73) ok d_St_noteChange_66 (by decide) kk
theorem k_St_noteChange_69 {X : gC} {M : List mC} {k n : Nat} {x0 : Nat} {x1 : Int64} {x3 : Int64} {x5 : Int64} {x7 : Int32} {x8 : Int32} {fs2 : List Value} (ok : gO X c_St_noteChange "TripleStore$Store" w_St_noteChange) (h1 : M[x0]? = some (.inr (6, fs2))) {rm : Room} {post : Option Value → List mC → Prop} (hm : mm_ (gLa X) y_St_countCommitted w_St_countCommitted rm [.ref x0] M post) (hR : gF X rm 1 k n) (hlen : ∀ r M', post r M' → M'.length = M.length) (kk : ∀ r M', post r M' → gg X M' (k + rm.cells) (n + rm.slots) 73 [(0, .ref x0), (1, .long x1), (3, .long x3), (5, .long x5), (7, .int x7), (8, .int x8)] (r.toList ++ [])) : gg X M k n 69 [(0, .ref x0), (1, .long x1), (3, .long x3), (5, .long x5), (7, .int x7), (8, .int x8)] [] := by
  refine g_aload_n ok d_St_noteChange_69 rfl (j := 0) rfl ?_
  exact gc_St_78 (As := []) (rest := []) ok d_St_noteChange_70 hm rfl rfl (Nat.le_of_ble_eq_true rfl) hR h1 hlen kk
theorem k_St_noteChange_73 {X : gC} {M : List mC} {k n : Nat} {x0 : Nat} {x1 : Int64} {x3 : Int64} {x5 : Int64} {x7 : Int32} {x8 : Int32} (ok : gO X c_St_noteChange "TripleStore$Store" w_St_noteChange)  {l9 : Launch} {rm : Room} {M0 : List mC} {post : Option Value → List mC → Prop} (E : gE X l9 y_St_noteChange rm 9 none M0 post) (hp : post (none) M) (hk : k ≤ rm.cells) (hn : n ≤ rm.slots) : gg X M k n 73 [(0, .ref x0), (1, .long x1), (3, .long x3), (5, .long x5), (7, .int x7), (8, .int x8)] [] := by
  exact g_vret ok E d_St_noteChange_73 hp hk hn
theorem k_St_countCommitted_0 {X : gC} {M : List mC} {k n : Nat} {x0 : Nat} {fs2 : List Value} {f3 : Int32} {M7 : List mC} {f11 : Int32} {M15 : List mC} (ok : gO X c_St_countCommitted "TripleStore$Store" w_St_countCommitted) (h1 : M[x0]? = some (.inr (6, fs2))) (h4 : fs2[6]? = some (.int f3)) (h6 : 8 ≤ fs2.length) (h8 : M.set x0 (.inr (6, (fs2.set 6 (.int (f3 + 1))))) = M7) (h12 : fs2[7]? = some (.int f11)) (h16 : M7.set x0 (.inr (6, ((fs2.set 6 (.int (f3 + 1))).set 7 (.int (f11 + 1))))) = M15) {l9 : Launch} {rm : Room} {M0 : List mC} {post : Option Value → List mC → Prop} (E : gE X l9 y_St_countCommitted rm 1 none M0 post) (hp : post (none) M15) (hk : k ≤ rm.cells) (hn : n ≤ rm.slots) : gg X M k n 0 [(0, .ref x0)] [] := by
  refine g_aload_n ok d_St_countCommitted_0 rfl (j := 0) rfl ?_
  refine g_dup ok d_St_countCommitted_1 rfl ?_
  refine gf_St_39 ok d_St_countCommitted_2 h1 h4 ?_
  refine g_iconst (v := 1) ok d_St_countCommitted_5 (by decide) ?_
  refine g_iadd ok d_St_countCommitted_6 ?_
  have h5 : 6 < (fs2).length := by first | omega | (simp only [List.length_set]; omega)
  refine pf_St_39 ok d_St_countCommitted_7 h1 h5 (fun _ => ⟨rfl, rfl⟩) ?_
  rw [h8]
  have h9 : M7[x0]? = some (.inr (6, (fs2.set 6 (.int (f3 + 1))))) := by rw [← h8]; exact gs_eq h1
  have h10 : (fs2.set 6 (.int (f3 + 1)))[6]? = some (.int (f3 + 1)) := List.getElem?_set_self h5
  refine g_aload_n ok d_St_countCommitted_10 rfl (j := 0) rfl ?_
  refine g_dup ok d_St_countCommitted_11 rfl ?_
  have h13 := (List.getElem?_set_ne (a := .int (f3 + 1)) (by decide : 6 ≠ 7)).trans h12
  refine gf_St_42 ok d_St_countCommitted_12 h9 h13 ?_
  refine g_iconst (v := 1) ok d_St_countCommitted_15 (by decide) ?_
  refine g_iadd ok d_St_countCommitted_16 ?_
  have h14 : 7 < ((fs2.set 6 (.int (f3 + 1)))).length := by first | omega | (simp only [List.length_set]; omega)
  refine pf_St_42 ok d_St_countCommitted_17 h9 h14 (fun _ => ⟨rfl, rfl⟩) ?_
  rw [h16]
  have h17 : M15[x0]? = some (.inr (6, ((fs2.set 6 (.int (f3 + 1))).set 7 (.int (f11 + 1))))) := by rw [← h16]; exact gs_eq h9
  have h18 := (List.getElem?_set_ne (a := .int (f11 + 1)) (by decide : 7 ≠ 6)).trans h10
  have h19 : ((fs2.set 6 (.int (f3 + 1))).set 7 (.int (f11 + 1)))[7]? = some (.int (f11 + 1)) := List.getElem?_set_self h14
  exact g_vret ok E d_St_countCommitted_20 hp hk hn
theorem k_St_openTransaction_0 {X : gC} {M : List mC} {k n : Nat} {x0 : Nat} {fs2 : List Value} {M5 : List mC} {f9 : Int32} (ok : gO X c_St_openTransaction "TripleStore$Store" w_St_openTransaction) (h1 : M[x0]? = some (.inr (6, fs2))) (h4 : 8 ≤ fs2.length) (h6 : M.set x0 (.inr (6, (fs2.set 4 (.int 1)))) = M5) (h10 : fs2[6]? = some (.int f9)) {l9 : Launch} {rm : Room} {M0 : List mC} {post : Option Value → List mC → Prop} (E : gE X l9 y_St_openTransaction rm 1 (some .int) M0 post) (hp : post (some (.int f9)) M5) (hk : k ≤ rm.cells) (hn : n ≤ rm.slots) : gg X M k n 0 [(0, .ref x0)] [] := by
  refine g_aload_n ok d_St_openTransaction_0 rfl (j := 0) rfl ?_
  refine g_iconst (v := 1) ok d_St_openTransaction_1 (by decide) ?_
  have h3 : 4 < (fs2).length := by first | omega | (simp only [List.length_set]; omega)
  refine pf_St_31 ok d_St_openTransaction_2 h1 h3 (fun _ => ⟨rfl, rfl⟩) ?_
  rw [h6]
  have h7 : M5[x0]? = some (.inr (6, (fs2.set 4 (.int 1)))) := by rw [← h6]; exact gs_eq h1
  have h8 : (fs2.set 4 (.int 1))[4]? = some (.int 1) := List.getElem?_set_self h3
  refine g_aload_n ok d_St_openTransaction_5 rfl (j := 0) rfl ?_
  have h11 := (List.getElem?_set_ne (a := .int 1) (by decide : 4 ≠ 6)).trans h10
  refine gf_St_39 ok d_St_openTransaction_6 h7 h11 ?_
  exact g_iret ok E d_St_openTransaction_9 hp hk hn
theorem k_St_commitOpen_0 {X : gC} {M : List mC} {k n : Nat} {x0 : Nat} {fs2 : List Value} {f3 : Int32} {M7 : List mC} {M13 : List mC} (ok : gO X c_St_commitOpen "TripleStore$Store" w_St_commitOpen) (hl : gL X = 2) (h1 : M[x0]? = some (.inr (6, fs2))) (h4 : fs2[5]? = some (.int f3)) (h6 : 8 ≤ fs2.length) (h8 : M.set x0 (.inr (6, (fs2.set 4 (.int 0)))) = M7) (h14 : M7.set x0 (.inr (6, ((fs2.set 4 (.int 0)).set 5 (.int 0)))) = M13) {rm : Room} {post : Option Value → List mC → Prop} (hm : mm_ (gLa X) y_St_countCommitted w_St_countCommitted rm [.ref x0] M13 post) (hR : gF X rm 1 k n) (hlen : ∀ r M', post r M' → M'.length = M13.length) (kk : ∀ r M', post r M' → gg X M' (k + rm.cells) (n + rm.slots) 19 [(0, .ref x0), (1, .int f3)] (r.toList ++ [])) : gg X M k n 0 [(0, .ref x0)] [] := by
  refine g_aload_n ok d_St_commitOpen_0 rfl (j := 0) rfl ?_
  refine gf_St_35 ok d_St_commitOpen_1 h1 h4 ?_
  refine g_istore_n (L' := [(0, .ref x0), (1, .int f3)]) ok d_St_commitOpen_4 rfl (by rw [hl]; decide) rfl ?_
  refine g_aload_n ok d_St_commitOpen_5 rfl (j := 0) rfl ?_
  refine g_iconst (v := 0) ok d_St_commitOpen_6 (by decide) ?_
  have h5 : 4 < (fs2).length := by first | omega | (simp only [List.length_set]; omega)
  refine pf_St_31 ok d_St_commitOpen_7 h1 h5 (fun _ => ⟨rfl, rfl⟩) ?_
  rw [h8]
  have h9 : M7[x0]? = some (.inr (6, (fs2.set 4 (.int 0)))) := by rw [← h8]; exact gs_eq h1
  have h10 := (List.getElem?_set_ne (a := .int 0) (by decide : 4 ≠ 5)).trans h4
  have h11 : (fs2.set 4 (.int 0))[4]? = some (.int 0) := List.getElem?_set_self h5
  refine g_aload_n ok d_St_commitOpen_10 rfl (j := 0) rfl ?_
  refine g_iconst (v := 0) ok d_St_commitOpen_11 (by decide) ?_
  have h12 : 5 < ((fs2.set 4 (.int 0))).length := by first | omega | (simp only [List.length_set]; omega)
  refine pf_St_35 ok d_St_commitOpen_12 h9 h12 (fun _ => ⟨rfl, rfl⟩) ?_
  rw [h14]
  have h15 : M13[x0]? = some (.inr (6, ((fs2.set 4 (.int 0)).set 5 (.int 0)))) := by rw [← h14]; exact gs_eq h9
  have h16 := (List.getElem?_set_ne (a := .int 0) (by decide : 5 ≠ 4)).trans h11
  have h17 : ((fs2.set 4 (.int 0)).set 5 (.int 0))[5]? = some (.int 0) := List.getElem?_set_self h12
  refine g_aload_n ok d_St_commitOpen_15 rfl (j := 0) rfl ?_
  exact gc_St_78 (As := []) (rest := []) ok d_St_commitOpen_16 hm rfl rfl (Nat.le_of_ble_eq_true rfl) hR h15 hlen kk
theorem k_St_commitOpen_19 {X : gC} {M : List mC} {k n : Nat} {x0 : Nat} {x1 : Int32} (ok : gO X c_St_commitOpen "TripleStore$Store" w_St_commitOpen)  {l9 : Launch} {rm : Room} {M0 : List mC} {post : Option Value → List mC → Prop} (E : gE X l9 y_St_commitOpen rm 2 (some .int) M0 post) (hp : post (some (.int x1)) M) (hk : k ≤ rm.cells) (hn : n ≤ rm.slots) : gg X M k n 19 [(0, .ref x0), (1, .int x1)] [] := by
  refine g_iload_n ok d_St_commitOpen_19 rfl (j := 1) rfl ?_
  exact g_iret ok E d_St_commitOpen_20 hp hk hn
theorem k_St_undoOpen_0 {X : gC} {M : List mC} {k n : Nat} {x0 : Nat} {fs2 : List Value} {f3 : Int32} {f5 : Int32} (ok : gO X c_St_undoOpen "TripleStore$Store" w_St_undoOpen) (hl : gL X = 2) (h1 : M[x0]? = some (.inr (6, fs2))) (h4 : fs2[5]? = some (.int f3)) (h6 : fs2[6]? = some (.int f5)) {rm : Room} {post : Option Value → List mC → Prop} (hm : mm_ (gLa X) y_St_undoFrom w_St_undoFrom rm [.ref x0, .int f5] M post) (hR : gF X rm 3 k n) (hlen : ∀ r M', post r M' → M'.length = M.length) (kk : ∀ r M', post r M' → gg X M' (k + rm.cells) (n + rm.slots) 13 [(0, .ref x0), (1, .int f3)] (r.toList ++ [])) : gg X M k n 0 [(0, .ref x0)] [] := by
  refine g_aload_n ok d_St_undoOpen_0 rfl (j := 0) rfl ?_
  refine gf_St_35 ok d_St_undoOpen_1 h1 h4 ?_
  refine g_istore_n (L' := [(0, .ref x0), (1, .int f3)]) ok d_St_undoOpen_4 rfl (by rw [hl]; decide) rfl ?_
  refine g_aload_n ok d_St_undoOpen_5 rfl (j := 0) rfl ?_
  refine g_aload_n ok d_St_undoOpen_6 rfl (j := 0) rfl ?_
  refine gf_St_39 ok d_St_undoOpen_7 h1 h6 ?_
  exact gc_St_81 (As := [.int f5]) (rest := []) ok d_St_undoOpen_10 hm rfl rfl (Nat.le_of_ble_eq_true rfl) hR h1 hlen kk
theorem k_St_undoOpen_13 {X : gC} {M : List mC} {k n : Nat} {x0 : Nat} {x1 : Int32} (ok : gO X c_St_undoOpen "TripleStore$Store" w_St_undoOpen)  {l9 : Launch} {rm : Room} {M0 : List mC} {post : Option Value → List mC → Prop} (E : gE X l9 y_St_undoOpen rm 2 (some .int) M0 post) (hp : post (some (.int x1)) M) (hk : k ≤ rm.cells) (hn : n ≤ rm.slots) : gg X M k n 13 [(0, .ref x0), (1, .int x1)] [] := by
  refine g_iload_n ok d_St_undoOpen_13 rfl (j := 1) rfl ?_
  exact g_iret ok E d_St_undoOpen_14 hp hk hn
theorem k_St_syncAll_0 {X : gC} {M : List mC} {k n : Nat} {x0 : Nat} {fs2 : List Value} {f3 : Int32} {M7 : List mC} (ok : gO X c_St_syncAll "TripleStore$Store" w_St_syncAll) (hl : gL X = 2) (h1 : M[x0]? = some (.inr (6, fs2))) (h4 : fs2[7]? = some (.int f3)) (h6 : 8 ≤ fs2.length) (h8 : M.set x0 (.inr (6, (fs2.set 7 (.int 0)))) = M7) {l9 : Launch} {rm : Room} {M0 : List mC} {post : Option Value → List mC → Prop} (E : gE X l9 y_St_syncAll rm 2 (some .int) M0 post) (hp : post (some (.int f3)) M7) (hk : k ≤ rm.cells) (hn : n ≤ rm.slots) : gg X M k n 0 [(0, .ref x0)] [] := by
  refine g_aload_n ok d_St_syncAll_0 rfl (j := 0) rfl ?_
  refine gf_St_42 ok d_St_syncAll_1 h1 h4 ?_
  refine g_istore_n (L' := [(0, .ref x0), (1, .int f3)]) ok d_St_syncAll_4 rfl (by rw [hl]; decide) rfl ?_
  refine g_aload_n ok d_St_syncAll_5 rfl (j := 0) rfl ?_
  refine g_iconst (v := 0) ok d_St_syncAll_6 (by decide) ?_
  have h5 : 7 < (fs2).length := by first | omega | (simp only [List.length_set]; omega)
  refine pf_St_42 ok d_St_syncAll_7 h1 h5 (fun _ => ⟨rfl, rfl⟩) ?_
  rw [h8]
  have h9 : M7[x0]? = some (.inr (6, (fs2.set 7 (.int 0)))) := by rw [← h8]; exact gs_eq h1
  have h10 : (fs2.set 7 (.int 0))[7]? = some (.int 0) := List.getElem?_set_self h5
  refine g_iload_n ok d_St_syncAll_10 rfl (j := 1) rfl ?_
  exact g_iret ok E d_St_syncAll_11 hp hk hn
theorem k_St_loseBut_18 {X : gC} {M : List mC} {k n : Nat} {x0 : Nat} {x1 : Int32} {s0 : Nat} {s1 : Int32} {s2 : Int32} {fs2 : List Value} (ok : gO X c_St_loseBut "TripleStore$Store" w_St_loseBut) (h1 : M[s0]? = some (.inr (6, fs2))) {rm : Room} {post : Option Value → List mC → Prop} (hm : mm_ (gLa X) y_St_undoFrom w_St_undoFrom rm [.ref s0, .int (s1 + s2)] M post) (hR : gF X rm 3 k n) (hlen : ∀ r M', post r M' → M'.length = M.length) (kk : ∀ r M', post r M' → gg X M' (k + rm.cells) (n + rm.slots) 22 [(0, .ref x0), (1, .int x1)] (r.toList ++ [])) : gg X M k n 18 [(0, .ref x0), (1, .int x1)] [.int s2, .int s1, .ref s0] := by
  refine g_iadd ok d_St_loseBut_18 ?_
  exact gc_St_81 (As := [.int (s1 + s2)]) (rest := []) ok d_St_loseBut_19 hm rfl rfl (Nat.le_of_ble_eq_true rfl) hR h1 hlen kk
theorem k_St_loseBut_22 {X : gC} {M : List mC} {k n : Nat} {x0 : Nat} {x1 : Int32} {fs2 : List Value} {M5 : List mC} (ok : gO X c_St_loseBut "TripleStore$Store" w_St_loseBut) (h1 : M[x0]? = some (.inr (6, fs2))) (h4 : 8 ≤ fs2.length) (h6 : M.set x0 (.inr (6, (fs2.set 7 (.int 0)))) = M5) {l9 : Launch} {rm : Room} {M0 : List mC} {post : Option Value → List mC → Prop} (E : gE X l9 y_St_loseBut rm 2 none M0 post) (hp : post (none) M5) (hk : k ≤ rm.cells) (hn : n ≤ rm.slots) : gg X M k n 22 [(0, .ref x0), (1, .int x1)] [] := by
  refine g_aload_n ok d_St_loseBut_22 rfl (j := 0) rfl ?_
  refine g_iconst (v := 0) ok d_St_loseBut_23 (by decide) ?_
  have h3 : 7 < (fs2).length := by first | omega | (simp only [List.length_set]; omega)
  refine pf_St_42 ok d_St_loseBut_24 h1 h3 (fun _ => ⟨rfl, rfl⟩) ?_
  rw [h6]
  have h7 : M5[x0]? = some (.inr (6, (fs2.set 7 (.int 0)))) := by rw [← h6]; exact gs_eq h1
  have h8 : (fs2.set 7 (.int 0))[7]? = some (.int 0) := List.getElem?_set_self h3
  exact g_vret ok E d_St_loseBut_27 hp hk hn
theorem k_St_undoFrom_0 {X : gC} {M : List mC} {k n : Nat} {x0 : Nat} {x1 : Int32} {fs2 : List Value} {f3 : Nat} {fs6 : List Value} (ok : gO X c_St_undoFrom "TripleStore$Store" w_St_undoFrom) (h1 : M[x0]? = some (.inr (6, fs2))) (h4 : fs2[1]? = some (.ref f3)) (h5 : M[f3]? = some (.inr (8, fs6))) {rm : Room} {post : Option Value → List mC → Prop} (hm : mm_ (gLa X) y_Tr_size w_Tr_size rm [.ref f3] M post) (hR : gF X rm 1 k n) (hlen : ∀ r M', post r M' → M'.length = M.length) (kk : ∀ r M', post r M' → gg X M' (k + rm.cells) (n + rm.slots) 7 [(0, .ref x0), (1, .int x1)] (r.toList ++ [])) : gg X M k n 0 [(0, .ref x0), (1, .int x1)] [] := by
  refine g_aload_n ok d_St_undoFrom_0 rfl (j := 0) rfl ?_
  refine gf_St_20 ok d_St_undoFrom_1 h1 h4 ?_
  exact gc_St_45 (As := []) (rest := []) ok d_St_undoFrom_4 hm rfl rfl (Nat.le_of_ble_eq_true rfl) hR h5 hlen kk
theorem k_St_undoFrom_7 {X : gC} {M : List mC} {k n : Nat} {x0 : Nat} {x1 : Int32} {s0 : Int32} (ok : gO X c_St_undoFrom "TripleStore$Store" w_St_undoFrom) (hl : gL X = 3)  (kk : gg X M k n 10 [(0, .ref x0), (1, .int x1), (2, .int (s0 - 1))] []) : gg X M k n 7 [(0, .ref x0), (1, .int x1)] [.int s0] := by
  refine g_iconst (v := 1) ok d_St_undoFrom_7 (by decide) ?_
  refine g_isub ok d_St_undoFrom_8 ?_
  refine g_istore_n (L' := [(0, .ref x0), (1, .int x1), (2, .int (s0 - 1))]) ok d_St_undoFrom_9 rfl (by rw [hl]; decide) rfl ?_
  exact kk
theorem k_St_undoFrom_10 {X : gC} {M : List mC} {k n : Nat} {x0 : Nat} {x1 : Int32} {x2 : Int32} (ok : gO X c_St_undoFrom "TripleStore$Store" w_St_undoFrom)  (kt : x2 < 0 → gg X M k n 35 [(0, .ref x0), (1, .int x1), (2, .int x2)] []) (kf : ¬ x2 < 0 → gg X M k n 14 [(0, .ref x0), (1, .int x1), (2, .int x2)] []) : gg X M k n 10 [(0, .ref x0), (1, .int x1), (2, .int x2)] [] := by
  refine g_iload_n ok d_St_undoFrom_10 rfl (j := 2) rfl ?_
  exact g_if_lt (tgt := 35) ok d_St_undoFrom_11 (by decide) kt kf
theorem k_St_undoFrom_14 {X : gC} {M : List mC} {k n : Nat} {x0 : Nat} {x1 : Int32} {x2 : Int32} {fs2 : List Value} {f3 : Nat} {g6 : Nat → Int32} {N7 : Nat} (ok : gO X c_St_undoFrom "TripleStore$Store" w_St_undoFrom) (h1 : M[x0]? = some (.inr (6, fs2))) (h4 : fs2[3]? = some (.ref f3)) (h5 : M[f3]? = some (.inl (0, N7, .inl g6))) (h8 : vp_in x2 N7) (kt : (g6 x2.toNatClampNeg) < x1 → gg X M k n 35 [(0, .ref x0), (1, .int x1), (2, .int x2)] []) (kf : ¬ (g6 x2.toNatClampNeg) < x1 → gg X M k n 24 [(0, .ref x0), (1, .int x1), (2, .int x2)] []) : gg X M k n 14 [(0, .ref x0), (1, .int x1), (2, .int x2)] [] := by
  refine g_aload_n ok d_St_undoFrom_14 rfl (j := 0) rfl ?_
  refine gf_St_27 ok d_St_undoFrom_15 h1 h4 ?_
  refine g_iload_n ok d_St_undoFrom_18 rfl (j := 2) rfl ?_
  refine g_iald (t := 0) ok rfl d_St_undoFrom_19 h5 h8 ?_
  refine g_iload_n ok d_St_undoFrom_20 rfl (j := 1) rfl ?_
  exact g_icmp_lt (tgt := 35) ok d_St_undoFrom_21 (by decide) kt kf
theorem k_St_undoFrom_24 {X : gC} {M : List mC} {k n : Nat} {x0 : Nat} {x1 : Int32} {x2 : Int32} {fs2 : List Value} (ok : gO X c_St_undoFrom "TripleStore$Store" w_St_undoFrom) (h1 : M[x0]? = some (.inr (6, fs2))) {rm : Room} {post : Option Value → List mC → Prop} (hm : mm_ (gLa X) y_St_undoLast w_St_undoLast rm [.ref x0, .int x2] M post) (hR : gF X rm 8 k n) (hlen : ∀ r M', post r M' → M'.length = M.length) (kk : ∀ r M', post r M' → gg X M' (k + rm.cells) (n + rm.slots) 29 [(0, .ref x0), (1, .int x1), (2, .int x2)] (r.toList ++ [])) : gg X M k n 24 [(0, .ref x0), (1, .int x1), (2, .int x2)] [] := by
  refine g_aload_n ok d_St_undoFrom_24 rfl (j := 0) rfl ?_
  refine g_iload_n ok d_St_undoFrom_25 rfl (j := 2) rfl ?_
  exact gc_St_90 (As := [.int x2]) (rest := []) ok d_St_undoFrom_26 hm rfl rfl (Nat.le_of_ble_eq_true rfl) hR h1 hlen kk
theorem k_St_undoFrom_29 {X : gC} {M : List mC} {k n : Nat} {x0 : Nat} {x1 : Int32} {x2 : Int32} (ok : gO X c_St_undoFrom "TripleStore$Store" w_St_undoFrom) (hl : gL X = 3)  (kk : gg X M k n 10 [(0, .ref x0), (1, .int x1), (2, .int (x2 + (-1)))] []) : gg X M k n 29 [(0, .ref x0), (1, .int x1), (2, .int x2)] [] := by
  refine g_iinc (L' := [(0, .ref x0), (1, .int x1), (2, .int (x2 + (-1)))]) (v := (x2 + (-1))) ok d_St_undoFrom_29 (j := 2) rfl rfl (by rw [hl]; decide) rfl ?_
  exact g_goto (tgt := 10) ok d_St_undoFrom_32 (by decide) kk
theorem k_St_undoFrom_35 {X : gC} {M : List mC} {k n : Nat} {x0 : Nat} {x1 : Int32} {x2 : Int32} {fs2 : List Value} {M5 : List mC} {M10 : List mC} (ok : gO X c_St_undoFrom "TripleStore$Store" w_St_undoFrom) (h1 : M[x0]? = some (.inr (6, fs2))) (h4 : 8 ≤ fs2.length) (h6 : M.set x0 (.inr (6, (fs2.set 4 (.int 0)))) = M5) (h11 : M5.set x0 (.inr (6, ((fs2.set 4 (.int 0)).set 5 (.int 0)))) = M10) {l9 : Launch} {rm : Room} {M0 : List mC} {post : Option Value → List mC → Prop} (E : gE X l9 y_St_undoFrom rm 3 none M0 post) (hp : post (none) M10) (hk : k ≤ rm.cells) (hn : n ≤ rm.slots) : gg X M k n 35 [(0, .ref x0), (1, .int x1), (2, .int x2)] [] := by
  refine g_aload_n ok d_St_undoFrom_35 rfl (j := 0) rfl ?_
  refine g_iconst (v := 0) ok d_St_undoFrom_36 (by decide) ?_
  have h3 : 4 < (fs2).length := by first | omega | (simp only [List.length_set]; omega)
  refine pf_St_31 ok d_St_undoFrom_37 h1 h3 (fun _ => ⟨rfl, rfl⟩) ?_
  rw [h6]
  have h7 : M5[x0]? = some (.inr (6, (fs2.set 4 (.int 0)))) := by rw [← h6]; exact gs_eq h1
  have h8 : (fs2.set 4 (.int 0))[4]? = some (.int 0) := List.getElem?_set_self h3
  refine g_aload_n ok d_St_undoFrom_40 rfl (j := 0) rfl ?_
  refine g_iconst (v := 0) ok d_St_undoFrom_41 (by decide) ?_
  have h9 : 5 < ((fs2.set 4 (.int 0))).length := by first | omega | (simp only [List.length_set]; omega)
  refine pf_St_35 ok d_St_undoFrom_42 h7 h9 (fun _ => ⟨rfl, rfl⟩) ?_
  rw [h11]
  have h12 : M10[x0]? = some (.inr (6, ((fs2.set 4 (.int 0)).set 5 (.int 0)))) := by rw [← h11]; exact gs_eq h7
  have h13 := (List.getElem?_set_ne (a := .int 0) (by decide : 5 ≠ 4)).trans h8
  have h14 : ((fs2.set 4 (.int 0)).set 5 (.int 0))[5]? = some (.int 0) := List.getElem?_set_self h9
  exact g_vret ok E d_St_undoFrom_45 hp hk hn
theorem k_St_undoLast_0 {X : gC} {M : List mC} {k n : Nat} {x0 : Nat} {x1 : Int32} {fs2 : List Value} {f3 : Nat} {fs6 : List Value} (ok : gO X c_St_undoLast "TripleStore$Store" w_St_undoLast) (h1 : M[x0]? = some (.inr (6, fs2))) (h4 : fs2[1]? = some (.ref f3)) (h5 : M[f3]? = some (.inr (8, fs6))) {rm : Room} {post : Option Value → List mC → Prop} (hm : mm_ (gLa X) y_Tr_subject w_Tr_subject rm [.ref f3, .int x1] M post) (hR : gF X rm 2 k n) (hlen : ∀ r M', post r M' → M'.length = M.length) (kk : ∀ r M', post r M' → gg X M' (k + rm.cells) (n + rm.slots) 8 [(0, .ref x0), (1, .int x1)] (r.toList ++ [])) : gg X M k n 0 [(0, .ref x0), (1, .int x1)] [] := by
  refine g_aload_n ok d_St_undoLast_0 rfl (j := 0) rfl ?_
  refine gf_St_20 ok d_St_undoLast_1 h1 h4 ?_
  refine g_iload_n ok d_St_undoLast_4 rfl (j := 1) rfl ?_
  exact gc_St_53 (As := [.int x1]) (rest := []) ok d_St_undoLast_5 hm rfl rfl (Nat.le_of_ble_eq_true rfl) hR h5 hlen kk
theorem k_St_undoLast_8 {X : gC} {M : List mC} {k n : Nat} {x0 : Nat} {x1 : Int32} {s0 : Int64} {fs2 : List Value} {f3 : Nat} {fs6 : List Value} (ok : gO X c_St_undoLast "TripleStore$Store" w_St_undoLast) (hl : gL X = 8) (h1 : M[x0]? = some (.inr (6, fs2))) (h4 : fs2[1]? = some (.ref f3)) (h5 : M[f3]? = some (.inr (8, fs6))) {rm : Room} {post : Option Value → List mC → Prop} (hm : mm_ (gLa X) y_Tr_predicate w_Tr_predicate rm [.ref f3, .int x1] M post) (hR : gF X rm 2 k n) (hlen : ∀ r M', post r M' → M'.length = M.length) (kk : ∀ r M', post r M' → gg X M' (k + rm.cells) (n + rm.slots) 17 [(0, .ref x0), (1, .int x1), (2, .long s0)] (r.toList ++ [])) : gg X M k n 8 [(0, .ref x0), (1, .int x1)] [.long s0] := by
  refine g_lstore_n (L' := [(0, .ref x0), (1, .int x1), (2, .long s0)]) ok d_St_undoLast_8 rfl (by rw [hl]; decide) rfl ?_
  refine g_aload_n ok d_St_undoLast_9 rfl (j := 0) rfl ?_
  refine gf_St_20 ok d_St_undoLast_10 h1 h4 ?_
  refine g_iload_n ok d_St_undoLast_13 rfl (j := 1) rfl ?_
  exact gc_St_57 (As := [.int x1]) (rest := []) ok d_St_undoLast_14 hm rfl rfl (Nat.le_of_ble_eq_true rfl) hR h5 hlen kk
theorem k_St_undoLast_17 {X : gC} {M : List mC} {k n : Nat} {x0 : Nat} {x1 : Int32} {x2 : Int64} {s0 : Int64} {fs2 : List Value} {f3 : Nat} {fs6 : List Value} (ok : gO X c_St_undoLast "TripleStore$Store" w_St_undoLast) (hl : gL X = 8) (h1 : M[x0]? = some (.inr (6, fs2))) (h4 : fs2[1]? = some (.ref f3)) (h5 : M[f3]? = some (.inr (8, fs6))) {rm : Room} {post : Option Value → List mC → Prop} (hm : mm_ (gLa X) y_Tr_object w_Tr_object rm [.ref f3, .int x1] M post) (hR : gF X rm 2 k n) (hlen : ∀ r M', post r M' → M'.length = M.length) (kk : ∀ r M', post r M' → gg X M' (k + rm.cells) (n + rm.slots) 27 [(0, .ref x0), (1, .int x1), (2, .long x2), (4, .long s0)] (r.toList ++ [])) : gg X M k n 17 [(0, .ref x0), (1, .int x1), (2, .long x2)] [.long s0] := by
  refine g_lstore (L' := [(0, .ref x0), (1, .int x1), (2, .long x2), (4, .long s0)]) ok d_St_undoLast_17 (by rw [hl]; decide) rfl ?_
  refine g_aload_n ok d_St_undoLast_19 rfl (j := 0) rfl ?_
  refine gf_St_20 ok d_St_undoLast_20 h1 h4 ?_
  refine g_iload_n ok d_St_undoLast_23 rfl (j := 1) rfl ?_
  exact gc_St_60 (As := [.int x1]) (rest := []) ok d_St_undoLast_24 hm rfl rfl (Nat.le_of_ble_eq_true rfl) hR h5 hlen kk
theorem k_St_undoLast_27 {X : gC} {M : List mC} {k n : Nat} {x0 : Nat} {x1 : Int32} {x2 : Int64} {x4 : Int64} {s0 : Int64} {fs2 : List Value} {f3 : Nat} {g6 : Nat → Int32} {N7 : Nat} (ok : gO X c_St_undoLast "TripleStore$Store" w_St_undoLast) (hl : gL X = 8) (h1 : M[x0]? = some (.inr (6, fs2))) (h4 : fs2[2]? = some (.ref f3)) (h5 : M[f3]? = some (.inl (3, N7, .inl g6))) (h8 : vp_in x1 N7) (kt : (g6 x1.toNatClampNeg) = 0 → gg X M k n 60 [(0, .ref x0), (1, .int x1), (2, .long x2), (4, .long x4), (6, .long s0)] []) (kf : ¬ (g6 x1.toNatClampNeg) = 0 → gg X M k n 38 [(0, .ref x0), (1, .int x1), (2, .long x2), (4, .long x4), (6, .long s0)] []) : gg X M k n 27 [(0, .ref x0), (1, .int x1), (2, .long x2), (4, .long x4)] [.long s0] := by
  refine g_lstore (L' := [(0, .ref x0), (1, .int x1), (2, .long x2), (4, .long x4), (6, .long s0)]) ok d_St_undoLast_27 (by rw [hl]; decide) rfl ?_
  refine g_aload_n ok d_St_undoLast_29 rfl (j := 0) rfl ?_
  refine gf_St_23 ok d_St_undoLast_30 h1 h4 ?_
  refine g_iload_n ok d_St_undoLast_33 rfl (j := 1) rfl ?_
  refine g_zald (t := 3) ok rfl d_St_undoLast_34 h5 h8 ?_
  exact g_if_eq (tgt := 60) ok d_St_undoLast_35 (by decide) kt kf
theorem k_St_undoLast_38 {X : gC} {M : List mC} {k n : Nat} {x0 : Nat} {x1 : Int32} {x2 : Int64} {x4 : Int64} {x6 : Int64} {fs2 : List Value} {f3 : Nat} {fs6 : List Value} (ok : gO X c_St_undoLast "TripleStore$Store" w_St_undoLast) (h1 : M[x0]? = some (.inr (6, fs2))) (h4 : fs2[0]? = some (.ref f3)) (h5 : M[f3]? = some (.inr (8, fs6))) {rm : Room} {post : Option Value → List mC → Prop} (hm : mm_ (gLa X) y_Tr_find w_Tr_find rm [.ref f3, .long x2, .long x4, .long x6] M post) (hR : gF X rm 8 k n) (hlen : ∀ r M', post r M' → M'.length = M.length) (kk : ∀ r M', post r M' → gg X M' (k + rm.cells) (n + rm.slots) 54 [(0, .ref x0), (1, .int x1), (2, .long x2), (4, .long x4), (6, .long x6)] (r.toList ++ [.ref f3])) : gg X M k n 38 [(0, .ref x0), (1, .int x1), (2, .long x2), (4, .long x4), (6, .long x6)] [] := by
  refine g_aload_n ok d_St_undoLast_38 rfl (j := 0) rfl ?_
  refine gf_St_14 ok d_St_undoLast_39 h1 h4 ?_
  refine g_aload_n ok d_St_undoLast_42 rfl (j := 0) rfl ?_
  refine gf_St_14 ok d_St_undoLast_43 h1 h4 ?_
  refine g_lload_n ok d_St_undoLast_46 rfl (j := 2) rfl ?_
  refine g_lload ok d_St_undoLast_47 (j := 3) rfl ?_
  refine g_lload ok d_St_undoLast_49 (j := 4) rfl ?_
  exact gc_St_49 (As := [.long x2, .long x4, .long x6]) (rest := [.ref f3]) ok d_St_undoLast_51 hm rfl rfl (Nat.le_of_ble_eq_true rfl) hR h5 hlen kk
theorem k_St_undoLast_54 {X : gC} {M : List mC} {k n : Nat} {x0 : Nat} {x1 : Int32} {x2 : Int64} {x4 : Int64} {x6 : Int64} {s0 : Nat} {s1 : Int32} {fs2 : List Value} (ok : gO X c_St_undoLast "TripleStore$Store" w_St_undoLast) (h1 : M[s0]? = some (.inr (8, fs2))) {rm : Room} {post : Option Value → List mC → Prop} (hm : mm_ (gLa X) y_Tr_drop w_Tr_drop rm [.ref s0, .int s1] M post) (hR : gF X rm 2 k n) (hlen : ∀ r M', post r M' → M'.length = M.length) (kk : ∀ r M', post r M' → gg X M' (k + rm.cells) (n + rm.slots) 57 [(0, .ref x0), (1, .int x1), (2, .long x2), (4, .long x4), (6, .long x6)] (r.toList ++ [])) : gg X M k n 54 [(0, .ref x0), (1, .int x1), (2, .long x2), (4, .long x4), (6, .long x6)] [.int s1, .ref s0] := by
  exact gc_St_75 (As := [.int s1]) (rest := []) ok d_St_undoLast_54 hm rfl rfl (Nat.le_of_ble_eq_true rfl) hR h1 hlen kk
theorem k_St_undoLast_57 {X : gC} {M : List mC} {k n : Nat} {x0 : Nat} {x1 : Int32} {x2 : Int64} {x4 : Int64} {x6 : Int64} (ok : gO X c_St_undoLast "TripleStore$Store" w_St_undoLast)  (kk : gg X M k n 72 [(0, .ref x0), (1, .int x1), (2, .long x2), (4, .long x4), (6, .long x6)] []) : gg X M k n 57 [(0, .ref x0), (1, .int x1), (2, .long x2), (4, .long x4), (6, .long x6)] [] := by
  exact g_goto (tgt := 72) ok d_St_undoLast_57 (by decide) kk
theorem k_St_undoLast_60 {X : gC} {M : List mC} {k n : Nat} {x0 : Nat} {x1 : Int32} {x2 : Int64} {x4 : Int64} {x6 : Int64} {fs2 : List Value} {f3 : Nat} {fs6 : List Value} (ok : gO X c_St_undoLast "TripleStore$Store" w_St_undoLast) (h1 : M[x0]? = some (.inr (6, fs2))) (h4 : fs2[0]? = some (.ref f3)) (h5 : M[f3]? = some (.inr (8, fs6))) {rm : Room} {post : Option Value → List mC → Prop} (hm : mm_ (gLa X) y_Tr_put w_Tr_put rm [.ref f3, .long x2, .long x4, .long x6] M post) (hR : gF X rm 7 k n) (hlen : ∀ r M', post r M' → M'.length = M.length) (kk : ∀ r M', post r M' → gg X M' (k + rm.cells) (n + rm.slots) 72 [(0, .ref x0), (1, .int x1), (2, .long x2), (4, .long x4), (6, .long x6)] (r.toList ++ [])) : gg X M k n 60 [(0, .ref x0), (1, .int x1), (2, .long x2), (4, .long x4), (6, .long x6)] [] := by
  refine g_aload_n ok d_St_undoLast_60 rfl (j := 0) rfl ?_
  refine gf_St_14 ok d_St_undoLast_61 h1 h4 ?_
  refine g_lload_n ok d_St_undoLast_64 rfl (j := 2) rfl ?_
  refine g_lload ok d_St_undoLast_65 (j := 3) rfl ?_
  refine g_lload ok d_St_undoLast_67 (j := 4) rfl ?_
  exact gc_St_67 (As := [.long x2, .long x4, .long x6]) (rest := []) ok d_St_undoLast_69 hm rfl rfl (Nat.le_of_ble_eq_true rfl) hR h5 hlen kk
theorem k_St_undoLast_72 {X : gC} {M : List mC} {k n : Nat} {x0 : Nat} {x1 : Int32} {x2 : Int64} {x4 : Int64} {x6 : Int64} {fs2 : List Value} {f3 : Nat} {fs6 : List Value} (ok : gO X c_St_undoLast "TripleStore$Store" w_St_undoLast) (h1 : M[x0]? = some (.inr (6, fs2))) (h4 : fs2[1]? = some (.ref f3)) (h5 : M[f3]? = some (.inr (8, fs6))) {rm : Room} {post : Option Value → List mC → Prop} (hm : mm_ (gLa X) y_Tr_drop w_Tr_drop rm [.ref f3, .int x1] M post) (hR : gF X rm 2 k n) (hlen : ∀ r M', post r M' → M'.length = M.length) (kk : ∀ r M', post r M' → gg X M' (k + rm.cells) (n + rm.slots) 80 [(0, .ref x0), (1, .int x1), (2, .long x2), (4, .long x4), (6, .long x6)] (r.toList ++ [])) : gg X M k n 72 [(0, .ref x0), (1, .int x1), (2, .long x2), (4, .long x4), (6, .long x6)] [] := by
  refine g_aload_n ok d_St_undoLast_72 rfl (j := 0) rfl ?_
  refine gf_St_20 ok d_St_undoLast_73 h1 h4 ?_
  refine g_iload_n ok d_St_undoLast_76 rfl (j := 1) rfl ?_
  exact gc_St_75 (As := [.int x1]) (rest := []) ok d_St_undoLast_77 hm rfl rfl (Nat.le_of_ble_eq_true rfl) hR h5 hlen kk
theorem k_St_undoLast_80 {X : gC} {M : List mC} {k n : Nat} {x0 : Nat} {x1 : Int32} {x2 : Int64} {x4 : Int64} {x6 : Int64} (ok : gO X c_St_undoLast "TripleStore$Store" w_St_undoLast)  {l9 : Launch} {rm : Room} {M0 : List mC} {post : Option Value → List mC → Prop} (E : gE X l9 y_St_undoLast rm 8 none M0 post) (hp : post (none) M) (hk : k ≤ rm.cells) (hn : n ≤ rm.slots) : gg X M k n 80 [(0, .ref x0), (1, .int x1), (2, .long x2), (4, .long x4), (6, .long x6)] [] := by
  exact g_vret ok E d_St_undoLast_80 hp hk hn
theorem k_Te_isTriple_0 {X : gC} {M : List mC} {k n : Nat} {x0 : Int64} {x2 : Int64} {x4 : Int64} (ok : gO X c_Te_isTriple "TripleStore$Terms" w_Te_isTriple)  {rm : Room} {post : Option Value → List mC → Prop} (hm : mm_ (gLa X) y_Te_isWord w_Te_isWord rm [.long x0] M post) (hR : gF X rm 5 k n) (hlen : ∀ r M', post r M' → M'.length = M.length) (kk : ∀ r M', post r M' → gg X M' (k + rm.cells) (n + rm.slots) 4 [(0, .long x0), (2, .long x2), (4, .long x4)] (r.toList ++ [])) : gg X M k n 0 [(0, .long x0), (2, .long x2), (4, .long x4)] [] := by
  refine g_lload_n ok d_Te_isTriple_0 rfl (j := 0) rfl ?_
  exact gc_Te_9 (As := [.long x0]) (rest := []) ok d_Te_isTriple_1 hm rfl rfl (Nat.le_of_ble_eq_true rfl) hR hlen kk
theorem k_Te_isTriple_4 {X : gC} {M : List mC} {k n : Nat} {x0 : Int64} {x2 : Int64} {x4 : Int64} {s0 : Int32} (ok : gO X c_Te_isTriple "TripleStore$Terms" w_Te_isTriple)  (kt : s0 = 0 → gg X M k n 34 [(0, .long x0), (2, .long x2), (4, .long x4)] []) (kf : ¬ s0 = 0 → gg X M k n 7 [(0, .long x0), (2, .long x2), (4, .long x4)] []) : gg X M k n 4 [(0, .long x0), (2, .long x2), (4, .long x4)] [.int s0] := by
  exact g_if_eq (tgt := 34) ok d_Te_isTriple_4 (by decide) kt kf
theorem k_Te_isTriple_7 {X : gC} {M : List mC} {k n : Nat} {x0 : Int64} {x2 : Int64} {x4 : Int64} (ok : gO X c_Te_isTriple "TripleStore$Terms" w_Te_isTriple)  {rm : Room} {post : Option Value → List mC → Prop} (hm : mm_ (gLa X) y_Te_isWord w_Te_isWord rm [.long x2] M post) (hR : gF X rm 5 k n) (hlen : ∀ r M', post r M' → M'.length = M.length) (kk : ∀ r M', post r M' → gg X M' (k + rm.cells) (n + rm.slots) 11 [(0, .long x0), (2, .long x2), (4, .long x4)] (r.toList ++ [])) : gg X M k n 7 [(0, .long x0), (2, .long x2), (4, .long x4)] [] := by
  refine g_lload_n ok d_Te_isTriple_7 rfl (j := 1) rfl ?_
  exact gc_Te_9 (As := [.long x2]) (rest := []) ok d_Te_isTriple_8 hm rfl rfl (Nat.le_of_ble_eq_true rfl) hR hlen kk
theorem k_Te_isTriple_11 {X : gC} {M : List mC} {k n : Nat} {x0 : Int64} {x2 : Int64} {x4 : Int64} {s0 : Int32} (ok : gO X c_Te_isTriple "TripleStore$Terms" w_Te_isTriple)  (kt : s0 = 0 → gg X M k n 34 [(0, .long x0), (2, .long x2), (4, .long x4)] []) (kf : ¬ s0 = 0 → gg X M k n 14 [(0, .long x0), (2, .long x2), (4, .long x4)] []) : gg X M k n 11 [(0, .long x0), (2, .long x2), (4, .long x4)] [.int s0] := by
  exact g_if_eq (tgt := 34) ok d_Te_isTriple_11 (by decide) kt kf
theorem k_Te_isTriple_14 {X : gC} {M : List mC} {k n : Nat} {x0 : Int64} {x2 : Int64} {x4 : Int64} (ok : gO X c_Te_isTriple "TripleStore$Terms" w_Te_isTriple)  {rm : Room} {post : Option Value → List mC → Prop} (hm : mm_ (gLa X) y_Te_isWord w_Te_isWord rm [.long x4] M post) (hR : gF X rm 5 k n) (hlen : ∀ r M', post r M' → M'.length = M.length) (kk : ∀ r M', post r M' → gg X M' (k + rm.cells) (n + rm.slots) 19 [(0, .long x0), (2, .long x2), (4, .long x4)] (r.toList ++ [])) : gg X M k n 14 [(0, .long x0), (2, .long x2), (4, .long x4)] [] := by
  refine g_lload ok d_Te_isTriple_14 (j := 2) rfl ?_
  exact gc_Te_9 (As := [.long x4]) (rest := []) ok d_Te_isTriple_16 hm rfl rfl (Nat.le_of_ble_eq_true rfl) hR hlen kk
theorem k_Te_isTriple_19 {X : gC} {M : List mC} {k n : Nat} {x0 : Int64} {x2 : Int64} {x4 : Int64} {s0 : Int32} (ok : gO X c_Te_isTriple "TripleStore$Terms" w_Te_isTriple)  (kt : ¬ s0 = 0 → gg X M k n 30 [(0, .long x0), (2, .long x2), (4, .long x4)] []) (kf : s0 = 0 → gg X M k n 22 [(0, .long x0), (2, .long x2), (4, .long x4)] []) : gg X M k n 19 [(0, .long x0), (2, .long x2), (4, .long x4)] [.int s0] := by
  exact g_if_ne (tgt := 30) ok d_Te_isTriple_19 (by decide) kt kf
theorem k_Te_isTriple_22 {X : gC} {M : List mC} {k n : Nat} {x0 : Int64} {x2 : Int64} {x4 : Int64} (ok : gO X c_Te_isTriple "TripleStore$Terms" w_Te_isTriple)  {rm : Room} {post : Option Value → List mC → Prop} (hm : mm_ (gLa X) y_Te_isNumber w_Te_isNumber rm [.long x4] M post) (hR : gF X rm 2 k n) (hlen : ∀ r M', post r M' → M'.length = M.length) (kk : ∀ r M', post r M' → gg X M' (k + rm.cells) (n + rm.slots) 27 [(0, .long x0), (2, .long x2), (4, .long x4)] (r.toList ++ [])) : gg X M k n 22 [(0, .long x0), (2, .long x2), (4, .long x4)] [] := by
  refine g_lload ok d_Te_isTriple_22 (j := 2) rfl ?_
  exact gc_Te_15 (As := [.long x4]) (rest := []) ok d_Te_isTriple_24 hm rfl rfl (Nat.le_of_ble_eq_true rfl) hR hlen kk
theorem k_Te_isTriple_27 {X : gC} {M : List mC} {k n : Nat} {x0 : Int64} {x2 : Int64} {x4 : Int64} {s0 : Int32} (ok : gO X c_Te_isTriple "TripleStore$Terms" w_Te_isTriple)  (kt : s0 = 0 → gg X M k n 34 [(0, .long x0), (2, .long x2), (4, .long x4)] []) (kf : ¬ s0 = 0 → gg X M k n 30 [(0, .long x0), (2, .long x2), (4, .long x4)] []) : gg X M k n 27 [(0, .long x0), (2, .long x2), (4, .long x4)] [.int s0] := by
  exact g_if_eq (tgt := 34) ok d_Te_isTriple_27 (by decide) kt kf
theorem k_Te_isTriple_30 {X : gC} {M : List mC} {k n : Nat} {x0 : Int64} {x2 : Int64} {x4 : Int64} (ok : gO X c_Te_isTriple "TripleStore$Terms" w_Te_isTriple)  (kk : gg X M k n 35 [(0, .long x0), (2, .long x2), (4, .long x4)] [.int 1]) : gg X M k n 30 [(0, .long x0), (2, .long x2), (4, .long x4)] [] := by
  refine g_iconst (v := 1) ok d_Te_isTriple_30 (by decide) ?_
  exact g_goto (tgt := 35) ok d_Te_isTriple_31 (by decide) kk
theorem k_Te_isTriple_34 {X : gC} {M : List mC} {k n : Nat} {x0 : Int64} {x2 : Int64} {x4 : Int64} (ok : gO X c_Te_isTriple "TripleStore$Terms" w_Te_isTriple)  (kk : gg X M k n 35 [(0, .long x0), (2, .long x2), (4, .long x4)] [.int 0]) : gg X M k n 34 [(0, .long x0), (2, .long x2), (4, .long x4)] [] := by
  refine g_iconst (v := 0) ok d_Te_isTriple_34 (by decide) ?_
  exact kk
theorem k_Te_isTriple_35 {X : gC} {M : List mC} {k n : Nat} {x0 : Int64} {x2 : Int64} {x4 : Int64} {s0 : Int32} (ok : gO X c_Te_isTriple "TripleStore$Terms" w_Te_isTriple)  {l9 : Launch} {rm : Room} {M0 : List mC} {post : Option Value → List mC → Prop} (E : gE X l9 y_Te_isTriple rm 6 (some .boolean) M0 post) (hz : narrow .boolean (.int s0) = .int s0) (hp : post (some (.int s0)) M) (hk : k ≤ rm.cells) (hn : n ≤ rm.slots) : gg X M k n 35 [(0, .long x0), (2, .long x2), (4, .long x4)] [.int s0] := by
  exact g_zret ok E d_Te_isTriple_35 hz hp hk hn
theorem k_Te_isWord_0 {X : gC} {M : List mC} {k n : Nat} {x0 : Int64} (ok : gO X c_Te_isWord "TripleStore$Terms" w_Te_isWord) (hl : gL X = 5)  (kk : gg X M k n 5 [(0, .long x0), (2, .long x0), (4, .int 0)] []) : gg X M k n 0 [(0, .long x0)] [] := by
  refine g_lload_n ok d_Te_isWord_0 rfl (j := 0) rfl ?_
  refine g_lstore_n (L' := [(0, .long x0), (2, .long x0)]) ok d_Te_isWord_1 rfl (by rw [hl]; decide) rfl ?_
  refine g_iconst (v := 0) ok d_Te_isWord_2 (by decide) ?_
  refine g_istore (L' := [(0, .long x0), (2, .long x0), (4, .int 0)]) ok d_Te_isWord_3 (by rw [hl]; decide) rfl ?_
  exact kk
theorem k_Te_isWord_5 {X : gC} {M : List mC} {k n : Nat} {x0 : Int64} {x2 : Int64} {x4 : Int32} (ok : gO X c_Te_isWord "TripleStore$Terms" w_Te_isWord)  (kt : 8 ≤ x4 → gg X M k n 35 [(0, .long x0), (2, .long x2), (4, .int x4)] []) (kf : ¬ 8 ≤ x4 → gg X M k n 12 [(0, .long x0), (2, .long x2), (4, .int x4)] []) : gg X M k n 5 [(0, .long x0), (2, .long x2), (4, .int x4)] [] := by
  refine g_iload ok d_Te_isWord_5 (j := 2) rfl ?_
  refine g_bipush (v := 8) ok d_Te_isWord_7 (by decide) ?_
  exact g_icmp_ge (tgt := 35) ok d_Te_isWord_9 (by decide) kt kf
theorem k_Te_isWord_12 {X : gC} {M : List mC} {k n : Nat} {x0 : Int64} {x2 : Int64} {x4 : Int32} (ok : gO X c_Te_isWord "TripleStore$Terms" w_Te_isWord)  {rm : Room} {post : Option Value → List mC → Prop} (hm : mm_ (gLa X) y_Te_isLetter w_Te_isLetter rm [.int (((x2 &&& 255) : Int64).toInt32)] M post) (hR : gF X rm 1 k n) (hlen : ∀ r M', post r M' → M'.length = M.length) (kk : ∀ r M', post r M' → gg X M' (k + rm.cells) (n + rm.slots) 21 [(0, .long x0), (2, .long x2), (4, .int x4)] (r.toList ++ [])) : gg X M k n 12 [(0, .long x0), (2, .long x2), (4, .int x4)] [] := by
  refine g_lload_n ok d_Te_isWord_12 rfl (j := 1) rfl ?_
  refine g_ldc2 (v := 255) ok (List.mem_cons_of_mem _ (gT_at 336 (by decide +kernel) (by decide +kernel))) d_Te_isWord_13 ?_
  refine g_land ok d_Te_isWord_16 ?_
  refine g_l2i ok d_Te_isWord_17 ?_
  exact gc_Te_20 (As := [.int (((x2 &&& 255) : Int64).toInt32)]) (rest := []) ok d_Te_isWord_18 hm rfl rfl (Nat.le_of_ble_eq_true rfl) hR hlen kk
theorem k_Te_isWord_21 {X : gC} {M : List mC} {k n : Nat} {x0 : Int64} {x2 : Int64} {x4 : Int32} {s0 : Int32} (ok : gO X c_Te_isWord "TripleStore$Terms" w_Te_isWord)  (kt : s0 = 0 → gg X M k n 35 [(0, .long x0), (2, .long x2), (4, .int x4)] []) (kf : ¬ s0 = 0 → gg X M k n 24 [(0, .long x0), (2, .long x2), (4, .int x4)] []) : gg X M k n 21 [(0, .long x0), (2, .long x2), (4, .int x4)] [.int s0] := by
  exact g_if_eq (tgt := 35) ok d_Te_isWord_21 (by decide) kt kf
theorem k_Te_isWord_24 {X : gC} {M : List mC} {k n : Nat} {x0 : Int64} {x2 : Int64} {x4 : Int32} (ok : gO X c_Te_isWord "TripleStore$Terms" w_Te_isWord) (hl : gL X = 5)  (kk : gg X M k n 5 [(0, .long x0), (2, .long (((x2).toUInt64 >>> ((8 : Int32).toInt64.toUInt64 &&& Int64.toUInt64 63)).toInt64)), (4, .int (x4 + 1))] []) : gg X M k n 24 [(0, .long x0), (2, .long x2), (4, .int x4)] [] := by
  refine g_lload_n ok d_Te_isWord_24 rfl (j := 1) rfl ?_
  refine g_bipush (v := 8) ok d_Te_isWord_25 (by decide) ?_
  refine g_lushr ok d_Te_isWord_27 ?_
  refine g_lstore_n (L' := [(0, .long x0), (2, .long (((x2).toUInt64 >>> ((8 : Int32).toInt64.toUInt64 &&& Int64.toUInt64 63)).toInt64)), (4, .int x4)]) ok d_Te_isWord_28 rfl (by rw [hl]; decide) rfl ?_
  refine g_iinc (L' := [(0, .long x0), (2, .long (((x2).toUInt64 >>> ((8 : Int32).toInt64.toUInt64 &&& Int64.toUInt64 63)).toInt64)), (4, .int (x4 + 1))]) (v := (x4 + 1)) ok d_Te_isWord_29 (j := 2) rfl rfl (by rw [hl]; decide) rfl ?_
  exact g_goto (tgt := 5) ok d_Te_isWord_32 (by decide) kk
theorem k_Te_isWord_35 {X : gC} {M : List mC} {k n : Nat} {x0 : Int64} {x2 : Int64} {x4 : Int32} (ok : gO X c_Te_isWord "TripleStore$Terms" w_Te_isWord)  (kt : x4 ≤ 0 → gg X M k n 50 [(0, .long x0), (2, .long x2), (4, .int x4)] []) (kf : ¬ x4 ≤ 0 → gg X M k n 40 [(0, .long x0), (2, .long x2), (4, .int x4)] []) : gg X M k n 35 [(0, .long x0), (2, .long x2), (4, .int x4)] [] := by
  refine g_iload ok d_Te_isWord_35 (j := 2) rfl ?_
  exact g_if_le (tgt := 50) ok d_Te_isWord_37 (by decide) kt kf
theorem k_Te_isWord_40 {X : gC} {M : List mC} {k n : Nat} {x0 : Int64} {x2 : Int64} {x4 : Int32} (ok : gO X c_Te_isWord "TripleStore$Terms" w_Te_isWord)  (kt : ¬ x2 = 0 → gg X M k n 50 [(0, .long x0), (2, .long x2), (4, .int x4)] []) (kf : x2 = 0 → gg X M k n 46 [(0, .long x0), (2, .long x2), (4, .int x4)] []) : gg X M k n 40 [(0, .long x0), (2, .long x2), (4, .int x4)] [] := by
  refine g_lload_n ok d_Te_isWord_40 rfl (j := 1) rfl ?_
  refine g_lconst (v := 0) ok d_Te_isWord_41 (by decide) ?_
  exact g_lc_ne (tgt := 50) ok d_Te_isWord_42 d_Te_isWord_43 (by decide) kt kf
theorem k_Te_isWord_46 {X : gC} {M : List mC} {k n : Nat} {x0 : Int64} {x2 : Int64} {x4 : Int32} (ok : gO X c_Te_isWord "TripleStore$Terms" w_Te_isWord)  (kk : gg X M k n 51 [(0, .long x0), (2, .long x2), (4, .int x4)] [.int 1]) : gg X M k n 46 [(0, .long x0), (2, .long x2), (4, .int x4)] [] := by
  refine g_iconst (v := 1) ok d_Te_isWord_46 (by decide) ?_
  exact g_goto (tgt := 51) ok d_Te_isWord_47 (by decide) kk
theorem k_Te_isWord_50 {X : gC} {M : List mC} {k n : Nat} {x0 : Int64} {x2 : Int64} {x4 : Int32} (ok : gO X c_Te_isWord "TripleStore$Terms" w_Te_isWord)  (kk : gg X M k n 51 [(0, .long x0), (2, .long x2), (4, .int x4)] [.int 0]) : gg X M k n 50 [(0, .long x0), (2, .long x2), (4, .int x4)] [] := by
  refine g_iconst (v := 0) ok d_Te_isWord_50 (by decide) ?_
  exact kk
theorem k_Te_isWord_51 {X : gC} {M : List mC} {k n : Nat} {x0 : Int64} {x2 : Int64} {x4 : Int32} {s0 : Int32} (ok : gO X c_Te_isWord "TripleStore$Terms" w_Te_isWord)  {l9 : Launch} {rm : Room} {M0 : List mC} {post : Option Value → List mC → Prop} (E : gE X l9 y_Te_isWord rm 5 (some .boolean) M0 post) (hz : narrow .boolean (.int s0) = .int s0) (hp : post (some (.int s0)) M) (hk : k ≤ rm.cells) (hn : n ≤ rm.slots) : gg X M k n 51 [(0, .long x0), (2, .long x2), (4, .int x4)] [.int s0] := by
  exact g_zret ok E d_Te_isWord_51 hz hp hk hn
theorem k_Te_isNumber_0 {X : gC} {M : List mC} {k n : Nat} {x0 : Int64} (ok : gO X c_Te_isNumber "TripleStore$Terms" w_Te_isNumber)  (kt : 0 ≤ x0 → gg X M k n 18 [(0, .long x0)] []) (kf : ¬ 0 ≤ x0 → gg X M k n 6 [(0, .long x0)] []) : gg X M k n 0 [(0, .long x0)] [] := by
  refine g_lload_n ok d_Te_isNumber_0 rfl (j := 0) rfl ?_
  refine g_lconst (v := 0) ok d_Te_isNumber_1 (by decide) ?_
  exact g_lc_ge (tgt := 18) ok d_Te_isNumber_2 d_Te_isNumber_3 (by decide) kt kf
theorem k_Te_isNumber_6 {X : gC} {M : List mC} {k n : Nat} {x0 : Int64} (ok : gO X c_Te_isNumber "TripleStore$Terms" w_Te_isNumber)  (kt : x0 < (-10000) → gg X M k n 18 [(0, .long x0)] []) (kf : ¬ x0 < (-10000) → gg X M k n 14 [(0, .long x0)] []) : gg X M k n 6 [(0, .long x0)] [] := by
  refine g_lload_n ok d_Te_isNumber_6 rfl (j := 0) rfl ?_
  refine g_ldc2 (v := (-10000)) ok (List.mem_cons_of_mem _ (gT_at 343 (by decide +kernel) (by decide +kernel))) d_Te_isNumber_7 ?_
  exact g_lc_lt (tgt := 18) ok d_Te_isNumber_10 d_Te_isNumber_11 (by decide) kt kf
theorem k_Te_isNumber_14 {X : gC} {M : List mC} {k n : Nat} {x0 : Int64} (ok : gO X c_Te_isNumber "TripleStore$Terms" w_Te_isNumber)  (kk : gg X M k n 19 [(0, .long x0)] [.int 1]) : gg X M k n 14 [(0, .long x0)] [] := by
  refine g_iconst (v := 1) ok d_Te_isNumber_14 (by decide) ?_
  exact g_goto (tgt := 19) ok d_Te_isNumber_15 (by decide) kk
theorem k_Te_isNumber_18 {X : gC} {M : List mC} {k n : Nat} {x0 : Int64} (ok : gO X c_Te_isNumber "TripleStore$Terms" w_Te_isNumber)  (kk : gg X M k n 19 [(0, .long x0)] [.int 0]) : gg X M k n 18 [(0, .long x0)] [] := by
  refine g_iconst (v := 0) ok d_Te_isNumber_18 (by decide) ?_
  exact kk
theorem k_Te_isNumber_19 {X : gC} {M : List mC} {k n : Nat} {x0 : Int64} {s0 : Int32} (ok : gO X c_Te_isNumber "TripleStore$Terms" w_Te_isNumber)  {l9 : Launch} {rm : Room} {M0 : List mC} {post : Option Value → List mC → Prop} (E : gE X l9 y_Te_isNumber rm 2 (some .boolean) M0 post) (hz : narrow .boolean (.int s0) = .int s0) (hp : post (some (.int s0)) M) (hk : k ≤ rm.cells) (hn : n ≤ rm.slots) : gg X M k n 19 [(0, .long x0)] [.int s0] := by
  exact g_zret ok E d_Te_isNumber_19 hz hp hk hn
theorem k_Te_isHeldNumber_0 {X : gC} {M : List mC} {k n : Nat} {x0 : Int64} (ok : gO X c_Te_isHeldNumber "TripleStore$Terms" w_Te_isHeldNumber)  (kt : x0 ≤ 0 → gg X M k n 18 [(0, .long x0)] []) (kf : ¬ x0 ≤ 0 → gg X M k n 6 [(0, .long x0)] []) : gg X M k n 0 [(0, .long x0)] [] := by
  refine g_lload_n ok d_Te_isHeldNumber_0 rfl (j := 0) rfl ?_
  refine g_lconst (v := 0) ok d_Te_isHeldNumber_1 (by decide) ?_
  exact g_lc_le (tgt := 18) ok d_Te_isHeldNumber_2 d_Te_isHeldNumber_3 (by decide) kt kf
theorem k_Te_isHeldNumber_6 {X : gC} {M : List mC} {k n : Nat} {x0 : Int64} (ok : gO X c_Te_isHeldNumber "TripleStore$Terms" w_Te_isHeldNumber)  (kt : 10000 < x0 → gg X M k n 18 [(0, .long x0)] []) (kf : ¬ 10000 < x0 → gg X M k n 14 [(0, .long x0)] []) : gg X M k n 6 [(0, .long x0)] [] := by
  refine g_lload_n ok d_Te_isHeldNumber_6 rfl (j := 0) rfl ?_
  refine g_ldc2 (v := 10000) ok (List.mem_cons_of_mem _ (gT_at 744 (by decide +kernel) (by decide +kernel))) d_Te_isHeldNumber_7 ?_
  exact g_lc_gt (tgt := 18) ok d_Te_isHeldNumber_10 d_Te_isHeldNumber_11 (by decide) kt kf
theorem k_Te_isHeldNumber_14 {X : gC} {M : List mC} {k n : Nat} {x0 : Int64} (ok : gO X c_Te_isHeldNumber "TripleStore$Terms" w_Te_isHeldNumber)  (kk : gg X M k n 19 [(0, .long x0)] [.int 1]) : gg X M k n 14 [(0, .long x0)] [] := by
  refine g_iconst (v := 1) ok d_Te_isHeldNumber_14 (by decide) ?_
  exact g_goto (tgt := 19) ok d_Te_isHeldNumber_15 (by decide) kk
theorem k_Te_isHeldNumber_18 {X : gC} {M : List mC} {k n : Nat} {x0 : Int64} (ok : gO X c_Te_isHeldNumber "TripleStore$Terms" w_Te_isHeldNumber)  (kk : gg X M k n 19 [(0, .long x0)] [.int 0]) : gg X M k n 18 [(0, .long x0)] [] := by
  refine g_iconst (v := 0) ok d_Te_isHeldNumber_18 (by decide) ?_
  exact kk
theorem k_Te_isHeldNumber_19 {X : gC} {M : List mC} {k n : Nat} {x0 : Int64} {s0 : Int32} (ok : gO X c_Te_isHeldNumber "TripleStore$Terms" w_Te_isHeldNumber)  {l9 : Launch} {rm : Room} {M0 : List mC} {post : Option Value → List mC → Prop} (E : gE X l9 y_Te_isHeldNumber rm 2 (some .boolean) M0 post) (hz : narrow .boolean (.int s0) = .int s0) (hp : post (some (.int s0)) M) (hk : k ≤ rm.cells) (hn : n ≤ rm.slots) : gg X M k n 19 [(0, .long x0)] [.int s0] := by
  exact g_zret ok E d_Te_isHeldNumber_19 hz hp hk hn
theorem k_Te_isLetter_0 {X : gC} {M : List mC} {k n : Nat} {x0 : Int32} (ok : gO X c_Te_isLetter "TripleStore$Terms" w_Te_isLetter)  (kt : x0 < 97 → gg X M k n 16 [(0, .int x0)] []) (kf : ¬ x0 < 97 → gg X M k n 6 [(0, .int x0)] []) : gg X M k n 0 [(0, .int x0)] [] := by
  refine g_iload_n ok d_Te_isLetter_0 rfl (j := 0) rfl ?_
  refine g_bipush (v := 97) ok d_Te_isLetter_1 (by decide) ?_
  exact g_icmp_lt (tgt := 16) ok d_Te_isLetter_3 (by decide) kt kf
theorem k_Te_isLetter_6 {X : gC} {M : List mC} {k n : Nat} {x0 : Int32} (ok : gO X c_Te_isLetter "TripleStore$Terms" w_Te_isLetter)  (kt : 122 < x0 → gg X M k n 16 [(0, .int x0)] []) (kf : ¬ 122 < x0 → gg X M k n 12 [(0, .int x0)] []) : gg X M k n 6 [(0, .int x0)] [] := by
  refine g_iload_n ok d_Te_isLetter_6 rfl (j := 0) rfl ?_
  refine g_bipush (v := 122) ok d_Te_isLetter_7 (by decide) ?_
  exact g_icmp_gt (tgt := 16) ok d_Te_isLetter_9 (by decide) kt kf
theorem k_Te_isLetter_12 {X : gC} {M : List mC} {k n : Nat} {x0 : Int32} (ok : gO X c_Te_isLetter "TripleStore$Terms" w_Te_isLetter)  (kk : gg X M k n 17 [(0, .int x0)] [.int 1]) : gg X M k n 12 [(0, .int x0)] [] := by
  refine g_iconst (v := 1) ok d_Te_isLetter_12 (by decide) ?_
  exact g_goto (tgt := 17) ok d_Te_isLetter_13 (by decide) kk
theorem k_Te_isLetter_16 {X : gC} {M : List mC} {k n : Nat} {x0 : Int32} (ok : gO X c_Te_isLetter "TripleStore$Terms" w_Te_isLetter)  (kk : gg X M k n 17 [(0, .int x0)] [.int 0]) : gg X M k n 16 [(0, .int x0)] [] := by
  refine g_iconst (v := 0) ok d_Te_isLetter_16 (by decide) ?_
  exact kk
theorem k_Te_isLetter_17 {X : gC} {M : List mC} {k n : Nat} {x0 : Int32} {s0 : Int32} (ok : gO X c_Te_isLetter "TripleStore$Terms" w_Te_isLetter)  {l9 : Launch} {rm : Room} {M0 : List mC} {post : Option Value → List mC → Prop} (E : gE X l9 y_Te_isLetter rm 1 (some .boolean) M0 post) (hz : narrow .boolean (.int s0) = .int s0) (hp : post (some (.int s0)) M) (hk : k ≤ rm.cells) (hn : n ≤ rm.slots) : gg X M k n 17 [(0, .int x0)] [.int s0] := by
  exact g_zret ok E d_Te_isLetter_17 hz hp hk hn
theorem k_Te_isDigit_0 {X : gC} {M : List mC} {k n : Nat} {x0 : Int32} (ok : gO X c_Te_isDigit "TripleStore$Terms" w_Te_isDigit)  (kt : x0 < 48 → gg X M k n 16 [(0, .int x0)] []) (kf : ¬ x0 < 48 → gg X M k n 6 [(0, .int x0)] []) : gg X M k n 0 [(0, .int x0)] [] := by
  refine g_iload_n ok d_Te_isDigit_0 rfl (j := 0) rfl ?_
  refine g_bipush (v := 48) ok d_Te_isDigit_1 (by decide) ?_
  exact g_icmp_lt (tgt := 16) ok d_Te_isDigit_3 (by decide) kt kf
theorem k_Te_isDigit_6 {X : gC} {M : List mC} {k n : Nat} {x0 : Int32} (ok : gO X c_Te_isDigit "TripleStore$Terms" w_Te_isDigit)  (kt : 57 < x0 → gg X M k n 16 [(0, .int x0)] []) (kf : ¬ 57 < x0 → gg X M k n 12 [(0, .int x0)] []) : gg X M k n 6 [(0, .int x0)] [] := by
  refine g_iload_n ok d_Te_isDigit_6 rfl (j := 0) rfl ?_
  refine g_bipush (v := 57) ok d_Te_isDigit_7 (by decide) ?_
  exact g_icmp_gt (tgt := 16) ok d_Te_isDigit_9 (by decide) kt kf
theorem k_Te_isDigit_12 {X : gC} {M : List mC} {k n : Nat} {x0 : Int32} (ok : gO X c_Te_isDigit "TripleStore$Terms" w_Te_isDigit)  (kk : gg X M k n 17 [(0, .int x0)] [.int 1]) : gg X M k n 12 [(0, .int x0)] [] := by
  refine g_iconst (v := 1) ok d_Te_isDigit_12 (by decide) ?_
  exact g_goto (tgt := 17) ok d_Te_isDigit_13 (by decide) kk
theorem k_Te_isDigit_16 {X : gC} {M : List mC} {k n : Nat} {x0 : Int32} (ok : gO X c_Te_isDigit "TripleStore$Terms" w_Te_isDigit)  (kk : gg X M k n 17 [(0, .int x0)] [.int 0]) : gg X M k n 16 [(0, .int x0)] [] := by
  refine g_iconst (v := 0) ok d_Te_isDigit_16 (by decide) ?_
  exact kk
theorem k_Te_isDigit_17 {X : gC} {M : List mC} {k n : Nat} {x0 : Int32} {s0 : Int32} (ok : gO X c_Te_isDigit "TripleStore$Terms" w_Te_isDigit)  {l9 : Launch} {rm : Room} {M0 : List mC} {post : Option Value → List mC → Prop} (E : gE X l9 y_Te_isDigit rm 1 (some .boolean) M0 post) (hz : narrow .boolean (.int s0) = .int s0) (hp : post (some (.int s0)) M) (hk : k ≤ rm.cells) (hn : n ≤ rm.slots) : gg X M k n 17 [(0, .int x0)] [.int s0] := by
  exact g_zret ok E d_Te_isDigit_17 hz hp hk hn
theorem k_Te_held_0 {X : gC} {M : List mC} {k n : Nat} {x0 : Int64} (ok : gO X c_Te_held "TripleStore$Terms" w_Te_held)  (kt : 0 ≤ x0 → gg X M k n 9 [(0, .long x0)] []) (kf : ¬ 0 ≤ x0 → gg X M k n 6 [(0, .long x0)] []) : gg X M k n 0 [(0, .long x0)] [] := by
  refine g_lload_n ok d_Te_held_0 rfl (j := 0) rfl ?_
  refine g_lconst (v := 0) ok d_Te_held_1 (by decide) ?_
  exact g_lc_ge (tgt := 9) ok d_Te_held_2 d_Te_held_3 (by decide) kt kf
theorem k_Te_held_6 {X : gC} {M : List mC} {k n : Nat} {x0 : Int64} (ok : gO X c_Te_held "TripleStore$Terms" w_Te_held)  {l9 : Launch} {rm : Room} {M0 : List mC} {post : Option Value → List mC → Prop} (E : gE X l9 y_Te_held rm 5 (some .long) M0 post) (hp : post (some (.long (-x0))) M) (hk : k ≤ rm.cells) (hn : n ≤ rm.slots) : gg X M k n 6 [(0, .long x0)] [] := by
  refine g_lload_n ok d_Te_held_6 rfl (j := 0) rfl ?_
  refine g_lneg ok d_Te_held_7 ?_
  exact g_lret ok E d_Te_held_8 hp hk hn
theorem k_Te_held_9 {X : gC} {M : List mC} {k n : Nat} {x0 : Int64} (ok : gO X c_Te_held "TripleStore$Terms" w_Te_held) (hl : gL X = 5)  (kk : gg X M k n 14 [(0, .long x0), (2, .long x0), (4, .int 1)] []) : gg X M k n 9 [(0, .long x0)] [] := by
  refine g_lload_n ok d_Te_held_9 rfl (j := 0) rfl ?_
  refine g_lstore_n (L' := [(0, .long x0), (2, .long x0)]) ok d_Te_held_10 rfl (by rw [hl]; decide) rfl ?_
  refine g_iconst (v := 1) ok d_Te_held_11 (by decide) ?_
  refine g_istore (L' := [(0, .long x0), (2, .long x0), (4, .int 1)]) ok d_Te_held_12 (by rw [hl]; decide) rfl ?_
  exact kk
theorem k_Te_held_14 {X : gC} {M : List mC} {k n : Nat} {x0 : Int64} {x2 : Int64} {x4 : Int32} (ok : gO X c_Te_held "TripleStore$Terms" w_Te_held)  (kt : 8 ≤ x4 → gg X M k n 41 [(0, .long x0), (2, .long x2), (4, .int x4)] []) (kf : ¬ 8 ≤ x4 → gg X M k n 21 [(0, .long x0), (2, .long x2), (4, .int x4)] []) : gg X M k n 14 [(0, .long x0), (2, .long x2), (4, .int x4)] [] := by
  refine g_iload ok d_Te_held_14 (j := 2) rfl ?_
  refine g_bipush (v := 8) ok d_Te_held_16 (by decide) ?_
  exact g_icmp_ge (tgt := 41) ok d_Te_held_18 (by decide) kt kf
theorem k_Te_held_21 {X : gC} {M : List mC} {k n : Nat} {x0 : Int64} {x2 : Int64} {x4 : Int32} (ok : gO X c_Te_held "TripleStore$Terms" w_Te_held)  (kt : ¬ (((x2).toUInt64 >>> ((56 : Int32).toInt64.toUInt64 &&& Int64.toUInt64 63)).toInt64) = 0 → gg X M k n 41 [(0, .long x0), (2, .long x2), (4, .int x4)] []) (kf : (((x2).toUInt64 >>> ((56 : Int32).toInt64.toUInt64 &&& Int64.toUInt64 63)).toInt64) = 0 → gg X M k n 30 [(0, .long x0), (2, .long x2), (4, .int x4)] []) : gg X M k n 21 [(0, .long x0), (2, .long x2), (4, .int x4)] [] := by
  refine g_lload_n ok d_Te_held_21 rfl (j := 1) rfl ?_
  refine g_bipush (v := 56) ok d_Te_held_22 (by decide) ?_
  refine g_lushr ok d_Te_held_24 ?_
  refine g_lconst (v := 0) ok d_Te_held_25 (by decide) ?_
  exact g_lc_ne (tgt := 41) ok d_Te_held_26 d_Te_held_27 (by decide) kt kf
theorem k_Te_held_30 {X : gC} {M : List mC} {k n : Nat} {x0 : Int64} {x2 : Int64} {x4 : Int32} (ok : gO X c_Te_held "TripleStore$Terms" w_Te_held) (hl : gL X = 5)  (kk : gg X M k n 14 [(0, .long x0), (2, .long (x2 <<< ((8 : Int32).toInt64 &&& 63))), (4, .int (x4 + 1))] []) : gg X M k n 30 [(0, .long x0), (2, .long x2), (4, .int x4)] [] := by
  refine g_lload_n ok d_Te_held_30 rfl (j := 1) rfl ?_
  refine g_bipush (v := 8) ok d_Te_held_31 (by decide) ?_
  refine g_lshl ok d_Te_held_33 ?_
  refine g_lstore_n (L' := [(0, .long x0), (2, .long (x2 <<< ((8 : Int32).toInt64 &&& 63))), (4, .int x4)]) ok d_Te_held_34 rfl (by rw [hl]; decide) rfl ?_
  refine g_iinc (L' := [(0, .long x0), (2, .long (x2 <<< ((8 : Int32).toInt64 &&& 63))), (4, .int (x4 + 1))]) (v := (x4 + 1)) ok d_Te_held_35 (j := 2) rfl rfl (by rw [hl]; decide) rfl ?_
  exact g_goto (tgt := 14) ok d_Te_held_38 (by decide) kk
theorem k_Te_held_41 {X : gC} {M : List mC} {k n : Nat} {x0 : Int64} {x2 : Int64} {x4 : Int32} (ok : gO X c_Te_held "TripleStore$Terms" w_Te_held)  {l9 : Launch} {rm : Room} {M0 : List mC} {post : Option Value → List mC → Prop} (E : gE X l9 y_Te_held rm 5 (some .long) M0 post) (hp : post (some (.long x2)) M) (hk : k ≤ rm.cells) (hn : n ≤ rm.slots) : gg X M k n 41 [(0, .long x0), (2, .long x2), (4, .int x4)] [] := by
  refine g_lload_n ok d_Te_held_41 rfl (j := 1) rfl ?_
  exact g_lret ok E d_Te_held_42 hp hk hn
theorem k_Te_shown_0 {X : gC} {M : List mC} {k n : Nat} {x0 : Int64} (ok : gO X c_Te_shown "TripleStore$Terms" w_Te_shown)  {rm : Room} {post : Option Value → List mC → Prop} (hm : mm_ (gLa X) y_Te_isHeldNumber w_Te_isHeldNumber rm [.long x0] M post) (hR : gF X rm 2 k n) (hlen : ∀ r M', post r M' → M'.length = M.length) (kk : ∀ r M', post r M' → gg X M' (k + rm.cells) (n + rm.slots) 4 [(0, .long x0)] (r.toList ++ [])) : gg X M k n 0 [(0, .long x0)] [] := by
  refine g_lload_n ok d_Te_shown_0 rfl (j := 0) rfl ?_
  exact gc_Te_28 (As := [.long x0]) (rest := []) ok d_Te_shown_1 hm rfl rfl (Nat.le_of_ble_eq_true rfl) hR hlen kk
theorem k_Te_shown_4 {X : gC} {M : List mC} {k n : Nat} {x0 : Int64} {s0 : Int32} (ok : gO X c_Te_shown "TripleStore$Terms" w_Te_shown)  (kt : s0 = 0 → gg X M k n 10 [(0, .long x0)] []) (kf : ¬ s0 = 0 → gg X M k n 7 [(0, .long x0)] []) : gg X M k n 4 [(0, .long x0)] [.int s0] := by
  exact g_if_eq (tgt := 10) ok d_Te_shown_4 (by decide) kt kf
theorem k_Te_shown_7 {X : gC} {M : List mC} {k n : Nat} {x0 : Int64} (ok : gO X c_Te_shown "TripleStore$Terms" w_Te_shown)  {l9 : Launch} {rm : Room} {M0 : List mC} {post : Option Value → List mC → Prop} (E : gE X l9 y_Te_shown rm 5 (some .long) M0 post) (hp : post (some (.long (-x0))) M) (hk : k ≤ rm.cells) (hn : n ≤ rm.slots) : gg X M k n 7 [(0, .long x0)] [] := by
  refine g_lload_n ok d_Te_shown_7 rfl (j := 0) rfl ?_
  refine g_lneg ok d_Te_shown_8 ?_
  exact g_lret ok E d_Te_shown_9 hp hk hn
theorem k_Te_shown_10 {X : gC} {M : List mC} {k n : Nat} {x0 : Int64} (ok : gO X c_Te_shown "TripleStore$Terms" w_Te_shown) (hl : gL X = 5)  (kk : gg X M k n 15 [(0, .long x0), (2, .long x0), (4, .int 1)] []) : gg X M k n 10 [(0, .long x0)] [] := by
  refine g_lload_n ok d_Te_shown_10 rfl (j := 0) rfl ?_
  refine g_lstore_n (L' := [(0, .long x0), (2, .long x0)]) ok d_Te_shown_11 rfl (by rw [hl]; decide) rfl ?_
  refine g_iconst (v := 1) ok d_Te_shown_12 (by decide) ?_
  refine g_istore (L' := [(0, .long x0), (2, .long x0), (4, .int 1)]) ok d_Te_shown_13 (by rw [hl]; decide) rfl ?_
  exact kk
theorem k_Te_shown_15 {X : gC} {M : List mC} {k n : Nat} {x0 : Int64} {x2 : Int64} {x4 : Int32} (ok : gO X c_Te_shown "TripleStore$Terms" w_Te_shown)  (kt : 8 ≤ x4 → gg X M k n 43 [(0, .long x0), (2, .long x2), (4, .int x4)] []) (kf : ¬ 8 ≤ x4 → gg X M k n 22 [(0, .long x0), (2, .long x2), (4, .int x4)] []) : gg X M k n 15 [(0, .long x0), (2, .long x2), (4, .int x4)] [] := by
  refine g_iload ok d_Te_shown_15 (j := 2) rfl ?_
  refine g_bipush (v := 8) ok d_Te_shown_17 (by decide) ?_
  exact g_icmp_ge (tgt := 43) ok d_Te_shown_19 (by decide) kt kf
theorem k_Te_shown_22 {X : gC} {M : List mC} {k n : Nat} {x0 : Int64} {x2 : Int64} {x4 : Int32} (ok : gO X c_Te_shown "TripleStore$Terms" w_Te_shown)  (kt : ¬ (x2 &&& 255) = 0 → gg X M k n 43 [(0, .long x0), (2, .long x2), (4, .int x4)] []) (kf : (x2 &&& 255) = 0 → gg X M k n 32 [(0, .long x0), (2, .long x2), (4, .int x4)] []) : gg X M k n 22 [(0, .long x0), (2, .long x2), (4, .int x4)] [] := by
  refine g_lload_n ok d_Te_shown_22 rfl (j := 1) rfl ?_
  refine g_ldc2 (v := 255) ok (List.mem_cons_of_mem _ (gT_at 336 (by decide +kernel) (by decide +kernel))) d_Te_shown_23 ?_
  refine g_land ok d_Te_shown_26 ?_
  refine g_lconst (v := 0) ok d_Te_shown_27 (by decide) ?_
  exact g_lc_ne (tgt := 43) ok d_Te_shown_28 d_Te_shown_29 (by decide) kt kf
theorem k_Te_shown_32 {X : gC} {M : List mC} {k n : Nat} {x0 : Int64} {x2 : Int64} {x4 : Int32} (ok : gO X c_Te_shown "TripleStore$Terms" w_Te_shown) (hl : gL X = 5)  (kk : gg X M k n 15 [(0, .long x0), (2, .long (((x2).toUInt64 >>> ((8 : Int32).toInt64.toUInt64 &&& Int64.toUInt64 63)).toInt64)), (4, .int (x4 + 1))] []) : gg X M k n 32 [(0, .long x0), (2, .long x2), (4, .int x4)] [] := by
  refine g_lload_n ok d_Te_shown_32 rfl (j := 1) rfl ?_
  refine g_bipush (v := 8) ok d_Te_shown_33 (by decide) ?_
  refine g_lushr ok d_Te_shown_35 ?_
  refine g_lstore_n (L' := [(0, .long x0), (2, .long (((x2).toUInt64 >>> ((8 : Int32).toInt64.toUInt64 &&& Int64.toUInt64 63)).toInt64)), (4, .int x4)]) ok d_Te_shown_36 rfl (by rw [hl]; decide) rfl ?_
  refine g_iinc (L' := [(0, .long x0), (2, .long (((x2).toUInt64 >>> ((8 : Int32).toInt64.toUInt64 &&& Int64.toUInt64 63)).toInt64)), (4, .int (x4 + 1))]) (v := (x4 + 1)) ok d_Te_shown_37 (j := 2) rfl rfl (by rw [hl]; decide) rfl ?_
  exact g_goto (tgt := 15) ok d_Te_shown_40 (by decide) kk
theorem k_Te_shown_43 {X : gC} {M : List mC} {k n : Nat} {x0 : Int64} {x2 : Int64} {x4 : Int32} (ok : gO X c_Te_shown "TripleStore$Terms" w_Te_shown)  {l9 : Launch} {rm : Room} {M0 : List mC} {post : Option Value → List mC → Prop} (E : gE X l9 y_Te_shown rm 5 (some .long) M0 post) (hp : post (some (.long x2)) M) (hk : k ≤ rm.cells) (hn : n ≤ rm.slots) : gg X M k n 43 [(0, .long x0), (2, .long x2), (4, .int x4)] [] := by
  refine g_lload_n ok d_Te_shown_43 rfl (j := 1) rfl ?_
  exact g_lret ok E d_Te_shown_44 hp hk hn
theorem k_Tr_init_0 {X : gC} {M : List mC} {k n : Nat} {x0 : Nat} {x1 : Int32} (ok : gO X c_Tr_init "TripleStore$Triples" w_Tr_init)  (hf : 1 ≤ (gR X).frames) (hl2 : (([] : List Value).map fun v => v.category).sum + 12 ≤ (gR X).locals) (kk : gg X M k n 4 [(0, .ref x0), (1, .int x1)] []) : gg X M k n 0 [(0, .ref x0), (1, .int x1)] [] := by
  refine g_aload_n ok d_Tr_init_0 rfl (j := 0) rfl ?_
  exact g_objI ok ml_Tr_1 wn_Object i_Object d_Tr_init_1 hf hl2 kk
theorem k_Tr_size_0 {X : gC} {M : List mC} {k n : Nat} {x0 : Nat} {fs2 : List Value} {f3 : Int32} (ok : gO X c_Tr_size "TripleStore$Triples" w_Tr_size) (h1 : M[x0]? = some (.inr (8, fs2))) (h4 : fs2[3]? = some (.int f3)) {l9 : Launch} {rm : Room} {M0 : List mC} {post : Option Value → List mC → Prop} (E : gE X l9 y_Tr_size rm 1 (some .int) M0 post) (hp : post (some (.int f3)) M) (hk : k ≤ rm.cells) (hn : n ≤ rm.slots) : gg X M k n 0 [(0, .ref x0)] [] := by
  refine g_aload_n ok d_Tr_size_0 rfl (j := 0) rfl ?_
  refine gf_Tr_7 ok d_Tr_size_1 h1 h4 ?_
  exact g_iret ok E d_Tr_size_4 hp hk hn
theorem k_Tr_isFull_0 {X : gC} {M : List mC} {k n : Nat} {x0 : Nat} {fs2 : List Value} {f3 : Int32} {f5 : Nat} {g8 : Nat → Int64} {N9 : Nat} (ok : gO X c_Tr_isFull "TripleStore$Triples" w_Tr_isFull) (h1 : M[x0]? = some (.inr (8, fs2))) (h4 : fs2[3]? = some (.int f3)) (h6 : fs2[0]? = some (.ref f5)) (h7 : M[f5]? = some (.inl (1, N9, .inr (.inl g8)))) (kt : f3 < (Int32.ofNat N9) → gg X M k n 16 [(0, .ref x0)] []) (kf : ¬ f3 < (Int32.ofNat N9) → gg X M k n 12 [(0, .ref x0)] []) : gg X M k n 0 [(0, .ref x0)] [] := by
  refine g_aload_n ok d_Tr_isFull_0 rfl (j := 0) rfl ?_
  refine gf_Tr_7 ok d_Tr_isFull_1 h1 h4 ?_
  refine g_aload_n ok d_Tr_isFull_4 rfl (j := 0) rfl ?_
  refine gf_Tr_13 ok d_Tr_isFull_5 h1 h6 ?_
  refine g_alen (t := 1) ok rfl d_Tr_isFull_8 h7 rfl ?_
  exact g_icmp_lt (tgt := 16) ok d_Tr_isFull_9 (by decide) kt kf
theorem k_Tr_isFull_12 {X : gC} {M : List mC} {k n : Nat} {x0 : Nat} (ok : gO X c_Tr_isFull "TripleStore$Triples" w_Tr_isFull)  (kk : gg X M k n 17 [(0, .ref x0)] [.int 1]) : gg X M k n 12 [(0, .ref x0)] [] := by
  refine g_iconst (v := 1) ok d_Tr_isFull_12 (by decide) ?_
  exact g_goto (tgt := 17) ok d_Tr_isFull_13 (by decide) kk
theorem k_Tr_isFull_16 {X : gC} {M : List mC} {k n : Nat} {x0 : Nat} (ok : gO X c_Tr_isFull "TripleStore$Triples" w_Tr_isFull)  (kk : gg X M k n 17 [(0, .ref x0)] [.int 0]) : gg X M k n 16 [(0, .ref x0)] [] := by
  refine g_iconst (v := 0) ok d_Tr_isFull_16 (by decide) ?_
  exact kk
theorem k_Tr_isFull_17 {X : gC} {M : List mC} {k n : Nat} {x0 : Nat} {s0 : Int32} (ok : gO X c_Tr_isFull "TripleStore$Triples" w_Tr_isFull)  {l9 : Launch} {rm : Room} {M0 : List mC} {post : Option Value → List mC → Prop} (E : gE X l9 y_Tr_isFull rm 1 (some .boolean) M0 post) (hz : narrow .boolean (.int s0) = .int s0) (hp : post (some (.int s0)) M) (hk : k ≤ rm.cells) (hn : n ≤ rm.slots) : gg X M k n 17 [(0, .ref x0)] [.int s0] := by
  exact g_zret ok E d_Tr_isFull_17 hz hp hk hn
theorem k_Tr_subject_0 {X : gC} {M : List mC} {k n : Nat} {x0 : Nat} {x1 : Int32} (ok : gO X c_Tr_subject "TripleStore$Triples" w_Tr_subject)  (kt : x1 < 0 → gg X M k n 21 [(0, .ref x0), (1, .int x1)] []) (kf : ¬ x1 < 0 → gg X M k n 4 [(0, .ref x0), (1, .int x1)] []) : gg X M k n 0 [(0, .ref x0), (1, .int x1)] [] := by
  refine g_iload_n ok d_Tr_subject_0 rfl (j := 1) rfl ?_
  exact g_if_lt (tgt := 21) ok d_Tr_subject_1 (by decide) kt kf
theorem k_Tr_subject_4 {X : gC} {M : List mC} {k n : Nat} {x0 : Nat} {x1 : Int32} {fs2 : List Value} {f3 : Int32} (ok : gO X c_Tr_subject "TripleStore$Triples" w_Tr_subject) (h1 : M[x0]? = some (.inr (8, fs2))) (h4 : fs2[3]? = some (.int f3)) (kt : f3 ≤ x1 → gg X M k n 21 [(0, .ref x0), (1, .int x1)] []) (kf : ¬ f3 ≤ x1 → gg X M k n 12 [(0, .ref x0), (1, .int x1)] []) : gg X M k n 4 [(0, .ref x0), (1, .int x1)] [] := by
  refine g_iload_n ok d_Tr_subject_4 rfl (j := 1) rfl ?_
  refine g_aload_n ok d_Tr_subject_5 rfl (j := 0) rfl ?_
  refine gf_Tr_7 ok d_Tr_subject_6 h1 h4 ?_
  exact g_icmp_ge (tgt := 21) ok d_Tr_subject_9 (by decide) kt kf
theorem k_Tr_subject_12 {X : gC} {M : List mC} {k n : Nat} {x0 : Nat} {x1 : Int32} {fs2 : List Value} {f3 : Nat} {g6 : Nat → Int64} {N7 : Nat} (ok : gO X c_Tr_subject "TripleStore$Triples" w_Tr_subject) (h1 : M[x0]? = some (.inr (8, fs2))) (h4 : fs2[0]? = some (.ref f3)) (h5 : M[f3]? = some (.inl (1, N7, .inr (.inl g6)))) (h8 : vp_in x1 N7) (kk : gg X M k n 22 [(0, .ref x0), (1, .int x1)] [.long (g6 x1.toNatClampNeg)]) : gg X M k n 12 [(0, .ref x0), (1, .int x1)] [] := by
  refine g_aload_n ok d_Tr_subject_12 rfl (j := 0) rfl ?_
  refine gf_Tr_13 ok d_Tr_subject_13 h1 h4 ?_
  refine g_iload_n ok d_Tr_subject_16 rfl (j := 1) rfl ?_
  refine g_lald (t := 1) ok rfl d_Tr_subject_17 h5 h8 ?_
  exact g_goto (tgt := 22) ok d_Tr_subject_18 (by decide) kk
theorem k_Tr_subject_21 {X : gC} {M : List mC} {k n : Nat} {x0 : Nat} {x1 : Int32} (ok : gO X c_Tr_subject "TripleStore$Triples" w_Tr_subject)  (kk : gg X M k n 22 [(0, .ref x0), (1, .int x1)] [.long 0]) : gg X M k n 21 [(0, .ref x0), (1, .int x1)] [] := by
  refine g_lconst (v := 0) ok d_Tr_subject_21 (by decide) ?_
  exact kk
theorem k_Tr_subject_22 {X : gC} {M : List mC} {k n : Nat} {x0 : Nat} {x1 : Int32} {s0 : Int64} (ok : gO X c_Tr_subject "TripleStore$Triples" w_Tr_subject)  {l9 : Launch} {rm : Room} {M0 : List mC} {post : Option Value → List mC → Prop} (E : gE X l9 y_Tr_subject rm 2 (some .long) M0 post) (hp : post (some (.long s0)) M) (hk : k ≤ rm.cells) (hn : n ≤ rm.slots) : gg X M k n 22 [(0, .ref x0), (1, .int x1)] [.long s0] := by
  exact g_lret ok E d_Tr_subject_22 hp hk hn
theorem k_Tr_predicate_0 {X : gC} {M : List mC} {k n : Nat} {x0 : Nat} {x1 : Int32} (ok : gO X c_Tr_predicate "TripleStore$Triples" w_Tr_predicate)  (kt : x1 < 0 → gg X M k n 21 [(0, .ref x0), (1, .int x1)] []) (kf : ¬ x1 < 0 → gg X M k n 4 [(0, .ref x0), (1, .int x1)] []) : gg X M k n 0 [(0, .ref x0), (1, .int x1)] [] := by
  refine g_iload_n ok d_Tr_predicate_0 rfl (j := 1) rfl ?_
  exact g_if_lt (tgt := 21) ok d_Tr_predicate_1 (by decide) kt kf
theorem k_Tr_predicate_4 {X : gC} {M : List mC} {k n : Nat} {x0 : Nat} {x1 : Int32} {fs2 : List Value} {f3 : Int32} (ok : gO X c_Tr_predicate "TripleStore$Triples" w_Tr_predicate) (h1 : M[x0]? = some (.inr (8, fs2))) (h4 : fs2[3]? = some (.int f3)) (kt : f3 ≤ x1 → gg X M k n 21 [(0, .ref x0), (1, .int x1)] []) (kf : ¬ f3 ≤ x1 → gg X M k n 12 [(0, .ref x0), (1, .int x1)] []) : gg X M k n 4 [(0, .ref x0), (1, .int x1)] [] := by
  refine g_iload_n ok d_Tr_predicate_4 rfl (j := 1) rfl ?_
  refine g_aload_n ok d_Tr_predicate_5 rfl (j := 0) rfl ?_
  refine gf_Tr_7 ok d_Tr_predicate_6 h1 h4 ?_
  exact g_icmp_ge (tgt := 21) ok d_Tr_predicate_9 (by decide) kt kf
theorem k_Tr_predicate_12 {X : gC} {M : List mC} {k n : Nat} {x0 : Nat} {x1 : Int32} {fs2 : List Value} {f3 : Nat} {g6 : Nat → Int64} {N7 : Nat} (ok : gO X c_Tr_predicate "TripleStore$Triples" w_Tr_predicate) (h1 : M[x0]? = some (.inr (8, fs2))) (h4 : fs2[1]? = some (.ref f3)) (h5 : M[f3]? = some (.inl (1, N7, .inr (.inl g6)))) (h8 : vp_in x1 N7) (kk : gg X M k n 22 [(0, .ref x0), (1, .int x1)] [.long (g6 x1.toNatClampNeg)]) : gg X M k n 12 [(0, .ref x0), (1, .int x1)] [] := by
  refine g_aload_n ok d_Tr_predicate_12 rfl (j := 0) rfl ?_
  refine gf_Tr_17 ok d_Tr_predicate_13 h1 h4 ?_
  refine g_iload_n ok d_Tr_predicate_16 rfl (j := 1) rfl ?_
  refine g_lald (t := 1) ok rfl d_Tr_predicate_17 h5 h8 ?_
  exact g_goto (tgt := 22) ok d_Tr_predicate_18 (by decide) kk
theorem k_Tr_predicate_21 {X : gC} {M : List mC} {k n : Nat} {x0 : Nat} {x1 : Int32} (ok : gO X c_Tr_predicate "TripleStore$Triples" w_Tr_predicate)  (kk : gg X M k n 22 [(0, .ref x0), (1, .int x1)] [.long 0]) : gg X M k n 21 [(0, .ref x0), (1, .int x1)] [] := by
  refine g_lconst (v := 0) ok d_Tr_predicate_21 (by decide) ?_
  exact kk
theorem k_Tr_predicate_22 {X : gC} {M : List mC} {k n : Nat} {x0 : Nat} {x1 : Int32} {s0 : Int64} (ok : gO X c_Tr_predicate "TripleStore$Triples" w_Tr_predicate)  {l9 : Launch} {rm : Room} {M0 : List mC} {post : Option Value → List mC → Prop} (E : gE X l9 y_Tr_predicate rm 2 (some .long) M0 post) (hp : post (some (.long s0)) M) (hk : k ≤ rm.cells) (hn : n ≤ rm.slots) : gg X M k n 22 [(0, .ref x0), (1, .int x1)] [.long s0] := by
  exact g_lret ok E d_Tr_predicate_22 hp hk hn
theorem k_Tr_object_0 {X : gC} {M : List mC} {k n : Nat} {x0 : Nat} {x1 : Int32} (ok : gO X c_Tr_object "TripleStore$Triples" w_Tr_object)  (kt : x1 < 0 → gg X M k n 21 [(0, .ref x0), (1, .int x1)] []) (kf : ¬ x1 < 0 → gg X M k n 4 [(0, .ref x0), (1, .int x1)] []) : gg X M k n 0 [(0, .ref x0), (1, .int x1)] [] := by
  refine g_iload_n ok d_Tr_object_0 rfl (j := 1) rfl ?_
  exact g_if_lt (tgt := 21) ok d_Tr_object_1 (by decide) kt kf
theorem k_Tr_object_4 {X : gC} {M : List mC} {k n : Nat} {x0 : Nat} {x1 : Int32} {fs2 : List Value} {f3 : Int32} (ok : gO X c_Tr_object "TripleStore$Triples" w_Tr_object) (h1 : M[x0]? = some (.inr (8, fs2))) (h4 : fs2[3]? = some (.int f3)) (kt : f3 ≤ x1 → gg X M k n 21 [(0, .ref x0), (1, .int x1)] []) (kf : ¬ f3 ≤ x1 → gg X M k n 12 [(0, .ref x0), (1, .int x1)] []) : gg X M k n 4 [(0, .ref x0), (1, .int x1)] [] := by
  refine g_iload_n ok d_Tr_object_4 rfl (j := 1) rfl ?_
  refine g_aload_n ok d_Tr_object_5 rfl (j := 0) rfl ?_
  refine gf_Tr_7 ok d_Tr_object_6 h1 h4 ?_
  exact g_icmp_ge (tgt := 21) ok d_Tr_object_9 (by decide) kt kf
theorem k_Tr_object_12 {X : gC} {M : List mC} {k n : Nat} {x0 : Nat} {x1 : Int32} {fs2 : List Value} {f3 : Nat} {g6 : Nat → Int64} {N7 : Nat} (ok : gO X c_Tr_object "TripleStore$Triples" w_Tr_object) (h1 : M[x0]? = some (.inr (8, fs2))) (h4 : fs2[2]? = some (.ref f3)) (h5 : M[f3]? = some (.inl (1, N7, .inr (.inl g6)))) (h8 : vp_in x1 N7) (kk : gg X M k n 22 [(0, .ref x0), (1, .int x1)] [.long (g6 x1.toNatClampNeg)]) : gg X M k n 12 [(0, .ref x0), (1, .int x1)] [] := by
  refine g_aload_n ok d_Tr_object_12 rfl (j := 0) rfl ?_
  refine gf_Tr_20 ok d_Tr_object_13 h1 h4 ?_
  refine g_iload_n ok d_Tr_object_16 rfl (j := 1) rfl ?_
  refine g_lald (t := 1) ok rfl d_Tr_object_17 h5 h8 ?_
  exact g_goto (tgt := 22) ok d_Tr_object_18 (by decide) kk
theorem k_Tr_object_21 {X : gC} {M : List mC} {k n : Nat} {x0 : Nat} {x1 : Int32} (ok : gO X c_Tr_object "TripleStore$Triples" w_Tr_object)  (kk : gg X M k n 22 [(0, .ref x0), (1, .int x1)] [.long 0]) : gg X M k n 21 [(0, .ref x0), (1, .int x1)] [] := by
  refine g_lconst (v := 0) ok d_Tr_object_21 (by decide) ?_
  exact kk
theorem k_Tr_object_22 {X : gC} {M : List mC} {k n : Nat} {x0 : Nat} {x1 : Int32} {s0 : Int64} (ok : gO X c_Tr_object "TripleStore$Triples" w_Tr_object)  {l9 : Launch} {rm : Room} {M0 : List mC} {post : Option Value → List mC → Prop} (E : gE X l9 y_Tr_object rm 2 (some .long) M0 post) (hp : post (some (.long s0)) M) (hk : k ≤ rm.cells) (hn : n ≤ rm.slots) : gg X M k n 22 [(0, .ref x0), (1, .int x1)] [.long s0] := by
  exact g_lret ok E d_Tr_object_22 hp hk hn
theorem k_Tr_find_0 {X : gC} {M : List mC} {k n : Nat} {x0 : Nat} {x1 : Int64} {x3 : Int64} {x5 : Int64} (ok : gO X c_Tr_find "TripleStore$Triples" w_Tr_find) (hl : gL X = 8)  (kk : gg X M k n 3 [(0, .ref x0), (1, .long x1), (3, .long x3), (5, .long x5), (7, .int 0)] []) : gg X M k n 0 [(0, .ref x0), (1, .long x1), (3, .long x3), (5, .long x5)] [] := by
  refine g_iconst (v := 0) ok d_Tr_find_0 (by decide) ?_
  refine g_istore (L' := [(0, .ref x0), (1, .long x1), (3, .long x3), (5, .long x5), (7, .int 0)]) ok d_Tr_find_1 (by rw [hl]; decide) rfl ?_
  exact kk
theorem k_Tr_find_3 {X : gC} {M : List mC} {k n : Nat} {x0 : Nat} {x1 : Int64} {x3 : Int64} {x5 : Int64} {x7 : Int32} {fs2 : List Value} {f3 : Int32} (ok : gO X c_Tr_find "TripleStore$Triples" w_Tr_find) (h1 : M[x0]? = some (.inr (8, fs2))) (h4 : fs2[3]? = some (.int f3)) (kt : f3 ≤ x7 → gg X M k n 58 [(0, .ref x0), (1, .long x1), (3, .long x3), (5, .long x5), (7, .int x7)] []) (kf : ¬ f3 ≤ x7 → gg X M k n 12 [(0, .ref x0), (1, .long x1), (3, .long x3), (5, .long x5), (7, .int x7)] []) : gg X M k n 3 [(0, .ref x0), (1, .long x1), (3, .long x3), (5, .long x5), (7, .int x7)] [] := by
  refine g_iload ok d_Tr_find_3 (j := 4) rfl ?_
  refine g_aload_n ok d_Tr_find_5 rfl (j := 0) rfl ?_
  refine gf_Tr_7 ok d_Tr_find_6 h1 h4 ?_
  exact g_icmp_ge (tgt := 58) ok d_Tr_find_9 (by decide) kt kf
theorem k_Tr_find_12 {X : gC} {M : List mC} {k n : Nat} {x0 : Nat} {x1 : Int64} {x3 : Int64} {x5 : Int64} {x7 : Int32} {fs2 : List Value} {f3 : Nat} {g6 : Nat → Int64} {N7 : Nat} (ok : gO X c_Tr_find "TripleStore$Triples" w_Tr_find) (h1 : M[x0]? = some (.inr (8, fs2))) (h4 : fs2[0]? = some (.ref f3)) (h5 : M[f3]? = some (.inl (1, N7, .inr (.inl g6)))) (h8 : vp_in x7 N7) (kt : ¬ (g6 x7.toNatClampNeg) = x1 → gg X M k n 52 [(0, .ref x0), (1, .long x1), (3, .long x3), (5, .long x5), (7, .int x7)] []) (kf : (g6 x7.toNatClampNeg) = x1 → gg X M k n 24 [(0, .ref x0), (1, .long x1), (3, .long x3), (5, .long x5), (7, .int x7)] []) : gg X M k n 12 [(0, .ref x0), (1, .long x1), (3, .long x3), (5, .long x5), (7, .int x7)] [] := by
  refine g_aload_n ok d_Tr_find_12 rfl (j := 0) rfl ?_
  refine gf_Tr_13 ok d_Tr_find_13 h1 h4 ?_
  refine g_iload ok d_Tr_find_16 (j := 4) rfl ?_
  refine g_lald (t := 1) ok rfl d_Tr_find_18 h5 h8 ?_
  refine g_lload_n ok d_Tr_find_19 rfl (j := 1) rfl ?_
  exact g_lc_ne (tgt := 52) ok d_Tr_find_20 d_Tr_find_21 (by decide) kt kf
theorem k_Tr_find_24 {X : gC} {M : List mC} {k n : Nat} {x0 : Nat} {x1 : Int64} {x3 : Int64} {x5 : Int64} {x7 : Int32} {fs2 : List Value} {f3 : Nat} {g6 : Nat → Int64} {N7 : Nat} (ok : gO X c_Tr_find "TripleStore$Triples" w_Tr_find) (h1 : M[x0]? = some (.inr (8, fs2))) (h4 : fs2[1]? = some (.ref f3)) (h5 : M[f3]? = some (.inl (1, N7, .inr (.inl g6)))) (h8 : vp_in x7 N7) (kt : ¬ (g6 x7.toNatClampNeg) = x3 → gg X M k n 52 [(0, .ref x0), (1, .long x1), (3, .long x3), (5, .long x5), (7, .int x7)] []) (kf : (g6 x7.toNatClampNeg) = x3 → gg X M k n 36 [(0, .ref x0), (1, .long x1), (3, .long x3), (5, .long x5), (7, .int x7)] []) : gg X M k n 24 [(0, .ref x0), (1, .long x1), (3, .long x3), (5, .long x5), (7, .int x7)] [] := by
  refine g_aload_n ok d_Tr_find_24 rfl (j := 0) rfl ?_
  refine gf_Tr_17 ok d_Tr_find_25 h1 h4 ?_
  refine g_iload ok d_Tr_find_28 (j := 4) rfl ?_
  refine g_lald (t := 1) ok rfl d_Tr_find_30 h5 h8 ?_
  refine g_lload_n ok d_Tr_find_31 rfl (j := 2) rfl ?_
  exact g_lc_ne (tgt := 52) ok d_Tr_find_32 d_Tr_find_33 (by decide) kt kf
theorem k_Tr_find_36 {X : gC} {M : List mC} {k n : Nat} {x0 : Nat} {x1 : Int64} {x3 : Int64} {x5 : Int64} {x7 : Int32} {fs2 : List Value} {f3 : Nat} {g6 : Nat → Int64} {N7 : Nat} (ok : gO X c_Tr_find "TripleStore$Triples" w_Tr_find) (h1 : M[x0]? = some (.inr (8, fs2))) (h4 : fs2[2]? = some (.ref f3)) (h5 : M[f3]? = some (.inl (1, N7, .inr (.inl g6)))) (h8 : vp_in x7 N7) (kt : ¬ (g6 x7.toNatClampNeg) = x5 → gg X M k n 52 [(0, .ref x0), (1, .long x1), (3, .long x3), (5, .long x5), (7, .int x7)] []) (kf : (g6 x7.toNatClampNeg) = x5 → gg X M k n 49 [(0, .ref x0), (1, .long x1), (3, .long x3), (5, .long x5), (7, .int x7)] []) : gg X M k n 36 [(0, .ref x0), (1, .long x1), (3, .long x3), (5, .long x5), (7, .int x7)] [] := by
  refine g_aload_n ok d_Tr_find_36 rfl (j := 0) rfl ?_
  refine gf_Tr_20 ok d_Tr_find_37 h1 h4 ?_
  refine g_iload ok d_Tr_find_40 (j := 4) rfl ?_
  refine g_lald (t := 1) ok rfl d_Tr_find_42 h5 h8 ?_
  refine g_lload ok d_Tr_find_43 (j := 3) rfl ?_
  exact g_lc_ne (tgt := 52) ok d_Tr_find_45 d_Tr_find_46 (by decide) kt kf
theorem k_Tr_find_49 {X : gC} {M : List mC} {k n : Nat} {x0 : Nat} {x1 : Int64} {x3 : Int64} {x5 : Int64} {x7 : Int32} (ok : gO X c_Tr_find "TripleStore$Triples" w_Tr_find)  {l9 : Launch} {rm : Room} {M0 : List mC} {post : Option Value → List mC → Prop} (E : gE X l9 y_Tr_find rm 8 (some .int) M0 post) (hp : post (some (.int x7)) M) (hk : k ≤ rm.cells) (hn : n ≤ rm.slots) : gg X M k n 49 [(0, .ref x0), (1, .long x1), (3, .long x3), (5, .long x5), (7, .int x7)] [] := by
  refine g_iload ok d_Tr_find_49 (j := 4) rfl ?_
  exact g_iret ok E d_Tr_find_51 hp hk hn
theorem k_Tr_find_52 {X : gC} {M : List mC} {k n : Nat} {x0 : Nat} {x1 : Int64} {x3 : Int64} {x5 : Int64} {x7 : Int32} (ok : gO X c_Tr_find "TripleStore$Triples" w_Tr_find) (hl : gL X = 8)  (kk : gg X M k n 3 [(0, .ref x0), (1, .long x1), (3, .long x3), (5, .long x5), (7, .int (x7 + 1))] []) : gg X M k n 52 [(0, .ref x0), (1, .long x1), (3, .long x3), (5, .long x5), (7, .int x7)] [] := by
  refine g_iinc (L' := [(0, .ref x0), (1, .long x1), (3, .long x3), (5, .long x5), (7, .int (x7 + 1))]) (v := (x7 + 1)) ok d_Tr_find_52 (j := 4) rfl rfl (by rw [hl]; decide) rfl ?_
  exact g_goto (tgt := 3) ok d_Tr_find_55 (by decide) kk
theorem k_Tr_find_58 {X : gC} {M : List mC} {k n : Nat} {x0 : Nat} {x1 : Int64} {x3 : Int64} {x5 : Int64} {x7 : Int32} (ok : gO X c_Tr_find "TripleStore$Triples" w_Tr_find)  {l9 : Launch} {rm : Room} {M0 : List mC} {post : Option Value → List mC → Prop} (E : gE X l9 y_Tr_find rm 8 (some .int) M0 post) (hp : post (some (.int (-1))) M) (hk : k ≤ rm.cells) (hn : n ≤ rm.slots) : gg X M k n 58 [(0, .ref x0), (1, .long x1), (3, .long x3), (5, .long x5), (7, .int x7)] [] := by
  refine g_iconst (v := (-1)) ok d_Tr_find_58 (by decide) ?_
  exact g_iret ok E d_Tr_find_59 hp hk hn
theorem k_Tr_put_0 {X : gC} {M : List mC} {k n : Nat} {x0 : Nat} {x1 : Int64} {x3 : Int64} {x5 : Int64} {fs2 : List Value} (ok : gO X c_Tr_put "TripleStore$Triples" w_Tr_put) (h1 : M[x0]? = some (.inr (8, fs2))) {rm : Room} {post : Option Value → List mC → Prop} (hm : mm_ (gLa X) y_Tr_isFull w_Tr_isFull rm [.ref x0] M post) (hR : gF X rm 1 k n) (hlen : ∀ r M', post r M' → M'.length = M.length) (kk : ∀ r M', post r M' → gg X M' (k + rm.cells) (n + rm.slots) 4 [(0, .ref x0), (1, .long x1), (3, .long x3), (5, .long x5)] (r.toList ++ [])) : gg X M k n 0 [(0, .ref x0), (1, .long x1), (3, .long x3), (5, .long x5)] [] := by
  refine g_aload_n ok d_Tr_put_0 rfl (j := 0) rfl ?_
  exact gc_Tr_25 (As := []) (rest := []) ok d_Tr_put_1 hm rfl rfl (Nat.le_of_ble_eq_true rfl) hR h1 hlen kk
theorem k_Tr_put_4 {X : gC} {M : List mC} {k n : Nat} {x0 : Nat} {x1 : Int64} {x3 : Int64} {x5 : Int64} {s0 : Int32} (ok : gO X c_Tr_put "TripleStore$Triples" w_Tr_put)  (kt : s0 = 0 → gg X M k n 8 [(0, .ref x0), (1, .long x1), (3, .long x3), (5, .long x5)] []) (kf : ¬ s0 = 0 → gg X M k n 7 [(0, .ref x0), (1, .long x1), (3, .long x3), (5, .long x5)] []) : gg X M k n 4 [(0, .ref x0), (1, .long x1), (3, .long x3), (5, .long x5)] [.int s0] := by
  exact g_if_eq (tgt := 8) ok d_Tr_put_4 (by decide) kt kf
theorem k_Tr_put_7 {X : gC} {M : List mC} {k n : Nat} {x0 : Nat} {x1 : Int64} {x3 : Int64} {x5 : Int64} (ok : gO X c_Tr_put "TripleStore$Triples" w_Tr_put)  {l9 : Launch} {rm : Room} {M0 : List mC} {post : Option Value → List mC → Prop} (E : gE X l9 y_Tr_put rm 7 none M0 post) (hp : post (none) M) (hk : k ≤ rm.cells) (hn : n ≤ rm.slots) : gg X M k n 7 [(0, .ref x0), (1, .long x1), (3, .long x3), (5, .long x5)] [] := by
  exact g_vret ok E d_Tr_put_7 hp hk hn
theorem k_Tr_put_8 {X : gC} {M : List mC} {k n : Nat} {x0 : Nat} {x1 : Int64} {x3 : Int64} {x5 : Int64} {fs2 : List Value} {f3 : Nat} {f5 : Int32} {g8 : Nat → Int64} {N9 : Nat} {M11 : List mC} {f15 : Nat} {g18 : Nat → Int64} {N19 : Nat} {M23 : List mC} {f27 : Nat} {g30 : Nat → Int64} {N31 : Nat} {M37 : List mC} {M43 : List mC} (ok : gO X c_Tr_put "TripleStore$Triples" w_Tr_put) (h1 : M[x0]? = some (.inr (8, fs2))) (h4 : fs2[0]? = some (.ref f3)) (h6 : fs2[3]? = some (.int f5)) (h7 : M[f3]? = some (.inl (1, N9, .inr (.inl g8)))) (h10 : vp_in f5 N9) (h12 : M.set f3 (.inl (1, N9, .inr (.inl (vp_updL g8 f5.toNatClampNeg x1)))) = M11) (h16 : fs2[1]? = some (.ref f15)) (h17 : M[f15]? = some (.inl (1, N19, .inr (.inl g18)))) (h21 : f15 ≠ f3) (h22 : vp_in f5 N19) (h24 : M11.set f15 (.inl (1, N19, .inr (.inl (vp_updL g18 f5.toNatClampNeg x3)))) = M23) (h28 : fs2[2]? = some (.ref f27)) (h29 : M[f27]? = some (.inl (1, N31, .inr (.inl g30)))) (h33 : f27 ≠ f3) (h35 : f15 ≠ f27) (h36 : vp_in f5 N31) (h38 : M23.set f27 (.inl (1, N31, .inr (.inl (vp_updL g30 f5.toNatClampNeg x5)))) = M37) (h42 : 4 ≤ fs2.length) (h44 : M37.set x0 (.inr (8, (fs2.set 3 (.int (f5 + 1))))) = M43) {l9 : Launch} {rm : Room} {M0 : List mC} {post : Option Value → List mC → Prop} (E : gE X l9 y_Tr_put rm 7 none M0 post) (hp : post (none) M43) (hk : k ≤ rm.cells) (hn : n ≤ rm.slots) : gg X M k n 8 [(0, .ref x0), (1, .long x1), (3, .long x3), (5, .long x5)] [] := by
  refine g_aload_n ok d_Tr_put_8 rfl (j := 0) rfl ?_
  refine gf_Tr_13 ok d_Tr_put_9 h1 h4 ?_
  refine g_aload_n ok d_Tr_put_12 rfl (j := 0) rfl ?_
  refine gf_Tr_7 ok d_Tr_put_13 h1 h6 ?_
  refine g_lload_n ok d_Tr_put_16 rfl (j := 1) rfl ?_
  refine g_last (t := 1) ok rfl d_Tr_put_17 h7 h10 ?_
  rw [h12]
  have h13 : M11[f3]? = some (.inl (1, N9, .inr (.inl (vp_updL g8 f5.toNatClampNeg x1)))) := by rw [← h12]; exact gs_eq h7
  refine g_aload_n ok d_Tr_put_18 rfl (j := 0) rfl ?_
  have h14 : M11[x0]? = some (.inr (8, fs2)) := by rw [← h12]; exact (gs_ne (ne_ao h7 h1)).trans h1
  refine gf_Tr_17 ok d_Tr_put_19 h14 h16 ?_
  refine g_aload_n ok d_Tr_put_22 rfl (j := 0) rfl ?_
  refine gf_Tr_7 ok d_Tr_put_23 h14 h6 ?_
  refine g_lload_n ok d_Tr_put_26 rfl (j := 2) rfl ?_
  have h20 : M11[f15]? = some (.inl (1, N19, .inr (.inl g18))) := by rw [← h12]; exact (gs_ne (Ne.symm h21)).trans h17
  refine g_last (t := 1) ok rfl d_Tr_put_27 h20 h22 ?_
  rw [h24]
  have h25 : M23[f15]? = some (.inl (1, N19, .inr (.inl (vp_updL g18 f5.toNatClampNeg x3)))) := by rw [← h24]; exact gs_eq h20
  refine g_aload_n ok d_Tr_put_28 rfl (j := 0) rfl ?_
  have h26 : M23[x0]? = some (.inr (8, fs2)) := by rw [← h24]; exact (gs_ne (ne_ao h20 h14)).trans h14
  refine gf_Tr_20 ok d_Tr_put_29 h26 h28 ?_
  refine g_aload_n ok d_Tr_put_32 rfl (j := 0) rfl ?_
  refine gf_Tr_7 ok d_Tr_put_33 h26 h6 ?_
  refine g_lload ok d_Tr_put_36 (j := 3) rfl ?_
  have h32 : M11[f27]? = some (.inl (1, N31, .inr (.inl g30))) := by rw [← h12]; exact (gs_ne (Ne.symm h33)).trans h29
  have h34 : M23[f27]? = some (.inl (1, N31, .inr (.inl g30))) := by rw [← h24]; exact (gs_ne h35).trans h32
  refine g_last (t := 1) ok rfl d_Tr_put_38 h34 h36 ?_
  rw [h38]
  have h39 : M37[f27]? = some (.inl (1, N31, .inr (.inl (vp_updL g30 f5.toNatClampNeg x5)))) := by rw [← h38]; exact gs_eq h34
  refine g_aload_n ok d_Tr_put_39 rfl (j := 0) rfl ?_
  refine g_dup ok d_Tr_put_40 rfl ?_
  have h40 : M37[x0]? = some (.inr (8, fs2)) := by rw [← h38]; exact (gs_ne (ne_ao h34 h26)).trans h26
  refine gf_Tr_7 ok d_Tr_put_41 h40 h6 ?_
  refine g_iconst (v := 1) ok d_Tr_put_44 (by decide) ?_
  refine g_iadd ok d_Tr_put_45 ?_
  have h41 : 3 < (fs2).length := by first | omega | (simp only [List.length_set]; omega)
  refine pf_Tr_7 ok d_Tr_put_46 h40 h41 (fun _ => ⟨rfl, rfl⟩) ?_
  rw [h44]
  have h45 : M43[x0]? = some (.inr (8, (fs2.set 3 (.int (f5 + 1))))) := by rw [← h44]; exact gs_eq h40
  have h46 := (List.getElem?_set_ne (a := .int (f5 + 1)) (by decide : 3 ≠ 0)).trans h4
  have h47 := (List.getElem?_set_ne (a := .int (f5 + 1)) (by decide : 3 ≠ 1)).trans h16
  have h48 := (List.getElem?_set_ne (a := .int (f5 + 1)) (by decide : 3 ≠ 2)).trans h28
  have h49 : (fs2.set 3 (.int (f5 + 1)))[3]? = some (.int (f5 + 1)) := List.getElem?_set_self h41
  exact g_vret ok E d_Tr_put_49 hp hk hn
theorem k_Tr_drop_0 {X : gC} {M : List mC} {k n : Nat} {x0 : Nat} {x1 : Int32} (ok : gO X c_Tr_drop "TripleStore$Triples" w_Tr_drop)  (kt : x1 < 0 → gg X M k n 12 [(0, .ref x0), (1, .int x1)] []) (kf : ¬ x1 < 0 → gg X M k n 4 [(0, .ref x0), (1, .int x1)] []) : gg X M k n 0 [(0, .ref x0), (1, .int x1)] [] := by
  refine g_iload_n ok d_Tr_drop_0 rfl (j := 1) rfl ?_
  exact g_if_lt (tgt := 12) ok d_Tr_drop_1 (by decide) kt kf
theorem k_Tr_drop_4 {X : gC} {M : List mC} {k n : Nat} {x0 : Nat} {x1 : Int32} {fs2 : List Value} {f3 : Int32} (ok : gO X c_Tr_drop "TripleStore$Triples" w_Tr_drop) (h1 : M[x0]? = some (.inr (8, fs2))) (h4 : fs2[3]? = some (.int f3)) (kt : x1 < f3 → gg X M k n 13 [(0, .ref x0), (1, .int x1)] []) (kf : ¬ x1 < f3 → gg X M k n 12 [(0, .ref x0), (1, .int x1)] []) : gg X M k n 4 [(0, .ref x0), (1, .int x1)] [] := by
  refine g_iload_n ok d_Tr_drop_4 rfl (j := 1) rfl ?_
  refine g_aload_n ok d_Tr_drop_5 rfl (j := 0) rfl ?_
  refine gf_Tr_7 ok d_Tr_drop_6 h1 h4 ?_
  exact g_icmp_lt (tgt := 13) ok d_Tr_drop_9 (by decide) kt kf
theorem k_Tr_drop_12 {X : gC} {M : List mC} {k n : Nat} {x0 : Nat} {x1 : Int32} (ok : gO X c_Tr_drop "TripleStore$Triples" w_Tr_drop)  {l9 : Launch} {rm : Room} {M0 : List mC} {post : Option Value → List mC → Prop} (E : gE X l9 y_Tr_drop rm 2 none M0 post) (hp : post (none) M) (hk : k ≤ rm.cells) (hn : n ≤ rm.slots) : gg X M k n 12 [(0, .ref x0), (1, .int x1)] [] := by
  exact g_vret ok E d_Tr_drop_12 hp hk hn
theorem k_Tr_drop_13 {X : gC} {M : List mC} {k n : Nat} {x0 : Nat} {x1 : Int32} {fs2 : List Value} {f3 : Int32} {M7 : List mC} {f11 : Nat} {g15 : Nat → Int64} {N16 : Nat} {M20 : List mC} {f24 : Nat} {g28 : Nat → Int64} {N29 : Nat} {M35 : List mC} {f39 : Nat} {g43 : Nat → Int64} {N44 : Nat} {M52 : List mC} (ok : gO X c_Tr_drop "TripleStore$Triples" w_Tr_drop) (h1 : M[x0]? = some (.inr (8, fs2))) (h4 : fs2[3]? = some (.int f3)) (h6 : 4 ≤ fs2.length) (h8 : M.set x0 (.inr (8, (fs2.set 3 (.int (f3 - 1))))) = M7) (h12 : fs2[0]? = some (.ref f11)) (h14 : M[f11]? = some (.inl (1, N16, .inr (.inl g15)))) (h18 : vp_in (f3 - 1) N16) (h19 : vp_in x1 N16) (h21 : M7.set f11 (.inl (1, N16, .inr (.inl (vp_updL g15 x1.toNatClampNeg (g15 (f3 - 1).toNatClampNeg))))) = M20) (h25 : fs2[1]? = some (.ref f24)) (h27 : M[f24]? = some (.inl (1, N29, .inr (.inl g28)))) (h32 : f11 ≠ f24) (h33 : vp_in (f3 - 1) N29) (h34 : vp_in x1 N29) (h36 : M20.set f24 (.inl (1, N29, .inr (.inl (vp_updL g28 x1.toNatClampNeg (g28 (f3 - 1).toNatClampNeg))))) = M35) (h40 : fs2[2]? = some (.ref f39)) (h42 : M[f39]? = some (.inl (1, N44, .inr (.inl g43)))) (h47 : f11 ≠ f39) (h49 : f24 ≠ f39) (h50 : vp_in (f3 - 1) N44) (h51 : vp_in x1 N44) (h53 : M35.set f39 (.inl (1, N44, .inr (.inl (vp_updL g43 x1.toNatClampNeg (g43 (f3 - 1).toNatClampNeg))))) = M52) {l9 : Launch} {rm : Room} {M0 : List mC} {post : Option Value → List mC → Prop} (E : gE X l9 y_Tr_drop rm 2 none M0 post) (hp : post (none) M52) (hk : k ≤ rm.cells) (hn : n ≤ rm.slots) : gg X M k n 13 [(0, .ref x0), (1, .int x1)] [] := by
  refine g_aload_n ok d_Tr_drop_13 rfl (j := 0) rfl ?_
  refine g_dup ok d_Tr_drop_14 rfl ?_
  refine gf_Tr_7 ok d_Tr_drop_15 h1 h4 ?_
  refine g_iconst (v := 1) ok d_Tr_drop_18 (by decide) ?_
  refine g_isub ok d_Tr_drop_19 ?_
  have h5 : 3 < (fs2).length := by first | omega | (simp only [List.length_set]; omega)
  refine pf_Tr_7 ok d_Tr_drop_20 h1 h5 (fun _ => ⟨rfl, rfl⟩) ?_
  rw [h8]
  have h9 : M7[x0]? = some (.inr (8, (fs2.set 3 (.int (f3 - 1))))) := by rw [← h8]; exact gs_eq h1
  have h10 : (fs2.set 3 (.int (f3 - 1)))[3]? = some (.int (f3 - 1)) := List.getElem?_set_self h5
  refine g_aload_n ok d_Tr_drop_23 rfl (j := 0) rfl ?_
  have h13 := (List.getElem?_set_ne (a := .int (f3 - 1)) (by decide : 3 ≠ 0)).trans h12
  refine gf_Tr_13 ok d_Tr_drop_24 h9 h13 ?_
  refine g_iload_n ok d_Tr_drop_27 rfl (j := 1) rfl ?_
  refine g_aload_n ok d_Tr_drop_28 rfl (j := 0) rfl ?_
  refine gf_Tr_13 ok d_Tr_drop_29 h9 h13 ?_
  refine g_aload_n ok d_Tr_drop_32 rfl (j := 0) rfl ?_
  refine gf_Tr_7 ok d_Tr_drop_33 h9 h10 ?_
  have h17 : M7[f11]? = some (.inl (1, N16, .inr (.inl g15))) := by rw [← h8]; exact (gs_ne (Ne.symm (ne_ao h14 h1))).trans h14
  refine g_lald (t := 1) ok rfl d_Tr_drop_36 h17 h18 ?_
  refine g_last (t := 1) ok rfl d_Tr_drop_37 h17 h19 ?_
  rw [h21]
  have h22 : M20[f11]? = some (.inl (1, N16, .inr (.inl (vp_updL g15 x1.toNatClampNeg (g15 (f3 - 1).toNatClampNeg))))) := by rw [← h21]; exact gs_eq h17
  refine g_aload_n ok d_Tr_drop_38 rfl (j := 0) rfl ?_
  have h23 : M20[x0]? = some (.inr (8, (fs2.set 3 (.int (f3 - 1))))) := by rw [← h21]; exact (gs_ne (ne_ao h17 h9)).trans h9
  have h26 := (List.getElem?_set_ne (a := .int (f3 - 1)) (by decide : 3 ≠ 1)).trans h25
  refine gf_Tr_17 ok d_Tr_drop_39 h23 h26 ?_
  refine g_iload_n ok d_Tr_drop_42 rfl (j := 1) rfl ?_
  refine g_aload_n ok d_Tr_drop_43 rfl (j := 0) rfl ?_
  refine gf_Tr_17 ok d_Tr_drop_44 h23 h26 ?_
  refine g_aload_n ok d_Tr_drop_47 rfl (j := 0) rfl ?_
  refine gf_Tr_7 ok d_Tr_drop_48 h23 h10 ?_
  have h30 : M7[f24]? = some (.inl (1, N29, .inr (.inl g28))) := by rw [← h8]; exact (gs_ne (Ne.symm (ne_ao h27 h1))).trans h27
  have h31 : M20[f24]? = some (.inl (1, N29, .inr (.inl g28))) := by rw [← h21]; exact (gs_ne h32).trans h30
  refine g_lald (t := 1) ok rfl d_Tr_drop_51 h31 h33 ?_
  refine g_last (t := 1) ok rfl d_Tr_drop_52 h31 h34 ?_
  rw [h36]
  have h37 : M35[f24]? = some (.inl (1, N29, .inr (.inl (vp_updL g28 x1.toNatClampNeg (g28 (f3 - 1).toNatClampNeg))))) := by rw [← h36]; exact gs_eq h31
  refine g_aload_n ok d_Tr_drop_53 rfl (j := 0) rfl ?_
  have h38 : M35[x0]? = some (.inr (8, (fs2.set 3 (.int (f3 - 1))))) := by rw [← h36]; exact (gs_ne (ne_ao h31 h23)).trans h23
  have h41 := (List.getElem?_set_ne (a := .int (f3 - 1)) (by decide : 3 ≠ 2)).trans h40
  refine gf_Tr_20 ok d_Tr_drop_54 h38 h41 ?_
  refine g_iload_n ok d_Tr_drop_57 rfl (j := 1) rfl ?_
  refine g_aload_n ok d_Tr_drop_58 rfl (j := 0) rfl ?_
  refine gf_Tr_20 ok d_Tr_drop_59 h38 h41 ?_
  refine g_aload_n ok d_Tr_drop_62 rfl (j := 0) rfl ?_
  refine gf_Tr_7 ok d_Tr_drop_63 h38 h10 ?_
  have h45 : M7[f39]? = some (.inl (1, N44, .inr (.inl g43))) := by rw [← h8]; exact (gs_ne (Ne.symm (ne_ao h42 h1))).trans h42
  have h46 : M20[f39]? = some (.inl (1, N44, .inr (.inl g43))) := by rw [← h21]; exact (gs_ne h47).trans h45
  have h48 : M35[f39]? = some (.inl (1, N44, .inr (.inl g43))) := by rw [← h36]; exact (gs_ne h49).trans h46
  refine g_lald (t := 1) ok rfl d_Tr_drop_66 h48 h50 ?_
  refine g_last (t := 1) ok rfl d_Tr_drop_67 h48 h51 ?_
  rw [h53]
  have h54 : M52[f39]? = some (.inl (1, N44, .inr (.inl (vp_updL g43 x1.toNatClampNeg (g43 (f3 - 1).toNatClampNeg))))) := by rw [← h53]; exact gs_eq h48
  exact g_vret ok E d_Tr_drop_68 hp hk hn
end
section
/-! TRIPLES: contracts -/
/-- a Triples object at t: three arrays of N longs, n of them in use -/
def pTr (M : List mC) (t a b c N n : Nat) (f g h : Nat → Int64) : Prop :=
  M[t]? = some (.inr (8, [.ref a, .ref b, .ref c, .int (nI n)])) ∧ M[a]? = some (.inl (1, N, .inr (.inl f))) ∧ M[b]? = some (.inl (1, N, .inr (.inl g))) ∧ M[c]? = some (.inl (1, N, .inr (.inl h))) ∧ n ≤ N ∧ N < 2 ^ 30 ∧ a ≠ b ∧ a ≠ c ∧ b ≠ c ∧ t ≠ a ∧ t ≠ b ∧ t ≠ c
def tfd (f g h : Nat → Int64) (s p o : Int64) : Nat → Nat → Option Nat
  | 0, _ => none
  | r + 1, i => if f i = s ∧ g i = p ∧ h i = o then some i else tfd f g h s p o r (i + 1)
def tfI (q : Option Nat) : Int32 := match q with
  | some i => nI i
  | none => -1
theorem m_Tr_size {l : Launch} {M : List mC} {t a b c N n : Nat} {f g h : Nat → Int64} (P : pTr M t a b c N n f g h) : mm_ l y_Tr_size w_Tr_size (rmh 1) [.ref t] M (fun r M' => r = some (.int (nI n)) ∧ M' = M) := by
  refine mm_intro (by decide) (Nat.le_of_ble_eq_true rfl) i_Tr_size (fun X ok E => ?_)
  exact k_Tr_size_0 ok P.1 rfl E ⟨rfl, rfl⟩ (Nat.le_refl _) (Nat.le_refl _)
theorem m_Tr_find {l : Launch} {M : List mC} {t a b c N n : Nat} {f g h : Nat → Int64} (P : pTr M t a b c N n f g h) (s p o : Int64) : mm_ l y_Tr_find w_Tr_find (rmh 1) [.ref t, .long s, .long p, .long o] M (fun r M' => r = some (.int (tfI (tfd f g h s p o n 0))) ∧ M' = M) := by
  obtain ⟨p0, pa, pb, pc, hn, hN, -⟩ := P
  refine mm_intro (by decide) (Nat.le_of_ble_eq_true rfl) i_Tr_find (fun X ok E => ?_)
  refine k_Tr_find_0 ok E.nL ?_
  have loop : ∀ r i, i + r = n → tfd f g h s p o r i = tfd f g h s p o n 0 → gg X M 0 0 3 [(0, .ref t), (1, .long s), (3, .long p), (5, .long o), (7, .int (nI i))] [] := by
    intro r
    induction r with
    | zero =>
      intro i hi hr
      refine k_Tr_find_3 ok p0 rfl (fun _ => ?_) (fun z => absurd (nI_le (by omega) (by omega)) z)
      exact k_Tr_find_58 ok E ⟨by rw [← hr]; rfl, rfl⟩ (Nat.le_refl _) (Nat.le_refl _)
    | succ r ih =>
      intro i hi hr
      refine k_Tr_find_3 ok p0 rfl (fun z => absurd z (nI_ge (by omega) (by omega))) (fun _ => ?_)
      have hin : vp_in (nI i) N := vp_in_nI (by omega) (by omega)
      have hcl : (nI i).toNatClampNeg = i := nI_clamp (by omega)
      have next : ¬ (f i = s ∧ g i = p ∧ h i = o) → gg X M 0 0 52 [(0, .ref t), (1, .long s), (3, .long p), (5, .long o), (7, .int (nI i))] [] := by
        intro hne
        refine k_Tr_find_52 ok E.nL ?_
        rw [nI_1]
        refine ih (i + 1) (by omega) ?_
        exact (if_neg hne : tfd f g h s p o (r + 1) i = _).symm.trans hr
      refine k_Tr_find_12 ok p0 rfl pa hin (fun z => next (fun q => z (by rw [hcl]; exact q.1))) (fun z1 => ?_)
      refine k_Tr_find_24 ok p0 rfl pb hin (fun z => next (fun q => z (by rw [hcl]; exact q.2.1))) (fun z2 => ?_)
      refine k_Tr_find_36 ok p0 rfl pc hin (fun z => next (fun q => z (by rw [hcl]; exact q.2.2))) (fun z3 => ?_)
      rw [hcl] at z1 z2 z3
      refine k_Tr_find_49 ok E ⟨?_, rfl⟩ (Nat.le_refl _) (Nat.le_refl _)
      have e9 : tfd f g h s p o (r + 1) i = some i := if_pos ⟨z1, z2, z3⟩
      rw [← hr, e9]
      rfl
  exact loop n 0 (by omega) rfl
theorem m_Tr_isFull {l : Launch} {M : List mC} {t a b c N n : Nat} {f g h : Nat → Int64} (P : pTr M t a b c N n f g h) : mm_ l y_Tr_isFull w_Tr_isFull (rmh 1) [.ref t] M (fun r M' => r = some (.int (if N ≤ n then 1 else 0)) ∧ M' = M) := by
  obtain ⟨p0, pa, pb, pc, hn, hN, -⟩ := P
  refine mm_intro (by decide) (Nat.le_of_ble_eq_true rfl) i_Tr_isFull (fun X ok E => ?_)
  refine k_Tr_isFull_0 ok p0 rfl rfl pa (fun z => ?_) (fun z => ?_)
  · have h1 : ¬ N ≤ n := fun q => nI_nlt q (by omega) z
    refine k_Tr_isFull_16 ok ?_
    exact k_Tr_isFull_17 ok E rfl ⟨by rw [if_neg h1], rfl⟩ (Nat.le_refl _) (Nat.le_refl _)
  · have h1 : N ≤ n := by
      rcases Nat.lt_or_ge n N with q | q
      · exact absurd (nI_lt q (by omega)) z
      · exact q
    refine k_Tr_isFull_12 ok ?_
    exact k_Tr_isFull_17 ok E rfl ⟨by rw [if_pos h1], rfl⟩ (Nat.le_refl _) (Nat.le_refl _)
theorem nI_s {n : Nat} (h : 0 < n) : nI n - 1 = nI (n - 1) := by
  obtain ⟨j, rfl⟩ : ∃ j, n = j + 1 := ⟨n - 1, by omega⟩
  exact nI_pred j
/-- behind a change of a Triples object: the rest of the world is as it was -/
def sTr (M M' : List mC) (t a b c : Nat) : Prop := M'.length = M.length ∧ ∀ j, j ≠ t → j ≠ a → j ≠ b → j ≠ c → M'[j]? = M[j]?
theorem m_Tr_put {l : Launch} {M : List mC} {t a b c N n : Nat} {f g h : Nat → Int64} (P : pTr M t a b c N n f g h) (s p o : Int64) (hlt : n < N) : mm_ l y_Tr_put w_Tr_put (rmh 2) [.ref t, .long s, .long p, .long o] M (fun r M' => r = none ∧ pTr M' t a b c N (n + 1) (vp_updL f n s) (vp_updL g n p) (vp_updL h n o) ∧ sTr M M' t a b c) := by
  obtain ⟨p0, pa, pb, pc, hn, hN, n1, n2, n3, n4, n5, n6⟩ := id P
  refine mm_intro (by decide) (Nat.le_of_ble_eq_true rfl) i_Tr_put (fun X ok E => ?_)
  refine k_Tr_put_0 ok p0 (m_Tr_isFull P) (gF_h E.nR (by decide) (by decide)) (fun r M' q => by rw [q.2]) ?_
  rintro r M' ⟨rfl, rfl⟩
  rw [if_neg (by omega)]
  refine k_Tr_put_4 ok (fun _ => ?_) (fun z => absurd rfl z)
  have hin : vp_in (nI n) N := vp_in_nI hlt (by omega)
  have hcl : (nI n).toNatClampNeg = n := nI_clamp (by omega)
  refine k_Tr_put_8 ok p0 rfl rfl pa hin rfl rfl pb (Ne.symm n1) hin rfl rfl pc (Ne.symm n2) n3 hin rfl (Nat.le_refl 4) rfl E ⟨rfl, ?_, ?_⟩ (Nat.le_refl _) (Nat.le_refl _)
  · rw [hcl, nI_1]
    refine ⟨?_, ?_, ?_, ?_, by omega, hN, n1, n2, n3, n4, n5, n6⟩
    · exact gs_eq (by rw [gs_ne (Ne.symm n6), gs_ne (Ne.symm n5), gs_ne (Ne.symm n4)]; exact p0)
    · rw [gs_ne n4, gs_ne (Ne.symm n2), gs_ne (Ne.symm n1)]
      exact gs_eq pa
    · rw [gs_ne n5, gs_ne (Ne.symm n3)]
      exact gs_eq (by rw [gs_ne n1]; exact pb)
    · rw [gs_ne n6]
      exact gs_eq (by rw [gs_ne n3, gs_ne n2]; exact pc)
  · refine ⟨by simp only [List.length_set], fun j j1 j2 j3 j4 => ?_⟩
    rw [gs_ne (Ne.symm j1), gs_ne (Ne.symm j4), gs_ne (Ne.symm j3), gs_ne (Ne.symm j2)]
end
