section
-- ===== PART A: goes FIRST, ahead of the names: the tables' words, and 'selects' of the private methods out of them =====
/-- a private method of a class that the tables say can be made, by its rows of tables_1 -/
def lw_okq (q : MethodName × Nat) : Prop := (q.1.cls ≠ "java/lang/invoke/MethodHandle" ∧ q.1.cls ≠ "java/lang/invoke/VarHandle") ∧ Cond.instantiable q.1.cls q.2 ∈ tables_1 ∧ Cond.privateMethod q.1 ∈ tables_1 ∧ Cond.instanceMethod q.1 ∈ tables_1
theorem lw_p0 : lw_okq (⟨"java/lang/Throwable", "fillInStackTrace", "(I)Ljava/lang/Throwable;"⟩, 6) := ⟨⟨by decide +kernel, by decide +kernel⟩, List.mem_of_getElem? (i := 384) (by decide +kernel), List.mem_of_getElem? (i := 382) (by decide +kernel), List.mem_of_getElem? (i := 383) (by decide +kernel)⟩
theorem lw_p1 : lw_okq (⟨"TripleStore$Store", "noteChange", "(JJJZ)V"⟩, 8) := ⟨⟨by decide +kernel, by decide +kernel⟩, List.mem_of_getElem? (i := 32) (by decide +kernel), List.mem_of_getElem? (i := 462) (by decide +kernel), List.mem_of_getElem? (i := 463) (by decide +kernel)⟩
theorem lw_p2 : lw_okq (⟨"TripleStore$Store", "countCommitted", "()V"⟩, 8) := ⟨⟨by decide +kernel, by decide +kernel⟩, List.mem_of_getElem? (i := 32) (by decide +kernel), List.mem_of_getElem? (i := 466) (by decide +kernel), List.mem_of_getElem? (i := 467) (by decide +kernel)⟩
theorem lw_p3 : lw_okq (⟨"TripleStore$Store", "undoFrom", "(I)V"⟩, 8) := ⟨⟨by decide +kernel, by decide +kernel⟩, List.mem_of_getElem? (i := 32) (by decide +kernel), List.mem_of_getElem? (i := 524) (by decide +kernel), List.mem_of_getElem? (i := 525) (by decide +kernel)⟩
theorem lw_p4 : lw_okq (⟨"TripleStore$Store", "undoLast", "(I)V"⟩, 8) := ⟨⟨by decide +kernel, by decide +kernel⟩, List.mem_of_getElem? (i := 32) (by decide +kernel), List.mem_of_getElem? (i := 528) (by decide +kernel), List.mem_of_getElem? (i := 529) (by decide +kernel)⟩
theorem lw_p5 : lw_okq (⟨"TripleStore$Tokens", "readToken", "([CII)I"⟩, 5) := ⟨⟨by decide +kernel, by decide +kernel⟩, List.mem_of_getElem? (i := 85) (by decide +kernel), List.mem_of_getElem? (i := 585) (by decide +kernel), List.mem_of_getElem? (i := 586) (by decide +kernel)⟩
theorem lw_p6 : lw_okq (⟨"TripleStore$Tokens", "readWord", "([CII)I"⟩, 5) := ⟨⟨by decide +kernel, by decide +kernel⟩, List.mem_of_getElem? (i := 85) (by decide +kernel), List.mem_of_getElem? (i := 590) (by decide +kernel), List.mem_of_getElem? (i := 591) (by decide +kernel)⟩
theorem lw_p7 : lw_okq (⟨"TripleStore$Tokens", "note", "(IJI)V"⟩, 5) := ⟨⟨by decide +kernel, by decide +kernel⟩, List.mem_of_getElem? (i := 85) (by decide +kernel), List.mem_of_getElem? (i := 600) (by decide +kernel), List.mem_of_getElem? (i := 601) (by decide +kernel)⟩
theorem lw_p8 : lw_okq (⟨"TripleStore$Tokens", "readNumber", "([CII)I"⟩, 5) := ⟨⟨by decide +kernel, by decide +kernel⟩, List.mem_of_getElem? (i := 85) (by decide +kernel), List.mem_of_getElem? (i := 621) (by decide +kernel), List.mem_of_getElem? (i := 622) (by decide +kernel)⟩
theorem lw_p9 : lw_okq (⟨"TripleStore$Tokens", "readVariable", "([CII)I"⟩, 5) := ⟨⟨by decide +kernel, by decide +kernel⟩, List.mem_of_getElem? (i := 85) (by decide +kernel), List.mem_of_getElem? (i := 625) (by decide +kernel), List.mem_of_getElem? (i := 626) (by decide +kernel)⟩
theorem lw_p10 : lw_okq (⟨"TripleStore$Parser", "readSelected", "()Z"⟩, 3) := ⟨⟨by decide +kernel, by decide +kernel⟩, List.mem_of_getElem? (i := 211) (by decide +kernel), List.mem_of_getElem? (i := 649) (by decide +kernel), List.mem_of_getElem? (i := 650) (by decide +kernel)⟩
theorem lw_p11 : lw_okq (⟨"TripleStore$Parser", "readVariable", "()Z"⟩, 3) := ⟨⟨by decide +kernel, by decide +kernel⟩, List.mem_of_getElem? (i := 211) (by decide +kernel), List.mem_of_getElem? (i := 658) (by decide +kernel), List.mem_of_getElem? (i := 659) (by decide +kernel)⟩
theorem lw_p12 : lw_okq (⟨"TripleStore$Parser", "readGroup", "(II)Z"⟩, 3) := ⟨⟨by decide +kernel, by decide +kernel⟩, List.mem_of_getElem? (i := 211) (by decide +kernel), List.mem_of_getElem? (i := 672) (by decide +kernel), List.mem_of_getElem? (i := 673) (by decide +kernel)⟩
theorem lw_p13 : lw_okq (⟨"TripleStore$Parser", "readElement", "(II)Z"⟩, 3) := ⟨⟨by decide +kernel, by decide +kernel⟩, List.mem_of_getElem? (i := 211) (by decide +kernel), List.mem_of_getElem? (i := 689) (by decide +kernel), List.mem_of_getElem? (i := 690) (by decide +kernel)⟩
theorem lw_p14 : lw_okq (⟨"TripleStore$Parser", "readNots", "(LTripleStore$Element;)V"⟩, 3) := ⟨⟨by decide +kernel, by decide +kernel⟩, List.mem_of_getElem? (i := 211) (by decide +kernel), List.mem_of_getElem? (i := 698) (by decide +kernel), List.mem_of_getElem? (i := 699) (by decide +kernel)⟩
theorem lw_p15 : lw_okq (⟨"TripleStore$Parser", "readBound", "(LTripleStore$Element;)Z"⟩, 3) := ⟨⟨by decide +kernel, by decide +kernel⟩, List.mem_of_getElem? (i := 211) (by decide +kernel), List.mem_of_getElem? (i := 704) (by decide +kernel), List.mem_of_getElem? (i := 705) (by decide +kernel)⟩
def lw_privs_1 : List (MethodName × Nat) := [(⟨"java/lang/Throwable", "fillInStackTrace", "(I)Ljava/lang/Throwable;"⟩, 6), (⟨"TripleStore$Store", "noteChange", "(JJJZ)V"⟩, 8), (⟨"TripleStore$Store", "countCommitted", "()V"⟩, 8), (⟨"TripleStore$Store", "undoFrom", "(I)V"⟩, 8), (⟨"TripleStore$Store", "undoLast", "(I)V"⟩, 8), (⟨"TripleStore$Tokens", "readToken", "([CII)I"⟩, 5), (⟨"TripleStore$Tokens", "readWord", "([CII)I"⟩, 5), (⟨"TripleStore$Tokens", "note", "(IJI)V"⟩, 5), (⟨"TripleStore$Tokens", "readNumber", "([CII)I"⟩, 5), (⟨"TripleStore$Tokens", "readVariable", "([CII)I"⟩, 5), (⟨"TripleStore$Parser", "readSelected", "()Z"⟩, 3), (⟨"TripleStore$Parser", "readVariable", "()Z"⟩, 3), (⟨"TripleStore$Parser", "readGroup", "(II)Z"⟩, 3), (⟨"TripleStore$Parser", "readElement", "(II)Z"⟩, 3), (⟨"TripleStore$Parser", "readNots", "(LTripleStore$Element;)V"⟩, 3), (⟨"TripleStore$Parser", "readBound", "(LTripleStore$Element;)Z"⟩, 3)]
theorem lw_r1 : ∀ q ∈ lw_privs_1, lw_okq q := List.forall_mem_cons.mpr ⟨lw_p0, List.forall_mem_cons.mpr ⟨lw_p1, List.forall_mem_cons.mpr ⟨lw_p2, List.forall_mem_cons.mpr ⟨lw_p3, List.forall_mem_cons.mpr ⟨lw_p4, List.forall_mem_cons.mpr ⟨lw_p5, List.forall_mem_cons.mpr ⟨lw_p6, List.forall_mem_cons.mpr ⟨lw_p7, List.forall_mem_cons.mpr ⟨lw_p8, List.forall_mem_cons.mpr ⟨lw_p9, List.forall_mem_cons.mpr ⟨lw_p10, List.forall_mem_cons.mpr ⟨lw_p11, List.forall_mem_cons.mpr ⟨lw_p12, List.forall_mem_cons.mpr ⟨lw_p13, List.forall_mem_cons.mpr ⟨lw_p14, List.forall_mem_cons.mpr ⟨lw_p15, fun _ h => absurd h List.not_mem_nil⟩⟩⟩⟩⟩⟩⟩⟩⟩⟩⟩⟩⟩⟩⟩⟩
theorem lw_p16 : lw_okq (⟨"TripleStore$Parser", "readComparison", "(LTripleStore$Element;)Z"⟩, 3) := ⟨⟨by decide +kernel, by decide +kernel⟩, List.mem_of_getElem? (i := 211) (by decide +kernel), List.mem_of_getElem? (i := 708) (by decide +kernel), List.mem_of_getElem? (i := 709) (by decide +kernel)⟩
theorem lw_p17 : lw_okq (⟨"TripleStore$Parser", "readSide", "()Z"⟩, 3) := ⟨⟨by decide +kernel, by decide +kernel⟩, List.mem_of_getElem? (i := 211) (by decide +kernel), List.mem_of_getElem? (i := 712) (by decide +kernel), List.mem_of_getElem? (i := 713) (by decide +kernel)⟩
theorem lw_p18 : lw_okq (⟨"TripleStore$Parser", "isAtComparison", "()Z"⟩, 3) := ⟨⟨by decide +kernel, by decide +kernel⟩, List.mem_of_getElem? (i := 211) (by decide +kernel), List.mem_of_getElem? (i := 716) (by decide +kernel), List.mem_of_getElem? (i := 717) (by decide +kernel)⟩
theorem lw_p19 : lw_okq (⟨"TripleStore$Parser", "readUnion", "(II)Z"⟩, 3) := ⟨⟨by decide +kernel, by decide +kernel⟩, List.mem_of_getElem? (i := 211) (by decide +kernel), List.mem_of_getElem? (i := 722) (by decide +kernel), List.mem_of_getElem? (i := 723) (by decide +kernel)⟩
theorem lw_p20 : lw_okq (⟨"TripleStore$Parser", "readPattern", "(LTripleStore$Element;)Z"⟩, 3) := ⟨⟨by decide +kernel, by decide +kernel⟩, List.mem_of_getElem? (i := 211) (by decide +kernel), List.mem_of_getElem? (i := 727) (by decide +kernel), List.mem_of_getElem? (i := 728) (by decide +kernel)⟩
theorem lw_p21 : lw_okq (⟨"TripleStore$Parser", "readOrder", "()Z"⟩, 3) := ⟨⟨by decide +kernel, by decide +kernel⟩, List.mem_of_getElem? (i := 211) (by decide +kernel), List.mem_of_getElem? (i := 731) (by decide +kernel), List.mem_of_getElem? (i := 732) (by decide +kernel)⟩
theorem lw_p22 : lw_okq (⟨"TripleStore$Parser", "readLimit", "()Z"⟩, 3) := ⟨⟨by decide +kernel, by decide +kernel⟩, List.mem_of_getElem? (i := 211) (by decide +kernel), List.mem_of_getElem? (i := 737) (by decide +kernel), List.mem_of_getElem? (i := 738) (by decide +kernel)⟩
theorem lw_p23 : lw_okq (⟨"TripleStore$Solver", "joinPattern", "(LTripleStore$Element;LTripleStore$Solutions;LTripleStore$Solutions;)Z"⟩, 5) := ⟨⟨by decide +kernel, by decide +kernel⟩, List.mem_of_getElem? (i := 227) (by decide +kernel), List.mem_of_getElem? (i := 774) (by decide +kernel), List.mem_of_getElem? (i := 775) (by decide +kernel)⟩
theorem lw_p24 : lw_okq (⟨"TripleStore$Solver", "fitsTriple", "(LTripleStore$Element;I)Z"⟩, 5) := ⟨⟨by decide +kernel, by decide +kernel⟩, List.mem_of_getElem? (i := 227) (by decide +kernel), List.mem_of_getElem? (i := 787) (by decide +kernel), List.mem_of_getElem? (i := 788) (by decide +kernel)⟩
theorem lw_p25 : lw_okq (⟨"TripleStore$Solver", "fitsTerm", "(JJ)Z"⟩, 5) := ⟨⟨by decide +kernel, by decide +kernel⟩, List.mem_of_getElem? (i := 227) (by decide +kernel), List.mem_of_getElem? (i := 795) (by decide +kernel), List.mem_of_getElem? (i := 796) (by decide +kernel)⟩
theorem lw_p26 : lw_okq (⟨"TripleStore$Solver", "termOf", "(J)J"⟩, 5) := ⟨⟨by decide +kernel, by decide +kernel⟩, List.mem_of_getElem? (i := 227) (by decide +kernel), List.mem_of_getElem? (i := 799) (by decide +kernel), List.mem_of_getElem? (i := 800) (by decide +kernel)⟩
theorem lw_p27 : lw_okq (⟨"TripleStore$Solver", "applyGroups", "(III)Z"⟩, 5) := ⟨⟨by decide +kernel, by decide +kernel⟩, List.mem_of_getElem? (i := 227) (by decide +kernel), List.mem_of_getElem? (i := 812) (by decide +kernel), List.mem_of_getElem? (i := 813) (by decide +kernel)⟩
theorem lw_p28 : lw_okq (⟨"TripleStore$Solver", "applySolved", "(ILTripleStore$Solutions;LTripleStore$Solutions;LTripleStore$Solutions;)Z"⟩, 5) := ⟨⟨by decide +kernel, by decide +kernel⟩, List.mem_of_getElem? (i := 227) (by decide +kernel), List.mem_of_getElem? (i := 817) (by decide +kernel), List.mem_of_getElem? (i := 818) (by decide +kernel)⟩
theorem lw_p29 : lw_okq (⟨"TripleStore$Solver", "hasPartner", "(LTripleStore$Solutions;ILTripleStore$Solutions;Z)Z"⟩, 5) := ⟨⟨by decide +kernel, by decide +kernel⟩, List.mem_of_getElem? (i := 227) (by decide +kernel), List.mem_of_getElem? (i := 821) (by decide +kernel), List.mem_of_getElem? (i := 822) (by decide +kernel)⟩
theorem lw_p30 : lw_okq (⟨"TripleStore$Solver", "joinAll", "(LTripleStore$Solutions;ILTripleStore$Solutions;LTripleStore$Solutions;)Z"⟩, 5) := ⟨⟨by decide +kernel, by decide +kernel⟩, List.mem_of_getElem? (i := 227) (by decide +kernel), List.mem_of_getElem? (i := 837) (by decide +kernel), List.mem_of_getElem? (i := 838) (by decide +kernel)⟩
theorem lw_p31 : lw_okq (⟨"TripleStore$Solver", "turn", "(I)V"⟩, 5) := ⟨⟨by decide +kernel, by decide +kernel⟩, List.mem_of_getElem? (i := 227) (by decide +kernel), List.mem_of_getElem? (i := 841) (by decide +kernel), List.mem_of_getElem? (i := 842) (by decide +kernel)⟩
def lw_privs_2 : List (MethodName × Nat) := [(⟨"TripleStore$Parser", "readComparison", "(LTripleStore$Element;)Z"⟩, 3), (⟨"TripleStore$Parser", "readSide", "()Z"⟩, 3), (⟨"TripleStore$Parser", "isAtComparison", "()Z"⟩, 3), (⟨"TripleStore$Parser", "readUnion", "(II)Z"⟩, 3), (⟨"TripleStore$Parser", "readPattern", "(LTripleStore$Element;)Z"⟩, 3), (⟨"TripleStore$Parser", "readOrder", "()Z"⟩, 3), (⟨"TripleStore$Parser", "readLimit", "()Z"⟩, 3), (⟨"TripleStore$Solver", "joinPattern", "(LTripleStore$Element;LTripleStore$Solutions;LTripleStore$Solutions;)Z"⟩, 5), (⟨"TripleStore$Solver", "fitsTriple", "(LTripleStore$Element;I)Z"⟩, 5), (⟨"TripleStore$Solver", "fitsTerm", "(JJ)Z"⟩, 5), (⟨"TripleStore$Solver", "termOf", "(J)J"⟩, 5), (⟨"TripleStore$Solver", "applyGroups", "(III)Z"⟩, 5), (⟨"TripleStore$Solver", "applySolved", "(ILTripleStore$Solutions;LTripleStore$Solutions;LTripleStore$Solutions;)Z"⟩, 5), (⟨"TripleStore$Solver", "hasPartner", "(LTripleStore$Solutions;ILTripleStore$Solutions;Z)Z"⟩, 5), (⟨"TripleStore$Solver", "joinAll", "(LTripleStore$Solutions;ILTripleStore$Solutions;LTripleStore$Solutions;)Z"⟩, 5), (⟨"TripleStore$Solver", "turn", "(I)V"⟩, 5)]
theorem lw_r2 : ∀ q ∈ lw_privs_2, lw_okq q := List.forall_mem_cons.mpr ⟨lw_p16, List.forall_mem_cons.mpr ⟨lw_p17, List.forall_mem_cons.mpr ⟨lw_p18, List.forall_mem_cons.mpr ⟨lw_p19, List.forall_mem_cons.mpr ⟨lw_p20, List.forall_mem_cons.mpr ⟨lw_p21, List.forall_mem_cons.mpr ⟨lw_p22, List.forall_mem_cons.mpr ⟨lw_p23, List.forall_mem_cons.mpr ⟨lw_p24, List.forall_mem_cons.mpr ⟨lw_p25, List.forall_mem_cons.mpr ⟨lw_p26, List.forall_mem_cons.mpr ⟨lw_p27, List.forall_mem_cons.mpr ⟨lw_p28, List.forall_mem_cons.mpr ⟨lw_p29, List.forall_mem_cons.mpr ⟨lw_p30, List.forall_mem_cons.mpr ⟨lw_p31, fun _ h => absurd h List.not_mem_nil⟩⟩⟩⟩⟩⟩⟩⟩⟩⟩⟩⟩⟩⟩⟩⟩
theorem lw_p32 : lw_okq (⟨"TripleStore$Solver", "keepPassing", "(ILTripleStore$Solutions;LTripleStore$Solutions;)V"⟩, 5) := ⟨⟨by decide +kernel, by decide +kernel⟩, List.mem_of_getElem? (i := 227) (by decide +kernel), List.mem_of_getElem? (i := 845) (by decide +kernel), List.mem_of_getElem? (i := 846) (by decide +kernel)⟩
theorem lw_p33 : lw_okq (⟨"TripleStore$Solver", "passesTests", "(I)Z"⟩, 5) := ⟨⟨by decide +kernel, by decide +kernel⟩, List.mem_of_getElem? (i := 227) (by decide +kernel), List.mem_of_getElem? (i := 849) (by decide +kernel), List.mem_of_getElem? (i := 850) (by decide +kernel)⟩
theorem lw_p34 : lw_okq (⟨"TripleStore$Solver", "holds", "(LTripleStore$Element;)Z"⟩, 5) := ⟨⟨by decide +kernel, by decide +kernel⟩, List.mem_of_getElem? (i := 227) (by decide +kernel), List.mem_of_getElem? (i := 853) (by decide +kernel), List.mem_of_getElem? (i := 854) (by decide +kernel)⟩
theorem lw_p35 : lw_okq (⟨"TripleStore$Rows", "sort", "(LTripleStore$Query;LTripleStore$Solutions;)V"⟩, 4) := ⟨⟨by decide +kernel, by decide +kernel⟩, List.mem_of_getElem? (i := 263) (by decide +kernel), List.mem_of_getElem? (i := 866) (by decide +kernel), List.mem_of_getElem? (i := 867) (by decide +kernel)⟩
theorem lw_p36 : lw_okq (⟨"TripleStore$Rows", "standsBefore", "(LTripleStore$Query;LTripleStore$Solutions;II)Z"⟩, 4) := ⟨⟨by decide +kernel, by decide +kernel⟩, List.mem_of_getElem? (i := 263) (by decide +kernel), List.mem_of_getElem? (i := 871) (by decide +kernel), List.mem_of_getElem? (i := 872) (by decide +kernel)⟩
theorem lw_p37 : lw_okq (⟨"TripleStore$Rows", "takeRow", "(LTripleStore$Query;LTripleStore$Solutions;I)V"⟩, 4) := ⟨⟨by decide +kernel, by decide +kernel⟩, List.mem_of_getElem? (i := 263) (by decide +kernel), List.mem_of_getElem? (i := 876) (by decide +kernel), List.mem_of_getElem? (i := 877) (by decide +kernel)⟩
theorem lw_p38 : lw_okq (⟨"TripleStore$Rows", "isLastKnown", "()Z"⟩, 4) := ⟨⟨by decide +kernel, by decide +kernel⟩, List.mem_of_getElem? (i := 263) (by decide +kernel), List.mem_of_getElem? (i := 880) (by decide +kernel), List.mem_of_getElem? (i := 881) (by decide +kernel)⟩
theorem lw_p39 : lw_okq (⟨"TripleStore$Rows", "isSameRow", "(II)Z"⟩, 4) := ⟨⟨by decide +kernel, by decide +kernel⟩, List.mem_of_getElem? (i := 263) (by decide +kernel), List.mem_of_getElem? (i := 884) (by decide +kernel), List.mem_of_getElem? (i := 885) (by decide +kernel)⟩
theorem lw_p40 : lw_okq (⟨"TripleStoreModel", "isTriple", "(JJJ)Z"⟩, 59) := ⟨⟨by decide +kernel, by decide +kernel⟩, List.mem_of_getElem? (i := 970) (by decide +kernel), List.mem_of_getElem? (i := 1162) (by decide +kernel), List.mem_of_getElem? (i := 1163) (by decide +kernel)⟩
theorem lw_p41 : lw_okq (⟨"TripleStoreModel", "good", "(ZI)Z"⟩, 59) := ⟨⟨by decide +kernel, by decide +kernel⟩, List.mem_of_getElem? (i := 970) (by decide +kernel), List.mem_of_getElem? (i := 1177) (by decide +kernel), List.mem_of_getElem? (i := 1178) (by decide +kernel)⟩
theorem lw_p42 : lw_okq (⟨"TripleStoreModel", "does", "(ZJJJ)I"⟩, 59) := ⟨⟨by decide +kernel, by decide +kernel⟩, List.mem_of_getElem? (i := 970) (by decide +kernel), List.mem_of_getElem? (i := 1181) (by decide +kernel), List.mem_of_getElem? (i := 1182) (by decide +kernel)⟩
theorem lw_p43 : lw_okq (⟨"TripleStoreModel", "find", "(JJJ)I"⟩, 59) := ⟨⟨by decide +kernel, by decide +kernel⟩, List.mem_of_getElem? (i := 970) (by decide +kernel), List.mem_of_getElem? (i := 1185) (by decide +kernel), List.mem_of_getElem? (i := 1186) (by decide +kernel)⟩
theorem lw_p44 : lw_okq (⟨"TripleStoreModel", "apply", "(ZJJJ)V"⟩, 59) := ⟨⟨by decide +kernel, by decide +kernel⟩, List.mem_of_getElem? (i := 970) (by decide +kernel), List.mem_of_getElem? (i := 1189) (by decide +kernel), List.mem_of_getElem? (i := 1190) (by decide +kernel)⟩
theorem lw_p45 : lw_okq (⟨"TripleStoreModel", "close", "()V"⟩, 59) := ⟨⟨by decide +kernel, by decide +kernel⟩, List.mem_of_getElem? (i := 970) (by decide +kernel), List.mem_of_getElem? (i := 1193) (by decide +kernel), List.mem_of_getElem? (i := 1194) (by decide +kernel)⟩
theorem lw_p46 : lw_okq (⟨"TripleStoreModel", "undo", "(I)V"⟩, 59) := ⟨⟨by decide +kernel, by decide +kernel⟩, List.mem_of_getElem? (i := 970) (by decide +kernel), List.mem_of_getElem? (i := 1213) (by decide +kernel), List.mem_of_getElem? (i := 1214) (by decide +kernel)⟩
theorem lw_p47 : lw_okq (⟨"TripleStoreModel", "settle", "()V"⟩, 59) := ⟨⟨by decide +kernel, by decide +kernel⟩, List.mem_of_getElem? (i := 970) (by decide +kernel), List.mem_of_getElem? (i := 1221) (by decide +kernel), List.mem_of_getElem? (i := 1222) (by decide +kernel)⟩
def lw_privs_3 : List (MethodName × Nat) := [(⟨"TripleStore$Solver", "keepPassing", "(ILTripleStore$Solutions;LTripleStore$Solutions;)V"⟩, 5), (⟨"TripleStore$Solver", "passesTests", "(I)Z"⟩, 5), (⟨"TripleStore$Solver", "holds", "(LTripleStore$Element;)Z"⟩, 5), (⟨"TripleStore$Rows", "sort", "(LTripleStore$Query;LTripleStore$Solutions;)V"⟩, 4), (⟨"TripleStore$Rows", "standsBefore", "(LTripleStore$Query;LTripleStore$Solutions;II)Z"⟩, 4), (⟨"TripleStore$Rows", "takeRow", "(LTripleStore$Query;LTripleStore$Solutions;I)V"⟩, 4), (⟨"TripleStore$Rows", "isLastKnown", "()Z"⟩, 4), (⟨"TripleStore$Rows", "isSameRow", "(II)Z"⟩, 4), (⟨"TripleStoreModel", "isTriple", "(JJJ)Z"⟩, 59), (⟨"TripleStoreModel", "good", "(ZI)Z"⟩, 59), (⟨"TripleStoreModel", "does", "(ZJJJ)I"⟩, 59), (⟨"TripleStoreModel", "find", "(JJJ)I"⟩, 59), (⟨"TripleStoreModel", "apply", "(ZJJJ)V"⟩, 59), (⟨"TripleStoreModel", "close", "()V"⟩, 59), (⟨"TripleStoreModel", "undo", "(I)V"⟩, 59), (⟨"TripleStoreModel", "settle", "()V"⟩, 59)]
theorem lw_r3 : ∀ q ∈ lw_privs_3, lw_okq q := List.forall_mem_cons.mpr ⟨lw_p32, List.forall_mem_cons.mpr ⟨lw_p33, List.forall_mem_cons.mpr ⟨lw_p34, List.forall_mem_cons.mpr ⟨lw_p35, List.forall_mem_cons.mpr ⟨lw_p36, List.forall_mem_cons.mpr ⟨lw_p37, List.forall_mem_cons.mpr ⟨lw_p38, List.forall_mem_cons.mpr ⟨lw_p39, List.forall_mem_cons.mpr ⟨lw_p40, List.forall_mem_cons.mpr ⟨lw_p41, List.forall_mem_cons.mpr ⟨lw_p42, List.forall_mem_cons.mpr ⟨lw_p43, List.forall_mem_cons.mpr ⟨lw_p44, List.forall_mem_cons.mpr ⟨lw_p45, List.forall_mem_cons.mpr ⟨lw_p46, List.forall_mem_cons.mpr ⟨lw_p47, fun _ h => absurd h List.not_mem_nil⟩⟩⟩⟩⟩⟩⟩⟩⟩⟩⟩⟩⟩⟩⟩⟩
theorem lw_p48 : lw_okq (⟨"TripleStoreModel", "next", "()V"⟩, 59) := ⟨⟨by decide +kernel, by decide +kernel⟩, List.mem_of_getElem? (i := 970) (by decide +kernel), List.mem_of_getElem? (i := 1237) (by decide +kernel), List.mem_of_getElem? (i := 1238) (by decide +kernel)⟩
theorem lw_p49 : lw_okq (⟨"TripleStoreModel", "letters", "(I)I"⟩, 59) := ⟨⟨by decide +kernel, by decide +kernel⟩, List.mem_of_getElem? (i := 970) (by decide +kernel), List.mem_of_getElem? (i := 1244) (by decide +kernel), List.mem_of_getElem? (i := 1245) (by decide +kernel)⟩
theorem lw_p50 : lw_okq (⟨"TripleStoreModel", "readQuery", "()V"⟩, 59) := ⟨⟨by decide +kernel, by decide +kernel⟩, List.mem_of_getElem? (i := 970) (by decide +kernel), List.mem_of_getElem? (i := 1253) (by decide +kernel), List.mem_of_getElem? (i := 1254) (by decide +kernel)⟩
theorem lw_p51 : lw_okq (⟨"TripleStoreModel", "isKey", "(I)Z"⟩, 59) := ⟨⟨by decide +kernel, by decide +kernel⟩, List.mem_of_getElem? (i := 970) (by decide +kernel), List.mem_of_getElem? (i := 1257) (by decide +kernel), List.mem_of_getElem? (i := 1258) (by decide +kernel)⟩
theorem lw_p52 : lw_okq (⟨"TripleStoreModel", "goOn", "(Z)Z"⟩, 59) := ⟨⟨by decide +kernel, by decide +kernel⟩, List.mem_of_getElem? (i := 970) (by decide +kernel), List.mem_of_getElem? (i := 1272) (by decide +kernel), List.mem_of_getElem? (i := 1273) (by decide +kernel)⟩
theorem lw_p53 : lw_okq (⟨"TripleStoreModel", "stop", "()V"⟩, 59) := ⟨⟨by decide +kernel, by decide +kernel⟩, List.mem_of_getElem? (i := 970) (by decide +kernel), List.mem_of_getElem? (i := 1276) (by decide +kernel), List.mem_of_getElem? (i := 1277) (by decide +kernel)⟩
theorem lw_p54 : lw_okq (⟨"TripleStoreModel", "readVariable", "()I"⟩, 59) := ⟨⟨by decide +kernel, by decide +kernel⟩, List.mem_of_getElem? (i := 970) (by decide +kernel), List.mem_of_getElem? (i := 1280) (by decide +kernel), List.mem_of_getElem? (i := 1281) (by decide +kernel)⟩
theorem lw_p55 : lw_okq (⟨"TripleStoreModel", "readGroups", "()V"⟩, 59) := ⟨⟨by decide +kernel, by decide +kernel⟩, List.mem_of_getElem? (i := 970) (by decide +kernel), List.mem_of_getElem? (i := 1284) (by decide +kernel), List.mem_of_getElem? (i := 1285) (by decide +kernel)⟩
theorem lw_p56 : lw_okq (⟨"TripleStoreModel", "readStart", "(I)V"⟩, 59) := ⟨⟨by decide +kernel, by decide +kernel⟩, List.mem_of_getElem? (i := 970) (by decide +kernel), List.mem_of_getElem? (i := 1288) (by decide +kernel), List.mem_of_getElem? (i := 1289) (by decide +kernel)⟩
theorem lw_p57 : lw_okq (⟨"TripleStoreModel", "isSign", "(I)Z"⟩, 59) := ⟨⟨by decide +kernel, by decide +kernel⟩, List.mem_of_getElem? (i := 970) (by decide +kernel), List.mem_of_getElem? (i := 1292) (by decide +kernel), List.mem_of_getElem? (i := 1293) (by decide +kernel)⟩
theorem lw_p58 : lw_okq (⟨"TripleStoreModel", "emit", "(II)V"⟩, 59) := ⟨⟨by decide +kernel, by decide +kernel⟩, List.mem_of_getElem? (i := 970) (by decide +kernel), List.mem_of_getElem? (i := 1296) (by decide +kernel), List.mem_of_getElem? (i := 1297) (by decide +kernel)⟩
theorem lw_p59 : lw_okq (⟨"TripleStoreModel", "readElement", "()V"⟩, 59) := ⟨⟨by decide +kernel, by decide +kernel⟩, List.mem_of_getElem? (i := 970) (by decide +kernel), List.mem_of_getElem? (i := 1300) (by decide +kernel), List.mem_of_getElem? (i := 1301) (by decide +kernel)⟩
theorem lw_p60 : lw_okq (⟨"TripleStoreModel", "isTerm", "()Z"⟩, 59) := ⟨⟨by decide +kernel, by decide +kernel⟩, List.mem_of_getElem? (i := 970) (by decide +kernel), List.mem_of_getElem? (i := 1304) (by decide +kernel), List.mem_of_getElem? (i := 1305) (by decide +kernel)⟩
theorem lw_p61 : lw_okq (⟨"TripleStoreModel", "readTest", "()V"⟩, 59) := ⟨⟨by decide +kernel, by decide +kernel⟩, List.mem_of_getElem? (i := 970) (by decide +kernel), List.mem_of_getElem? (i := 1308) (by decide +kernel), List.mem_of_getElem? (i := 1309) (by decide +kernel)⟩
theorem lw_p62 : lw_okq (⟨"TripleStoreModel", "readSide", "(I)V"⟩, 59) := ⟨⟨by decide +kernel, by decide +kernel⟩, List.mem_of_getElem? (i := 970) (by decide +kernel), List.mem_of_getElem? (i := 1312) (by decide +kernel), List.mem_of_getElem? (i := 1313) (by decide +kernel)⟩
theorem lw_p63 : lw_okq (⟨"TripleStoreModel", "readOn", "()V"⟩, 59) := ⟨⟨by decide +kernel, by decide +kernel⟩, List.mem_of_getElem? (i := 970) (by decide +kernel), List.mem_of_getElem? (i := 1316) (by decide +kernel), List.mem_of_getElem? (i := 1317) (by decide +kernel)⟩
def lw_privs_4 : List (MethodName × Nat) := [(⟨"TripleStoreModel", "next", "()V"⟩, 59), (⟨"TripleStoreModel", "letters", "(I)I"⟩, 59), (⟨"TripleStoreModel", "readQuery", "()V"⟩, 59), (⟨"TripleStoreModel", "isKey", "(I)Z"⟩, 59), (⟨"TripleStoreModel", "goOn", "(Z)Z"⟩, 59), (⟨"TripleStoreModel", "stop", "()V"⟩, 59), (⟨"TripleStoreModel", "readVariable", "()I"⟩, 59), (⟨"TripleStoreModel", "readGroups", "()V"⟩, 59), (⟨"TripleStoreModel", "readStart", "(I)V"⟩, 59), (⟨"TripleStoreModel", "isSign", "(I)Z"⟩, 59), (⟨"TripleStoreModel", "emit", "(II)V"⟩, 59), (⟨"TripleStoreModel", "readElement", "()V"⟩, 59), (⟨"TripleStoreModel", "isTerm", "()Z"⟩, 59), (⟨"TripleStoreModel", "readTest", "()V"⟩, 59), (⟨"TripleStoreModel", "readSide", "(I)V"⟩, 59), (⟨"TripleStoreModel", "readOn", "()V"⟩, 59)]
theorem lw_r4 : ∀ q ∈ lw_privs_4, lw_okq q := List.forall_mem_cons.mpr ⟨lw_p48, List.forall_mem_cons.mpr ⟨lw_p49, List.forall_mem_cons.mpr ⟨lw_p50, List.forall_mem_cons.mpr ⟨lw_p51, List.forall_mem_cons.mpr ⟨lw_p52, List.forall_mem_cons.mpr ⟨lw_p53, List.forall_mem_cons.mpr ⟨lw_p54, List.forall_mem_cons.mpr ⟨lw_p55, List.forall_mem_cons.mpr ⟨lw_p56, List.forall_mem_cons.mpr ⟨lw_p57, List.forall_mem_cons.mpr ⟨lw_p58, List.forall_mem_cons.mpr ⟨lw_p59, List.forall_mem_cons.mpr ⟨lw_p60, List.forall_mem_cons.mpr ⟨lw_p61, List.forall_mem_cons.mpr ⟨lw_p62, List.forall_mem_cons.mpr ⟨lw_p63, fun _ h => absurd h List.not_mem_nil⟩⟩⟩⟩⟩⟩⟩⟩⟩⟩⟩⟩⟩⟩⟩⟩
theorem lw_p64 : lw_okq (⟨"TripleStoreModel", "readClose", "()V"⟩, 59) := ⟨⟨by decide +kernel, by decide +kernel⟩, List.mem_of_getElem? (i := 970) (by decide +kernel), List.mem_of_getElem? (i := 1320) (by decide +kernel), List.mem_of_getElem? (i := 1321) (by decide +kernel)⟩
theorem lw_p65 : lw_okq (⟨"TripleStoreModel", "work", "(II)V"⟩, 59) := ⟨⟨by decide +kernel, by decide +kernel⟩, List.mem_of_getElem? (i := 970) (by decide +kernel), List.mem_of_getElem? (i := 1324) (by decide +kernel), List.mem_of_getElem? (i := 1325) (by decide +kernel)⟩
theorem lw_p66 : lw_okq (⟨"TripleStoreModel", "match", "(I)V"⟩, 59) := ⟨⟨by decide +kernel, by decide +kernel⟩, List.mem_of_getElem? (i := 970) (by decide +kernel), List.mem_of_getElem? (i := 1328) (by decide +kernel), List.mem_of_getElem? (i := 1329) (by decide +kernel)⟩
theorem lw_p67 : lw_okq (⟨"TripleStoreModel", "combine", "(I)V"⟩, 59) := ⟨⟨by decide +kernel, by decide +kernel⟩, List.mem_of_getElem? (i := 970) (by decide +kernel), List.mem_of_getElem? (i := 1332) (by decide +kernel), List.mem_of_getElem? (i := 1333) (by decide +kernel)⟩
theorem lw_p68 : lw_okq (⟨"TripleStoreModel", "compatible", "(II)Z"⟩, 59) := ⟨⟨by decide +kernel, by decide +kernel⟩, List.mem_of_getElem? (i := 970) (by decide +kernel), List.mem_of_getElem? (i := 1336) (by decide +kernel), List.mem_of_getElem? (i := 1337) (by decide +kernel)⟩
theorem lw_p69 : lw_okq (⟨"TripleStoreModel", "join", "(IIII)V"⟩, 59) := ⟨⟨by decide +kernel, by decide +kernel⟩, List.mem_of_getElem? (i := 970) (by decide +kernel), List.mem_of_getElem? (i := 1340) (by decide +kernel), List.mem_of_getElem? (i := 1341) (by decide +kernel)⟩
theorem lw_p70 : lw_okq (⟨"TripleStoreModel", "addTo", "(III)V"⟩, 59) := ⟨⟨by decide +kernel, by decide +kernel⟩, List.mem_of_getElem? (i := 970) (by decide +kernel), List.mem_of_getElem? (i := 1344) (by decide +kernel), List.mem_of_getElem? (i := 1345) (by decide +kernel)⟩
theorem lw_p71 : lw_okq (⟨"TripleStoreModel", "copy", "(II)V"⟩, 59) := ⟨⟨by decide +kernel, by decide +kernel⟩, List.mem_of_getElem? (i := 970) (by decide +kernel), List.mem_of_getElem? (i := 1348) (by decide +kernel), List.mem_of_getElem? (i := 1349) (by decide +kernel)⟩
theorem lw_p72 : lw_okq (⟨"TripleStoreModel", "filter", "(I)V"⟩, 59) := ⟨⟨by decide +kernel, by decide +kernel⟩, List.mem_of_getElem? (i := 970) (by decide +kernel), List.mem_of_getElem? (i := 1352) (by decide +kernel), List.mem_of_getElem? (i := 1353) (by decide +kernel)⟩
theorem lw_p73 : lw_okq (⟨"TripleStoreModel", "holds", "(II)Z"⟩, 59) := ⟨⟨by decide +kernel, by decide +kernel⟩, List.mem_of_getElem? (i := 970) (by decide +kernel), List.mem_of_getElem? (i := 1356) (by decide +kernel), List.mem_of_getElem? (i := 1357) (by decide +kernel)⟩
theorem lw_p74 : lw_okq (⟨"TripleStoreModel", "makeRows", "()V"⟩, 59) := ⟨⟨by decide +kernel, by decide +kernel⟩, List.mem_of_getElem? (i := 970) (by decide +kernel), List.mem_of_getElem? (i := 1363) (by decide +kernel), List.mem_of_getElem? (i := 1364) (by decide +kernel)⟩
theorem lw_p75 : lw_okq (⟨"TripleStoreModel", "before", "(II)Z"⟩, 59) := ⟨⟨by decide +kernel, by decide +kernel⟩, List.mem_of_getElem? (i := 970) (by decide +kernel), List.mem_of_getElem? (i := 1367) (by decide +kernel), List.mem_of_getElem? (i := 1368) (by decide +kernel)⟩
theorem lw_p76 : lw_okq (⟨"TripleStoreModel", "by", "(III)I"⟩, 59) := ⟨⟨by decide +kernel, by decide +kernel⟩, List.mem_of_getElem? (i := 970) (by decide +kernel), List.mem_of_getElem? (i := 1371) (by decide +kernel), List.mem_of_getElem? (i := 1372) (by decide +kernel)⟩
theorem lw_p77 : lw_okq (⟨"TripleStoreModel", "byTerms", "(II)I"⟩, 59) := ⟨⟨by decide +kernel, by decide +kernel⟩, List.mem_of_getElem? (i := 970) (by decide +kernel), List.mem_of_getElem? (i := 1375) (by decide +kernel), List.mem_of_getElem? (i := 1376) (by decide +kernel)⟩
def lw_privs_5 : List (MethodName × Nat) := [(⟨"TripleStoreModel", "readClose", "()V"⟩, 59), (⟨"TripleStoreModel", "work", "(II)V"⟩, 59), (⟨"TripleStoreModel", "match", "(I)V"⟩, 59), (⟨"TripleStoreModel", "combine", "(I)V"⟩, 59), (⟨"TripleStoreModel", "compatible", "(II)Z"⟩, 59), (⟨"TripleStoreModel", "join", "(IIII)V"⟩, 59), (⟨"TripleStoreModel", "addTo", "(III)V"⟩, 59), (⟨"TripleStoreModel", "copy", "(II)V"⟩, 59), (⟨"TripleStoreModel", "filter", "(I)V"⟩, 59), (⟨"TripleStoreModel", "holds", "(II)Z"⟩, 59), (⟨"TripleStoreModel", "makeRows", "()V"⟩, 59), (⟨"TripleStoreModel", "before", "(II)Z"⟩, 59), (⟨"TripleStoreModel", "by", "(III)I"⟩, 59), (⟨"TripleStoreModel", "byTerms", "(II)I"⟩, 59)]
theorem lw_r5 : ∀ q ∈ lw_privs_5, lw_okq q := List.forall_mem_cons.mpr ⟨lw_p64, List.forall_mem_cons.mpr ⟨lw_p65, List.forall_mem_cons.mpr ⟨lw_p66, List.forall_mem_cons.mpr ⟨lw_p67, List.forall_mem_cons.mpr ⟨lw_p68, List.forall_mem_cons.mpr ⟨lw_p69, List.forall_mem_cons.mpr ⟨lw_p70, List.forall_mem_cons.mpr ⟨lw_p71, List.forall_mem_cons.mpr ⟨lw_p72, List.forall_mem_cons.mpr ⟨lw_p73, List.forall_mem_cons.mpr ⟨lw_p74, List.forall_mem_cons.mpr ⟨lw_p75, List.forall_mem_cons.mpr ⟨lw_p76, List.forall_mem_cons.mpr ⟨lw_p77, fun _ h => absurd h List.not_mem_nil⟩⟩⟩⟩⟩⟩⟩⟩⟩⟩⟩⟩⟩⟩
def lw_privs : List (MethodName × Nat) := lw_privs_1 ++ (lw_privs_2 ++ (lw_privs_3 ++ (lw_privs_4 ++ (lw_privs_5))))
def lw_tbl : List Cond := k2_sels lw_privs ++ tables_1
theorem lw_privs_ok : ∀ q ∈ lw_privs, lw_okq q := by
  show ∀ q ∈ lw_privs_1 ++ (lw_privs_2 ++ (lw_privs_3 ++ (lw_privs_4 ++ (lw_privs_5)))), lw_okq q
  exact List.forall_mem_append.mpr ⟨lw_r1, List.forall_mem_append.mpr ⟨lw_r2, List.forall_mem_append.mpr ⟨lw_r3, List.forall_mem_append.mpr ⟨lw_r4, lw_r5⟩⟩⟩⟩
-- ===== end of PART A =====
end
section
/-- the words that every method of ours stands on -/
def gT : List Cond := lw_tbl.filter goodWord
theorem gT_at (i : Nat) {w : Cond} (h : tables_1[i]? = some w) (hg : goodWord w = true) : w ∈ gT := List.mem_filter.mpr ⟨List.mem_append_right _ (List.mem_of_getElem? h), hg⟩
theorem gT_sub {ws : List Cond} (is : List Nat) (h : is.map (fun i => tables_1[i]?) = ws.map some) (hg : ws.all goodWord = true) : ∀ w ∈ ws, w ∈ gT := by
  intro w hw
  have h1 : some w ∈ ws.map some := List.mem_map.mpr ⟨w, hw, rfl⟩
  rw [← h] at h1
  obtain ⟨i, -, hi⟩ := List.mem_map.mp h1
  exact gT_at i hi (List.all_eq_true.mp hg w hw)
/-- the places of the words that are no steady ones: nests, casts, texts, handlers, statics -/
def yI : List Nat := [33, 86, 116, 121, 122, 124, 125, 127, 128, 130, 131, 133, 134, 136, 137, 139, 140, 159, 160, 162, 163, 165, 166, 168, 169, 171, 172, 174, 175, 177, 178, 180, 182, 184, 235, 264, 323, 346, 371, 373, 386, 434, 441, 471, 486, 495, 502, 507, 514, 545, 550, 560, 571, 572, 575, 749, 856, 893, 906, 913, 927, 934, 947, 968]
def yT : List Cond := yI.filterMap (fun i => tables_1[i]?) ++ [.isRef (.static "java/lang/Throwable" "UNASSIGNED_STACK" "[Ljava/lang/StackTraceElement;"), .isRef (.static "java/lang/Throwable" "SUPPRESSED_SENTINEL" "Ljava/util/List;")]
theorem yT_at (i : Nat) {w : Cond} (hi : yI.contains i = true) (h : tables_1[i]? = some w) : w ∈ yT := List.mem_append_left _ (List.mem_filterMap.mpr ⟨i, List.contains_iff_mem.mp hi, h⟩)
def REl : String := "TripleStore$Element"
def TEl : u_T := fun k => match k with
  | 0 => ("TripleStore$Element", "kind", "I", false)
  | 1 => ("TripleStore$Element", "home", "I", false)
  | 2 => ("TripleStore$Element", "first", "J", false)
  | 3 => ("TripleStore$Element", "second", "J", false)
  | 4 => ("TripleStore$Element", "third", "J", false)
  | 5 => ("TripleStore$Element", "sign", "I", false)
  | _ => ("TripleStore$Element", "negated", "Z", false)
def tyEl : Nat → FieldType := fun k => match k with
  | 0 => .int
  | 1 => .int
  | 2 => .long
  | 3 => .long
  | 4 => .long
  | 5 => .int
  | _ => .boolean
theorem nmEl : ∀ a, a < 7 → ∀ b, b < 7 → a ≠ b → (TEl a).2.1 ≠ (TEl b).2.1 := by decide +kernel
theorem okEl : ∀ k, k < 7 → parseFieldDescriptor (TEl k).2.2.1 = some (tyEl k) := by decide +kernel
theorem inEl : ∀ w ∈ u_ws REl TEl 7, w ∈ gT := gT_sub [141, 143, 145, 147, 149, 151, 153] (by decide +kernel) (by decide +kernel)
def RPa : String := "TripleStore$Parser"
def TPa : u_T := fun k => match k with
  | 0 => ("TripleStore$Parser", "tokens", "LTripleStore$Tokens;", true)
  | 1 => ("TripleStore$Parser", "query", "LTripleStore$Query;", true)
  | _ => ("TripleStore$Parser", "side", "J", false)
def tyPa : Nat → FieldType := fun k => match k with
  | 0 => .object "TripleStore$Tokens"
  | 1 => .object "TripleStore$Query"
  | _ => .long
theorem nmPa : ∀ a, a < 3 → ∀ b, b < 3 → a ≠ b → (TPa a).2.1 ≠ (TPa b).2.1 := by decide +kernel
theorem okPa : ∀ k, k < 3 → parseFieldDescriptor (TPa k).2.2.1 = some (tyPa k) := by decide +kernel
theorem inPa : ∀ w ∈ u_ws RPa TPa 3, w ∈ gT := gT_sub [219, 221, 223] (by decide +kernel) (by decide +kernel)
def RQu : String := "TripleStore$Query"
def TQu : u_T := fun k => match k with
  | 0 => ("TripleStore$Query", "names", "[J", true)
  | 1 => ("TripleStore$Query", "variables", "I", false)
  | 2 => ("TripleStore$Query", "selected", "[I", true)
  | 3 => ("TripleStore$Query", "columns", "I", false)
  | 4 => ("TripleStore$Query", "distinct", "Z", false)
  | 5 => ("TripleStore$Query", "orderVariable", "I", false)
  | 6 => ("TripleStore$Query", "falling", "Z", false)
  | 7 => ("TripleStore$Query", "limit", "I", false)
  | 8 => ("TripleStore$Query", "elements", "[LTripleStore$Element;", true)
  | 9 => ("TripleStore$Query", "elementCount", "I", false)
  | 10 => ("TripleStore$Query", "elementOfGroup", "[I", true)
  | _ => ("TripleStore$Query", "groups", "I", false)
def tyQu : Nat → FieldType := fun k => match k with
  | 0 => .array .long
  | 1 => .int
  | 2 => .array .int
  | 3 => .int
  | 4 => .boolean
  | 5 => .int
  | 6 => .boolean
  | 7 => .int
  | 8 => .array (.object "TripleStore$Element")
  | 9 => .int
  | 10 => .array .int
  | _ => .int
theorem nmQu : ∀ a, a < 12 → ∀ b, b < 12 → a ≠ b → (TQu a).2.1 ≠ (TQu b).2.1 := by decide +kernel
theorem okQu : ∀ k, k < 12 → parseFieldDescriptor (TQu k).2.2.1 = some (tyQu k) := by decide +kernel
theorem inQu : ∀ w ∈ u_ws RQu TQu 12, w ∈ gT := gT_sub [185, 187, 189, 191, 193, 195, 197, 199, 201, 203, 205, 207] (by decide +kernel) (by decide +kernel)
def RRo : String := "TripleStore$Rows"
def TRo : u_T := fun k => match k with
  | 0 => ("TripleStore$Rows", "terms", "[J", true)
  | 1 => ("TripleStore$Rows", "order", "[I", true)
  | 2 => ("TripleStore$Rows", "columns", "I", false)
  | _ => ("TripleStore$Rows", "size", "I", false)
def tyRo : Nat → FieldType := fun k => match k with
  | 0 => .array .long
  | 1 => .array .int
  | 2 => .int
  | _ => .int
theorem nmRo : ∀ a, a < 4 → ∀ b, b < 4 → a ≠ b → (TRo a).2.1 ≠ (TRo b).2.1 := by decide +kernel
theorem okRo : ∀ k, k < 4 → parseFieldDescriptor (TRo k).2.2.1 = some (tyRo k) := by decide +kernel
theorem inRo : ∀ w ∈ u_ws RRo TRo 4, w ∈ gT := gT_sub [272, 274, 276, 278] (by decide +kernel) (by decide +kernel)
def RSo : String := "TripleStore$Solutions"
def TSo : u_T := fun k => match k with
  | 0 => ("TripleStore$Solutions", "terms", "[J", true)
  | _ => ("TripleStore$Solutions", "size", "I", false)
def tySo : Nat → FieldType := fun k => match k with
  | 0 => .array .long
  | _ => .int
theorem nmSo : ∀ a, a < 2 → ∀ b, b < 2 → a ≠ b → (TSo a).2.1 ≠ (TSo b).2.1 := by decide +kernel
theorem okSo : ∀ k, k < 2 → parseFieldDescriptor (TSo k).2.2.1 = some (tySo k) := by decide +kernel
theorem inSo : ∀ w ∈ u_ws RSo TSo 2, w ∈ gT := gT_sub [241, 243] (by decide +kernel) (by decide +kernel)
def RSv : String := "TripleStore$Solver"
def TSv : u_T := fun k => match k with
  | 0 => ("TripleStore$Solver", "store", "LTripleStore$Store;", true)
  | 1 => ("TripleStore$Solver", "query", "LTripleStore$Query;", true)
  | 2 => ("TripleStore$Solver", "found", "[LTripleStore$Solutions;", true)
  | 3 => ("TripleStore$Solver", "next", "[LTripleStore$Solutions;", true)
  | _ => ("TripleStore$Solver", "draft", "[J", true)
def tySv : Nat → FieldType := fun k => match k with
  | 0 => .object "TripleStore$Store"
  | 1 => .object "TripleStore$Query"
  | 2 => .array (.object "TripleStore$Solutions")
  | 3 => .array (.object "TripleStore$Solutions")
  | _ => .array .long
theorem nmSv : ∀ a, a < 5 → ∀ b, b < 5 → a ≠ b → (TSv a).2.1 ≠ (TSv b).2.1 := by decide +kernel
theorem okSv : ∀ k, k < 5 → parseFieldDescriptor (TSv k).2.2.1 = some (tySv k) := by decide +kernel
theorem inSv : ∀ w ∈ u_ws RSv TSv 5, w ∈ gT := gT_sub [251, 253, 255, 257, 259] (by decide +kernel) (by decide +kernel)
def RSt : String := "TripleStore$Store"
def TSt : u_T := fun k => match k with
  | 0 => ("TripleStore$Store", "triples", "LTripleStore$Triples;", true)
  | 1 => ("TripleStore$Store", "log", "LTripleStore$Triples;", true)
  | 2 => ("TripleStore$Store", "wasInsert", "[Z", true)
  | 3 => ("TripleStore$Store", "transactionOf", "[I", true)
  | 4 => ("TripleStore$Store", "open", "Z", false)
  | 5 => ("TripleStore$Store", "changes", "I", false)
  | 6 => ("TripleStore$Store", "committed", "I", false)
  | _ => ("TripleStore$Store", "unsynced", "I", false)
def tySt : Nat → FieldType := fun k => match k with
  | 0 => .object "TripleStore$Triples"
  | 1 => .object "TripleStore$Triples"
  | 2 => .array .boolean
  | 3 => .array .int
  | 4 => .boolean
  | 5 => .int
  | 6 => .int
  | _ => .int
theorem nmSt : ∀ a, a < 8 → ∀ b, b < 8 → a ≠ b → (TSt a).2.1 ≠ (TSt b).2.1 := by decide +kernel
theorem okSt : ∀ k, k < 8 → parseFieldDescriptor (TSt k).2.2.1 = some (tySt k) := by decide +kernel
theorem inSt : ∀ w ∈ u_ws RSt TSt 8, w ∈ gT := gT_sub [65, 67, 69, 71, 73, 75, 77, 79] (by decide +kernel) (by decide +kernel)
def RTo : String := "TripleStore$Tokens"
def TTo : u_T := fun k => match k with
  | 0 => ("TripleStore$Tokens", "kinds", "[I", true)
  | 1 => ("TripleStore$Tokens", "values", "[J", true)
  | 2 => ("TripleStore$Tokens", "places", "[I", true)
  | 3 => ("TripleStore$Tokens", "size", "I", false)
  | _ => ("TripleStore$Tokens", "at", "I", false)
def tyTo : Nat → FieldType := fun k => match k with
  | 0 => .array .int
  | 1 => .array .long
  | 2 => .array .int
  | 3 => .int
  | _ => .int
theorem nmTo : ∀ a, a < 5 → ∀ b, b < 5 → a ≠ b → (TTo a).2.1 ≠ (TTo b).2.1 := by decide +kernel
theorem okTo : ∀ k, k < 5 → parseFieldDescriptor (TTo k).2.2.1 = some (tyTo k) := by decide +kernel
theorem inTo : ∀ w ∈ u_ws RTo TTo 5, w ∈ gT := gT_sub [95, 97, 99, 101, 103] (by decide +kernel) (by decide +kernel)
def RTr : String := "TripleStore$Triples"
def TTr : u_T := fun k => match k with
  | 0 => ("TripleStore$Triples", "subjects", "[J", true)
  | 1 => ("TripleStore$Triples", "predicates", "[J", true)
  | 2 => ("TripleStore$Triples", "objects", "[J", true)
  | _ => ("TripleStore$Triples", "size", "I", false)
def tyTr : Nat → FieldType := fun k => match k with
  | 0 => .array .long
  | 1 => .array .long
  | 2 => .array .long
  | _ => .int
theorem nmTr : ∀ a, a < 4 → ∀ b, b < 4 → a ≠ b → (TTr a).2.1 ≠ (TTr b).2.1 := by decide +kernel
theorem okTr : ∀ k, k < 4 → parseFieldDescriptor (TTr k).2.2.1 = some (tyTr k) := by decide +kernel
theorem inTr : ∀ w ∈ u_ws RTr TTr 4, w ∈ gT := gT_sub [47, 49, 51, 53] (by decide +kernel) (by decide +kernel)
def RTS : String := "TripleStore"
def TTS : u_T := fun k => match k with
  | 0 => ("TripleStore", "store", "LTripleStore$Store;", true)
  | 1 => ("TripleStore", "text", "[C", true)
  | 2 => ("TripleStore", "tokens", "LTripleStore$Tokens;", true)
  | 3 => ("TripleStore", "query", "LTripleStore$Query;", true)
  | 4 => ("TripleStore", "parser", "LTripleStore$Parser;", true)
  | 5 => ("TripleStore", "solver", "LTripleStore$Solver;", true)
  | 6 => ("TripleStore", "rows", "LTripleStore$Rows;", true)
  | 7 => ("TripleStore", "length", "I", false)
  | _ => ("TripleStore", "faultPlace", "I", false)
def tyTS : Nat → FieldType := fun k => match k with
  | 0 => .object "TripleStore$Store"
  | 1 => .array .char
  | 2 => .object "TripleStore$Tokens"
  | 3 => .object "TripleStore$Query"
  | 4 => .object "TripleStore$Parser"
  | 5 => .object "TripleStore$Solver"
  | 6 => .object "TripleStore$Rows"
  | 7 => .int
  | _ => .int
theorem nmTS : ∀ a, a < 9 → ∀ b, b < 9 → a ≠ b → (TTS a).2.1 ≠ (TTS b).2.1 := by decide +kernel
theorem okTS : ∀ k, k < 9 → parseFieldDescriptor (TTS k).2.2.1 = some (tyTS k) := by decide +kernel
theorem inTS : ∀ w ∈ u_ws RTS TTS 9, w ∈ gT := gT_sub [290, 292, 294, 296, 298, 300, 302, 304, 306] (by decide +kernel) (by decide +kernel)
def RMo : String := "TripleStoreModel"
def TMo : u_T := fun k => match k with
  | 0 => ("TripleStoreModel", "triple", "[J", true)
  | 1 => ("TripleStoreModel", "triples", "I", false)
  | 2 => ("TripleStoreModel", "kept", "[J", true)
  | 3 => ("TripleStoreModel", "keptCount", "I", false)
  | 4 => ("TripleStoreModel", "change", "[J", true)
  | 5 => ("TripleStoreModel", "put", "[Z", true)
  | 6 => ("TripleStoreModel", "of", "[I", true)
  | 7 => ("TripleStoreModel", "changes", "I", false)
  | 8 => ("TripleStoreModel", "committed", "I", false)
  | 9 => ("TripleStoreModel", "unsynced", "I", false)
  | 10 => ("TripleStoreModel", "open", "Z", false)
  | 11 => ("TripleStoreModel", "openFrom", "I", false)
  | 12 => ("TripleStoreModel", "text", "[I", true)
  | 13 => ("TripleStoreModel", "length", "I", false)
  | 14 => ("TripleStoreModel", "fault", "I", false)
  | 15 => ("TripleStoreModel", "kind", "I", false)
  | 16 => ("TripleStoreModel", "token", "J", false)
  | 17 => ("TripleStoreModel", "start", "I", false)
  | 18 => ("TripleStoreModel", "end", "I", false)
  | 19 => ("TripleStoreModel", "behind", "I", false)
  | 20 => ("TripleStoreModel", "wrong", "I", false)
  | 21 => ("TripleStoreModel", "starts", "Z", false)
  | 22 => ("TripleStoreModel", "holds", "Z", false)
  | 23 => ("TripleStoreModel", "name", "[J", true)
  | 24 => ("TripleStoreModel", "names", "I", false)
  | 25 => ("TripleStoreModel", "elements", "I", false)
  | 26 => ("TripleStoreModel", "groups", "I", false)
  | 27 => ("TripleStoreModel", "depth", "I", false)
  | 28 => ("TripleStoreModel", "groupKind", "[I", true)
  | 29 => ("TripleStoreModel", "groupId", "[I", true)
  | 30 => ("TripleStoreModel", "op", "[I", true)
  | 31 => ("TripleStoreModel", "arg", "[I", true)
  | 32 => ("TripleStoreModel", "ops", "I", false)
  | 33 => ("TripleStoreModel", "side", "[I", true)
  | 34 => ("TripleStoreModel", "term", "[J", true)
  | 35 => ("TripleStoreModel", "patterns", "I", false)
  | 36 => ("TripleStoreModel", "testGroup", "[I", true)
  | 37 => ("TripleStoreModel", "testSign", "[I", true)
  | 38 => ("TripleStoreModel", "testNot", "[Z", true)
  | 39 => ("TripleStoreModel", "tests", "I", false)
  | 40 => ("TripleStoreModel", "wanted", "[I", true)
  | 41 => ("TripleStoreModel", "wantedCount", "I", false)
  | 42 => ("TripleStoreModel", "beside", "[I", true)
  | 43 => ("TripleStoreModel", "distinct", "Z", false)
  | 44 => ("TripleStoreModel", "orderBy", "I", false)
  | 45 => ("TripleStoreModel", "falls", "Z", false)
  | 46 => ("TripleStoreModel", "limit", "I", false)
  | 47 => ("TripleStoreModel", "value", "[J", true)
  | 48 => ("TripleStoreModel", "given", "[I", true)
  | 49 => ("TripleStoreModel", "size", "[I", true)
  | 50 => ("TripleStoreModel", "top", "I", false)
  | 51 => ("TripleStoreModel", "tooMany", "Z", false)
  | 52 => ("TripleStoreModel", "row", "[J", true)
  | 53 => ("TripleStoreModel", "rowGiven", "[I", true)
  | 54 => ("TripleStoreModel", "rowAt", "[I", true)
  | 55 => ("TripleStoreModel", "rows", "I", false)
  | 56 => ("TripleStoreModel", "column", "[I", true)
  | 57 => ("TripleStoreModel", "columns", "I", false)
  | _ => ("TripleStoreModel", "code", "I", false)
def tyMo : Nat → FieldType := fun k => match k with
  | 0 => .array .long
  | 1 => .int
  | 2 => .array .long
  | 3 => .int
  | 4 => .array .long
  | 5 => .array .boolean
  | 6 => .array .int
  | 7 => .int
  | 8 => .int
  | 9 => .int
  | 10 => .boolean
  | 11 => .int
  | 12 => .array .int
  | 13 => .int
  | 14 => .int
  | 15 => .int
  | 16 => .long
  | 17 => .int
  | 18 => .int
  | 19 => .int
  | 20 => .int
  | 21 => .boolean
  | 22 => .boolean
  | 23 => .array .long
  | 24 => .int
  | 25 => .int
  | 26 => .int
  | 27 => .int
  | 28 => .array .int
  | 29 => .array .int
  | 30 => .array .int
  | 31 => .array .int
  | 32 => .int
  | 33 => .array .int
  | 34 => .array .long
  | 35 => .int
  | 36 => .array .int
  | 37 => .array .int
  | 38 => .array .boolean
  | 39 => .int
  | 40 => .array .int
  | 41 => .int
  | 42 => .array .int
  | 43 => .boolean
  | 44 => .int
  | 45 => .boolean
  | 46 => .int
  | 47 => .array .long
  | 48 => .array .int
  | 49 => .array .int
  | 50 => .int
  | 51 => .boolean
  | 52 => .array .long
  | 53 => .array .int
  | 54 => .array .int
  | 55 => .int
  | 56 => .array .int
  | 57 => .int
  | _ => .int
theorem nmMo : ∀ a, a < 59 → ∀ b, b < 59 → a ≠ b → (TMo a).2.1 ≠ (TMo b).2.1 := by decide +kernel
theorem okMo : ∀ k, k < 59 → parseFieldDescriptor (TMo k).2.2.1 = some (tyMo k) := by decide +kernel
theorem inMo : ∀ w ∈ u_ws RMo TMo 59, w ∈ gT := gT_sub [1034, 1036, 1038, 1040, 1042, 1044, 1046, 1048, 1050, 1052, 1054, 1056, 1058, 1060, 1062, 1064, 1066, 1068, 1070, 1072, 1074, 1076, 1078, 1080, 1082, 1084, 1086, 1088, 1090, 1092, 1094, 1096, 1098, 1100, 1102, 1104, 1106, 1108, 1110, 1112, 1114, 1116, 1118, 1120, 1122, 1124, 1126, 1128, 1130, 1132, 1134, 1136, 1138, 1140, 1142, 1144, 1146, 1148, 1150] (by decide +kernel) (by decide +kernel)
abbrev vwCl : List vw_C := [(REl, TEl, 7), (RPa, TPa, 3), (RQu, TQu, 12), (RRo, TRo, 4), (RSo, TSo, 2), (RSv, TSv, 5), (RSt, TSt, 8), (RTo, TTo, 5), (RTr, TTr, 4), (RTS, TTS, 9), (RMo, TMo, 59)]
def mTY : List FieldType := [.int, .long, .char, .boolean, .object "TripleStore$Element", .object "TripleStore$Solutions"]
end
section
/-! MINI WORLDS. A world is a list of cells; a reference is a place in it. 'ad': the addresses of the places; 'tc': the classes of the arrays, by the place of their type in mTY. -/
abbrev mC : Type := (Nat × vp_A) ⊕ (Nat × List Value)
def mc_v (ad : Nat → Nat) (v : Value) : Value := match v with
  | .ref k => .ref (ad k)
  | w => w
theorem mc_v_cat (ad : Nat → Nat) (v : Value) : (mc_v ad v).category = v.category := by cases v <;> rfl
def mc_a (ad : Nat → Nat) (a : vp_A) : vp_A := match a with
  | (n, .inr (.inr (.inr (.inr f)))) => (n, .inr (.inr (.inr (.inr (fun j => (f j).map ad)))))
  | (n, b) => (n, b)
def mc_e (tc : Nat → ClassId) (ad : Nat → Nat) (c : mC) : va_E := match c with
  | .inl a => .inl (tc a.1, mc_a ad a.2)
  | .inr o => .inr (o.1, o.2.map (mc_v ad))
def mc_w (tc : Nat → ClassId) (ad : Nat → Nat) (M : List mC) : va_W := M.mapIdx fun k c => (ad k, mc_e tc ad c)
def mc_t (tc : Nat → ClassId) : List (ClassId × FieldType) := mTY.mapIdx fun k ty => (tc k, ty)
theorem mc_ty {tc : Nat → ClassId} {t : Nat} {ty : FieldType} (h : mTY[t]? = some ty) : (mc_t tc)[t]? = some (tc t, ty) := by
  unfold mc_t
  rw [List.getElem?_mapIdx, h]
  rfl
theorem mc_at {tc : Nat → ClassId} {ad : Nat → Nat} {M : List mC} {k : Nat} {c : mC} (h : M[k]? = some c) : (mc_w tc ad M)[k]? = some (ad k, mc_e tc ad c) := by
  unfold mc_w
  rw [List.getElem?_mapIdx, h]
  rfl
theorem mc_set (tc : Nat → ClassId) (ad : Nat → Nat) (M : List mC) (k : Nat) (c : mC) : mc_w tc ad (M.set k c) = (mc_w tc ad M).set k (ad k, mc_e tc ad c) := by
  unfold mc_w
  rw [List.mapIdx_set]
theorem mc_push (tc : Nat → ClassId) (ad : Nat → Nat) (M : List mC) (c : mC) : mc_w tc ad (M ++ [c]) = mc_w tc ad M ++ [(ad M.length, mc_e tc ad c)] := by
  unfold mc_w
  rw [List.mapIdx_concat]
/-! references that lie within the first n places, or at the place that no world has: an array that is given from outside -/
def spl : Nat := 1000000
def mk_v (n : Nat) (v : Value) : Prop := match v with
  | .ref k => k < n ∨ k = spl
  | _ => True
def mk_a (n : Nat) (a : vp_A) : Prop := match a with
  | (_, .inr (.inr (.inr (.inr f)))) => ∀ j i, f j = some i → i < n ∨ i = spl
  | _ => True
def mk_c (n : Nat) (c : mC) : Prop := match c with
  | .inl a => mk_a n a.2
  | .inr o => ∀ v ∈ o.2, mk_v n v
theorem mk_v_eq {n : Nat} {ad ad' : Nat → Nat} {v : Value} (h : mk_v n v) (he : ∀ i, i < n ∨ i = spl → ad' i = ad i) : mc_v ad' v = mc_v ad v := by
  cases v with
  | ref k => exact congrArg Value.ref (he k h)
  | _ => rfl
theorem mk_c_eq {n : Nat} {tc : Nat → ClassId} {ad ad' : Nat → Nat} {c : mC} (h : mk_c n c) (he : ∀ i, i < n ∨ i = spl → ad' i = ad i) : mc_e tc ad' c = mc_e tc ad c := by
  rcases c with ⟨t, k, f | f | f | f | f⟩ | ⟨ci, fs⟩
  · rfl
  · rfl
  · rfl
  · rfl
  · have e : (fun j => (f j).map ad') = (fun j => (f j).map ad) := by
      funext j
      cases hj : f j with
      | none => rfl
      | some i => exact congrArg some (he i (h j i hj))
    show (Sum.inl (tc t, k, Sum.inr (Sum.inr (Sum.inr (Sum.inr (fun j => (f j).map ad'))))) : va_E) = _
    rw [e]
    rfl
  · show (Sum.inr (ci, fs.map (mc_v ad')) : va_E) = Sum.inr (ci, fs.map (mc_v ad))
    rw [List.map_congr_left (fun v hv => mk_v_eq (h v hv) he)]
theorem mk_w_eq {tc : Nat → ClassId} {ad ad' : Nat → Nat} {M : List mC} (h : ∀ c ∈ M, mk_c M.length c) (he : ∀ i, i < M.length ∨ i = spl → ad' i = ad i) : mc_w tc ad' M = mc_w tc ad M := by
  apply List.ext_getElem?
  intro k
  unfold mc_w
  rw [List.getElem?_mapIdx, List.getElem?_mapIdx]
  cases hk : M[k]? with
  | none => rfl
  | some c =>
    have hl := (List.getElem?_eq_some_iff.mp hk).1
    show some (ad' k, mc_e tc ad' c) = some (ad k, mc_e tc ad c)
    rw [he k (Or.inl hl), mk_c_eq (h c (List.mem_of_getElem? hk)) he]
/-! locals -/
def mc_l (ad : Nat → Nat) (L : List (Nat × Value)) : List (Nat × Value) := L.map fun q => (q.1, mc_v ad q.2)
def ml_ins (a : Nat × Value) : List (Nat × Value) → List (Nat × Value)
  | [] => [a]
  | q :: r => match Nat.blt a.1 q.1 with
    | true => a :: q :: r
    | false => q :: ml_ins a r
def ml_k1 (i : Nat) (q : Nat × Value) : Bool := !(q.1 == i) && !(q.1 + 1 == i && q.2.category == 2)
def ml_k2 (i : Nat) (q : Nat × Value) : Bool := !(q.1 == i) && (!(q.1 == i + 1) && !(q.1 + 1 == i && q.2.category == 2))
def ml_s1 (i : Nat) (v : Value) (L : List (Nat × Value)) : List (Nat × Value) := ml_ins (i, v) (L.filter (ml_k1 i))
def ml_s2 (i : Nat) (v : Value) (L : List (Nat × Value)) : List (Nat × Value) := ml_ins (i, v) (L.filter (ml_k2 i))
theorem ml_ins_mem {a q : Nat × Value} : ∀ {L : List (Nat × Value)}, q ∈ ml_ins a L → q = a ∨ q ∈ L
  | [], h => by
    rw [show ml_ins a [] = [a] from rfl] at h
    exact Or.inl (List.mem_singleton.mp h)
  | x :: r, h => by
    unfold ml_ins at h
    cases hb : Nat.blt a.1 x.1 with
    | true =>
      rw [hb] at h
      exact List.mem_cons.mp h
    | false =>
      rw [hb] at h
      rcases List.mem_cons.mp h with h | h
      · exact Or.inr (h ▸ List.mem_cons_self)
      · rcases ml_ins_mem h with h | h
        · exact Or.inl h
        · exact Or.inr (List.mem_cons_of_mem _ h)
theorem ml_f1 (ad : Nat → Nat) (i : Nat) (q : Nat × Value) : ml_k1 i (q.1, mc_v ad q.2) = ml_k1 i q := by
  unfold ml_k1
  rw [mc_v_cat]
theorem ml_f2 (ad : Nat → Nat) (i : Nat) (q : Nat × Value) : ml_k2 i (q.1, mc_v ad q.2) = ml_k2 i q := by
  unfold ml_k2
  rw [mc_v_cat]
theorem ml_has {ls : Array Slot} {nL : Nat} {l l' : List (Nat × Value)} (h : lv_has ls nL l) (hs : ∀ q ∈ l', q ∈ l) : lv_has ls nL l' := ⟨h.1, h.2.1, fun q hq => h.2.2 q (hs q hq)⟩
theorem ml_st1 {ad : Nat → Nat} {ls : Array Slot} {nL i : Nat} {v : Value} {L : List (Nat × Value)} (h : lv_has ls nL ((i, mc_v ad v) :: (mc_l ad L).filter (ml_k1 i))) : lv_has ls nL (mc_l ad (ml_s1 i v L)) := by
  refine ml_has h (fun q hq => ?_)
  obtain ⟨x, hx, rfl⟩ := List.mem_map.mp hq
  rcases ml_ins_mem hx with rfl | hx
  · exact List.mem_cons_self
  · obtain ⟨h1, h2⟩ := List.mem_filter.mp hx
    exact List.mem_cons_of_mem _ (List.mem_filter.mpr ⟨List.mem_map.mpr ⟨x, h1, rfl⟩, by rw [ml_f1]; exact h2⟩)
theorem ml_st2 {ad : Nat → Nat} {ls : Array Slot} {nL i : Nat} {v : Value} {L : List (Nat × Value)} (h : lv_has ls nL ((i, mc_v ad v) :: (mc_l ad L).filter (ml_k2 i))) : lv_has ls nL (mc_l ad (ml_s2 i v L)) := by
  refine ml_has h (fun q hq => ?_)
  obtain ⟨x, hx, rfl⟩ := List.mem_map.mp hq
  rcases ml_ins_mem hx with rfl | hx
  · exact List.mem_cons_self
  · obtain ⟨h1, h2⟩ := List.mem_filter.mp hx
    exact List.mem_cons_of_mem _ (List.mem_filter.mpr ⟨List.mem_map.mpr ⟨x, h1, rfl⟩, by rw [ml_f2]; exact h2⟩)
theorem ml_at {ad : Nat → Nat} {ls : Array Slot} {nL k i : Nat} {v : Value} {L : List (Nat × Value)} (h : lv_has ls nL (mc_l ad L)) (hk : L[k]? = some (i, v)) : ls[i]? = some (.val (mc_v ad v)) :=
  lv_at h k (i := i) (v := mc_v ad v) (by unfold mc_l; rw [List.getElem?_map, hk]; rfl)
abbrev gC : Type := Program × Launch × Env × Room × State × MethodId × Array Value × List Frame × Method × Code × Nat × va_G × (Nat → ClassId) × (Nat → Prop) × Nat × (Nat → Nat) × (State → Prop)
/-- the places' addresses since the start -/
def g_ag (n0 : Nat) (ad0 : Nat → Nat) (M : List mC) (ad : Nat → Nat) : Prop := n0 ≤ M.length ∧ (∀ i, i < n0 ∨ i = spl → ad i = ad0 i) ∧ (M.length = n0 → ad = ad0)
/-- THE JUDGEMENT: with the world M, k cells and n slots made so far, at pc with the locals L and the stack st the machine comes to its end -/
def gg (X : gC) (M : List mC) (k n pc : Nat) (L : List (Nat × Value)) (st : List Value) : Prop := match X with
  | (p, l, e, R, s, m, args, below, meth, c, nL, D, tc, A, n0, ad0, Q) => ∀ (ad : Nat → Nat) (H : Heap) (locs : List Loc) (ls : Array Slot), g_ag n0 ad0 M ad → va_P D vwCl (mc_w tc ad M) H → va_D A (mc_w tc ad M) → va_S A s.heap H locs → lv_has ls nL (mc_l ad L) → W p l e R s m args below meth c H locs k n Q (F0 m pc ls (st.map (mc_v ad)))
/-- what the tables and the statics give beside the steady words, at any later state whose cells outside A are as they were -/
def mY (A : Nat → Prop) (U : State) (H : Heap) : Prop := ∀ U' : State, U.WarmedH U'.vm → H.size ≤ U'.heap.size → (∀ a : Nat, a < H.size → ¬ A a → U'.heap[a]? = H[a]?) → ∀ w ∈ yT, w.before #[] U' = true
theorem mY.use {A : Nat → Prop} {U : State} (h : mY A U U.heap) : ∀ w ∈ yT, w.before #[] U = true := h U (State.WarmedH.refl U) (Nat.le_refl _) (fun _ _ _ => rfl)
theorem mY.on {A B : Nat → Prop} {s U : State} {H : Heap} {locs : List Loc} (h : mY A s s.heap) (hS : va_S A s.heap H locs) (hB : ∀ q, B q → A q) (hW : s.WarmedH U.vm) (hU : U.heap = H) : mY B U U.heap := by
  intro U' w1 w2 w3
  rw [hU] at w2 w3
  refine h U' (State.WarmedH.trans hW w1) (Nat.le_trans hS.1 w2) (fun a a1 a2 => ?_)
  rw [w3 a (Nat.lt_of_lt_of_le a1 hS.1) (fun z => a2 (hB a z))]
  exact hS.2.1 a a1 a2
/-- what a frame stands on: the machine, its code, its class, its words, the tables -/
def gO (X : gC) (cc : ByteArray) (own : String) (Ts : List Cond) : Prop := match X with
  | (p, l, e, R, s, m, args, below, meth, c, nL, D, tc, A, n0, ad0, Q) => p.tables.exec = Jvm.exec ∧ c.code = cc ∧ c.maxLocals = nL ∧ s.vm.findClass own = some m.cls ∧ (∀ w ∈ Ts, w.before args s = true) ∧ va_K D vwCl (mc_t tc) s ∧ (∀ q, s.heap.size ≤ q → A q) ∧ meth.locks = false ∧ mY A s s.heap
def gL (X : gC) : Nat := match X with
  | (p, l, e, R, s, m, args, below, meth, c, nL, D, tc, A, n0, ad0, Q) => nL
def gS (X : gC) : State := match X with
  | (p, l, e, R, s, m, args, below, meth, c, nL, D, tc, A, n0, ad0, Q) => s
def gM (X : gC) : Method := match X with
  | (p, l, e, R, s, m, args, below, meth, c, nL, D, tc, A, n0, ad0, Q) => meth
def gR (X : gC) : Room := match X with
  | (p, l, e, R, s, m, args, below, meth, c, nL, D, tc, A, n0, ad0, Q) => R
def gLa (X : gC) : Launch := match X with
  | (p, l, e, R, s, m, args, below, meth, c, nL, D, tc, A, n0, ad0, Q) => l
section GG
variable {X : gC} {cc : ByteArray} {own : String} {Ts : List Cond} {M : List mC} {k n pc : Nat} {L : List (Nat × Value)} {st : List Value}
theorem g_iconst (ok : gO X cc own Ts) {c : Int} {v : Int32} (hd : decode cc pc = .ok (.iconst c, 1)) (hv : Int32.ofInt c = v) (kk : gg X M k n (pc + 1) L (.int v :: st)) : gg X M k n pc L (st) := by
  obtain ⟨p, l, e, R, s, m, args, below, meth, c, nL, D, tc, A, n0, ad0, Q⟩ := X
  obtain ⟨hexec, hb, hml, hown, hts, hK, hA, hlk⟩ := ok
  intro ad H locs ls h1 h2 h3 h4 h5
  exact lv_iconst hexec hb hd hv (kk ad H locs ls h1 h2 h3 h4 h5)
theorem g_bipush (ok : gO X cc own Ts) {c : Int} {v : Int32} (hd : decode cc pc = .ok (.bipush c, 2)) (hv : (Int8.ofInt c).toInt32 = v) (kk : gg X M k n (pc + 2) L (.int v :: st)) : gg X M k n pc L (st) := by
  obtain ⟨p, l, e, R, s, m, args, below, meth, c, nL, D, tc, A, n0, ad0, Q⟩ := X
  obtain ⟨hexec, hb, hml, hown, hts, hK, hA, hlk⟩ := ok
  intro ad H locs ls h1 h2 h3 h4 h5
  exact lv_bipush hexec hb hd hv (kk ad H locs ls h1 h2 h3 h4 h5)
theorem g_sipush (ok : gO X cc own Ts) {c : Int} {v : Int32} (hd : decode cc pc = .ok (.sipush c, 3)) (hv : (Int16.ofInt c).toInt32 = v) (kk : gg X M k n (pc + 3) L (.int v :: st)) : gg X M k n pc L (st) := by
  obtain ⟨p, l, e, R, s, m, args, below, meth, c, nL, D, tc, A, n0, ad0, Q⟩ := X
  obtain ⟨hexec, hb, hml, hown, hts, hK, hA, hlk⟩ := ok
  intro ad H locs ls h1 h2 h3 h4 h5
  exact lv_sipush hexec hb hd hv (kk ad H locs ls h1 h2 h3 h4 h5)
theorem g_lconst (ok : gO X cc own Ts) {c : Fin 2} {v : Int64} (hd : decode cc pc = .ok (.lconst c, 1)) (hv : Int64.ofNat (c : Nat) = v) (kk : gg X M k n (pc + 1) L (.long v :: st)) : gg X M k n pc L (st) := by
  obtain ⟨p, l, e, R, s, m, args, below, meth, c, nL, D, tc, A, n0, ad0, Q⟩ := X
  obtain ⟨hexec, hb, hml, hown, hts, hK, hA, hlk⟩ := ok
  intro ad H locs ls h1 h2 h3 h4 h5
  exact lv_lconst hexec hb hd hv (kk ad H locs ls h1 h2 h3 h4 h5)
theorem g_iload_n (ok : gO X cc own Ts) {c : Fin 4} {i j : Nat} {x : Int32} (hd : decode cc pc = .ok (.iload_n c, 1)) (hi : (c : Nat) = i) (hL : L[j]? = some (i, .int x)) (kk : gg X M k n (pc + 1) L (.int x :: st)) : gg X M k n pc L (st) := by
  obtain ⟨p, l, e, R, s, m, args, below, meth, c, nL, D, tc, A, n0, ad0, Q⟩ := X
  obtain ⟨hexec, hb, hml, hown, hts, hK, hA, hlk⟩ := ok
  intro ad H locs ls h1 h2 h3 h4 h5
  exact lv_iload_n hexec hb hd hi (ml_at h5 hL) (kk ad H locs ls h1 h2 h3 h4 h5)
theorem g_iload (ok : gO X cc own Ts) {i j : Nat} {x : Int32} (hd : decode cc pc = .ok (.iload i, 2)) (hL : L[j]? = some (i, .int x)) (kk : gg X M k n (pc + 2) L (.int x :: st)) : gg X M k n pc L (st) := by
  obtain ⟨p, l, e, R, s, m, args, below, meth, c, nL, D, tc, A, n0, ad0, Q⟩ := X
  obtain ⟨hexec, hb, hml, hown, hts, hK, hA, hlk⟩ := ok
  intro ad H locs ls h1 h2 h3 h4 h5
  exact lv_iload hexec hb hd (ml_at h5 hL) (kk ad H locs ls h1 h2 h3 h4 h5)
theorem g_lload_n (ok : gO X cc own Ts) {c : Fin 4} {i j : Nat} {x : Int64} (hd : decode cc pc = .ok (.lload_n c, 1)) (hi : (c : Nat) = i) (hL : L[j]? = some (i, .long x)) (kk : gg X M k n (pc + 1) L (.long x :: st)) : gg X M k n pc L (st) := by
  obtain ⟨p, l, e, R, s, m, args, below, meth, c, nL, D, tc, A, n0, ad0, Q⟩ := X
  obtain ⟨hexec, hb, hml, hown, hts, hK, hA, hlk⟩ := ok
  intro ad H locs ls h1 h2 h3 h4 h5
  exact lv_lload_n hexec hb hd hi (ml_at h5 hL) (kk ad H locs ls h1 h2 h3 h4 h5)
theorem g_lload (ok : gO X cc own Ts) {i j : Nat} {x : Int64} (hd : decode cc pc = .ok (.lload i, 2)) (hL : L[j]? = some (i, .long x)) (kk : gg X M k n (pc + 2) L (.long x :: st)) : gg X M k n pc L (st) := by
  obtain ⟨p, l, e, R, s, m, args, below, meth, c, nL, D, tc, A, n0, ad0, Q⟩ := X
  obtain ⟨hexec, hb, hml, hown, hts, hK, hA, hlk⟩ := ok
  intro ad H locs ls h1 h2 h3 h4 h5
  exact lv_lload hexec hb hd (ml_at h5 hL) (kk ad H locs ls h1 h2 h3 h4 h5)
theorem g_aload_n (ok : gO X cc own Ts) {c : Fin 4} {i j : Nat} {x : Nat} (hd : decode cc pc = .ok (.aload_n c, 1)) (hi : (c : Nat) = i) (hL : L[j]? = some (i, .ref x)) (kk : gg X M k n (pc + 1) L (.ref x :: st)) : gg X M k n pc L (st) := by
  obtain ⟨p, l, e, R, s, m, args, below, meth, c, nL, D, tc, A, n0, ad0, Q⟩ := X
  obtain ⟨hexec, hb, hml, hown, hts, hK, hA, hlk⟩ := ok
  intro ad H locs ls h1 h2 h3 h4 h5
  exact lv_aload_n hexec hb hd hi (ml_at h5 hL) (kk ad H locs ls h1 h2 h3 h4 h5)
theorem g_aload (ok : gO X cc own Ts) {i j : Nat} {x : Nat} (hd : decode cc pc = .ok (.aload i, 2)) (hL : L[j]? = some (i, .ref x)) (kk : gg X M k n (pc + 2) L (.ref x :: st)) : gg X M k n pc L (st) := by
  obtain ⟨p, l, e, R, s, m, args, below, meth, c, nL, D, tc, A, n0, ad0, Q⟩ := X
  obtain ⟨hexec, hb, hml, hown, hts, hK, hA, hlk⟩ := ok
  intro ad H locs ls h1 h2 h3 h4 h5
  exact lv_aload hexec hb hd (ml_at h5 hL) (kk ad H locs ls h1 h2 h3 h4 h5)
theorem g_istore_n (ok : gO X cc own Ts) {c : Fin 4} {i : Nat} {x : Int32} {L' : List (Nat × Value)} (hd : decode cc pc = .ok (.istore_n c, 1)) (hi : (c : Nat) = i) (hn : i < gL X) (hL : ml_s1 i (.int x) L = L') (kk : gg X M k n (pc + 1) L' st) : gg X M k n pc L (.int x :: st) := by
  obtain ⟨p, l, e, R, s, m, args, below, meth, c, nL, D, tc, A, n0, ad0, Q⟩ := X
  obtain ⟨hexec, hb, hml, hown, hts, hK, hA, hlk⟩ := ok
  intro ad H locs ls h1 h2 h3 h4 h5
  subst hL
  exact lv_istore_n hexec hb hd hi h5 hn rfl (fun ls' hl' => kk ad H locs ls' h1 h2 h3 h4 (ml_st1 hl'))
theorem g_istore (ok : gO X cc own Ts) {i : Nat} {x : Int32} {L' : List (Nat × Value)} (hd : decode cc pc = .ok (.istore i, 2)) (hn : i < gL X) (hL : ml_s1 i (.int x) L = L') (kk : gg X M k n (pc + 2) L' st) : gg X M k n pc L (.int x :: st) := by
  obtain ⟨p, l, e, R, s, m, args, below, meth, c, nL, D, tc, A, n0, ad0, Q⟩ := X
  obtain ⟨hexec, hb, hml, hown, hts, hK, hA, hlk⟩ := ok
  intro ad H locs ls h1 h2 h3 h4 h5
  subst hL
  exact lv_istore hexec hb hd h5 hn rfl (fun ls' hl' => kk ad H locs ls' h1 h2 h3 h4 (ml_st1 hl'))
theorem g_lstore_n (ok : gO X cc own Ts) {c : Fin 4} {i : Nat} {x : Int64} {L' : List (Nat × Value)} (hd : decode cc pc = .ok (.lstore_n c, 1)) (hi : (c : Nat) = i) (hn : i + 1 < gL X) (hL : ml_s2 i (.long x) L = L') (kk : gg X M k n (pc + 1) L' st) : gg X M k n pc L (.long x :: st) := by
  obtain ⟨p, l, e, R, s, m, args, below, meth, c, nL, D, tc, A, n0, ad0, Q⟩ := X
  obtain ⟨hexec, hb, hml, hown, hts, hK, hA, hlk⟩ := ok
  intro ad H locs ls h1 h2 h3 h4 h5
  subst hL
  exact lv_lstore_n hexec hb hd hi h5 hn rfl (fun ls' hl' => kk ad H locs ls' h1 h2 h3 h4 (ml_st2 hl'))
theorem g_lstore (ok : gO X cc own Ts) {i : Nat} {x : Int64} {L' : List (Nat × Value)} (hd : decode cc pc = .ok (.lstore i, 2)) (hn : i + 1 < gL X) (hL : ml_s2 i (.long x) L = L') (kk : gg X M k n (pc + 2) L' st) : gg X M k n pc L (.long x :: st) := by
  obtain ⟨p, l, e, R, s, m, args, below, meth, c, nL, D, tc, A, n0, ad0, Q⟩ := X
  obtain ⟨hexec, hb, hml, hown, hts, hK, hA, hlk⟩ := ok
  intro ad H locs ls h1 h2 h3 h4 h5
  subst hL
  exact lv_lstore hexec hb hd h5 hn rfl (fun ls' hl' => kk ad H locs ls' h1 h2 h3 h4 (ml_st2 hl'))
theorem g_astore_n (ok : gO X cc own Ts) {c : Fin 4} {i : Nat} {x : Nat} {L' : List (Nat × Value)} (hd : decode cc pc = .ok (.astore_n c, 1)) (hi : (c : Nat) = i) (hn : i < gL X) (hL : ml_s1 i (.ref x) L = L') (kk : gg X M k n (pc + 1) L' st) : gg X M k n pc L (.ref x :: st) := by
  obtain ⟨p, l, e, R, s, m, args, below, meth, c, nL, D, tc, A, n0, ad0, Q⟩ := X
  obtain ⟨hexec, hb, hml, hown, hts, hK, hA, hlk⟩ := ok
  intro ad H locs ls h1 h2 h3 h4 h5
  subst hL
  exact lv_astore_n hexec hb hd hi h5 hn rfl (fun ls' hl' => kk ad H locs ls' h1 h2 h3 h4 (ml_st1 hl'))
theorem g_astore (ok : gO X cc own Ts) {i : Nat} {x : Nat} {L' : List (Nat × Value)} (hd : decode cc pc = .ok (.astore i, 2)) (hn : i < gL X) (hL : ml_s1 i (.ref x) L = L') (kk : gg X M k n (pc + 2) L' st) : gg X M k n pc L (.ref x :: st) := by
  obtain ⟨p, l, e, R, s, m, args, below, meth, c, nL, D, tc, A, n0, ad0, Q⟩ := X
  obtain ⟨hexec, hb, hml, hown, hts, hK, hA, hlk⟩ := ok
  intro ad H locs ls h1 h2 h3 h4 h5
  subst hL
  exact lv_astore hexec hb hd h5 hn rfl (fun ls' hl' => kk ad H locs ls' h1 h2 h3 h4 (ml_st1 hl'))
theorem g_iinc (ok : gO X cc own Ts) {i j : Nat} {c : Int} {x v : Int32} {L' : List (Nat × Value)} (hd : decode cc pc = .ok (.iinc i c, 3)) (hj : L[j]? = some (i, .int x)) (hv : x + Int32.ofInt c = v) (hn : i < gL X) (hL : ml_s1 i (.int v) L = L') (kk : gg X M k n (pc + 3) L' st) : gg X M k n pc L st := by
  obtain ⟨p, l, e, R, s, m, args, below, meth, c, nL, D, tc, A, n0, ad0, Q⟩ := X
  obtain ⟨hexec, hb, hml, hown, hts, hK, hA, hlk⟩ := ok
  intro ad H locs ls h1 h2 h3 h4 h5
  subst hL
  exact lv_iinc (k := j) hexec hb hd h5 (by unfold mc_l; rw [List.getElem?_map, hj]; rfl) hv hn rfl (fun ls' hl' => kk ad H locs ls' h1 h2 h3 h4 (ml_st1 (v := .int v) hl'))
theorem g_iadd (ok : gO X cc own Ts) {x y : Int32} (hd : decode cc pc = .ok (.iadd, 1))  (kk : gg X M k n (pc + 1) L (.int (x + y) :: st)) : gg X M k n pc L (.int y :: .int x :: st) := by
  obtain ⟨p, l, e, R, s, m, args, below, meth, c, nL, D, tc, A, n0, ad0, Q⟩ := X
  obtain ⟨hexec, hb, hml, hown, hts, hK, hA, hlk⟩ := ok
  intro ad H locs ls h1 h2 h3 h4 h5
  exact lv_iadd hexec hb hd  (kk ad H locs ls h1 h2 h3 h4 h5)
theorem g_isub (ok : gO X cc own Ts) {x y : Int32} (hd : decode cc pc = .ok (.isub, 1))  (kk : gg X M k n (pc + 1) L (.int (x - y) :: st)) : gg X M k n pc L (.int y :: .int x :: st) := by
  obtain ⟨p, l, e, R, s, m, args, below, meth, c, nL, D, tc, A, n0, ad0, Q⟩ := X
  obtain ⟨hexec, hb, hml, hown, hts, hK, hA, hlk⟩ := ok
  intro ad H locs ls h1 h2 h3 h4 h5
  exact lv_isub hexec hb hd  (kk ad H locs ls h1 h2 h3 h4 h5)
theorem g_imul (ok : gO X cc own Ts) {x y : Int32} (hd : decode cc pc = .ok (.imul, 1))  (kk : gg X M k n (pc + 1) L (.int (x * y) :: st)) : gg X M k n pc L (.int y :: .int x :: st) := by
  obtain ⟨p, l, e, R, s, m, args, below, meth, c, nL, D, tc, A, n0, ad0, Q⟩ := X
  obtain ⟨hexec, hb, hml, hown, hts, hK, hA, hlk⟩ := ok
  intro ad H locs ls h1 h2 h3 h4 h5
  exact lv_imul hexec hb hd  (kk ad H locs ls h1 h2 h3 h4 h5)
theorem g_iand (ok : gO X cc own Ts) {x y : Int32} (hd : decode cc pc = .ok (.iand, 1))  (kk : gg X M k n (pc + 1) L (.int (x &&& y) :: st)) : gg X M k n pc L (.int y :: .int x :: st) := by
  obtain ⟨p, l, e, R, s, m, args, below, meth, c, nL, D, tc, A, n0, ad0, Q⟩ := X
  obtain ⟨hexec, hb, hml, hown, hts, hK, hA, hlk⟩ := ok
  intro ad H locs ls h1 h2 h3 h4 h5
  exact lv_iand hexec hb hd  (kk ad H locs ls h1 h2 h3 h4 h5)
theorem g_ior (ok : gO X cc own Ts) {x y : Int32} (hd : decode cc pc = .ok (.ior, 1))  (kk : gg X M k n (pc + 1) L (.int (x ||| y) :: st)) : gg X M k n pc L (.int y :: .int x :: st) := by
  obtain ⟨p, l, e, R, s, m, args, below, meth, c, nL, D, tc, A, n0, ad0, Q⟩ := X
  obtain ⟨hexec, hb, hml, hown, hts, hK, hA, hlk⟩ := ok
  intro ad H locs ls h1 h2 h3 h4 h5
  exact lv_ior hexec hb hd  (kk ad H locs ls h1 h2 h3 h4 h5)
theorem g_ixor (ok : gO X cc own Ts) {x y : Int32} (hd : decode cc pc = .ok (.ixor, 1))  (kk : gg X M k n (pc + 1) L (.int (x ^^^ y) :: st)) : gg X M k n pc L (.int y :: .int x :: st) := by
  obtain ⟨p, l, e, R, s, m, args, below, meth, c, nL, D, tc, A, n0, ad0, Q⟩ := X
  obtain ⟨hexec, hb, hml, hown, hts, hK, hA, hlk⟩ := ok
  intro ad H locs ls h1 h2 h3 h4 h5
  exact lv_ixor hexec hb hd  (kk ad H locs ls h1 h2 h3 h4 h5)
theorem g_ishl (ok : gO X cc own Ts) {x y : Int32} (hd : decode cc pc = .ok (.ishl, 1))  (kk : gg X M k n (pc + 1) L (.int (x <<< (y &&& 31)) :: st)) : gg X M k n pc L (.int y :: .int x :: st) := by
  obtain ⟨p, l, e, R, s, m, args, below, meth, c, nL, D, tc, A, n0, ad0, Q⟩ := X
  obtain ⟨hexec, hb, hml, hown, hts, hK, hA, hlk⟩ := ok
  intro ad H locs ls h1 h2 h3 h4 h5
  exact lv_ishl hexec hb hd  (kk ad H locs ls h1 h2 h3 h4 h5)
theorem g_ishr (ok : gO X cc own Ts) {x y : Int32} (hd : decode cc pc = .ok (.ishr, 1))  (kk : gg X M k n (pc + 1) L (.int (x >>> (y &&& 31)) :: st)) : gg X M k n pc L (.int y :: .int x :: st) := by
  obtain ⟨p, l, e, R, s, m, args, below, meth, c, nL, D, tc, A, n0, ad0, Q⟩ := X
  obtain ⟨hexec, hb, hml, hown, hts, hK, hA, hlk⟩ := ok
  intro ad H locs ls h1 h2 h3 h4 h5
  exact lv_ishr hexec hb hd  (kk ad H locs ls h1 h2 h3 h4 h5)
theorem g_idiv (ok : gO X cc own Ts) {x y : Int32} (hd : decode cc pc = .ok (.idiv, 1)) (hne : ¬ y = 0) (kk : gg X M k n (pc + 1) L (.int (x / y) :: st)) : gg X M k n pc L (.int y :: .int x :: st) := by
  obtain ⟨p, l, e, R, s, m, args, below, meth, c, nL, D, tc, A, n0, ad0, Q⟩ := X
  obtain ⟨hexec, hb, hml, hown, hts, hK, hA, hlk⟩ := ok
  intro ad H locs ls h1 h2 h3 h4 h5
  exact lv_idiv hexec hb hd hne (kk ad H locs ls h1 h2 h3 h4 h5)
theorem g_irem (ok : gO X cc own Ts) {x y : Int32} (hd : decode cc pc = .ok (.irem, 1)) (hne : ¬ y = 0) (kk : gg X M k n (pc + 1) L (.int (x - x / y * y) :: st)) : gg X M k n pc L (.int y :: .int x :: st) := by
  obtain ⟨p, l, e, R, s, m, args, below, meth, c, nL, D, tc, A, n0, ad0, Q⟩ := X
  obtain ⟨hexec, hb, hml, hown, hts, hK, hA, hlk⟩ := ok
  intro ad H locs ls h1 h2 h3 h4 h5
  exact lv_irem hexec hb hd hne (kk ad H locs ls h1 h2 h3 h4 h5)
theorem g_ladd (ok : gO X cc own Ts) {x y : Int64} (hd : decode cc pc = .ok (.ladd, 1))  (kk : gg X M k n (pc + 1) L (.long (x + y) :: st)) : gg X M k n pc L (.long y :: .long x :: st) := by
  obtain ⟨p, l, e, R, s, m, args, below, meth, c, nL, D, tc, A, n0, ad0, Q⟩ := X
  obtain ⟨hexec, hb, hml, hown, hts, hK, hA, hlk⟩ := ok
  intro ad H locs ls h1 h2 h3 h4 h5
  exact lv_ladd hexec hb hd  (kk ad H locs ls h1 h2 h3 h4 h5)
theorem g_lsub (ok : gO X cc own Ts) {x y : Int64} (hd : decode cc pc = .ok (.lsub, 1))  (kk : gg X M k n (pc + 1) L (.long (x - y) :: st)) : gg X M k n pc L (.long y :: .long x :: st) := by
  obtain ⟨p, l, e, R, s, m, args, below, meth, c, nL, D, tc, A, n0, ad0, Q⟩ := X
  obtain ⟨hexec, hb, hml, hown, hts, hK, hA, hlk⟩ := ok
  intro ad H locs ls h1 h2 h3 h4 h5
  exact lv_lsub hexec hb hd  (kk ad H locs ls h1 h2 h3 h4 h5)
theorem g_lmul (ok : gO X cc own Ts) {x y : Int64} (hd : decode cc pc = .ok (.lmul, 1))  (kk : gg X M k n (pc + 1) L (.long (x * y) :: st)) : gg X M k n pc L (.long y :: .long x :: st) := by
  obtain ⟨p, l, e, R, s, m, args, below, meth, c, nL, D, tc, A, n0, ad0, Q⟩ := X
  obtain ⟨hexec, hb, hml, hown, hts, hK, hA, hlk⟩ := ok
  intro ad H locs ls h1 h2 h3 h4 h5
  exact lv_lmul hexec hb hd  (kk ad H locs ls h1 h2 h3 h4 h5)
theorem g_land (ok : gO X cc own Ts) {x y : Int64} (hd : decode cc pc = .ok (.land, 1))  (kk : gg X M k n (pc + 1) L (.long (x &&& y) :: st)) : gg X M k n pc L (.long y :: .long x :: st) := by
  obtain ⟨p, l, e, R, s, m, args, below, meth, c, nL, D, tc, A, n0, ad0, Q⟩ := X
  obtain ⟨hexec, hb, hml, hown, hts, hK, hA, hlk⟩ := ok
  intro ad H locs ls h1 h2 h3 h4 h5
  exact lv_land hexec hb hd  (kk ad H locs ls h1 h2 h3 h4 h5)
theorem g_lor (ok : gO X cc own Ts) {x y : Int64} (hd : decode cc pc = .ok (.lor, 1))  (kk : gg X M k n (pc + 1) L (.long (x ||| y) :: st)) : gg X M k n pc L (.long y :: .long x :: st) := by
  obtain ⟨p, l, e, R, s, m, args, below, meth, c, nL, D, tc, A, n0, ad0, Q⟩ := X
  obtain ⟨hexec, hb, hml, hown, hts, hK, hA, hlk⟩ := ok
  intro ad H locs ls h1 h2 h3 h4 h5
  exact lv_lor hexec hb hd  (kk ad H locs ls h1 h2 h3 h4 h5)
theorem g_lxor (ok : gO X cc own Ts) {x y : Int64} (hd : decode cc pc = .ok (.lxor, 1))  (kk : gg X M k n (pc + 1) L (.long (x ^^^ y) :: st)) : gg X M k n pc L (.long y :: .long x :: st) := by
  obtain ⟨p, l, e, R, s, m, args, below, meth, c, nL, D, tc, A, n0, ad0, Q⟩ := X
  obtain ⟨hexec, hb, hml, hown, hts, hK, hA, hlk⟩ := ok
  intro ad H locs ls h1 h2 h3 h4 h5
  exact lv_lxor hexec hb hd  (kk ad H locs ls h1 h2 h3 h4 h5)
theorem g_ldiv (ok : gO X cc own Ts) {x y : Int64} (hd : decode cc pc = .ok (.ldiv, 1)) (hne : ¬ y = 0) (kk : gg X M k n (pc + 1) L (.long (x / y) :: st)) : gg X M k n pc L (.long y :: .long x :: st) := by
  obtain ⟨p, l, e, R, s, m, args, below, meth, c, nL, D, tc, A, n0, ad0, Q⟩ := X
  obtain ⟨hexec, hb, hml, hown, hts, hK, hA, hlk⟩ := ok
  intro ad H locs ls h1 h2 h3 h4 h5
  exact lv_ldiv hexec hb hd hne (kk ad H locs ls h1 h2 h3 h4 h5)
theorem g_lrem (ok : gO X cc own Ts) {x y : Int64} (hd : decode cc pc = .ok (.lrem, 1)) (hne : ¬ y = 0) (kk : gg X M k n (pc + 1) L (.long (x - x / y * y) :: st)) : gg X M k n pc L (.long y :: .long x :: st) := by
  obtain ⟨p, l, e, R, s, m, args, below, meth, c, nL, D, tc, A, n0, ad0, Q⟩ := X
  obtain ⟨hexec, hb, hml, hown, hts, hK, hA, hlk⟩ := ok
  intro ad H locs ls h1 h2 h3 h4 h5
  exact lv_lrem hexec hb hd hne (kk ad H locs ls h1 h2 h3 h4 h5)
theorem g_ineg (ok : gO X cc own Ts) {x : Int32} (hd : decode cc pc = .ok (.ineg, 1))  (kk : gg X M k n (pc + 1) L (.int (-x) :: st)) : gg X M k n pc L (.int x :: st) := by
  obtain ⟨p, l, e, R, s, m, args, below, meth, c, nL, D, tc, A, n0, ad0, Q⟩ := X
  obtain ⟨hexec, hb, hml, hown, hts, hK, hA, hlk⟩ := ok
  intro ad H locs ls h1 h2 h3 h4 h5
  exact lv_ineg hexec hb hd  (kk ad H locs ls h1 h2 h3 h4 h5)
theorem g_lneg (ok : gO X cc own Ts) {x : Int64} (hd : decode cc pc = .ok (.lneg, 1))  (kk : gg X M k n (pc + 1) L (.long (-x) :: st)) : gg X M k n pc L (.long x :: st) := by
  obtain ⟨p, l, e, R, s, m, args, below, meth, c, nL, D, tc, A, n0, ad0, Q⟩ := X
  obtain ⟨hexec, hb, hml, hown, hts, hK, hA, hlk⟩ := ok
  intro ad H locs ls h1 h2 h3 h4 h5
  exact lv_lneg hexec hb hd  (kk ad H locs ls h1 h2 h3 h4 h5)
theorem g_i2l (ok : gO X cc own Ts) {x : Int32} (hd : decode cc pc = .ok (.i2l, 1))  (kk : gg X M k n (pc + 1) L (.long (x.toInt64) :: st)) : gg X M k n pc L (.int x :: st) := by
  obtain ⟨p, l, e, R, s, m, args, below, meth, c, nL, D, tc, A, n0, ad0, Q⟩ := X
  obtain ⟨hexec, hb, hml, hown, hts, hK, hA, hlk⟩ := ok
  intro ad H locs ls h1 h2 h3 h4 h5
  exact lv_i2l hexec hb hd rfl (kk ad H locs ls h1 h2 h3 h4 h5)
theorem g_l2i (ok : gO X cc own Ts) {x : Int64} (hd : decode cc pc = .ok (.l2i, 1))  (kk : gg X M k n (pc + 1) L (.int (x.toInt32) :: st)) : gg X M k n pc L (.long x :: st) := by
  obtain ⟨p, l, e, R, s, m, args, below, meth, c, nL, D, tc, A, n0, ad0, Q⟩ := X
  obtain ⟨hexec, hb, hml, hown, hts, hK, hA, hlk⟩ := ok
  intro ad H locs ls h1 h2 h3 h4 h5
  exact lv_l2i hexec hb hd rfl (kk ad H locs ls h1 h2 h3 h4 h5)
theorem g_i2b (ok : gO X cc own Ts) {x : Int32} (hd : decode cc pc = .ok (.i2b, 1))  (kk : gg X M k n (pc + 1) L (.int (x.toInt8.toInt32) :: st)) : gg X M k n pc L (.int x :: st) := by
  obtain ⟨p, l, e, R, s, m, args, below, meth, c, nL, D, tc, A, n0, ad0, Q⟩ := X
  obtain ⟨hexec, hb, hml, hown, hts, hK, hA, hlk⟩ := ok
  intro ad H locs ls h1 h2 h3 h4 h5
  exact lv_i2b hexec hb hd rfl (kk ad H locs ls h1 h2 h3 h4 h5)
theorem g_i2s (ok : gO X cc own Ts) {x : Int32} (hd : decode cc pc = .ok (.i2s, 1))  (kk : gg X M k n (pc + 1) L (.int (x.toInt16.toInt32) :: st)) : gg X M k n pc L (.int x :: st) := by
  obtain ⟨p, l, e, R, s, m, args, below, meth, c, nL, D, tc, A, n0, ad0, Q⟩ := X
  obtain ⟨hexec, hb, hml, hown, hts, hK, hA, hlk⟩ := ok
  intro ad H locs ls h1 h2 h3 h4 h5
  exact lv_i2s hexec hb hd rfl (kk ad H locs ls h1 h2 h3 h4 h5)
theorem g_i2c (ok : gO X cc own Ts) {x : Int32} (hd : decode cc pc = .ok (.i2c, 1))  (kk : gg X M k n (pc + 1) L (.int ((x.toUInt32 % 65536).toInt32) :: st)) : gg X M k n pc L (.int x :: st) := by
  obtain ⟨p, l, e, R, s, m, args, below, meth, c, nL, D, tc, A, n0, ad0, Q⟩ := X
  obtain ⟨hexec, hb, hml, hown, hts, hK, hA, hlk⟩ := ok
  intro ad H locs ls h1 h2 h3 h4 h5
  exact lv_i2c hexec hb hd rfl (kk ad H locs ls h1 h2 h3 h4 h5)
theorem g_iushr (ok : gO X cc own Ts) {x y : Int32} (hd : decode cc pc = .ok (.iushr, 1))  (kk : gg X M k n (pc + 1) L (.int ((x.toUInt32 >>> (y.toUInt32 &&& Int32.toUInt32 31)).toInt32) :: st)) : gg X M k n pc L (.int y :: .int x :: st) := by
  obtain ⟨p, l, e, R, s, m, args, below, meth, c, nL, D, tc, A, n0, ad0, Q⟩ := X
  obtain ⟨hexec, hb, hml, hown, hts, hK, hA, hlk⟩ := ok
  intro ad H locs ls h1 h2 h3 h4 h5
  exact lv_iushr hexec hb hd rfl (kk ad H locs ls h1 h2 h3 h4 h5)
theorem g_lushr (ok : gO X cc own Ts) {x : Int64} {y : Int32} (hd : decode cc pc = .ok (.lushr, 1))  (kk : gg X M k n (pc + 1) L (.long ((x.toUInt64 >>> (y.toInt64.toUInt64 &&& Int64.toUInt64 63)).toInt64) :: st)) : gg X M k n pc L (.int y :: .long x :: st) := by
  obtain ⟨p, l, e, R, s, m, args, below, meth, c, nL, D, tc, A, n0, ad0, Q⟩ := X
  obtain ⟨hexec, hb, hml, hown, hts, hK, hA, hlk⟩ := ok
  intro ad H locs ls h1 h2 h3 h4 h5
  exact lv_lushr hexec hb hd rfl (kk ad H locs ls h1 h2 h3 h4 h5)
theorem g_lshl (ok : gO X cc own Ts) {x : Int64} {y : Int32} (hd : decode cc pc = .ok (.lshl, 1))  (kk : gg X M k n (pc + 1) L (.long (x <<< (y.toInt64 &&& 63)) :: st)) : gg X M k n pc L (.int y :: .long x :: st) := by
  obtain ⟨p, l, e, R, s, m, args, below, meth, c, nL, D, tc, A, n0, ad0, Q⟩ := X
  obtain ⟨hexec, hb, hml, hown, hts, hK, hA, hlk⟩ := ok
  intro ad H locs ls h1 h2 h3 h4 h5
  exact lv_lshl hexec hb hd rfl (kk ad H locs ls h1 h2 h3 h4 h5)
theorem g_lshr (ok : gO X cc own Ts) {x : Int64} {y : Int32} (hd : decode cc pc = .ok (.lshr, 1))  (kk : gg X M k n (pc + 1) L (.long (x >>> (y.toInt64 &&& 63)) :: st)) : gg X M k n pc L (.int y :: .long x :: st) := by
  obtain ⟨p, l, e, R, s, m, args, below, meth, c, nL, D, tc, A, n0, ad0, Q⟩ := X
  obtain ⟨hexec, hb, hml, hown, hts, hK, hA, hlk⟩ := ok
  intro ad H locs ls h1 h2 h3 h4 h5
  exact lv_lshr hexec hb hd rfl (kk ad H locs ls h1 h2 h3 h4 h5)
theorem g_dup (ok : gO X cc own Ts) {va : Value} (hd : decode cc pc = .ok (.dup, 1)) (hva : va.category = 1) (kk : gg X M k n (pc + 1) L (va :: va :: st)) : gg X M k n pc L (va :: st) := by
  obtain ⟨p, l, e, R, s, m, args, below, meth, c, nL, D, tc, A, n0, ad0, Q⟩ := X
  obtain ⟨hexec, hb, hml, hown, hts, hK, hA, hlk⟩ := ok
  intro ad H locs ls h1 h2 h3 h4 h5
  exact lv_dup hexec hb hd ((mc_v_cat ad _).trans hva) (kk ad H locs ls h1 h2 h3 h4 h5)
theorem g_pop (ok : gO X cc own Ts) {va : Value} (hd : decode cc pc = .ok (.pop, 1)) (hva : va.category = 1) (kk : gg X M k n (pc + 1) L (st)) : gg X M k n pc L (va :: st) := by
  obtain ⟨p, l, e, R, s, m, args, below, meth, c, nL, D, tc, A, n0, ad0, Q⟩ := X
  obtain ⟨hexec, hb, hml, hown, hts, hK, hA, hlk⟩ := ok
  intro ad H locs ls h1 h2 h3 h4 h5
  exact lv_pop hexec hb hd ((mc_v_cat ad _).trans hva) (kk ad H locs ls h1 h2 h3 h4 h5)
theorem g_dup_x1 (ok : gO X cc own Ts) {va vb : Value} (hd : decode cc pc = .ok (.dup_x1, 1)) (hva : va.category = 1) (hvb : vb.category = 1) (kk : gg X M k n (pc + 1) L (va :: vb :: va :: st)) : gg X M k n pc L (va :: vb :: st) := by
  obtain ⟨p, l, e, R, s, m, args, below, meth, c, nL, D, tc, A, n0, ad0, Q⟩ := X
  obtain ⟨hexec, hb, hml, hown, hts, hK, hA, hlk⟩ := ok
  intro ad H locs ls h1 h2 h3 h4 h5
  exact lv_dup_x1 hexec hb hd ((mc_v_cat ad _).trans hva) ((mc_v_cat ad _).trans hvb) (kk ad H locs ls h1 h2 h3 h4 h5)
theorem g_dup_x2 (ok : gO X cc own Ts) {va vb vd : Value} (hd : decode cc pc = .ok (.dup_x2, 1)) (hva : va.category = 1) (hvb : vb.category = 1) (hvd : vd.category = 1) (kk : gg X M k n (pc + 1) L (va :: vb :: vd :: va :: st)) : gg X M k n pc L (va :: vb :: vd :: st) := by
  obtain ⟨p, l, e, R, s, m, args, below, meth, c, nL, D, tc, A, n0, ad0, Q⟩ := X
  obtain ⟨hexec, hb, hml, hown, hts, hK, hA, hlk⟩ := ok
  intro ad H locs ls h1 h2 h3 h4 h5
  exact lv_dup_x2 hexec hb hd ((mc_v_cat ad _).trans hva) ((mc_v_cat ad _).trans hvb) ((mc_v_cat ad _).trans hvd) (kk ad H locs ls h1 h2 h3 h4 h5)
theorem g_dup2_11 (ok : gO X cc own Ts) {va vb : Value} (hd : decode cc pc = .ok (.dup2, 1)) (hva : va.category = 1) (hvb : vb.category = 1) (kk : gg X M k n (pc + 1) L (va :: vb :: va :: vb :: st)) : gg X M k n pc L (va :: vb :: st) := by
  obtain ⟨p, l, e, R, s, m, args, below, meth, c, nL, D, tc, A, n0, ad0, Q⟩ := X
  obtain ⟨hexec, hb, hml, hown, hts, hK, hA, hlk⟩ := ok
  intro ad H locs ls h1 h2 h3 h4 h5
  exact lv_dup2_11 hexec hb hd ((mc_v_cat ad _).trans hva) ((mc_v_cat ad _).trans hvb) (kk ad H locs ls h1 h2 h3 h4 h5)
theorem g_dup2_2 (ok : gO X cc own Ts) {va : Value} (hd : decode cc pc = .ok (.dup2, 1)) (hva : va.category = 2) (kk : gg X M k n (pc + 1) L (va :: va :: st)) : gg X M k n pc L (va :: st) := by
  obtain ⟨p, l, e, R, s, m, args, below, meth, c, nL, D, tc, A, n0, ad0, Q⟩ := X
  obtain ⟨hexec, hb, hml, hown, hts, hK, hA, hlk⟩ := ok
  intro ad H locs ls h1 h2 h3 h4 h5
  exact lv_dup2_2 hexec hb hd ((mc_v_cat ad _).trans hva) (kk ad H locs ls h1 h2 h3 h4 h5)
theorem g_pop2_2 (ok : gO X cc own Ts) {va : Value} (hd : decode cc pc = .ok (.pop2, 1)) (hva : va.category = 2) (kk : gg X M k n (pc + 1) L (st)) : gg X M k n pc L (va :: st) := by
  obtain ⟨p, l, e, R, s, m, args, below, meth, c, nL, D, tc, A, n0, ad0, Q⟩ := X
  obtain ⟨hexec, hb, hml, hown, hts, hK, hA, hlk⟩ := ok
  intro ad H locs ls h1 h2 h3 h4 h5
  exact lv_pop2_2 hexec hb hd ((mc_v_cat ad _).trans hva) (kk ad H locs ls h1 h2 h3 h4 h5)
theorem g_dup2_x1_2 (ok : gO X cc own Ts) {va vb : Value} (hd : decode cc pc = .ok (.dup2_x1, 1)) (hva : va.category = 2) (hvb : vb.category = 1) (kk : gg X M k n (pc + 1) L (va :: vb :: va :: st)) : gg X M k n pc L (va :: vb :: st) := by
  obtain ⟨p, l, e, R, s, m, args, below, meth, c, nL, D, tc, A, n0, ad0, Q⟩ := X
  obtain ⟨hexec, hb, hml, hown, hts, hK, hA, hlk⟩ := ok
  intro ad H locs ls h1 h2 h3 h4 h5
  exact lv_dup2_x1_2 hexec hb hd ((mc_v_cat ad _).trans hva) ((mc_v_cat ad _).trans hvb) (kk ad H locs ls h1 h2 h3 h4 h5)
theorem g_dup2_x2_2 (ok : gO X cc own Ts) {va vb vd : Value} (hd : decode cc pc = .ok (.dup2_x2, 1)) (hva : va.category = 2) (hvb : vb.category = 1) (hvd : vd.category = 1) (kk : gg X M k n (pc + 1) L (va :: vb :: vd :: va :: st)) : gg X M k n pc L (va :: vb :: vd :: st) := by
  obtain ⟨p, l, e, R, s, m, args, below, meth, c, nL, D, tc, A, n0, ad0, Q⟩ := X
  obtain ⟨hexec, hb, hml, hown, hts, hK, hA, hlk⟩ := ok
  intro ad H locs ls h1 h2 h3 h4 h5
  exact lv_dup2_x2_2 hexec hb hd ((mc_v_cat ad _).trans hva) ((mc_v_cat ad _).trans hvb) ((mc_v_cat ad _).trans hvd) (kk ad H locs ls h1 h2 h3 h4 h5)
theorem g_if_eq (ok : gO X cc own Ts) {x : Int32} {off : Int} {tgt : Nat} (hd : decode cc pc = .ok (.ifCond .eq off, 3)) (ht : (pc : Int) + off = (tgt : Int)) (kt : x = 0 → gg X M k n tgt L st) (kf : ¬ x = 0 → gg X M k n (pc + 3) L st) : gg X M k n pc L (.int x :: st) := by
  obtain ⟨p, l, e, R, s, m, args, below, meth, c, nL, D, tc, A, n0, ad0, Q⟩ := X
  obtain ⟨hexec, hb, hml, hown, hts, hK, hA, hlk⟩ := ok
  intro ad H locs ls h1 h2 h3 h4 h5
  exact lv_if_eq hexec hb hd ht (fun z => kt z ad H locs ls h1 h2 h3 h4 h5) (fun z => kf z ad H locs ls h1 h2 h3 h4 h5)
theorem g_icmp_eq (ok : gO X cc own Ts) {x y : Int32} {off : Int} {tgt : Nat} (hd : decode cc pc = .ok (.if_icmp .eq off, 3)) (ht : (pc : Int) + off = (tgt : Int)) (kt : x = y → gg X M k n tgt L st) (kf : ¬ x = y → gg X M k n (pc + 3) L st) : gg X M k n pc L (.int y :: .int x :: st) := by
  obtain ⟨p, l, e, R, s, m, args, below, meth, c, nL, D, tc, A, n0, ad0, Q⟩ := X
  obtain ⟨hexec, hb, hml, hown, hts, hK, hA, hlk⟩ := ok
  intro ad H locs ls h1 h2 h3 h4 h5
  exact lv_icmp_eq hexec hb hd ht (fun z => kt z ad H locs ls h1 h2 h3 h4 h5) (fun z => kf z ad H locs ls h1 h2 h3 h4 h5)
theorem g_if_ne (ok : gO X cc own Ts) {x : Int32} {off : Int} {tgt : Nat} (hd : decode cc pc = .ok (.ifCond .ne off, 3)) (ht : (pc : Int) + off = (tgt : Int)) (kt : ¬ x = 0 → gg X M k n tgt L st) (kf : x = 0 → gg X M k n (pc + 3) L st) : gg X M k n pc L (.int x :: st) := by
  obtain ⟨p, l, e, R, s, m, args, below, meth, c, nL, D, tc, A, n0, ad0, Q⟩ := X
  obtain ⟨hexec, hb, hml, hown, hts, hK, hA, hlk⟩ := ok
  intro ad H locs ls h1 h2 h3 h4 h5
  exact lv_if_ne hexec hb hd ht (fun z => kt z ad H locs ls h1 h2 h3 h4 h5) (fun z => kf z ad H locs ls h1 h2 h3 h4 h5)
theorem g_icmp_ne (ok : gO X cc own Ts) {x y : Int32} {off : Int} {tgt : Nat} (hd : decode cc pc = .ok (.if_icmp .ne off, 3)) (ht : (pc : Int) + off = (tgt : Int)) (kt : ¬ x = y → gg X M k n tgt L st) (kf : x = y → gg X M k n (pc + 3) L st) : gg X M k n pc L (.int y :: .int x :: st) := by
  obtain ⟨p, l, e, R, s, m, args, below, meth, c, nL, D, tc, A, n0, ad0, Q⟩ := X
  obtain ⟨hexec, hb, hml, hown, hts, hK, hA, hlk⟩ := ok
  intro ad H locs ls h1 h2 h3 h4 h5
  exact lv_icmp_ne hexec hb hd ht (fun z => kt z ad H locs ls h1 h2 h3 h4 h5) (fun z => kf z ad H locs ls h1 h2 h3 h4 h5)
theorem g_if_lt (ok : gO X cc own Ts) {x : Int32} {off : Int} {tgt : Nat} (hd : decode cc pc = .ok (.ifCond .lt off, 3)) (ht : (pc : Int) + off = (tgt : Int)) (kt : x < 0 → gg X M k n tgt L st) (kf : ¬ x < 0 → gg X M k n (pc + 3) L st) : gg X M k n pc L (.int x :: st) := by
  obtain ⟨p, l, e, R, s, m, args, below, meth, c, nL, D, tc, A, n0, ad0, Q⟩ := X
  obtain ⟨hexec, hb, hml, hown, hts, hK, hA, hlk⟩ := ok
  intro ad H locs ls h1 h2 h3 h4 h5
  exact lv_if_lt hexec hb hd ht (fun z => kt z ad H locs ls h1 h2 h3 h4 h5) (fun z => kf z ad H locs ls h1 h2 h3 h4 h5)
theorem g_icmp_lt (ok : gO X cc own Ts) {x y : Int32} {off : Int} {tgt : Nat} (hd : decode cc pc = .ok (.if_icmp .lt off, 3)) (ht : (pc : Int) + off = (tgt : Int)) (kt : x < y → gg X M k n tgt L st) (kf : ¬ x < y → gg X M k n (pc + 3) L st) : gg X M k n pc L (.int y :: .int x :: st) := by
  obtain ⟨p, l, e, R, s, m, args, below, meth, c, nL, D, tc, A, n0, ad0, Q⟩ := X
  obtain ⟨hexec, hb, hml, hown, hts, hK, hA, hlk⟩ := ok
  intro ad H locs ls h1 h2 h3 h4 h5
  exact lv_icmp_lt hexec hb hd ht (fun z => kt z ad H locs ls h1 h2 h3 h4 h5) (fun z => kf z ad H locs ls h1 h2 h3 h4 h5)
theorem g_if_ge (ok : gO X cc own Ts) {x : Int32} {off : Int} {tgt : Nat} (hd : decode cc pc = .ok (.ifCond .ge off, 3)) (ht : (pc : Int) + off = (tgt : Int)) (kt : 0 ≤ x → gg X M k n tgt L st) (kf : ¬ 0 ≤ x → gg X M k n (pc + 3) L st) : gg X M k n pc L (.int x :: st) := by
  obtain ⟨p, l, e, R, s, m, args, below, meth, c, nL, D, tc, A, n0, ad0, Q⟩ := X
  obtain ⟨hexec, hb, hml, hown, hts, hK, hA, hlk⟩ := ok
  intro ad H locs ls h1 h2 h3 h4 h5
  exact lv_if_ge hexec hb hd ht (fun z => kt z ad H locs ls h1 h2 h3 h4 h5) (fun z => kf z ad H locs ls h1 h2 h3 h4 h5)
theorem g_icmp_ge (ok : gO X cc own Ts) {x y : Int32} {off : Int} {tgt : Nat} (hd : decode cc pc = .ok (.if_icmp .ge off, 3)) (ht : (pc : Int) + off = (tgt : Int)) (kt : y ≤ x → gg X M k n tgt L st) (kf : ¬ y ≤ x → gg X M k n (pc + 3) L st) : gg X M k n pc L (.int y :: .int x :: st) := by
  obtain ⟨p, l, e, R, s, m, args, below, meth, c, nL, D, tc, A, n0, ad0, Q⟩ := X
  obtain ⟨hexec, hb, hml, hown, hts, hK, hA, hlk⟩ := ok
  intro ad H locs ls h1 h2 h3 h4 h5
  exact lv_icmp_ge hexec hb hd ht (fun z => kt z ad H locs ls h1 h2 h3 h4 h5) (fun z => kf z ad H locs ls h1 h2 h3 h4 h5)
theorem g_if_gt (ok : gO X cc own Ts) {x : Int32} {off : Int} {tgt : Nat} (hd : decode cc pc = .ok (.ifCond .gt off, 3)) (ht : (pc : Int) + off = (tgt : Int)) (kt : 0 < x → gg X M k n tgt L st) (kf : ¬ 0 < x → gg X M k n (pc + 3) L st) : gg X M k n pc L (.int x :: st) := by
  obtain ⟨p, l, e, R, s, m, args, below, meth, c, nL, D, tc, A, n0, ad0, Q⟩ := X
  obtain ⟨hexec, hb, hml, hown, hts, hK, hA, hlk⟩ := ok
  intro ad H locs ls h1 h2 h3 h4 h5
  exact lv_if_gt hexec hb hd ht (fun z => kt z ad H locs ls h1 h2 h3 h4 h5) (fun z => kf z ad H locs ls h1 h2 h3 h4 h5)
theorem g_icmp_gt (ok : gO X cc own Ts) {x y : Int32} {off : Int} {tgt : Nat} (hd : decode cc pc = .ok (.if_icmp .gt off, 3)) (ht : (pc : Int) + off = (tgt : Int)) (kt : y < x → gg X M k n tgt L st) (kf : ¬ y < x → gg X M k n (pc + 3) L st) : gg X M k n pc L (.int y :: .int x :: st) := by
  obtain ⟨p, l, e, R, s, m, args, below, meth, c, nL, D, tc, A, n0, ad0, Q⟩ := X
  obtain ⟨hexec, hb, hml, hown, hts, hK, hA, hlk⟩ := ok
  intro ad H locs ls h1 h2 h3 h4 h5
  exact lv_icmp_gt hexec hb hd ht (fun z => kt z ad H locs ls h1 h2 h3 h4 h5) (fun z => kf z ad H locs ls h1 h2 h3 h4 h5)
theorem g_if_le (ok : gO X cc own Ts) {x : Int32} {off : Int} {tgt : Nat} (hd : decode cc pc = .ok (.ifCond .le off, 3)) (ht : (pc : Int) + off = (tgt : Int)) (kt : x ≤ 0 → gg X M k n tgt L st) (kf : ¬ x ≤ 0 → gg X M k n (pc + 3) L st) : gg X M k n pc L (.int x :: st) := by
  obtain ⟨p, l, e, R, s, m, args, below, meth, c, nL, D, tc, A, n0, ad0, Q⟩ := X
  obtain ⟨hexec, hb, hml, hown, hts, hK, hA, hlk⟩ := ok
  intro ad H locs ls h1 h2 h3 h4 h5
  exact lv_if_le hexec hb hd ht (fun z => kt z ad H locs ls h1 h2 h3 h4 h5) (fun z => kf z ad H locs ls h1 h2 h3 h4 h5)
theorem g_icmp_le (ok : gO X cc own Ts) {x y : Int32} {off : Int} {tgt : Nat} (hd : decode cc pc = .ok (.if_icmp .le off, 3)) (ht : (pc : Int) + off = (tgt : Int)) (kt : x ≤ y → gg X M k n tgt L st) (kf : ¬ x ≤ y → gg X M k n (pc + 3) L st) : gg X M k n pc L (.int y :: .int x :: st) := by
  obtain ⟨p, l, e, R, s, m, args, below, meth, c, nL, D, tc, A, n0, ad0, Q⟩ := X
  obtain ⟨hexec, hb, hml, hown, hts, hK, hA, hlk⟩ := ok
  intro ad H locs ls h1 h2 h3 h4 h5
  exact lv_icmp_le hexec hb hd ht (fun z => kt z ad H locs ls h1 h2 h3 h4 h5) (fun z => kf z ad H locs ls h1 h2 h3 h4 h5)
theorem g_goto (ok : gO X cc own Ts) {off : Int} {tgt : Nat} (hd : decode cc pc = .ok (.goto off, 3)) (ht : (pc : Int) + off = (tgt : Int)) (kk : gg X M k n tgt L st) : gg X M k n pc L st := by
  obtain ⟨p, l, e, R, s, m, args, below, meth, c, nL, D, tc, A, n0, ad0, Q⟩ := X
  obtain ⟨hexec, hb, hml, hown, hts, hK, hA, hlk⟩ := ok
  intro ad H locs ls h1 h2 h3 h4 h5
  exact lv_goto hexec hb hd ht (kk ad H locs ls h1 h2 h3 h4 h5)
theorem g_lcmp (ok : gO X cc own Ts) {x y : Int64} (hd : decode cc pc = .ok (.lcmp, 1)) (kk : gg X M k n (pc + 1) L (.int (lg_cmp x y) :: st)) : gg X M k n pc L (.long y :: .long x :: st) := by
  obtain ⟨p, l, e, R, s, m, args, below, meth, c, nL, D, tc, A, n0, ad0, Q⟩ := X
  obtain ⟨hexec, hb, hml, hown, hts, hK, hA, hlk⟩ := ok
  intro ad H locs ls h1 h2 h3 h4 h5
  exact W.lcmp hexec hb hd (kk ad H locs ls h1 h2 h3 h4 h5)
theorem g_ldc (ok : gO X cc own Ts) {i : Nat} {v : Int32} (hw : Cond.constant own i v ∈ Ts) (hd : decode cc pc = .ok (.ldc i, 2)) (kk : gg X M k n (pc + 2) L (.int v :: st)) : gg X M k n pc L st := by
  obtain ⟨p, l, e, R, s, m, args, below, meth, c, nL, D, tc, A, n0, ad0, Q⟩ := X
  obtain ⟨hexec, hb, hml, hown, hts, hK, hA, hlk⟩ := ok
  intro ad H locs ls h1 h2 h3 h4 h5
  exact W.ldc hexec hb hown (hts _ hw) rfl hd (kk ad H locs ls h1 h2 h3 h4 h5)
theorem g_ldc2 (ok : gO X cc own Ts) {i : Nat} {v : Int64} (hw : Cond.constantLong own i v ∈ Ts) (hd : decode cc pc = .ok (.ldc2_w i, 3)) (kk : gg X M k n (pc + 3) L (.long v :: st)) : gg X M k n pc L st := by
  obtain ⟨p, l, e, R, s, m, args, below, meth, c, nL, D, tc, A, n0, ad0, Q⟩ := X
  obtain ⟨hexec, hb, hml, hown, hts, hK, hA, hlk⟩ := ok
  intro ad H locs ls h1 h2 h3 h4 h5
  exact W.ldc2 hexec hb hown (hts _ hw) rfl hd (kk ad H locs ls h1 h2 h3 h4 h5)
theorem g_lookup (ok : gO X cc own Ts) {dflt : Int} {ps : Array (Int × Int)} {len : Nat} {x : Int32} {off : Int} {tgt : Nat} (hd : decode cc pc = .ok (.lookupswitch dflt ps, len)) (hp : (ps.toList.zip (ps.toList.drop 1)).all (fun (a, next) => a.1 < next.1) = true) (ho : Op.lookupswitch.offset ps.toList dflt x.toInt = off) (ht : (pc : Int) + off = (tgt : Int)) (kk : gg X M k n tgt L st) : gg X M k n pc L (.int x :: st) := by
  obtain ⟨p, l, e, R, s, m, args, below, meth, c, nL, D, tc, A, n0, ad0, Q⟩ := X
  obtain ⟨hexec, hb, hml, hown, hts, hK, hA, hlk⟩ := ok
  intro ad H locs ls h1 h2 h3 h4 h5
  exact lv_lookup hexec hb hd hp ho ht (kk ad H locs ls h1 h2 h3 h4 h5)
theorem g_tableOut (ok : gO X cc own Ts) {dflt lo hi : Int} {offs : Array Int} {len : Nat} {x : Int32} {tgt : Nat} (hd : decode cc pc = .ok (.tableswitch dflt lo hi offs, len)) (h : x.toInt < lo ∨ hi < x.toInt) (ht : (pc : Int) + dflt = (tgt : Int)) (kk : gg X M k n tgt L st) : gg X M k n pc L (.int x :: st) := by
  obtain ⟨p, l, e, R, s, m, args, below, meth, c, nL, D, tc, A, n0, ad0, Q⟩ := X
  obtain ⟨hexec, hb, hml, hown, hts, hK, hA, hlk⟩ := ok
  intro ad H locs ls h1 h2 h3 h4 h5
  exact lv_tableOut hexec hb hd h ht (kk ad H locs ls h1 h2 h3 h4 h5)
theorem g_tableIn (ok : gO X cc own Ts) {dflt lo hi : Int} {offs : Array Int} {len : Nat} {x : Int32} {off : Int} {tgt : Nat} (hd : decode cc pc = .ok (.tableswitch dflt lo hi offs, len)) (q1 : ¬ x.toInt < lo) (q2 : ¬ hi < x.toInt) (ho : offs[(x.toInt - lo).toNat]? = some off) (ht : (pc : Int) + off = (tgt : Int)) (kk : gg X M k n tgt L st) : gg X M k n pc L (.int x :: st) := by
  obtain ⟨p, l, e, R, s, m, args, below, meth, c, nL, D, tc, A, n0, ad0, Q⟩ := X
  obtain ⟨hexec, hb, hml, hown, hts, hK, hA, hlk⟩ := ok
  intro ad H locs ls h1 h2 h3 h4 h5
  exact lv_tableIn hexec hb hd q1 q2 ho ht (kk ad H locs ls h1 h2 h3 h4 h5)
end GG
end
section
theorem g_ag.set {n0 : Nat} {ad0 : Nat → Nat} {M : List mC} {ad : Nat → Nat} {o : Nat} {c : mC} (h : g_ag n0 ad0 M ad) : g_ag n0 ad0 (M.set o c) ad := by
  unfold g_ag at h ⊢
  rw [List.length_set]
  exact h
section GH
variable {X : gC} {cc : ByteArray} {own : String} {Ts : List Cond} {M : List mC} {k n pc : Nat} {L : List (Nat × Value)} {st : List Value}
theorem g_get (ok : gO X cc own Ts) {ref C : String} {T : u_T} {N ci index f o : Nat} {fs : List Value} {v : Value} (hin : ∀ w ∈ u_ws C T N, w ∈ Ts) (hc : vwCl[ci]? = some (C, T, N)) (hf : f < N) (hlink : Cond.fieldLink own index ref (T f).2.1 (T f).2.2.1 ∈ Ts) (href : (T f).1 = ref) (hd : decode cc pc = .ok (.getfield index, 3)) (he : M[o]? = some (.inr (ci, fs))) (hv : fs[f]? = some v) (kk : gg X M k n (pc + 3) L (v :: st)) : gg X M k n pc L (.ref o :: st) := by
  obtain ⟨p, l, e, R, s, m, args, below, meth, c, nL, D, tc, A, n0, ad0, Q⟩ := X
  obtain ⟨hexec, hb, hml, hown, hts, hK, hA, hlk⟩ := ok
  intro ad H locs ls h1 h2 h3 h4 h5
  exact va_get hexec hb hts hin hown hK h2 o (mc_at he) hc f hf (hts _ hlink) (fun _ z => by rw [← href]; exact z) (by rw [List.getElem?_map, hv]; rfl) hd (kk ad H locs ls h1 h2 h3 h4 h5)
theorem g_getN (ok : gO X cc own Ts) {host : String} {ref C : String} {T : u_T} {N ci index f o : Nat} {fs : List Value} {v : Value} (hin : ∀ w ∈ u_ws C T N, w ∈ Ts) (hc : vwCl[ci]? = some (C, T, N)) (hf : f < N) (hlink : Cond.fieldLinkNest own index ref (T f).2.1 (T f).2.2.1 host ∈ yT) (href : (T f).1 = ref) (hd : decode cc pc = .ok (.getfield index, 3)) (he : M[o]? = some (.inr (ci, fs))) (hv : fs[f]? = some v) (kk : gg X M k n (pc + 3) L (v :: st)) : gg X M k n pc L (.ref o :: st) := by
  obtain ⟨p, l, e, R, s, m, args, below, meth, c, nL, D, tc, A, n0, ad0, Q⟩ := X
  obtain ⟨hexec, hb, hml, hown, hts, hK, hA, hlk⟩ := ok
  intro ad H locs ls h1 h2 h3 h4 h5
  exact va_getN hexec hb hts hin hown hK h2 o (mc_at he) hc f hf (va_Nw.use rfl (hlk.2.use _ hlink)) (fun _ z => by rw [← href]; exact z) (by rw [List.getElem?_map, hv]; rfl) hd (kk ad H locs ls h1 h2 h3 h4 h5)
theorem g_put (ok : gO X cc own Ts) {ref C : String} {T : u_T} {N ci index f o : Nat} {fs : List Value} {v : Value} {ty : FieldType} (hin : ∀ w ∈ u_ws C T N, w ∈ Ts) (ty0 : Nat → FieldType) (hty : ∀ k, k < N → parseFieldDescriptor (T k).2.2.1 = some (ty0 k)) (hnm : ∀ a, a < N → ∀ b, b < N → a ≠ b → (T a).2.1 ≠ (T b).2.1) (hc : vwCl[ci]? = some (C, T, N)) (hf : f < N) (hlink : Cond.fieldLink own index ref (T f).2.1 (T f).2.2.1 ∈ Ts) (href : (T f).1 = ref) (hfin : (T f).2.2.2 = false) (hds : parseFieldDescriptor (T f).2.2.1 = some ty) (hd : decode cc pc = .ok (.putfield index, 3)) (he : M[o]? = some (.inr (ci, fs))) (hl : f < fs.length) (hn : ∀ ad : Nat → Nat, narrow ty (mc_v ad v) = mc_v ad v ∧ fits ty (mc_v ad v) = true) (kk : gg X (M.set o (.inr (ci, fs.set f v))) k n (pc + 3) L st) : gg X M k n pc L (v :: .ref o :: st) := by
  obtain ⟨p, l, e, R, s, m, args, below, meth, c, nL, D, tc, A, n0, ad0, Q⟩ := X
  obtain ⟨hexec, hb, hml, hown, hts, hK, hA, hlk⟩ := ok
  intro ad H locs ls h1 h2 h3 h4 h5
  refine va_put hexec hb hts hin ty0 hty hnm hown hK h2 h3 h4 o (mc_at he) hc f hf (hts _ hlink) (fun _ z => by rw [← href]; exact z) hfin hds (hn ad).1 (hn ad).2 (by rw [List.length_map]; exact hl) hd (fun H1 locs1 q1 q2 q3 => ?_)
  have e0 : (mc_w tc ad M).set o (ad o, .inr (ci, (fs.map (mc_v ad)).set f (mc_v ad v))) = mc_w tc ad (M.set o (.inr (ci, fs.set f v))) := by
    rw [mc_set]
    show _ = (mc_w tc ad M).set o (ad o, .inr (ci, (fs.set f v).map (mc_v ad)))
    rw [List.map_set]
  rw [e0] at q1 q2
  exact kk ad H1 locs1 ls h1.set q1 q2 q3 h5
theorem g_putN (ok : gO X cc own Ts) {host : String} {ref C : String} {T : u_T} {N ci index f o : Nat} {fs : List Value} {v : Value} {ty : FieldType} (hin : ∀ w ∈ u_ws C T N, w ∈ Ts) (ty0 : Nat → FieldType) (hty : ∀ k, k < N → parseFieldDescriptor (T k).2.2.1 = some (ty0 k)) (hnm : ∀ a, a < N → ∀ b, b < N → a ≠ b → (T a).2.1 ≠ (T b).2.1) (hc : vwCl[ci]? = some (C, T, N)) (hf : f < N) (hlink : Cond.fieldLinkNest own index ref (T f).2.1 (T f).2.2.1 host ∈ yT) (href : (T f).1 = ref) (hfin : (T f).2.2.2 = false) (hds : parseFieldDescriptor (T f).2.2.1 = some ty) (hd : decode cc pc = .ok (.putfield index, 3)) (he : M[o]? = some (.inr (ci, fs))) (hl : f < fs.length) (hn : ∀ ad : Nat → Nat, narrow ty (mc_v ad v) = mc_v ad v ∧ fits ty (mc_v ad v) = true) (kk : gg X (M.set o (.inr (ci, fs.set f v))) k n (pc + 3) L st) : gg X M k n pc L (v :: .ref o :: st) := by
  obtain ⟨p, l, e, R, s, m, args, below, meth, c, nL, D, tc, A, n0, ad0, Q⟩ := X
  obtain ⟨hexec, hb, hml, hown, hts, hK, hA, hlk⟩ := ok
  intro ad H locs ls h1 h2 h3 h4 h5
  refine va_putN hexec hb hts hin ty0 hty hnm hown hK h2 h3 h4 o (mc_at he) hc f hf (va_Nw.use rfl (hlk.2.use _ hlink)) (fun _ z => by rw [← href]; exact z) hfin hds (hn ad).1 (hn ad).2 (by rw [List.length_map]; exact hl) hd (fun H1 locs1 q1 q2 q3 => ?_)
  have e0 : (mc_w tc ad M).set o (ad o, .inr (ci, (fs.map (mc_v ad)).set f (mc_v ad v))) = mc_w tc ad (M.set o (.inr (ci, fs.set f v))) := by
    rw [mc_set]
    show _ = (mc_w tc ad M).set o (ad o, .inr (ci, (fs.set f v).map (mc_v ad)))
    rw [List.map_set]
  rw [e0] at q1 q2
  exact kk ad H1 locs1 ls h1.set q1 q2 q3 h5
theorem g_putF (ok : gO X cc own Ts) {ref C : String} {T : u_T} {N ci index f o : Nat} {fs : List Value} {v : Value} {ty : FieldType} (hin : ∀ w ∈ u_ws C T N, w ∈ Ts) (ty0 : Nat → FieldType) (hty : ∀ k, k < N → parseFieldDescriptor (T k).2.2.1 = some (ty0 k)) (hnm : ∀ a, a < N → ∀ b, b < N → a ≠ b → (T a).2.1 ≠ (T b).2.1) (hc : vwCl[ci]? = some (C, T, N)) (hf : f < N) (hlink : Cond.fieldLink own index ref (T f).2.1 (T f).2.2.1 ∈ Ts) (href : (T f).1 = ref) (hfin : (T f).2.2.2 = true) (hin2 : (gM X).name = "<init>") (hdecl : (T f).1 = own) (hds : parseFieldDescriptor (T f).2.2.1 = some ty) (hd : decode cc pc = .ok (.putfield index, 3)) (he : M[o]? = some (.inr (ci, fs))) (hl : f < fs.length) (hn : ∀ ad : Nat → Nat, narrow ty (mc_v ad v) = mc_v ad v ∧ fits ty (mc_v ad v) = true) (kk : gg X (M.set o (.inr (ci, fs.set f v))) k n (pc + 3) L st) : gg X M k n pc L (v :: .ref o :: st) := by
  obtain ⟨p, l, e, R, s, m, args, below, meth, c, nL, D, tc, A, n0, ad0, Q⟩ := X
  obtain ⟨hexec, hb, hml, hown, hts, hK, hA, hlk⟩ := ok
  intro ad H locs ls h1 h2 h3 h4 h5
  refine va_putF hexec hb hts hin ty0 hty hnm hown hK h2 h3 h4 o (mc_at he) hc f hf (hts _ hlink) (fun _ z => by rw [← href]; exact z) hfin hin2 hdecl hds (hn ad).1 (hn ad).2 (by rw [List.length_map]; exact hl) hd (fun H1 locs1 q1 q2 q3 => ?_)
  have e0 : (mc_w tc ad M).set o (ad o, .inr (ci, (fs.map (mc_v ad)).set f (mc_v ad v))) = mc_w tc ad (M.set o (.inr (ci, fs.set f v))) := by
    rw [mc_set]
    show _ = (mc_w tc ad M).set o (ad o, .inr (ci, (fs.set f v).map (mc_v ad)))
    rw [List.map_set]
  rw [e0] at q1 q2
  exact kk ad H1 locs1 ls h1.set q1 q2 q3 h5
theorem g_iald (ok : gO X cc own Ts) {a t N : Nat} {f : Nat → Int32} {i : Int32} (ht : mTY[t]? = some .int) (hd : decode cc pc = .ok (.iaload, 1)) (he : M[a]? = some (.inl (t, N, .inl f))) (hi : vp_in i N) (kk : gg X M k n (pc + 1) L (.int (f i.toNatClampNeg) :: st)) : gg X M k n pc L (.int i :: .ref a :: st) := by
  obtain ⟨p, l, e, R, s, m, args, below, meth, c, nL, D, tc, A, n0, ad0, Q⟩ := X
  obtain ⟨hexec, hb, hml, hown, hts, hK, hA, hlk⟩ := ok
  intro ad H locs ls h1 h2 h3 h4 h5
  exact va_iald hexec hb hK h2 a t (mc_at he) (mc_ty ht) hi hd (kk ad H locs ls h1 h2 h3 h4 h5)
theorem g_zald (ok : gO X cc own Ts) {a t N : Nat} {f : Nat → Int32} {i : Int32} (ht : mTY[t]? = some .boolean) (hd : decode cc pc = .ok (.baload, 1)) (he : M[a]? = some (.inl (t, N, .inl f))) (hi : vp_in i N) (kk : gg X M k n (pc + 1) L (.int (f i.toNatClampNeg) :: st)) : gg X M k n pc L (.int i :: .ref a :: st) := by
  obtain ⟨p, l, e, R, s, m, args, below, meth, c, nL, D, tc, A, n0, ad0, Q⟩ := X
  obtain ⟨hexec, hb, hml, hown, hts, hK, hA, hlk⟩ := ok
  intro ad H locs ls h1 h2 h3 h4 h5
  exact va_zald hexec hb hK h2 a t (mc_at he) (mc_ty ht) hi hd (kk ad H locs ls h1 h2 h3 h4 h5)
theorem g_bald (ok : gO X cc own Ts) {a t N : Nat} {f : Nat → Int32} {i : Int32} (ht : mTY[t]? = some .byte) (hd : decode cc pc = .ok (.baload, 1)) (he : M[a]? = some (.inl (t, N, .inl f))) (hi : vp_in i N) (kk : gg X M k n (pc + 1) L (.int (f i.toNatClampNeg) :: st)) : gg X M k n pc L (.int i :: .ref a :: st) := by
  obtain ⟨p, l, e, R, s, m, args, below, meth, c, nL, D, tc, A, n0, ad0, Q⟩ := X
  obtain ⟨hexec, hb, hml, hown, hts, hK, hA, hlk⟩ := ok
  intro ad H locs ls h1 h2 h3 h4 h5
  exact va_bald hexec hb hK h2 a t (mc_at he) (mc_ty ht) hi hd (kk ad H locs ls h1 h2 h3 h4 h5)
theorem g_cald (ok : gO X cc own Ts) {a t N : Nat} {f : Nat → Int32} {i : Int32} (ht : mTY[t]? = some .char) (hd : decode cc pc = .ok (.caload, 1)) (he : M[a]? = some (.inl (t, N, .inl f))) (hi : vp_in i N) (kk : gg X M k n (pc + 1) L (.int (f i.toNatClampNeg) :: st)) : gg X M k n pc L (.int i :: .ref a :: st) := by
  obtain ⟨p, l, e, R, s, m, args, below, meth, c, nL, D, tc, A, n0, ad0, Q⟩ := X
  obtain ⟨hexec, hb, hml, hown, hts, hK, hA, hlk⟩ := ok
  intro ad H locs ls h1 h2 h3 h4 h5
  exact va_cald hexec hb hK h2 a t (mc_at he) (mc_ty ht) hi hd (kk ad H locs ls h1 h2 h3 h4 h5)
theorem g_sald (ok : gO X cc own Ts) {a t N : Nat} {f : Nat → Int32} {i : Int32} (ht : mTY[t]? = some .short) (hd : decode cc pc = .ok (.saload, 1)) (he : M[a]? = some (.inl (t, N, .inl f))) (hi : vp_in i N) (kk : gg X M k n (pc + 1) L (.int (f i.toNatClampNeg) :: st)) : gg X M k n pc L (.int i :: .ref a :: st) := by
  obtain ⟨p, l, e, R, s, m, args, below, meth, c, nL, D, tc, A, n0, ad0, Q⟩ := X
  obtain ⟨hexec, hb, hml, hown, hts, hK, hA, hlk⟩ := ok
  intro ad H locs ls h1 h2 h3 h4 h5
  exact va_sald hexec hb hK h2 a t (mc_at he) (mc_ty ht) hi hd (kk ad H locs ls h1 h2 h3 h4 h5)
theorem g_lald (ok : gO X cc own Ts) {a t N : Nat} {f : Nat → Int64} {i : Int32} (ht : mTY[t]? = some .long) (hd : decode cc pc = .ok (.laload, 1)) (he : M[a]? = some (.inl (t, N, .inr (.inl f)))) (hi : vp_in i N) (kk : gg X M k n (pc + 1) L (.long (f i.toNatClampNeg) :: st)) : gg X M k n pc L (.int i :: .ref a :: st) := by
  obtain ⟨p, l, e, R, s, m, args, below, meth, c, nL, D, tc, A, n0, ad0, Q⟩ := X
  obtain ⟨hexec, hb, hml, hown, hts, hK, hA, hlk⟩ := ok
  intro ad H locs ls h1 h2 h3 h4 h5
  exact va_lald hexec hb hK h2 a t (mc_at he) (mc_ty ht) hi hd (kk ad H locs ls h1 h2 h3 h4 h5)
theorem g_aald (ok : gO X cc own Ts) {a t N o : Nat} {E : String} {f : Nat → Option Nat} {i : Int32} (ht : mTY[t]? = some (.object E)) (hd : decode cc pc = .ok (.aaload, 1)) (he : M[a]? = some (.inl (t, N, .inr (.inr (.inr (.inr f)))))) (hi : vp_in i N) (hv : f i.toNatClampNeg = some o) (kk : gg X M k n (pc + 1) L (.ref o :: st)) : gg X M k n pc L (.int i :: .ref a :: st) := by
  obtain ⟨p, l, e, R, s, m, args, below, meth, c, nL, D, tc, A, n0, ad0, Q⟩ := X
  obtain ⟨hexec, hb, hml, hown, hts, hK, hA, hlk⟩ := ok
  intro ad H locs ls h1 h2 h3 h4 h5
  refine va_aldq hexec hb hK h2 a t (mc_at he) (mc_ty ht) hi hd ?_
  rw [hv]
  exact kk ad H locs ls h1 h2 h3 h4 h5
theorem g_iast (ok : gO X cc own Ts) {a t N : Nat} {f : Nat → Int32} {i : Int32} {x : Int32} (ht : mTY[t]? = some .int) (hd : decode cc pc = .ok (.iastore, 1)) (he : M[a]? = some (.inl (t, N, .inl f))) (hi : vp_in i N) (kk : gg X (M.set a (.inl (t, N, .inl (upd f i.toNatClampNeg x)))) k n (pc + 1) L st) : gg X M k n pc L (.int x :: .int i :: .ref a :: st) := by
  obtain ⟨p, l, e, R, s, m, args, below, meth, c, nL, D, tc, A, n0, ad0, Q⟩ := X
  obtain ⟨hexec, hb, hml, hown, hts, hK, hA, hlk⟩ := ok
  intro ad H locs ls h1 h2 h3 h4 h5
  refine va_iast hexec hb hK h2 h3 h4 a t (mc_at he) (mc_ty ht) hi hd (fun H1 locs1 q1 q2 q3 => ?_)
  have e0 := (mc_set tc ad M a (.inl (t, N, .inl (upd f i.toNatClampNeg x)))).symm
  exact kk ad H1 locs1 ls h1.set (e0 ▸ q1) (e0 ▸ q2) q3 h5
theorem g_zast (ok : gO X cc own Ts) {a t N : Nat} {f : Nat → Int32} {i : Int32} {x : Int32} (ht : mTY[t]? = some .boolean) (hd : decode cc pc = .ok (.bastore, 1)) (he : M[a]? = some (.inl (t, N, .inl f))) (hi : vp_in i N) (kk : gg X (M.set a (.inl (t, N, .inl (upd f i.toNatClampNeg (vp_nar .boolean x))))) k n (pc + 1) L st) : gg X M k n pc L (.int x :: .int i :: .ref a :: st) := by
  obtain ⟨p, l, e, R, s, m, args, below, meth, c, nL, D, tc, A, n0, ad0, Q⟩ := X
  obtain ⟨hexec, hb, hml, hown, hts, hK, hA, hlk⟩ := ok
  intro ad H locs ls h1 h2 h3 h4 h5
  refine va_zast hexec hb hK h2 h3 h4 a t (mc_at he) (mc_ty ht) hi hd (fun H1 locs1 q1 q2 q3 => ?_)
  have e0 := (mc_set tc ad M a (.inl (t, N, .inl (upd f i.toNatClampNeg (vp_nar .boolean x))))).symm
  exact kk ad H1 locs1 ls h1.set (e0 ▸ q1) (e0 ▸ q2) q3 h5
theorem g_bast (ok : gO X cc own Ts) {a t N : Nat} {f : Nat → Int32} {i : Int32} {x : Int32} (ht : mTY[t]? = some .byte) (hd : decode cc pc = .ok (.bastore, 1)) (he : M[a]? = some (.inl (t, N, .inl f))) (hi : vp_in i N) (kk : gg X (M.set a (.inl (t, N, .inl (upd f i.toNatClampNeg (vp_nar .byte x))))) k n (pc + 1) L st) : gg X M k n pc L (.int x :: .int i :: .ref a :: st) := by
  obtain ⟨p, l, e, R, s, m, args, below, meth, c, nL, D, tc, A, n0, ad0, Q⟩ := X
  obtain ⟨hexec, hb, hml, hown, hts, hK, hA, hlk⟩ := ok
  intro ad H locs ls h1 h2 h3 h4 h5
  refine va_bast hexec hb hK h2 h3 h4 a t (mc_at he) (mc_ty ht) hi hd (fun H1 locs1 q1 q2 q3 => ?_)
  have e0 := (mc_set tc ad M a (.inl (t, N, .inl (upd f i.toNatClampNeg (vp_nar .byte x))))).symm
  exact kk ad H1 locs1 ls h1.set (e0 ▸ q1) (e0 ▸ q2) q3 h5
theorem g_cast (ok : gO X cc own Ts) {a t N : Nat} {f : Nat → Int32} {i : Int32} {x : Int32} (ht : mTY[t]? = some .char) (hd : decode cc pc = .ok (.castore, 1)) (he : M[a]? = some (.inl (t, N, .inl f))) (hi : vp_in i N) (kk : gg X (M.set a (.inl (t, N, .inl (upd f i.toNatClampNeg (vp_nar .char x))))) k n (pc + 1) L st) : gg X M k n pc L (.int x :: .int i :: .ref a :: st) := by
  obtain ⟨p, l, e, R, s, m, args, below, meth, c, nL, D, tc, A, n0, ad0, Q⟩ := X
  obtain ⟨hexec, hb, hml, hown, hts, hK, hA, hlk⟩ := ok
  intro ad H locs ls h1 h2 h3 h4 h5
  refine va_cast hexec hb hK h2 h3 h4 a t (mc_at he) (mc_ty ht) hi hd (fun H1 locs1 q1 q2 q3 => ?_)
  have e0 := (mc_set tc ad M a (.inl (t, N, .inl (upd f i.toNatClampNeg (vp_nar .char x))))).symm
  exact kk ad H1 locs1 ls h1.set (e0 ▸ q1) (e0 ▸ q2) q3 h5
theorem g_sast (ok : gO X cc own Ts) {a t N : Nat} {f : Nat → Int32} {i : Int32} {x : Int32} (ht : mTY[t]? = some .short) (hd : decode cc pc = .ok (.sastore, 1)) (he : M[a]? = some (.inl (t, N, .inl f))) (hi : vp_in i N) (kk : gg X (M.set a (.inl (t, N, .inl (upd f i.toNatClampNeg (vp_nar .short x))))) k n (pc + 1) L st) : gg X M k n pc L (.int x :: .int i :: .ref a :: st) := by
  obtain ⟨p, l, e, R, s, m, args, below, meth, c, nL, D, tc, A, n0, ad0, Q⟩ := X
  obtain ⟨hexec, hb, hml, hown, hts, hK, hA, hlk⟩ := ok
  intro ad H locs ls h1 h2 h3 h4 h5
  refine va_sast hexec hb hK h2 h3 h4 a t (mc_at he) (mc_ty ht) hi hd (fun H1 locs1 q1 q2 q3 => ?_)
  have e0 := (mc_set tc ad M a (.inl (t, N, .inl (upd f i.toNatClampNeg (vp_nar .short x))))).symm
  exact kk ad H1 locs1 ls h1.set (e0 ▸ q1) (e0 ▸ q2) q3 h5
theorem g_last (ok : gO X cc own Ts) {a t N : Nat} {f : Nat → Int64} {i : Int32} {x : Int64} (ht : mTY[t]? = some .long) (hd : decode cc pc = .ok (.lastore, 1)) (he : M[a]? = some (.inl (t, N, .inr (.inl f)))) (hi : vp_in i N) (kk : gg X (M.set a (.inl (t, N, .inr (.inl (vp_updL f i.toNatClampNeg x))))) k n (pc + 1) L st) : gg X M k n pc L (.long x :: .int i :: .ref a :: st) := by
  obtain ⟨p, l, e, R, s, m, args, below, meth, c, nL, D, tc, A, n0, ad0, Q⟩ := X
  obtain ⟨hexec, hb, hml, hown, hts, hK, hA, hlk⟩ := ok
  intro ad H locs ls h1 h2 h3 h4 h5
  refine va_last hexec hb hK h2 h3 h4 a t (mc_at he) (mc_ty ht) hi hd (fun H1 locs1 q1 q2 q3 => ?_)
  have e0 := (mc_set tc ad M a (.inl (t, N, .inr (.inl (vp_updL f i.toNatClampNeg x))))).symm
  exact kk ad H1 locs1 ls h1.set (e0 ▸ q1) (e0 ▸ q2) q3 h5
theorem g_aast (ok : gO X cc own Ts) {a t N ci o : Nat} {r : vw_C} {vs : List Value} {f : Nat → Option Nat} {i : Int32} (ht : mTY[t]? = some (.object r.1)) (hc : vwCl[ci]? = some r) (hd : decode cc pc = .ok (.aastore, 1)) (he : M[a]? = some (.inl (t, N, .inr (.inr (.inr (.inr f)))))) (hv : M[o]? = some (.inr (ci, vs))) (hi : vp_in i N) (kk : gg X (M.set a (.inl (t, N, .inr (.inr (.inr (.inr (va_up f i.toNatClampNeg (some o)))))))) k n (pc + 1) L st) : gg X M k n pc L (.ref o :: .int i :: .ref a :: st) := by
  obtain ⟨p, l, e, R, s, m, args, below, meth, c, nL, D, tc, A, n0, ad0, Q⟩ := X
  obtain ⟨hexec, hb, hml, hown, hts, hK, hA, hlk⟩ := ok
  intro ad H locs ls h1 h2 h3 h4 h5
  refine va_astq hexec hb hK h2 h3 h4 a t o ci (mc_at he) (mc_ty ht) (mc_at hv) hc hi hd (fun H1 locs1 q1 q2 q3 => ?_)
  have e1 : (va_up (fun j => (f j).map ad) i.toNatClampNeg (some (ad o))) = (fun j => (va_up f i.toNatClampNeg (some o) j).map ad) := by
    funext j
    unfold va_up
    split <;> rfl
  have e0 : (mc_w tc ad M).set a (ad a, .inl (tc t, N, .inr (.inr (.inr (.inr (va_up (fun j => (f j).map ad) i.toNatClampNeg (some (ad o)))))))) = mc_w tc ad (M.set a (.inl (t, N, .inr (.inr (.inr (.inr (va_up f i.toNatClampNeg (some o)))))))) := by
    rw [mc_set, e1]
    rfl
  rw [e0] at q1 q2
  exact kk ad H1 locs1 ls h1.set q1 q2 q3 h5
theorem g_alen (ok : gO X cc own Ts) {a t : Nat} {ty : FieldType} {x : vp_A} {v : Int32} (ht : mTY[t]? = some ty) (hd : decode cc pc = .ok (.arraylength, 1)) (he : M[a]? = some (.inl (t, x))) (hv : Int32.ofNat x.1 = v) (kk : gg X M k n (pc + 1) L (.int v :: st)) : gg X M k n pc L (.ref a :: st) := by
  obtain ⟨p, l, e, R, s, m, args, below, meth, c, nL, D, tc, A, n0, ad0, Q⟩ := X
  obtain ⟨hexec, hb, hml, hown, hts, hK, hA, hlk⟩ := ok
  intro ad H locs ls h1 h2 h3 h4 h5
  refine va_alen hexec hb hK h2 a t (mc_at he) (mc_ty ht) (v := v) ?_ hd (kk ad H locs ls h1 h2 h3 h4 h5)
  rw [← hv]
  rcases x with ⟨q, f | f | f | f | f⟩ <;> rfl
end GH
end
section
/-! CONTRACTS over mini worlds -/
def mq_ (D : va_G) (tc : Nat → ClassId) (M : List mC) (ad : Nat → Nat) (sz : Nat) (post : Option Value → List mC → Prop) : Array Value → State → Outcome → State → Prop := fun _ st oc t =>
  (∃ (r : Option Value) (M' : List mC) (ad' : Nat → Nat), oc = .returned (r.map (mc_v ad')) ∧ post r M' ∧ g_ag M.length ad M' ad' ∧ va_P D vwCl (mc_w tc ad' M') t.heap ∧ va_D (va_A (mc_w tc ad M) sz) (mc_w tc ad' M')) ∧ va_F (va_A (mc_w tc ad M) sz) st t
def mp_ (D : va_G) (tc : Nat → ClassId) (As : List Value) (M : List mC) (ad : Nat → Nat) (sz : Nat) : Array Value → State → Prop :=
  va_Pc (As.map (mc_v ad)) (fun U => U.heap.size = sz ∧ va_P D vwCl (mc_w tc ad M) U.heap ∧ va_K D vwCl (mc_t tc) U ∧ va_D (fun _ => True) (mc_w tc ad M) ∧ mY (va_A (mc_w tc ad M) sz) U U.heap)
/-- method y, called with As in the world M: it returns r, and the world is M', with 'post r M'' -/
def mm_ (l : Launch) (y : MethodName) (ws : List Cond) (rm : Room) (As : List Value) (M : List mC) (post : Option Value → List mC → Prop) : Prop :=
  ∀ (D : va_G) (tc : Nat → ClassId) (ad : Nat → Nat) (sz : Nat), Met l y ws rm (mp_ D tc As M ad sz) (mq_ D tc M ad sz post) rm.cells rm.slots (va_A (mc_w tc ad M) sz)
theorem mp_blind (D : va_G) (tc : Nat → ClassId) (As : List Value) (M : List mC) (ad : Nat → Nat) (sz : Nat) : FrameBlind (mp_ D tc As M ad sz) := fun _ U g mk ⟨q0, q1, q2, q3, q4, q5⟩ =>
  ⟨q0, q1, q2, va_K.moved (u := U) (U := U.calling g mk _) (Vm.Alike.refl U.vm) q3, q4, q5⟩
section WF
variable {p : Program} {l : Launch} {e : Env} {R : Room} {s : State} {m : MethodId} {args : Array Value} {below : List Frame} {meth : Method} {c : Code} {H : Heap} {locs : List Loc} {k n : Nat} {Q : State → Prop}
variable {D : va_G} {tc : Nat → ClassId} {A : Nat → Prop} {n0 : Nat} {ad0 ad : Nat → Nat} {M : List mC} {nL pc : Nat} {L : List (Nat × Value)} {ls : Array Slot} {st0 rest : List Value} {mc ms : Nat} {a : Array Value} {post : Option Value → List mC → Prop}
theorem w_sub (h3 : va_D A (mc_w tc ad M)) (h4 : va_S A s.heap H locs) (hA : ∀ q, s.heap.size ≤ q → A q) : ∀ q, va_A (mc_w tc ad M) H.size q → A q := fun q h => by
  rcases h with ⟨i, e, h⟩ | h
  · exact h3.2 i (q, e) h
  · exact hA q (Nat.le_trans h4.1 h)
/-- what a callee is given -/
theorem w_pre {As : List Value} (h2 : va_P D vwCl (mc_w tc ad M) H) (h3 : va_D A (mc_w tc ad M)) (h4 : va_S A s.heap H locs) (hA : ∀ q, s.heap.size ≤ q → A q) (hK : va_K D vwCl (mc_t tc) s) (hY : mY A s s.heap) (U : State) (hU : U.heap = H) (hW : s.WarmedH U.vm) : mp_ D tc As M ad H.size (As.map (mc_v ad)).toArray U :=
  ⟨rfl, by rw [hU], by rw [hU]; exact h2, va_K.moved hW.alike hK, h3.weaken (fun _ _ _ _ => trivial), hY.on h4 (w_sub h3 h4 hA) hW hU⟩
/-- behind a call that makes no cell of the world -/
theorem w_fin (hr : va_Run p l e R s m args below meth c H locs k n mc ms (F0 m pc ls st0) (rest.map (mc_v ad)) (mq_ D tc M ad H.size post a) (va_A (mc_w tc ad M) H.size))
    (h1 : g_ag n0 ad0 M ad) (h3 : va_D A (mc_w tc ad M)) (h4 : va_S A s.heap H locs) (hA : ∀ q, s.heap.size ≤ q → A q) (h5 : lv_has ls nL (mc_l ad L))
    (hlen : ∀ r M', post r M' → M'.length = M.length)
    (kk : ∀ r M', post r M' → ∀ (ad : Nat → Nat) (H : Heap) (locs : List Loc) (ls : Array Slot), g_ag n0 ad0 M' ad → va_P D vwCl (mc_w tc ad M') H → va_D A (mc_w tc ad M') → va_S A s.heap H locs → lv_has ls nL (mc_l ad L) → W p l e R s m args below meth c H locs (k + mc) (n + ms) Q (F0 m (pc + 3) ls ((r.toList ++ rest).map (mc_v ad)))) :
    W p l e R s m args below meth c H locs k n Q (F0 m pc ls st0) := by
  have hf := w_sub h3 h4 hA
  intro T hT X
  obtain ⟨v, st₀, t, T', Ls, e0, X', hL, e1, e2, ⟨⟨r, M', ad', hv, hp, hg, hP', hD'⟩, hz, hk⟩, go⟩ := hr T hT X
  rw [e0] at hz hk
  have hl := hlen r M' hp
  have had : ad' = ad := hg.2.2 hl
  subst had
  have hv' : v = r.map (mc_v ad') := by cases hv; rfl
  have k3 : va_S A s.heap T'.heap (locs ++ Ls) := ⟨Nat.le_trans h4.1 (by rw [e1]; exact hz), fun q q1 q2 => by rw [e1, hk q (Nat.lt_of_lt_of_le q1 h4.1) (fun z => q2 (hf q z))]; exact h4.2.1 q q1 q2, fun q hq => by
    rcases List.mem_append.mp hq with h | h
    · exact h4.2.2 q h
    · exact hf _ (hL q h)⟩
  obtain ⟨t2, a1, b1⟩ := kk r M' hp ad' T'.heap (locs ++ Ls) ls ⟨by rw [hl]; exact h1.1, h1.2.1, fun z => h1.2.2 (hl ▸ z)⟩ (by rw [e1]; exact hP') (hD'.weaken (fun _ q _ h => hf q.1 h)) k3 h5 T' rfl X'
  refine ⟨t2, go t2 ?_, b1⟩
  have e9 : (r.toList ++ rest).map (mc_v ad') = v.toList ++ rest.map (mc_v ad') := by
    rw [hv', List.map_append]
    cases r <;> rfl
  rw [e9] at a1
  exact a1
theorem w_cat (ad : Nat → Nat) (rest : List Value) : ((rest.map (mc_v ad)).map fun v => v.category).sum = (rest.map fun v => v.category).sum := by
  rw [List.map_map]
  congr 1
  exact List.map_congr_left (fun v _ => mc_v_cat ad v)
end WF
/-- the words of a method of ours -/
def wsM (y : MethodName) (b : ByteArray) (nl : Nat) (ret : Option FieldType) : List Cond := Cond.code y b nl ret :: gT
theorem wsM_good {y y' : MethodName} {b b' : ByteArray} {nl nl' : Nat} {ret ret' : Option FieldType} (h : Cond.code y' b' nl' ret' ∈ gT) : GoodIn (wsM y b nl ret) (wsM y' b' nl' ret') := by
  have key : ∀ w ∈ gT, w ∈ wsM y b nl ret ∧ ((w.onTables && w.keeps) = true ∨ ∃ ty, w = .arrayClass ty) := fun w hw => ⟨List.mem_cons_of_mem _ hw, good_of_word (List.mem_filter.mp hw).2⟩
  intro w hw
  rcases List.mem_cons.mp hw with rfl | hw
  · exact key _ h
  · exact key _ hw
section GC
variable {X : gC} {cc : ByteArray} {own : String} {M : List mC} {k n pc : Nat} {L : List (Nat × Value)} {st rest : List Value} {y0 y : MethodName} {b0 b : ByteArray} {nl0 nl : Nat} {ret0 ret : Option FieldType} {rm : Room} {As : List Value} {post : Option Value → List mC → Prop} {index o : Nat}
/-- what a call asks of the caller's room -/
def gF (X : gC) (rm : Room) (nl k n : Nat) : Prop := rm.frames + 1 ≤ (gR X).frames ∧ 8 + (nl + 11) + rm.locals ≤ (gR X).locals ∧ k + rm.cells ≤ (gR X).cells ∧ n + rm.slots ≤ (gR X).slots
theorem g_callV (ok : gO X cc own (wsM y0 b0 nl0 ret0)) {ci : Nat} {fs : List Value} {C : String} {T : u_T} {N : Nat} (hM : mm_ (gLa X) y (wsM y b nl ret) rm (.ref o :: As) M post) (hcode : Cond.code y b nl ret ∈ gT) (hlink : Cond.methodLink own index y ∈ gT) (hinst : Cond.instanceMethod y ∈ gT) (hsel : Cond.selects C y y ∈ gT) (hini : Cond.initialized C ∈ gT)
    (hd : y.cls = C ∧ y.cls ≠ "java/lang/invoke/MethodHandle" ∧ y.cls ≠ "java/lang/invoke/VarHandle" ∧ (parseMethodDescriptor y.desc).map (fun d => d.parameters.length) = some As.length)
    (hc : vwCl[ci]? = some (C, T, N)) (hdg : decode cc pc = .ok (.invokevirtual index, 3)) (hst : As.reverse ++ .ref o :: rest = st) (hrest : (rest.map fun v => v.category).sum ≤ 8) (hR : gF X rm nl k n) (he : M[o]? = some (.inr (ci, fs))) (hlen : ∀ r M', post r M' → M'.length = M.length)
    (kk : ∀ r M', post r M' → gg X M' (k + rm.cells) (n + rm.slots) (pc + 3) L (r.toList ++ rest)) : gg X M k n pc L st := by
  obtain ⟨p, l, e, R, s, m, args, below, meth, c, nL, D, tc, A, n0, ad0, Q⟩ := X
  obtain ⟨hexec, hb, hml, hown, hts, hK, hA, hlk, hY⟩ := ok
  intro ad H locs ls h1 h2 h3 h4 h5
  subst hst
  have hG : GoodIn (wsM y0 b0 nl0 ret0) (wsV own index C y (wsM y b nl ret)) := by
    intro w hw
    unfold wsV at hw
    rcases List.mem_append.mp hw with hw | hw
    · have hw' : w ∈ gT := by
        simp only [List.mem_cons, List.not_mem_nil, or_false] at hw
        rcases hw with rfl | rfl | rfl | rfl
        · exact hlink
        · exact hinst
        · exact hsel
        · exact hini
      exact ⟨List.mem_cons_of_mem _ hw', good_of_word (List.mem_filter.mp hw').2⟩
    · exact wsM_good hcode w hw
  refine w_fin (va_runV (As := As.map (mc_v ad)) (rest := rest.map (mc_v ad)) (b := ad o) (n := As.length) ⟨hexec, hb, hml, hown, hts⟩ (hM D tc ad H.size) (cwV As.length hts hG rfl rfl rfl hd ⟨hR.1, hR.2.1⟩) ⟨mp_blind D tc _ M ad H.size, va_recv hK h2 hc (mc_at he), fun U hU hW => w_pre h2 h3 h4 hA hK hY U hU hW⟩ rfl (by rw [List.length_map]) h5.1 ?_ ?_ hdg ⟨hR.2.2.1, hR.2.2.2⟩) h1 h3 h4 hA h5 hlen (fun r M' hp => kk r M' hp)
  · show (As.reverse ++ Value.ref o :: rest).map (mc_v ad) = _
    rw [List.map_append, List.map_reverse]
    rfl
  · show 2 * (F0 m pc ls _).monitorRoom + _ ≤ 8
    rw [w_cat]
    simpa [JFrame.monitorRoom] using hrest
end GC
end
section
/-! ENTRY AND RETURN -/
theorem ml_args (ad : Nat → Nat) : ∀ (As : List Value) (i : Nat), mc_l ad (lv_args i As) = lv_args i (As.map (mc_v ad))
  | [], _ => rfl
  | v :: r, i => by
    simp only [lv_args, mc_l, List.map_cons, mc_v_cat]
    congr 1
    exact ml_args ad r _
def gE (X : gC) (l9 : Launch) (y : MethodName) (rm : Room) (nl : Nat) (ret : Option FieldType) (M0 : List mC) (post : Option Value → List mC → Prop) : Prop := match X with
  | (p, l, e, R, s, m, args, below, meth, c, nL, D, tc, A, n0, ad0, Q) => l = l9 ∧ R = rm ∧ nL = nl ∧ A = va_A (mc_w tc ad0 M0) s.heap.size ∧ n0 = M0.length ∧ Q = MQ below (mq_ D tc M0 ad0 s.heap.size post) args s rm.cells rm.slots A ∧ meth.sig.returnType = ret ∧ meth.name = y.name
theorem mm_intro {l : Launch} {y : MethodName} {b : ByteArray} {nl : Nat} {ret : Option FieldType} {rm : Room} {As : List Value} {M : List mC} {post : Option Value → List mC → Prop} (hy : plainName y.cls = true) (hn : (lg_sl As).length ≤ nl) (hcode : Cond.code y b nl ret ∈ gT)
    (body : ∀ X : gC, gO X b y.cls (wsM y b nl ret) → gE X l y rm nl ret M post → gg X M 0 0 0 (lv_args 0 As) []) : mm_ l y (wsM y b nl ret) rm As M post := by
  intro D tc ad sz
  refine Met.ofW (cc := b) (maxL := nl) (ret := ret) hy rfl ?_
  intro p e s m args below meth c s₁ B hml hv
  obtain ⟨rfl, hsz, hP, hK, hD0, hY⟩ := hv
  subst hsz
  have hts := atoms_spec (ws := wsM y b nl ret) B.pre
  have hown : s.vm.findClass y.cls = some m.cls := findClass_of_methodNamed B.named
  have hD := hD0.self (sz := s.heap.size)
  have hlen : (lg_sl (As.map (mc_v ad))).length ≤ nl := by
    have e : ∀ vs : List Value, (lg_sl (vs.map (mc_v ad))).length = (lg_sl vs).length := by
      intro vs
      induction vs with
      | nil => rfl
      | cons v r ih =>
        simp only [lg_sl, List.map_cons, List.flatMap_cons, List.length_append, mc_v_cat] at ih ⊢
        rw [ih]
        congr 1
        split <;> rfl
    rw [e]
    exact hn
  have hl := lv_entry (As.map (mc_v ad)) (n := nl) hlen
  have K := body (p, l, e, rm, s, m, (As.map (mc_v ad)).toArray, below, meth, c, nl, D, tc, va_A (mc_w tc ad M) s.heap.size, M.length, ad, MQ below (mq_ D tc M ad s.heap.size post) (As.map (mc_v ad)).toArray s rm.cells rm.slots (va_A (mc_w tc ad M) s.heap.size))
    ⟨B.exec, B.bytes, hml, hown, hts, hK, fun q h => Or.inr h, B.notSynchronized, hY⟩ ⟨rfl, rfl, rfl, rfl, rfl, rfl, B.returns, (name_of_methodNamed B.named B.method).1⟩
    ad s.heap [] _ ⟨Nat.le_refl _, fun _ _ => rfl, fun _ => rfl⟩ hP hD va_S.rf (by rw [ml_args]; exact hl)
  rw [lg_entry_eq]
  exact K
section GRET
variable {X : gC} {cc : ByteArray} {own : String} {Ts : List Cond} {M M0 : List mC} {k n pc : Nat} {L : List (Nat × Value)} {l9 : Launch} {y : MethodName} {rm : Room} {nl : Nat} {post : Option Value → List mC → Prop}
theorem g_iret (ok : gO X cc own Ts) {x : Int32} (E : gE X l9 y rm nl (some .int) M0 post) (hd : decode cc pc = .ok (.ireturn, 1)) (hp : post (some (.int x)) M) (hk : k ≤ rm.cells) (hn : n ≤ rm.slots) : gg X M k n pc L [.int x] := by
  obtain ⟨p, l, e, R, s, m, args, below, meth, c, nL, D, tc, A, n0, ad0, Q⟩ := X
  obtain ⟨hexec, hb, hml, hown, hts, hK, hA, hlk, hY⟩ := ok
  obtain ⟨rfl, rfl, rfl, rfl, rfl, rfl, hr, hnm⟩ := E
  intro ad H locs ls h1 h2 h3 h4 h5
  refine W.widen (k := R.cells) (n := R.slots) hk hn ?_
  exact W.iret hexec hb hr (fun t ht hW => ⟨⟨some (.int x), M, ad, rfl, hp, h1, by rw [ht]; exact h2, h3⟩, h4.F ht⟩) (fun q hq => h4.2.2 q hq) hd hlk
theorem g_lret (ok : gO X cc own Ts) {x : Int64} (E : gE X l9 y rm nl (some .long) M0 post) (hd : decode cc pc = .ok (.lreturn, 1)) (hp : post (some (.long x)) M) (hk : k ≤ rm.cells) (hn : n ≤ rm.slots) : gg X M k n pc L [.long x] := by
  obtain ⟨p, l, e, R, s, m, args, below, meth, c, nL, D, tc, A, n0, ad0, Q⟩ := X
  obtain ⟨hexec, hb, hml, hown, hts, hK, hA, hlk, hY⟩ := ok
  obtain ⟨rfl, rfl, rfl, rfl, rfl, rfl, hr, hnm⟩ := E
  intro ad H locs ls h1 h2 h3 h4 h5
  refine W.widen (k := R.cells) (n := R.slots) hk hn ?_
  exact W.lret hexec hb hr (fun t ht hW => ⟨⟨some (.long x), M, ad, rfl, hp, h1, by rw [ht]; exact h2, h3⟩, h4.F ht⟩) (fun q hq => h4.2.2 q hq) hd hlk
theorem g_vret (ok : gO X cc own Ts) (E : gE X l9 y rm nl none M0 post) (hd : decode cc pc = .ok (.return_, 1)) (hp : post (none) M) (hk : k ≤ rm.cells) (hn : n ≤ rm.slots) : gg X M k n pc L [] := by
  obtain ⟨p, l, e, R, s, m, args, below, meth, c, nL, D, tc, A, n0, ad0, Q⟩ := X
  obtain ⟨hexec, hb, hml, hown, hts, hK, hA, hlk, hY⟩ := ok
  obtain ⟨rfl, rfl, rfl, rfl, rfl, rfl, hr, hnm⟩ := E
  intro ad H locs ls h1 h2 h3 h4 h5
  refine W.widen (k := R.cells) (n := R.slots) hk hn ?_
  exact W.vret hexec hb hr (fun t ht hW => ⟨⟨none, M, ad, rfl, hp, h1, by rw [ht]; exact h2, h3⟩, h4.F ht⟩) (fun q hq => h4.2.2 q hq) hd hlk
theorem g_zret (ok : gO X cc own Ts) {x : Int32} (E : gE X l9 y rm nl (some .boolean) M0 post) (hd : decode cc pc = .ok (.ireturn, 1)) (hz : narrow .boolean (.int x) = .int x) (hp : post (some (.int x)) M) (hk : k ≤ rm.cells) (hn : n ≤ rm.slots) : gg X M k n pc L [.int x] := by
  obtain ⟨p, l, e, R, s, m, args, below, meth, c, nL, D, tc, A, n0, ad0, Q⟩ := X
  obtain ⟨hexec, hb, hml, hown, hts, hK, hA, hlk, hY⟩ := ok
  obtain ⟨rfl, rfl, rfl, rfl, rfl, rfl, hr, hnm⟩ := E
  intro ad H locs ls h1 h2 h3 h4 h5
  refine W.widen (k := R.cells) (n := R.slots) hk hn ?_
  exact W.zret hexec hb hr hz (fun t ht hW => ⟨⟨some (.int x), M, ad, rfl, hp, h1, by rw [ht]; exact h2, h3⟩, h4.F ht⟩) (fun q hq => h4.2.2 q hq) hd hlk
theorem g_aret (ok : gO X cc own Ts) {o : Nat} {rt : FieldType} (E : gE X l9 y rm nl (some rt) M0 post) (hd : decode cc pc = .ok (.areturn, 1)) (hrt : (∃ n, rt = .object n) ∨ ∃ t, rt = .array t) (hp : post (some (.ref o)) M) (hk : k ≤ rm.cells) (hn : n ≤ rm.slots) : gg X M k n pc L [.ref o] := by
  obtain ⟨p, l, e, R, s, m, args, below, meth, c, nL, D, tc, A, n0, ad0, Q⟩ := X
  obtain ⟨hexec, hb, hml, hown, hts, hK, hA, hlk, hY⟩ := ok
  obtain ⟨rfl, rfl, rfl, rfl, rfl, rfl, hr, hnm⟩ := E
  intro ad H locs ls h1 h2 h3 h4 h5
  refine W.widen (k := R.cells) (n := R.slots) hk hn ?_
  exact W.aret hexec hb hr hrt (Or.inr ⟨_, rfl⟩) (fun t ht hW => ⟨⟨some (.ref o), M, ad, rfl, hp, h1, by rw [ht]; exact h2, h3⟩, h4.F ht⟩) (fun q hq => h4.2.2 q hq) hd hlk
end GRET
theorem ml_eq {n : Nat} {ad ad' : Nat → Nat} {L : List (Nat × Value)} (h : ∀ q ∈ L, mk_v n q.2) (he : ∀ i, i < n ∨ i = spl → ad' i = ad i) : mc_l ad' L = mc_l ad L := List.map_congr_left (fun q hq => by rw [mk_v_eq (h q hq) he])
theorem ms_eq {n : Nat} {ad ad' : Nat → Nat} {st : List Value} (h : ∀ v ∈ st, mk_v n v) (he : ∀ i, i < n ∨ i = spl → ad' i = ad i) : st.map (mc_v ad') = st.map (mc_v ad) := List.map_congr_left (fun v hv => mk_v_eq (h v hv) he)
section WFA
variable {p : Program} {l : Launch} {e : Env} {R : Room} {s : State} {m : MethodId} {args : Array Value} {below : List Frame} {meth : Method} {c : Code} {H : Heap} {locs : List Loc} {k n : Nat} {Q : State → Prop}
variable {D : va_G} {tc : Nat → ClassId} {A : Nat → Prop} {n0 : Nat} {ad0 ad : Nat → Nat} {M : List mC} {nL pc : Nat} {L : List (Nat × Value)} {ls : Array Slot} {st0 rest : List Value} {mc ms : Nat} {a : Array Value} {post : Option Value → List mC → Prop}
theorem w_finA (hr : va_Run p l e R s m args below meth c H locs k n mc ms (F0 m pc ls st0) (rest.map (mc_v ad)) (mq_ D tc M ad H.size post a) (va_A (mc_w tc ad M) H.size))
    (h1 : g_ag n0 ad0 M ad) (h3 : va_D A (mc_w tc ad M)) (h4 : va_S A s.heap H locs) (hA : ∀ q, s.heap.size ≤ q → A q) (h5 : lv_has ls nL (mc_l ad L)) (hL : ∀ q ∈ L, mk_v M.length q.2) (hrs : ∀ v ∈ rest, mk_v M.length v)
    (kk : ∀ r M', post r M' → ∀ (ad : Nat → Nat) (H : Heap) (locs : List Loc) (ls : Array Slot), g_ag n0 ad0 M' ad → va_P D vwCl (mc_w tc ad M') H → va_D A (mc_w tc ad M') → va_S A s.heap H locs → lv_has ls nL (mc_l ad L) → W p l e R s m args below meth c H locs (k + mc) (n + ms) Q (F0 m (pc + 3) ls ((r.toList ++ rest).map (mc_v ad)))) :
    W p l e R s m args below meth c H locs k n Q (F0 m pc ls st0) := by
  have hf := w_sub h3 h4 hA
  intro T hT X
  obtain ⟨v, st₀, t, T', Ls, e0, X', hLs, e1, e2, ⟨⟨r, M', ad', hv, hp, hg, hP', hD'⟩, hz, hk⟩, go⟩ := hr T hT X
  rw [e0] at hz hk
  have hv' : v = r.map (mc_v ad') := by cases hv; rfl
  have k3 : va_S A s.heap T'.heap (locs ++ Ls) := ⟨Nat.le_trans h4.1 (by rw [e1]; exact hz), fun q q1 q2 => by rw [e1, hk q (Nat.lt_of_lt_of_le q1 h4.1) (fun z => q2 (hf q z))]; exact h4.2.1 q q1 q2, fun q hq => by
    rcases List.mem_append.mp hq with h | h
    · exact h4.2.2 q h
    · exact hf _ (hLs q h)⟩
  have hag : g_ag n0 ad0 M' ad' := by
    refine ⟨Nat.le_trans h1.1 hg.1, fun i hi => ?_, fun z => ?_⟩
    · rw [hg.2.1 i (hi.elim (fun h => Or.inl (Nat.lt_of_lt_of_le h h1.1)) Or.inr)]
      exact h1.2.1 i hi
    · have z1 := h1.1
      have z2 := hg.1
      rw [hg.2.2 (by omega)]
      exact h1.2.2 (by omega)
  obtain ⟨t2, a1, b1⟩ := kk r M' hp ad' T'.heap (locs ++ Ls) ls hag (by rw [e1]; exact hP') (hD'.weaken (fun _ q _ h => hf q.1 h)) k3 (by rw [ml_eq hL hg.2.1]; exact h5) T' rfl X'
  refine ⟨t2, go t2 ?_, b1⟩
  have e9 : (r.toList ++ rest).map (mc_v ad') = v.toList ++ rest.map (mc_v ad) := by
    rw [hv', List.map_append, ms_eq hrs hg.2.1]
    cases r <;> rfl
  rw [e9] at a1
  exact a1
end WFA
section GC2
variable {X : gC} {cc : ByteArray} {own : String} {M : List mC} {k n pc : Nat} {L : List (Nat × Value)} {st rest : List Value} {y0 y : MethodName} {b0 b : ByteArray} {nl0 nl : Nat} {ret0 ret : Option FieldType} {rm : Room} {As : List Value} {post : Option Value → List mC → Prop} {index o : Nat}
theorem g_inws {w : Cond} (h : w ∈ gT) : w ∈ wsM y0 b0 nl0 ret0 ∧ ((w.onTables && w.keeps) = true ∨ ∃ ty, w = .arrayClass ty) := ⟨List.mem_cons_of_mem _ h, good_of_word (List.mem_filter.mp h).2⟩
theorem g_callS (ok : gO X cc own (wsM y0 b0 nl0 ret0)) (hM : mm_ (gLa X) y (wsM y b nl ret) rm As M post) (hcode : Cond.code y b nl ret ∈ gT) (hlink : Cond.methodLink own index y ∈ gT) (hstat : Cond.static y ∈ gT) (hini : Cond.initialized y.cls ∈ gT)
    (hd : y.cls ≠ "java/lang/invoke/MethodHandle" ∧ y.cls ≠ "java/lang/invoke/VarHandle" ∧ (parseMethodDescriptor y.desc).map (fun d => d.parameters.length) = some As.length)
    (hdg : decode cc pc = .ok (.invokestatic index, 3)) (hst : As.reverse ++ rest = st) (hrest : (rest.map fun v => v.category).sum ≤ 8) (hR : gF X rm nl k n) (hlen : ∀ r M', post r M' → M'.length = M.length)
    (kk : ∀ r M', post r M' → gg X M' (k + rm.cells) (n + rm.slots) (pc + 3) L (r.toList ++ rest)) : gg X M k n pc L st := by
  obtain ⟨p, l, e, R, s, m, args, below, meth, c, nL, D, tc, A, n0, ad0, Q⟩ := X
  obtain ⟨hexec, hb, hml, hown, hts, hK, hA, hlk, hY⟩ := ok
  intro ad H locs ls h1 h2 h3 h4 h5
  subst hst
  have hG : GoodIn (wsM y0 b0 nl0 ret0) (va_wsS own index y (wsM y b nl ret)) := by
    intro w hw
    unfold va_wsS at hw
    rcases List.mem_append.mp hw with hw | hw
    · simp only [List.mem_cons, List.not_mem_nil, or_false] at hw
      rcases hw with rfl | rfl | rfl
      · exact g_inws hlink
      · exact g_inws hstat
      · exact g_inws hini
    · exact wsM_good hcode w hw
  refine w_fin (va_runS (As := As.map (mc_v ad)) (rest := rest.map (mc_v ad)) (n := As.length) ⟨hexec, hb, hml, hown, hts⟩ (hM D tc ad H.size) (va_cwS As.length hts hG rfl rfl rfl hd ⟨hR.1, hR.2.1⟩) ⟨mp_blind D tc _ M ad H.size, fun U hU hW => w_pre h2 h3 h4 hA hK hY U hU hW⟩ rfl (by rw [List.length_map]) h5.1 ?_ ?_ hdg ⟨hR.2.2.1, hR.2.2.2⟩) h1 h3 h4 hA h5 hlen (fun r M' hp => kk r M' hp)
  · show (As.reverse ++ rest).map (mc_v ad) = _
    rw [List.map_append, List.map_reverse]
  · show 2 * (F0 m pc ls _).monitorRoom + _ ≤ 8
    rw [w_cat]
    simpa [JFrame.monitorRoom] using hrest
/-- a constructor: it may make cells -/
theorem g_callI (ok : gO X cc own (wsM y0 b0 nl0 ret0)) (hM : mm_ (gLa X) y (wsM y b nl none) rm (.ref o :: As) M post) (hcode : Cond.code y b nl none ∈ gT) (hlink : Cond.methodLink own index y ∈ gT) (hinst : Cond.instanceMethod y ∈ gT) (hini : Cond.initialized y.cls ∈ gT) (hy1 : y.name = "<init>")
    (hd : y.cls ≠ "java/lang/invoke/MethodHandle" ∧ y.cls ≠ "java/lang/invoke/VarHandle" ∧ (parseMethodDescriptor y.desc).map (fun d => d.parameters.length) = some As.length)
    (hdg : decode cc pc = .ok (.invokespecial index, 3)) (hst : As.reverse ++ .ref o :: rest = st) (hrest : (rest.map fun v => v.category).sum ≤ 8) (hR : gF X rm nl k n) (hL : ∀ q ∈ L, mk_v M.length q.2) (hrs : ∀ v ∈ rest, mk_v M.length v)
    (kk : ∀ r M', post r M' → gg X M' (k + rm.cells) (n + rm.slots) (pc + 3) L (r.toList ++ rest)) : gg X M k n pc L st := by
  obtain ⟨p, l, e, R, s, m, args, below, meth, c, nL, D, tc, A, n0, ad0, Q⟩ := X
  obtain ⟨hexec, hb, hml, hown, hts, hK, hA, hlk, hY⟩ := ok
  intro ad H locs ls h1 h2 h3 h4 h5
  subst hst
  refine w_finA (va_runI (As := As.map (mc_v ad)) (rest := rest.map (mc_v ad)) (b := ad o) (n := As.length) ⟨hexec, hb, hml, hown, hts⟩ (hM D tc ad H.size) (cwI As.length hts (wsM_good hcode) rfl rfl rfl (hts _ (g_inws hini).1) (hts _ (g_inws hlink).1) (hts _ (g_inws hinst).1) hy1 hd ⟨hR.1, hR.2.1⟩) ⟨mp_blind D tc _ M ad H.size, fun U hU hW => w_pre h2 h3 h4 hA hK hY U hU hW⟩ rfl (by rw [List.length_map]) h5.1 ?_ ?_ hdg ⟨hR.2.2.1, hR.2.2.2⟩) h1 h3 h4 hA h5 hL hrs (fun r M' hp => kk r M' hp)
  · show (As.reverse ++ Value.ref o :: rest).map (mc_v ad) = _
    rw [List.map_append, List.map_reverse]
    rfl
  · show 2 * (F0 m pc ls _).monitorRoom + _ ≤ 8
    rw [w_cat]
    simpa [JFrame.monitorRoom] using hrest
/-- a private constructor of a nest mate -/
theorem g_callIN (ok : gO X cc own (wsM y0 b0 nl0 ret0)) {host : String} (hM : mm_ (gLa X) y (wsM y b nl none) rm (.ref o :: As) M post) (hcode : Cond.code y b nl none ∈ gT) (hlink : Cond.methodLinkNest own index y host ∈ yT) (hinst : Cond.instanceMethod y ∈ gT) (hini : Cond.initialized y.cls ∈ gT) (hy1 : y.name = "<init>")
    (hd : y.cls ≠ "java/lang/invoke/MethodHandle" ∧ y.cls ≠ "java/lang/invoke/VarHandle" ∧ (parseMethodDescriptor y.desc).map (fun d => d.parameters.length) = some As.length)
    (hdg : decode cc pc = .ok (.invokespecial index, 3)) (hst : As.reverse ++ .ref o :: rest = st) (hrest : (rest.map fun v => v.category).sum ≤ 8) (hR : gF X rm nl k n) (hL : ∀ q ∈ L, mk_v M.length q.2) (hrs : ∀ v ∈ rest, mk_v M.length v)
    (kk : ∀ r M', post r M' → gg X M' (k + rm.cells) (n + rm.slots) (pc + 3) L (r.toList ++ rest)) : gg X M k n pc L st := by
  obtain ⟨p, l, e, R, s, m, args, below, meth, c, nL, D, tc, A, n0, ad0, Q⟩ := X
  obtain ⟨hexec, hb, hml, hown, hts, hK, hA, hlk, hY⟩ := ok
  intro ad H locs ls h1 h2 h3 h4 h5
  subst hst
  refine w_finA (va_runIN (As := As.map (mc_v ad)) (rest := rest.map (mc_v ad)) (b := ad o) (n := As.length) (host := host) ⟨hexec, hb, hml, hown, hts⟩ (hM D tc ad H.size) ⟨va_cnB As.length hts (wsM_good hcode) rfl rfl rfl (hY.use _ hlink) (hts _ (g_inws hini).1) hd ⟨hR.1, hR.2.1⟩, hy1, hts _ (g_inws hinst).1⟩ ⟨mp_blind D tc _ M ad H.size, fun U hU hW => w_pre h2 h3 h4 hA hK hY U hU hW⟩ rfl (by rw [List.length_map]) h5.1 ?_ ?_ hdg ⟨hR.2.2.1, hR.2.2.2⟩) h1 h3 h4 hA h5 hL hrs (fun r M' hp => kk r M' hp)
  · show (As.reverse ++ Value.ref o :: rest).map (mc_v ad) = _
    rw [List.map_append, List.map_reverse]
    rfl
  · show 2 * (F0 m pc ls _).monitorRoom + _ ≤ 8
    rw [w_cat]
    simpa [JFrame.monitorRoom] using hrest
theorem g_objI (ok : gO X cc own (wsM y0 b0 nl0 ret0)) (hlink : Cond.methodLink own index Lib.objectInit ∈ gT) (hinst : Cond.instanceMethod Lib.objectInit ∈ gT) (hcode : Cond.code Lib.objectInit ⟨#[0xb1]⟩ 1 none ∈ gT) (hdg : decode cc pc = .ok (.invokespecial index, 3)) (hf : 1 ≤ (gR X).frames) (hl : (rest.map fun v => v.category).sum + 12 ≤ (gR X).locals)
    (kk : gg X M k n (pc + 3) L rest) : gg X M k n pc L (.ref o :: rest) := by
  obtain ⟨p, l, e, R, s, m, args, below, meth, c, nL, D, tc, A, n0, ad0, Q⟩ := X
  obtain ⟨hexec, hb, hml, hown, hts, hK, hA, hlk, hY⟩ := ok
  intro ad H locs ls h1 h2 h3 h4 h5
  refine W.objInit hexec hb hown (hts _ (g_inws hlink).1) (hts _ (g_inws hinst).1) (hts _ (g_inws hcode).1) (a := ad o) (rest := rest.map (mc_v ad)) rfl (h5.1.trans hml.symm) rfl hdg hf ?_ (kk ad H locs ls h1 h2 h3 h4 h5)
  show 2 * (F0 m pc ls _).monitorRoom + _ + 12 ≤ R.locals
  rw [w_cat]
  have hl' : (rest.map fun v => v.category).sum + 12 ≤ R.locals := hl
  simpa [JFrame.monitorRoom] using hl'
end GC2
end
section
/-! NEW CELLS -/
/-- all references lie within the world -/
def gW (M : List mC) (L : List (Nat × Value)) (st : List Value) : Prop := M.length < spl ∧ (∀ c ∈ M, mk_c M.length c) ∧ (∀ q ∈ L, mk_v M.length q.2) ∧ ∀ v ∈ st, mk_v M.length v
def a_up (ad : Nat → Nat) (i q : Nat) : Nat → Nat := fun j => if j = i then q else ad j
theorem a_up_eq {ad : Nat → Nat} {M : List mC} {q : Nat} (h : M.length < spl) : ∀ i, i < M.length ∨ i = spl → a_up ad M.length q i = ad i := fun i hi => by
  unfold a_up
  rw [if_neg]
  rcases hi with hi | hi
  · omega
  · omega
theorem a_up_w {tc : Nat → ClassId} {ad : Nat → Nat} {M : List mC} {q : Nat} {c : mC} (h : M.length < spl) (hM : ∀ c ∈ M, mk_c M.length c) : mc_w tc (a_up ad M.length q) (M ++ [c]) = mc_w tc ad M ++ [(q, mc_e tc (a_up ad M.length q) c)] := by
  rw [mc_push, mk_w_eq hM (a_up_eq h)]
  unfold a_up
  rw [if_pos rfl]
theorem a_up_ag {n0 : Nat} {ad0 ad : Nat → Nat} {M : List mC} {q : Nat} {c : mC} (h : M.length < spl) (h1 : g_ag n0 ad0 M ad) : g_ag n0 ad0 (M ++ [c]) (a_up ad M.length q) := by
  have h0 := h1.1
  refine ⟨by rw [List.length_append]; exact Nat.le_trans h0 (Nat.le_add_right _ _), fun i hi => ?_, fun z => ?_⟩
  · rw [a_up_eq h i (hi.elim (fun h => Or.inl (Nat.lt_of_lt_of_le h h0)) Or.inr)]
    exact h1.2.1 i hi
  · rw [List.length_append] at z
    simp at z
    omega
theorem ra_one {U : State} {a b : ClassId} {ty : FieldType} (h1 : va_RA U a ty) (h2 : va_RA U b ty) : a = b := by
  cases ty with
  | object C =>
    obtain ⟨_, _, -, -, -, e1⟩ := h1
    obtain ⟨_, _, -, -, -, e2⟩ := h2
    exact Option.some.inj (e1.symm.trans e2)
  | _ => exact Option.some.inj (Eq.trans (Eq.symm h1) h2)
section GN
variable {X : gC} {cc : ByteArray} {own : String} {Ts : List Cond} {M : List mC} {k n pc : Nat} {L : List (Nat × Value)} {st : List Value}
theorem g_new (ok : gO X cc own Ts) {C : String} {T : u_T} {N ci index : Nat} {fs : List Value} (hin : ∀ w ∈ u_ws C T N, w ∈ Ts) (ty : Nat → FieldType) (hty : ∀ k, k < N → parseFieldDescriptor (T k).2.2.1 = some (ty k)) (hcl : Cond.classLink own index C ∈ Ts) (hinst : Cond.instantiable C N ∈ Ts) (hini : Cond.initialized C ∈ Ts) (hc : vwCl[ci]? = some (C, T, N)) (hfs : ∀ j, j < N → defaultValue (ty j) = vp_V fs j) (hfm : ∀ ad : Nat → Nat, fs.map (mc_v ad) = fs) (hd : decode cc pc = .ok (.new index, 3)) (hk : k + 1 ≤ (gR X).cells) (hn : n + N ≤ (gR X).slots) (wf : gW M L st)
    (kk : gg X (M ++ [.inr (ci, fs)]) (k + 1) (n + N) (pc + 3) L (.ref M.length :: st)) : gg X M k n pc L st := by
  obtain ⟨p, l, e, R, s, m, args, below, meth, c, nL, D, tc, A, n0, ad0, Q⟩ := X
  obtain ⟨hexec, hb, hml, hown, hts, hK, hA, hlk⟩ := ok
  intro ad H locs ls h1 h2 h3 h4 h5
  obtain ⟨w1, w2, w3, w4⟩ := wf
  refine va_new hexec hb hts hin ty hty hown (hts _ hcl) (hts _ hinst) (hts _ hini) hK h2 h3 h4 hA hc hfs hk hn hd (fun q H1 q1 q2 q3 => ?_)
  have he : mc_e tc (a_up ad M.length q) (.inr (ci, fs)) = .inr (ci, fs) := by
    show (Sum.inr (ci, fs.map (mc_v (a_up ad M.length q))) : va_E) = Sum.inr (ci, fs)
    rw [hfm]
  have e1 : a_up ad M.length q M.length = q := if_pos rfl
  have K := kk (a_up ad M.length q) H1 locs ls (a_up_ag w1 h1) (by rw [a_up_w w1 w2, he]; exact q1) (by rw [a_up_w w1 w2, he]; exact q2) q3 (by rw [ml_eq w3 (a_up_eq w1)]; exact h5)
  rw [List.map_cons, ms_eq w4 (a_up_eq w1)] at K
  rw [show mc_v (a_up ad M.length q) (.ref M.length) = .ref q from congrArg Value.ref e1] at K
  exact K
theorem g_newa (ok : gO X cc own Ts) {atype : ArrayType} {ty : FieldType} {t N : Nat} {i : Int32} {a0 : vp_A} (harr : Cond.arrayClass (newarray.typeOf atype) ∈ Ts) (hty : newarray.typeOf atype = ty) (ht : mTY[t]? = some ty) (ha : ∀ cA : ClassId, vp_cell cA a0 = arrV cA N (fun _ => defaultValue ty)) (ham : ∀ ad : Nat → Nat, mc_a ad a0 = a0) (hi : ¬ i < 0) (hN : i.toNatClampNeg = N) (hby : N * componentBytes ty ≤ 536870912) (hd : decode cc pc = .ok (.newarray atype, 2)) (hk : k + 1 ≤ (gR X).cells) (hn : n + N ≤ (gR X).slots) (wf : gW M L st)
    (kk : gg X (M ++ [.inl (t, a0)]) (k + 1) (n + N) (pc + 2) L (.ref M.length :: st)) : gg X M k n pc L (.int i :: st) := by
  obtain ⟨p, l, e, R, s, m, args, below, meth, c, nL, D, tc, A, n0, ad0, Q⟩ := X
  obtain ⟨hexec, hb, hml, hown, hts, hK, hA, hlk⟩ := ok
  intro ad H locs ls h1 h2 h3 h4 h5
  obtain ⟨w1, w2, w3, w4⟩ := wf
  refine va_newa hexec hb (hts _ harr) hty hK h2 h3 h4 hA ha hi hN hby hk hn hd (fun q cA H1 qK q1 q2 q3 => ?_)
  have hcA : cA = tc t := ra_one (qK.2 (mc_t tc).length (cA, ty) (by rw [List.getElem?_append_right (Nat.le_refl _), Nat.sub_self]; rfl)).2 (hK.2 t _ (mc_ty ht)).2
  subst hcA
  have he : mc_e tc (a_up ad M.length q) (.inl (t, a0)) = .inl (tc t, a0) := by
    show (Sum.inl (tc t, mc_a (a_up ad M.length q) a0) : va_E) = _
    rw [ham]
  have e1 : a_up ad M.length q M.length = q := if_pos rfl
  have K := kk (a_up ad M.length q) H1 locs ls (a_up_ag w1 h1) (by rw [a_up_w w1 w2, he]; exact q1) (by rw [a_up_w w1 w2, he]; exact q2) q3 (by rw [ml_eq w3 (a_up_eq w1)]; exact h5)
  rw [List.map_cons, ms_eq w4 (a_up_eq w1)] at K
  rw [show mc_v (a_up ad M.length q) (.ref M.length) = .ref q from congrArg Value.ref e1] at K
  exact K
theorem g_newq (ok : gO X cc own Ts) {E : String} {index t N : Nat} {i : Int32} (hcl : Cond.classLink own index E ∈ Ts) (hov : va_AO E (gS X)) (ht : mTY[t]? = some (.object E)) (hi : ¬ i < 0) (hN : i.toNatClampNeg = N) (hby : N * 4 ≤ 536870912) (hd : decode cc pc = .ok (.anewarray index, 3)) (hk : k + 1 ≤ (gR X).cells) (hn : n + N ≤ (gR X).slots) (wf : gW M L st)
    (kk : gg X (M ++ [.inl (t, N, .inr (.inr (.inr (.inr (fun _ => none)))))]) (k + 1) (n + N) (pc + 3) L (.ref M.length :: st)) : gg X M k n pc L (.int i :: st) := by
  obtain ⟨p, l, e, R, s, m, args, below, meth, c, nL, D, tc, A, n0, ad0, Q⟩ := X
  obtain ⟨hexec, hb, hml, hown, hts, hK, hA, hlk⟩ := ok
  intro ad H locs ls h1 h2 h3 h4 h5
  obtain ⟨w1, w2, w3, w4⟩ := wf
  refine va_newq hexec hb hown (hts _ hcl) hov hK h2 h3 h4 hA hi hN hby hk hn hd (fun q cA H1 qK q1 q2 q3 => ?_)
  have hcA : cA = tc t := ra_one (qK.2 (mc_t tc).length (cA, .object E) (by rw [List.getElem?_append_right (Nat.le_refl _), Nat.sub_self]; rfl)).2 (hK.2 t _ (mc_ty ht)).2
  subst hcA
  have he : mc_e tc (a_up ad M.length q) (.inl (t, N, .inr (.inr (.inr (.inr (fun _ => none)))))) = .inl (tc t, N, .inr (.inr (.inr (.inr (fun _ => none))))) := rfl
  have e1 : a_up ad M.length q M.length = q := if_pos rfl
  have K := kk (a_up ad M.length q) H1 locs ls (a_up_ag w1 h1) (by rw [a_up_w w1 w2, he]; exact q1) (by rw [a_up_w w1 w2, he]; exact q2) q3 (by rw [ml_eq w3 (a_up_eq w1)]; exact h5)
  rw [List.map_cons, ms_eq w4 (a_up_eq w1)] at K
  rw [show mc_v (a_up ad M.length q) (.ref M.length) = .ref q from congrArg Value.ref e1] at K
  exact K
end GN
end
