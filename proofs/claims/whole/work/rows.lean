section
-- ===== PART A: goes FIRST, ahead of the names: the tables' words, and 'selects' of the private methods out of them =====
/-- a private method of a class that the tables say can be made, by its rows of tables_1 -/
def lw_okq (q : MethodName × Nat) : Prop := (q.1.cls ≠ "java/lang/invoke/MethodHandle" ∧ q.1.cls ≠ "java/lang/invoke/VarHandle") ∧ Cond.instantiable q.1.cls q.2 ∈ tables_1 ∧ Cond.privateMethod q.1 ∈ tables_1 ∧ Cond.instanceMethod q.1 ∈ tables_1
theorem lw_p0 : lw_okq (⟨"QuiverKin$Table", "seatOneMore", "(II)I"⟩, 10) := ⟨⟨by decide +kernel, by decide +kernel⟩, List.mem_of_getElem? (i := 38) (by decide +kernel), List.mem_of_getElem? (i := 381) (by decide +kernel), List.mem_of_getElem? (i := 382) (by decide +kernel)⟩
theorem lw_p1 : lw_okq (⟨"QuiverKin$Tape", "addFour", "(I)V"⟩, 6) := ⟨⟨by decide +kernel, by decide +kernel⟩, List.mem_of_getElem? (i := 189) (by decide +kernel), List.mem_of_getElem? (i := 392) (by decide +kernel), List.mem_of_getElem? (i := 393) (by decide +kernel)⟩
theorem lw_p2 : lw_okq (⟨"QuiverKin$Reader", "readTape", "()LQuiverKin$Text;"⟩, 11) := ⟨⟨by decide +kernel, by decide +kernel⟩, List.mem_of_getElem? (i := 219) (by decide +kernel), List.mem_of_getElem? (i := 405) (by decide +kernel), List.mem_of_getElem? (i := 406) (by decide +kernel)⟩
theorem lw_p3 : lw_okq (⟨"QuiverKin$Tape", "cutIntoTokens", "()V"⟩, 6) := ⟨⟨by decide +kernel, by decide +kernel⟩, List.mem_of_getElem? (i := 189) (by decide +kernel), List.mem_of_getElem? (i := 409) (by decide +kernel), List.mem_of_getElem? (i := 410) (by decide +kernel)⟩
theorem lw_p4 : lw_okq (⟨"QuiverKin$Tape", "byteAt", "(I)I"⟩, 6) := ⟨⟨by decide +kernel, by decide +kernel⟩, List.mem_of_getElem? (i := 189) (by decide +kernel), List.mem_of_getElem? (i := 413) (by decide +kernel), List.mem_of_getElem? (i := 414) (by decide +kernel)⟩
theorem lw_p5 : lw_okq (⟨"QuiverKin$Tape", "cutNumber", "(I)I"⟩, 6) := ⟨⟨by decide +kernel, by decide +kernel⟩, List.mem_of_getElem? (i := 189) (by decide +kernel), List.mem_of_getElem? (i := 420) (by decide +kernel), List.mem_of_getElem? (i := 421) (by decide +kernel)⟩
theorem lw_p6 : lw_okq (⟨"QuiverKin$Tape", "addToken", "(III)V"⟩, 6) := ⟨⟨by decide +kernel, by decide +kernel⟩, List.mem_of_getElem? (i := 189) (by decide +kernel), List.mem_of_getElem? (i := 427) (by decide +kernel), List.mem_of_getElem? (i := 428) (by decide +kernel)⟩
theorem lw_p7 : lw_okq (⟨"QuiverKin$Tape", "cutWord", "(I)I"⟩, 6) := ⟨⟨by decide +kernel, by decide +kernel⟩, List.mem_of_getElem? (i := 189) (by decide +kernel), List.mem_of_getElem? (i := 434) (by decide +kernel), List.mem_of_getElem? (i := 435) (by decide +kernel)⟩
theorem lw_p8 : lw_okq (⟨"QuiverKin$Tape", "wordKind", "(II)I"⟩, 6) := ⟨⟨by decide +kernel, by decide +kernel⟩, List.mem_of_getElem? (i := 189) (by decide +kernel), List.mem_of_getElem? (i := 438) (by decide +kernel), List.mem_of_getElem? (i := 439) (by decide +kernel)⟩
theorem lw_p9 : lw_okq (⟨"QuiverKin$Tape", "cutSign", "(I)I"⟩, 6) := ⟨⟨by decide +kernel, by decide +kernel⟩, List.mem_of_getElem? (i := 189) (by decide +kernel), List.mem_of_getElem? (i := 491) (by decide +kernel), List.mem_of_getElem? (i := 492) (by decide +kernel)⟩
theorem lw_p10 : lw_okq (⟨"QuiverKin$Reader", "kind", "()I"⟩, 11) := ⟨⟨by decide +kernel, by decide +kernel⟩, List.mem_of_getElem? (i := 219) (by decide +kernel), List.mem_of_getElem? (i := 551) (by decide +kernel), List.mem_of_getElem? (i := 552) (by decide +kernel)⟩
theorem lw_p11 : lw_okq (⟨"QuiverKin$Reader", "openClause", "()I"⟩, 11) := ⟨⟨by decide +kernel, by decide +kernel⟩, List.mem_of_getElem? (i := 219) (by decide +kernel), List.mem_of_getElem? (i := 558) (by decide +kernel), List.mem_of_getElem? (i := 559) (by decide +kernel)⟩
theorem lw_p12 : lw_okq (⟨"QuiverKin$Reader", "fail", "(I)V"⟩, 11) := ⟨⟨by decide +kernel, by decide +kernel⟩, List.mem_of_getElem? (i := 219) (by decide +kernel), List.mem_of_getElem? (i := 565) (by decide +kernel), List.mem_of_getElem? (i := 566) (by decide +kernel)⟩
theorem lw_p13 : lw_okq (⟨"QuiverKin$Reader", "readClause", "(I)V"⟩, 11) := ⟨⟨by decide +kernel, by decide +kernel⟩, List.mem_of_getElem? (i := 219) (by decide +kernel), List.mem_of_getElem? (i := 569) (by decide +kernel), List.mem_of_getElem? (i := 570) (by decide +kernel)⟩
theorem lw_p14 : lw_okq (⟨"QuiverKin$Reader", "readLaw", "(I)V"⟩, 11) := ⟨⟨by decide +kernel, by decide +kernel⟩, List.mem_of_getElem? (i := 219) (by decide +kernel), List.mem_of_getElem? (i := 573) (by decide +kernel), List.mem_of_getElem? (i := 574) (by decide +kernel)⟩
theorem lw_p15 : lw_okq (⟨"QuiverKin$Reader", "readSum", "(I)V"⟩, 11) := ⟨⟨by decide +kernel, by decide +kernel⟩, List.mem_of_getElem? (i := 219) (by decide +kernel), List.mem_of_getElem? (i := 577) (by decide +kernel), List.mem_of_getElem? (i := 578) (by decide +kernel)⟩
def lw_privs_1 : List (MethodName × Nat) := [(⟨"QuiverKin$Table", "seatOneMore", "(II)I"⟩, 10), (⟨"QuiverKin$Tape", "addFour", "(I)V"⟩, 6), (⟨"QuiverKin$Reader", "readTape", "()LQuiverKin$Text;"⟩, 11), (⟨"QuiverKin$Tape", "cutIntoTokens", "()V"⟩, 6), (⟨"QuiverKin$Tape", "byteAt", "(I)I"⟩, 6), (⟨"QuiverKin$Tape", "cutNumber", "(I)I"⟩, 6), (⟨"QuiverKin$Tape", "addToken", "(III)V"⟩, 6), (⟨"QuiverKin$Tape", "cutWord", "(I)I"⟩, 6), (⟨"QuiverKin$Tape", "wordKind", "(II)I"⟩, 6), (⟨"QuiverKin$Tape", "cutSign", "(I)I"⟩, 6), (⟨"QuiverKin$Reader", "kind", "()I"⟩, 11), (⟨"QuiverKin$Reader", "openClause", "()I"⟩, 11), (⟨"QuiverKin$Reader", "fail", "(I)V"⟩, 11), (⟨"QuiverKin$Reader", "readClause", "(I)V"⟩, 11), (⟨"QuiverKin$Reader", "readLaw", "(I)V"⟩, 11), (⟨"QuiverKin$Reader", "readSum", "(I)V"⟩, 11)]
theorem lw_r1 : ∀ q ∈ lw_privs_1, lw_okq q := List.forall_mem_cons.mpr ⟨lw_p0, List.forall_mem_cons.mpr ⟨lw_p1, List.forall_mem_cons.mpr ⟨lw_p2, List.forall_mem_cons.mpr ⟨lw_p3, List.forall_mem_cons.mpr ⟨lw_p4, List.forall_mem_cons.mpr ⟨lw_p5, List.forall_mem_cons.mpr ⟨lw_p6, List.forall_mem_cons.mpr ⟨lw_p7, List.forall_mem_cons.mpr ⟨lw_p8, List.forall_mem_cons.mpr ⟨lw_p9, List.forall_mem_cons.mpr ⟨lw_p10, List.forall_mem_cons.mpr ⟨lw_p11, List.forall_mem_cons.mpr ⟨lw_p12, List.forall_mem_cons.mpr ⟨lw_p13, List.forall_mem_cons.mpr ⟨lw_p14, List.forall_mem_cons.mpr ⟨lw_p15, fun _ h => absurd h List.not_mem_nil⟩⟩⟩⟩⟩⟩⟩⟩⟩⟩⟩⟩⟩⟩⟩⟩
theorem lw_p16 : lw_okq (⟨"QuiverKin$Reader", "readProduct", "(I)V"⟩, 11) := ⟨⟨by decide +kernel, by decide +kernel⟩, List.mem_of_getElem? (i := 219) (by decide +kernel), List.mem_of_getElem? (i := 581) (by decide +kernel), List.mem_of_getElem? (i := 582) (by decide +kernel)⟩
theorem lw_p17 : lw_okq (⟨"QuiverKin$Reader", "readOne", "(I)V"⟩, 11) := ⟨⟨by decide +kernel, by decide +kernel⟩, List.mem_of_getElem? (i := 219) (by decide +kernel), List.mem_of_getElem? (i := 585) (by decide +kernel), List.mem_of_getElem? (i := 586) (by decide +kernel)⟩
theorem lw_p18 : lw_okq (⟨"QuiverKin$Reader", "number", "(II)I"⟩, 11) := ⟨⟨by decide +kernel, by decide +kernel⟩, List.mem_of_getElem? (i := 219) (by decide +kernel), List.mem_of_getElem? (i := 589) (by decide +kernel), List.mem_of_getElem? (i := 590) (by decide +kernel)⟩
theorem lw_p19 : lw_okq (⟨"QuiverKin$Reader", "emit", "(II)I"⟩, 11) := ⟨⟨by decide +kernel, by decide +kernel⟩, List.mem_of_getElem? (i := 219) (by decide +kernel), List.mem_of_getElem? (i := 594) (by decide +kernel), List.mem_of_getElem? (i := 595) (by decide +kernel)⟩
theorem lw_p20 : lw_okq (⟨"QuiverKin$Reader", "readName", "(I)V"⟩, 11) := ⟨⟨by decide +kernel, by decide +kernel⟩, List.mem_of_getElem? (i := 219) (by decide +kernel), List.mem_of_getElem? (i := 603) (by decide +kernel), List.mem_of_getElem? (i := 604) (by decide +kernel)⟩
theorem lw_p21 : lw_okq (⟨"QuiverKin$Reader", "readOpen", "(II)V"⟩, 11) := ⟨⟨by decide +kernel, by decide +kernel⟩, List.mem_of_getElem? (i := 219) (by decide +kernel), List.mem_of_getElem? (i := 610) (by decide +kernel), List.mem_of_getElem? (i := 611) (by decide +kernel)⟩
theorem lw_p22 : lw_okq (⟨"QuiverKin$Reader", "expect", "(I)V"⟩, 11) := ⟨⟨by decide +kernel, by decide +kernel⟩, List.mem_of_getElem? (i := 219) (by decide +kernel), List.mem_of_getElem? (i := 614) (by decide +kernel), List.mem_of_getElem? (i := 615) (by decide +kernel)⟩
theorem lw_p23 : lw_okq (⟨"QuiverKin$Reader", "readChoice", "(I)V"⟩, 11) := ⟨⟨by decide +kernel, by decide +kernel⟩, List.mem_of_getElem? (i := 219) (by decide +kernel), List.mem_of_getElem? (i := 618) (by decide +kernel), List.mem_of_getElem? (i := 619) (by decide +kernel)⟩
theorem lw_p24 : lw_okq (⟨"QuiverKin$Reader", "readEither", "(I)V"⟩, 11) := ⟨⟨by decide +kernel, by decide +kernel⟩, List.mem_of_getElem? (i := 219) (by decide +kernel), List.mem_of_getElem? (i := 622) (by decide +kernel), List.mem_of_getElem? (i := 623) (by decide +kernel)⟩
theorem lw_p25 : lw_okq (⟨"QuiverKin$Reader", "readBoth", "(I)V"⟩, 11) := ⟨⟨by decide +kernel, by decide +kernel⟩, List.mem_of_getElem? (i := 219) (by decide +kernel), List.mem_of_getElem? (i := 626) (by decide +kernel), List.mem_of_getElem? (i := 627) (by decide +kernel)⟩
theorem lw_p26 : lw_okq (⟨"QuiverKin$Reader", "readAsk", "(I)V"⟩, 11) := ⟨⟨by decide +kernel, by decide +kernel⟩, List.mem_of_getElem? (i := 219) (by decide +kernel), List.mem_of_getElem? (i := 630) (by decide +kernel), List.mem_of_getElem? (i := 631) (by decide +kernel)⟩
theorem lw_p27 : lw_okq (⟨"QuiverKin$Reader", "leapToHere", "(I)V"⟩, 11) := ⟨⟨by decide +kernel, by decide +kernel⟩, List.mem_of_getElem? (i := 219) (by decide +kernel), List.mem_of_getElem? (i := 637) (by decide +kernel), List.mem_of_getElem? (i := 638) (by decide +kernel)⟩
theorem lw_p28 : lw_okq (⟨"QuiverKin$House", "keepText", "(LQuiverKin$Text;)I"⟩, 13) := ⟨⟨by decide +kernel, by decide +kernel⟩, List.mem_of_getElem? (i := 32) (by decide +kernel), List.mem_of_getElem? (i := 679) (by decide +kernel), List.mem_of_getElem? (i := 680) (by decide +kernel)⟩
theorem lw_p29 : lw_okq (⟨"QuiverKin$Table", "canReach", "(I)Z"⟩, 10) := ⟨⟨by decide +kernel, by decide +kernel⟩, List.mem_of_getElem? (i := 38) (by decide +kernel), List.mem_of_getElem? (i := 695) (by decide +kernel), List.mem_of_getElem? (i := 696) (by decide +kernel)⟩
theorem lw_p30 : lw_okq (⟨"QuiverKin$Table", "has", "(I)Z"⟩, 10) := ⟨⟨by decide +kernel, by decide +kernel⟩, List.mem_of_getElem? (i := 38) (by decide +kernel), List.mem_of_getElem? (i := 699) (by decide +kernel), List.mem_of_getElem? (i := 700) (by decide +kernel)⟩
theorem lw_p31 : lw_okq (⟨"QuiverKin$Table", "isStrapped", "(I)Z"⟩, 10) := ⟨⟨by decide +kernel, by decide +kernel⟩, List.mem_of_getElem? (i := 38) (by decide +kernel), List.mem_of_getElem? (i := 703) (by decide +kernel), List.mem_of_getElem? (i := 704) (by decide +kernel)⟩
def lw_privs_2 : List (MethodName × Nat) := [(⟨"QuiverKin$Reader", "readProduct", "(I)V"⟩, 11), (⟨"QuiverKin$Reader", "readOne", "(I)V"⟩, 11), (⟨"QuiverKin$Reader", "number", "(II)I"⟩, 11), (⟨"QuiverKin$Reader", "emit", "(II)I"⟩, 11), (⟨"QuiverKin$Reader", "readName", "(I)V"⟩, 11), (⟨"QuiverKin$Reader", "readOpen", "(II)V"⟩, 11), (⟨"QuiverKin$Reader", "expect", "(I)V"⟩, 11), (⟨"QuiverKin$Reader", "readChoice", "(I)V"⟩, 11), (⟨"QuiverKin$Reader", "readEither", "(I)V"⟩, 11), (⟨"QuiverKin$Reader", "readBoth", "(I)V"⟩, 11), (⟨"QuiverKin$Reader", "readAsk", "(I)V"⟩, 11), (⟨"QuiverKin$Reader", "leapToHere", "(I)V"⟩, 11), (⟨"QuiverKin$House", "keepText", "(LQuiverKin$Text;)I"⟩, 13), (⟨"QuiverKin$Table", "canReach", "(I)Z"⟩, 10), (⟨"QuiverKin$Table", "has", "(I)Z"⟩, 10), (⟨"QuiverKin$Table", "isStrapped", "(I)Z"⟩, 10)]
theorem lw_r2 : ∀ q ∈ lw_privs_2, lw_okq q := List.forall_mem_cons.mpr ⟨lw_p16, List.forall_mem_cons.mpr ⟨lw_p17, List.forall_mem_cons.mpr ⟨lw_p18, List.forall_mem_cons.mpr ⟨lw_p19, List.forall_mem_cons.mpr ⟨lw_p20, List.forall_mem_cons.mpr ⟨lw_p21, List.forall_mem_cons.mpr ⟨lw_p22, List.forall_mem_cons.mpr ⟨lw_p23, List.forall_mem_cons.mpr ⟨lw_p24, List.forall_mem_cons.mpr ⟨lw_p25, List.forall_mem_cons.mpr ⟨lw_p26, List.forall_mem_cons.mpr ⟨lw_p27, List.forall_mem_cons.mpr ⟨lw_p28, List.forall_mem_cons.mpr ⟨lw_p29, List.forall_mem_cons.mpr ⟨lw_p30, List.forall_mem_cons.mpr ⟨lw_p31, fun _ h => absurd h List.not_mem_nil⟩⟩⟩⟩⟩⟩⟩⟩⟩⟩⟩⟩⟩⟩⟩⟩
theorem lw_p32 : lw_okq (⟨"QuiverKin$House", "saveStep", "()V"⟩, 13) := ⟨⟨by decide +kernel, by decide +kernel⟩, List.mem_of_getElem? (i := 32) (by decide +kernel), List.mem_of_getElem? (i := 707) (by decide +kernel), List.mem_of_getElem? (i := 708) (by decide +kernel)⟩
theorem lw_p33 : lw_okq (⟨"QuiverKin$House", "stepAt", "(I)LQuiverKin$Table;"⟩, 13) := ⟨⟨by decide +kernel, by decide +kernel⟩, List.mem_of_getElem? (i := 32) (by decide +kernel), List.mem_of_getElem? (i := 711) (by decide +kernel), List.mem_of_getElem? (i := 712) (by decide +kernel)⟩
theorem lw_p34 : lw_okq (⟨"QuiverKin$Table", "become", "(LQuiverKin$Table;)V"⟩, 10) := ⟨⟨by decide +kernel, by decide +kernel⟩, List.mem_of_getElem? (i := 38) (by decide +kernel), List.mem_of_getElem? (i := 715) (by decide +kernel), List.mem_of_getElem? (i := 716) (by decide +kernel)⟩
theorem lw_p35 : lw_okq (⟨"QuiverKin$Table", "returnTo", "(LQuiverKin$Table;I)V"⟩, 10) := ⟨⟨by decide +kernel, by decide +kernel⟩, List.mem_of_getElem? (i := 38) (by decide +kernel), List.mem_of_getElem? (i := 720) (by decide +kernel), List.mem_of_getElem? (i := 721) (by decide +kernel)⟩
theorem lw_p36 : lw_okq (⟨"QuiverKin$Table", "keepOneMore", "(I)I"⟩, 10) := ⟨⟨by decide +kernel, by decide +kernel⟩, List.mem_of_getElem? (i := 38) (by decide +kernel), List.mem_of_getElem? (i := 724) (by decide +kernel), List.mem_of_getElem? (i := 725) (by decide +kernel)⟩
theorem lw_p37 : lw_okq (⟨"QuiverKin$Table", "canPutDown", "(II)Z"⟩, 10) := ⟨⟨by decide +kernel, by decide +kernel⟩, List.mem_of_getElem? (i := 38) (by decide +kernel), List.mem_of_getElem? (i := 733) (by decide +kernel), List.mem_of_getElem? (i := 734) (by decide +kernel)⟩
theorem lw_p38 : lw_okq (⟨"QuiverKin$Table", "putDown", "(II)V"⟩, 10) := ⟨⟨by decide +kernel, by decide +kernel⟩, List.mem_of_getElem? (i := 38) (by decide +kernel), List.mem_of_getElem? (i := 737) (by decide +kernel), List.mem_of_getElem? (i := 738) (by decide +kernel)⟩
theorem lw_p39 : lw_okq (⟨"QuiverKin$Table", "turnStrap", "(I)V"⟩, 10) := ⟨⟨by decide +kernel, by decide +kernel⟩, List.mem_of_getElem? (i := 38) (by decide +kernel), List.mem_of_getElem? (i := 746) (by decide +kernel), List.mem_of_getElem? (i := 747) (by decide +kernel)⟩
theorem lw_p40 : lw_okq (⟨"QuiverKin$Table", "canSwap", "(II)Z"⟩, 10) := ⟨⟨by decide +kernel, by decide +kernel⟩, List.mem_of_getElem? (i := 38) (by decide +kernel), List.mem_of_getElem? (i := 754) (by decide +kernel), List.mem_of_getElem? (i := 755) (by decide +kernel)⟩
theorem lw_p41 : lw_okq (⟨"QuiverKin$Table", "swapSeats", "(II)V"⟩, 10) := ⟨⟨by decide +kernel, by decide +kernel⟩, List.mem_of_getElem? (i := 38) (by decide +kernel), List.mem_of_getElem? (i := 758) (by decide +kernel), List.mem_of_getElem? (i := 759) (by decide +kernel)⟩
theorem lw_p42 : lw_okq (⟨"QuiverKin$House", "dine", "(ILQuiverKin$Asker;)I"⟩, 13) := ⟨⟨by decide +kernel, by decide +kernel⟩, List.mem_of_getElem? (i := 32) (by decide +kernel), List.mem_of_getElem? (i := 766) (by decide +kernel), List.mem_of_getElem? (i := 767) (by decide +kernel)⟩
theorem lw_p43 : lw_okq (⟨"QuiverKin$House", "law", "()LQuiverKin$Text;"⟩, 13) := ⟨⟨by decide +kernel, by decide +kernel⟩, List.mem_of_getElem? (i := 32) (by decide +kernel), List.mem_of_getElem? (i := 771) (by decide +kernel), List.mem_of_getElem? (i := 772) (by decide +kernel)⟩
theorem lw_p44 : lw_okq (⟨"QuiverKin$House", "textOf", "(I)LQuiverKin$Text;"⟩, 13) := ⟨⟨by decide +kernel, by decide +kernel⟩, List.mem_of_getElem? (i := 32) (by decide +kernel), List.mem_of_getElem? (i := 775) (by decide +kernel), List.mem_of_getElem? (i := 776) (by decide +kernel)⟩
theorem lw_p45 : lw_okq (⟨"QuiverKin$Table", "passDinner", "(LQuiverKin$Text;LQuiverKin$Asker;)I"⟩, 10) := ⟨⟨by decide +kernel, by decide +kernel⟩, List.mem_of_getElem? (i := 38) (by decide +kernel), List.mem_of_getElem? (i := 779) (by decide +kernel), List.mem_of_getElem? (i := 780) (by decide +kernel)⟩
theorem lw_p46 : lw_okq (⟨"QuiverKin$Table", "draw", "()I"⟩, 10) := ⟨⟨by decide +kernel, by decide +kernel⟩, List.mem_of_getElem? (i := 38) (by decide +kernel), List.mem_of_getElem? (i := 783) (by decide +kernel), List.mem_of_getElem? (i := 784) (by decide +kernel)⟩
theorem lw_p47 : lw_okq (⟨"QuiverKin$Asker", "reachesOf", "(LQuiverKin$Text;LQuiverKin$Table;I)I"⟩, 1) := ⟨⟨by decide +kernel, by decide +kernel⟩, List.mem_of_getElem? (i := 179) (by decide +kernel), List.mem_of_getElem? (i := 787) (by decide +kernel), List.mem_of_getElem? (i := 788) (by decide +kernel)⟩
def lw_privs_3 : List (MethodName × Nat) := [(⟨"QuiverKin$House", "saveStep", "()V"⟩, 13), (⟨"QuiverKin$House", "stepAt", "(I)LQuiverKin$Table;"⟩, 13), (⟨"QuiverKin$Table", "become", "(LQuiverKin$Table;)V"⟩, 10), (⟨"QuiverKin$Table", "returnTo", "(LQuiverKin$Table;I)V"⟩, 10), (⟨"QuiverKin$Table", "keepOneMore", "(I)I"⟩, 10), (⟨"QuiverKin$Table", "canPutDown", "(II)Z"⟩, 10), (⟨"QuiverKin$Table", "putDown", "(II)V"⟩, 10), (⟨"QuiverKin$Table", "turnStrap", "(I)V"⟩, 10), (⟨"QuiverKin$Table", "canSwap", "(II)Z"⟩, 10), (⟨"QuiverKin$Table", "swapSeats", "(II)V"⟩, 10), (⟨"QuiverKin$House", "dine", "(ILQuiverKin$Asker;)I"⟩, 13), (⟨"QuiverKin$House", "law", "()LQuiverKin$Text;"⟩, 13), (⟨"QuiverKin$House", "textOf", "(I)LQuiverKin$Text;"⟩, 13), (⟨"QuiverKin$Table", "passDinner", "(LQuiverKin$Text;LQuiverKin$Asker;)I"⟩, 10), (⟨"QuiverKin$Table", "draw", "()I"⟩, 10), (⟨"QuiverKin$Asker", "reachesOf", "(LQuiverKin$Text;LQuiverKin$Table;I)I"⟩, 1)]
theorem lw_r3 : ∀ q ∈ lw_privs_3, lw_okq q := List.forall_mem_cons.mpr ⟨lw_p32, List.forall_mem_cons.mpr ⟨lw_p33, List.forall_mem_cons.mpr ⟨lw_p34, List.forall_mem_cons.mpr ⟨lw_p35, List.forall_mem_cons.mpr ⟨lw_p36, List.forall_mem_cons.mpr ⟨lw_p37, List.forall_mem_cons.mpr ⟨lw_p38, List.forall_mem_cons.mpr ⟨lw_p39, List.forall_mem_cons.mpr ⟨lw_p40, List.forall_mem_cons.mpr ⟨lw_p41, List.forall_mem_cons.mpr ⟨lw_p42, List.forall_mem_cons.mpr ⟨lw_p43, List.forall_mem_cons.mpr ⟨lw_p44, List.forall_mem_cons.mpr ⟨lw_p45, List.forall_mem_cons.mpr ⟨lw_p46, List.forall_mem_cons.mpr ⟨lw_p47, fun _ h => absurd h List.not_mem_nil⟩⟩⟩⟩⟩⟩⟩⟩⟩⟩⟩⟩⟩⟩⟩⟩
theorem lw_p48 : lw_okq (⟨"QuiverKin$Asker", "run", "([IILQuiverKin$Table;I)I"⟩, 1) := ⟨⟨by decide +kernel, by decide +kernel⟩, List.mem_of_getElem? (i := 179) (by decide +kernel), List.mem_of_getElem? (i := 792) (by decide +kernel), List.mem_of_getElem? (i := 793) (by decide +kernel)⟩
theorem lw_p49 : lw_okq (⟨"QuiverKin$Table", "whoFrom", "(II)I"⟩, 10) := ⟨⟨by decide +kernel, by decide +kernel⟩, List.mem_of_getElem? (i := 38) (by decide +kernel), List.mem_of_getElem? (i := 803) (by decide +kernel), List.mem_of_getElem? (i := 804) (by decide +kernel)⟩
theorem lw_p50 : lw_okq (⟨"QuiverKin$Asker", "bearsOf", "(LQuiverKin$Text;LQuiverKin$Table;I)I"⟩, 1) := ⟨⟨by decide +kernel, by decide +kernel⟩, List.mem_of_getElem? (i := 179) (by decide +kernel), List.mem_of_getElem? (i := 826) (by decide +kernel), List.mem_of_getElem? (i := 827) (by decide +kernel)⟩
theorem lw_p51 : lw_okq (⟨"QuiverKin$Table", "letLoose", "(I)V"⟩, 10) := ⟨⟨by decide +kernel, by decide +kernel⟩, List.mem_of_getElem? (i := 38) (by decide +kernel), List.mem_of_getElem? (i := 830) (by decide +kernel), List.mem_of_getElem? (i := 831) (by decide +kernel)⟩
theorem lw_p52 : lw_okq (⟨"QuiverKin$Table", "write", "(I)V"⟩, 10) := ⟨⟨by decide +kernel, by decide +kernel⟩, List.mem_of_getElem? (i := 38) (by decide +kernel), List.mem_of_getElem? (i := 836) (by decide +kernel), List.mem_of_getElem? (i := 837) (by decide +kernel)⟩
theorem lw_p53 : lw_okq (⟨"QuiverKin", "done", "(III)Z"⟩, 9) := ⟨⟨by decide +kernel, by decide +kernel⟩, List.mem_of_getElem? (i := 24) (by decide +kernel), List.mem_of_getElem? (i := 845) (by decide +kernel), List.mem_of_getElem? (i := 846) (by decide +kernel)⟩
theorem lw_p54 : lw_okq (⟨"QuiverKin", "passYear", "(I)V"⟩, 9) := ⟨⟨by decide +kernel, by decide +kernel⟩, List.mem_of_getElem? (i := 24) (by decide +kernel), List.mem_of_getElem? (i := 859) (by decide +kernel), List.mem_of_getElem? (i := 860) (by decide +kernel)⟩
theorem lw_p55 : lw_okq (⟨"QuiverKin$House", "takeBack", "()I"⟩, 13) := ⟨⟨by decide +kernel, by decide +kernel⟩, List.mem_of_getElem? (i := 32) (by decide +kernel), List.mem_of_getElem? (i := 872) (by decide +kernel), List.mem_of_getElem? (i := 873) (by decide +kernel)⟩
theorem lw_p56 : lw_okq (⟨"QuiverKin$Table", "keptOfAll", "()I"⟩, 10) := ⟨⟨by decide +kernel, by decide +kernel⟩, List.mem_of_getElem? (i := 38) (by decide +kernel), List.mem_of_getElem? (i := 894) (by decide +kernel), List.mem_of_getElem? (i := 895) (by decide +kernel)⟩
theorem lw_p57 : lw_okq (⟨"QuiverKin$Table", "whoKeptMost", "()I"⟩, 10) := ⟨⟨by decide +kernel, by decide +kernel⟩, List.mem_of_getElem? (i := 38) (by decide +kernel), List.mem_of_getElem? (i := 918) (by decide +kernel), List.mem_of_getElem? (i := 919) (by decide +kernel)⟩
theorem lw_p58 : lw_okq (⟨"QuiverKin$Table", "whoKeptNone", "()I"⟩, 10) := ⟨⟨by decide +kernel, by decide +kernel⟩, List.mem_of_getElem? (i := 38) (by decide +kernel), List.mem_of_getElem? (i := 926) (by decide +kernel), List.mem_of_getElem? (i := 927) (by decide +kernel)⟩
theorem lw_p59 : lw_okq (⟨"QuiverKin$Table", "linesOf", "(I)I"⟩, 10) := ⟨⟨by decide +kernel, by decide +kernel⟩, List.mem_of_getElem? (i := 38) (by decide +kernel), List.mem_of_getElem? (i := 934) (by decide +kernel), List.mem_of_getElem? (i := 935) (by decide +kernel)⟩
theorem lw_p60 : lw_okq (⟨"QuiverKin$Rounds", "weighAll", "(LQuiverKin$House;)V"⟩, 8) := ⟨⟨by decide +kernel, by decide +kernel⟩, List.mem_of_getElem? (i := 261) (by decide +kernel), List.mem_of_getElem? (i := 953) (by decide +kernel), List.mem_of_getElem? (i := 954) (by decide +kernel)⟩
theorem lw_p61 : lw_okq (⟨"QuiverKin$Rounds", "weigh", "(I)V"⟩, 8) := ⟨⟨by decide +kernel, by decide +kernel⟩, List.mem_of_getElem? (i := 261) (by decide +kernel), List.mem_of_getElem? (i := 961) (by decide +kernel), List.mem_of_getElem? (i := 962) (by decide +kernel)⟩
theorem lw_p62 : lw_okq (⟨"QuiverKin$Rounds", "turnToNextRow", "(I)Z"⟩, 8) := ⟨⟨by decide +kernel, by decide +kernel⟩, List.mem_of_getElem? (i := 261) (by decide +kernel), List.mem_of_getElem? (i := 966) (by decide +kernel), List.mem_of_getElem? (i := 967) (by decide +kernel)⟩
theorem lw_p63 : lw_okq (⟨"QuiverKin$Rounds", "exchange", "(II)V"⟩, 8) := ⟨⟨by decide +kernel, by decide +kernel⟩, List.mem_of_getElem? (i := 261) (by decide +kernel), List.mem_of_getElem? (i := 970) (by decide +kernel), List.mem_of_getElem? (i := 971) (by decide +kernel)⟩
def lw_privs_4 : List (MethodName × Nat) := [(⟨"QuiverKin$Asker", "run", "([IILQuiverKin$Table;I)I"⟩, 1), (⟨"QuiverKin$Table", "whoFrom", "(II)I"⟩, 10), (⟨"QuiverKin$Asker", "bearsOf", "(LQuiverKin$Text;LQuiverKin$Table;I)I"⟩, 1), (⟨"QuiverKin$Table", "letLoose", "(I)V"⟩, 10), (⟨"QuiverKin$Table", "write", "(I)V"⟩, 10), (⟨"QuiverKin", "done", "(III)Z"⟩, 9), (⟨"QuiverKin", "passYear", "(I)V"⟩, 9), (⟨"QuiverKin$House", "takeBack", "()I"⟩, 13), (⟨"QuiverKin$Table", "keptOfAll", "()I"⟩, 10), (⟨"QuiverKin$Table", "whoKeptMost", "()I"⟩, 10), (⟨"QuiverKin$Table", "whoKeptNone", "()I"⟩, 10), (⟨"QuiverKin$Table", "linesOf", "(I)I"⟩, 10), (⟨"QuiverKin$Rounds", "weighAll", "(LQuiverKin$House;)V"⟩, 8), (⟨"QuiverKin$Rounds", "weigh", "(I)V"⟩, 8), (⟨"QuiverKin$Rounds", "turnToNextRow", "(I)Z"⟩, 8), (⟨"QuiverKin$Rounds", "exchange", "(II)V"⟩, 8)]
theorem lw_r4 : ∀ q ∈ lw_privs_4, lw_okq q := List.forall_mem_cons.mpr ⟨lw_p48, List.forall_mem_cons.mpr ⟨lw_p49, List.forall_mem_cons.mpr ⟨lw_p50, List.forall_mem_cons.mpr ⟨lw_p51, List.forall_mem_cons.mpr ⟨lw_p52, List.forall_mem_cons.mpr ⟨lw_p53, List.forall_mem_cons.mpr ⟨lw_p54, List.forall_mem_cons.mpr ⟨lw_p55, List.forall_mem_cons.mpr ⟨lw_p56, List.forall_mem_cons.mpr ⟨lw_p57, List.forall_mem_cons.mpr ⟨lw_p58, List.forall_mem_cons.mpr ⟨lw_p59, List.forall_mem_cons.mpr ⟨lw_p60, List.forall_mem_cons.mpr ⟨lw_p61, List.forall_mem_cons.mpr ⟨lw_p62, List.forall_mem_cons.mpr ⟨lw_p63, fun _ h => absurd h List.not_mem_nil⟩⟩⟩⟩⟩⟩⟩⟩⟩⟩⟩⟩⟩⟩⟩⟩
theorem lw_p64 : lw_okq (⟨"QuiverKin$Rounds", "spiteAround", "(LQuiverKin$House;)I"⟩, 8) := ⟨⟨by decide +kernel, by decide +kernel⟩, List.mem_of_getElem? (i := 261) (by decide +kernel), List.mem_of_getElem? (i := 987) (by decide +kernel), List.mem_of_getElem? (i := 988) (by decide +kernel)⟩
theorem lw_p65 : lw_okq (⟨"QuiverKin$Rounds", "seekMend", "(LQuiverKin$House;)V"⟩, 8) := ⟨⟨by decide +kernel, by decide +kernel⟩, List.mem_of_getElem? (i := 261) (by decide +kernel), List.mem_of_getElem? (i := 995) (by decide +kernel), List.mem_of_getElem? (i := 996) (by decide +kernel)⟩
theorem lw_p66 : lw_okq (⟨"QuiverKin$Rounds", "spiteSwapped", "(LQuiverKin$House;II)I"⟩, 8) := ⟨⟨by decide +kernel, by decide +kernel⟩, List.mem_of_getElem? (i := 261) (by decide +kernel), List.mem_of_getElem? (i := 1000) (by decide +kernel), List.mem_of_getElem? (i := 1001) (by decide +kernel)⟩
theorem lw_p67 : lw_okq (⟨"QuiverKin$Flier", "ends", "([III)Z"⟩, 4) := ⟨⟨by decide +kernel, by decide +kernel⟩, List.mem_of_getElem? (i := 299) (by decide +kernel), List.mem_of_getElem? (i := 1012) (by decide +kernel), List.mem_of_getElem? (i := 1013) (by decide +kernel)⟩
theorem lw_p68 : lw_okq (⟨"QuiverKin$Flier", "stepsOn", "()Z"⟩, 4) := ⟨⟨by decide +kernel, by decide +kernel⟩, List.mem_of_getElem? (i := 299) (by decide +kernel), List.mem_of_getElem? (i := 1016) (by decide +kernel), List.mem_of_getElem? (i := 1017) (by decide +kernel)⟩
theorem lw_p69 : lw_okq (⟨"QuiverKin$Flier", "meets", "(I)Z"⟩, 4) := ⟨⟨by decide +kernel, by decide +kernel⟩, List.mem_of_getElem? (i := 299) (by decide +kernel), List.mem_of_getElem? (i := 1022) (by decide +kernel), List.mem_of_getElem? (i := 1023) (by decide +kernel)⟩
theorem lw_p70 : lw_okq (⟨"QuiverKin$Pairs", "clear", "()I"⟩, 3) := ⟨⟨by decide +kernel, by decide +kernel⟩, List.mem_of_getElem? (i := 100) (by decide +kernel), List.mem_of_getElem? (i := 1037) (by decide +kernel), List.mem_of_getElem? (i := 1038) (by decide +kernel)⟩
theorem lw_p71 : lw_okq (⟨"QuiverKin$Pairs", "add", "(II)I"⟩, 3) := ⟨⟨by decide +kernel, by decide +kernel⟩, List.mem_of_getElem? (i := 100) (by decide +kernel), List.mem_of_getElem? (i := 1041) (by decide +kernel), List.mem_of_getElem? (i := 1042) (by decide +kernel)⟩
theorem lw_p72 : lw_okq (⟨"QuiverKin$Rows", "replyOf", "(II)I"⟩, 4) := ⟨⟨by decide +kernel, by decide +kernel⟩, List.mem_of_getElem? (i := 322) (by decide +kernel), List.mem_of_getElem? (i := 1050) (by decide +kernel), List.mem_of_getElem? (i := 1051) (by decide +kernel)⟩
theorem lw_p73 : lw_okq (⟨"QuiverKin$Rows", "sift", "(LQuiverKin$Pairs;)V"⟩, 4) := ⟨⟨by decide +kernel, by decide +kernel⟩, List.mem_of_getElem? (i := 322) (by decide +kernel), List.mem_of_getElem? (i := 1065) (by decide +kernel), List.mem_of_getElem? (i := 1066) (by decide +kernel)⟩
theorem lw_p74 : lw_okq (⟨"QuiverKin$Rows", "fitsAll", "(ILQuiverKin$Pairs;)Z"⟩, 4) := ⟨⟨by decide +kernel, by decide +kernel⟩, List.mem_of_getElem? (i := 322) (by decide +kernel), List.mem_of_getElem? (i := 1069) (by decide +kernel), List.mem_of_getElem? (i := 1070) (by decide +kernel)⟩
theorem lw_p75 : lw_okq (⟨"QuiverKin$Rows", "bestAsked", "()I"⟩, 4) := ⟨⟨by decide +kernel, by decide +kernel⟩, List.mem_of_getElem? (i := 322) (by decide +kernel), List.mem_of_getElem? (i := 1083) (by decide +kernel), List.mem_of_getElem? (i := 1084) (by decide +kernel)⟩
theorem lw_p76 : lw_okq (⟨"QuiverKin$Rows", "mostAlike", "(II)I"⟩, 4) := ⟨⟨by decide +kernel, by decide +kernel⟩, List.mem_of_getElem? (i := 322) (by decide +kernel), List.mem_of_getElem? (i := 1087) (by decide +kernel), List.mem_of_getElem? (i := 1088) (by decide +kernel)⟩
theorem lw_p77 : lw_okq (⟨"QuiverKin", "gainOf", "(III)I"⟩, 9) := ⟨⟨by decide +kernel, by decide +kernel⟩, List.mem_of_getElem? (i := 24) (by decide +kernel), List.mem_of_getElem? (i := 1103) (by decide +kernel), List.mem_of_getElem? (i := 1104) (by decide +kernel)⟩
theorem lw_p78 : lw_okq (⟨"QuiverKin", "leastSet", "(I)I"⟩, 9) := ⟨⟨by decide +kernel, by decide +kernel⟩, List.mem_of_getElem? (i := 24) (by decide +kernel), List.mem_of_getElem? (i := 1128) (by decide +kernel), List.mem_of_getElem? (i := 1129) (by decide +kernel)⟩
theorem lw_p79 : lw_okq (⟨"QuiverKin", "agrees", "(LQuiverKin$Text;)Z"⟩, 9) := ⟨⟨by decide +kernel, by decide +kernel⟩, List.mem_of_getElem? (i := 24) (by decide +kernel), List.mem_of_getElem? (i := 1172) (by decide +kernel), List.mem_of_getElem? (i := 1173) (by decide +kernel)⟩
def lw_privs_5 : List (MethodName × Nat) := [(⟨"QuiverKin$Rounds", "spiteAround", "(LQuiverKin$House;)I"⟩, 8), (⟨"QuiverKin$Rounds", "seekMend", "(LQuiverKin$House;)V"⟩, 8), (⟨"QuiverKin$Rounds", "spiteSwapped", "(LQuiverKin$House;II)I"⟩, 8), (⟨"QuiverKin$Flier", "ends", "([III)Z"⟩, 4), (⟨"QuiverKin$Flier", "stepsOn", "()Z"⟩, 4), (⟨"QuiverKin$Flier", "meets", "(I)Z"⟩, 4), (⟨"QuiverKin$Pairs", "clear", "()I"⟩, 3), (⟨"QuiverKin$Pairs", "add", "(II)I"⟩, 3), (⟨"QuiverKin$Rows", "replyOf", "(II)I"⟩, 4), (⟨"QuiverKin$Rows", "sift", "(LQuiverKin$Pairs;)V"⟩, 4), (⟨"QuiverKin$Rows", "fitsAll", "(ILQuiverKin$Pairs;)Z"⟩, 4), (⟨"QuiverKin$Rows", "bestAsked", "()I"⟩, 4), (⟨"QuiverKin$Rows", "mostAlike", "(II)I"⟩, 4), (⟨"QuiverKin", "gainOf", "(III)I"⟩, 9), (⟨"QuiverKin", "leastSet", "(I)I"⟩, 9), (⟨"QuiverKin", "agrees", "(LQuiverKin$Text;)Z"⟩, 9)]
theorem lw_r5 : ∀ q ∈ lw_privs_5, lw_okq q := List.forall_mem_cons.mpr ⟨lw_p64, List.forall_mem_cons.mpr ⟨lw_p65, List.forall_mem_cons.mpr ⟨lw_p66, List.forall_mem_cons.mpr ⟨lw_p67, List.forall_mem_cons.mpr ⟨lw_p68, List.forall_mem_cons.mpr ⟨lw_p69, List.forall_mem_cons.mpr ⟨lw_p70, List.forall_mem_cons.mpr ⟨lw_p71, List.forall_mem_cons.mpr ⟨lw_p72, List.forall_mem_cons.mpr ⟨lw_p73, List.forall_mem_cons.mpr ⟨lw_p74, List.forall_mem_cons.mpr ⟨lw_p75, List.forall_mem_cons.mpr ⟨lw_p76, List.forall_mem_cons.mpr ⟨lw_p77, List.forall_mem_cons.mpr ⟨lw_p78, List.forall_mem_cons.mpr ⟨lw_p79, fun _ h => absurd h List.not_mem_nil⟩⟩⟩⟩⟩⟩⟩⟩⟩⟩⟩⟩⟩⟩⟩⟩
theorem lw_p80 : lw_okq (⟨"QuiverKin$House", "become", "(LQuiverKin$House;)V"⟩, 13) := ⟨⟨by decide +kernel, by decide +kernel⟩, List.mem_of_getElem? (i := 32) (by decide +kernel), List.mem_of_getElem? (i := 1180) (by decide +kernel), List.mem_of_getElem? (i := 1181) (by decide +kernel)⟩
theorem lw_p81 : lw_okq (⟨"QuiverKin$Pairs", "become", "(LQuiverKin$Pairs;)V"⟩, 3) := ⟨⟨by decide +kernel, by decide +kernel⟩, List.mem_of_getElem? (i := 100) (by decide +kernel), List.mem_of_getElem? (i := 1188) (by decide +kernel), List.mem_of_getElem? (i := 1189) (by decide +kernel)⟩
theorem lw_p82 : lw_okq (⟨"QuiverKinModel", "begin", "(I)V"⟩, 39) := ⟨⟨by decide +kernel, by decide +kernel⟩, List.mem_of_getElem? (i := 1201) (by decide +kernel), List.mem_of_getElem? (i := 1337) (by decide +kernel), List.mem_of_getElem? (i := 1338) (by decide +kernel)⟩
theorem lw_p83 : lw_okq (⟨"QuiverKinModel", "isKin", "(I)Z"⟩, 39) := ⟨⟨by decide +kernel, by decide +kernel⟩, List.mem_of_getElem? (i := 1201) (by decide +kernel), List.mem_of_getElem? (i := 1345) (by decide +kernel), List.mem_of_getElem? (i := 1346) (by decide +kernel)⟩
theorem lw_p84 : lw_okq (⟨"QuiverKinModel", "four", "(I)V"⟩, 39) := ⟨⟨by decide +kernel, by decide +kernel⟩, List.mem_of_getElem? (i := 1201) (by decide +kernel), List.mem_of_getElem? (i := 1353) (by decide +kernel), List.mem_of_getElem? (i := 1354) (by decide +kernel)⟩
theorem lw_p85 : lw_okq (⟨"QuiverKinModel", "readText", "()I"⟩, 39) := ⟨⟨by decide +kernel, by decide +kernel⟩, List.mem_of_getElem? (i := 1201) (by decide +kernel), List.mem_of_getElem? (i := 1365) (by decide +kernel), List.mem_of_getElem? (i := 1366) (by decide +kernel)⟩
theorem lw_p86 : lw_okq (⟨"QuiverKinModel", "nextToken", "()V"⟩, 39) := ⟨⟨by decide +kernel, by decide +kernel⟩, List.mem_of_getElem? (i := 1201) (by decide +kernel), List.mem_of_getElem? (i := 1369) (by decide +kernel), List.mem_of_getElem? (i := 1370) (by decide +kernel)⟩
theorem lw_p87 : lw_okq (⟨"QuiverKinModel", "byteAt", "(I)I"⟩, 39) := ⟨⟨by decide +kernel, by decide +kernel⟩, List.mem_of_getElem? (i := 1201) (by decide +kernel), List.mem_of_getElem? (i := 1373) (by decide +kernel), List.mem_of_getElem? (i := 1374) (by decide +kernel)⟩
theorem lw_p88 : lw_okq (⟨"QuiverKinModel", "clause", "()I"⟩, 39) := ⟨⟨by decide +kernel, by decide +kernel⟩, List.mem_of_getElem? (i := 1201) (by decide +kernel), List.mem_of_getElem? (i := 1388) (by decide +kernel), List.mem_of_getElem? (i := 1389) (by decide +kernel)⟩
theorem lw_p89 : lw_okq (⟨"QuiverKinModel", "sortOf", "()I"⟩, 39) := ⟨⟨by decide +kernel, by decide +kernel⟩, List.mem_of_getElem? (i := 1201) (by decide +kernel), List.mem_of_getElem? (i := 1392) (by decide +kernel), List.mem_of_getElem? (i := 1393) (by decide +kernel)⟩
theorem lw_p90 : lw_okq (⟨"QuiverKinModel", "isReaches", "()Z"⟩, 39) := ⟨⟨by decide +kernel, by decide +kernel⟩, List.mem_of_getElem? (i := 1201) (by decide +kernel), List.mem_of_getElem? (i := 1396) (by decide +kernel), List.mem_of_getElem? (i := 1397) (by decide +kernel)⟩
theorem lw_p91 : lw_okq (⟨"QuiverKinModel", "isWord", "(J)Z"⟩, 39) := ⟨⟨by decide +kernel, by decide +kernel⟩, List.mem_of_getElem? (i := 1201) (by decide +kernel), List.mem_of_getElem? (i := 1412) (by decide +kernel), List.mem_of_getElem? (i := 1413) (by decide +kernel)⟩
theorem lw_p92 : lw_okq (⟨"QuiverKinModel", "body", "(II)I"⟩, 39) := ⟨⟨by decide +kernel, by decide +kernel⟩, List.mem_of_getElem? (i := 1201) (by decide +kernel), List.mem_of_getElem? (i := 1422) (by decide +kernel), List.mem_of_getElem? (i := 1423) (by decide +kernel)⟩
theorem lw_p93 : lw_okq (⟨"QuiverKinModel", "pair", "(IIJII)I"⟩, 39) := ⟨⟨by decide +kernel, by decide +kernel⟩, List.mem_of_getElem? (i := 1201) (by decide +kernel), List.mem_of_getElem? (i := 1426) (by decide +kernel), List.mem_of_getElem? (i := 1427) (by decide +kernel)⟩
theorem lw_p94 : lw_okq (⟨"QuiverKinModel", "figure", "(III)I"⟩, 39) := ⟨⟨by decide +kernel, by decide +kernel⟩, List.mem_of_getElem? (i := 1201) (by decide +kernel), List.mem_of_getElem? (i := 1430) (by decide +kernel), List.mem_of_getElem? (i := 1431) (by decide +kernel)⟩
theorem lw_p95 : lw_okq (⟨"QuiverKinModel", "lawClause", "(I)I"⟩, 39) := ⟨⟨by decide +kernel, by decide +kernel⟩, List.mem_of_getElem? (i := 1201) (by decide +kernel), List.mem_of_getElem? (i := 1434) (by decide +kernel), List.mem_of_getElem? (i := 1435) (by decide +kernel)⟩
def lw_privs_6 : List (MethodName × Nat) := [(⟨"QuiverKin$House", "become", "(LQuiverKin$House;)V"⟩, 13), (⟨"QuiverKin$Pairs", "become", "(LQuiverKin$Pairs;)V"⟩, 3), (⟨"QuiverKinModel", "begin", "(I)V"⟩, 39), (⟨"QuiverKinModel", "isKin", "(I)Z"⟩, 39), (⟨"QuiverKinModel", "four", "(I)V"⟩, 39), (⟨"QuiverKinModel", "readText", "()I"⟩, 39), (⟨"QuiverKinModel", "nextToken", "()V"⟩, 39), (⟨"QuiverKinModel", "byteAt", "(I)I"⟩, 39), (⟨"QuiverKinModel", "clause", "()I"⟩, 39), (⟨"QuiverKinModel", "sortOf", "()I"⟩, 39), (⟨"QuiverKinModel", "isReaches", "()Z"⟩, 39), (⟨"QuiverKinModel", "isWord", "(J)Z"⟩, 39), (⟨"QuiverKinModel", "body", "(II)I"⟩, 39), (⟨"QuiverKinModel", "pair", "(IIJII)I"⟩, 39), (⟨"QuiverKinModel", "figure", "(III)I"⟩, 39), (⟨"QuiverKinModel", "lawClause", "(I)I"⟩, 39)]
theorem lw_r6 : ∀ q ∈ lw_privs_6, lw_okq q := List.forall_mem_cons.mpr ⟨lw_p80, List.forall_mem_cons.mpr ⟨lw_p81, List.forall_mem_cons.mpr ⟨lw_p82, List.forall_mem_cons.mpr ⟨lw_p83, List.forall_mem_cons.mpr ⟨lw_p84, List.forall_mem_cons.mpr ⟨lw_p85, List.forall_mem_cons.mpr ⟨lw_p86, List.forall_mem_cons.mpr ⟨lw_p87, List.forall_mem_cons.mpr ⟨lw_p88, List.forall_mem_cons.mpr ⟨lw_p89, List.forall_mem_cons.mpr ⟨lw_p90, List.forall_mem_cons.mpr ⟨lw_p91, List.forall_mem_cons.mpr ⟨lw_p92, List.forall_mem_cons.mpr ⟨lw_p93, List.forall_mem_cons.mpr ⟨lw_p94, List.forall_mem_cons.mpr ⟨lw_p95, fun _ h => absurd h List.not_mem_nil⟩⟩⟩⟩⟩⟩⟩⟩⟩⟩⟩⟩⟩⟩⟩⟩
theorem lw_p96 : lw_okq (⟨"QuiverKinModel", "summed", "()I"⟩, 39) := ⟨⟨by decide +kernel, by decide +kernel⟩, List.mem_of_getElem? (i := 1201) (by decide +kernel), List.mem_of_getElem? (i := 1438) (by decide +kernel), List.mem_of_getElem? (i := 1439) (by decide +kernel)⟩
theorem lw_p97 : lw_okq (⟨"QuiverKinModel", "behindOne", "()Z"⟩, 39) := ⟨⟨by decide +kernel, by decide +kernel⟩, List.mem_of_getElem? (i := 1201) (by decide +kernel), List.mem_of_getElem? (i := 1442) (by decide +kernel), List.mem_of_getElem? (i := 1443) (by decide +kernel)⟩
theorem lw_p98 : lw_okq (⟨"QuiverKinModel", "betweenOf", "()I"⟩, 39) := ⟨⟨by decide +kernel, by decide +kernel⟩, List.mem_of_getElem? (i := 1201) (by decide +kernel), List.mem_of_getElem? (i := 1446) (by decide +kernel), List.mem_of_getElem? (i := 1447) (by decide +kernel)⟩
theorem lw_p99 : lw_okq (⟨"QuiverKinModel", "openNow", "()I"⟩, 39) := ⟨⟨by decide +kernel, by decide +kernel⟩, List.mem_of_getElem? (i := 1201) (by decide +kernel), List.mem_of_getElem? (i := 1450) (by decide +kernel), List.mem_of_getElem? (i := 1451) (by decide +kernel)⟩
theorem lw_p100 : lw_okq (⟨"QuiverKinModel", "openAt", "()I"⟩, 39) := ⟨⟨by decide +kernel, by decide +kernel⟩, List.mem_of_getElem? (i := 1201) (by decide +kernel), List.mem_of_getElem? (i := 1454) (by decide +kernel), List.mem_of_getElem? (i := 1455) (by decide +kernel)⟩
theorem lw_p101 : lw_okq (⟨"QuiverKinModel", "isCompared", "()Z"⟩, 39) := ⟨⟨by decide +kernel, by decide +kernel⟩, List.mem_of_getElem? (i := 1201) (by decide +kernel), List.mem_of_getElem? (i := 1458) (by decide +kernel), List.mem_of_getElem? (i := 1459) (by decide +kernel)⟩
theorem lw_p102 : lw_okq (⟨"QuiverKinModel", "compareOf", "()I"⟩, 39) := ⟨⟨by decide +kernel, by decide +kernel⟩, List.mem_of_getElem? (i := 1201) (by decide +kernel), List.mem_of_getElem? (i := 1465) (by decide +kernel), List.mem_of_getElem? (i := 1466) (by decide +kernel)⟩
theorem lw_p103 : lw_okq (⟨"QuiverKinModel", "settle", "(I)V"⟩, 39) := ⟨⟨by decide +kernel, by decide +kernel⟩, List.mem_of_getElem? (i := 1201) (by decide +kernel), List.mem_of_getElem? (i := 1469) (by decide +kernel), List.mem_of_getElem? (i := 1470) (by decide +kernel)⟩
theorem lw_p104 : lw_okq (⟨"QuiverKinModel", "emit", "(II)V"⟩, 39) := ⟨⟨by decide +kernel, by decide +kernel⟩, List.mem_of_getElem? (i := 1201) (by decide +kernel), List.mem_of_getElem? (i := 1473) (by decide +kernel), List.mem_of_getElem? (i := 1474) (by decide +kernel)⟩
theorem lw_p105 : lw_okq (⟨"QuiverKinModel", "partOf", "(I)I"⟩, 39) := ⟨⟨by decide +kernel, by decide +kernel⟩, List.mem_of_getElem? (i := 1201) (by decide +kernel), List.mem_of_getElem? (i := 1477) (by decide +kernel), List.mem_of_getElem? (i := 1478) (by decide +kernel)⟩
theorem lw_p106 : lw_okq (⟨"QuiverKinModel", "beginOne", "()I"⟩, 39) := ⟨⟨by decide +kernel, by decide +kernel⟩, List.mem_of_getElem? (i := 1201) (by decide +kernel), List.mem_of_getElem? (i := 1481) (by decide +kernel), List.mem_of_getElem? (i := 1482) (by decide +kernel)⟩
theorem lw_p107 : lw_okq (⟨"QuiverKinModel", "nameOf", "()I"⟩, 39) := ⟨⟨by decide +kernel, by decide +kernel⟩, List.mem_of_getElem? (i := 1201) (by decide +kernel), List.mem_of_getElem? (i := 1485) (by decide +kernel), List.mem_of_getElem? (i := 1486) (by decide +kernel)⟩
theorem lw_p108 : lw_okq (⟨"QuiverKinModel", "isOf", "(I)Z"⟩, 39) := ⟨⟨by decide +kernel, by decide +kernel⟩, List.mem_of_getElem? (i := 1201) (by decide +kernel), List.mem_of_getElem? (i := 1489) (by decide +kernel), List.mem_of_getElem? (i := 1490) (by decide +kernel)⟩
theorem lw_p109 : lw_okq (⟨"QuiverKinModel", "opened", "(I)I"⟩, 39) := ⟨⟨by decide +kernel, by decide +kernel⟩, List.mem_of_getElem? (i := 1201) (by decide +kernel), List.mem_of_getElem? (i := 1493) (by decide +kernel), List.mem_of_getElem? (i := 1494) (by decide +kernel)⟩
theorem lw_p110 : lw_okq (⟨"QuiverKinModel", "isAskAhead", "()Z"⟩, 39) := ⟨⟨by decide +kernel, by decide +kernel⟩, List.mem_of_getElem? (i := 1201) (by decide +kernel), List.mem_of_getElem? (i := 1497) (by decide +kernel), List.mem_of_getElem? (i := 1498) (by decide +kernel)⟩
theorem lw_p111 : lw_okq (⟨"QuiverKinModel", "isStrapped", "(I)Z"⟩, 39) := ⟨⟨by decide +kernel, by decide +kernel⟩, List.mem_of_getElem? (i := 1201) (by decide +kernel), List.mem_of_getElem? (i := 1517) (by decide +kernel), List.mem_of_getElem? (i := 1518) (by decide +kernel)⟩
def lw_privs_7 : List (MethodName × Nat) := [(⟨"QuiverKinModel", "summed", "()I"⟩, 39), (⟨"QuiverKinModel", "behindOne", "()Z"⟩, 39), (⟨"QuiverKinModel", "betweenOf", "()I"⟩, 39), (⟨"QuiverKinModel", "openNow", "()I"⟩, 39), (⟨"QuiverKinModel", "openAt", "()I"⟩, 39), (⟨"QuiverKinModel", "isCompared", "()Z"⟩, 39), (⟨"QuiverKinModel", "compareOf", "()I"⟩, 39), (⟨"QuiverKinModel", "settle", "(I)V"⟩, 39), (⟨"QuiverKinModel", "emit", "(II)V"⟩, 39), (⟨"QuiverKinModel", "partOf", "(I)I"⟩, 39), (⟨"QuiverKinModel", "beginOne", "()I"⟩, 39), (⟨"QuiverKinModel", "nameOf", "()I"⟩, 39), (⟨"QuiverKinModel", "isOf", "(I)Z"⟩, 39), (⟨"QuiverKinModel", "opened", "(I)I"⟩, 39), (⟨"QuiverKinModel", "isAskAhead", "()Z"⟩, 39), (⟨"QuiverKinModel", "isStrapped", "(I)Z"⟩, 39)]
theorem lw_r7 : ∀ q ∈ lw_privs_7, lw_okq q := List.forall_mem_cons.mpr ⟨lw_p96, List.forall_mem_cons.mpr ⟨lw_p97, List.forall_mem_cons.mpr ⟨lw_p98, List.forall_mem_cons.mpr ⟨lw_p99, List.forall_mem_cons.mpr ⟨lw_p100, List.forall_mem_cons.mpr ⟨lw_p101, List.forall_mem_cons.mpr ⟨lw_p102, List.forall_mem_cons.mpr ⟨lw_p103, List.forall_mem_cons.mpr ⟨lw_p104, List.forall_mem_cons.mpr ⟨lw_p105, List.forall_mem_cons.mpr ⟨lw_p106, List.forall_mem_cons.mpr ⟨lw_p107, List.forall_mem_cons.mpr ⟨lw_p108, List.forall_mem_cons.mpr ⟨lw_p109, List.forall_mem_cons.mpr ⟨lw_p110, List.forall_mem_cons.mpr ⟨lw_p111, fun _ h => absurd h List.not_mem_nil⟩⟩⟩⟩⟩⟩⟩⟩⟩⟩⟩⟩⟩⟩⟩⟩
theorem lw_p112 : lw_okq (⟨"QuiverKinModel", "keep", "()V"⟩, 39) := ⟨⟨by decide +kernel, by decide +kernel⟩, List.mem_of_getElem? (i := 1201) (by decide +kernel), List.mem_of_getElem? (i := 1521) (by decide +kernel), List.mem_of_getElem? (i := 1522) (by decide +kernel)⟩
theorem lw_p113 : lw_okq (⟨"QuiverKinModel", "more", "(I)V"⟩, 39) := ⟨⟨by decide +kernel, by decide +kernel⟩, List.mem_of_getElem? (i := 1201) (by decide +kernel), List.mem_of_getElem? (i := 1525) (by decide +kernel), List.mem_of_getElem? (i := 1526) (by decide +kernel)⟩
theorem lw_p114 : lw_okq (⟨"QuiverKinModel", "canDown", "(II)Z"⟩, 39) := ⟨⟨by decide +kernel, by decide +kernel⟩, List.mem_of_getElem? (i := 1201) (by decide +kernel), List.mem_of_getElem? (i := 1536) (by decide +kernel), List.mem_of_getElem? (i := 1537) (by decide +kernel)⟩
theorem lw_p115 : lw_okq (⟨"QuiverKinModel", "swapNow", "(II)V"⟩, 39) := ⟨⟨by decide +kernel, by decide +kernel⟩, List.mem_of_getElem? (i := 1201) (by decide +kernel), List.mem_of_getElem? (i := 1548) (by decide +kernel), List.mem_of_getElem? (i := 1549) (by decide +kernel)⟩
theorem lw_p116 : lw_okq (⟨"QuiverKinModel", "arePassed", "(I)Z"⟩, 39) := ⟨⟨by decide +kernel, by decide +kernel⟩, List.mem_of_getElem? (i := 1201) (by decide +kernel), List.mem_of_getElem? (i := 1556) (by decide +kernel), List.mem_of_getElem? (i := 1557) (by decide +kernel)⟩
theorem lw_p117 : lw_okq (⟨"QuiverKinModel", "pass", "()V"⟩, 39) := ⟨⟨by decide +kernel, by decide +kernel⟩, List.mem_of_getElem? (i := 1201) (by decide +kernel), List.mem_of_getElem? (i := 1560) (by decide +kernel), List.mem_of_getElem? (i := 1561) (by decide +kernel)⟩
theorem lw_p118 : lw_okq (⟨"QuiverKinModel", "whoAt", "(I)I"⟩, 39) := ⟨⟨by decide +kernel, by decide +kernel⟩, List.mem_of_getElem? (i := 1201) (by decide +kernel), List.mem_of_getElem? (i := 1564) (by decide +kernel), List.mem_of_getElem? (i := 1565) (by decide +kernel)⟩
theorem lw_p119 : lw_okq (⟨"QuiverKinModel", "drawnBy", "(I)I"⟩, 39) := ⟨⟨by decide +kernel, by decide +kernel⟩, List.mem_of_getElem? (i := 1201) (by decide +kernel), List.mem_of_getElem? (i := 1568) (by decide +kernel), List.mem_of_getElem? (i := 1569) (by decide +kernel)⟩
theorem lw_p120 : lw_okq (⟨"QuiverKinModel", "anew", "()V"⟩, 39) := ⟨⟨by decide +kernel, by decide +kernel⟩, List.mem_of_getElem? (i := 1201) (by decide +kernel), List.mem_of_getElem? (i := 1572) (by decide +kernel), List.mem_of_getElem? (i := 1573) (by decide +kernel)⟩
theorem lw_p121 : lw_okq (⟨"QuiverKinModel", "reachesOf", "(II)I"⟩, 39) := ⟨⟨by decide +kernel, by decide +kernel⟩, List.mem_of_getElem? (i := 1201) (by decide +kernel), List.mem_of_getElem? (i := 1579) (by decide +kernel), List.mem_of_getElem? (i := 1580) (by decide +kernel)⟩
theorem lw_p122 : lw_okq (⟨"QuiverKinModel", "name", "(I)V"⟩, 39) := ⟨⟨by decide +kernel, by decide +kernel⟩, List.mem_of_getElem? (i := 1201) (by decide +kernel), List.mem_of_getElem? (i := 1583) (by decide +kernel), List.mem_of_getElem? (i := 1584) (by decide +kernel)⟩
theorem lw_p123 : lw_okq (⟨"QuiverKinModel", "further", "(II)I"⟩, 39) := ⟨⟨by decide +kernel, by decide +kernel⟩, List.mem_of_getElem? (i := 1201) (by decide +kernel), List.mem_of_getElem? (i := 1587) (by decide +kernel), List.mem_of_getElem? (i := 1588) (by decide +kernel)⟩
theorem lw_p124 : lw_okq (⟨"QuiverKinModel", "says", "(IIII)I"⟩, 39) := ⟨⟨by decide +kernel, by decide +kernel⟩, List.mem_of_getElem? (i := 1201) (by decide +kernel), List.mem_of_getElem? (i := 1591) (by decide +kernel), List.mem_of_getElem? (i := 1592) (by decide +kernel)⟩
theorem lw_p125 : lw_okq (⟨"QuiverKinModel", "summedUp", "(II)J"⟩, 39) := ⟨⟨by decide +kernel, by decide +kernel⟩, List.mem_of_getElem? (i := 1201) (by decide +kernel), List.mem_of_getElem? (i := 1595) (by decide +kernel), List.mem_of_getElem? (i := 1596) (by decide +kernel)⟩
theorem lw_p126 : lw_okq (⟨"QuiverKinModel", "ofOne", "(IJ)J"⟩, 39) := ⟨⟨by decide +kernel, by decide +kernel⟩, List.mem_of_getElem? (i := 1201) (by decide +kernel), List.mem_of_getElem? (i := 1599) (by decide +kernel), List.mem_of_getElem? (i := 1600) (by decide +kernel)⟩
theorem lw_p127 : lw_okq (⟨"QuiverKinModel", "acrossOf", "(I)I"⟩, 39) := ⟨⟨by decide +kernel, by decide +kernel⟩, List.mem_of_getElem? (i := 1201) (by decide +kernel), List.mem_of_getElem? (i := 1603) (by decide +kernel), List.mem_of_getElem? (i := 1604) (by decide +kernel)⟩
def lw_privs_8 : List (MethodName × Nat) := [(⟨"QuiverKinModel", "keep", "()V"⟩, 39), (⟨"QuiverKinModel", "more", "(I)V"⟩, 39), (⟨"QuiverKinModel", "canDown", "(II)Z"⟩, 39), (⟨"QuiverKinModel", "swapNow", "(II)V"⟩, 39), (⟨"QuiverKinModel", "arePassed", "(I)Z"⟩, 39), (⟨"QuiverKinModel", "pass", "()V"⟩, 39), (⟨"QuiverKinModel", "whoAt", "(I)I"⟩, 39), (⟨"QuiverKinModel", "drawnBy", "(I)I"⟩, 39), (⟨"QuiverKinModel", "anew", "()V"⟩, 39), (⟨"QuiverKinModel", "reachesOf", "(II)I"⟩, 39), (⟨"QuiverKinModel", "name", "(I)V"⟩, 39), (⟨"QuiverKinModel", "further", "(II)I"⟩, 39), (⟨"QuiverKinModel", "says", "(IIII)I"⟩, 39), (⟨"QuiverKinModel", "summedUp", "(II)J"⟩, 39), (⟨"QuiverKinModel", "ofOne", "(IJ)J"⟩, 39), (⟨"QuiverKinModel", "acrossOf", "(I)I"⟩, 39)]
theorem lw_r8 : ∀ q ∈ lw_privs_8, lw_okq q := List.forall_mem_cons.mpr ⟨lw_p112, List.forall_mem_cons.mpr ⟨lw_p113, List.forall_mem_cons.mpr ⟨lw_p114, List.forall_mem_cons.mpr ⟨lw_p115, List.forall_mem_cons.mpr ⟨lw_p116, List.forall_mem_cons.mpr ⟨lw_p117, List.forall_mem_cons.mpr ⟨lw_p118, List.forall_mem_cons.mpr ⟨lw_p119, List.forall_mem_cons.mpr ⟨lw_p120, List.forall_mem_cons.mpr ⟨lw_p121, List.forall_mem_cons.mpr ⟨lw_p122, List.forall_mem_cons.mpr ⟨lw_p123, List.forall_mem_cons.mpr ⟨lw_p124, List.forall_mem_cons.mpr ⟨lw_p125, List.forall_mem_cons.mpr ⟨lw_p126, List.forall_mem_cons.mpr ⟨lw_p127, fun _ h => absurd h List.not_mem_nil⟩⟩⟩⟩⟩⟩⟩⟩⟩⟩⟩⟩⟩⟩⟩⟩
theorem lw_p128 : lw_okq (⟨"QuiverKinModel", "bearsOf", "(I)I"⟩, 39) := ⟨⟨by decide +kernel, by decide +kernel⟩, List.mem_of_getElem? (i := 1201) (by decide +kernel), List.mem_of_getElem? (i := 1621) (by decide +kernel), List.mem_of_getElem? (i := 1622) (by decide +kernel)⟩
theorem lw_p129 : lw_okq (⟨"QuiverKinModel", "looseNow", "(I)V"⟩, 39) := ⟨⟨by decide +kernel, by decide +kernel⟩, List.mem_of_getElem? (i := 1201) (by decide +kernel), List.mem_of_getElem? (i := 1625) (by decide +kernel), List.mem_of_getElem? (i := 1626) (by decide +kernel)⟩
theorem lw_p130 : lw_okq (⟨"QuiverKinModel", "write", "(III)V"⟩, 39) := ⟨⟨by decide +kernel, by decide +kernel⟩, List.mem_of_getElem? (i := 1201) (by decide +kernel), List.mem_of_getElem? (i := 1629) (by decide +kernel), List.mem_of_getElem? (i := 1630) (by decide +kernel)⟩
theorem lw_p131 : lw_okq (⟨"QuiverKinModel", "isPlayed", "(I)Z"⟩, 39) := ⟨⟨by decide +kernel, by decide +kernel⟩, List.mem_of_getElem? (i := 1201) (by decide +kernel), List.mem_of_getElem? (i := 1637) (by decide +kernel), List.mem_of_getElem? (i := 1638) (by decide +kernel)⟩
theorem lw_p132 : lw_okq (⟨"QuiverKinModel", "happensTo", "(II)V"⟩, 39) := ⟨⟨by decide +kernel, by decide +kernel⟩, List.mem_of_getElem? (i := 1201) (by decide +kernel), List.mem_of_getElem? (i := 1650) (by decide +kernel), List.mem_of_getElem? (i := 1651) (by decide +kernel)⟩
theorem lw_p133 : lw_okq (⟨"QuiverKinModel", "lineOf", "(II)I"⟩, 39) := ⟨⟨by decide +kernel, by decide +kernel⟩, List.mem_of_getElem? (i := 1201) (by decide +kernel), List.mem_of_getElem? (i := 1670) (by decide +kernel), List.mem_of_getElem? (i := 1671) (by decide +kernel)⟩
theorem lw_p134 : lw_okq (⟨"QuiverKinModel", "layBest", "()V"⟩, 39) := ⟨⟨by decide +kernel, by decide +kernel⟩, List.mem_of_getElem? (i := 1201) (by decide +kernel), List.mem_of_getElem? (i := 1694) (by decide +kernel), List.mem_of_getElem? (i := 1695) (by decide +kernel)⟩
theorem lw_p135 : lw_okq (⟨"QuiverKinModel", "seatingsInAll", "()I"⟩, 39) := ⟨⟨by decide +kernel, by decide +kernel⟩, List.mem_of_getElem? (i := 1201) (by decide +kernel), List.mem_of_getElem? (i := 1699) (by decide +kernel), List.mem_of_getElem? (i := 1700) (by decide +kernel)⟩
theorem lw_p136 : lw_okq (⟨"QuiverKinModel", "layRow", "(I)V"⟩, 39) := ⟨⟨by decide +kernel, by decide +kernel⟩, List.mem_of_getElem? (i := 1201) (by decide +kernel), List.mem_of_getElem? (i := 1706) (by decide +kernel), List.mem_of_getElem? (i := 1707) (by decide +kernel)⟩
theorem lw_p137 : lw_okq (⟨"QuiverKinModel", "spiteOfRow", "()I"⟩, 39) := ⟨⟨by decide +kernel, by decide +kernel⟩, List.mem_of_getElem? (i := 1201) (by decide +kernel), List.mem_of_getElem? (i := 1710) (by decide +kernel), List.mem_of_getElem? (i := 1711) (by decide +kernel)⟩
theorem lw_p138 : lw_okq (⟨"QuiverKinModel", "spiteOfSeats", "()I"⟩, 39) := ⟨⟨by decide +kernel, by decide +kernel⟩, List.mem_of_getElem? (i := 1201) (by decide +kernel), List.mem_of_getElem? (i := 1726) (by decide +kernel), List.mem_of_getElem? (i := 1727) (by decide +kernel)⟩
theorem lw_p139 : lw_okq (⟨"QuiverKinModel", "isFlown", "(II)Z"⟩, 39) := ⟨⟨by decide +kernel, by decide +kernel⟩, List.mem_of_getElem? (i := 1201) (by decide +kernel), List.mem_of_getElem? (i := 1745) (by decide +kernel), List.mem_of_getElem? (i := 1746) (by decide +kernel)⟩
theorem lw_p140 : lw_okq (⟨"QuiverKinModel", "layFits", "()I"⟩, 39) := ⟨⟨by decide +kernel, by decide +kernel⟩, List.mem_of_getElem? (i := 1201) (by decide +kernel), List.mem_of_getElem? (i := 1786) (by decide +kernel), List.mem_of_getElem? (i := 1787) (by decide +kernel)⟩
theorem lw_p141 : lw_okq (⟨"QuiverKinModel", "mostAlike", "(II)I"⟩, 39) := ⟨⟨by decide +kernel, by decide +kernel⟩, List.mem_of_getElem? (i := 1201) (by decide +kernel), List.mem_of_getElem? (i := 1798) (by decide +kernel), List.mem_of_getElem? (i := 1799) (by decide +kernel)⟩
theorem lw_p142 : lw_okq (⟨"QuiverKinModel", "isFitting", "(II)Z"⟩, 39) := ⟨⟨by decide +kernel, by decide +kernel⟩, List.mem_of_getElem? (i := 1201) (by decide +kernel), List.mem_of_getElem? (i := 1802) (by decide +kernel), List.mem_of_getElem? (i := 1803) (by decide +kernel)⟩
theorem lw_p143 : lw_okq (⟨"QuiverKinModel", "gainOf", "(III)I"⟩, 39) := ⟨⟨by decide +kernel, by decide +kernel⟩, List.mem_of_getElem? (i := 1201) (by decide +kernel), List.mem_of_getElem? (i := 1814) (by decide +kernel), List.mem_of_getElem? (i := 1815) (by decide +kernel)⟩
def lw_privs_9 : List (MethodName × Nat) := [(⟨"QuiverKinModel", "bearsOf", "(I)I"⟩, 39), (⟨"QuiverKinModel", "looseNow", "(I)V"⟩, 39), (⟨"QuiverKinModel", "write", "(III)V"⟩, 39), (⟨"QuiverKinModel", "isPlayed", "(I)Z"⟩, 39), (⟨"QuiverKinModel", "happensTo", "(II)V"⟩, 39), (⟨"QuiverKinModel", "lineOf", "(II)I"⟩, 39), (⟨"QuiverKinModel", "layBest", "()V"⟩, 39), (⟨"QuiverKinModel", "seatingsInAll", "()I"⟩, 39), (⟨"QuiverKinModel", "layRow", "(I)V"⟩, 39), (⟨"QuiverKinModel", "spiteOfRow", "()I"⟩, 39), (⟨"QuiverKinModel", "spiteOfSeats", "()I"⟩, 39), (⟨"QuiverKinModel", "isFlown", "(II)Z"⟩, 39), (⟨"QuiverKinModel", "layFits", "()I"⟩, 39), (⟨"QuiverKinModel", "mostAlike", "(II)I"⟩, 39), (⟨"QuiverKinModel", "isFitting", "(II)Z"⟩, 39), (⟨"QuiverKinModel", "gainOf", "(III)I"⟩, 39)]
theorem lw_r9 : ∀ q ∈ lw_privs_9, lw_okq q := List.forall_mem_cons.mpr ⟨lw_p128, List.forall_mem_cons.mpr ⟨lw_p129, List.forall_mem_cons.mpr ⟨lw_p130, List.forall_mem_cons.mpr ⟨lw_p131, List.forall_mem_cons.mpr ⟨lw_p132, List.forall_mem_cons.mpr ⟨lw_p133, List.forall_mem_cons.mpr ⟨lw_p134, List.forall_mem_cons.mpr ⟨lw_p135, List.forall_mem_cons.mpr ⟨lw_p136, List.forall_mem_cons.mpr ⟨lw_p137, List.forall_mem_cons.mpr ⟨lw_p138, List.forall_mem_cons.mpr ⟨lw_p139, List.forall_mem_cons.mpr ⟨lw_p140, List.forall_mem_cons.mpr ⟨lw_p141, List.forall_mem_cons.mpr ⟨lw_p142, List.forall_mem_cons.mpr ⟨lw_p143, fun _ h => absurd h List.not_mem_nil⟩⟩⟩⟩⟩⟩⟩⟩⟩⟩⟩⟩⟩⟩⟩⟩
theorem lw_p144 : lw_okq (⟨"QuiverKinModel", "isBetween", "(Z)Z"⟩, 39) := ⟨⟨by decide +kernel, by decide +kernel⟩, List.mem_of_getElem? (i := 1201) (by decide +kernel), List.mem_of_getElem? (i := 1822) (by decide +kernel), List.mem_of_getElem? (i := 1823) (by decide +kernel)⟩
theorem lw_p145 : lw_okq (⟨"QuiverKinModel", "lowOf", "(Z)I"⟩, 39) := ⟨⟨by decide +kernel, by decide +kernel⟩, List.mem_of_getElem? (i := 1201) (by decide +kernel), List.mem_of_getElem? (i := 1826) (by decide +kernel), List.mem_of_getElem? (i := 1827) (by decide +kernel)⟩
theorem lw_p146 : lw_okq (⟨"QuiverKinModel", "upOf", "(Z)I"⟩, 39) := ⟨⟨by decide +kernel, by decide +kernel⟩, List.mem_of_getElem? (i := 1201) (by decide +kernel), List.mem_of_getElem? (i := 1830) (by decide +kernel), List.mem_of_getElem? (i := 1831) (by decide +kernel)⟩
theorem lw_p147 : lw_okq (⟨"QuiverKinModel", "sumOf", "(II)I"⟩, 39) := ⟨⟨by decide +kernel, by decide +kernel⟩, List.mem_of_getElem? (i := 1201) (by decide +kernel), List.mem_of_getElem? (i := 1845) (by decide +kernel), List.mem_of_getElem? (i := 1846) (by decide +kernel)⟩
theorem lw_p148 : lw_okq (⟨"QuiverKinModel", "layWins", "(I)V"⟩, 39) := ⟨⟨by decide +kernel, by decide +kernel⟩, List.mem_of_getElem? (i := 1201) (by decide +kernel), List.mem_of_getElem? (i := 1867) (by decide +kernel), List.mem_of_getElem? (i := 1868) (by decide +kernel)⟩
theorem lw_p149 : lw_okq (⟨"QuiverKinModel", "biteOf", "(I)I"⟩, 39) := ⟨⟨by decide +kernel, by decide +kernel⟩, List.mem_of_getElem? (i := 1201) (by decide +kernel), List.mem_of_getElem? (i := 1877) (by decide +kernel), List.mem_of_getElem? (i := 1878) (by decide +kernel)⟩
def lw_privs_10 : List (MethodName × Nat) := [(⟨"QuiverKinModel", "isBetween", "(Z)Z"⟩, 39), (⟨"QuiverKinModel", "lowOf", "(Z)I"⟩, 39), (⟨"QuiverKinModel", "upOf", "(Z)I"⟩, 39), (⟨"QuiverKinModel", "sumOf", "(II)I"⟩, 39), (⟨"QuiverKinModel", "layWins", "(I)V"⟩, 39), (⟨"QuiverKinModel", "biteOf", "(I)I"⟩, 39)]
theorem lw_r10 : ∀ q ∈ lw_privs_10, lw_okq q := List.forall_mem_cons.mpr ⟨lw_p144, List.forall_mem_cons.mpr ⟨lw_p145, List.forall_mem_cons.mpr ⟨lw_p146, List.forall_mem_cons.mpr ⟨lw_p147, List.forall_mem_cons.mpr ⟨lw_p148, List.forall_mem_cons.mpr ⟨lw_p149, fun _ h => absurd h List.not_mem_nil⟩⟩⟩⟩⟩⟩
def lw_privs : List (MethodName × Nat) := lw_privs_1 ++ (lw_privs_2 ++ (lw_privs_3 ++ (lw_privs_4 ++ (lw_privs_5 ++ (lw_privs_6 ++ (lw_privs_7 ++ (lw_privs_8 ++ (lw_privs_9 ++ (lw_privs_10)))))))))
def lw_tbl : List Cond := k2_sels lw_privs ++ tables_1
theorem lw_privs_ok : ∀ q ∈ lw_privs, lw_okq q := by
  show ∀ q ∈ lw_privs_1 ++ (lw_privs_2 ++ (lw_privs_3 ++ (lw_privs_4 ++ (lw_privs_5 ++ (lw_privs_6 ++ (lw_privs_7 ++ (lw_privs_8 ++ (lw_privs_9 ++ (lw_privs_10))))))))), lw_okq q
  exact List.forall_mem_append.mpr ⟨lw_r1, List.forall_mem_append.mpr ⟨lw_r2, List.forall_mem_append.mpr ⟨lw_r3, List.forall_mem_append.mpr ⟨lw_r4, List.forall_mem_append.mpr ⟨lw_r5, List.forall_mem_append.mpr ⟨lw_r6, List.forall_mem_append.mpr ⟨lw_r7, List.forall_mem_append.mpr ⟨lw_r8, List.forall_mem_append.mpr ⟨lw_r9, lw_r10⟩⟩⟩⟩⟩⟩⟩⟩⟩
end
section
/-! THE ABSTRACT MACHINE: values are the kit's Value with .ref 0 for null; a memory is six functions and numbers: ints, longs, references by address and place; kind and length by address; the next address; the slots so far. Addresses are logical ones: below 8 what stands outside, from 8 on in the order of making. Kinds: 1 int[], 2 boolean[], 3 long[], 4 byte[], 5 Table[], 6 Text[], 8 an int[] that is only read, 9 a byte[] that is only read, 10 something opaque, 16 + ci an object of class ci. -/
abbrev Mem : Type := (Nat → Nat → Int32) × (Nat → Nat → Int64) × (Nat → Nat → Nat) × (Nat → Nat × Nat) × Nat × Nat
def mI (h : Mem) : Nat → Nat → Int32 := h.1
def mJ (h : Mem) : Nat → Nat → Int64 := h.2.1
def mR (h : Mem) : Nat → Nat → Nat := h.2.2.1
def mS (h : Mem) : Nat → Nat × Nat := h.2.2.2.1
def mN (h : Mem) : Nat := h.2.2.2.2.1
def mC (h : Mem) : Nat := h.2.2.2.2.2
def wI (h : Mem) (a : Nat) (f : Nat → Int32) : Mem := (va_up h.1 a f, h.2)
def wJ (h : Mem) (a : Nat) (f : Nat → Int64) : Mem := (h.1, va_up h.2.1 a f, h.2.2)
def wR (h : Mem) (a : Nat) (f : Nat → Nat) : Mem := (h.1, h.2.1, va_up h.2.2.1 a f, h.2.2.2)
/-- a new object or array: its rows are blank -/
def mk (h : Mem) (kind len : Nat) : Mem := (va_up h.1 (mN h) (fun _ => 0), va_up h.2.1 (mN h) (fun _ => 0), va_up h.2.2.1 (mN h) (fun _ => 0), va_up h.2.2.2.1 (mN h) (kind, len), mN h + 1, mC h + len)
abbrev Rs : Type := Option (Value × Mem)
/-- an instruction: its place, itself, its length, four numbers and a constant that the checks tie to it, and a switch's roads -/
abbrev Op : Type := Nat × Instr × Nat × Nat × Nat × Nat × Value × List (Int32 × Nat)
abbrev dd : Value := .retAddr 0
def nth : List Value → Nat → Value
  | [], _ => dd
  | v :: _, 0 => v
  | _ :: l, n + 1 => nth l n
def setN : List Value → Nat → Value → List Value
  | [], _, _ => []
  | _ :: l, 0, v => v :: l
  | w :: l, n + 1, v => w :: setN l n v
/-- ahead of a store at i: a long that began ahead of it is gone -/
def kil : List Value → Nat → List Value
  | [], _ => []
  | v :: l, 0 => v :: l
  | v :: l, 1 => (match v with | .long _ => dd | .double _ => dd | w => w) :: l
  | v :: l, n + 2 => v :: kil l (n + 1)
def st1 (L : List Value) (i : Nat) (v : Value) : List Value := setN (kil L i) i v
def st2 (L : List Value) (i : Nat) (v : Value) : List Value := setN (setN (kil L i) i v) (i + 1) dd
def msk : List Bool → List Value → List Value
  | true :: m, v :: l => v :: msk m l
  | false :: m, _ :: l => dd :: msk m l
  | _, _ => []
def catS : List Value → Nat
  | [] => 0
  | .long _ :: l => 2 + catS l
  | .double _ :: l => 2 + catS l
  | _ :: l => 1 + catS l
def isIA : Nat → Bool
  | 1 => true
  | 8 => true
  | _ => false
def isBA : Nat → Bool
  | 2 => true
  | 9 => true
  | _ => false
def isAr : Nat → Bool
  | 1 => true
  | 2 => true
  | 3 => true
  | 4 => true
  | 5 => true
  | 6 => true
  | 8 => true
  | 9 => true
  | _ => false
def isRA : Nat → Bool
  | 5 => true
  | 6 => true
  | _ => false
def ldI (h : Mem) (a : Nat) (i : Int32) (f : Int32 → Rs) : Rs := if isIA (mS h a).1 = true ∧ (0 ≤ i.toInt ∧ i.toInt < (mS h a).2) then f (mI h a i.toNatClampNeg) else none
def ldB (h : Mem) (a : Nat) (i : Int32) (f : Int32 → Rs) : Rs := if isBA (mS h a).1 = true ∧ (0 ≤ i.toInt ∧ i.toInt < (mS h a).2) then f (mI h a i.toNatClampNeg) else none
def ldJ (h : Mem) (a : Nat) (i : Int32) (f : Int64 → Rs) : Rs := if (mS h a).1 = 3 ∧ (0 ≤ i.toInt ∧ i.toInt < (mS h a).2) then f (mJ h a i.toNatClampNeg) else none
def ldR (h : Mem) (a : Nat) (i : Int32) (f : Nat → Rs) : Rs := if isRA (mS h a).1 = true ∧ (0 ≤ i.toInt ∧ i.toInt < (mS h a).2) then f (mR h a i.toNatClampNeg) else none
def stI (h : Mem) (a : Nat) (i x : Int32) (f : Mem → Rs) : Rs := if (mS h a).1 = 1 ∧ (0 ≤ i.toInt ∧ i.toInt < (mS h a).2) then f (wI h a (upd (mI h a) i.toNatClampNeg x)) else none
def stB (h : Mem) (a : Nat) (i x : Int32) (f : Mem → Rs) : Rs := if (mS h a).1 = 2 ∧ (x = 0 ∨ x = 1) ∧ (0 ≤ i.toInt ∧ i.toInt < (mS h a).2) then f (wI h a (upd (mI h a) i.toNatClampNeg x)) else none
def stJ (h : Mem) (a : Nat) (i : Int32) (x : Int64) (f : Mem → Rs) : Rs := if (mS h a).1 = 3 ∧ (0 ≤ i.toInt ∧ i.toInt < (mS h a).2) then f (wJ h a (vp_updL (mJ h a) i.toNatClampNeg x)) else none
/-- a store into a row of references: of an object of the row's class (kc tells it), never null unless the row says so -/
def kc : Nat → Nat
  | 5 => 23
  | 6 => 25
  | _ => 0
def alN (h : Mem) (a : Nat) (f : Int32 → Rs) : Rs := if isAr (mS h a).1 = true then f (Int32.ofNat (mS h a).2) else none
def gfI (h : Mem) (ci k a : Nat) (f : Int32 → Rs) : Rs := if (mS h a).1 = 16 + ci then f (mI h a k) else none
def gfJ (h : Mem) (ci k a : Nat) (f : Int64 → Rs) : Rs := if (mS h a).1 = 16 + ci then f (mJ h a k) else none
def gfR (h : Mem) (ci k a : Nat) (f : Nat → Rs) : Rs := if (mS h a).1 = 16 + ci then f (mR h a k) else none
def pfI (h : Mem) (ci k a : Nat) (x : Int32) (f : Mem → Rs) : Rs := if (mS h a).1 = 16 + ci ∧ 8 ≤ a then f (wI h a (upd (mI h a) k x)) else none
def pfZ (h : Mem) (ci k a : Nat) (x : Int32) (f : Mem → Rs) : Rs := if (mS h a).1 = 16 + ci ∧ 8 ≤ a ∧ (x = 0 ∨ x = 1) then f (wI h a (upd (mI h a) k x)) else none
def pfJ (h : Mem) (ci k a : Nat) (x : Int64) (f : Mem → Rs) : Rs := if (mS h a).1 = 16 + ci ∧ 8 ≤ a then f (wJ h a (vp_updL (mJ h a) k x)) else none
def pfR (h : Mem) (ci k a : Nat) (x : Nat) (f : Mem → Rs) : Rs := if (mS h a).1 = 16 + ci ∧ 8 ≤ a then f (wR h a (va_up (mR h a) k x)) else none
def nwA (h : Mem) (kind : Nat) (n : Int32) (f : Nat → Mem → Rs) : Rs := if 0 ≤ n.toInt ∧ n.toInt ≤ 100000 then f (mN h) (mk h kind n.toNatClampNeg) else none
def bnI (r : Rs) (f : Int32 → Mem → Rs) : Rs := match r with
  | some (.int x, h) => f x h
  | _ => none
def bnJ (r : Rs) (f : Int64 → Mem → Rs) : Rs := match r with
  | some (.long x, h) => f x h
  | _ => none
def bnR (r : Rs) (f : Nat → Mem → Rs) : Rs := match r with
  | some (.ref x, h) => f x h
  | _ => none
def bnV (r : Rs) (f : Mem → Rs) : Rs := match r with
  | some (.null, h) => f h
  | _ => none
def grd (b : Bool) (r : Rs) : Rs := match b with
  | true => r
  | false => none
def swC : List (Int32 × Nat) → Nat → Int32 → (Nat → Rs) → Rs
  | [], d, _, f => f d
  | (c, t) :: l, d, x, f => if x = c then f t else swC l d x f
def stR (h : Mem) (a : Nat) (i : Int32) (x : Nat) (f : Mem → Rs) : Rs := if isRA (mS h a).1 = true ∧ 8 ≤ a ∧ (x = 0 ∨ 8 ≤ x ∧ (mS h x).1 = kc (mS h a).1) ∧ (0 ≤ i.toInt ∧ i.toInt < (mS h a).2) then f (wR h a (va_up (mR h a) i.toNatClampNeg x)) else none
def rtN (z : Nat) (a : Int32) (h : Mem) : Rs := match z with
  | 0 => some (.int a, h)
  | 1 => if a = 0 ∨ a = 1 then some (.int a, h) else none
  | 2 => if 0 ≤ a ∧ a ≤ 65535 then some (.int a, h) else none
  | _ => if -128 ≤ a ∧ a ≤ 127 then some (.int a, h) else none
/-- System.arraycopy between rows of int, of another row -/
def acI (h : Mem) (a b : Nat) (i j n : Int32) (f : Mem → Rs) : Rs := if (mS h a).1 = 1 ∧ (mS h b).1 = 1 ∧ a ≠ b ∧ 8 ≤ a ∧ 8 ≤ b ∧ 0 ≤ i.toInt ∧ 0 ≤ j.toInt ∧ 0 ≤ n.toInt ∧ i.toInt + n.toInt ≤ (mS h a).2 ∧ j.toInt + n.toInt ≤ (mS h b).2 then f (wI h b (va_cpy (mI h a) (mI h b) i.toNatClampNeg j.toNatClampNeg n.toNatClampNeg)) else none
/-- clone of a row of int -/
def clI (h : Mem) (a : Nat) (f : Nat → Mem → Rs) : Rs := if (mS h a).1 = 1 ∧ 8 ≤ a then f (mN h) (wI (mk h 1 (mS h a).2) (mN h) (mI h a)) else none
/-- what a call's answer does to the stack, by what the method returns -/
def bnd (z : Nat) (r : Rs) (nx : List Value → Mem → Rs) (T : List Value) : Rs := match z with
  | 0 => bnV r fun h => nx T h
  | 1 => bnI r fun x h => nx (.int x :: T) h
  | 2 => bnJ r fun x h => nx (.long x :: T) h
  | _ => bnR r fun x h => nx (.ref x :: T) h
def ivk (cal : Nat → List Value → Mem → Rs) (rk : Nat → List Value → Nat) (r : Nat) (M y z : Nat) (S : List Value) (h : Mem) (nx : List Value → Mem → Rs) : Rs :=
  match z, S with
  | 9, .int n :: .int j :: .ref b :: .int i :: .ref a :: T => acI h a b i j n fun h => nx T h
  | 10, .ref a :: T => clI h a fun q h => nx (.ref q :: T) h
  | 11, .ref _ :: T => nx T h
  | 9, _ => none
  | 10, _ => none
  | 11, _ => none
  | z, S => grd (Nat.ble (catS (S.drop y)) 8 && Nat.blt (rk M (S.take y).reverse) r) (bnd z (cal M (S.take y).reverse h) nx (S.drop y))
/-- one instruction: what follows on is nx, where it goes elsewhere jp -/
def stC (cal : Nat → List Value → Mem → Rs) (rk : Nat → List Value → Nat) (r : Nat) (o : Op) (nx : List Value → List Value → Mem → Rs) (jp : Nat → List Value → List Value → Mem → Rs) (L S : List Value) (h : Mem) : Rs :=
  match o with
  | (_, i, _, x, y, z, v, sw) =>
  match i with
  | .iconst _ => nx L (v :: S) h
  | .bipush _ => nx L (v :: S) h
  | .sipush _ => nx L (v :: S) h
  | .lconst _ => nx L (v :: S) h
  | .ldc _ => nx L (v :: S) h
  | .ldc_w _ => nx L (v :: S) h
  | .ldc2_w _ => nx L (v :: S) h
  | .aconst_null => nx L (.ref 0 :: S) h
  | .getstatic _ => nx L (v :: S) h
  | .iload_n _ => (match nth L x with | .int a => nx L (.int a :: S) h | _ => none)
  | .iload _ => (match nth L x with | .int a => nx L (.int a :: S) h | _ => none)
  | .lload_n _ => (match nth L x with | .long a => nx L (.long a :: S) h | _ => none)
  | .lload _ => (match nth L x with | .long a => nx L (.long a :: S) h | _ => none)
  | .aload_n _ => (match nth L x with | .ref a => nx L (.ref a :: S) h | _ => none)
  | .aload _ => (match nth L x with | .ref a => nx L (.ref a :: S) h | _ => none)
  | .istore_n _ => (match S with | .int a :: T => nx (st1 L x (.int a)) T h | _ => none)
  | .istore _ => (match S with | .int a :: T => nx (st1 L x (.int a)) T h | _ => none)
  | .astore_n _ => (match S with | .ref a :: T => nx (st1 L x (.ref a)) T h | _ => none)
  | .astore _ => (match S with | .ref a :: T => nx (st1 L x (.ref a)) T h | _ => none)
  | .lstore_n _ => (match S with | .long a :: T => nx (st2 L x (.long a)) T h | _ => none)
  | .lstore _ => (match S with | .long a :: T => nx (st2 L x (.long a)) T h | _ => none)
  | .iinc _ _ => (match nth L x, v with | .int a, .int c => nx (st1 L x (.int (a + c))) S h | _, _ => none)
  | .iadd => (match S with | .int b :: .int a :: T => nx L (.int (a + b) :: T) h | _ => none)
  | .isub => (match S with | .int b :: .int a :: T => nx L (.int (a - b) :: T) h | _ => none)
  | .imul => (match S with | .int b :: .int a :: T => nx L (.int (a * b) :: T) h | _ => none)
  | .idiv => (match S with | .int b :: .int a :: T => if b = 0 then none else nx L (.int (a / b) :: T) h | _ => none)
  | .irem => (match S with | .int b :: .int a :: T => if b = 0 then none else nx L (.int (a % b) :: T) h | _ => none)
  | .iand => (match S with | .int b :: .int a :: T => nx L (.int (a &&& b) :: T) h | _ => none)
  | .ior => (match S with | .int b :: .int a :: T => nx L (.int (a ||| b) :: T) h | _ => none)
  | .ixor => (match S with | .int b :: .int a :: T => nx L (.int (a ^^^ b) :: T) h | _ => none)
  | .ishl => (match S with | .int b :: .int a :: T => nx L (.int (a <<< (b &&& 31)) :: T) h | _ => none)
  | .ishr => (match S with | .int b :: .int a :: T => nx L (.int (a >>> (b &&& 31)) :: T) h | _ => none)
  | .iushr => (match S with | .int b :: .int a :: T => nx L (.int (a.toUInt32 >>> (b.toUInt32 &&& Int32.toUInt32 31)).toInt32 :: T) h | _ => none)
  | .ineg => (match S with | .int a :: T => nx L (.int (-a) :: T) h | _ => none)
  | .ladd => (match S with | .long b :: .long a :: T => nx L (.long (a + b) :: T) h | _ => none)
  | .lsub => (match S with | .long b :: .long a :: T => nx L (.long (a - b) :: T) h | _ => none)
  | .lmul => (match S with | .long b :: .long a :: T => nx L (.long (a * b) :: T) h | _ => none)
  | .ldiv => (match S with | .long b :: .long a :: T => if b = 0 then none else nx L (.long (a / b) :: T) h | _ => none)
  | .lrem => (match S with | .long b :: .long a :: T => if b = 0 then none else nx L (.long (a % b) :: T) h | _ => none)
  | .land => (match S with | .long b :: .long a :: T => nx L (.long (a &&& b) :: T) h | _ => none)
  | .lor => (match S with | .long b :: .long a :: T => nx L (.long (a ||| b) :: T) h | _ => none)
  | .lxor => (match S with | .long b :: .long a :: T => nx L (.long (a ^^^ b) :: T) h | _ => none)
  | .lshl => (match S with | .int b :: .long a :: T => nx L (.long (a <<< (b.toInt64 &&& 63)) :: T) h | _ => none)
  | .lshr => (match S with | .int b :: .long a :: T => nx L (.long (a >>> (b.toInt64 &&& 63)) :: T) h | _ => none)
  | .lneg => (match S with | .long a :: T => nx L (.long (-a) :: T) h | _ => none)
  | .lcmp => (match S with | .long b :: .long a :: T => nx L (.int (lg_cmp a b) :: T) h | _ => none)
  | .i2l => (match S with | .int a :: T => nx L (.long a.toInt64 :: T) h | _ => none)
  | .l2i => (match S with | .long a :: T => nx L (.int a.toInt32 :: T) h | _ => none)
  | .i2b => (match S with | .int a :: T => nx L (.int a.toInt8.toInt32 :: T) h | _ => none)
  | .i2c => (match S with | .int a :: T => nx L (.int (a.toUInt32 % 65536).toInt32 :: T) h | _ => none)
  | .dup => (match S with | .int a :: T => nx L (.int a :: .int a :: T) h | .ref a :: T => nx L (.ref a :: .ref a :: T) h | _ => none)
  | .dup2 => (match S with | .int b :: .ref a :: T => nx L (.int b :: .ref a :: .int b :: .ref a :: T) h | .int b :: .int a :: T => nx L (.int b :: .int a :: .int b :: .int a :: T) h | .long a :: T => nx L (.long a :: .long a :: T) h | _ => none)
  | .dup_x1 => (match S with | .int b :: .ref a :: T => nx L (.int b :: .ref a :: .int b :: T) h | _ => none)
  | .pop => (match S with | .int _ :: T => nx L T h | .ref _ :: T => nx L T h | _ => none)
  | .goto _ => jp x L S h
  | .ifCond .eq _ => (match S with | .int a :: T => if a = 0 then jp x L T h else nx L T h | _ => none)
  | .ifCond .ne _ => (match S with | .int a :: T => if a = 0 then nx L T h else jp x L T h | _ => none)
  | .ifCond .lt _ => (match S with | .int a :: T => if 0 ≤ a then nx L T h else jp x L T h | _ => none)
  | .ifCond .ge _ => (match S with | .int a :: T => if a < 0 then nx L T h else jp x L T h | _ => none)
  | .ifCond .gt _ => (match S with | .int a :: T => if a ≤ 0 then nx L T h else jp x L T h | _ => none)
  | .ifCond .le _ => (match S with | .int a :: T => if 0 < a then nx L T h else jp x L T h | _ => none)
  | .if_icmp .eq _ => (match S with | .int b :: .int a :: T => if a = b then jp x L T h else nx L T h | _ => none)
  | .if_icmp .ne _ => (match S with | .int b :: .int a :: T => if a = b then nx L T h else jp x L T h | _ => none)
  | .if_icmp .lt _ => (match S with | .int b :: .int a :: T => if b ≤ a then nx L T h else jp x L T h | _ => none)
  | .if_icmp .ge _ => (match S with | .int b :: .int a :: T => if a < b then nx L T h else jp x L T h | _ => none)
  | .if_icmp .gt _ => (match S with | .int b :: .int a :: T => if a ≤ b then nx L T h else jp x L T h | _ => none)
  | .if_icmp .le _ => (match S with | .int b :: .int a :: T => if b < a then nx L T h else jp x L T h | _ => none)
  | .ifnull _ => (match S with | .ref a :: T => if a = 0 then jp x L T h else nx L T h | _ => none)
  | .ifnonnull _ => (match S with | .ref a :: T => if a = 0 then nx L T h else jp x L T h | _ => none)
  | .tableswitch _ _ _ _ => (match S with | .int a :: T => swC sw x a fun t => jp t L T h | _ => none)
  | .lookupswitch _ _ => (match S with | .int a :: T => swC sw x a fun t => jp t L T h | _ => none)
  | .ireturn => (match S with | [.int a] => rtN z a h | _ => none)
  | .lreturn => (match S with | [.long a] => some (.long a, h) | _ => none)
  | .areturn => (match S with | [.ref a] => some (.ref a, h) | _ => none)
  | .return_ => (match S with | [] => some (.null, h) | _ => none)
  | .getfield _ => (match z, S with | 0, .ref a :: T => gfI h x y a fun w => nx L (.int w :: T) h | 1, .ref a :: T => gfJ h x y a fun w => nx L (.long w :: T) h | 2, .ref a :: T => gfR h x y a fun w => nx L (.ref w :: T) h | _, _ => none)
  | .putfield _ => (match z, S with | 0, .int w :: .ref a :: T => pfI h x y a w fun h => nx L T h | 1, .long w :: .ref a :: T => pfJ h x y a w fun h => nx L T h | 2, .ref w :: .ref a :: T => pfR h x y a w fun h => nx L T h | 3, .int w :: .ref a :: T => pfZ h x y a w fun h => nx L T h | _, _ => none)
  | .new _ => nx L (.ref (mN h) :: S) (mk h (16 + x) y)
  | .newarray _ => (match S with | .int n :: T => nwA h x n fun a h => nx L (.ref a :: T) h | _ => none)
  | .anewarray _ => (match S with | .int n :: T => nwA h x n fun a h => nx L (.ref a :: T) h | _ => none)
  | .arraylength => (match S with | .ref a :: T => alN h a fun n => nx L (.int n :: T) h | _ => none)
  | .iaload => (match S with | .int i :: .ref a :: T => ldI h a i fun w => nx L (.int w :: T) h | _ => none)
  | .baload => (match S with | .int i :: .ref a :: T => ldB h a i fun w => nx L (.int w :: T) h | _ => none)
  | .laload => (match S with | .int i :: .ref a :: T => ldJ h a i fun w => nx L (.long w :: T) h | _ => none)
  | .aaload => (match S with | .int i :: .ref a :: T => ldR h a i fun w => nx L (.ref w :: T) h | _ => none)
  | .iastore => (match S with | .int w :: .int i :: .ref a :: T => stI h a i w fun h => nx L T h | _ => none)
  | .bastore => (match S with | .int w :: .int i :: .ref a :: T => stB h a i w fun h => nx L T h | _ => none)
  | .lastore => (match S with | .long w :: .int i :: .ref a :: T => stJ h a i w fun h => nx L T h | _ => none)
  | .aastore => (match S with | .ref w :: .int i :: .ref a :: T => stR h a i w fun h => nx L T h | _ => none)
  | .checkcast _ => (match S with | .ref a :: T => grd (Nat.beq (mS h a).1 1 && Nat.ble 8 a) (nx L (.ref a :: T) h) | _ => none)
  | .invokestatic _ => ivk cal rk r x y z S h fun S h => nx L S h
  | .invokevirtual _ => ivk cal rk r x y z S h fun S h => nx L S h
  | .invokespecial _ => ivk cal rk r x y z S h fun S h => nx L S h
  | _ => none
end
section
/-! ONE STEP IS A TAIL CALL; runs and calls out of it -/
def le (h h' : Mem) : Prop := mN h ≤ mN h' ∧ mC h ≤ mC h'
theorem le_rf (h : Mem) : le h h := ⟨Nat.le_refl _, Nat.le_refl _⟩
theorem le_tr {a b c : Mem} (x : le a b) (y : le b c) : le a c := ⟨Nat.le_trans x.1 y.1, Nat.le_trans x.2 y.2⟩
theorem le_mk (h : Mem) (k n : Nat) : le h (mk h k n) := ⟨Nat.le_succ _, Nat.le_add_right _ _⟩
abbrev Nx : Type := List Value → List Value → Mem → Rs
def Tl (h0 : Mem) (F : Nx → (Nat → Nx) → Rs) : Prop :=
  (∀ nx jp, F nx jp = none) ∨ (∃ v h', le h0 h' ∧ ∀ nx jp, F nx jp = some (v, h')) ∨ (∃ L S h', le h0 h' ∧ ∀ nx jp, F nx jp = nx L S h') ∨ (∃ t L S h', le h0 h' ∧ ∀ nx jp, F nx jp = jp t L S h')
theorem tl_no {h0 : Mem} : Tl h0 (fun _ _ => none) := Or.inl fun _ _ => rfl
theorem tl_rt {h0 : Mem} {v : Value} {h : Mem} (q : le h0 h) : Tl h0 (fun _ _ => some (v, h)) := Or.inr (Or.inl ⟨v, h, q, fun _ _ => rfl⟩)
theorem tl_nx {h0 : Mem} {L S : List Value} {h : Mem} (q : le h0 h) : Tl h0 (fun nx _ => nx L S h) := Or.inr (Or.inr (Or.inl ⟨L, S, h, q, fun _ _ => rfl⟩))
theorem tl_jp {h0 : Mem} {t : Nat} {L S : List Value} {h : Mem} (q : le h0 h) : Tl h0 (fun _ jp => jp t L S h) := Or.inr (Or.inr (Or.inr ⟨t, L, S, h, q, fun _ _ => rfl⟩))
theorem tl_if {h0 : Mem} {c : Prop} [Decidable c] {F G : Nx → (Nat → Nx) → Rs} (f : Tl h0 F) (g : Tl h0 G) : Tl h0 (fun nx jp => if c then F nx jp else G nx jp) := by
  by_cases q : c
  · simp only [q, if_true]; exact f
  · simp only [q, if_false]; exact g
theorem tl_ifn {h0 : Mem} {c : Prop} [Decidable c] {F : Nx → (Nat → Nx) → Rs} (f : Tl h0 F) : Tl h0 (fun nx jp => if c then F nx jp else none) := tl_if f tl_no
theorem tl_grd {h0 : Mem} {b : Bool} {F : Nx → (Nat → Nx) → Rs} (f : Tl h0 F) : Tl h0 (fun nx jp => grd b (F nx jp)) := by
  cases b
  · exact tl_no
  · exact f
theorem tl_sw {h0 : Mem} {L S : List Value} {d : Nat} {x : Int32} (sw : List (Int32 × Nat)) : Tl h0 (fun _ jp => swC sw d x fun t => jp t L S h0) := by
  induction sw with
  | nil => exact tl_jp (le_rf _)
  | cons q l ih =>
    obtain ⟨c, t⟩ := q
    show Tl h0 (fun _ jp => if x = c then jp t L S h0 else swC l d x fun t => jp t L S h0)
    exact tl_if (tl_jp (le_rf _)) ih
def Mono (cal : Nat → List Value → Mem → Rs) (rk : Nat → List Value → Nat) (r : Nat) : Prop := ∀ M a h v h', rk M a < r → cal M a h = some (v, h') → le h h'
theorem tl_ivk {cal : Nat → List Value → Mem → Rs} {rk : Nat → List Value → Nat} {r : Nat} (hm : Mono cal rk r) (M y z : Nat) (L S : List Value) (h : Mem) : Tl h (fun nx _ => ivk cal rk r M y z S h fun S h => nx L S h) := by
  unfold ivk
  split
  · exact tl_ifn (tl_nx (le_rf _))
  · exact tl_ifn (tl_nx (le_mk h _ _))
  · exact tl_nx (le_rf _)
  · exact tl_no
  · exact tl_no
  · exact tl_no
  · cases hg : (Nat.ble (catS (S.drop y)) 8 && Nat.blt (rk M (S.take y).reverse) r) with
    | false => exact tl_no
    | true =>
      have hr : rk M (S.take y).reverse < r := by
        simp only [Bool.and_eq_true] at hg
        exact Nat.blt_eq.mp hg.2
      show Tl h (fun nx _ => bnd z (cal M (S.take y).reverse h) (fun S h => nx L S h) (S.drop y))
      cases hc : cal M (S.take y).reverse h with
      | none =>
        unfold bnd
        split <;> exact tl_no
      | some q =>
        obtain ⟨v, h1⟩ := q
        have hl := hm _ _ _ _ _ hr hc
        unfold bnd
        split
        · cases v <;> first | exact tl_no | exact tl_nx hl
        · cases v <;> first | exact tl_no | exact tl_nx hl
        · cases v <;> first | exact tl_no | exact tl_nx hl
        · cases v <;> first | exact tl_no | exact tl_nx hl
set_option maxHeartbeats 4000000 in
theorem stC_tl {cal : Nat → List Value → Mem → Rs} {rk : Nat → List Value → Nat} {r : Nat} (hm : Mono cal rk r) (o : Op) (L S : List Value) (h : Mem) : Tl h (fun nx jp => stC cal rk r o nx jp L S h) := by
  obtain ⟨pc, i, len, x, y, z, v, sw⟩ := o
  cases i with
  | ifCond c _ =>
    cases c <;> (rcases S with _ | ⟨v1, S⟩; · exact tl_no) <;> cases v1 <;> first | exact tl_no | exact tl_if (tl_jp (le_rf _)) (tl_nx (le_rf _)) | exact tl_if (tl_nx (le_rf _)) (tl_jp (le_rf _))
  | if_icmp c _ =>
    cases c <;> (rcases S with _ | ⟨v1, S⟩; · exact tl_no) <;> cases v1 <;> first | exact tl_no | ((rcases S with _ | ⟨v2, S⟩; · exact tl_no) <;> cases v2 <;> first | exact tl_no | exact tl_if (tl_jp (le_rf _)) (tl_nx (le_rf _)) | exact tl_if (tl_nx (le_rf _)) (tl_jp (le_rf _)))
  | invokestatic _ => exact tl_ivk hm x y z L S h
  | invokevirtual _ => exact tl_ivk hm x y z L S h
  | invokespecial _ => exact tl_ivk hm x y z L S h
  | iload_n _ => (show Tl h (fun nx _ => match nth L x with | .int a => nx L (.int a :: S) h | _ => none)); cases nth L x <;> first | exact tl_no | exact tl_nx (le_rf _)
  | iload _ => (show Tl h (fun nx _ => match nth L x with | .int a => nx L (.int a :: S) h | _ => none)); cases nth L x <;> first | exact tl_no | exact tl_nx (le_rf _)
  | lload_n _ => (show Tl h (fun nx _ => match nth L x with | .long a => nx L (.long a :: S) h | _ => none)); cases nth L x <;> first | exact tl_no | exact tl_nx (le_rf _)
  | lload _ => (show Tl h (fun nx _ => match nth L x with | .long a => nx L (.long a :: S) h | _ => none)); cases nth L x <;> first | exact tl_no | exact tl_nx (le_rf _)
  | aload_n _ => (show Tl h (fun nx _ => match nth L x with | .ref a => nx L (.ref a :: S) h | _ => none)); cases nth L x <;> first | exact tl_no | exact tl_nx (le_rf _)
  | aload _ => (show Tl h (fun nx _ => match nth L x with | .ref a => nx L (.ref a :: S) h | _ => none)); cases nth L x <;> first | exact tl_no | exact tl_nx (le_rf _)
  | iinc _ _ => (show Tl h (fun nx _ => match nth L x, v with | .int a, .int c => nx (st1 L x (.int (a + c))) S h | _, _ => none)); cases nth L x <;> first | exact tl_no | (cases v <;> first | exact tl_no | exact tl_nx (le_rf _))
  | new _ => exact tl_nx (le_mk h _ _)
  | goto _ => exact tl_jp (le_rf _)
  | tableswitch _ _ _ _ => (rcases S with _ | ⟨v1, S⟩; · exact tl_no) <;> cases v1 <;> first | exact tl_no | exact tl_sw _
  | lookupswitch _ _ => (rcases S with _ | ⟨v1, S⟩; · exact tl_no) <;> cases v1 <;> first | exact tl_no | exact tl_sw _
  | getfield _ =>
    rcases z with _ | _ | _ | z <;> (rcases S with _ | ⟨v1, S⟩; · exact tl_no) <;> cases v1 <;> first | exact tl_no | exact tl_ifn (tl_nx (le_rf _))
  | putfield _ =>
    rcases z with _ | _ | _ | _ | z <;> (rcases S with _ | ⟨v1, S⟩; · exact tl_no) <;> cases v1 <;> first | exact tl_no | ((rcases S with _ | ⟨v2, S⟩; · exact tl_no) <;> cases v2 <;> first | exact tl_no | exact tl_ifn (tl_nx (le_rf _)))
  | ireturn =>
    (rcases S with _ | ⟨v1, S⟩; · exact tl_no) <;> cases v1 <;> first | exact tl_no | skip
    (rcases S with _ | ⟨v2, S⟩) <;> first | exact tl_no | skip
    rcases z with _ | _ | _ | z <;> first | exact tl_rt (le_rf _) | exact tl_ifn (tl_rt (le_rf _))
  | checkcast _ => (rcases S with _ | ⟨v1, S⟩; · exact tl_no) <;> cases v1 <;> first | exact tl_no | exact tl_grd (tl_nx (le_rf _))
  | newarray _ => (rcases S with _ | ⟨v1, S⟩; · exact tl_no) <;> cases v1 <;> first | exact tl_no | exact tl_ifn (tl_nx (le_mk h _ _))
  | anewarray _ => (rcases S with _ | ⟨v1, S⟩; · exact tl_no) <;> cases v1 <;> first | exact tl_no | exact tl_ifn (tl_nx (le_mk h _ _))
  | _ =>
    first
    | exact tl_no
    | exact tl_nx (le_rf _)
    | ((rcases S with _ | ⟨v1, S⟩) <;> first | exact tl_no | exact tl_rt (le_rf _))
    | ((rcases S with _ | ⟨v1, S⟩) <;> first | exact tl_no | (cases v1 <;> first | exact tl_no | exact tl_nx (le_rf _) | exact tl_ifn (tl_nx (le_rf _)) | exact tl_if (tl_jp (le_rf _)) (tl_nx (le_rf _)) | exact tl_if (tl_nx (le_rf _)) (tl_jp (le_rf _))))
    | ((rcases S with _ | ⟨v1, S⟩) <;> first | exact tl_no | (cases v1 <;> first | exact tl_no | ((rcases S with _ | ⟨v2, S⟩) <;> first | exact tl_no | exact tl_rt (le_rf _))))
    | ((rcases S with _ | ⟨v1, S⟩) <;> first | exact tl_no | (cases v1 <;> first | exact tl_no | exact tl_nx (le_rf _) | ((rcases S with _ | ⟨v2, S⟩) <;> first | exact tl_no | (cases v2 <;> first | exact tl_no | exact tl_nx (le_rf _) | exact tl_ifn (tl_nx (le_rf _)) | exact tl_if tl_no (tl_nx (le_rf _))))))
    | ((rcases S with _ | ⟨v1, S⟩) <;> first | exact tl_no | (cases v1 <;> first | exact tl_no | ((rcases S with _ | ⟨v2, S⟩) <;> first | exact tl_no | (cases v2 <;> first | exact tl_no | ((rcases S with _ | ⟨v3, S⟩) <;> first | exact tl_no | (cases v3 <;> first | exact tl_no | exact tl_ifn (tl_nx (le_rf _))))))))
end
section
/-! runs to their ends, and calls -/
def opAt : List Op → Nat → Option Op
  | [], _ => none
  | o :: l, pc => match Nat.beq o.1 pc with
    | true => some o
    | false => opAt l pc
def mskO : Option (List Bool) → List Value → List Value
  | none, L => L
  | some m, L => msk m L
theorem msk_msk : ∀ (m : List Bool) (L : List Value), msk m (msk m L) = msk m L
  | [], [] => rfl
  | [], _ :: _ => rfl
  | true :: _, [] => rfl
  | false :: _, [] => rfl
  | true :: m, v :: l => congrArg (v :: ·) (msk_msk m l)
  | false :: m, _ :: l => congrArg (dd :: ·) (msk_msk m l)
theorem ivk_cal {cal cal' : Nat → List Value → Mem → Rs} {rk : Nat → List Value → Nat} {r : Nat} (hc : ∀ M a h, rk M a < r → cal M a h = cal' M a h) (M y z : Nat) (S : List Value) (h : Mem) (nx : List Value → Mem → Rs) : ivk cal rk r M y z S h nx = ivk cal' rk r M y z S h nx := by
  unfold ivk
  split <;> first | rfl | skip
  cases hg : (Nat.ble (catS (S.drop y)) 8 && Nat.blt (rk M (S.take y).reverse) r) with
  | false => rfl
  | true =>
    have hr : rk M (S.take y).reverse < r := by
      simp only [Bool.and_eq_true] at hg
      exact Nat.blt_eq.mp hg.2
    rw [hc _ _ _ hr]
theorem stC_cal {cal cal' : Nat → List Value → Mem → Rs} {rk : Nat → List Value → Nat} {r : Nat} (hc : ∀ M a h, rk M a < r → cal M a h = cal' M a h) (o : Op) (nx : Nx) (jp : Nat → Nx) (L S : List Value) (h : Mem) : stC cal rk r o nx jp L S h = stC cal' rk r o nx jp L S h := by
  obtain ⟨pc, i, len, x, y, z, v, sw⟩ := o
  cases i with
  | invokestatic _ => exact ivk_cal hc x y z S h _
  | invokevirtual _ => exact ivk_cal hc x y z S h _
  | invokespecial _ => exact ivk_cal hc x y z S h _
  | ifCond c _ => cases c <;> rfl
  | if_icmp c _ => cases c <;> rfl
  | _ => rfl
theorem stC_out {cal : Nat → List Value → Mem → Rs} {rk : Nat → List Value → Nat} {r : Nat} (hm : Mono cal rk r) (o : Op) (L S : List Value) (h0 : Mem) :
  (∀ (nx : Nx) (jp : Nat → Nx), stC cal rk r o nx jp L S h0 = none) ∨ (∃ v h', le h0 h' ∧ ∀ (nx : Nx) (jp : Nat → Nx), stC cal rk r o nx jp L S h0 = some (v, h')) ∨ (∃ L' S' h', le h0 h' ∧ ∀ (nx : Nx) (jp : Nat → Nx), stC cal rk r o nx jp L S h0 = nx L' S' h') ∨ (∃ t L' S' h', le h0 h' ∧ ∀ (nx : Nx) (jp : Nat → Nx), stC cal rk r o nx jp L S h0 = jp t L' S' h') := stC_tl hm o L S h0
section
variable (P : Nat → List Op) (K : Nat → Nat → Option (List Bool)) (cal : Nat → List Value → Mem → Rs) (rk : Nat → List Value → Nat) (r M : Nat)
def runF : Nat → Nat → List Value → List Value → Mem → Rs
  | 0, _, _, _, _ => none
  | n + 1, pc, L, S, h => match opAt (P M) pc with
    | none => none
    | some o => stC cal rk r o (fun L S h => runF n (pc + o.2.2.1) L S h) (fun t L S h => runF n t L S h) (mskO (K M pc) L) S h
noncomputable def lim (f : Nat → Rs) : Rs := by
  classical exact if h : ∃ n, (f n).isSome = true then f (Classical.choose h) else none
theorem lim_some {f : Nat → Rs} (hm : ∀ n y, f n = some y → f (n + 1) = some y) {y : Value × Mem} : lim f = some y ↔ ∃ n, f n = some y := by
  have up : ∀ (k n : Nat) (y : Value × Mem), f n = some y → f (n + k) = some y := by
    intro k
    induction k with
    | zero => exact fun n y h => h
    | succ k ih => exact fun n y h => hm _ _ (ih n y h)
  unfold lim
  by_cases h : ∃ n, (f n).isSome = true
  · rw [dif_pos h]
    constructor
    · exact fun e => ⟨_, e⟩
    · rintro ⟨n, hn⟩
      obtain ⟨z, hz⟩ := Option.isSome_iff_exists.mp (Classical.choose_spec h)
      have h1 := up n _ _ hz
      have h2 := up (Classical.choose h) _ _ hn
      rw [Nat.add_comm] at h2
      rw [hz, ← h1, h2]
  · rw [dif_neg h]
    constructor
    · exact fun e => by cases e
    · rintro ⟨n, hn⟩
      exact absurd ⟨n, by rw [hn]; rfl⟩ h
variable {P K cal rk r M}
theorem runF_up (hm : Mono cal rk r) : ∀ (n pc : Nat) (L S : List Value) (h : Mem) (y : Value × Mem), runF P K cal rk r M n pc L S h = some y → runF P K cal rk r M (n + 1) pc L S h = some y := by
  intro n
  induction n with
  | zero => intro pc L S h y e; cases e
  | succ n ih =>
    intro pc L S h y e
    rw [runF] at e ⊢
    cases ho : opAt (P M) pc with
    | none => rw [ho] at e; cases e
    | some o =>
      rw [ho] at e
      dsimp only at e ⊢
      rcases stC_out hm o (mskO (K M pc) L) S h with q | ⟨v, h', -, q⟩ | ⟨L', S', h', -, q⟩ | ⟨t, L', S', h', -, q⟩
      · rw [q] at e; cases e
      · rw [q] at e ⊢; exact e
      · rw [q] at e ⊢; exact ih _ _ _ _ _ e
      · rw [q] at e ⊢; exact ih _ _ _ _ _ e
theorem runF_le (hm : Mono cal rk r) : ∀ (n pc : Nat) (L S : List Value) (h : Mem) (v : Value) (h' : Mem), runF P K cal rk r M n pc L S h = some (v, h') → le h h' := by
  intro n
  induction n with
  | zero => intro pc L S h v h' e; cases e
  | succ n ih =>
    intro pc L S h v h' e
    rw [runF] at e
    cases ho : opAt (P M) pc with
    | none => rw [ho] at e; cases e
    | some o =>
      rw [ho] at e
      dsimp only at e
      rcases stC_out hm o (mskO (K M pc) L) S h with q | ⟨v, h1, hl, q⟩ | ⟨L', S', h1, hl, q⟩ | ⟨t, L', S', h1, hl, q⟩
      · rw [q] at e; cases e
      · rw [q] at e; cases e; exact hl
      · rw [q] at e; exact le_tr hl (ih _ _ _ _ _ _ e)
      · rw [q] at e; exact le_tr hl (ih _ _ _ _ _ _ e)
variable (P K cal rk r M)
/-- the run from a place to the method's end -/
noncomputable def runA (pc : Nat) (L S : List Value) (h : Mem) : Rs := lim fun n => runF P K cal rk r M n pc L S h
variable {P K cal rk r M}
theorem runA_some (hm : Mono cal rk r) {pc : Nat} {L S : List Value} {h : Mem} {y : Value × Mem} : runA P K cal rk r M pc L S h = some y ↔ ∃ n, runF P K cal rk r M n pc L S h = some y := lim_some fun n y e => runF_up hm n pc L S h y e
theorem opt_ext {a b : Rs} (h : ∀ y, a = some y ↔ b = some y) : a = b := by
  cases a with
  | none =>
    cases b with
    | none => rfl
    | some y => exact ((h y).mpr rfl)
  | some x => exact ((h x).mp rfl).symm
theorem runA_eq (hm : Mono cal rk r) (pc : Nat) (L S : List Value) (h : Mem) : runA P K cal rk r M pc L S h = match opAt (P M) pc with
    | none => none
    | some o => stC cal rk r o (fun L S h => runA P K cal rk r M (pc + o.2.2.1) L S h) (fun t L S h => runA P K cal rk r M t L S h) (mskO (K M pc) L) S h := by
  apply opt_ext
  intro y
  rw [runA_some hm]
  cases ho : opAt (P M) pc with
  | none =>
    constructor
    · rintro ⟨n, e⟩
      cases n with
      | zero => cases e
      | succ n => rw [runF, ho] at e; cases e
    · intro e; cases e
  | some o =>
    dsimp only
    have st : ∀ n, runF P K cal rk r M (n + 1) pc L S h = stC cal rk r o (fun L S h => runF P K cal rk r M n (pc + o.2.2.1) L S h) (fun t L S h => runF P K cal rk r M n t L S h) (mskO (K M pc) L) S h := fun n => by rw [runF, ho]
    rcases stC_out hm o (mskO (K M pc) L) S h with q | ⟨v, h', -, q⟩ | ⟨L', S', h', -, q⟩ | ⟨t, L', S', h', -, q⟩
    · rw [q]
      constructor
      · rintro ⟨n, e⟩
        cases n with
        | zero => cases e
        | succ n => rw [st, q] at e; cases e
      · intro e; cases e
    · rw [q]
      constructor
      · rintro ⟨n, e⟩
        cases n with
        | zero => cases e
        | succ n => rw [st, q] at e; exact e
      · intro e; exact ⟨1, by rw [st, q]; exact e⟩
    · rw [q, runA_some hm]
      constructor
      · rintro ⟨n, e⟩
        cases n with
        | zero => cases e
        | succ n => rw [st, q] at e; exact ⟨n, e⟩
      · rintro ⟨n, e⟩
        exact ⟨n + 1, by rw [st, q]; exact e⟩
    · rw [q, runA_some hm]
      constructor
      · rintro ⟨n, e⟩
        cases n with
        | zero => cases e
        | succ n => rw [st, q] at e; exact ⟨n, e⟩
      · rintro ⟨n, e⟩
        exact ⟨n + 1, by rw [st, q]; exact e⟩
theorem runF_cal {cal' : Nat → List Value → Mem → Rs} (hc : ∀ M a h, rk M a < r → cal M a h = cal' M a h) : ∀ (n pc : Nat) (L S : List Value) (h : Mem), runF P K cal rk r M n pc L S h = runF P K cal' rk r M n pc L S h := by
  intro n
  induction n with
  | zero => intros; rfl
  | succ n ih =>
    intro pc L S h
    rw [runF, runF]
    cases opAt (P M) pc with
    | none => rfl
    | some o =>
      dsimp only
      rw [stC_cal hc]
      congr 1
      · funext L S h; exact ih _ _ _ _
      · funext t L S h; exact ih _ _ _ _
theorem runA_cal {cal' : Nat → List Value → Mem → Rs} (hc : ∀ M a h, rk M a < r → cal M a h = cal' M a h) (pc : Nat) (L S : List Value) (h : Mem) : runA P K cal rk r M pc L S h = runA P K cal' rk r M pc L S h := by
  unfold runA
  congr 1
  funext n
  exact runF_cal hc n pc L S h
end
def lay : List Value → List Value
  | [] => []
  | .long x :: l => .long x :: dd :: lay l
  | v :: l => v :: lay l
def pad : Nat → List Value → List Value
  | 0, _ => []
  | n + 1, [] => dd :: pad n []
  | n + 1, v :: l => v :: pad n l
section
variable (P : Nat → List Op) (K : Nat → Nat → Option (List Bool)) (mx : Nat → Nat) (rk : Nat → List Value → Nat)
noncomputable def calD : Nat → Nat → List Value → Mem → Rs
  | 0, _, _, _ => none
  | d + 1, M, a, h => runA P K (calD d) rk (rk M a) M 0 (pad (mx M) (lay a)) [] h
noncomputable def calA (M : Nat) (a : List Value) (h : Mem) : Rs := calD P K mx rk (rk M a + 1) M a h
theorem calD_A : ∀ (d M : Nat) (a : List Value) (h : Mem), rk M a < d → calD P K mx rk d M a h = calA P K mx rk M a h := by
  intro d
  induction d using Nat.strongRecOn with
  | _ d ih =>
    intro M a h hr
    cases d with
    | zero => exact absurd hr (Nat.not_lt_zero _)
    | succ e =>
      show runA P K (calD P K mx rk e) rk (rk M a) M 0 (pad (mx M) (lay a)) [] h = runA P K (calD P K mx rk (rk M a)) rk (rk M a) M 0 (pad (mx M) (lay a)) [] h
      refine runA_cal (fun M' a' h' q => ?_) _ _ _ _
      rw [ih e (Nat.lt_succ_self _) M' a' h' (Nat.lt_of_lt_of_le q (Nat.le_of_lt_succ hr))]
      rw [ih (rk M a) hr M' a' h' q]
theorem calA_run (M : Nat) (a : List Value) (h : Mem) : calA P K mx rk M a h = runA P K (calA P K mx rk) rk (rk M a) M 0 (pad (mx M) (lay a)) [] h := by
  show runA P K (calD P K mx rk (rk M a)) rk (rk M a) M 0 (pad (mx M) (lay a)) [] h = _
  exact runA_cal (rk := rk) (r := rk M a) (cal' := calA P K mx rk) (fun M' a' h' q => calD_A P K mx rk (rk M a) M' a' h' q) _ _ _ _
theorem calA_mono : ∀ (r : Nat), Mono (calA P K mx rk) rk r := by
  intro r
  induction r with
  | zero => exact fun M a h v h' q => absurd q (Nat.not_lt_zero _)
  | succ r ih =>
    intro M a h v h' q e
    rcases Nat.lt_or_ge (rk M a) r with g | g
    · exact ih M a h v h' g e
    · have hr : rk M a = r := Nat.le_antisymm (Nat.le_of_lt_succ q) g
      rw [calA_run, hr] at e
      obtain ⟨n, e⟩ := (runA_some ih).mp e
      exact runF_le ih _ _ _ _ _ _ _ e
/-- the run of a method of rank r from a place, all calls as they are -/
noncomputable def runX (r M pc : Nat) (L S : List Value) (h : Mem) : Rs := runA P K (calA P K mx rk) rk r M pc L S h
/-- what the equations of the methods are computed by: n steps at most, stopping at the places that have a mask -/
def exN (cal : Nat → List Value → Mem → Rs) (run : Nat → List Value → List Value → Mem → Rs) (r M : Nat) : Nat → Nat → List Value → List Value → Mem → Rs
  | 0, pc, L, S, h => run pc L S h
  | n + 1, pc, L, S, h => match K M pc with
    | some m => run pc (msk m L) S h
    | none => match opAt (P M) pc with
      | none => none
      | some o => stC cal rk r o (fun L S h => exN cal run r M n (pc + o.2.2.1) L S h) (fun t L S h => exN cal run r M n t L S h) L S h
def exS (cal : Nat → List Value → Mem → Rs) (run : Nat → List Value → List Value → Mem → Rs) (r M n pc : Nat) (L S : List Value) (h : Mem) : Rs := match opAt (P M) pc with
      | none => none
      | some o => stC cal rk r o (fun L S h => exN P K rk cal run r M n (pc + o.2.2.1) L S h) (fun t L S h => exN P K rk cal run r M n t L S h) (mskO (K M pc) L) S h
theorem runX_msk (r M pc : Nat) (L S : List Value) (h : Mem) {m : List Bool} (hk : K M pc = some m) : runX P K mx rk r M pc (msk m L) S h = runX P K mx rk r M pc L S h := by
  unfold runX
  rw [runA_eq (calA_mono P K mx rk r), runA_eq (calA_mono P K mx rk r) pc L, hk]
  simp only [mskO, msk_msk]
theorem exN_eq (r M : Nat) : ∀ (n pc : Nat) (L S : List Value) (h : Mem), exN P K rk (calA P K mx rk) (runX P K mx rk r M) r M n pc L S h = runX P K mx rk r M pc L S h := by
  intro n
  induction n with
  | zero => intros; rfl
  | succ n ih =>
    intro pc L S h
    rw [exN]
    cases hk : K M pc with
    | some m => exact runX_msk P K mx rk r M pc L S h hk
    | none =>
      dsimp only
      show _ = runA P K (calA P K mx rk) rk r M pc L S h
      rw [runA_eq (calA_mono P K mx rk r), hk]
      cases opAt (P M) pc with
      | none => rfl
      | some o =>
        dsimp only
        congr 1
        · funext L S h; exact ih _ _ _ _
        · funext t L S h; exact ih _ _ _ _
theorem exS_eq (r M n pc : Nat) (L S : List Value) (h : Mem) : runX P K mx rk r M pc L S h = exS P K rk (calA P K mx rk) (runX P K mx rk r M) r M n pc L S h := by
  unfold exS
  show runA P K (calA P K mx rk) rk r M pc L S h = _
  rw [runA_eq (calA_mono P K mx rk r)]
  cases opAt (P M) pc with
  | none => rfl
  | some o =>
    dsimp only
    congr 1
    · funext L S h; exact (exN_eq P K mx rk r M n _ _ _ _).symm
    · funext t L S h; exact (exN_eq P K mx rk r M n _ _ _ _).symm
theorem calA_X (M : Nat) (a : List Value) (h : Mem) : calA P K mx rk M a h = runX P K mx rk (rk M a) M 0 (pad (mx M) (lay a)) [] h := calA_run P K mx rk M a h
end
end
