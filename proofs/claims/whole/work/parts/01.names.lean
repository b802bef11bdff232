-- ===== PART A: goes FIRST, ahead of the names: the tables' words, and 'selects' of the private methods out of them =====
/-- a private method of a class that the tables say can be made, by its rows of tables_1 -/
def lw_okq (q : MethodName × Nat) : Prop := (q.1.cls ≠ "java/lang/invoke/MethodHandle" ∧ q.1.cls ≠ "java/lang/invoke/VarHandle") ∧ Cond.instantiable q.1.cls q.2 ∈ tables_1 ∧ Cond.privateMethod q.1 ∈ tables_1 ∧ Cond.instanceMethod q.1 ∈ tables_1
theorem lw_p0 : lw_okq (⟨"FullerSquare$Town", "lay", "(II)V"⟩, 19) := ⟨⟨by decide +kernel, by decide +kernel⟩, List.mem_of_getElem? (i := 26) (by decide +kernel), List.mem_of_getElem? (i := 407) (by decide +kernel), List.mem_of_getElem? (i := 408) (by decide +kernel)⟩
theorem lw_p1 : lw_okq (⟨"FullerSquare$Town", "shorten", "()V"⟩, 19) := ⟨⟨by decide +kernel, by decide +kernel⟩, List.mem_of_getElem? (i := 26) (by decide +kernel), List.mem_of_getElem? (i := 414) (by decide +kernel), List.mem_of_getElem? (i := 415) (by decide +kernel)⟩
theorem lw_p2 : lw_okq (⟨"FullerSquare", "sortsFrom", "(LFullerSquare$Shelf;II)I"⟩, 8) := ⟨⟨by decide +kernel, by decide +kernel⟩, List.mem_of_getElem? (i := 18) (by decide +kernel), List.mem_of_getElem? (i := 445) (by decide +kernel), List.mem_of_getElem? (i := 446) (by decide +kernel)⟩
theorem lw_p3 : lw_okq (⟨"FullerSquare$Laws", "readLines", "()Z"⟩, 8) := ⟨⟨by decide +kernel, by decide +kernel⟩, List.mem_of_getElem? (i := 120) (by decide +kernel), List.mem_of_getElem? (i := 474) (by decide +kernel), List.mem_of_getElem? (i := 475) (by decide +kernel)⟩
theorem lw_p4 : lw_okq (⟨"FullerSquare$Laws", "readLine", "()Z"⟩, 8) := ⟨⟨by decide +kernel, by decide +kernel⟩, List.mem_of_getElem? (i := 120) (by decide +kernel), List.mem_of_getElem? (i := 478) (by decide +kernel), List.mem_of_getElem? (i := 479) (by decide +kernel)⟩
theorem lw_p5 : lw_okq (⟨"FullerSquare$Laws", "readPart", "(II)Z"⟩, 8) := ⟨⟨by decide +kernel, by decide +kernel⟩, List.mem_of_getElem? (i := 120) (by decide +kernel), List.mem_of_getElem? (i := 482) (by decide +kernel), List.mem_of_getElem? (i := 483) (by decide +kernel)⟩
theorem lw_p6 : lw_okq (⟨"FullerSquare$Laws", "readOperand", "(I)Z"⟩, 8) := ⟨⟨by decide +kernel, by decide +kernel⟩, List.mem_of_getElem? (i := 120) (by decide +kernel), List.mem_of_getElem? (i := 486) (by decide +kernel), List.mem_of_getElem? (i := 487) (by decide +kernel)⟩
theorem lw_p7 : lw_okq (⟨"FullerSquare$Laws", "next", "()I"⟩, 8) := ⟨⟨by decide +kernel, by decide +kernel⟩, List.mem_of_getElem? (i := 120) (by decide +kernel), List.mem_of_getElem? (i := 490) (by decide +kernel), List.mem_of_getElem? (i := 491) (by decide +kernel)⟩
theorem lw_p8 : lw_okq (⟨"FullerSquare$Laws", "readNumber", "()V"⟩, 8) := ⟨⟨by decide +kernel, by decide +kernel⟩, List.mem_of_getElem? (i := 120) (by decide +kernel), List.mem_of_getElem? (i := 497) (by decide +kernel), List.mem_of_getElem? (i := 498) (by decide +kernel)⟩
theorem lw_p9 : lw_okq (⟨"FullerSquare$Laws", "write", "(I)V"⟩, 8) := ⟨⟨by decide +kernel, by decide +kernel⟩, List.mem_of_getElem? (i := 120) (by decide +kernel), List.mem_of_getElem? (i := 501) (by decide +kernel), List.mem_of_getElem? (i := 502) (by decide +kernel)⟩
theorem lw_p10 : lw_okq (⟨"FullerSquare$Laws", "readOpened", "(II)Z"⟩, 8) := ⟨⟨by decide +kernel, by decide +kernel⟩, List.mem_of_getElem? (i := 120) (by decide +kernel), List.mem_of_getElem? (i := 590) (by decide +kernel), List.mem_of_getElem? (i := 591) (by decide +kernel)⟩
theorem lw_p11 : lw_okq (⟨"FullerSquare$Changes", "forgetFirst", "()V"⟩, 6) := ⟨⟨by decide +kernel, by decide +kernel⟩, List.mem_of_getElem? (i := 275) (by decide +kernel), List.mem_of_getElem? (i := 619) (by decide +kernel), List.mem_of_getElem? (i := 620) (by decide +kernel)⟩
theorem lw_p12 : lw_okq (⟨"FullerSquare$Noon", "begin", "()V"⟩, 20) := ⟨⟨by decide +kernel, by decide +kernel⟩, List.mem_of_getElem? (i := 156) (by decide +kernel), List.mem_of_getElem? (i := 656) (by decide +kernel), List.mem_of_getElem? (i := 657) (by decide +kernel)⟩
theorem lw_p13 : lw_okq (⟨"FullerSquare$Noon", "see", "(I)V"⟩, 20) := ⟨⟨by decide +kernel, by decide +kernel⟩, List.mem_of_getElem? (i := 156) (by decide +kernel), List.mem_of_getElem? (i := 660) (by decide +kernel), List.mem_of_getElem? (i := 661) (by decide +kernel)⟩
theorem lw_p14 : lw_okq (⟨"FullerSquare$Noon", "seenIn", "(I)I"⟩, 20) := ⟨⟨by decide +kernel, by decide +kernel⟩, List.mem_of_getElem? (i := 156) (by decide +kernel), List.mem_of_getElem? (i := 665) (by decide +kernel), List.mem_of_getElem? (i := 666) (by decide +kernel)⟩
theorem lw_p15 : lw_okq (⟨"FullerSquare$Noon", "arrive", "(I)V"⟩, 20) := ⟨⟨by decide +kernel, by decide +kernel⟩, List.mem_of_getElem? (i := 156) (by decide +kernel), List.mem_of_getElem? (i := 669) (by decide +kernel), List.mem_of_getElem? (i := 670) (by decide +kernel)⟩
def lw_privs_1 : List (MethodName × Nat) := [(⟨"FullerSquare$Town", "lay", "(II)V"⟩, 19), (⟨"FullerSquare$Town", "shorten", "()V"⟩, 19), (⟨"FullerSquare", "sortsFrom", "(LFullerSquare$Shelf;II)I"⟩, 8), (⟨"FullerSquare$Laws", "readLines", "()Z"⟩, 8), (⟨"FullerSquare$Laws", "readLine", "()Z"⟩, 8), (⟨"FullerSquare$Laws", "readPart", "(II)Z"⟩, 8), (⟨"FullerSquare$Laws", "readOperand", "(I)Z"⟩, 8), (⟨"FullerSquare$Laws", "next", "()I"⟩, 8), (⟨"FullerSquare$Laws", "readNumber", "()V"⟩, 8), (⟨"FullerSquare$Laws", "write", "(I)V"⟩, 8), (⟨"FullerSquare$Laws", "readOpened", "(II)Z"⟩, 8), (⟨"FullerSquare$Changes", "forgetFirst", "()V"⟩, 6), (⟨"FullerSquare$Noon", "begin", "()V"⟩, 20), (⟨"FullerSquare$Noon", "see", "(I)V"⟩, 20), (⟨"FullerSquare$Noon", "seenIn", "(I)I"⟩, 20), (⟨"FullerSquare$Noon", "arrive", "(I)V"⟩, 20)]
theorem lw_r1 : ∀ q ∈ lw_privs_1, lw_okq q := List.forall_mem_cons.mpr ⟨lw_p0, List.forall_mem_cons.mpr ⟨lw_p1, List.forall_mem_cons.mpr ⟨lw_p2, List.forall_mem_cons.mpr ⟨lw_p3, List.forall_mem_cons.mpr ⟨lw_p4, List.forall_mem_cons.mpr ⟨lw_p5, List.forall_mem_cons.mpr ⟨lw_p6, List.forall_mem_cons.mpr ⟨lw_p7, List.forall_mem_cons.mpr ⟨lw_p8, List.forall_mem_cons.mpr ⟨lw_p9, List.forall_mem_cons.mpr ⟨lw_p10, List.forall_mem_cons.mpr ⟨lw_p11, List.forall_mem_cons.mpr ⟨lw_p12, List.forall_mem_cons.mpr ⟨lw_p13, List.forall_mem_cons.mpr ⟨lw_p14, List.forall_mem_cons.mpr ⟨lw_p15, fun _ h => absurd h List.not_mem_nil⟩⟩⟩⟩⟩⟩⟩⟩⟩⟩⟩⟩⟩⟩⟩⟩
theorem lw_p16 : lw_okq (⟨"FullerSquare$Noon", "go", "(I)V"⟩, 20) := ⟨⟨by decide +kernel, by decide +kernel⟩, List.mem_of_getElem? (i := 156) (by decide +kernel), List.mem_of_getElem? (i := 674) (by decide +kernel), List.mem_of_getElem? (i := 675) (by decide +kernel)⟩
theorem lw_p17 : lw_okq (⟨"FullerSquare$Noon", "setOut", "(III)V"⟩, 20) := ⟨⟨by decide +kernel, by decide +kernel⟩, List.mem_of_getElem? (i := 156) (by decide +kernel), List.mem_of_getElem? (i := 678) (by decide +kernel), List.mem_of_getElem? (i := 679) (by decide +kernel)⟩
theorem lw_p18 : lw_okq (⟨"FullerSquare$Noon", "aim", "(III)I"⟩, 20) := ⟨⟨by decide +kernel, by decide +kernel⟩, List.mem_of_getElem? (i := 156) (by decide +kernel), List.mem_of_getElem? (i := 682) (by decide +kernel), List.mem_of_getElem? (i := 683) (by decide +kernel)⟩
theorem lw_p19 : lw_okq (⟨"FullerSquare$Laws", "passesLine", "(I[I)Z"⟩, 8) := ⟨⟨by decide +kernel, by decide +kernel⟩, List.mem_of_getElem? (i := 120) (by decide +kernel), List.mem_of_getElem? (i := 694) (by decide +kernel), List.mem_of_getElem? (i := 695) (by decide +kernel)⟩
theorem lw_p20 : lw_okq (⟨"FullerSquare$Laws", "pop", "()I"⟩, 8) := ⟨⟨by decide +kernel, by decide +kernel⟩, List.mem_of_getElem? (i := 120) (by decide +kernel), List.mem_of_getElem? (i := 698) (by decide +kernel), List.mem_of_getElem? (i := 699) (by decide +kernel)⟩
theorem lw_p21 : lw_okq (⟨"FullerSquare$Laws", "push", "(I)V"⟩, 8) := ⟨⟨by decide +kernel, by decide +kernel⟩, List.mem_of_getElem? (i := 120) (by decide +kernel), List.mem_of_getElem? (i := 702) (by decide +kernel), List.mem_of_getElem? (i := 703) (by decide +kernel)⟩
theorem lw_p22 : lw_okq (⟨"FullerSquare$Noon", "end", "(I)V"⟩, 20) := ⟨⟨by decide +kernel, by decide +kernel⟩, List.mem_of_getElem? (i := 156) (by decide +kernel), List.mem_of_getElem? (i := 710) (by decide +kernel), List.mem_of_getElem? (i := 711) (by decide +kernel)⟩
theorem lw_p23 : lw_okq (⟨"FullerSquare$Noon", "tally", "()V"⟩, 20) := ⟨⟨by decide +kernel, by decide +kernel⟩, List.mem_of_getElem? (i := 156) (by decide +kernel), List.mem_of_getElem? (i := 715) (by decide +kernel), List.mem_of_getElem? (i := 716) (by decide +kernel)⟩
theorem lw_p24 : lw_okq (⟨"FullerSquare$Town", "wanting", "(I)I"⟩, 19) := ⟨⟨by decide +kernel, by decide +kernel⟩, List.mem_of_getElem? (i := 26) (by decide +kernel), List.mem_of_getElem? (i := 723) (by decide +kernel), List.mem_of_getElem? (i := 724) (by decide +kernel)⟩
theorem lw_p25 : lw_okq (⟨"FullerSquare", "isSortAndWay", "(I)Z"⟩, 8) := ⟨⟨by decide +kernel, by decide +kernel⟩, List.mem_of_getElem? (i := 18) (by decide +kernel), List.mem_of_getElem? (i := 757) (by decide +kernel), List.mem_of_getElem? (i := 758) (by decide +kernel)⟩
theorem lw_p26 : lw_okq (⟨"FullerSquare", "judged", "(LFullerSquare$Shelf;)I"⟩, 8) := ⟨⟨by decide +kernel, by decide +kernel⟩, List.mem_of_getElem? (i := 18) (by decide +kernel), List.mem_of_getElem? (i := 828) (by decide +kernel), List.mem_of_getElem? (i := 829) (by decide +kernel)⟩
theorem lw_p27 : lw_okq (⟨"FullerSquare$Acts", "goes", "(II)I"⟩, 6) := ⟨⟨by decide +kernel, by decide +kernel⟩, List.mem_of_getElem? (i := 301) (by decide +kernel), List.mem_of_getElem? (i := 878) (by decide +kernel), List.mem_of_getElem? (i := 879) (by decide +kernel)⟩
theorem lw_p28 : lw_okq (⟨"FullerSquare$Acts", "begin", "(I)V"⟩, 6) := ⟨⟨by decide +kernel, by decide +kernel⟩, List.mem_of_getElem? (i := 301) (by decide +kernel), List.mem_of_getElem? (i := 882) (by decide +kernel), List.mem_of_getElem? (i := 883) (by decide +kernel)⟩
theorem lw_p29 : lw_okq (⟨"FullerSquare$Acts", "sees", "(II)I"⟩, 6) := ⟨⟨by decide +kernel, by decide +kernel⟩, List.mem_of_getElem? (i := 301) (by decide +kernel), List.mem_of_getElem? (i := 886) (by decide +kernel), List.mem_of_getElem? (i := 887) (by decide +kernel)⟩
theorem lw_p30 : lw_okq (⟨"FullerSquare$Acts", "waits", "(II)I"⟩, 6) := ⟨⟨by decide +kernel, by decide +kernel⟩, List.mem_of_getElem? (i := 301) (by decide +kernel), List.mem_of_getElem? (i := 890) (by decide +kernel), List.mem_of_getElem? (i := 891) (by decide +kernel)⟩
theorem lw_p31 : lw_okq (⟨"FullerSquare$Acts", "tells", "(II)I"⟩, 6) := ⟨⟨by decide +kernel, by decide +kernel⟩, List.mem_of_getElem? (i := 301) (by decide +kernel), List.mem_of_getElem? (i := 894) (by decide +kernel), List.mem_of_getElem? (i := 895) (by decide +kernel)⟩
def lw_privs_2 : List (MethodName × Nat) := [(⟨"FullerSquare$Noon", "go", "(I)V"⟩, 20), (⟨"FullerSquare$Noon", "setOut", "(III)V"⟩, 20), (⟨"FullerSquare$Noon", "aim", "(III)I"⟩, 20), (⟨"FullerSquare$Laws", "passesLine", "(I[I)Z"⟩, 8), (⟨"FullerSquare$Laws", "pop", "()I"⟩, 8), (⟨"FullerSquare$Laws", "push", "(I)V"⟩, 8), (⟨"FullerSquare$Noon", "end", "(I)V"⟩, 20), (⟨"FullerSquare$Noon", "tally", "()V"⟩, 20), (⟨"FullerSquare$Town", "wanting", "(I)I"⟩, 19), (⟨"FullerSquare", "isSortAndWay", "(I)Z"⟩, 8), (⟨"FullerSquare", "judged", "(LFullerSquare$Shelf;)I"⟩, 8), (⟨"FullerSquare$Acts", "goes", "(II)I"⟩, 6), (⟨"FullerSquare$Acts", "begin", "(I)V"⟩, 6), (⟨"FullerSquare$Acts", "sees", "(II)I"⟩, 6), (⟨"FullerSquare$Acts", "waits", "(II)I"⟩, 6), (⟨"FullerSquare$Acts", "tells", "(II)I"⟩, 6)]
theorem lw_r2 : ∀ q ∈ lw_privs_2, lw_okq q := List.forall_mem_cons.mpr ⟨lw_p16, List.forall_mem_cons.mpr ⟨lw_p17, List.forall_mem_cons.mpr ⟨lw_p18, List.forall_mem_cons.mpr ⟨lw_p19, List.forall_mem_cons.mpr ⟨lw_p20, List.forall_mem_cons.mpr ⟨lw_p21, List.forall_mem_cons.mpr ⟨lw_p22, List.forall_mem_cons.mpr ⟨lw_p23, List.forall_mem_cons.mpr ⟨lw_p24, List.forall_mem_cons.mpr ⟨lw_p25, List.forall_mem_cons.mpr ⟨lw_p26, List.forall_mem_cons.mpr ⟨lw_p27, List.forall_mem_cons.mpr ⟨lw_p28, List.forall_mem_cons.mpr ⟨lw_p29, List.forall_mem_cons.mpr ⟨lw_p30, List.forall_mem_cons.mpr ⟨lw_p31, fun _ h => absurd h List.not_mem_nil⟩⟩⟩⟩⟩⟩⟩⟩⟩⟩⟩⟩⟩⟩⟩⟩
theorem lw_p32 : lw_okq (⟨"FullerSquare", "placeRefusal", "(II)I"⟩, 8) := ⟨⟨by decide +kernel, by decide +kernel⟩, List.mem_of_getElem? (i := 18) (by decide +kernel), List.mem_of_getElem? (i := 924) (by decide +kernel), List.mem_of_getElem? (i := 925) (by decide +kernel)⟩
theorem lw_p33 : lw_okq (⟨"FullerSquare$Shelf", "lowestBits", "(J)J"⟩, 4) := ⟨⟨by decide +kernel, by decide +kernel⟩, List.mem_of_getElem? (i := 331) (by decide +kernel), List.mem_of_getElem? (i := 933) (by decide +kernel), List.mem_of_getElem? (i := 934) (by decide +kernel)⟩
theorem lw_p34 : lw_okq (⟨"FullerSquareModel", "isSquare", "(I)Z"⟩, 74) := ⟨⟨by decide +kernel, by decide +kernel⟩, List.mem_of_getElem? (i := 963) (by decide +kernel), List.mem_of_getElem? (i := 1203) (by decide +kernel), List.mem_of_getElem? (i := 1204) (by decide +kernel)⟩
theorem lw_p35 : lw_okq (⟨"FullerSquareModel", "isSortSo", "(III)Z"⟩, 74) := ⟨⟨by decide +kernel, by decide +kernel⟩, List.mem_of_getElem? (i := 963) (by decide +kernel), List.mem_of_getElem? (i := 1211) (by decide +kernel), List.mem_of_getElem? (i := 1212) (by decide +kernel)⟩
theorem lw_p36 : lw_okq (⟨"FullerSquareModel", "addSort", "(III)I"⟩, 74) := ⟨⟨by decide +kernel, by decide +kernel⟩, List.mem_of_getElem? (i := 963) (by decide +kernel), List.mem_of_getElem? (i := 1215) (by decide +kernel), List.mem_of_getElem? (i := 1216) (by decide +kernel)⟩
theorem lw_p37 : lw_okq (⟨"FullerSquareModel", "readText", "(I)I"⟩, 74) := ⟨⟨by decide +kernel, by decide +kernel⟩, List.mem_of_getElem? (i := 963) (by decide +kernel), List.mem_of_getElem? (i := 1235) (by decide +kernel), List.mem_of_getElem? (i := 1236) (by decide +kernel)⟩
theorem lw_p38 : lw_okq (⟨"FullerSquareModel", "line", "()V"⟩, 74) := ⟨⟨by decide +kernel, by decide +kernel⟩, List.mem_of_getElem? (i := 963) (by decide +kernel), List.mem_of_getElem? (i := 1239) (by decide +kernel), List.mem_of_getElem? (i := 1240) (by decide +kernel)⟩
theorem lw_p39 : lw_okq (⟨"FullerSquareModel", "either", "()V"⟩, 74) := ⟨⟨by decide +kernel, by decide +kernel⟩, List.mem_of_getElem? (i := 963) (by decide +kernel), List.mem_of_getElem? (i := 1243) (by decide +kernel), List.mem_of_getElem? (i := 1244) (by decide +kernel)⟩
theorem lw_p40 : lw_okq (⟨"FullerSquareModel", "both", "()V"⟩, 74) := ⟨⟨by decide +kernel, by decide +kernel⟩, List.mem_of_getElem? (i := 963) (by decide +kernel), List.mem_of_getElem? (i := 1247) (by decide +kernel), List.mem_of_getElem? (i := 1248) (by decide +kernel)⟩
theorem lw_p41 : lw_okq (⟨"FullerSquareModel", "compared", "()V"⟩, 74) := ⟨⟨by decide +kernel, by decide +kernel⟩, List.mem_of_getElem? (i := 963) (by decide +kernel), List.mem_of_getElem? (i := 1251) (by decide +kernel), List.mem_of_getElem? (i := 1252) (by decide +kernel)⟩
theorem lw_p42 : lw_okq (⟨"FullerSquareModel", "sum", "()V"⟩, 74) := ⟨⟨by decide +kernel, by decide +kernel⟩, List.mem_of_getElem? (i := 963) (by decide +kernel), List.mem_of_getElem? (i := 1255) (by decide +kernel), List.mem_of_getElem? (i := 1256) (by decide +kernel)⟩
theorem lw_p43 : lw_okq (⟨"FullerSquareModel", "product", "()V"⟩, 74) := ⟨⟨by decide +kernel, by decide +kernel⟩, List.mem_of_getElem? (i := 963) (by decide +kernel), List.mem_of_getElem? (i := 1259) (by decide +kernel), List.mem_of_getElem? (i := 1260) (by decide +kernel)⟩
theorem lw_p44 : lw_okq (⟨"FullerSquareModel", "operand", "()V"⟩, 74) := ⟨⟨by decide +kernel, by decide +kernel⟩, List.mem_of_getElem? (i := 963) (by decide +kernel), List.mem_of_getElem? (i := 1263) (by decide +kernel), List.mem_of_getElem? (i := 1264) (by decide +kernel)⟩
theorem lw_p45 : lw_okq (⟨"FullerSquareModel", "look", "()I"⟩, 74) := ⟨⟨by decide +kernel, by decide +kernel⟩, List.mem_of_getElem? (i := 963) (by decide +kernel), List.mem_of_getElem? (i := 1267) (by decide +kernel), List.mem_of_getElem? (i := 1268) (by decide +kernel)⟩
theorem lw_p46 : lw_okq (⟨"FullerSquareModel", "addStep", "(II)V"⟩, 74) := ⟨⟨by decide +kernel, by decide +kernel⟩, List.mem_of_getElem? (i := 963) (by decide +kernel), List.mem_of_getElem? (i := 1274) (by decide +kernel), List.mem_of_getElem? (i := 1275) (by decide +kernel)⟩
theorem lw_p47 : lw_okq (⟨"FullerSquareModel", "opens", "()Z"⟩, 74) := ⟨⟨by decide +kernel, by decide +kernel⟩, List.mem_of_getElem? (i := 963) (by decide +kernel), List.mem_of_getElem? (i := 1278) (by decide +kernel), List.mem_of_getElem? (i := 1279) (by decide +kernel)⟩
def lw_privs_3 : List (MethodName × Nat) := [(⟨"FullerSquare", "placeRefusal", "(II)I"⟩, 8), (⟨"FullerSquare$Shelf", "lowestBits", "(J)J"⟩, 4), (⟨"FullerSquareModel", "isSquare", "(I)Z"⟩, 74), (⟨"FullerSquareModel", "isSortSo", "(III)Z"⟩, 74), (⟨"FullerSquareModel", "addSort", "(III)I"⟩, 74), (⟨"FullerSquareModel", "readText", "(I)I"⟩, 74), (⟨"FullerSquareModel", "line", "()V"⟩, 74), (⟨"FullerSquareModel", "either", "()V"⟩, 74), (⟨"FullerSquareModel", "both", "()V"⟩, 74), (⟨"FullerSquareModel", "compared", "()V"⟩, 74), (⟨"FullerSquareModel", "sum", "()V"⟩, 74), (⟨"FullerSquareModel", "product", "()V"⟩, 74), (⟨"FullerSquareModel", "operand", "()V"⟩, 74), (⟨"FullerSquareModel", "look", "()I"⟩, 74), (⟨"FullerSquareModel", "addStep", "(II)V"⟩, 74), (⟨"FullerSquareModel", "opens", "()Z"⟩, 74)]
theorem lw_r3 : ∀ q ∈ lw_privs_3, lw_okq q := List.forall_mem_cons.mpr ⟨lw_p32, List.forall_mem_cons.mpr ⟨lw_p33, List.forall_mem_cons.mpr ⟨lw_p34, List.forall_mem_cons.mpr ⟨lw_p35, List.forall_mem_cons.mpr ⟨lw_p36, List.forall_mem_cons.mpr ⟨lw_p37, List.forall_mem_cons.mpr ⟨lw_p38, List.forall_mem_cons.mpr ⟨lw_p39, List.forall_mem_cons.mpr ⟨lw_p40, List.forall_mem_cons.mpr ⟨lw_p41, List.forall_mem_cons.mpr ⟨lw_p42, List.forall_mem_cons.mpr ⟨lw_p43, List.forall_mem_cons.mpr ⟨lw_p44, List.forall_mem_cons.mpr ⟨lw_p45, List.forall_mem_cons.mpr ⟨lw_p46, List.forall_mem_cons.mpr ⟨lw_p47, fun _ h => absurd h List.not_mem_nil⟩⟩⟩⟩⟩⟩⟩⟩⟩⟩⟩⟩⟩⟩⟩⟩
theorem lw_p48 : lw_okq (⟨"FullerSquareModel", "wrong", "()V"⟩, 74) := ⟨⟨by decide +kernel, by decide +kernel⟩, List.mem_of_getElem? (i := 963) (by decide +kernel), List.mem_of_getElem? (i := 1282) (by decide +kernel), List.mem_of_getElem? (i := 1283) (by decide +kernel)⟩
theorem lw_p49 : lw_okq (⟨"FullerSquareModel", "figure", "()V"⟩, 74) := ⟨⟨by decide +kernel, by decide +kernel⟩, List.mem_of_getElem? (i := 963) (by decide +kernel), List.mem_of_getElem? (i := 1286) (by decide +kernel), List.mem_of_getElem? (i := 1287) (by decide +kernel)⟩
theorem lw_p50 : lw_okq (⟨"FullerSquareModel", "lays", "(III)V"⟩, 74) := ⟨⟨by decide +kernel, by decide +kernel⟩, List.mem_of_getElem? (i := 963) (by decide +kernel), List.mem_of_getElem? (i := 1298) (by decide +kernel), List.mem_of_getElem? (i := 1299) (by decide +kernel)⟩
theorem lw_p51 : lw_okq (⟨"FullerSquareModel", "isSort", "(I)Z"⟩, 74) := ⟨⟨by decide +kernel, by decide +kernel⟩, List.mem_of_getElem? (i := 963) (by decide +kernel), List.mem_of_getElem? (i := 1310) (by decide +kernel), List.mem_of_getElem? (i := 1311) (by decide +kernel)⟩
theorem lw_p52 : lw_okq (⟨"FullerSquareModel", "changes", "(III)I"⟩, 74) := ⟨⟨by decide +kernel, by decide +kernel⟩, List.mem_of_getElem? (i := 963) (by decide +kernel), List.mem_of_getElem? (i := 1314) (by decide +kernel), List.mem_of_getElem? (i := 1315) (by decide +kernel)⟩
theorem lw_p53 : lw_okq (⟨"FullerSquareModel", "valueAt", "(II)I"⟩, 74) := ⟨⟨by decide +kernel, by decide +kernel⟩, List.mem_of_getElem? (i := 963) (by decide +kernel), List.mem_of_getElem? (i := 1318) (by decide +kernel), List.mem_of_getElem? (i := 1319) (by decide +kernel)⟩
theorem lw_p54 : lw_okq (⟨"FullerSquareModel", "goTo", "(I)I"⟩, 74) := ⟨⟨by decide +kernel, by decide +kernel⟩, List.mem_of_getElem? (i := 963) (by decide +kernel), List.mem_of_getElem? (i := 1330) (by decide +kernel), List.mem_of_getElem? (i := 1331) (by decide +kernel)⟩
theorem lw_p55 : lw_okq (⟨"FullerSquareModel", "inSquare", "(I)I"⟩, 74) := ⟨⟨by decide +kernel, by decide +kernel⟩, List.mem_of_getElem? (i := 963) (by decide +kernel), List.mem_of_getElem? (i := 1334) (by decide +kernel), List.mem_of_getElem? (i := 1335) (by decide +kernel)⟩
theorem lw_p56 : lw_okq (⟨"FullerSquareModel", "arrive", "(I)V"⟩, 74) := ⟨⟨by decide +kernel, by decide +kernel⟩, List.mem_of_getElem? (i := 963) (by decide +kernel), List.mem_of_getElem? (i := 1338) (by decide +kernel), List.mem_of_getElem? (i := 1339) (by decide +kernel)⟩
theorem lw_p57 : lw_okq (⟨"FullerSquareModel", "go", "(II)V"⟩, 74) := ⟨⟨by decide +kernel, by decide +kernel⟩, List.mem_of_getElem? (i := 963) (by decide +kernel), List.mem_of_getElem? (i := 1342) (by decide +kernel), List.mem_of_getElem? (i := 1343) (by decide +kernel)⟩
theorem lw_p58 : lw_okq (⟨"FullerSquareModel", "goal", "(IIII)I"⟩, 74) := ⟨⟨by decide +kernel, by decide +kernel⟩, List.mem_of_getElem? (i := 963) (by decide +kernel), List.mem_of_getElem? (i := 1346) (by decide +kernel), List.mem_of_getElem? (i := 1347) (by decide +kernel)⟩
theorem lw_p59 : lw_okq (⟨"FullerSquareModel", "isLaw", "(I)Z"⟩, 74) := ⟨⟨by decide +kernel, by decide +kernel⟩, List.mem_of_getElem? (i := 963) (by decide +kernel), List.mem_of_getElem? (i := 1350) (by decide +kernel), List.mem_of_getElem? (i := 1351) (by decide +kernel)⟩
theorem lw_p60 : lw_okq (⟨"FullerSquareModel", "gives", "(I)I"⟩, 74) := ⟨⟨by decide +kernel, by decide +kernel⟩, List.mem_of_getElem? (i := 963) (by decide +kernel), List.mem_of_getElem? (i := 1354) (by decide +kernel), List.mem_of_getElem? (i := 1355) (by decide +kernel)⟩
theorem lw_p61 : lw_okq (⟨"FullerSquareModel", "worked", "(III)I"⟩, 74) := ⟨⟨by decide +kernel, by decide +kernel⟩, List.mem_of_getElem? (i := 963) (by decide +kernel), List.mem_of_getElem? (i := 1358) (by decide +kernel), List.mem_of_getElem? (i := 1359) (by decide +kernel)⟩
theorem lw_p62 : lw_okq (⟨"FullerSquareModel", "counts", "(I)V"⟩, 74) := ⟨⟨by decide +kernel, by decide +kernel⟩, List.mem_of_getElem? (i := 963) (by decide +kernel), List.mem_of_getElem? (i := 1368) (by decide +kernel), List.mem_of_getElem? (i := 1369) (by decide +kernel)⟩
theorem lw_p63 : lw_okq (⟨"FullerSquareModel", "countSquare", "(II)V"⟩, 74) := ⟨⟨by decide +kernel, by decide +kernel⟩, List.mem_of_getElem? (i := 963) (by decide +kernel), List.mem_of_getElem? (i := 1372) (by decide +kernel), List.mem_of_getElem? (i := 1373) (by decide +kernel)⟩
def lw_privs_4 : List (MethodName × Nat) := [(⟨"FullerSquareModel", "wrong", "()V"⟩, 74), (⟨"FullerSquareModel", "figure", "()V"⟩, 74), (⟨"FullerSquareModel", "lays", "(III)V"⟩, 74), (⟨"FullerSquareModel", "isSort", "(I)Z"⟩, 74), (⟨"FullerSquareModel", "changes", "(III)I"⟩, 74), (⟨"FullerSquareModel", "valueAt", "(II)I"⟩, 74), (⟨"FullerSquareModel", "goTo", "(I)I"⟩, 74), (⟨"FullerSquareModel", "inSquare", "(I)I"⟩, 74), (⟨"FullerSquareModel", "arrive", "(I)V"⟩, 74), (⟨"FullerSquareModel", "go", "(II)V"⟩, 74), (⟨"FullerSquareModel", "goal", "(IIII)I"⟩, 74), (⟨"FullerSquareModel", "isLaw", "(I)Z"⟩, 74), (⟨"FullerSquareModel", "gives", "(I)I"⟩, 74), (⟨"FullerSquareModel", "worked", "(III)I"⟩, 74), (⟨"FullerSquareModel", "counts", "(I)V"⟩, 74), (⟨"FullerSquareModel", "countSquare", "(II)V"⟩, 74)]
theorem lw_r4 : ∀ q ∈ lw_privs_4, lw_okq q := List.forall_mem_cons.mpr ⟨lw_p48, List.forall_mem_cons.mpr ⟨lw_p49, List.forall_mem_cons.mpr ⟨lw_p50, List.forall_mem_cons.mpr ⟨lw_p51, List.forall_mem_cons.mpr ⟨lw_p52, List.forall_mem_cons.mpr ⟨lw_p53, List.forall_mem_cons.mpr ⟨lw_p54, List.forall_mem_cons.mpr ⟨lw_p55, List.forall_mem_cons.mpr ⟨lw_p56, List.forall_mem_cons.mpr ⟨lw_p57, List.forall_mem_cons.mpr ⟨lw_p58, List.forall_mem_cons.mpr ⟨lw_p59, List.forall_mem_cons.mpr ⟨lw_p60, List.forall_mem_cons.mpr ⟨lw_p61, List.forall_mem_cons.mpr ⟨lw_p62, List.forall_mem_cons.mpr ⟨lw_p63, fun _ h => absurd h List.not_mem_nil⟩⟩⟩⟩⟩⟩⟩⟩⟩⟩⟩⟩⟩⟩⟩⟩
theorem lw_p64 : lw_okq (⟨"FullerSquareModel", "isTrip", "(I)Z"⟩, 74) := ⟨⟨by decide +kernel, by decide +kernel⟩, List.mem_of_getElem? (i := 963) (by decide +kernel), List.mem_of_getElem? (i := 1389) (by decide +kernel), List.mem_of_getElem? (i := 1390) (by decide +kernel)⟩
theorem lw_p65 : lw_okq (⟨"FullerSquareModel", "lastOf", "(III)I"⟩, 74) := ⟨⟨by decide +kernel, by decide +kernel⟩, List.mem_of_getElem? (i := 963) (by decide +kernel), List.mem_of_getElem? (i := 1393) (by decide +kernel), List.mem_of_getElem? (i := 1394) (by decide +kernel)⟩
theorem lw_p66 : lw_okq (⟨"FullerSquareModel", "fewest", "(II)I"⟩, 74) := ⟨⟨by decide +kernel, by decide +kernel⟩, List.mem_of_getElem? (i := 963) (by decide +kernel), List.mem_of_getElem? (i := 1397) (by decide +kernel), List.mem_of_getElem? (i := 1398) (by decide +kernel)⟩
theorem lw_p67 : lw_okq (⟨"FullerSquareModel", "nearer", "(III)V"⟩, 74) := ⟨⟨by decide +kernel, by decide +kernel⟩, List.mem_of_getElem? (i := 963) (by decide +kernel), List.mem_of_getElem? (i := 1401) (by decide +kernel), List.mem_of_getElem? (i := 1402) (by decide +kernel)⟩
theorem lw_p68 : lw_okq (⟨"FullerSquareModel", "wanting", "(I)I"⟩, 74) := ⟨⟨by decide +kernel, by decide +kernel⟩, List.mem_of_getElem? (i := 963) (by decide +kernel), List.mem_of_getElem? (i := 1413) (by decide +kernel), List.mem_of_getElem? (i := 1414) (by decide +kernel)⟩
theorem lw_p69 : lw_okq (⟨"FullerSquareModel", "isBody", "(I)Z"⟩, 74) := ⟨⟨by decide +kernel, by decide +kernel⟩, List.mem_of_getElem? (i := 963) (by decide +kernel), List.mem_of_getElem? (i := 1458) (by decide +kernel), List.mem_of_getElem? (i := 1459) (by decide +kernel)⟩
theorem lw_p70 : lw_okq (⟨"FullerSquareModel", "goes", "(II)I"⟩, 74) := ⟨⟨by decide +kernel, by decide +kernel⟩, List.mem_of_getElem? (i := 963) (by decide +kernel), List.mem_of_getElem? (i := 1462) (by decide +kernel), List.mem_of_getElem? (i := 1463) (by decide +kernel)⟩
theorem lw_p71 : lw_okq (⟨"FullerSquareModel", "ran", "(I)V"⟩, 74) := ⟨⟨by decide +kernel, by decide +kernel⟩, List.mem_of_getElem? (i := 963) (by decide +kernel), List.mem_of_getElem? (i := 1469) (by decide +kernel), List.mem_of_getElem? (i := 1470) (by decide +kernel)⟩
theorem lw_p72 : lw_okq (⟨"FullerSquareModel", "plainGoes", "(II)I"⟩, 74) := ⟨⟨by decide +kernel, by decide +kernel⟩, List.mem_of_getElem? (i := 963) (by decide +kernel), List.mem_of_getElem? (i := 1473) (by decide +kernel), List.mem_of_getElem? (i := 1474) (by decide +kernel)⟩
theorem lw_p73 : lw_okq (⟨"FullerSquareModel", "bestGoes", "(II)I"⟩, 74) := ⟨⟨by decide +kernel, by decide +kernel⟩, List.mem_of_getElem? (i := 963) (by decide +kernel), List.mem_of_getElem? (i := 1477) (by decide +kernel), List.mem_of_getElem? (i := 1478) (by decide +kernel)⟩
theorem lw_p74 : lw_okq (⟨"FullerSquareModel", "sees", "(II)I"⟩, 74) := ⟨⟨by decide +kernel, by decide +kernel⟩, List.mem_of_getElem? (i := 963) (by decide +kernel), List.mem_of_getElem? (i := 1481) (by decide +kernel), List.mem_of_getElem? (i := 1482) (by decide +kernel)⟩
theorem lw_p75 : lw_okq (⟨"FullerSquareModel", "followSees", "(II)I"⟩, 74) := ⟨⟨by decide +kernel, by decide +kernel⟩, List.mem_of_getElem? (i := 963) (by decide +kernel), List.mem_of_getElem? (i := 1485) (by decide +kernel), List.mem_of_getElem? (i := 1486) (by decide +kernel)⟩
theorem lw_p76 : lw_okq (⟨"FullerSquareModel", "plainSees", "(II)I"⟩, 74) := ⟨⟨by decide +kernel, by decide +kernel⟩, List.mem_of_getElem? (i := 963) (by decide +kernel), List.mem_of_getElem? (i := 1489) (by decide +kernel), List.mem_of_getElem? (i := 1490) (by decide +kernel)⟩
theorem lw_p77 : lw_okq (⟨"FullerSquareModel", "waits", "(II)I"⟩, 74) := ⟨⟨by decide +kernel, by decide +kernel⟩, List.mem_of_getElem? (i := 963) (by decide +kernel), List.mem_of_getElem? (i := 1493) (by decide +kernel), List.mem_of_getElem? (i := 1494) (by decide +kernel)⟩
theorem lw_p78 : lw_okq (⟨"FullerSquareModel", "plainWaits", "(II)I"⟩, 74) := ⟨⟨by decide +kernel, by decide +kernel⟩, List.mem_of_getElem? (i := 963) (by decide +kernel), List.mem_of_getElem? (i := 1497) (by decide +kernel), List.mem_of_getElem? (i := 1498) (by decide +kernel)⟩
theorem lw_p79 : lw_okq (⟨"FullerSquareModel", "telling", "(II)I"⟩, 74) := ⟨⟨by decide +kernel, by decide +kernel⟩, List.mem_of_getElem? (i := 963) (by decide +kernel), List.mem_of_getElem? (i := 1501) (by decide +kernel), List.mem_of_getElem? (i := 1502) (by decide +kernel)⟩
def lw_privs_5 : List (MethodName × Nat) := [(⟨"FullerSquareModel", "isTrip", "(I)Z"⟩, 74), (⟨"FullerSquareModel", "lastOf", "(III)I"⟩, 74), (⟨"FullerSquareModel", "fewest", "(II)I"⟩, 74), (⟨"FullerSquareModel", "nearer", "(III)V"⟩, 74), (⟨"FullerSquareModel", "wanting", "(I)I"⟩, 74), (⟨"FullerSquareModel", "isBody", "(I)Z"⟩, 74), (⟨"FullerSquareModel", "goes", "(II)I"⟩, 74), (⟨"FullerSquareModel", "ran", "(I)V"⟩, 74), (⟨"FullerSquareModel", "plainGoes", "(II)I"⟩, 74), (⟨"FullerSquareModel", "bestGoes", "(II)I"⟩, 74), (⟨"FullerSquareModel", "sees", "(II)I"⟩, 74), (⟨"FullerSquareModel", "followSees", "(II)I"⟩, 74), (⟨"FullerSquareModel", "plainSees", "(II)I"⟩, 74), (⟨"FullerSquareModel", "waits", "(II)I"⟩, 74), (⟨"FullerSquareModel", "plainWaits", "(II)I"⟩, 74), (⟨"FullerSquareModel", "telling", "(II)I"⟩, 74)]
theorem lw_r5 : ∀ q ∈ lw_privs_5, lw_okq q := List.forall_mem_cons.mpr ⟨lw_p64, List.forall_mem_cons.mpr ⟨lw_p65, List.forall_mem_cons.mpr ⟨lw_p66, List.forall_mem_cons.mpr ⟨lw_p67, List.forall_mem_cons.mpr ⟨lw_p68, List.forall_mem_cons.mpr ⟨lw_p69, List.forall_mem_cons.mpr ⟨lw_p70, List.forall_mem_cons.mpr ⟨lw_p71, List.forall_mem_cons.mpr ⟨lw_p72, List.forall_mem_cons.mpr ⟨lw_p73, List.forall_mem_cons.mpr ⟨lw_p74, List.forall_mem_cons.mpr ⟨lw_p75, List.forall_mem_cons.mpr ⟨lw_p76, List.forall_mem_cons.mpr ⟨lw_p77, List.forall_mem_cons.mpr ⟨lw_p78, List.forall_mem_cons.mpr ⟨lw_p79, fun _ h => absurd h List.not_mem_nil⟩⟩⟩⟩⟩⟩⟩⟩⟩⟩⟩⟩⟩⟩⟩⟩
theorem lw_p80 : lw_okq (⟨"FullerSquareModel", "leadTells", "(II)I"⟩, 74) := ⟨⟨by decide +kernel, by decide +kernel⟩, List.mem_of_getElem? (i := 963) (by decide +kernel), List.mem_of_getElem? (i := 1505) (by decide +kernel), List.mem_of_getElem? (i := 1506) (by decide +kernel)⟩
theorem lw_p81 : lw_okq (⟨"FullerSquareModel", "plainTells", "(II)I"⟩, 74) := ⟨⟨by decide +kernel, by decide +kernel⟩, List.mem_of_getElem? (i := 963) (by decide +kernel), List.mem_of_getElem? (i := 1509) (by decide +kernel), List.mem_of_getElem? (i := 1510) (by decide +kernel)⟩
theorem lw_p82 : lw_okq (⟨"FullerSquareModel", "whyNoPlace", "(II)I"⟩, 74) := ⟨⟨by decide +kernel, by decide +kernel⟩, List.mem_of_getElem? (i := 963) (by decide +kernel), List.mem_of_getElem? (i := 1529) (by decide +kernel), List.mem_of_getElem? (i := 1530) (by decide +kernel)⟩
def lw_privs_6 : List (MethodName × Nat) := [(⟨"FullerSquareModel", "leadTells", "(II)I"⟩, 74), (⟨"FullerSquareModel", "plainTells", "(II)I"⟩, 74), (⟨"FullerSquareModel", "whyNoPlace", "(II)I"⟩, 74)]
theorem lw_r6 : ∀ q ∈ lw_privs_6, lw_okq q := List.forall_mem_cons.mpr ⟨lw_p80, List.forall_mem_cons.mpr ⟨lw_p81, List.forall_mem_cons.mpr ⟨lw_p82, fun _ h => absurd h List.not_mem_nil⟩⟩⟩
def lw_privs : List (MethodName × Nat) := lw_privs_1 ++ (lw_privs_2 ++ (lw_privs_3 ++ (lw_privs_4 ++ (lw_privs_5 ++ (lw_privs_6)))))
def lw_tbl : List Cond := k2_sels lw_privs ++ tables_1
theorem lw_privs_ok : ∀ q ∈ lw_privs, lw_okq q := by
  show ∀ q ∈ lw_privs_1 ++ (lw_privs_2 ++ (lw_privs_3 ++ (lw_privs_4 ++ (lw_privs_5 ++ (lw_privs_6))))), lw_okq q
  exact List.forall_mem_append.mpr ⟨lw_r1, List.forall_mem_append.mpr ⟨lw_r2, List.forall_mem_append.mpr ⟨lw_r3, List.forall_mem_append.mpr ⟨lw_r4, List.forall_mem_append.mpr ⟨lw_r5, lw_r6⟩⟩⟩⟩⟩
-- ===== end of PART A; then your names; then what follows =====
def RX0 : String := "FullerSquare$Acts"
def TX0 : u_T := fun k => match k with
  | 0 => ("FullerSquare$Acts", "kinds", "[I", true)
  | 1 => ("FullerSquare$Acts", "bodies", "[I", true)
  | 2 => ("FullerSquare$Acts", "many", "I", false)
  | 3 => ("FullerSquare$Acts", "begun", "I", false)
  | 4 => ("FullerSquare$Acts", "kind", "I", false)
  | _ => ("FullerSquare$Acts", "number", "I", false)
def tyX0 : Nat → FieldType := fun k => match k with
  | 0 => .array .int
  | 1 => .array .int
  | 2 => .int
  | 3 => .int
  | 4 => .int
  | _ => .int
abbrev wsX00 : List Cond := u_ws RX0 TX0 6
theorem nmX0 : ∀ a, a < 6 → ∀ b, b < 6 → a ≠ b → (TX0 a).2.1 ≠ (TX0 b).2.1 := by decide +kernel
theorem tyX0_ok : ∀ k, k < 6 → parseFieldDescriptor (TX0 k).2.2.1 = some (tyX0 k) := by decide +kernel
abbrev cX0_init : ByteArray := prog_2_method_1_code
def yX0_init : MethodName := ⟨RX0, "<init>", "()V"⟩
abbrev cX0_isKind : ByteArray := prog_2_method_2_code
def yX0_isKind : MethodName := ⟨RX0, "isKind", "(I)Z"⟩
abbrev cX0_isUnder : ByteArray := prog_2_method_3_code
def yX0_isUnder : MethodName := ⟨RX0, "isUnder", "(II)Z"⟩
abbrev cX0_isBody : ByteArray := prog_2_method_4_code
def yX0_isBody : MethodName := ⟨RX0, "isBody", "(I)Z"⟩
abbrev cX0_add : ByteArray := prog_2_method_5_code
def yX0_add : MethodName := ⟨RX0, "add", "(I)I"⟩
abbrev cX0_play : ByteArray := prog_2_method_6_code
def yX0_play : MethodName := ⟨RX0, "play", "(III)I"⟩
abbrev cX0_begin : ByteArray := prog_2_method_7_code
def yX0_begin : MethodName := ⟨RX0, "begin", "(I)V"⟩
abbrev cX0_goes : ByteArray := prog_2_method_8_code
def yX0_goes : MethodName := ⟨RX0, "goes", "(II)I"⟩
abbrev cX0_sees : ByteArray := prog_2_method_9_code
def yX0_sees : MethodName := ⟨RX0, "sees", "(II)I"⟩
abbrev cX0_waits : ByteArray := prog_2_method_10_code
def yX0_waits : MethodName := ⟨RX0, "waits", "(II)I"⟩
abbrev cX0_tells : ByteArray := prog_2_method_11_code
def yX0_tells : MethodName := ⟨RX0, "tells", "(II)I"⟩
def RX1 : String := "FullerSquare$Changes"
def TX1 : u_T := fun k => match k with
  | 0 => ("FullerSquare$Changes", "numbers", "[I", true)
  | 1 => ("FullerSquare$Changes", "whats", "[I", true)
  | 2 => ("FullerSquare$Changes", "olds", "[I", true)
  | 3 => ("FullerSquare$Changes", "news", "[I", true)
  | 4 => ("FullerSquare$Changes", "known", "I", false)
  | _ => ("FullerSquare$Changes", "done", "I", false)
def tyX1 : Nat → FieldType := fun k => match k with
  | 0 => .array .int
  | 1 => .array .int
  | 2 => .array .int
  | 3 => .array .int
  | 4 => .int
  | _ => .int
abbrev wsX10 : List Cond := u_ws RX1 TX1 6
theorem nmX1 : ∀ a, a < 6 → ∀ b, b < 6 → a ≠ b → (TX1 a).2.1 ≠ (TX1 b).2.1 := by decide +kernel
theorem tyX1_ok : ∀ k, k < 6 → parseFieldDescriptor (TX1 k).2.2.1 = some (tyX1 k) := by decide +kernel
abbrev cX1_init : ByteArray := prog_3_method_1_code
def yX1_init : MethodName := ⟨RX1, "<init>", "()V"⟩
abbrev cX1_add : ByteArray := prog_3_method_2_code
def yX1_add : MethodName := ⟨RX1, "add", "(IIII)V"⟩
abbrev cX1_forgetFirst : ByteArray := prog_3_method_3_code
def yX1_forgetFirst : MethodName := ⟨RX1, "forgetFirst", "()V"⟩
abbrev cX1_back : ByteArray := prog_3_method_4_code
def yX1_back : MethodName := ⟨RX1, "back", "(LFullerSquare$Town;)I"⟩
abbrev cX1_again : ByteArray := prog_3_method_5_code
def yX1_again : MethodName := ⟨RX1, "again", "(LFullerSquare$Town;)I"⟩
def RX2 : String := "FullerSquare$Laws"
def TX2 : u_T := fun k => match k with
  | 0 => ("FullerSquare$Laws", "tape", "[I", true)
  | 1 => ("FullerSquare$Laws", "codes", "[[I", true)
  | 2 => ("FullerSquare$Laws", "sizes", "[I", true)
  | 3 => ("FullerSquare$Laws", "stack", "[I", true)
  | 4 => ("FullerSquare$Laws", "at", "I", false)
  | 5 => ("FullerSquare$Laws", "top", "I", false)
  | 6 => ("FullerSquare$Laws", "fed", "I", false)
  | _ => ("FullerSquare$Laws", "many", "I", false)
def tyX2 : Nat → FieldType := fun k => match k with
  | 0 => .array .int
  | 1 => .array (.array .int)
  | 2 => .array .int
  | 3 => .array .int
  | 4 => .int
  | 5 => .int
  | 6 => .int
  | _ => .int
abbrev wsX20 : List Cond := u_ws RX2 TX2 8
theorem nmX2 : ∀ a, a < 8 → ∀ b, b < 8 → a ≠ b → (TX2 a).2.1 ≠ (TX2 b).2.1 := by decide +kernel
theorem tyX2_ok : ∀ k, k < 8 → parseFieldDescriptor (TX2 k).2.2.1 = some (tyX2 k) := by decide +kernel
abbrev cX2_init : ByteArray := prog_4_method_1_code
def yX2_init : MethodName := ⟨RX2, "<init>", "()V"⟩
abbrev cX2_take : ByteArray := prog_4_method_2_code
def yX2_take : MethodName := ⟨RX2, "take", "(I)I"⟩
abbrev cX2_becomes : ByteArray := prog_4_method_3_code
def yX2_becomes : MethodName := ⟨RX2, "becomes", "()I"⟩
abbrev cX2_readLines : ByteArray := prog_4_method_4_code
def yX2_readLines : MethodName := ⟨RX2, "readLines", "()Z"⟩
abbrev cX2_readLine : ByteArray := prog_4_method_5_code
def yX2_readLine : MethodName := ⟨RX2, "readLine", "()Z"⟩
abbrev cX2_readPart : ByteArray := prog_4_method_6_code
def yX2_readPart : MethodName := ⟨RX2, "readPart", "(II)Z"⟩
abbrev cX2_levelOf : ByteArray := prog_4_method_7_code
def yX2_levelOf : MethodName := ⟨RX2, "levelOf", "(I)I"⟩
abbrev cX2_readOperand : ByteArray := prog_4_method_8_code
def yX2_readOperand : MethodName := ⟨RX2, "readOperand", "(I)Z"⟩
abbrev cX2_readOpened : ByteArray := prog_4_method_9_code
def yX2_readOpened : MethodName := ⟨RX2, "readOpened", "(II)Z"⟩
abbrev cX2_readNumber : ByteArray := prog_4_method_10_code
def yX2_readNumber : MethodName := ⟨RX2, "readNumber", "()V"⟩
abbrev cX2_isDigit : ByteArray := prog_4_method_11_code
def yX2_isDigit : MethodName := ⟨RX2, "isDigit", "(I)Z"⟩
abbrev cX2_next : ByteArray := prog_4_method_12_code
def yX2_next : MethodName := ⟨RX2, "next", "()I"⟩
abbrev cX2_write : ByteArray := prog_4_method_13_code
def yX2_write : MethodName := ⟨RX2, "write", "(I)V"⟩
abbrev cX2_gives : ByteArray := prog_4_method_14_code
def yX2_gives : MethodName := ⟨RX2, "gives", "(I[I)I"⟩
abbrev cX2_passesLine : ByteArray := prog_4_method_15_code
def yX2_passesLine : MethodName := ⟨RX2, "passesLine", "(I[I)Z"⟩
abbrev cX2_joined : ByteArray := prog_4_method_16_code
def yX2_joined : MethodName := ⟨RX2, "joined", "(III)I"⟩
abbrev cX2_push : ByteArray := prog_4_method_17_code
def yX2_push : MethodName := ⟨RX2, "push", "(I)V"⟩
abbrev cX2_pop : ByteArray := prog_4_method_18_code
def yX2_pop : MethodName := ⟨RX2, "pop", "()I"⟩
def RX3 : String := "FullerSquare$Noon"
def TX3 : u_T := fun k => match k with
  | 0 => ("FullerSquare$Noon", "town", "LFullerSquare$Town;", true)
  | 1 => ("FullerSquare$Noon", "laws", "LFullerSquare$Laws;", true)
  | 2 => ("FullerSquare$Noon", "wish", "LFullerSquare$Wish;", true)
  | 3 => ("FullerSquare$Noon", "there", "[I", true)
  | 4 => ("FullerSquare$Noon", "outside", "[I", true)
  | 5 => ("FullerSquare$Noon", "least", "[I", true)
  | 6 => ("FullerSquare$Noon", "all", "[I", true)
  | 7 => ("FullerSquare$Noon", "due", "[I", true)
  | 8 => ("FullerSquare$Noon", "ended", "[I", true)
  | 9 => ("FullerSquare$Noon", "began", "[I", true)
  | 10 => ("FullerSquare$Noon", "free", "[I", true)
  | 11 => ("FullerSquare$Noon", "seen", "[I", true)
  | 12 => ("FullerSquare$Noon", "seenMinute", "I", false)
  | 13 => ("FullerSquare$Noon", "squares", "I", false)
  | 14 => ("FullerSquare$Noon", "sorts", "I", false)
  | 15 => ("FullerSquare$Noon", "counts", "[I", true)
  | 16 => ("FullerSquare$Noon", "fullest", "I", false)
  | 17 => ("FullerSquare$Noon", "done", "I", false)
  | 18 => ("FullerSquare$Noon", "by", "I", false)
  | _ => ("FullerSquare$Noon", "away", "I", false)
def tyX3 : Nat → FieldType := fun k => match k with
  | 0 => .object "FullerSquare$Town"
  | 1 => .object "FullerSquare$Laws"
  | 2 => .object "FullerSquare$Wish"
  | 3 => .array .int
  | 4 => .array .int
  | 5 => .array .int
  | 6 => .array .int
  | 7 => .array .int
  | 8 => .array .int
  | 9 => .array .int
  | 10 => .array .int
  | 11 => .array .int
  | 12 => .int
  | 13 => .int
  | 14 => .int
  | 15 => .array .int
  | 16 => .int
  | 17 => .int
  | 18 => .int
  | _ => .int
abbrev wsX30 : List Cond := u_ws RX3 TX3 20
theorem nmX3 : ∀ a, a < 20 → ∀ b, b < 20 → a ≠ b → (TX3 a).2.1 ≠ (TX3 b).2.1 := by decide +kernel
theorem tyX3_ok : ∀ k, k < 20 → parseFieldDescriptor (TX3 k).2.2.1 = some (tyX3 k) := by decide +kernel
abbrev cX3_init : ByteArray := prog_5_method_1_code
def yX3_init : MethodName := ⟨RX3, "<init>", "(LFullerSquare$Town;LFullerSquare$Laws;)V"⟩
abbrev cX3_hasSquare : ByteArray := prog_5_method_2_code
def yX3_hasSquare : MethodName := ⟨RX3, "hasSquare", "(I)Z"⟩
abbrev cX3_hasSort : ByteArray := prog_5_method_3_code
def yX3_hasSort : MethodName := ⟨RX3, "hasSort", "(I)Z"⟩
abbrev cX3_atEnd : ByteArray := prog_5_method_4_code
def yX3_atEnd : MethodName := ⟨RX3, "atEnd", "(III)I"⟩
abbrev cX3_allAtEnd : ByteArray := prog_5_method_5_code
def yX3_allAtEnd : MethodName := ⟨RX3, "allAtEnd", "(II)I"⟩
abbrev cX3_pass : ByteArray := prog_5_method_6_code
def yX3_pass : MethodName := ⟨RX3, "pass", "()V"⟩
abbrev cX3_begin : ByteArray := prog_5_method_7_code
def yX3_begin : MethodName := ⟨RX3, "begin", "()V"⟩
abbrev cX3_see : ByteArray := prog_5_method_8_code
def yX3_see : MethodName := ⟨RX3, "see", "(I)V"⟩
abbrev cX3_seenIn : ByteArray := prog_5_method_9_code
def yX3_seenIn : MethodName := ⟨RX3, "seenIn", "(I)I"⟩
abbrev cX3_arrive : ByteArray := prog_5_method_10_code
def yX3_arrive : MethodName := ⟨RX3, "arrive", "(I)V"⟩
abbrev cX3_go : ByteArray := prog_5_method_11_code
def yX3_go : MethodName := ⟨RX3, "go", "(I)V"⟩
abbrev cX3_setOut : ByteArray := prog_5_method_12_code
def yX3_setOut : MethodName := ⟨RX3, "setOut", "(III)V"⟩
abbrev cX3_aim : ByteArray := prog_5_method_13_code
def yX3_aim : MethodName := ⟨RX3, "aim", "(III)I"⟩
abbrev cX3_end : ByteArray := prog_5_method_14_code
def yX3_end : MethodName := ⟨RX3, "end", "(I)V"⟩
abbrev cX3_tally : ByteArray := prog_5_method_15_code
def yX3_tally : MethodName := ⟨RX3, "tally", "()V"⟩
def RX4 : String := "FullerSquare$Shelf"
def TX4 : u_T := fun k => match k with
  | 0 => ("FullerSquare$Shelf", "body", "I", false)
  | 1 => ("FullerSquare$Shelf", "sort", "I", false)
  | 2 => ("FullerSquare$Shelf", "size", "I", false)
  | _ => ("FullerSquare$Shelf", "elements", "[J", true)
def tyX4 : Nat → FieldType := fun k => match k with
  | 0 => .int
  | 1 => .int
  | 2 => .int
  | _ => .array .long
abbrev wsX40 : List Cond := u_ws RX4 TX4 4
theorem nmX4 : ∀ a, a < 4 → ∀ b, b < 4 → a ≠ b → (TX4 a).2.1 ≠ (TX4 b).2.1 := by decide +kernel
theorem tyX4_ok : ∀ k, k < 4 → parseFieldDescriptor (TX4 k).2.2.1 = some (tyX4 k) := by decide +kernel
abbrev cX4_init : ByteArray := prog_6_method_1_code
def yX4_init : MethodName := ⟨RX4, "<init>", "()V"⟩
abbrev cX4_isRow : ByteArray := prog_6_method_2_code
def yX4_isRow : MethodName := ⟨RX4, "isRow", "()Z"⟩
abbrev cX4_isEmpty : ByteArray := prog_6_method_3_code
def yX4_isEmpty : MethodName := ⟨RX4, "isEmpty", "()Z"⟩
abbrev cX4_holdBody : ByteArray := prog_6_method_4_code
def yX4_holdBody : MethodName := ⟨RX4, "holdBody", "(I)V"⟩
abbrev cX4_holdRow : ByteArray := prog_6_method_5_code
def yX4_holdRow : MethodName := ⟨RX4, "holdRow", "(II)V"⟩
abbrev cX4_refusal : ByteArray := prog_6_method_6_code
def yX4_refusal : MethodName := ⟨RX4, "refusal", "(I)I"⟩
abbrev cX4_hasPlaces : ByteArray := prog_6_method_7_code
def yX4_hasPlaces : MethodName := ⟨RX4, "hasPlaces", "(II)Z"⟩
abbrev cX4_at : ByteArray := prog_6_method_8_code
def yX4_at : MethodName := ⟨RX4, "at", "(I)J"⟩
abbrev cX4_become : ByteArray := prog_6_method_9_code
def yX4_become : MethodName := ⟨RX4, "become", "(IJ)V"⟩
abbrev cX4_lowestBits : ByteArray := prog_6_method_10_code
def yX4_lowestBits : MethodName := ⟨RX4, "lowestBits", "(J)J"⟩
def RX5 : String := "FullerSquare$Town"
def TX5 : u_T := fun k => match k with
  | 0 => ("FullerSquare$Town", "squares", "I", false)
  | 1 => ("FullerSquare$Town", "ways", "I", false)
  | 2 => ("FullerSquare$Town", "sorts", "I", false)
  | 3 => ("FullerSquare$Town", "stroke", "I", false)
  | 4 => ("FullerSquare$Town", "lag", "I", false)
  | 5 => ("FullerSquare$Town", "early", "I", false)
  | 6 => ("FullerSquare$Town", "holds", "[I", true)
  | 7 => ("FullerSquare$Town", "what", "[I", true)
  | 8 => ("FullerSquare$Town", "one", "[I", true)
  | 9 => ("FullerSquare$Town", "other", "[I", true)
  | 10 => ("FullerSquare$Town", "minutes", "[I", true)
  | 11 => ("FullerSquare$Town", "most", "[I", true)
  | 12 => ("FullerSquare$Town", "many", "[I", true)
  | 13 => ("FullerSquare$Town", "want", "[I", true)
  | 14 => ("FullerSquare$Town", "home", "[I", true)
  | 15 => ("FullerSquare$Town", "pace", "[I", true)
  | 16 => ("FullerSquare$Town", "law", "[I", true)
  | 17 => ("FullerSquare$Town", "direct", "[I", true)
  | _ => ("FullerSquare$Town", "fewest", "[I", true)
def tyX5 : Nat → FieldType := fun k => match k with
  | 0 => .int
  | 1 => .int
  | 2 => .int
  | 3 => .int
  | 4 => .int
  | 5 => .int
  | 6 => .array .int
  | 7 => .array .int
  | 8 => .array .int
  | 9 => .array .int
  | 10 => .array .int
  | 11 => .array .int
  | 12 => .array .int
  | 13 => .array .int
  | 14 => .array .int
  | 15 => .array .int
  | 16 => .array .int
  | 17 => .array .int
  | _ => .array .int
abbrev wsX50 : List Cond := u_ws RX5 TX5 19
theorem nmX5 : ∀ a, a < 19 → ∀ b, b < 19 → a ≠ b → (TX5 a).2.1 ≠ (TX5 b).2.1 := by decide +kernel
theorem tyX5_ok : ∀ k, k < 19 → parseFieldDescriptor (TX5 k).2.2.1 = some (tyX5 k) := by decide +kernel
abbrev cX5_init : ByteArray := prog_7_method_1_code
def yX5_init : MethodName := ⟨RX5, "<init>", "()V"⟩
abbrev cX5_isSquare : ByteArray := prog_7_method_2_code
def yX5_isSquare : MethodName := ⟨RX5, "isSquare", "(I)Z"⟩
abbrev cX5_isSort : ByteArray := prog_7_method_3_code
def yX5_isSort : MethodName := ⟨RX5, "isSort", "(I)Z"⟩
abbrev cX5_areTwoSquares : ByteArray := prog_7_method_4_code
def yX5_areTwoSquares : MethodName := ⟨RX5, "areTwoSquares", "(I)Z"⟩
abbrev cX5_addSquare : ByteArray := prog_7_method_5_code
def yX5_addSquare : MethodName := ⟨RX5, "addSquare", "(II)I"⟩
abbrev cX5_addWay : ByteArray := prog_7_method_6_code
def yX5_addWay : MethodName := ⟨RX5, "addWay", "(IIII)I"⟩
abbrev cX5_lay : ByteArray := prog_7_method_7_code
def yX5_lay : MethodName := ⟨RX5, "lay", "(II)V"⟩
abbrev cX5_shorten : ByteArray := prog_7_method_8_code
def yX5_shorten : MethodName := ⟨RX5, "shorten", "()V"⟩
abbrev cX5_addSort : ByteArray := prog_7_method_9_code
def yX5_addSort : MethodName := ⟨RX5, "addSort", "(III)I"⟩
abbrev cX5_mended : ByteArray := prog_7_method_10_code
def yX5_mended : MethodName := ⟨RX5, "mended", "(III)I"⟩
abbrev cX5_ofSort : ByteArray := prog_7_method_11_code
def yX5_ofSort : MethodName := ⟨RX5, "ofSort", "(II)I"⟩
abbrev cX5_ofSquare : ByteArray := prog_7_method_12_code
def yX5_ofSquare : MethodName := ⟨RX5, "ofSquare", "(II)I"⟩
abbrev cX5_ofWay : ByteArray := prog_7_method_13_code
def yX5_ofWay : MethodName := ⟨RX5, "ofWay", "(II)I"⟩
abbrev cX5_people : ByteArray := prog_7_method_14_code
def yX5_people : MethodName := ⟨RX5, "people", "()I"⟩
abbrev cX5_wanting : ByteArray := prog_7_method_15_code
def yX5_wanting : MethodName := ⟨RX5, "wanting", "(I)I"⟩
abbrev cX5_fewerWant : ByteArray := prog_7_method_16_code
def yX5_fewerWant : MethodName := ⟨RX5, "fewerWant", "()I"⟩
abbrev cX5_firstFor : ByteArray := prog_7_method_17_code
def yX5_firstFor : MethodName := ⟨RX5, "firstFor", "(I)I"⟩
abbrev cX5_lastMinute : ByteArray := prog_7_method_18_code
def yX5_lastMinute : MethodName := ⟨RX5, "lastMinute", "(III)I"⟩
abbrev cX5_mostOver : ByteArray := prog_7_method_19_code
def yX5_mostOver : MethodName := ⟨RX5, "mostOver", "(III)I"⟩
abbrev cX5_couldCome : ByteArray := prog_7_method_20_code
def yX5_couldCome : MethodName := ⟨RX5, "couldCome", "(I)I"⟩
def RX6 : String := "FullerSquare$Wish"
def TX6 : u_T := fun k => match k with
  | 0 => ("FullerSquare$Wish", "stroke", "I", false)
  | 1 => ("FullerSquare$Wish", "lag", "I", false)
  | 2 => ("FullerSquare$Wish", "standAt", "I", false)
  | 3 => ("FullerSquare$Wish", "standers", "I", false)
  | 4 => ("FullerSquare$Wish", "ledSort", "I", false)
  | 5 => ("FullerSquare$Wish", "ledTo", "I", false)
  | 6 => ("FullerSquare$Wish", "ledFrom", "I", false)
  | 7 => ("FullerSquare$Wish", "home", "[I", true)
  | _ => ("FullerSquare$Wish", "law", "[I", true)
def tyX6 : Nat → FieldType := fun k => match k with
  | 0 => .int
  | 1 => .int
  | 2 => .int
  | 3 => .int
  | 4 => .int
  | 5 => .int
  | 6 => .int
  | 7 => .array .int
  | _ => .array .int
abbrev wsX60 : List Cond := u_ws RX6 TX6 9
theorem nmX6 : ∀ a, a < 9 → ∀ b, b < 9 → a ≠ b → (TX6 a).2.1 ≠ (TX6 b).2.1 := by decide +kernel
theorem tyX6_ok : ∀ k, k < 9 → parseFieldDescriptor (TX6 k).2.2.1 = some (tyX6 k) := by decide +kernel
abbrev cX6_init : ByteArray := prog_8_method_1_code
def yX6_init : MethodName := ⟨RX6, "<init>", "()V"⟩
abbrev cX6_asIn : ByteArray := prog_8_method_2_code
def yX6_asIn : MethodName := ⟨RX6, "asIn", "(LFullerSquare$Town;)V"⟩
abbrev cX6_stand : ByteArray := prog_8_method_3_code
def yX6_stand : MethodName := ⟨RX6, "stand", "(II)V"⟩
abbrev cX6_follow : ByteArray := prog_8_method_4_code
def yX6_follow : MethodName := ⟨RX6, "follow", "(III)V"⟩
abbrev cX6_strew : ByteArray := prog_8_method_5_code
def yX6_strew : MethodName := ⟨RX6, "strew", "(ILFullerSquare$Town;)I"⟩
def RX7 : String := "FullerSquare"
def TX7 : u_T := fun k => match k with
  | 0 => ("FullerSquare", "town", "LFullerSquare$Town;", true)
  | 1 => ("FullerSquare", "laws", "LFullerSquare$Laws;", true)
  | 2 => ("FullerSquare", "kept", "LFullerSquare$Noon;", true)
  | 3 => ("FullerSquare", "thought", "LFullerSquare$Noon;", true)
  | 4 => ("FullerSquare", "changes", "LFullerSquare$Changes;", true)
  | 5 => ("FullerSquare", "acts", "LFullerSquare$Acts;", true)
  | 6 => ("FullerSquare", "shelves", "[LFullerSquare$Shelf;", true)
  | _ => ("FullerSquare", "ran", "Z", false)
def tyX7 : Nat → FieldType := fun k => match k with
  | 0 => .object "FullerSquare$Town"
  | 1 => .object "FullerSquare$Laws"
  | 2 => .object "FullerSquare$Noon"
  | 3 => .object "FullerSquare$Noon"
  | 4 => .object "FullerSquare$Changes"
  | 5 => .object "FullerSquare$Acts"
  | 6 => .array (.object "FullerSquare$Shelf")
  | _ => .boolean
abbrev wsX70 : List Cond := u_ws RX7 TX7 8
theorem nmX7 : ∀ a, a < 8 → ∀ b, b < 8 → a ≠ b → (TX7 a).2.1 ≠ (TX7 b).2.1 := by decide +kernel
theorem tyX7_ok : ∀ k, k < 8 → parseFieldDescriptor (TX7 k).2.2.1 = some (tyX7 k) := by decide +kernel
abbrev cX7_init : ByteArray := prog_1_method_1_code
def yX7_init : MethodName := ⟨RX7, "<init>", "()V"⟩
abbrev cX7_square : ByteArray := prog_1_method_2_code
def yX7_square : MethodName := ⟨RX7, "square", "(II)I"⟩
abbrev cX7_way : ByteArray := prog_1_method_3_code
def yX7_way : MethodName := ⟨RX7, "way", "(III)I"⟩
abbrev cX7_sort : ByteArray := prog_1_method_4_code
def yX7_sort : MethodName := ⟨RX7, "sort", "(III)I"⟩
abbrev cX7_sorts : ByteArray := prog_1_method_5_code
def yX7_sorts : MethodName := ⟨RX7, "sorts", "(III)I"⟩
abbrev cX7_sortsFrom : ByteArray := prog_1_method_6_code
def yX7_sortsFrom : MethodName := ⟨RX7, "sortsFrom", "(LFullerSquare$Shelf;II)I"⟩
abbrev cX7_feed : ByteArray := prog_1_method_7_code
def yX7_feed : MethodName := ⟨RX7, "feed", "(I)I"⟩
abbrev cX7_law : ByteArray := prog_1_method_8_code
def yX7_law : MethodName := ⟨RX7, "law", "()I"⟩
abbrev cX7_set : ByteArray := prog_1_method_9_code
def yX7_set : MethodName := ⟨RX7, "set", "(II)I"⟩
abbrev cX7_mend : ByteArray := prog_1_method_10_code
def yX7_mend : MethodName := ⟨RX7, "mend", "(III)I"⟩
abbrev cX7_of : ByteArray := prog_1_method_11_code
def yX7_of : MethodName := ⟨RX7, "of", "(II)I"⟩
abbrev cX7_run : ByteArray := prog_1_method_12_code
def yX7_run : MethodName := ⟨RX7, "run", "()I"⟩
abbrev cX7_led : ByteArray := prog_1_method_13_code
def yX7_led : MethodName := ⟨RX7, "led", "(III)I"⟩
abbrev cX7_told : ByteArray := prog_1_method_14_code
def yX7_told : MethodName := ⟨RX7, "told", "(I)I"⟩
abbrev cX7_last : ByteArray := prog_1_method_15_code
def yX7_last : MethodName := ⟨RX7, "last", "(I)I"⟩
abbrev cX7_flow : ByteArray := prog_1_method_16_code
def yX7_flow : MethodName := ⟨RX7, "flow", "(I)I"⟩
abbrev cX7_isSortAndWay : ByteArray := prog_1_method_17_code
def yX7_isSortAndWay : MethodName := ⟨RX7, "isSortAndWay", "(I)Z"⟩
abbrev cX7_fewer : ByteArray := prog_1_method_18_code
def yX7_fewer : MethodName := ⟨RX7, "fewer", "(I)I"⟩
abbrev cX7_often : ByteArray := prog_1_method_19_code
def yX7_often : MethodName := ⟨RX7, "often", "(II)I"⟩
abbrev cX7_sooner : ByteArray := prog_1_method_20_code
def yX7_sooner : MethodName := ⟨RX7, "sooner", "(I)I"⟩
abbrev cX7_bell : ByteArray := prog_1_method_21_code
def yX7_bell : MethodName := ⟨RX7, "bell", "(II)I"⟩
abbrev cX7_makesHundred : ByteArray := prog_1_method_22_code
def yX7_makesHundred : MethodName := ⟨RX7, "makesHundred", "(LFullerSquare$Shelf;)Z"⟩
abbrev cX7_paid : ByteArray := prog_1_method_23_code
def yX7_paid : MethodName := ⟨RX7, "paid", "(I)I"⟩
abbrev cX7_lead : ByteArray := prog_1_method_24_code
def yX7_lead : MethodName := ⟨RX7, "lead", "(I)I"⟩
abbrev cX7_serves : ByteArray := prog_1_method_25_code
def yX7_serves : MethodName := ⟨RX7, "serves", "(I)I"⟩
abbrev cX7_judge : ByteArray := prog_1_method_26_code
def yX7_judge : MethodName := ⟨RX7, "judge", "(I)I"⟩
abbrev cX7_judged : ByteArray := prog_1_method_27_code
def yX7_judged : MethodName := ⟨RX7, "judged", "(LFullerSquare$Shelf;)I"⟩
abbrev cX7_undo : ByteArray := prog_1_method_28_code
def yX7_undo : MethodName := ⟨RX7, "undo", "()I"⟩
abbrev cX7_redo : ByteArray := prog_1_method_29_code
def yX7_redo : MethodName := ⟨RX7, "redo", "()I"⟩
abbrev cX7_body : ByteArray := prog_1_method_30_code
def yX7_body : MethodName := ⟨RX7, "body", "(I)I"⟩
abbrev cX7_act : ByteArray := prog_1_method_31_code
def yX7_act : MethodName := ⟨RX7, "act", "(III)I"⟩
abbrev cX7_trace : ByteArray := prog_1_method_32_code
def yX7_trace : MethodName := ⟨RX7, "trace", "(I)I"⟩
abbrev cX7_keep : ByteArray := prog_1_method_33_code
def yX7_keep : MethodName := ⟨RX7, "keep", "(II)I"⟩
abbrev cX7_row : ByteArray := prog_1_method_34_code
def yX7_row : MethodName := ⟨RX7, "row", "(III)I"⟩
abbrev cX7_put : ByteArray := prog_1_method_35_code
def yX7_put : MethodName := ⟨RX7, "put", "(IIJ)I"⟩
abbrev cX7_element : ByteArray := prog_1_method_36_code
def yX7_element : MethodName := ⟨RX7, "element", "(II)J"⟩
abbrev cX7_placeRefusal : ByteArray := prog_1_method_37_code
def yX7_placeRefusal : MethodName := ⟨RX7, "placeRefusal", "(II)I"⟩
abbrev cX7_shift : ByteArray := prog_1_method_38_code
def yX7_shift : MethodName := ⟨RX7, "shift", "(IIIII)I"⟩
abbrev cX7_taken : ByteArray := prog_1_method_39_code
def yX7_taken : MethodName := ⟨RX7, "taken", "(II)I"⟩
abbrev cX7_count : ByteArray := prog_1_method_40_code
def yX7_count : MethodName := ⟨RX7, "count", "(I)I"⟩
abbrev cX7_within : ByteArray := prog_1_method_41_code
def yX7_within : MethodName := ⟨RX7, "within", "(III)Z"⟩
abbrev cX7_isShelf : ByteArray := prog_1_method_42_code
def yX7_isShelf : MethodName := ⟨RX7, "isShelf", "(I)Z"⟩
def RX8 : String := "FullerSquareModel"
def TX8 : u_T := fun k => match k with
  | 0 => ("FullerSquareModel", "code", "I", false)
  | 1 => ("FullerSquareModel", "squares", "I", false)
  | 2 => ("FullerSquareModel", "holdsAt", "[I", true)
  | 3 => ("FullerSquareModel", "isFor", "[I", true)
  | 4 => ("FullerSquareModel", "ways", "I", false)
  | 5 => ("FullerSquareModel", "wayA", "[I", true)
  | 6 => ("FullerSquareModel", "wayB", "[I", true)
  | 7 => ("FullerSquareModel", "minutes", "[I", true)
  | 8 => ("FullerSquareModel", "most", "[I", true)
  | 9 => ("FullerSquareModel", "sorts", "I", false)
  | 10 => ("FullerSquareModel", "many", "[I", true)
  | 11 => ("FullerSquareModel", "want", "[I", true)
  | 12 => ("FullerSquareModel", "begins", "[I", true)
  | 13 => ("FullerSquareModel", "pace", "[I", true)
  | 14 => ("FullerSquareModel", "lawOf", "[I", true)
  | 15 => ("FullerSquareModel", "stroke", "I", false)
  | 16 => ("FullerSquareModel", "lag", "I", false)
  | 17 => ("FullerSquareModel", "early", "I", false)
  | 18 => ("FullerSquareModel", "tape", "[B", true)
  | 19 => ("FullerSquareModel", "taped", "I", false)
  | 20 => ("FullerSquareModel", "here", "I", false)
  | 21 => ("FullerSquareModel", "fault", "I", false)
  | 22 => ("FullerSquareModel", "open", "I", false)
  | 23 => ("FullerSquareModel", "laid", "I", false)
  | 24 => ("FullerSquareModel", "act", "[B", true)
  | 25 => ("FullerSquareModel", "with", "[I", true)
  | 26 => ("FullerSquareModel", "lineMany", "[I", true)
  | 27 => ("FullerSquareModel", "testEnd", "[S", true)
  | 28 => ("FullerSquareModel", "lineEnd", "[S", true)
  | 29 => ("FullerSquareModel", "facts", "[I", true)
  | 30 => ("FullerSquareModel", "pile", "[I", true)
  | 31 => ("FullerSquareModel", "laws", "I", false)
  | 32 => ("FullerSquareModel", "doneMany", "I", false)
  | 33 => ("FullerSquareModel", "undoneMany", "I", false)
  | 34 => ("FullerSquareModel", "changeOf", "[I", true)
  | 35 => ("FullerSquareModel", "changeAt", "[I", true)
  | 36 => ("FullerSquareModel", "before", "[I", true)
  | 37 => ("FullerSquareModel", "behind", "[I", true)
  | 38 => ("FullerSquareModel", "there", "[I", true)
  | 39 => ("FullerSquareModel", "outside", "[I", true)
  | 40 => ("FullerSquareModel", "coming", "[I", true)
  | 41 => ("FullerSquareModel", "ended", "[I", true)
  | 42 => ("FullerSquareModel", "began", "[I", true)
  | 43 => ("FullerSquareModel", "setOut", "[I", true)
  | 44 => ("FullerSquareModel", "counted", "[I", true)
  | 45 => ("FullerSquareModel", "standers", "I", false)
  | 46 => ("FullerSquareModel", "standAt", "I", false)
  | 47 => ("FullerSquareModel", "led", "I", false)
  | 48 => ("FullerSquareModel", "ledFrom", "I", false)
  | 49 => ("FullerSquareModel", "ledTo", "I", false)
  | 50 => ("FullerSquareModel", "served", "I", false)
  | 51 => ("FullerSquareModel", "servedBy", "I", false)
  | 52 => ("FullerSquareModel", "doneNow", "I", false)
  | 53 => ("FullerSquareModel", "fullestNow", "I", false)
  | 54 => ("FullerSquareModel", "byNow", "I", false)
  | 55 => ("FullerSquareModel", "keptStroke", "I", false)
  | 56 => ("FullerSquareModel", "keptFullest", "I", false)
  | 57 => ("FullerSquareModel", "keptDone", "I", false)
  | 58 => ("FullerSquareModel", "keptBy", "I", false)
  | 59 => ("FullerSquareModel", "keptAway", "I", false)
  | 60 => ("FullerSquareModel", "keptSquares", "I", false)
  | 61 => ("FullerSquareModel", "keptSorts", "I", false)
  | 62 => ("FullerSquareModel", "keptEnded", "[I", true)
  | 63 => ("FullerSquareModel", "keptCounted", "[I", true)
  | 64 => ("FullerSquareModel", "far", "[I", true)
  | 65 => ("FullerSquareModel", "beganAt", "[I", true)
  | 66 => ("FullerSquareModel", "bodies", "I", false)
  | 67 => ("FullerSquareModel", "kind", "[I", true)
  | 68 => ("FullerSquareModel", "traces", "I", false)
  | 69 => ("FullerSquareModel", "traced", "[I", true)
  | 70 => ("FullerSquareModel", "holds", "[I", true)
  | 71 => ("FullerSquareModel", "size", "[I", true)
  | 72 => ("FullerSquareModel", "elements", "[J", true)
  | _ => ("FullerSquareModel", "shifted", "[J", true)
def tyX8 : Nat → FieldType := fun k => match k with
  | 0 => .int
  | 1 => .int
  | 2 => .array .int
  | 3 => .array .int
  | 4 => .int
  | 5 => .array .int
  | 6 => .array .int
  | 7 => .array .int
  | 8 => .array .int
  | 9 => .int
  | 10 => .array .int
  | 11 => .array .int
  | 12 => .array .int
  | 13 => .array .int
  | 14 => .array .int
  | 15 => .int
  | 16 => .int
  | 17 => .int
  | 18 => .array .byte
  | 19 => .int
  | 20 => .int
  | 21 => .int
  | 22 => .int
  | 23 => .int
  | 24 => .array .byte
  | 25 => .array .int
  | 26 => .array .int
  | 27 => .array .short
  | 28 => .array .short
  | 29 => .array .int
  | 30 => .array .int
  | 31 => .int
  | 32 => .int
  | 33 => .int
  | 34 => .array .int
  | 35 => .array .int
  | 36 => .array .int
  | 37 => .array .int
  | 38 => .array .int
  | 39 => .array .int
  | 40 => .array .int
  | 41 => .array .int
  | 42 => .array .int
  | 43 => .array .int
  | 44 => .array .int
  | 45 => .int
  | 46 => .int
  | 47 => .int
  | 48 => .int
  | 49 => .int
  | 50 => .int
  | 51 => .int
  | 52 => .int
  | 53 => .int
  | 54 => .int
  | 55 => .int
  | 56 => .int
  | 57 => .int
  | 58 => .int
  | 59 => .int
  | 60 => .int
  | 61 => .int
  | 62 => .array .int
  | 63 => .array .int
  | 64 => .array .int
  | 65 => .array .int
  | 66 => .int
  | 67 => .array .int
  | 68 => .int
  | 69 => .array .int
  | 70 => .array .int
  | 71 => .array .int
  | 72 => .array .long
  | _ => .array .long
abbrev wsX80 : List Cond := u_ws RX8 TX8 74
theorem nmX8 : ∀ a, a < 74 → ∀ b, b < 74 → a ≠ b → (TX8 a).2.1 ≠ (TX8 b).2.1 := by decide +kernel
theorem tyX8_ok : ∀ k, k < 74 → parseFieldDescriptor (TX8 k).2.2.1 = some (tyX8 k) := by decide +kernel
abbrev cX8_init : ByteArray := prog_10_method_1_code
def yX8_init : MethodName := ⟨RX8, "<init>", "()V"⟩
abbrev cX8_in : ByteArray := prog_10_method_3_code
def yX8_in : MethodName := ⟨RX8, "in", "(III)Z"⟩
abbrev cX8_isSquare : ByteArray := prog_10_method_4_code
def yX8_isSquare : MethodName := ⟨RX8, "isSquare", "(I)Z"⟩
abbrev cX8_isSort : ByteArray := prog_10_method_5_code
def yX8_isSort : MethodName := ⟨RX8, "isSort", "(I)Z"⟩
abbrev cX8_square : ByteArray := prog_10_method_6_code
def yX8_square : MethodName := ⟨RX8, "square", "(II)I"⟩
abbrev cX8_way : ByteArray := prog_10_method_7_code
def yX8_way : MethodName := ⟨RX8, "way", "(III)I"⟩
abbrev cX8_isSortSo : ByteArray := prog_10_method_8_code
def yX8_isSortSo : MethodName := ⟨RX8, "isSortSo", "(III)Z"⟩
abbrev cX8_addSort : ByteArray := prog_10_method_9_code
def yX8_addSort : MethodName := ⟨RX8, "addSort", "(III)I"⟩
abbrev cX8_sort : ByteArray := prog_10_method_10_code
def yX8_sort : MethodName := ⟨RX8, "sort", "(III)I"⟩
abbrev cX8_sorts : ByteArray := prog_10_method_11_code
def yX8_sorts : MethodName := ⟨RX8, "sorts", "(III)I"⟩
abbrev cX8_feed : ByteArray := prog_10_method_12_code
def yX8_feed : MethodName := ⟨RX8, "feed", "(I)I"⟩
abbrev cX8_look : ByteArray := prog_10_method_13_code
def yX8_look : MethodName := ⟨RX8, "look", "()I"⟩
abbrev cX8_wrong : ByteArray := prog_10_method_14_code
def yX8_wrong : MethodName := ⟨RX8, "wrong", "()V"⟩
abbrev cX8_addStep : ByteArray := prog_10_method_15_code
def yX8_addStep : MethodName := ⟨RX8, "addStep", "(II)V"⟩
abbrev cX8_nameOf : ByteArray := prog_10_method_16_code
def yX8_nameOf : MethodName := ⟨RX8, "nameOf", "(I)I"⟩
abbrev cX8_opens : ByteArray := prog_10_method_17_code
def yX8_opens : MethodName := ⟨RX8, "opens", "()Z"⟩
abbrev cX8_figure : ByteArray := prog_10_method_18_code
def yX8_figure : MethodName := ⟨RX8, "figure", "()V"⟩
abbrev cX8_operand : ByteArray := prog_10_method_19_code
def yX8_operand : MethodName := ⟨RX8, "operand", "()V"⟩
abbrev cX8_product : ByteArray := prog_10_method_20_code
def yX8_product : MethodName := ⟨RX8, "product", "()V"⟩
abbrev cX8_sum : ByteArray := prog_10_method_21_code
def yX8_sum : MethodName := ⟨RX8, "sum", "()V"⟩
abbrev cX8_compared : ByteArray := prog_10_method_22_code
def yX8_compared : MethodName := ⟨RX8, "compared", "()V"⟩
abbrev cX8_both : ByteArray := prog_10_method_23_code
def yX8_both : MethodName := ⟨RX8, "both", "()V"⟩
abbrev cX8_either : ByteArray := prog_10_method_24_code
def yX8_either : MethodName := ⟨RX8, "either", "()V"⟩
abbrev cX8_line : ByteArray := prog_10_method_25_code
def yX8_line : MethodName := ⟨RX8, "line", "()V"⟩
abbrev cX8_readText : ByteArray := prog_10_method_26_code
def yX8_readText : MethodName := ⟨RX8, "readText", "(I)I"⟩
abbrev cX8_twoOf : ByteArray := prog_10_method_27_code
def yX8_twoOf : MethodName := ⟨RX8, "twoOf", "(III)I"⟩
abbrev cX8_worked : ByteArray := prog_10_method_28_code
def yX8_worked : MethodName := ⟨RX8, "worked", "(III)I"⟩
abbrev cX8_gives : ByteArray := prog_10_method_29_code
def yX8_gives : MethodName := ⟨RX8, "gives", "(I)I"⟩
abbrev cX8_isLaw : ByteArray := prog_10_method_30_code
def yX8_isLaw : MethodName := ⟨RX8, "isLaw", "(I)Z"⟩
abbrev cX8_law : ByteArray := prog_10_method_31_code
def yX8_law : MethodName := ⟨RX8, "law", "()I"⟩
abbrev cX8_set : ByteArray := prog_10_method_32_code
def yX8_set : MethodName := ⟨RX8, "set", "(II)I"⟩
abbrev cX8_valueAt : ByteArray := prog_10_method_33_code
def yX8_valueAt : MethodName := ⟨RX8, "valueAt", "(II)I"⟩
abbrev cX8_lays : ByteArray := prog_10_method_34_code
def yX8_lays : MethodName := ⟨RX8, "lays", "(III)V"⟩
abbrev cX8_changes : ByteArray := prog_10_method_35_code
def yX8_changes : MethodName := ⟨RX8, "changes", "(III)I"⟩
abbrev cX8_undo : ByteArray := prog_10_method_36_code
def yX8_undo : MethodName := ⟨RX8, "undo", "()I"⟩
abbrev cX8_redo : ByteArray := prog_10_method_37_code
def yX8_redo : MethodName := ⟨RX8, "redo", "()I"⟩
abbrev cX8_mend : ByteArray := prog_10_method_38_code
def yX8_mend : MethodName := ⟨RX8, "mend", "(III)I"⟩
abbrev cX8_of : ByteArray := prog_10_method_39_code
def yX8_of : MethodName := ⟨RX8, "of", "(II)I"⟩
abbrev cX8_inSquare : ByteArray := prog_10_method_40_code
def yX8_inSquare : MethodName := ⟨RX8, "inSquare", "(I)I"⟩
abbrev cX8_arrive : ByteArray := prog_10_method_41_code
def yX8_arrive : MethodName := ⟨RX8, "arrive", "(I)V"⟩
abbrev cX8_goal : ByteArray := prog_10_method_42_code
def yX8_goal : MethodName := ⟨RX8, "goal", "(IIII)I"⟩
abbrev cX8_doesLead : ByteArray := prog_10_method_43_code
def yX8_doesLead : MethodName := ⟨RX8, "doesLead", "(IIII)Z"⟩
abbrev cX8_go : ByteArray := prog_10_method_44_code
def yX8_go : MethodName := ⟨RX8, "go", "(II)V"⟩
abbrev cX8_goTo : ByteArray := prog_10_method_45_code
def yX8_goTo : MethodName := ⟨RX8, "goTo", "(I)I"⟩
abbrev cX8_countSquare : ByteArray := prog_10_method_46_code
def yX8_countSquare : MethodName := ⟨RX8, "countSquare", "(II)V"⟩
abbrev cX8_counts : ByteArray := prog_10_method_47_code
def yX8_counts : MethodName := ⟨RX8, "counts", "(I)V"⟩
abbrev cX8_run : ByteArray := prog_10_method_48_code
def yX8_run : MethodName := ⟨RX8, "run", "()I"⟩
abbrev cX8_led : ByteArray := prog_10_method_49_code
def yX8_led : MethodName := ⟨RX8, "led", "(III)I"⟩
abbrev cX8_told : ByteArray := prog_10_method_50_code
def yX8_told : MethodName := ⟨RX8, "told", "(I)I"⟩
abbrev cX8_fewest : ByteArray := prog_10_method_51_code
def yX8_fewest : MethodName := ⟨RX8, "fewest", "(II)I"⟩
abbrev cX8_nearer : ByteArray := prog_10_method_52_code
def yX8_nearer : MethodName := ⟨RX8, "nearer", "(III)V"⟩
abbrev cX8_lastOf : ByteArray := prog_10_method_53_code
def yX8_lastOf : MethodName := ⟨RX8, "lastOf", "(III)I"⟩
abbrev cX8_isTrip : ByteArray := prog_10_method_54_code
def yX8_isTrip : MethodName := ⟨RX8, "isTrip", "(I)Z"⟩
abbrev cX8_last : ByteArray := prog_10_method_55_code
def yX8_last : MethodName := ⟨RX8, "last", "(I)I"⟩
abbrev cX8_flow : ByteArray := prog_10_method_56_code
def yX8_flow : MethodName := ⟨RX8, "flow", "(I)I"⟩
abbrev cX8_wanting : ByteArray := prog_10_method_57_code
def yX8_wanting : MethodName := ⟨RX8, "wanting", "(I)I"⟩
abbrev cX8_fewer : ByteArray := prog_10_method_58_code
def yX8_fewer : MethodName := ⟨RX8, "fewer", "(I)I"⟩
abbrev cX8_often : ByteArray := prog_10_method_59_code
def yX8_often : MethodName := ⟨RX8, "often", "(II)I"⟩
abbrev cX8_sooner : ByteArray := prog_10_method_60_code
def yX8_sooner : MethodName := ⟨RX8, "sooner", "(I)I"⟩
abbrev cX8_bell : ByteArray := prog_10_method_61_code
def yX8_bell : MethodName := ⟨RX8, "bell", "(II)I"⟩
abbrev cX8_paid : ByteArray := prog_10_method_62_code
def yX8_paid : MethodName := ⟨RX8, "paid", "(I)I"⟩
abbrev cX8_lead : ByteArray := prog_10_method_63_code
def yX8_lead : MethodName := ⟨RX8, "lead", "(I)I"⟩
abbrev cX8_serves : ByteArray := prog_10_method_64_code
def yX8_serves : MethodName := ⟨RX8, "serves", "(I)I"⟩
abbrev cX8_judge : ByteArray := prog_10_method_65_code
def yX8_judge : MethodName := ⟨RX8, "judge", "(I)I"⟩
abbrev cX8_isBody : ByteArray := prog_10_method_66_code
def yX8_isBody : MethodName := ⟨RX8, "isBody", "(I)Z"⟩
abbrev cX8_ran : ByteArray := prog_10_method_67_code
def yX8_ran : MethodName := ⟨RX8, "ran", "(I)V"⟩
abbrev cX8_trace : ByteArray := prog_10_method_68_code
def yX8_trace : MethodName := ⟨RX8, "trace", "(I)I"⟩
abbrev cX8_body : ByteArray := prog_10_method_69_code
def yX8_body : MethodName := ⟨RX8, "body", "(I)I"⟩
abbrev cX8_isUnder : ByteArray := prog_10_method_70_code
def yX8_isUnder : MethodName := ⟨RX8, "isUnder", "(II)Z"⟩
abbrev cX8_plainGoes : ByteArray := prog_10_method_71_code
def yX8_plainGoes : MethodName := ⟨RX8, "plainGoes", "(II)I"⟩
abbrev cX8_bestGoes : ByteArray := prog_10_method_72_code
def yX8_bestGoes : MethodName := ⟨RX8, "bestGoes", "(II)I"⟩
abbrev cX8_goes : ByteArray := prog_10_method_73_code
def yX8_goes : MethodName := ⟨RX8, "goes", "(II)I"⟩
abbrev cX8_plainSees : ByteArray := prog_10_method_74_code
def yX8_plainSees : MethodName := ⟨RX8, "plainSees", "(II)I"⟩
abbrev cX8_followSees : ByteArray := prog_10_method_75_code
def yX8_followSees : MethodName := ⟨RX8, "followSees", "(II)I"⟩
abbrev cX8_sees : ByteArray := prog_10_method_76_code
def yX8_sees : MethodName := ⟨RX8, "sees", "(II)I"⟩
abbrev cX8_plainWaits : ByteArray := prog_10_method_77_code
def yX8_plainWaits : MethodName := ⟨RX8, "plainWaits", "(II)I"⟩
abbrev cX8_waits : ByteArray := prog_10_method_78_code
def yX8_waits : MethodName := ⟨RX8, "waits", "(II)I"⟩
abbrev cX8_plainTells : ByteArray := prog_10_method_79_code
def yX8_plainTells : MethodName := ⟨RX8, "plainTells", "(II)I"⟩
abbrev cX8_leadTells : ByteArray := prog_10_method_80_code
def yX8_leadTells : MethodName := ⟨RX8, "leadTells", "(II)I"⟩
abbrev cX8_telling : ByteArray := prog_10_method_81_code
def yX8_telling : MethodName := ⟨RX8, "telling", "(II)I"⟩
abbrev cX8_act : ByteArray := prog_10_method_82_code
def yX8_act : MethodName := ⟨RX8, "act", "(III)I"⟩
abbrev cX8_count : ByteArray := prog_10_method_83_code
def yX8_count : MethodName := ⟨RX8, "count", "(I)I"⟩
abbrev cX8_isShelf : ByteArray := prog_10_method_84_code
def yX8_isShelf : MethodName := ⟨RX8, "isShelf", "(I)Z"⟩
abbrev cX8_keep : ByteArray := prog_10_method_85_code
def yX8_keep : MethodName := ⟨RX8, "keep", "(II)I"⟩
abbrev cX8_row : ByteArray := prog_10_method_86_code
def yX8_row : MethodName := ⟨RX8, "row", "(III)I"⟩
abbrev cX8_whyNoPlace : ByteArray := prog_10_method_87_code
def yX8_whyNoPlace : MethodName := ⟨RX8, "whyNoPlace", "(II)I"⟩
abbrev cX8_put : ByteArray := prog_10_method_88_code
def yX8_put : MethodName := ⟨RX8, "put", "(IIJ)I"⟩
abbrev cX8_element : ByteArray := prog_10_method_89_code
def yX8_element : MethodName := ⟨RX8, "element", "(II)J"⟩
abbrev cX8_shift : ByteArray := prog_10_method_90_code
def yX8_shift : MethodName := ⟨RX8, "shift", "(IIIII)I"⟩
abbrev cX8_taken : ByteArray := prog_10_method_91_code
def yX8_taken : MethodName := ⟨RX8, "taken", "(II)I"⟩
def RJ11 : String := "java/lang/Character"
def TJ11 : u_T := fun k => match k with
  | _ => ("", "", "", false)
def tyJ11 : Nat → FieldType := fun k => match k with
  | _ => .int
abbrev wsJ110 : List Cond := u_ws RJ11 TJ11 0
theorem nmJ11 : ∀ a, a < 0 → ∀ b, b < 0 → a ≠ b → (TJ11 a).2.1 ≠ (TJ11 b).2.1 := by decide +kernel
theorem tyJ11_ok : ∀ k, k < 0 → parseFieldDescriptor (TJ11 k).2.2.1 = some (tyJ11 k) := by decide +kernel
abbrev cJ11_isValidCodePoint_9a6ad : ByteArray := prog_11_method_11_code
def yJ11_isValidCodePoint_9a6ad : MethodName := ⟨RJ11, "isValidCodePoint", "(I)Z"⟩
abbrev cJ11_highSurrogate_5068e : ByteArray := prog_11_method_28_code
def yJ11_highSurrogate_5068e : MethodName := ⟨RJ11, "highSurrogate", "(I)C"⟩
abbrev cJ11_lowSurrogate_5068e : ByteArray := prog_11_method_29_code
def yJ11_lowSurrogate_5068e : MethodName := ⟨RJ11, "lowSurrogate", "(I)C"⟩
def RJ9 : String := "java/lang/Math"
def TJ9 : u_T := fun k => match k with
  | _ => ("", "", "", false)
def tyJ9 : Nat → FieldType := fun k => match k with
  | _ => .int
abbrev wsJ90 : List Cond := u_ws RJ9 TJ9 0
theorem nmJ9 : ∀ a, a < 0 → ∀ b, b < 0 → a ≠ b → (TJ9 a).2.1 ≠ (TJ9 b).2.1 := by decide +kernel
theorem tyJ9_ok : ∀ k, k < 0 → parseFieldDescriptor (TJ9 k).2.2.1 = some (tyJ9 k) := by decide +kernel
abbrev cJ9_max_7cf53 : ByteArray := prog_12_method_65_code
def yJ9_max_7cf53 : MethodName := ⟨RJ9, "max", "(II)I"⟩
abbrev cJ9_min_7cf53 : ByteArray := prog_12_method_69_code
def yJ9_min_7cf53 : MethodName := ⟨RJ9, "min", "(II)I"⟩
def RJ0 : String := "java/lang/String"
def TJ0 : u_T := fun k => match k with
  | _ => ("", "", "", false)
def tyJ0 : Nat → FieldType := fun k => match k with
  | _ => .int
abbrev wsJ00 : List Cond := u_ws RJ0 TJ0 0
theorem nmJ0 : ∀ a, a < 0 → ∀ b, b < 0 → a ≠ b → (TJ0 a).2.1 ≠ (TJ0 b).2.1 := by decide +kernel
theorem tyJ0_ok : ∀ k, k < 0 → parseFieldDescriptor (TJ0 k).2.2.1 = some (tyJ0 k) := by decide +kernel
abbrev cJ0_length_8abf5 : ByteArray := prog_13_method_54_code
def yJ0_length_8abf5 : MethodName := ⟨RJ0, "length", "()I"⟩
abbrev cJ0_indexOf_0f7a4 : ByteArray := prog_13_method_79_code
def yJ0_indexOf_0f7a4 : MethodName := ⟨RJ0, "indexOf", "(I)I"⟩
abbrev cJ0_indexOf_7cf53 : ByteArray := prog_13_method_80_code
def yJ0_indexOf_7cf53 : MethodName := ⟨RJ0, "indexOf", "(II)I"⟩
abbrev cJ0_coder_7d493 : ByteArray := prog_13_method_152_code
def yJ0_coder_7d493 : MethodName := ⟨RJ0, "coder", "()B"⟩
abbrev cJ0_isLatin1_aae02 : ByteArray := prog_13_method_154_code
def yJ0_isLatin1_aae02 : MethodName := ⟨RJ0, "isLatin1", "()Z"⟩
abbrev cJ0_checkBoundsBeginEnd_23922 : ByteArray := prog_13_method_158_code
def yJ0_checkBoundsBeginEnd_23922 : MethodName := ⟨RJ0, "checkBoundsBeginEnd", "(III)V"⟩
def RJ1 : String := "java/lang/StringLatin1"
def TJ1 : u_T := fun k => match k with
  | _ => ("", "", "", false)
def tyJ1 : Nat → FieldType := fun k => match k with
  | _ => .int
abbrev wsJ10 : List Cond := u_ws RJ1 TJ1 0
theorem nmJ1 : ∀ a, a < 0 → ∀ b, b < 0 → a ≠ b → (TJ1 a).2.1 ≠ (TJ1 b).2.1 := by decide +kernel
theorem tyJ1_ok : ∀ k, k < 0 → parseFieldDescriptor (TJ1 k).2.2.1 = some (tyJ1 k) := by decide +kernel
abbrev cJ1_canEncode_9a6ad : ByteArray := prog_14_method_4_code
def yJ1_canEncode_9a6ad : MethodName := ⟨RJ1, "canEncode", "(I)Z"⟩
abbrev cJ1_indexOf_4cfef : ByteArray := prog_14_method_22_code
def yJ1_indexOf_4cfef : MethodName := ⟨RJ1, "indexOf", "([BIII)I"⟩
abbrev cJ1_indexOfChar_4cfef : ByteArray := prog_14_method_23_code
def yJ1_indexOfChar_4cfef : MethodName := ⟨RJ1, "indexOfChar", "([BIII)I"⟩
def RJ2 : String := "java/lang/StringUTF16"
def TJ2 : u_T := fun k => match k with
  | _ => ("", "", "", false)
def tyJ2 : Nat → FieldType := fun k => match k with
  | _ => .int
abbrev wsJ20 : List Cond := u_ws RJ2 TJ2 0
theorem nmJ2 : ∀ a, a < 0 → ∀ b, b < 0 → a ≠ b → (TJ2 a).2.1 ≠ (TJ2 b).2.1 := by decide +kernel
theorem tyJ2_ok : ∀ k, k < 0 → parseFieldDescriptor (TJ2 k).2.2.1 = some (tyJ2 k) := by decide +kernel
abbrev cJ2_getChar_3b067 : ByteArray := prog_15_method_5_code
def yJ2_getChar_3b067 : MethodName := ⟨RJ2, "getChar", "([BI)C"⟩
abbrev cJ2_length_9d52b : ByteArray := prog_15_method_6_code
def yJ2_length_9d52b : MethodName := ⟨RJ2, "length", "([B)I"⟩
abbrev cJ2_indexOf_4cfef : ByteArray := prog_15_method_40_code
def yJ2_indexOf_4cfef : MethodName := ⟨RJ2, "indexOf", "([BIII)I"⟩
abbrev cJ2_indexOfChar_4cfef : ByteArray := prog_15_method_47_code
def yJ2_indexOfChar_4cfef : MethodName := ⟨RJ2, "indexOfChar", "([BIII)I"⟩
abbrev cJ2_indexOfCharUnsafe_4cfef : ByteArray := prog_15_method_48_code
def yJ2_indexOfCharUnsafe_4cfef : MethodName := ⟨RJ2, "indexOfCharUnsafe", "([BIII)I"⟩
abbrev cJ2_indexOfSupplementary_4cfef : ByteArray := prog_15_method_49_code
def yJ2_indexOfSupplementary_4cfef : MethodName := ⟨RJ2, "indexOfSupplementary", "([BIII)I"⟩
abbrev cJ2_checkBoundsBeginEnd_d044e : ByteArray := prog_15_method_93_code
def yJ2_checkBoundsBeginEnd_d044e : MethodName := ⟨RJ2, "checkBoundsBeginEnd", "(II[B)V"⟩
def RJ10 : String := "java/lang/System"
def TJ10 : u_T := fun k => match k with
  | _ => ("", "", "", false)
def tyJ10 : Nat → FieldType := fun k => match k with
  | _ => .int
abbrev wsJ100 : List Cond := u_ws RJ10 TJ10 0
theorem nmJ10 : ∀ a, a < 0 → ∀ b, b < 0 → a ≠ b → (TJ10 a).2.1 ≠ (TJ10 b).2.1 := by decide +kernel
theorem tyJ10_ok : ∀ k, k < 0 → parseFieldDescriptor (TJ10 k).2.2.1 = some (tyJ10 k) := by decide +kernel
def RJ3 : String := "jdk/internal/util/Preconditions"
def TJ3 : u_T := fun k => match k with
  | _ => ("", "", "", false)
def tyJ3 : Nat → FieldType := fun k => match k with
  | _ => .int
abbrev wsJ30 : List Cond := u_ws RJ3 TJ3 0
theorem nmJ3 : ∀ a, a < 0 → ∀ b, b < 0 → a ≠ b → (TJ3 a).2.1 ≠ (TJ3 b).2.1 := by decide +kernel
theorem tyJ3_ok : ∀ k, k < 0 → parseFieldDescriptor (TJ3 k).2.2.1 = some (tyJ3 k) := by decide +kernel
abbrev cJ3_checkFromToIndex_8c36e : ByteArray := prog_17_method_12_code
def yJ3_checkFromToIndex_8c36e : MethodName := ⟨RJ3, "checkFromToIndex", "(IIILjava/util/function/BiFunction;)I"⟩
def RL : String := "FullerSquareLaw"
abbrev cL_law : ByteArray := code
def yL_law : MethodName := ⟨RL, "law", "([I)Z"⟩
def wsL_law_r1 : List Cond := [Cond.classLink RL 7 RX7, Cond.instantiable RX7 8, Cond.initialized RX7, Cond.classLink RL 10 RX8, Cond.instantiable RX8 74, Cond.initialized RX8, Cond.constantLong RL 133 (4294967295), Cond.methodLink RL 9 yX7_init, Cond.instanceMethod yX7_init, Cond.code yX7_init cX7_init 2 none, Cond.methodLink RX7 3 objectInit, Cond.instanceMethod objectInit, Cond.code objectInit ⟨#[0xb1]⟩ 1 none, Cond.classLink RX7 9 RX5, Cond.instantiable RX5 19, Cond.initialized RX5, Cond.fieldLink RX7 12 "FullerSquare" "town" "LFullerSquare$Town;", Cond.classLink RX7 16 RX2, Cond.instantiable RX2 8, Cond.initialized RX2, Cond.fieldLink RX7 19 "FullerSquare" "laws" "LFullerSquare$Laws;", Cond.classLink RX7 23 RX3, Cond.instantiable RX3 20, Cond.initialized RX3]
def wsL_law_r2 : List Cond := [Cond.fieldLink RX7 28 "FullerSquare" "kept" "LFullerSquare$Noon;", Cond.fieldLink RX7 32 "FullerSquare" "thought" "LFullerSquare$Noon;", Cond.classLink RX7 35 RX1, Cond.instantiable RX1 6, Cond.initialized RX1, Cond.fieldLink RX7 38 "FullerSquare" "changes" "LFullerSquare$Changes;", Cond.classLink RX7 42 RX0, Cond.instantiable RX0 6, Cond.initialized RX0, Cond.fieldLink RX7 45 "FullerSquare" "acts" "LFullerSquare$Acts;", Cond.classLink RX7 49 RX4, Cond.fieldLink RX7 51 "FullerSquare" "shelves" "[LFullerSquare$Shelf;", Cond.fieldLink RX7 55 "FullerSquare" "ran" "Z", Cond.instantiable RX4 4, Cond.initialized RX4, Cond.methodLink RX7 11 yX5_init, Cond.instanceMethod yX5_init, Cond.code yX5_init cX5_init 2 none, Cond.methodLink RX5 3 objectInit, Cond.fieldLink RX5 9 "FullerSquare$Town" "squares" "I", Cond.fieldLink RX5 15 "FullerSquare$Town" "ways" "I", Cond.fieldLink RX5 18 "FullerSquare$Town" "sorts" "I", Cond.fieldLink RX5 21 "FullerSquare$Town" "stroke" "I", Cond.fieldLink RX5 24 "FullerSquare$Town" "lag" "I"]
def wsL_law_r3 : List Cond := [Cond.fieldLink RX5 27 "FullerSquare$Town" "early" "I", Cond.arrayClass .int, Cond.fieldLink RX5 30 "FullerSquare$Town" "holds" "[I", Cond.fieldLink RX5 34 "FullerSquare$Town" "what" "[I", Cond.fieldLink RX5 37 "FullerSquare$Town" "one" "[I", Cond.fieldLink RX5 40 "FullerSquare$Town" "other" "[I", Cond.fieldLink RX5 43 "FullerSquare$Town" "minutes" "[I", Cond.fieldLink RX5 46 "FullerSquare$Town" "most" "[I", Cond.fieldLink RX5 49 "FullerSquare$Town" "many" "[I", Cond.fieldLink RX5 52 "FullerSquare$Town" "want" "[I", Cond.fieldLink RX5 55 "FullerSquare$Town" "home" "[I", Cond.fieldLink RX5 58 "FullerSquare$Town" "pace" "[I", Cond.fieldLink RX5 61 "FullerSquare$Town" "law" "[I", Cond.fieldLink RX5 64 "FullerSquare$Town" "direct" "[I", Cond.fieldLink RX5 67 "FullerSquare$Town" "fewest" "[I", Cond.constant RX5 70 (1000000), Cond.instanceMethod yX2_init, Cond.code yX2_init cX2_init 1 none, Cond.methodLink RX2 5 objectInit, Cond.fieldLink RX2 11 "FullerSquare$Laws" "tape" "[I", Cond.classLink RX2 15 "[[I", Cond.fieldLink RX2 17 "FullerSquare$Laws" "codes" "[[I", Cond.fieldLink RX2 20 "FullerSquare$Laws" "sizes" "[I", Cond.fieldLink RX2 23 "FullerSquare$Laws" "stack" "[I"]
def wsL_law_r4 : List Cond := [Cond.fieldLink RX2 26 "FullerSquare$Laws" "at" "I", Cond.fieldLink RX2 30 "FullerSquare$Laws" "top" "I", Cond.fieldLink RX2 33 "FullerSquare$Laws" "fed" "I", Cond.fieldLink RX2 36 "FullerSquare$Laws" "many" "I", Cond.methodLink RX7 25 yX3_init, Cond.instanceMethod yX3_init, Cond.code yX3_init cX3_init 3 none, Cond.methodLink RX3 3 objectInit, Cond.classLink RX3 9 RX6, Cond.instantiable RX6 9, Cond.initialized RX6, Cond.fieldLink RX3 12 "FullerSquare$Noon" "wish" "LFullerSquare$Wish;", Cond.fieldLink RX3 18 "FullerSquare$Noon" "there" "[I", Cond.fieldLink RX3 22 "FullerSquare$Noon" "outside" "[I", Cond.fieldLink RX3 25 "FullerSquare$Noon" "least" "[I", Cond.fieldLink RX3 28 "FullerSquare$Noon" "all" "[I", Cond.fieldLink RX3 31 "FullerSquare$Noon" "due" "[I", Cond.fieldLink RX3 34 "FullerSquare$Noon" "ended" "[I", Cond.fieldLink RX3 37 "FullerSquare$Noon" "began" "[I", Cond.fieldLink RX3 40 "FullerSquare$Noon" "free" "[I", Cond.fieldLink RX3 43 "FullerSquare$Noon" "seen" "[I", Cond.fieldLink RX3 46 "FullerSquare$Noon" "seenMinute" "I", Cond.fieldLink RX3 50 "FullerSquare$Noon" "squares" "I", Cond.fieldLink RX3 53 "FullerSquare$Noon" "sorts" "I"]
def wsL_law_r5 : List Cond := [Cond.fieldLink RX3 56 "FullerSquare$Noon" "counts" "[I", Cond.fieldLink RX3 59 "FullerSquare$Noon" "fullest" "I", Cond.fieldLink RX3 62 "FullerSquare$Noon" "done" "I", Cond.fieldLink RX3 65 "FullerSquare$Noon" "by" "I", Cond.fieldLink RX3 68 "FullerSquare$Noon" "away" "I", Cond.fieldLink RX3 71 "FullerSquare$Noon" "town" "LFullerSquare$Town;", Cond.fieldLink RX3 75 "FullerSquare$Noon" "laws" "LFullerSquare$Laws;", Cond.instanceMethod yX6_init, Cond.code yX6_init cX6_init 1 none, Cond.methodLink RX6 3 objectInit, Cond.fieldLink RX6 9 "FullerSquare$Wish" "stroke" "I", Cond.fieldLink RX6 15 "FullerSquare$Wish" "lag" "I", Cond.fieldLink RX6 18 "FullerSquare$Wish" "standAt" "I", Cond.fieldLink RX6 21 "FullerSquare$Wish" "standers" "I", Cond.fieldLink RX6 24 "FullerSquare$Wish" "ledSort" "I", Cond.fieldLink RX6 27 "FullerSquare$Wish" "ledTo" "I", Cond.fieldLink RX6 30 "FullerSquare$Wish" "ledFrom" "I", Cond.fieldLink RX6 33 "FullerSquare$Wish" "home" "[I", Cond.fieldLink RX6 37 "FullerSquare$Wish" "law" "[I", Cond.instanceMethod yX1_init, Cond.code yX1_init cX1_init 1 none, Cond.methodLink RX1 3 objectInit, Cond.fieldLink RX1 11 "FullerSquare$Changes" "numbers" "[I", Cond.fieldLink RX1 15 "FullerSquare$Changes" "whats" "[I"]
def wsL_law_r6 : List Cond := [Cond.fieldLink RX1 18 "FullerSquare$Changes" "olds" "[I", Cond.fieldLink RX1 21 "FullerSquare$Changes" "news" "[I", Cond.fieldLink RX1 24 "FullerSquare$Changes" "known" "I", Cond.fieldLink RX1 28 "FullerSquare$Changes" "done" "I", Cond.instanceMethod yX0_init, Cond.code yX0_init cX0_init 1 none, Cond.methodLink RX0 3 objectInit, Cond.fieldLink RX0 9 "FullerSquare$Acts" "kinds" "[I", Cond.fieldLink RX0 15 "FullerSquare$Acts" "bodies" "[I", Cond.fieldLink RX0 18 "FullerSquare$Acts" "many" "I", Cond.fieldLink RX0 22 "FullerSquare$Acts" "begun" "I", Cond.fieldLink RX0 25 "FullerSquare$Acts" "kind" "I", Cond.fieldLink RX0 28 "FullerSquare$Acts" "number" "I", Cond.instanceMethod yX4_init, Cond.code yX4_init cX4_init 1 none, Cond.methodLink RX4 3 objectInit, Cond.fieldLink RX4 9 "FullerSquare$Shelf" "body" "I", Cond.fieldLink RX4 15 "FullerSquare$Shelf" "sort" "I", Cond.fieldLink RX4 18 "FullerSquare$Shelf" "size" "I", Cond.arrayClass .long, Cond.fieldLink RX4 21 "FullerSquare$Shelf" "elements" "[J", Cond.methodLink RL 12 yX8_init, Cond.instanceMethod yX8_init, Cond.code yX8_init cX8_init 1 none]
def wsL_law_r7 : List Cond := [Cond.methodLink RX8 1 objectInit, Cond.fieldLink RX8 7 "FullerSquareModel" "holdsAt" "[I", Cond.fieldLink RX8 13 "FullerSquareModel" "isFor" "[I", Cond.fieldLink RX8 16 "FullerSquareModel" "wayA" "[I", Cond.fieldLink RX8 19 "FullerSquareModel" "wayB" "[I", Cond.fieldLink RX8 22 "FullerSquareModel" "minutes" "[I", Cond.fieldLink RX8 25 "FullerSquareModel" "most" "[I", Cond.fieldLink RX8 28 "FullerSquareModel" "many" "[I", Cond.fieldLink RX8 31 "FullerSquareModel" "want" "[I", Cond.fieldLink RX8 34 "FullerSquareModel" "begins" "[I", Cond.fieldLink RX8 37 "FullerSquareModel" "pace" "[I", Cond.fieldLink RX8 40 "FullerSquareModel" "lawOf" "[I", Cond.fieldLink RX8 43 "FullerSquareModel" "stroke" "I", Cond.arrayClass .byte, Cond.fieldLink RX8 47 "FullerSquareModel" "tape" "[B", Cond.fieldLink RX8 51 "FullerSquareModel" "act" "[B", Cond.fieldLink RX8 54 "FullerSquareModel" "with" "[I", Cond.fieldLink RX8 57 "FullerSquareModel" "lineMany" "[I", Cond.arrayClass .short, Cond.fieldLink RX8 60 "FullerSquareModel" "testEnd" "[S", Cond.fieldLink RX8 64 "FullerSquareModel" "lineEnd" "[S", Cond.fieldLink RX8 67 "FullerSquareModel" "facts" "[I", Cond.fieldLink RX8 70 "FullerSquareModel" "pile" "[I", Cond.fieldLink RX8 73 "FullerSquareModel" "changeOf" "[I"]
def wsL_law_r8 : List Cond := [Cond.fieldLink RX8 76 "FullerSquareModel" "changeAt" "[I", Cond.fieldLink RX8 79 "FullerSquareModel" "before" "[I", Cond.fieldLink RX8 82 "FullerSquareModel" "behind" "[I", Cond.fieldLink RX8 85 "FullerSquareModel" "there" "[I", Cond.fieldLink RX8 88 "FullerSquareModel" "outside" "[I", Cond.fieldLink RX8 91 "FullerSquareModel" "coming" "[I", Cond.fieldLink RX8 94 "FullerSquareModel" "ended" "[I", Cond.fieldLink RX8 97 "FullerSquareModel" "began" "[I", Cond.fieldLink RX8 100 "FullerSquareModel" "setOut" "[I", Cond.fieldLink RX8 103 "FullerSquareModel" "counted" "[I", Cond.fieldLink RX8 106 "FullerSquareModel" "led" "I", Cond.fieldLink RX8 109 "FullerSquareModel" "served" "I", Cond.fieldLink RX8 112 "FullerSquareModel" "keptStroke" "I", Cond.fieldLink RX8 115 "FullerSquareModel" "keptEnded" "[I", Cond.fieldLink RX8 118 "FullerSquareModel" "keptCounted" "[I", Cond.fieldLink RX8 121 "FullerSquareModel" "far" "[I", Cond.fieldLink RX8 124 "FullerSquareModel" "beganAt" "[I", Cond.fieldLink RX8 127 "FullerSquareModel" "kind" "[I", Cond.fieldLink RX8 130 "FullerSquareModel" "traced" "[I", Cond.fieldLink RX8 133 "FullerSquareModel" "holds" "[I", Cond.fieldLink RX8 136 "FullerSquareModel" "size" "[I", Cond.fieldLink RX8 139 "FullerSquareModel" "elements" "[J", Cond.fieldLink RX8 143 "FullerSquareModel" "shifted" "[J", Cond.methodLink RL 13 yX7_square]
def wsL_law_r9 : List Cond := [Cond.instanceMethod yX7_square, Cond.selects RX7 yX7_square yX7_square, Cond.code yX7_square cX7_square 3 (some .int), Cond.methodLink RX7 60 yX7_within, Cond.static yX7_within, Cond.code yX7_within cX7_within 3 (some .boolean), Cond.methodLink RX7 64 yX5_addSquare, Cond.instanceMethod yX5_addSquare, Cond.selects RX5 yX5_addSquare yX5_addSquare, Cond.code yX5_addSquare cX5_addSquare 3 (some .int), Cond.methodLink RL 17 yX8_square, Cond.instanceMethod yX8_square, Cond.selects RX8 yX8_square yX8_square, Cond.code yX8_square cX8_square 3 (some .int), Cond.fieldLink RX8 149 "FullerSquareModel" "squares" "I", Cond.methodLink RX8 152 yX8_in, Cond.static yX8_in, Cond.code yX8_in cX8_in 3 (some .boolean), Cond.methodLink RL 18 yX7_way, Cond.instanceMethod yX7_way, Cond.selects RX7 yX7_way yX7_way, Cond.code yX7_way cX7_way 4 (some .int), Cond.methodLink RX7 68 yX5_areTwoSquares, Cond.instanceMethod yX5_areTwoSquares]
def wsL_law_r10 : List Cond := [Cond.selects RX5 yX5_areTwoSquares yX5_areTwoSquares, Cond.code yX5_areTwoSquares cX5_areTwoSquares 2 (some .boolean), Cond.methodLink RX5 71 yX5_isSquare, Cond.instanceMethod yX5_isSquare, Cond.selects RX5 yX5_isSquare yX5_isSquare, Cond.code yX5_isSquare cX5_isSquare 2 (some .boolean), Cond.methodLink RX7 72 yX5_addWay, Cond.instanceMethod yX5_addWay, Cond.selects RX5 yX5_addWay yX5_addWay, Cond.code yX5_addWay cX5_addWay 5 (some .int), Cond.methodLink RX5 75 yX5_lay, Cond.instanceMethod yX5_lay, Cond.selects RX5 yX5_lay yX5_lay, Cond.code yX5_lay cX5_lay 4 none, Cond.methodLink RX5 82 Lib.Math.min.name, Cond.static Lib.Math.min.name, Cond.initialized "java/lang/Math", Cond.code Lib.Math.min.name Lib.Math.min.code 2 (some .int), Cond.methodLink RX5 79 yX5_shorten, Cond.instanceMethod yX5_shorten, Cond.selects RX5 yX5_shorten yX5_shorten, Cond.code yX5_shorten cX5_shorten 4 none, Cond.methodLink RL 22 yX8_way, Cond.instanceMethod yX8_way]
def wsL_law_r11 : List Cond := [Cond.selects RX8 yX8_way yX8_way, Cond.code yX8_way cX8_way 4 (some .int), Cond.fieldLink RX8 163 "FullerSquareModel" "ways" "I", Cond.methodLink RX8 159 yX8_isSquare, Cond.instanceMethod yX8_isSquare, Cond.selects RX8 yX8_isSquare yX8_isSquare, Cond.code yX8_isSquare cX8_isSquare 2 (some .boolean), Cond.methodLink RL 23 yX7_sort, Cond.instanceMethod yX7_sort, Cond.selects RX7 yX7_sort yX7_sort, Cond.code yX7_sort cX7_sort 4 (some .int), Cond.methodLink RX7 76 yX5_addSort, Cond.instanceMethod yX5_addSort, Cond.selects RX5 yX5_addSort yX5_addSort, Cond.code yX5_addSort cX5_addSort 4 (some .int), Cond.methodLink RL 26 yX8_sort, Cond.instanceMethod yX8_sort, Cond.selects RX8 yX8_sort yX8_sort, Cond.code yX8_sort cX8_sort 4 (some .int), Cond.fieldLink RX8 156 "FullerSquareModel" "sorts" "I", Cond.methodLink RX8 166 yX8_isSortSo, Cond.instanceMethod yX8_isSortSo, Cond.selects RX8 yX8_isSortSo yX8_isSortSo, Cond.code yX8_isSortSo cX8_isSortSo 4 (some .boolean)]
def wsL_law_r12 : List Cond := [Cond.methodLink RX8 169 yX8_addSort, Cond.instanceMethod yX8_addSort, Cond.selects RX8 yX8_addSort yX8_addSort, Cond.code yX8_addSort cX8_addSort 4 (some .int), Cond.methodLink RL 27 yX7_sorts, Cond.instanceMethod yX7_sorts, Cond.selects RX7 yX7_sorts yX7_sorts, Cond.code yX7_sorts cX7_sorts 5 (some .int), Cond.methodLink RX7 80 yX7_isShelf, Cond.static yX7_isShelf, Cond.code yX7_isShelf cX7_isShelf 1 (some .boolean), Cond.methodLink RX7 83 yX4_refusal, Cond.instanceMethod yX4_refusal, Cond.selects RX4 yX4_refusal yX4_refusal, Cond.code yX4_refusal cX4_refusal 2 (some .int), Cond.methodLink RX4 29 yX4_isEmpty, Cond.instanceMethod yX4_isEmpty, Cond.selects RX4 yX4_isEmpty yX4_isEmpty, Cond.code yX4_isEmpty cX4_isEmpty 1 (some .boolean), Cond.methodLink RX4 25 yX4_isRow, Cond.instanceMethod yX4_isRow, Cond.selects RX4 yX4_isRow yX4_isRow, Cond.code yX4_isRow cX4_isRow 1 (some .boolean), Cond.methodLink RX7 87 yX7_sortsFrom]
def wsL_law_r13 : List Cond := [Cond.instanceMethod yX7_sortsFrom, Cond.selects RX7 yX7_sortsFrom yX7_sortsFrom, Cond.code yX7_sortsFrom cX7_sortsFrom 8 (some .int), Cond.constantLong RX7 91 (3), Cond.fieldLink RX7 93 "FullerSquare$Shelf" "size" "I", Cond.methodLink RX7 97 yX4_at, Cond.instanceMethod yX4_at, Cond.selects RX4 yX4_at yX4_at, Cond.code yX4_at cX4_at 2 (some .long), Cond.methodLink RX4 32 yX4_hasPlaces, Cond.instanceMethod yX4_hasPlaces, Cond.selects RX4 yX4_hasPlaces yX4_hasPlaces, Cond.code yX4_hasPlaces cX4_hasPlaces 3 (some .boolean), Cond.methodLink RL 30 yX8_sorts, Cond.instanceMethod yX8_sorts, Cond.selects RX8 yX8_sorts yX8_sorts, Cond.code yX8_sorts cX8_sorts 8 (some .int), Cond.constantLong RX8 176 (2), Cond.methodLink RX8 173 yX8_isShelf, Cond.static yX8_isShelf, Cond.code yX8_isShelf cX8_isShelf 1 (some .boolean), Cond.methodLink RL 31 yX7_feed, Cond.instanceMethod yX7_feed, Cond.selects RX7 yX7_feed yX7_feed]
def wsL_law_r14 : List Cond := [Cond.code yX7_feed cX7_feed 2 (some .int), Cond.methodLink RX7 101 yX2_take, Cond.instanceMethod yX2_take, Cond.selects RX2 yX2_take yX2_take, Cond.code yX2_take cX2_take 2 (some .int), Cond.methodLink RL 35 yX8_feed, Cond.instanceMethod yX8_feed, Cond.selects RX8 yX8_feed yX8_feed, Cond.code yX8_feed cX8_feed 2 (some .int), Cond.fieldLink RX8 178 "FullerSquareModel" "taped" "I", Cond.methodLink RL 36 yX7_law, Cond.instanceMethod yX7_law, Cond.selects RX7 yX7_law yX7_law, Cond.code yX7_law cX7_law 1 (some .int), Cond.methodLink RX7 104 yX2_becomes, Cond.instanceMethod yX2_becomes, Cond.selects RX2 yX2_becomes yX2_becomes, Cond.code yX2_becomes cX2_becomes 2 (some .int), Cond.methodLink RX2 39 yX2_readLines, Cond.instanceMethod yX2_readLines, Cond.selects RX2 yX2_readLines yX2_readLines, Cond.code yX2_readLines cX2_readLines 2 (some .boolean), Cond.methodLink RX2 43 yX2_readLine, Cond.instanceMethod yX2_readLine]
def wsL_law_r15 : List Cond := [Cond.selects RX2 yX2_readLine yX2_readLine, Cond.code yX2_readLine cX2_readLine 1 (some .boolean), Cond.methodLink RX2 50 yX2_readPart, Cond.instanceMethod yX2_readPart, Cond.selects RX2 yX2_readPart yX2_readPart, Cond.code yX2_readPart cX2_readPart 6 (some .boolean), Cond.methodLink RX2 58 yX2_readOperand, Cond.instanceMethod yX2_readOperand, Cond.selects RX2 yX2_readOperand yX2_readOperand, Cond.methodLink RX2 46 yX2_next, Cond.instanceMethod yX2_next, Cond.selects RX2 yX2_next yX2_next, Cond.code yX2_next cX2_next 1 (some .int), Cond.methodLink RX2 62 yX2_levelOf, Cond.static yX2_levelOf, Cond.code yX2_levelOf cX2_levelOf 1 (some .int), Cond.methodLink RX2 54 yX2_write, Cond.instanceMethod yX2_write, Cond.selects RX2 yX2_write yX2_write, Cond.code yX2_write cX2_write 2 none, Cond.code yX2_readOpened cX2_readOpened 3 (some .boolean), Cond.code yX2_readOperand cX2_readOperand 4 (some .boolean), Cond.methodLink RX2 66 yX2_isDigit, Cond.static yX2_isDigit]
def wsL_law_r16 : List Cond := [Cond.code yX2_isDigit cX2_isDigit 1 (some .boolean), Cond.methodLink RX2 69 yX2_readNumber, Cond.instanceMethod yX2_readNumber, Cond.selects RX2 yX2_readNumber yX2_readNumber, Cond.code yX2_readNumber cX2_readNumber 3 none, Cond.methodLink RX2 74 yJ0_indexOf_0f7a4, Cond.instanceMethod yJ0_indexOf_0f7a4, Cond.selects RJ0 yJ0_indexOf_0f7a4 yJ0_indexOf_0f7a4, Cond.initialized RJ0, Cond.code yJ0_indexOf_0f7a4 cJ0_indexOf_0f7a4 2 (some .int), Cond.methodLink RJ0 633 yJ0_indexOf_7cf53, Cond.instanceMethod yJ0_indexOf_7cf53, Cond.selects RJ0 yJ0_indexOf_7cf53 yJ0_indexOf_7cf53, Cond.code yJ0_indexOf_7cf53 cJ0_indexOf_7cf53 3 (some .int), Cond.fieldLink RJ0 9 "java/lang/String" "value" "[B", Cond.methodLink RJ0 492 yJ0_isLatin1_aae02, Cond.instanceMethod yJ0_isLatin1_aae02, Cond.selects RJ0 yJ0_isLatin1_aae02 yJ0_isLatin1_aae02, Cond.code yJ0_isLatin1_aae02 cJ0_isLatin1_aae02 1 (some .boolean), Cond.fieldLink RJ0 38 "java/lang/String" "COMPACT_STRINGS" "Z", Cond.fieldLink RJ0 15 "java/lang/String" "coder" "B", Cond.methodLink RJ0 505 yJ0_length_8abf5, Cond.instanceMethod yJ0_length_8abf5, Cond.selects RJ0 yJ0_length_8abf5 yJ0_length_8abf5]
def wsL_law_r17 : List Cond := [Cond.code yJ0_length_8abf5 cJ0_length_8abf5 1 (some .int), Cond.methodLink RJ0 335 yJ0_coder_7d493, Cond.instanceMethod yJ0_coder_7d493, Cond.selects RJ0 yJ0_coder_7d493 yJ0_coder_7d493, Cond.code yJ0_coder_7d493 cJ0_coder_7d493 1 (some .byte), Cond.methodLink RJ0 637 yJ1_indexOf_4cfef, Cond.static yJ1_indexOf_4cfef, Cond.initialized RJ1, Cond.code yJ1_indexOf_4cfef cJ1_indexOf_4cfef 4 (some .int), Cond.methodLink RJ1 92 Lib.Math.max.name, Cond.static Lib.Math.max.name, Cond.code Lib.Math.max.name Lib.Math.max.code 2 (some .int), Cond.methodLink RJ1 38 Lib.Math.min.name, Cond.methodLink RJ1 88 yJ1_canEncode_9a6ad, Cond.static yJ1_canEncode_9a6ad, Cond.code yJ1_canEncode_9a6ad cJ1_canEncode_9a6ad 1 (some .boolean), Cond.methodLink RJ1 95 yJ1_indexOfChar_4cfef, Cond.static yJ1_indexOfChar_4cfef, Cond.code yJ1_indexOfChar_4cfef cJ1_indexOfChar_4cfef 6 (some .int), Cond.methodLink RJ0 640 yJ2_indexOf_4cfef, Cond.static yJ2_indexOf_4cfef, Cond.initialized RJ2, Cond.code yJ2_indexOf_4cfef cJ2_indexOf_4cfef 4 (some .int), Cond.methodLink RJ2 224 Lib.Math.max.name]
def wsL_law_r18 : List Cond := [Cond.methodLink RJ2 183 Lib.Math.min.name, Cond.constant RJ2 227 (65536), Cond.methodLink RJ2 228 yJ2_indexOfChar_4cfef, Cond.static yJ2_indexOfChar_4cfef, Cond.code yJ2_indexOfChar_4cfef cJ2_indexOfChar_4cfef 4 (some .int), Cond.methodLink RJ2 96 yJ2_checkBoundsBeginEnd_d044e, Cond.static yJ2_checkBoundsBeginEnd_d044e, Cond.code yJ2_checkBoundsBeginEnd_d044e cJ2_checkBoundsBeginEnd_d044e 3 none, Cond.methodLink RJ2 48 yJ2_length_9d52b, Cond.static yJ2_length_9d52b, Cond.code yJ2_length_9d52b cJ2_length_9d52b 1 (some .int), Cond.methodLink RJ2 241 yJ0_checkBoundsBeginEnd_23922, Cond.static yJ0_checkBoundsBeginEnd_23922, Cond.code yJ0_checkBoundsBeginEnd_23922 cJ0_checkBoundsBeginEnd_23922 3 none, Cond.fieldLink RJ0 1053 "jdk/internal/util/Preconditions" "SIOOBE_FORMATTER" "Ljava/util/function/BiFunction;", Cond.methodLink RJ0 1062 yJ3_checkFromToIndex_8c36e, Cond.static yJ3_checkFromToIndex_8c36e, Cond.initialized RJ3, Cond.code yJ3_checkFromToIndex_8c36e cJ3_checkFromToIndex_8c36e 4 (some .int), Cond.methodLink RJ2 244 yJ2_indexOfCharUnsafe_4cfef, Cond.static yJ2_indexOfCharUnsafe_4cfef, Cond.code yJ2_indexOfCharUnsafe_4cfef cJ2_indexOfCharUnsafe_4cfef 5 (some .int), Cond.methodLink RJ2 71 yJ2_getChar_3b067, Cond.static yJ2_getChar_3b067]
def wsL_law_r19 : List Cond := [Cond.code yJ2_getChar_3b067 cJ2_getChar_3b067 2 (some .char), Cond.fieldLink RJ2 44 "java/lang/StringUTF16" "$assertionsDisabled" "Z", Cond.fieldLink RJ2 59 "java/lang/StringUTF16" "HI_BYTE_SHIFT" "I", Cond.fieldLink RJ2 63 "java/lang/StringUTF16" "LO_BYTE_SHIFT" "I", Cond.methodLink RJ2 232 yJ2_indexOfSupplementary_4cfef, Cond.static yJ2_indexOfSupplementary_4cfef, Cond.code yJ2_indexOfSupplementary_4cfef cJ2_indexOfSupplementary_4cfef 7 (some .int), Cond.methodLink RJ2 164 yJ11_isValidCodePoint_9a6ad, Cond.static yJ11_isValidCodePoint_9a6ad, Cond.initialized RJ11, Cond.code yJ11_isValidCodePoint_9a6ad cJ11_isValidCodePoint_9a6ad 2 (some .boolean), Cond.methodLink RJ2 157 yJ11_highSurrogate_5068e, Cond.static yJ11_highSurrogate_5068e, Cond.code yJ11_highSurrogate_5068e cJ11_highSurrogate_5068e 1 (some .char), Cond.constant RJ11 110 (55232), Cond.methodLink RJ2 161 yJ11_lowSurrogate_5068e, Cond.static yJ11_lowSurrogate_5068e, Cond.code yJ11_lowSurrogate_5068e cJ11_lowSurrogate_5068e 1 (some .char), Cond.constant RJ11 76 (56320), Cond.methodLink RX2 79 yX2_readOpened, Cond.instanceMethod yX2_readOpened, Cond.selects RX2 yX2_readOpened yX2_readOpened, Cond.methodLink RL 40 yX8_law, Cond.instanceMethod yX8_law]
def wsL_law_r20 : List Cond := [Cond.selects RX8 yX8_law yX8_law, Cond.code yX8_law cX8_law 2 (some .int), Cond.fieldLink RX8 242 "FullerSquareModel" "laws" "I", Cond.methodLink RX8 245 yX8_readText, Cond.instanceMethod yX8_readText, Cond.selects RX8 yX8_readText yX8_readText, Cond.code yX8_readText cX8_readText 3 (some .int), Cond.fieldLink RX8 181 "FullerSquareModel" "here" "I", Cond.fieldLink RX8 184 "FullerSquareModel" "fault" "I", Cond.fieldLink RX8 190 "FullerSquareModel" "open" "I", Cond.fieldLink RX8 187 "FullerSquareModel" "laid" "I", Cond.methodLink RX8 233 yX8_line, Cond.instanceMethod yX8_line, Cond.selects RX8 yX8_line yX8_line, Cond.code yX8_line cX8_line 2 none, Cond.methodLink RX8 215 yX8_either, Cond.instanceMethod yX8_either, Cond.selects RX8 yX8_either yX8_either, Cond.code yX8_either cX8_either 1 none, Cond.methodLink RX8 230 yX8_both, Cond.instanceMethod yX8_both, Cond.selects RX8 yX8_both yX8_both, Cond.methodLink RX8 196 yX8_look, Cond.instanceMethod yX8_look]
def wsL_law_r21 : List Cond := [Cond.selects RX8 yX8_look yX8_look, Cond.code yX8_look cX8_look 1 (some .int), Cond.methodLink RX8 200 yX8_addStep, Cond.instanceMethod yX8_addStep, Cond.selects RX8 yX8_addStep yX8_addStep, Cond.code yX8_addStep cX8_addStep 3 none, Cond.code yX8_both cX8_both 1 none, Cond.methodLink RX8 227 yX8_compared, Cond.instanceMethod yX8_compared, Cond.selects RX8 yX8_compared yX8_compared, Cond.code yX8_compared cX8_compared 2 none, Cond.methodLink RX8 224 yX8_sum, Cond.instanceMethod yX8_sum, Cond.selects RX8 yX8_sum yX8_sum, Cond.code yX8_operand cX8_operand 2 none, Cond.methodLink RX8 204 yX8_nameOf, Cond.static yX8_nameOf, Cond.code yX8_nameOf cX8_nameOf 1 (some .int), Cond.methodLink RX8 208 yX8_opens, Cond.instanceMethod yX8_opens, Cond.selects RX8 yX8_opens yX8_opens, Cond.code yX8_opens cX8_opens 1 (some .boolean), Cond.methodLink RX8 193 yX8_wrong, Cond.instanceMethod yX8_wrong]
def wsL_law_r22 : List Cond := [Cond.selects RX8 yX8_wrong yX8_wrong, Cond.code yX8_wrong cX8_wrong 1 none, Cond.methodLink RX8 212 yX8_operand, Cond.instanceMethod yX8_operand, Cond.selects RX8 yX8_operand yX8_operand, Cond.methodLink RX8 218 yX8_figure, Cond.instanceMethod yX8_figure, Cond.selects RX8 yX8_figure yX8_figure, Cond.code yX8_figure cX8_figure 3 none, Cond.code yX8_product cX8_product 2 none, Cond.code yX8_sum cX8_sum 2 none, Cond.methodLink RX8 221 yX8_product, Cond.instanceMethod yX8_product, Cond.selects RX8 yX8_product yX8_product, Cond.methodLink RL 41 yX7_set, Cond.instanceMethod yX7_set, Cond.selects RX7 yX7_set yX7_set, Cond.code yX7_set cX7_set 4 (some .int), Cond.fieldLink RX7 108 "FullerSquare$Town" "stroke" "I", Cond.fieldLink RX7 111 "FullerSquare$Town" "lag" "I", Cond.fieldLink RX7 114 "FullerSquare$Town" "early" "I", Cond.methodLink RL 44 yX8_set, Cond.instanceMethod yX8_set, Cond.selects RX8 yX8_set yX8_set]
def wsL_law_r23 : List Cond := [Cond.code yX8_set cX8_set 4 (some .int), Cond.fieldLink RX8 248 "FullerSquareModel" "lag" "I", Cond.fieldLink RX8 251 "FullerSquareModel" "early" "I", Cond.methodLink RL 45 yX7_mend, Cond.instanceMethod yX7_mend, Cond.selects RX7 yX7_mend yX7_mend, Cond.code yX7_mend cX7_mend 7 (some .int), Cond.methodLink RX7 117 yX5_isSort, Cond.instanceMethod yX5_isSort, Cond.selects RX5 yX5_isSort yX5_isSort, Cond.code yX5_isSort cX5_isSort 2 (some .boolean), Cond.methodLink RX7 120 yX5_isSquare, Cond.methodLink RX7 123 yX5_mended, Cond.instanceMethod yX5_mended, Cond.selects RX5 yX5_mended yX5_mended, Cond.code yX5_mended cX5_mended 6 (some .int), Cond.methodLink RX7 126 yX1_add, Cond.instanceMethod yX1_add, Cond.selects RX1 yX1_add yX1_add, Cond.code yX1_add cX1_add 5 none, Cond.methodLink RX1 31 yX1_forgetFirst, Cond.instanceMethod yX1_forgetFirst, Cond.selects RX1 yX1_forgetFirst yX1_forgetFirst, Cond.code yX1_forgetFirst cX1_forgetFirst 1 none]
def wsL_law_r24 : List Cond := [Cond.methodLink RX1 34 arraycopyName, Cond.native arraycopyName, Cond.static arraycopyName, Cond.initialized "java/lang/System", Cond.methodLink RL 48 yX8_mend, Cond.instanceMethod yX8_mend, Cond.selects RX8 yX8_mend yX8_mend, Cond.code yX8_mend cX8_mend 4 (some .int), Cond.methodLink RX8 268 yX8_isSort, Cond.instanceMethod yX8_isSort, Cond.selects RX8 yX8_isSort yX8_isSort, Cond.code yX8_isSort cX8_isSort 2 (some .boolean), Cond.methodLink RX8 271 yX8_changes, Cond.instanceMethod yX8_changes, Cond.selects RX8 yX8_changes yX8_changes, Cond.code yX8_changes cX8_changes 6 (some .int), Cond.fieldLink RX8 258 "FullerSquareModel" "undoneMany" "I", Cond.fieldLink RX8 261 "FullerSquareModel" "doneMany" "I", Cond.methodLink RX8 254 yX8_valueAt, Cond.instanceMethod yX8_valueAt, Cond.selects RX8 yX8_valueAt yX8_valueAt, Cond.code yX8_valueAt cX8_valueAt 3 (some .int), Cond.methodLink RX8 264 yX8_lays, Cond.instanceMethod yX8_lays]
def wsL_law_r25 : List Cond := [Cond.selects RX8 yX8_lays yX8_lays, Cond.code yX8_lays cX8_lays 4 none, Cond.methodLink RL 49 yX7_of, Cond.instanceMethod yX7_of, Cond.selects RX7 yX7_of yX7_of, Cond.code yX7_of cX7_of 3 (some .int), Cond.methodLink RX7 130 yX5_ofSort, Cond.instanceMethod yX5_ofSort, Cond.selects RX5 yX5_ofSort yX5_ofSort, Cond.code yX5_ofSort cX5_ofSort 3 (some .int), Cond.methodLink RX5 88 yX5_isSort, Cond.methodLink RX7 133 yX5_ofSquare, Cond.instanceMethod yX5_ofSquare, Cond.selects RX5 yX5_ofSquare yX5_ofSquare, Cond.code yX5_ofSquare cX5_ofSquare 3 (some .int), Cond.methodLink RX7 136 yX5_ofWay, Cond.instanceMethod yX5_ofWay, Cond.selects RX5 yX5_ofWay yX5_ofWay, Cond.code yX5_ofWay cX5_ofWay 3 (some .int), Cond.methodLink RL 52 yX8_of, Cond.instanceMethod yX8_of, Cond.selects RX8 yX8_of yX8_of, Cond.code yX8_of cX8_of 3 (some .int), Cond.methodLink RL 53 yX7_run]
def wsL_law_r26 : List Cond := [Cond.instanceMethod yX7_run, Cond.selects RX7 yX7_run yX7_run, Cond.code yX7_run cX7_run 1 (some .int), Cond.fieldLink RX7 139 "FullerSquare$Town" "squares" "I", Cond.fieldLink RX7 142 "FullerSquare$Noon" "wish" "LFullerSquare$Wish;", Cond.fieldLink RX7 155 "FullerSquare$Noon" "done" "I", Cond.methodLink RX7 146 yX6_asIn, Cond.instanceMethod yX6_asIn, Cond.selects RX6 yX6_asIn yX6_asIn, Cond.code yX6_asIn cX6_asIn 2 none, Cond.fieldLink RX6 40 "FullerSquare$Town" "stroke" "I", Cond.fieldLink RX6 43 "FullerSquare$Town" "lag" "I", Cond.fieldLink RX6 44 "FullerSquare$Town" "home" "[I", Cond.methodLink RX6 45 arraycopyName, Cond.fieldLink RX6 51 "FullerSquare$Town" "law" "[I", Cond.methodLink RX7 152 yX3_pass, Cond.instanceMethod yX3_pass, Cond.selects RX3 yX3_pass yX3_pass, Cond.code yX3_pass cX3_pass 2 none, Cond.fieldLink RX3 86 "FullerSquare$Wish" "stroke" "I", Cond.methodLink RX3 83 yX3_begin, Cond.instanceMethod yX3_begin, Cond.selects RX3 yX3_begin yX3_begin, Cond.code yX3_begin cX3_begin 2 none]
def wsL_law_r27 : List Cond := [Cond.fieldLink RX3 105 "FullerSquare$Town" "squares" "I", Cond.fieldLink RX3 108 "FullerSquare$Town" "sorts" "I", Cond.fieldLink RX3 109 "FullerSquare$Wish" "home" "[I", Cond.fieldLink RX3 112 "FullerSquare$Town" "many" "[I", Cond.fieldLink RX3 115 "FullerSquare$Wish" "standAt" "I", Cond.fieldLink RX3 118 "FullerSquare$Wish" "standers" "I", Cond.methodLink RX3 89 yX3_see, Cond.instanceMethod yX3_see, Cond.selects RX3 yX3_see yX3_see, Cond.code yX3_see cX3_see 4 none, Cond.fieldLink RX3 121 "FullerSquare$Wish" "lag" "I", Cond.methodLink RX3 124 Lib.Math.max.name, Cond.methodLink RX3 130 yX3_seenIn, Cond.instanceMethod yX3_seenIn, Cond.selects RX3 yX3_seenIn yX3_seenIn, Cond.code yX3_seenIn cX3_seenIn 2 (some .int), Cond.methodLink RX3 93 yX3_arrive, Cond.instanceMethod yX3_arrive, Cond.selects RX3 yX3_arrive yX3_arrive, Cond.code yX3_arrive cX3_arrive 6 none, Cond.fieldLink RX3 134 "FullerSquare$Town" "holds" "[I", Cond.methodLink RX3 137 Lib.Math.min.name, Cond.methodLink RX3 96 yX3_go, Cond.instanceMethod yX3_go]
def wsL_law_r28 : List Cond := [Cond.selects RX3 yX3_go yX3_go, Cond.code yX3_go cX3_go 4 none, Cond.fieldLink RX3 140 "FullerSquare$Town" "ways" "I", Cond.fieldLink RX3 143 "FullerSquare$Town" "most" "[I", Cond.methodLink RX3 146 yX3_setOut, Cond.instanceMethod yX3_setOut, Cond.selects RX3 yX3_setOut yX3_setOut, Cond.code yX3_setOut cX3_setOut 9 none, Cond.fieldLink RX3 157 "FullerSquare$Town" "direct" "[I", Cond.fieldLink RX3 160 "FullerSquare$Town" "one" "[I", Cond.fieldLink RX3 163 "FullerSquare$Town" "minutes" "[I", Cond.fieldLink RX3 166 "FullerSquare$Town" "pace" "[I", Cond.methodLink RX3 150 yX3_aim, Cond.instanceMethod yX3_aim, Cond.selects RX3 yX3_aim yX3_aim, Cond.code yX3_aim cX3_aim 4 (some .int), Cond.fieldLink RX3 169 "FullerSquare$Wish" "ledSort" "I", Cond.fieldLink RX3 172 "FullerSquare$Wish" "ledFrom" "I", Cond.fieldLink RX3 175 "FullerSquare$Wish" "ledTo" "I", Cond.fieldLink RX3 178 "FullerSquare$Wish" "law" "[I", Cond.fieldLink RX3 181 "FullerSquare$Laws" "many" "I", Cond.fieldLink RX3 185 "FullerSquare$Town" "want" "[I", Cond.methodLink RX3 188 yX5_firstFor, Cond.instanceMethod yX5_firstFor]
def wsL_law_r29 : List Cond := [Cond.selects RX5 yX5_firstFor yX5_firstFor, Cond.code yX5_firstFor cX5_firstFor 3 (some .int), Cond.methodLink RX3 191 yX2_gives, Cond.instanceMethod yX2_gives, Cond.selects RX2 yX2_gives yX2_gives, Cond.code yX2_gives cX2_gives 6 (some .int), Cond.methodLink RX2 82 yX2_passesLine, Cond.instanceMethod yX2_passesLine, Cond.selects RX2 yX2_passesLine yX2_passesLine, Cond.code yX2_passesLine cX2_passesLine 4 (some .boolean), Cond.methodLink RX2 86 yX2_pop, Cond.instanceMethod yX2_pop, Cond.selects RX2 yX2_pop yX2_pop, Cond.code yX2_pop cX2_pop 1 (some .int), Cond.methodLink RX2 89 yX2_push, Cond.instanceMethod yX2_push, Cond.selects RX2 yX2_push yX2_push, Cond.code yX2_push cX2_push 2 none, Cond.methodLink RX2 92 yX2_joined, Cond.static yX2_joined, Cond.code yX2_joined cX2_joined 3 (some .int), Cond.methodLink RX3 153 yX5_isSquare, Cond.methodLink RX3 99 yX3_end, Cond.instanceMethod yX3_end]
def wsL_law_r30 : List Cond := [Cond.selects RX3 yX3_end yX3_end, Cond.code yX3_end cX3_end 3 none, Cond.methodLink RX3 195 arraycopyName, Cond.fieldLink RX3 201 "FullerSquare$Town" "early" "I", Cond.methodLink RX3 102 yX3_tally, Cond.instanceMethod yX3_tally, Cond.selects RX3 yX3_tally yX3_tally, Cond.code yX3_tally cX3_tally 3 none, Cond.fieldLink RX3 208 "FullerSquare$Town" "what" "[I", Cond.methodLink RX3 204 yX5_people, Cond.instanceMethod yX5_people, Cond.selects RX5 yX5_people yX5_people, Cond.code yX5_people cX5_people 1 (some .int), Cond.methodLink RX5 91 yX5_wanting, Cond.instanceMethod yX5_wanting, Cond.selects RX5 yX5_wanting yX5_wanting, Cond.code yX5_wanting cX5_wanting 4 (some .int), Cond.methodLink RL 56 yX8_run, Cond.instanceMethod yX8_run, Cond.selects RX8 yX8_run yX8_run, Cond.code yX8_run cX8_run 2 (some .int), Cond.fieldLink RX8 322 "FullerSquareModel" "fullestNow" "I", Cond.fieldLink RX8 331 "FullerSquareModel" "keptFullest" "I", Cond.fieldLink RX8 316 "FullerSquareModel" "doneNow" "I"]
def wsL_law_r31 : List Cond := [Cond.fieldLink RX8 334 "FullerSquareModel" "keptDone" "I", Cond.fieldLink RX8 325 "FullerSquareModel" "byNow" "I", Cond.fieldLink RX8 337 "FullerSquareModel" "keptBy" "I", Cond.fieldLink RX8 340 "FullerSquareModel" "keptSquares" "I", Cond.fieldLink RX8 343 "FullerSquareModel" "keptSorts" "I", Cond.fieldLink RX8 346 "FullerSquareModel" "keptAway" "I", Cond.methodLink RX8 328 yX8_goTo, Cond.instanceMethod yX8_goTo, Cond.selects RX8 yX8_goTo yX8_goTo, Cond.code yX8_goTo cX8_goTo 4 (some .int), Cond.methodLink RX8 280 yX8_inSquare, Cond.instanceMethod yX8_inSquare, Cond.selects RX8 yX8_inSquare yX8_inSquare, Cond.code yX8_inSquare cX8_inSquare 4 (some .int), Cond.fieldLink RX8 274 "FullerSquareModel" "standers" "I", Cond.fieldLink RX8 277 "FullerSquareModel" "standAt" "I", Cond.methodLink RX8 306 yX8_arrive, Cond.instanceMethod yX8_arrive, Cond.selects RX8 yX8_arrive yX8_arrive, Cond.code yX8_arrive cX8_arrive 7 none, Cond.methodLink RX8 310 yX8_go, Cond.instanceMethod yX8_go, Cond.selects RX8 yX8_go yX8_go, Cond.code yX8_go cX8_go 9 none]
def wsL_law_r32 : List Cond := [Cond.methodLink RX8 298 yX8_goal, Cond.instanceMethod yX8_goal, Cond.selects RX8 yX8_goal yX8_goal, Cond.code yX8_goal cX8_goal 9 (some .int), Cond.fieldLink RX8 283 "FullerSquareModel" "ledFrom" "I", Cond.fieldLink RX8 286 "FullerSquareModel" "ledTo" "I", Cond.fieldLink RX8 289 "FullerSquareModel" "servedBy" "I", Cond.methodLink RX8 292 yX8_isLaw, Cond.instanceMethod yX8_isLaw, Cond.selects RX8 yX8_isLaw yX8_isLaw, Cond.code yX8_isLaw cX8_isLaw 2 (some .boolean), Cond.methodLink RX8 295 yX8_gives, Cond.instanceMethod yX8_gives, Cond.selects RX8 yX8_gives yX8_gives, Cond.code yX8_gives cX8_gives 4 (some .int), Cond.methodLink RX8 239 yX8_worked, Cond.instanceMethod yX8_worked, Cond.selects RX8 yX8_worked yX8_worked, Cond.code yX8_worked cX8_worked 7 (some .int), Cond.methodLink RX8 236 yX8_twoOf, Cond.static yX8_twoOf, Cond.code yX8_twoOf cX8_twoOf 3 (some .int), Cond.methodLink RX8 302 yX8_doesLead, Cond.static yX8_doesLead]
def wsL_law_r33 : List Cond := [Cond.code yX8_doesLead cX8_doesLead 4 (some .boolean), Cond.methodLink RX8 313 yX8_counts, Cond.instanceMethod yX8_counts, Cond.selects RX8 yX8_counts yX8_counts, Cond.code yX8_counts cX8_counts 4 none, Cond.methodLink RX8 319 yX8_countSquare, Cond.instanceMethod yX8_countSquare, Cond.selects RX8 yX8_countSquare yX8_countSquare, Cond.code yX8_countSquare cX8_countSquare 6 none, Cond.methodLink RL 57 yX7_led, Cond.instanceMethod yX7_led, Cond.selects RX7 yX7_led yX7_led, Cond.code yX7_led cX7_led 4 (some .int), Cond.fieldLink RX7 158 "FullerSquare$Wish" "stroke" "I", Cond.constant RX7 162 (-2000000000), Cond.methodLink RX7 159 yX3_hasSquare, Cond.instanceMethod yX3_hasSquare, Cond.selects RX3 yX3_hasSquare yX3_hasSquare, Cond.code yX3_hasSquare cX3_hasSquare 2 (some .boolean), Cond.methodLink RX7 163 yX3_allAtEnd, Cond.instanceMethod yX3_allAtEnd, Cond.selects RX3 yX3_allAtEnd yX3_allAtEnd, Cond.code yX3_allAtEnd cX3_allAtEnd 5 (some .int), Cond.methodLink RX3 79 yX3_atEnd]
def wsL_law_r34 : List Cond := [Cond.instanceMethod yX3_atEnd, Cond.selects RX3 yX3_atEnd yX3_atEnd, Cond.code yX3_atEnd cX3_atEnd 4 (some .int), Cond.methodLink RX7 166 yX3_hasSort, Cond.instanceMethod yX3_hasSort, Cond.selects RX3 yX3_hasSort yX3_hasSort, Cond.code yX3_hasSort cX3_hasSort 2 (some .boolean), Cond.methodLink RX7 169 yX3_atEnd, Cond.methodLink RL 60 yX8_led, Cond.instanceMethod yX8_led, Cond.selects RX8 yX8_led yX8_led, Cond.code yX8_led cX8_led 6 (some .int), Cond.constant RX8 349 (-2000000000), Cond.methodLink RL 61 yX7_told, Cond.instanceMethod yX7_told, Cond.selects RX7 yX7_told yX7_told, Cond.code yX7_told cX7_told 2 (some .int), Cond.fieldLink RX7 172 "FullerSquare$Noon" "fullest" "I", Cond.fieldLink RX7 175 "FullerSquare$Noon" "by" "I", Cond.fieldLink RX7 178 "FullerSquare$Noon" "away" "I", Cond.fieldLink RX7 181 "FullerSquare$Noon" "counts" "[I", Cond.methodLink RL 64 yX8_told, Cond.instanceMethod yX8_told, Cond.selects RX8 yX8_told yX8_told]
def wsL_law_r35 : List Cond := [Cond.code yX8_told cX8_told 2 (some .int), Cond.methodLink RL 65 yX7_last, Cond.instanceMethod yX7_last, Cond.selects RX7 yX7_last yX7_last, Cond.code yX7_last cX7_last 2 (some .int), Cond.methodLink RX7 185 yX7_isSortAndWay, Cond.instanceMethod yX7_isSortAndWay, Cond.selects RX7 yX7_isSortAndWay yX7_isSortAndWay, Cond.code yX7_isSortAndWay cX7_isSortAndWay 2 (some .boolean), Cond.methodLink RX7 188 yX5_lastMinute, Cond.instanceMethod yX5_lastMinute, Cond.selects RX5 yX5_lastMinute yX5_lastMinute, Cond.code yX5_lastMinute cX5_lastMinute 5 (some .int), Cond.methodLink RL 68 yX8_last, Cond.instanceMethod yX8_last, Cond.selects RX8 yX8_last yX8_last, Cond.code yX8_last cX8_last 2 (some .int), Cond.methodLink RX8 356 yX8_isTrip, Cond.instanceMethod yX8_isTrip, Cond.selects RX8 yX8_isTrip yX8_isTrip, Cond.code yX8_isTrip cX8_isTrip 2 (some .boolean), Cond.methodLink RX8 359 yX8_lastOf, Cond.instanceMethod yX8_lastOf, Cond.selects RX8 yX8_lastOf yX8_lastOf]
def wsL_law_r36 : List Cond := [Cond.code yX8_lastOf cX8_lastOf 5 (some .int), Cond.methodLink RX8 353 yX8_fewest, Cond.instanceMethod yX8_fewest, Cond.selects RX8 yX8_fewest yX8_fewest, Cond.code yX8_fewest cX8_fewest 5 (some .int), Cond.methodLink RX8 350 yX8_nearer, Cond.instanceMethod yX8_nearer, Cond.selects RX8 yX8_nearer yX8_nearer, Cond.code yX8_nearer cX8_nearer 4 none, Cond.methodLink RL 69 yX7_flow, Cond.instanceMethod yX7_flow, Cond.selects RX7 yX7_flow yX7_flow, Cond.code yX7_flow cX7_flow 2 (some .int), Cond.methodLink RX7 191 yX5_mostOver, Cond.instanceMethod yX5_mostOver, Cond.selects RX5 yX5_mostOver yX5_mostOver, Cond.code yX5_mostOver cX5_mostOver 6 (some .int), Cond.methodLink RX5 95 Lib.Math.max.name, Cond.methodLink RL 72 yX8_flow, Cond.instanceMethod yX8_flow, Cond.selects RX8 yX8_flow yX8_flow, Cond.code yX8_flow cX8_flow 5 (some .int), Cond.methodLink RL 73 yX7_fewer, Cond.instanceMethod yX7_fewer]
def wsL_law_r37 : List Cond := [Cond.selects RX7 yX7_fewer yX7_fewer, Cond.code yX7_fewer cX7_fewer 3 (some .int), Cond.methodLink RX7 194 yX5_fewerWant, Cond.instanceMethod yX5_fewerWant, Cond.selects RX5 yX5_fewerWant yX5_fewerWant, Cond.code yX5_fewerWant cX5_fewerWant 2 (some .int), Cond.methodLink RL 76 yX8_fewer, Cond.instanceMethod yX8_fewer, Cond.selects RX8 yX8_fewer yX8_fewer, Cond.code yX8_fewer cX8_fewer 3 (some .int), Cond.methodLink RX8 362 yX8_wanting, Cond.instanceMethod yX8_wanting, Cond.selects RX8 yX8_wanting yX8_wanting, Cond.code yX8_wanting cX8_wanting 4 (some .int), Cond.methodLink RL 77 yX7_often, Cond.instanceMethod yX7_often, Cond.selects RX7 yX7_often yX7_often, Cond.code yX7_often cX7_often 8 (some .int), Cond.methodLink RX7 197 yX6_strew, Cond.instanceMethod yX6_strew, Cond.selects RX6 yX6_strew yX6_strew, Cond.code yX6_strew cX6_strew 5 (some .int), Cond.fieldLink RX6 52 "FullerSquare$Town" "sorts" "I", Cond.fieldLink RX6 55 "FullerSquare$Town" "squares" "I"]
def wsL_law_r38 : List Cond := [Cond.constant RX6 58 (1103515245), Cond.methodLink RL 80 yX8_often, Cond.instanceMethod yX8_often, Cond.selects RX8 yX8_often yX8_often, Cond.code yX8_often cX8_often 7 (some .int), Cond.constant RX8 365 (1103515245), Cond.methodLink RL 81 yX7_sooner, Cond.instanceMethod yX7_sooner, Cond.selects RX7 yX7_sooner yX7_sooner, Cond.code yX7_sooner cX7_sooner 2 (some .int), Cond.fieldLink RX7 201 "FullerSquare$Wish" "lag" "I", Cond.methodLink RL 84 yX8_sooner, Cond.instanceMethod yX8_sooner, Cond.selects RX8 yX8_sooner yX8_sooner, Cond.code yX8_sooner cX8_sooner 4 (some .int), Cond.methodLink RL 85 yX7_bell, Cond.instanceMethod yX7_bell, Cond.selects RX7 yX7_bell yX7_bell, Cond.code yX7_bell cX7_bell 8 (some .int), Cond.methodLink RX7 206 Lib.Math.max.name, Cond.methodLink RX7 202 yX7_makesHundred, Cond.static yX7_makesHundred, Cond.code yX7_makesHundred cX7_makesHundred 6 (some .boolean), Cond.constantLong RX7 211 (100)]
def wsL_law_r39 : List Cond := [Cond.methodLink RL 88 yX8_bell, Cond.instanceMethod yX8_bell, Cond.selects RX8 yX8_bell yX8_bell, Cond.code yX8_bell cX8_bell 7 (some .int), Cond.methodLink RL 89 yX7_paid, Cond.instanceMethod yX7_paid, Cond.selects RX7 yX7_paid yX7_paid, Cond.code yX7_paid cX7_paid 3 (some .int), Cond.fieldLink RX7 217 "FullerSquare$Town" "what" "[I", Cond.methodLink RX7 213 yX6_stand, Cond.instanceMethod yX6_stand, Cond.selects RX6 yX6_stand yX6_stand, Cond.code yX6_stand cX6_stand 3 none, Cond.methodLink RL 92 yX8_paid, Cond.instanceMethod yX8_paid, Cond.selects RX8 yX8_paid yX8_paid, Cond.code yX8_paid cX8_paid 4 (some .int), Cond.methodLink RL 93 yX7_lead, Cond.instanceMethod yX7_lead, Cond.selects RX7 yX7_lead yX7_lead, Cond.code yX7_lead cX7_lead 5 (some .int), Cond.fieldLink RX7 224 "FullerSquare$Town" "want" "[I", Cond.methodLink RX7 220 yX6_follow, Cond.instanceMethod yX6_follow]
def wsL_law_r40 : List Cond := [Cond.selects RX6 yX6_follow yX6_follow, Cond.code yX6_follow cX6_follow 4 none, Cond.methodLink RL 96 yX8_lead, Cond.instanceMethod yX8_lead, Cond.selects RX8 yX8_lead yX8_lead, Cond.code yX8_lead cX8_lead 4 (some .int), Cond.methodLink RL 97 yX7_serves, Cond.instanceMethod yX7_serves, Cond.selects RX7 yX7_serves yX7_serves, Cond.code yX7_serves cX7_serves 8 (some .int), Cond.fieldLink RX7 227 "FullerSquare$Laws" "many" "I", Cond.fieldLink RX7 230 "FullerSquare$Wish" "law" "[I", Cond.methodLink RL 100 yX8_serves, Cond.instanceMethod yX8_serves, Cond.selects RX8 yX8_serves yX8_serves, Cond.code yX8_serves cX8_serves 8 (some .int), Cond.methodLink RL 101 yX7_judge, Cond.instanceMethod yX7_judge, Cond.selects RX7 yX7_judge yX7_judge, Cond.code yX7_judge cX7_judge 4 (some .int), Cond.methodLink RX7 233 yX7_judged, Cond.instanceMethod yX7_judged, Cond.selects RX7 yX7_judged yX7_judged, Cond.code yX7_judged cX7_judged 7 (some .int)]
def wsL_law_r41 : List Cond := [Cond.fieldLink RX7 237 "FullerSquare$Town" "holds" "[I", Cond.methodLink RX7 240 yX5_couldCome, Cond.instanceMethod yX5_couldCome, Cond.selects RX5 yX5_couldCome yX5_couldCome, Cond.code yX5_couldCome cX5_couldCome 4 (some .int), Cond.methodLink RX5 98 yX5_lastMinute, Cond.methodLink RX7 243 yX5_people, Cond.methodLink RL 104 yX8_judge, Cond.instanceMethod yX8_judge, Cond.selects RX8 yX8_judge yX8_judge, Cond.code yX8_judge cX8_judge 7 (some .int), Cond.methodLink RL 105 yX7_undo, Cond.instanceMethod yX7_undo, Cond.selects RX7 yX7_undo yX7_undo, Cond.code yX7_undo cX7_undo 1 (some .int), Cond.methodLink RX7 246 yX1_back, Cond.instanceMethod yX1_back, Cond.selects RX1 yX1_back yX1_back, Cond.code yX1_back cX1_back 2 (some .int), Cond.methodLink RX1 40 yX5_mended, Cond.methodLink RL 108 yX8_undo, Cond.instanceMethod yX8_undo, Cond.selects RX8 yX8_undo yX8_undo, Cond.code yX8_undo cX8_undo 1 (some .int)]
def wsL_law_r42 : List Cond := [Cond.methodLink RL 109 yX7_redo, Cond.instanceMethod yX7_redo, Cond.selects RX7 yX7_redo yX7_redo, Cond.code yX7_redo cX7_redo 1 (some .int), Cond.methodLink RX7 250 yX1_again, Cond.instanceMethod yX1_again, Cond.selects RX1 yX1_again yX1_again, Cond.code yX1_again cX1_again 2 (some .int), Cond.methodLink RL 112 yX8_redo, Cond.instanceMethod yX8_redo, Cond.selects RX8 yX8_redo yX8_redo, Cond.code yX8_redo cX8_redo 1 (some .int), Cond.methodLink RL 113 yX7_body, Cond.instanceMethod yX7_body, Cond.selects RX7 yX7_body yX7_body, Cond.code yX7_body cX7_body 2 (some .int), Cond.methodLink RX7 253 yX0_add, Cond.instanceMethod yX0_add, Cond.selects RX0 yX0_add yX0_add, Cond.code yX0_add cX0_add 2 (some .int), Cond.methodLink RX0 31 yX0_isKind, Cond.static yX0_isKind, Cond.code yX0_isKind cX0_isKind 1 (some .boolean), Cond.methodLink RL 116 yX8_body]
def wsL_law_r43 : List Cond := [Cond.instanceMethod yX8_body, Cond.selects RX8 yX8_body yX8_body, Cond.code yX8_body cX8_body 2 (some .int), Cond.fieldLink RX8 366 "FullerSquareModel" "bodies" "I", Cond.methodLink RL 117 yX7_act, Cond.instanceMethod yX7_act, Cond.selects RX7 yX7_act yX7_act, Cond.code yX7_act cX7_act 4 (some .int), Cond.methodLink RX7 255 yX0_play, Cond.instanceMethod yX0_play, Cond.selects RX0 yX0_play yX0_play, Cond.code yX0_play cX0_play 4 (some .int), Cond.methodLink RX0 38 yX0_isBody, Cond.instanceMethod yX0_isBody, Cond.selects RX0 yX0_isBody yX0_isBody, Cond.code yX0_isBody cX0_isBody 2 (some .boolean), Cond.methodLink RX0 41 yX0_goes, Cond.instanceMethod yX0_goes, Cond.selects RX0 yX0_goes yX0_goes, Cond.code yX0_goes cX0_goes 3 (some .int), Cond.methodLink RX0 54 yX0_begin, Cond.instanceMethod yX0_begin, Cond.selects RX0 yX0_begin yX0_begin, Cond.code yX0_begin cX0_begin 2 none]
def wsL_law_r44 : List Cond := [Cond.methodLink RX0 45 yX0_sees, Cond.instanceMethod yX0_sees, Cond.selects RX0 yX0_sees yX0_sees, Cond.code yX0_sees cX0_sees 3 (some .int), Cond.methodLink RX0 48 yX0_waits, Cond.instanceMethod yX0_waits, Cond.selects RX0 yX0_waits yX0_waits, Cond.code yX0_waits cX0_waits 3 (some .int), Cond.methodLink RX0 51 yX0_tells, Cond.instanceMethod yX0_tells, Cond.selects RX0 yX0_tells yX0_tells, Cond.code yX0_tells cX0_tells 3 (some .int), Cond.methodLink RL 120 yX8_act, Cond.instanceMethod yX8_act, Cond.selects RX8 yX8_act yX8_act, Cond.code yX8_act cX8_act 4 (some .int), Cond.fieldLink RX8 369 "FullerSquareModel" "traces" "I", Cond.methodLink RX8 409 yX8_isBody, Cond.instanceMethod yX8_isBody, Cond.selects RX8 yX8_isBody yX8_isBody, Cond.code yX8_isBody cX8_isBody 2 (some .boolean), Cond.methodLink RX8 385 yX8_goes, Cond.instanceMethod yX8_goes, Cond.selects RX8 yX8_goes yX8_goes]
def wsL_law_r45 : List Cond := [Cond.code yX8_goes cX8_goes 3 (some .int), Cond.methodLink RX8 378 yX8_isUnder, Cond.static yX8_isUnder, Cond.code yX8_isUnder cX8_isUnder 2 (some .boolean), Cond.methodLink RX8 372 yX8_ran, Cond.instanceMethod yX8_ran, Cond.selects RX8 yX8_ran yX8_ran, Cond.code yX8_ran cX8_ran 2 none, Cond.methodLink RX8 375 yX8_plainGoes, Cond.instanceMethod yX8_plainGoes, Cond.selects RX8 yX8_plainGoes yX8_plainGoes, Cond.code yX8_plainGoes cX8_plainGoes 3 (some .int), Cond.methodLink RX8 382 yX8_bestGoes, Cond.instanceMethod yX8_bestGoes, Cond.selects RX8 yX8_bestGoes yX8_bestGoes, Cond.code yX8_bestGoes cX8_bestGoes 3 (some .int), Cond.methodLink RX8 400 yX8_sees, Cond.instanceMethod yX8_sees, Cond.selects RX8 yX8_sees yX8_sees, Cond.code yX8_sees cX8_sees 4 (some .int), Cond.methodLink RX8 391 yX8_followSees, Cond.instanceMethod yX8_followSees, Cond.selects RX8 yX8_followSees yX8_followSees, Cond.code yX8_followSees cX8_followSees 3 (some .int)]
def wsL_law_r46 : List Cond := [Cond.methodLink RX8 388 yX8_plainSees, Cond.instanceMethod yX8_plainSees, Cond.selects RX8 yX8_plainSees yX8_plainSees, Cond.code yX8_plainSees cX8_plainSees 3 (some .int), Cond.methodLink RX8 394 yX8_waits, Cond.instanceMethod yX8_waits, Cond.selects RX8 yX8_waits yX8_waits, Cond.code yX8_waits cX8_waits 4 (some .int), Cond.methodLink RX8 397 yX8_plainWaits, Cond.instanceMethod yX8_plainWaits, Cond.selects RX8 yX8_plainWaits yX8_plainWaits, Cond.code yX8_plainWaits cX8_plainWaits 3 (some .int), Cond.methodLink RX8 412 yX8_telling, Cond.instanceMethod yX8_telling, Cond.selects RX8 yX8_telling yX8_telling, Cond.code yX8_telling cX8_telling 3 (some .int), Cond.methodLink RX8 406 yX8_leadTells, Cond.instanceMethod yX8_leadTells, Cond.selects RX8 yX8_leadTells yX8_leadTells, Cond.code yX8_leadTells cX8_leadTells 3 (some .int), Cond.methodLink RX8 403 yX8_plainTells, Cond.instanceMethod yX8_plainTells, Cond.selects RX8 yX8_plainTells yX8_plainTells, Cond.code yX8_plainTells cX8_plainTells 4 (some .int)]
def wsL_law_r47 : List Cond := [Cond.methodLink RL 121 yX7_trace, Cond.instanceMethod yX7_trace, Cond.selects RX7 yX7_trace yX7_trace, Cond.code yX7_trace cX7_trace 2 (some .int), Cond.fieldLink RX7 258 "FullerSquare$Acts" "begun" "I", Cond.methodLink RX7 261 Lib.Math.min.name, Cond.fieldLink RX7 264 "FullerSquare$Acts" "bodies" "[I", Cond.methodLink RL 124 yX8_trace, Cond.instanceMethod yX8_trace, Cond.selects RX8 yX8_trace yX8_trace, Cond.code yX8_trace cX8_trace 2 (some .int), Cond.methodLink RL 125 yX7_keep, Cond.instanceMethod yX7_keep, Cond.selects RX7 yX7_keep yX7_keep, Cond.code yX7_keep cX7_keep 3 (some .int), Cond.methodLink RX7 267 yX0_isBody, Cond.methodLink RX7 270 yX4_holdBody, Cond.instanceMethod yX4_holdBody, Cond.selects RX4 yX4_holdBody yX4_holdBody, Cond.code yX4_holdBody cX4_holdBody 2 none, Cond.methodLink RL 128 yX8_keep, Cond.instanceMethod yX8_keep, Cond.selects RX8 yX8_keep yX8_keep, Cond.code yX8_keep cX8_keep 3 (some .int)]
def wsL_law_r48 : List Cond := [Cond.methodLink RL 129 yX7_row, Cond.instanceMethod yX7_row, Cond.selects RX7 yX7_row yX7_row, Cond.code yX7_row cX7_row 4 (some .int), Cond.methodLink RX7 274 yX4_holdRow, Cond.instanceMethod yX4_holdRow, Cond.selects RX4 yX4_holdRow yX4_holdRow, Cond.code yX4_holdRow cX4_holdRow 4 none, Cond.methodLink RL 132 yX8_row, Cond.instanceMethod yX8_row, Cond.selects RX8 yX8_row yX8_row, Cond.code yX8_row cX8_row 5 (some .int), Cond.methodLink RL 135 yX7_put, Cond.instanceMethod yX7_put, Cond.selects RX7 yX7_put yX7_put, Cond.code yX7_put cX7_put 6 (some .int), Cond.methodLink RX7 277 yX7_placeRefusal, Cond.instanceMethod yX7_placeRefusal, Cond.selects RX7 yX7_placeRefusal yX7_placeRefusal, Cond.code yX7_placeRefusal cX7_placeRefusal 4 (some .int), Cond.methodLink RX7 288 yX4_hasPlaces, Cond.methodLink RX7 280 yX4_become, Cond.instanceMethod yX4_become, Cond.selects RX4 yX4_become yX4_become]
def wsL_law_r49 : List Cond := [Cond.code yX4_become cX4_become 4 none, Cond.methodLink RX4 36 yX4_lowestBits, Cond.instanceMethod yX4_lowestBits, Cond.selects RX4 yX4_lowestBits yX4_lowestBits, Cond.code yX4_lowestBits cX4_lowestBits 3 (some .long), Cond.methodLink RL 139 yX8_put, Cond.instanceMethod yX8_put, Cond.selects RX8 yX8_put yX8_put, Cond.code yX8_put cX8_put 7 (some .int), Cond.methodLink RX8 415 yX8_whyNoPlace, Cond.instanceMethod yX8_whyNoPlace, Cond.selects RX8 yX8_whyNoPlace yX8_whyNoPlace, Cond.code yX8_whyNoPlace cX8_whyNoPlace 3 (some .int), Cond.methodLink RL 140 yX7_element, Cond.instanceMethod yX7_element, Cond.selects RX7 yX7_element yX7_element, Cond.code yX7_element cX7_element 3 (some .long), Cond.constantLong RX7 286 (-9223372036854775808), Cond.methodLink RL 144 yX8_element, Cond.instanceMethod yX8_element, Cond.selects RX8 yX8_element yX8_element, Cond.code yX8_element cX8_element 3 (some .long), Cond.constantLong RX8 420 (-9223372036854775808), Cond.methodLink RL 145 yX7_shift]
def wsL_law_r50 : List Cond := [Cond.instanceMethod yX7_shift, Cond.selects RX7 yX7_shift yX7_shift, Cond.code yX7_shift cX7_shift 8 (some .int), Cond.fieldLink RX7 299 "FullerSquare$Shelf" "sort" "I", Cond.fieldLink RX7 302 "FullerSquare$Shelf" "elements" "[J", Cond.methodLink RX7 306 arraycopyName, Cond.methodLink RX7 292 yX4_isEmpty, Cond.methodLink RX7 296 yX4_isRow, Cond.methodLink RL 149 yX8_shift, Cond.instanceMethod yX8_shift, Cond.selects RX8 yX8_shift yX8_shift, Cond.code yX8_shift cX8_shift 7 (some .int), Cond.methodLink RL 150 yX7_taken, Cond.instanceMethod yX7_taken, Cond.selects RX7 yX7_taken yX7_taken, Cond.code yX7_taken cX7_taken 4 (some .int), Cond.fieldLink RX7 315 "FullerSquare$Shelf" "body" "I", Cond.fieldLink RX7 318 "FullerSquare$Acts" "kinds" "[I", Cond.methodLink RX7 312 yX0_isKind, Cond.methodLink RX7 321 yX0_isUnder, Cond.static yX0_isUnder, Cond.code yX0_isUnder cX0_isUnder 4 (some .boolean), Cond.fieldLink RX0 35 "FullerSquare$Acts" "ABOVE" "[I", Cond.methodLink RL 153 yX8_taken]
def wsL_law_r51 : List Cond := [Cond.instanceMethod yX8_taken, Cond.selects RX8 yX8_taken yX8_taken, Cond.code yX8_taken cX8_taken 3 (some .int), Cond.methodLink RL 154 yX7_count, Cond.instanceMethod yX7_count, Cond.selects RX7 yX7_count yX7_count, Cond.code yX7_count cX7_count 2 (some .int), Cond.fieldLink RX7 324 "FullerSquare$Town" "ways" "I", Cond.fieldLink RX7 327 "FullerSquare$Town" "sorts" "I", Cond.fieldLink RX7 330 "FullerSquare$Laws" "fed" "I", Cond.fieldLink RX7 333 "FullerSquare$Changes" "done" "I", Cond.fieldLink RX7 334 "FullerSquare$Acts" "many" "I", Cond.methodLink RL 157 yX8_count, Cond.instanceMethod yX8_count, Cond.selects RX8 yX8_count yX8_count, Cond.code yX8_count cX8_count 2 (some .int)]
abbrev vwCl : List vw_C := [(RX0, TX0, 6), (RX1, TX1, 6), (RX2, TX2, 8), (RX3, TX3, 20), (RX4, TX4, 4), (RX5, TX5, 19), (RX6, TX6, 9), (RX7, TX7, 8), (RX8, TX8, 74)]
theorem zgood_r {big : List Cond} (ws : List Cond) (ps : List Nat) (hp : ws = ps.filterMap (fun i => big[i]?)) (h : ws.all goodWord = true) : GoodIn big ws := by
  intro w hw
  have h1 := List.all_eq_true.mp h w hw
  rw [hp] at hw
  obtain ⟨i, -, hi⟩ := List.mem_filterMap.mp hw
  exact ⟨List.mem_of_getElem? hi, good_of_word h1⟩
abbrev zWs : List (List Cond) := [wsL_law_r1, wsL_law_r2, wsL_law_r3, wsL_law_r4, wsL_law_r5, wsL_law_r6, wsL_law_r7, wsL_law_r8, wsL_law_r9, wsL_law_r10, wsL_law_r11, wsL_law_r12, wsL_law_r13, wsL_law_r14, wsL_law_r15, wsL_law_r16, wsL_law_r17, wsL_law_r18, wsL_law_r19, wsL_law_r20, wsL_law_r21, wsL_law_r22, wsL_law_r23, wsL_law_r24, wsL_law_r25, wsL_law_r26, wsL_law_r27, wsL_law_r28, wsL_law_r29, wsL_law_r30, wsL_law_r31, wsL_law_r32, wsL_law_r33, wsL_law_r34, wsL_law_r35, wsL_law_r36, wsL_law_r37, wsL_law_r38, wsL_law_r39, wsL_law_r40, wsL_law_r41, wsL_law_r42, wsL_law_r43, wsL_law_r44, wsL_law_r45, wsL_law_r46, wsL_law_r47, wsL_law_r48, wsL_law_r49, wsL_law_r50, wsL_law_r51, wsX70, wsX80, wsX50, wsX20, wsX30, wsX10, wsX00, wsX40, wsX60]
set_option maxRecDepth 20000 in
theorem zgr_0 : GoodIn lw_tbl wsL_law_r1 := zgood_r _ [100, 101, 84, 1045, 1046, 92, 1628, 102, 103, 104, 105, 106, 107, 108, 109, 85, 437, 202, 203, 86, 438, 238, 239, 87] (by decide +kernel) (by decide +kernel)
set_option maxRecDepth 20000 in
theorem zgr_1 : GoodIn lw_tbl wsL_law_r2 := zgood_r _ [439, 440, 357, 358, 89, 441, 383, 384, 90, 442, 412, 443, 444, 414, 91, 110, 111, 112, 113, 115, 119, 122, 126, 129] (by decide +kernel) (by decide +kernel)
set_option maxRecDepth 20000 in
theorem zgr_2 : GoodIn lw_tbl wsL_law_r3 := zgood_r _ [132, 201, 135, 138, 141, 143, 144, 146, 148, 150, 153, 155, 157, 159, 161, 114, 205, 206, 207, 210, 208, 211, 212, 213] (by decide +kernel) (by decide +kernel)
set_option maxRecDepth 20000 in
theorem zgr_3 : GoodIn lw_tbl wsL_law_r4 := zgood_r _ [214, 215, 216, 218, 240, 241, 242, 243, 244, 245, 88, 292, 294, 295, 296, 297, 298, 299, 300, 301, 302, 303, 304, 305] (by decide +kernel) (by decide +kernel)
set_option maxRecDepth 20000 in
theorem zgr_4 : GoodIn lw_tbl wsL_law_r5 := zgood_r _ [306, 308, 310, 312, 314, 290, 291, 247, 248, 249, 250, 253, 256, 258, 260, 262, 264, 266, 268, 360, 361, 362, 363, 364] (by decide +kernel) (by decide +kernel)
set_option maxRecDepth 20000 in
theorem zgr_5 : GoodIn lw_tbl wsL_law_r6 := zgood_r _ [365, 366, 367, 368, 386, 387, 388, 389, 391, 393, 395, 397, 398, 416, 417, 418, 419, 421, 423, 436, 425, 1047, 1048, 1049] (by decide +kernel) (by decide +kernel)
set_option maxRecDepth 20000 in
theorem zgr_6 : GoodIn lw_tbl wsL_law_r7 := zgood_r _ [1050, 1052, 1053, 1055, 1056, 1057, 1058, 1060, 1061, 1062, 1063, 1064, 1065, 679, 1068, 1074, 1075, 1076, 1273, 1077, 1078, 1079, 1080, 1084] (by decide +kernel) (by decide +kernel)
set_option maxRecDepth 20000 in
theorem zgr_7 : GoodIn lw_tbl wsL_law_r8 := zgood_r _ [1085, 1086, 1087, 1088, 1089, 1090, 1091, 1092, 1093, 1094, 1097, 1100, 1105, 1112, 1113, 1114, 1115, 1117, 1119, 1120, 1121, 1122, 1123, 462] (by decide +kernel) (by decide +kernel)
set_option maxRecDepth 20000 in
theorem zgr_8 : GoodIn lw_tbl wsL_law_r9 := zgood_r _ [463, 464, 465, 466, 467, 468, 469, 470, 471, 472, 1274, 1275, 1276, 1277, 1051, 1278, 1279, 1280, 473, 474, 475, 476, 477, 478] (by decide +kernel) (by decide +kernel)
set_option maxRecDepth 20000 in
theorem zgr_9 : GoodIn lw_tbl wsL_law_r10 := zgood_r _ [479, 480, 481, 482, 483, 484, 485, 486, 487, 488, 489, 491, 0, 492, 493, 494, 93, 495, 496, 498, 1, 499, 1281, 1282] (by decide +kernel) (by decide +kernel)
set_option maxRecDepth 20000 in
theorem zgr_10 : GoodIn lw_tbl wsL_law_r11 := zgood_r _ [1283, 1284, 1054, 1285, 1287, 34, 1288, 500, 501, 502, 503, 504, 505, 506, 507, 1289, 1290, 1291, 1292, 1059, 1293, 1295, 35, 1296] (by decide +kernel) (by decide +kernel)
set_option maxRecDepth 20000 in
theorem zgr_11 : GoodIn lw_tbl wsL_law_r12 := zgood_r _ [1297, 1299, 36, 1300, 508, 509, 510, 511, 512, 513, 514, 515, 516, 517, 518, 519, 520, 521, 522, 523, 524, 525, 526, 527] (by decide +kernel) (by decide +kernel)
set_option maxRecDepth 20000 in
theorem zgr_12 : GoodIn lw_tbl wsL_law_r13 := zgood_r _ [529, 2, 530, 531, 424, 532, 533, 534, 535, 536, 537, 538, 539, 1301, 1302, 1303, 1304, 1308, 1305, 1306, 1307, 540, 541, 542] (by decide +kernel) (by decide +kernel)
set_option maxRecDepth 20000 in
theorem zgr_13 : GoodIn lw_tbl wsL_law_r14 := zgood_r _ [543, 544, 545, 546, 547, 1309, 1310, 1311, 1312, 1069, 548, 549, 550, 551, 552, 553, 554, 555, 556, 558, 3, 559, 560, 562] (by decide +kernel) (by decide +kernel)
set_option maxRecDepth 20000 in
theorem zgr_14 : GoodIn lw_tbl wsL_law_r15 := zgood_r _ [4, 563, 564, 566, 5, 567, 568, 570, 6, 572, 574, 7, 575, 676, 677, 678, 583, 585, 9, 586, 675, 571, 576, 577] (by decide +kernel) (by decide +kernel)
set_option maxRecDepth 20000 in
theorem zgr_15 : GoodIn lw_tbl wsL_law_r16 := zgood_r _ [578, 579, 581, 8, 582, 588, 589, 590, 94, 591, 592, 593, 594, 595, 1630, 596, 597, 598, 599, 600, 1629, 602, 603, 604] (by decide +kernel) (by decide +kernel)
set_option maxRecDepth 20000 in
theorem zgr_16 : GoodIn lw_tbl wsL_law_r17 := zgood_r _ [605, 606, 607, 608, 609, 610, 611, 95, 612, 616, 617, 618, 619, 613, 614, 615, 620, 621, 622, 623, 624, 96, 625, 626] (by decide +kernel) (by decide +kernel)
set_option maxRecDepth 20000 in
theorem zgr_17 : GoodIn lw_tbl wsL_law_r18 := zgood_r _ [627, 628, 629, 630, 631, 632, 633, 634, 635, 636, 637, 638, 639, 640, 641, 643, 644, 97, 645, 646, 647, 648, 649, 650] (by decide +kernel) (by decide +kernel)
set_option maxRecDepth 20000 in
theorem zgr_18 : GoodIn lw_tbl wsL_law_r19 := zgood_r _ [651, 652, 654, 656, 658, 659, 660, 661, 662, 98, 663, 664, 665, 666, 667, 668, 669, 670, 671, 672, 674, 10, 1313, 1314] (by decide +kernel) (by decide +kernel)
set_option maxRecDepth 20000 in
theorem zgr_19 : GoodIn lw_tbl wsL_law_r20 := zgood_r _ [1315, 1316, 1081, 1317, 1319, 37, 1320, 1070, 1071, 1072, 1073, 1321, 1323, 38, 1324, 1325, 1327, 39, 1328, 1329, 1331, 40, 1349, 1351] (by decide +kernel) (by decide +kernel)
set_option maxRecDepth 20000 in
theorem zgr_20 : GoodIn lw_tbl wsL_law_r21 := zgood_r _ [45, 1352, 1356, 1358, 46, 1359, 1332, 1333, 1335, 41, 1336, 1337, 1339, 42, 1348, 1353, 1354, 1355, 1360, 1362, 47, 1363, 1364, 1366] (by decide +kernel) (by decide +kernel)
set_option maxRecDepth 20000 in
theorem zgr_21 : GoodIn lw_tbl wsL_law_r22 := zgood_r _ [48, 1367, 1345, 1347, 44, 1368, 1370, 49, 1371, 1344, 1340, 1341, 1343, 43, 680, 681, 682, 683, 128, 131, 133, 1372, 1373, 1374] (by decide +kernel) (by decide +kernel)
set_option maxRecDepth 20000 in
theorem zgr_22 : GoodIn lw_tbl wsL_law_r23 := zgood_r _ [1375, 1066, 1067, 684, 685, 686, 687, 688, 689, 690, 691, 692, 693, 694, 695, 696, 697, 698, 699, 700, 701, 703, 11, 704] (by decide +kernel) (by decide +kernel)
set_option maxRecDepth 20000 in
theorem zgr_23 : GoodIn lw_tbl wsL_law_r24 := zgood_r _ [705, 707, 706, 99, 1388, 1389, 1390, 1391, 1392, 1394, 51, 1395, 1396, 1398, 52, 1399, 1083, 1082, 1400, 1402, 53, 1403, 1380, 1382] (by decide +kernel) (by decide +kernel)
set_option maxRecDepth 20000 in
theorem zgr_24 : GoodIn lw_tbl wsL_law_r25 := zgood_r _ [50, 1383, 708, 709, 710, 711, 712, 713, 714, 715, 716, 717, 718, 719, 720, 721, 722, 723, 724, 1404, 1405, 1406, 1407, 725] (by decide +kernel) (by decide +kernel)
set_option maxRecDepth 20000 in
theorem zgr_25 : GoodIn lw_tbl wsL_law_r26 := zgood_r _ [726, 727, 728, 118, 293, 311, 729, 730, 731, 732, 127, 130, 154, 733, 158, 734, 735, 736, 737, 251, 738, 740, 12, 741] (by decide +kernel) (by decide +kernel)
set_option maxRecDepth 20000 in
theorem zgr_26 : GoodIn lw_tbl wsL_law_r27 := zgood_r _ [117, 124, 267, 149, 257, 259, 742, 744, 13, 745, 254, 746, 747, 749, 14, 750, 751, 753, 15, 754, 136, 755, 756, 758] (by decide +kernel) (by decide +kernel)
set_option maxRecDepth 20000 in
theorem zgr_27 : GoodIn lw_tbl wsL_law_r28 := zgood_r _ [16, 759, 120, 147, 760, 762, 17, 763, 160, 142, 145, 156, 764, 766, 18, 767, 261, 265, 263, 269, 219, 151, 768, 769] (by decide +kernel) (by decide +kernel)
set_option maxRecDepth 20000 in
theorem zgr_28 : GoodIn lw_tbl wsL_law_r29 := zgood_r _ [770, 771, 772, 773, 774, 775, 776, 778, 19, 779, 780, 782, 20, 783, 784, 786, 21, 787, 788, 789, 790, 791, 792, 794] (by decide +kernel) (by decide +kernel)
set_option maxRecDepth 20000 in
theorem zgr_29 : GoodIn lw_tbl wsL_law_r30 := zgood_r _ [22, 795, 796, 134, 797, 799, 23, 800, 139, 801, 802, 803, 804, 805, 807, 24, 808, 1408, 1409, 1410, 1411, 1103, 1106, 1102] (by decide +kernel) (by decide +kernel)
set_option maxRecDepth 20000 in
theorem zgr_30 : GoodIn lw_tbl wsL_law_r31 := zgood_r _ [1107, 1104, 1108, 1110, 1111, 1109, 1412, 1414, 54, 1415, 1416, 1418, 55, 1419, 1095, 1096, 1420, 1422, 56, 1423, 1424, 1426, 57, 1427] (by decide +kernel) (by decide +kernel)
set_option maxRecDepth 20000 in
theorem zgr_31 : GoodIn lw_tbl wsL_law_r32 := zgood_r _ [1428, 1430, 58, 1431, 1098, 1099, 1101, 1432, 1434, 59, 1435, 1436, 1438, 60, 1439, 1440, 1442, 61, 1443, 1444, 1445, 1446, 1447, 1448] (by decide +kernel) (by decide +kernel)
set_option maxRecDepth 20000 in
theorem zgr_32 : GoodIn lw_tbl wsL_law_r33 := zgood_r _ [1449, 1450, 1452, 62, 1453, 1454, 1456, 63, 1457, 809, 810, 811, 812, 252, 817, 813, 814, 815, 816, 818, 819, 820, 821, 822] (by decide +kernel) (by decide +kernel)
set_option maxRecDepth 20000 in
theorem zgr_33 : GoodIn lw_tbl wsL_law_r34 := zgood_r _ [823, 824, 825, 826, 827, 828, 829, 830, 1458, 1459, 1460, 1461, 1462, 831, 832, 833, 834, 309, 313, 315, 307, 1463, 1464, 1465] (by decide +kernel) (by decide +kernel)
set_option maxRecDepth 20000 in
theorem zgr_34 : GoodIn lw_tbl wsL_law_r35 := zgood_r _ [1466, 835, 836, 837, 838, 839, 841, 25, 842, 843, 844, 845, 846, 1467, 1468, 1469, 1470, 1471, 1473, 64, 1474, 1475, 1477, 65] (by decide +kernel) (by decide +kernel)
set_option maxRecDepth 20000 in
theorem zgr_35 : GoodIn lw_tbl wsL_law_r36 := zgood_r _ [1478, 1479, 1481, 66, 1482, 1483, 1485, 67, 1486, 847, 848, 849, 850, 851, 852, 853, 854, 855, 1487, 1488, 1489, 1490, 856, 857] (by decide +kernel) (by decide +kernel)
set_option maxRecDepth 20000 in
theorem zgr_36 : GoodIn lw_tbl wsL_law_r37 := zgood_r _ [858, 859, 860, 861, 862, 863, 1491, 1492, 1493, 1494, 1495, 1497, 68, 1498, 864, 865, 866, 867, 868, 869, 870, 871, 123, 116] (by decide +kernel) (by decide +kernel)
set_option maxRecDepth 20000 in
theorem zgr_37 : GoodIn lw_tbl wsL_law_r38 := zgood_r _ [872, 1499, 1500, 1501, 1502, 1503, 873, 874, 875, 876, 255, 1504, 1505, 1506, 1507, 877, 878, 879, 880, 885, 881, 882, 883, 884] (by decide +kernel) (by decide +kernel)
set_option maxRecDepth 20000 in
theorem zgr_38 : GoodIn lw_tbl wsL_law_r39 := zgood_r _ [1508, 1509, 1510, 1511, 886, 887, 888, 889, 140, 890, 891, 892, 893, 1512, 1513, 1514, 1515, 894, 895, 896, 897, 152, 898, 899] (by decide +kernel) (by decide +kernel)
set_option maxRecDepth 20000 in
theorem zgr_39 : GoodIn lw_tbl wsL_law_r40 := zgood_r _ [900, 901, 1516, 1517, 1518, 1519, 902, 903, 904, 905, 220, 270, 1520, 1521, 1522, 1523, 906, 907, 908, 909, 910, 912, 26, 913] (by decide +kernel) (by decide +kernel)
set_option maxRecDepth 20000 in
theorem zgr_40 : GoodIn lw_tbl wsL_law_r41 := zgood_r _ [137, 914, 915, 916, 917, 918, 919, 1524, 1525, 1526, 1527, 920, 921, 922, 923, 924, 925, 926, 927, 928, 1376, 1377, 1378, 1379] (by decide +kernel) (by decide +kernel)
set_option maxRecDepth 20000 in
theorem zgr_41 : GoodIn lw_tbl wsL_law_r42 := zgood_r _ [929, 930, 931, 932, 933, 934, 935, 936, 1384, 1385, 1386, 1387, 937, 938, 939, 940, 941, 942, 943, 944, 945, 946, 947, 1532] (by decide +kernel) (by decide +kernel)
set_option maxRecDepth 20000 in
theorem zgr_42 : GoodIn lw_tbl wsL_law_r43 := zgood_r _ [1533, 1534, 1535, 1116, 948, 949, 950, 951, 952, 953, 954, 955, 956, 957, 958, 959, 960, 962, 27, 963, 964, 966, 28, 967] (by decide +kernel) (by decide +kernel)
set_option maxRecDepth 20000 in
theorem zgr_43 : GoodIn lw_tbl wsL_law_r44 := zgood_r _ [968, 970, 29, 971, 972, 974, 30, 975, 976, 978, 31, 979, 1536, 1537, 1538, 1539, 1118, 1540, 1542, 69, 1543, 1544, 1546, 70] (by decide +kernel) (by decide +kernel)
set_option maxRecDepth 20000 in
theorem zgr_44 : GoodIn lw_tbl wsL_law_r45 := zgood_r _ [1547, 1548, 1549, 1550, 1551, 1553, 71, 1554, 1555, 1557, 72, 1558, 1559, 1561, 73, 1562, 1563, 1565, 74, 1566, 1567, 1569, 75, 1570] (by decide +kernel) (by decide +kernel)
set_option maxRecDepth 20000 in
theorem zgr_45 : GoodIn lw_tbl wsL_law_r46 := zgood_r _ [1571, 1573, 76, 1574, 1575, 1577, 77, 1578, 1579, 1581, 78, 1582, 1583, 1585, 79, 1586, 1587, 1589, 80, 1590, 1591, 1593, 81, 1594] (by decide +kernel) (by decide +kernel)
set_option maxRecDepth 20000 in
theorem zgr_46 : GoodIn lw_tbl wsL_law_r47 := zgood_r _ [980, 981, 982, 983, 396, 984, 392, 1528, 1529, 1530, 1531, 985, 986, 987, 988, 989, 990, 991, 992, 993, 1599, 1600, 1601, 1602] (by decide +kernel) (by decide +kernel)
set_option maxRecDepth 20000 in
theorem zgr_47 : GoodIn lw_tbl wsL_law_r48 := zgood_r _ [994, 995, 996, 997, 998, 999, 1000, 1001, 1603, 1604, 1605, 1606, 1002, 1003, 1004, 1005, 1006, 1008, 32, 1009, 1010, 1011, 1012, 1013] (by decide +kernel) (by decide +kernel)
set_option maxRecDepth 20000 in
theorem zgr_48 : GoodIn lw_tbl wsL_law_r49 := zgood_r _ [1014, 1015, 1017, 33, 1018, 1607, 1608, 1609, 1610, 1611, 1613, 82, 1614, 1019, 1020, 1021, 1022, 1023, 1615, 1616, 1617, 1618, 1619, 1024] (by decide +kernel) (by decide +kernel)
set_option maxRecDepth 20000 in
theorem zgr_49 : GoodIn lw_tbl wsL_law_r50 := zgood_r _ [1025, 1026, 1027, 422, 426, 1030, 1028, 1029, 1620, 1621, 1622, 1623, 1031, 1032, 1033, 1034, 420, 390, 1035, 1036, 1037, 1038, 1039, 1624] (by decide +kernel) (by decide +kernel)
set_option maxRecDepth 20000 in
theorem zgr_50 : GoodIn lw_tbl wsL_law_r51 := zgood_r _ [1625, 1626, 1627, 1041, 1042, 1043, 1044, 121, 125, 217, 369, 394, 1595, 1596, 1597, 1598] (by decide +kernel) (by decide +kernel)
set_option maxRecDepth 20000 in
theorem zgr_51 : GoodIn lw_tbl wsX70 := zgood_r _ [445, 447, 449, 451, 453, 455, 457, 459] (by decide +kernel) (by decide +kernel)
set_option maxRecDepth 20000 in
theorem zgr_52 : GoodIn lw_tbl wsX80 := zgood_r _ [1124, 1126, 1128, 1130, 1132, 1134, 1136, 1138, 1140, 1142, 1144, 1146, 1148, 1150, 1152, 1154, 1156, 1158, 1160, 1162, 1164, 1166, 1168, 1170, 1172, 1174, 1176, 1178, 1180, 1182, 1184, 1186, 1188, 1190, 1192, 1194, 1196, 1198, 1200, 1202, 1204, 1206, 1208, 1210, 1212, 1214, 1216, 1218, 1220, 1222, 1224, 1226, 1228, 1230, 1232, 1234, 1236, 1238, 1240, 1242, 1244, 1246, 1248, 1250, 1252, 1254, 1256, 1258, 1260, 1262, 1264, 1266, 1268, 1270] (by decide +kernel) (by decide +kernel)
set_option maxRecDepth 20000 in
theorem zgr_53 : GoodIn lw_tbl wsX50 := zgood_r _ [162, 164, 166, 168, 170, 172, 174, 176, 178, 180, 182, 184, 186, 188, 190, 192, 194, 196, 198] (by decide +kernel) (by decide +kernel)
set_option maxRecDepth 20000 in
theorem zgr_54 : GoodIn lw_tbl wsX20 := zgood_r _ [221, 223, 225, 227, 229, 231, 233, 235] (by decide +kernel) (by decide +kernel)
set_option maxRecDepth 20000 in
theorem zgr_55 : GoodIn lw_tbl wsX30 := zgood_r _ [316, 318, 320, 322, 324, 326, 328, 330, 332, 334, 336, 338, 340, 342, 344, 346, 348, 350, 352, 354] (by decide +kernel) (by decide +kernel)
set_option maxRecDepth 20000 in
theorem zgr_56 : GoodIn lw_tbl wsX10 := zgood_r _ [370, 372, 374, 376, 378, 380] (by decide +kernel) (by decide +kernel)
set_option maxRecDepth 20000 in
theorem zgr_57 : GoodIn lw_tbl wsX00 := zgood_r _ [399, 401, 403, 405, 407, 409] (by decide +kernel) (by decide +kernel)
set_option maxRecDepth 20000 in
theorem zgr_58 : GoodIn lw_tbl wsX40 := zgood_r _ [427, 429, 431, 433] (by decide +kernel) (by decide +kernel)
set_option maxRecDepth 20000 in
theorem zgr_59 : GoodIn lw_tbl wsX60 := zgood_r _ [271, 273, 275, 277, 279, 281, 283, 285, 287] (by decide +kernel) (by decide +kernel)
abbrev zTs : List Cond := zWs.flatten
theorem zgr_all : GoodIn lw_tbl zTs := by
  intro w hw
  obtain ⟨l, hl, hwl⟩ := List.mem_flatten.mp hw
  have h : ∀ l ∈ zWs, GoodIn lw_tbl l := List.forall_mem_cons.mpr ⟨zgr_0, List.forall_mem_cons.mpr ⟨zgr_1, List.forall_mem_cons.mpr ⟨zgr_2, List.forall_mem_cons.mpr ⟨zgr_3, List.forall_mem_cons.mpr ⟨zgr_4, List.forall_mem_cons.mpr ⟨zgr_5, List.forall_mem_cons.mpr ⟨zgr_6, List.forall_mem_cons.mpr ⟨zgr_7, List.forall_mem_cons.mpr ⟨zgr_8, List.forall_mem_cons.mpr ⟨zgr_9, List.forall_mem_cons.mpr ⟨zgr_10, List.forall_mem_cons.mpr ⟨zgr_11, List.forall_mem_cons.mpr ⟨zgr_12, List.forall_mem_cons.mpr ⟨zgr_13, List.forall_mem_cons.mpr ⟨zgr_14, List.forall_mem_cons.mpr ⟨zgr_15, List.forall_mem_cons.mpr ⟨zgr_16, List.forall_mem_cons.mpr ⟨zgr_17, List.forall_mem_cons.mpr ⟨zgr_18, List.forall_mem_cons.mpr ⟨zgr_19, List.forall_mem_cons.mpr ⟨zgr_20, List.forall_mem_cons.mpr ⟨zgr_21, List.forall_mem_cons.mpr ⟨zgr_22, List.forall_mem_cons.mpr ⟨zgr_23, List.forall_mem_cons.mpr ⟨zgr_24, List.forall_mem_cons.mpr ⟨zgr_25, List.forall_mem_cons.mpr ⟨zgr_26, List.forall_mem_cons.mpr ⟨zgr_27, List.forall_mem_cons.mpr ⟨zgr_28, List.forall_mem_cons.mpr ⟨zgr_29, List.forall_mem_cons.mpr ⟨zgr_30, List.forall_mem_cons.mpr ⟨zgr_31, List.forall_mem_cons.mpr ⟨zgr_32, List.forall_mem_cons.mpr ⟨zgr_33, List.forall_mem_cons.mpr ⟨zgr_34, List.forall_mem_cons.mpr ⟨zgr_35, List.forall_mem_cons.mpr ⟨zgr_36, List.forall_mem_cons.mpr ⟨zgr_37, List.forall_mem_cons.mpr ⟨zgr_38, List.forall_mem_cons.mpr ⟨zgr_39, List.forall_mem_cons.mpr ⟨zgr_40, List.forall_mem_cons.mpr ⟨zgr_41, List.forall_mem_cons.mpr ⟨zgr_42, List.forall_mem_cons.mpr ⟨zgr_43, List.forall_mem_cons.mpr ⟨zgr_44, List.forall_mem_cons.mpr ⟨zgr_45, List.forall_mem_cons.mpr ⟨zgr_46, List.forall_mem_cons.mpr ⟨zgr_47, List.forall_mem_cons.mpr ⟨zgr_48, List.forall_mem_cons.mpr ⟨zgr_49, List.forall_mem_cons.mpr ⟨zgr_50, List.forall_mem_cons.mpr ⟨zgr_51, List.forall_mem_cons.mpr ⟨zgr_52, List.forall_mem_cons.mpr ⟨zgr_53, List.forall_mem_cons.mpr ⟨zgr_54, List.forall_mem_cons.mpr ⟨zgr_55, List.forall_mem_cons.mpr ⟨zgr_56, List.forall_mem_cons.mpr ⟨zgr_57, List.forall_mem_cons.mpr ⟨zgr_58, List.forall_mem_cons.mpr ⟨zgr_59, (fun _ h => absurd h List.not_mem_nil)⟩⟩⟩⟩⟩⟩⟩⟩⟩⟩⟩⟩⟩⟩⟩⟩⟩⟩⟩⟩⟩⟩⟩⟩⟩⟩⟩⟩⟩⟩⟩⟩⟩⟩⟩⟩⟩⟩⟩⟩⟩⟩⟩⟩⟩⟩⟩⟩⟩⟩⟩⟩⟩⟩⟩⟩⟩⟩⟩⟩
  exact h l hl w hwl
theorem zgr_self : GoodIn zTs zTs := fun w hw => ⟨hw, (zgr_all w hw).2⟩
theorem zTs_tbl : ∀ w ∈ zTs, w ∈ lw_tbl := fun w hw => (zgr_all w hw).1
theorem zin_X7 : ∀ w ∈ wsX70, w ∈ zTs := fun w h => List.mem_flatten.mpr ⟨wsX70, List.mem_of_getElem? (i := 51) rfl, h⟩
theorem zin_X8 : ∀ w ∈ wsX80, w ∈ zTs := fun w h => List.mem_flatten.mpr ⟨wsX80, List.mem_of_getElem? (i := 52) rfl, h⟩
theorem zin_X5 : ∀ w ∈ wsX50, w ∈ zTs := fun w h => List.mem_flatten.mpr ⟨wsX50, List.mem_of_getElem? (i := 53) rfl, h⟩
theorem zin_X2 : ∀ w ∈ wsX20, w ∈ zTs := fun w h => List.mem_flatten.mpr ⟨wsX20, List.mem_of_getElem? (i := 54) rfl, h⟩
theorem zin_X3 : ∀ w ∈ wsX30, w ∈ zTs := fun w h => List.mem_flatten.mpr ⟨wsX30, List.mem_of_getElem? (i := 55) rfl, h⟩
theorem zin_X1 : ∀ w ∈ wsX10, w ∈ zTs := fun w h => List.mem_flatten.mpr ⟨wsX10, List.mem_of_getElem? (i := 56) rfl, h⟩
theorem zin_X0 : ∀ w ∈ wsX00, w ∈ zTs := fun w h => List.mem_flatten.mpr ⟨wsX00, List.mem_of_getElem? (i := 57) rfl, h⟩
theorem zin_X4 : ∀ w ∈ wsX40, w ∈ zTs := fun w h => List.mem_flatten.mpr ⟨wsX40, List.mem_of_getElem? (i := 58) rfl, h⟩
theorem zin_X6 : ∀ w ∈ wsX60, w ∈ zTs := fun w h => List.mem_flatten.mpr ⟨wsX60, List.mem_of_getElem? (i := 59) rfl, h⟩
