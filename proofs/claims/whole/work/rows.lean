section
-- ===== PART A: goes FIRST, ahead of the names: the tables' words, and 'selects' of the private methods out of them =====
/-- a private method of a class that the tables say can be made, by its rows of tables_1 -/
def lw_okq (q : MethodName × Nat) : Prop := (q.1.cls ≠ "java/lang/invoke/MethodHandle" ∧ q.1.cls ≠ "java/lang/invoke/VarHandle") ∧ Cond.instantiable q.1.cls q.2 ∈ tables_1 ∧ Cond.privateMethod q.1 ∈ tables_1 ∧ Cond.instanceMethod q.1 ∈ tables_1
theorem lw_p0 : lw_okq (⟨"ShoeCorner", "isBoy", "(I)Z"⟩, 10) := ⟨⟨by decide +kernel, by decide +kernel⟩, List.mem_of_getElem? (i := 18) (by decide +kernel), List.mem_of_getElem? (i := 282) (by decide +kernel), List.mem_of_getElem? (i := 283) (by decide +kernel)⟩
theorem lw_p1 : lw_okq (⟨"ShoeCorner$Street", "draw", "()I"⟩, 12) := ⟨⟨by decide +kernel, by decide +kernel⟩, List.mem_of_getElem? (i := 55) (by decide +kernel), List.mem_of_getElem? (i := 362) (by decide +kernel), List.mem_of_getElem? (i := 363) (by decide +kernel)⟩
theorem lw_p2 : lw_okq (⟨"ShoeCorner$Street", "receiveMan", "()I"⟩, 12) := ⟨⟨by decide +kernel, by decide +kernel⟩, List.mem_of_getElem? (i := 55) (by decide +kernel), List.mem_of_getElem? (i := 388) (by decide +kernel), List.mem_of_getElem? (i := 389) (by decide +kernel)⟩
theorem lw_p3 : lw_okq (⟨"ShoeCorner", "differences", "(LShoeCorner$Boy;LShoeCorner$Sheet;)I"⟩, 10) := ⟨⟨by decide +kernel, by decide +kernel⟩, List.mem_of_getElem? (i := 18) (by decide +kernel), List.mem_of_getElem? (i := 470) (by decide +kernel), List.mem_of_getElem? (i := 471) (by decide +kernel)⟩
theorem lw_p4 : lw_okq (⟨"ShoeCorner$Tape", "step", "()V"⟩, 6) := ⟨⟨by decide +kernel, by decide +kernel⟩, List.mem_of_getElem? (i := 28) (by decide +kernel), List.mem_of_getElem? (i := 514) (by decide +kernel), List.mem_of_getElem? (i := 515) (by decide +kernel)⟩
theorem lw_p5 : lw_okq (⟨"ShoeCorner$Tape", "keyRead", "()I"⟩, 6) := ⟨⟨by decide +kernel, by decide +kernel⟩, List.mem_of_getElem? (i := 28) (by decide +kernel), List.mem_of_getElem? (i := 524) (by decide +kernel), List.mem_of_getElem? (i := 525) (by decide +kernel)⟩
theorem lw_p6 : lw_okq (⟨"ShoeCorner$Tape", "isWord", "(Ljava/lang/String;)Z"⟩, 6) := ⟨⟨by decide +kernel, by decide +kernel⟩, List.mem_of_getElem? (i := 28) (by decide +kernel), List.mem_of_getElem? (i := 529) (by decide +kernel), List.mem_of_getElem? (i := 530) (by decide +kernel)⟩
theorem lw_p7 : lw_okq (⟨"ShoeCorner$Tape", "expression", "(LShoeCorner$Text;III)Z"⟩, 6) := ⟨⟨by decide +kernel, by decide +kernel⟩, List.mem_of_getElem? (i := 28) (by decide +kernel), List.mem_of_getElem? (i := 587) (by decide +kernel), List.mem_of_getElem? (i := 588) (by decide +kernel)⟩
theorem lw_p8 : lw_okq (⟨"ShoeCorner$Tape", "piece", "(LShoeCorner$Text;II)Z"⟩, 6) := ⟨⟨by decide +kernel, by decide +kernel⟩, List.mem_of_getElem? (i := 28) (by decide +kernel), List.mem_of_getElem? (i := 591) (by decide +kernel), List.mem_of_getElem? (i := 592) (by decide +kernel)⟩
theorem lw_p9 : lw_okq (⟨"ShoeCorner$Tape", "number", "(LShoeCorner$Text;)Z"⟩, 6) := ⟨⟨by decide +kernel, by decide +kernel⟩, List.mem_of_getElem? (i := 28) (by decide +kernel), List.mem_of_getElem? (i := 595) (by decide +kernel), List.mem_of_getElem? (i := 596) (by decide +kernel)⟩
theorem lw_p10 : lw_okq (⟨"ShoeCorner$Text", "addItem", "(I)V"⟩, 6) := ⟨⟨by decide +kernel, by decide +kernel⟩, List.mem_of_getElem? (i := 153) (by decide +kernel), List.mem_of_getElem? (i := 603) (by decide +kernel), List.mem_of_getElem? (i := 604) (by decide +kernel)⟩
theorem lw_p11 : lw_okq (⟨"ShoeCorner$Tape", "name", "(LShoeCorner$Text;)Z"⟩, 6) := ⟨⟨by decide +kernel, by decide +kernel⟩, List.mem_of_getElem? (i := 28) (by decide +kernel), List.mem_of_getElem? (i := 607) (by decide +kernel), List.mem_of_getElem? (i := 608) (by decide +kernel)⟩
theorem lw_p12 : lw_okq (⟨"ShoeCorner$Tape", "isSign", "(I)Z"⟩, 6) := ⟨⟨by decide +kernel, by decide +kernel⟩, List.mem_of_getElem? (i := 28) (by decide +kernel), List.mem_of_getElem? (i := 676) (by decide +kernel), List.mem_of_getElem? (i := 677) (by decide +kernel)⟩
theorem lw_p13 : lw_okq (⟨"ShoeCorner$Tape", "sign", "()I"⟩, 6) := ⟨⟨by decide +kernel, by decide +kernel⟩, List.mem_of_getElem? (i := 28) (by decide +kernel), List.mem_of_getElem? (i := 680) (by decide +kernel), List.mem_of_getElem? (i := 681) (by decide +kernel)⟩
theorem lw_p14 : lw_okq (⟨"ShoeCorner", "waits", "(III)Z"⟩, 10) := ⟨⟨by decide +kernel, by decide +kernel⟩, List.mem_of_getElem? (i := 18) (by decide +kernel), List.mem_of_getElem? (i := 784) (by decide +kernel), List.mem_of_getElem? (i := 785) (by decide +kernel)⟩
theorem lw_p15 : lw_okq (⟨"ShoeCornerModel", "comes", "(IIII)I"⟩, 34) := ⟨⟨by decide +kernel, by decide +kernel⟩, List.mem_of_getElem? (i := 800) (by decide +kernel), List.mem_of_getElem? (i := 923) (by decide +kernel), List.mem_of_getElem? (i := 924) (by decide +kernel)⟩
def lw_privs_1 : List (MethodName × Nat) := [(⟨"ShoeCorner", "isBoy", "(I)Z"⟩, 10), (⟨"ShoeCorner$Street", "draw", "()I"⟩, 12), (⟨"ShoeCorner$Street", "receiveMan", "()I"⟩, 12), (⟨"ShoeCorner", "differences", "(LShoeCorner$Boy;LShoeCorner$Sheet;)I"⟩, 10), (⟨"ShoeCorner$Tape", "step", "()V"⟩, 6), (⟨"ShoeCorner$Tape", "keyRead", "()I"⟩, 6), (⟨"ShoeCorner$Tape", "isWord", "(Ljava/lang/String;)Z"⟩, 6), (⟨"ShoeCorner$Tape", "expression", "(LShoeCorner$Text;III)Z"⟩, 6), (⟨"ShoeCorner$Tape", "piece", "(LShoeCorner$Text;II)Z"⟩, 6), (⟨"ShoeCorner$Tape", "number", "(LShoeCorner$Text;)Z"⟩, 6), (⟨"ShoeCorner$Text", "addItem", "(I)V"⟩, 6), (⟨"ShoeCorner$Tape", "name", "(LShoeCorner$Text;)Z"⟩, 6), (⟨"ShoeCorner$Tape", "isSign", "(I)Z"⟩, 6), (⟨"ShoeCorner$Tape", "sign", "()I"⟩, 6), (⟨"ShoeCorner", "waits", "(III)Z"⟩, 10), (⟨"ShoeCornerModel", "comes", "(IIII)I"⟩, 34)]
theorem lw_r1 : ∀ q ∈ lw_privs_1, lw_okq q := List.forall_mem_cons.mpr ⟨lw_p0, List.forall_mem_cons.mpr ⟨lw_p1, List.forall_mem_cons.mpr ⟨lw_p2, List.forall_mem_cons.mpr ⟨lw_p3, List.forall_mem_cons.mpr ⟨lw_p4, List.forall_mem_cons.mpr ⟨lw_p5, List.forall_mem_cons.mpr ⟨lw_p6, List.forall_mem_cons.mpr ⟨lw_p7, List.forall_mem_cons.mpr ⟨lw_p8, List.forall_mem_cons.mpr ⟨lw_p9, List.forall_mem_cons.mpr ⟨lw_p10, List.forall_mem_cons.mpr ⟨lw_p11, List.forall_mem_cons.mpr ⟨lw_p12, List.forall_mem_cons.mpr ⟨lw_p13, List.forall_mem_cons.mpr ⟨lw_p14, List.forall_mem_cons.mpr ⟨lw_p15, fun _ h => absurd h List.not_mem_nil⟩⟩⟩⟩⟩⟩⟩⟩⟩⟩⟩⟩⟩⟩⟩⟩
theorem lw_p16 : lw_okq (⟨"ShoeCornerModel", "put", "(III)V"⟩, 34) := ⟨⟨by decide +kernel, by decide +kernel⟩, List.mem_of_getElem? (i := 800) (by decide +kernel), List.mem_of_getElem? (i := 927) (by decide +kernel), List.mem_of_getElem? (i := 928) (by decide +kernel)⟩
theorem lw_p17 : lw_okq (⟨"ShoeCornerModel", "isBoy", "(I)Z"⟩, 34) := ⟨⟨by decide +kernel, by decide +kernel⟩, List.mem_of_getElem? (i := 800) (by decide +kernel), List.mem_of_getElem? (i := 935) (by decide +kernel), List.mem_of_getElem? (i := 936) (by decide +kernel)⟩
theorem lw_p18 : lw_okq (⟨"ShoeCornerModel", "of", "(II)I"⟩, 34) := ⟨⟨by decide +kernel, by decide +kernel⟩, List.mem_of_getElem? (i := 800) (by decide +kernel), List.mem_of_getElem? (i := 939) (by decide +kernel), List.mem_of_getElem? (i := 940) (by decide +kernel)⟩
theorem lw_p19 : lw_okq (⟨"ShoeCornerModel", "takesOf", "(I)I"⟩, 34) := ⟨⟨by decide +kernel, by decide +kernel⟩, List.mem_of_getElem? (i := 800) (by decide +kernel), List.mem_of_getElem? (i := 943) (by decide +kernel), List.mem_of_getElem? (i := 944) (by decide +kernel)⟩
theorem lw_p20 : lw_okq (⟨"ShoeCornerModel", "asksOf", "(I)I"⟩, 34) := ⟨⟨by decide +kernel, by decide +kernel⟩, List.mem_of_getElem? (i := 800) (by decide +kernel), List.mem_of_getElem? (i := 947) (by decide +kernel), List.mem_of_getElem? (i := 948) (by decide +kernel)⟩
theorem lw_p21 : lw_okq (⟨"ShoeCornerModel", "worthOf", "(I)I"⟩, 34) := ⟨⟨by decide +kernel, by decide +kernel⟩, List.mem_of_getElem? (i := 800) (by decide +kernel), List.mem_of_getElem? (i := 951) (by decide +kernel), List.mem_of_getElem? (i := 952) (by decide +kernel)⟩
theorem lw_p22 : lw_okq (⟨"ShoeCornerModel", "shineOf", "(III)I"⟩, 34) := ⟨⟨by decide +kernel, by decide +kernel⟩, List.mem_of_getElem? (i := 800) (by decide +kernel), List.mem_of_getElem? (i := 959) (by decide +kernel), List.mem_of_getElem? (i := 960) (by decide +kernel)⟩
theorem lw_p23 : lw_okq (⟨"ShoeCornerModel", "plainOf", "(III)I"⟩, 34) := ⟨⟨by decide +kernel, by decide +kernel⟩, List.mem_of_getElem? (i := 800) (by decide +kernel), List.mem_of_getElem? (i := 963) (by decide +kernel), List.mem_of_getElem? (i := 964) (by decide +kernel)⟩
theorem lw_p24 : lw_okq (⟨"ShoeCornerModel", "counts", "(I)I"⟩, 34) := ⟨⟨by decide +kernel, by decide +kernel⟩, List.mem_of_getElem? (i := 800) (by decide +kernel), List.mem_of_getElem? (i := 967) (by decide +kernel), List.mem_of_getElem? (i := 968) (by decide +kernel)⟩
theorem lw_p25 : lw_okq (⟨"ShoeCornerModel", "worksOut", "(I)I"⟩, 34) := ⟨⟨by decide +kernel, by decide +kernel⟩, List.mem_of_getElem? (i := 800) (by decide +kernel), List.mem_of_getElem? (i := 971) (by decide +kernel), List.mem_of_getElem? (i := 972) (by decide +kernel)⟩
theorem lw_p26 : lw_okq (⟨"ShoeCornerModel", "becomes", "(II)I"⟩, 34) := ⟨⟨by decide +kernel, by decide +kernel⟩, List.mem_of_getElem? (i := 800) (by decide +kernel), List.mem_of_getElem? (i := 993) (by decide +kernel), List.mem_of_getElem? (i := 994) (by decide +kernel)⟩
theorem lw_p27 : lw_okq (⟨"ShoeCornerModel", "draw", "()I"⟩, 34) := ⟨⟨by decide +kernel, by decide +kernel⟩, List.mem_of_getElem? (i := 800) (by decide +kernel), List.mem_of_getElem? (i := 1005) (by decide +kernel), List.mem_of_getElem? (i := 1006) (by decide +kernel)⟩
theorem lw_p28 : lw_okq (⟨"ShoeCornerModel", "sumOf", "(I)I"⟩, 34) := ⟨⟨by decide +kernel, by decide +kernel⟩, List.mem_of_getElem? (i := 800) (by decide +kernel), List.mem_of_getElem? (i := 1022) (by decide +kernel), List.mem_of_getElem? (i := 1023) (by decide +kernel)⟩
theorem lw_p29 : lw_okq (⟨"ShoeCornerModel", "goesOn", "(I)V"⟩, 34) := ⟨⟨by decide +kernel, by decide +kernel⟩, List.mem_of_getElem? (i := 800) (by decide +kernel), List.mem_of_getElem? (i := 1026) (by decide +kernel), List.mem_of_getElem? (i := 1027) (by decide +kernel)⟩
theorem lw_p30 : lw_okq (⟨"ShoeCornerModel", "minute", "()V"⟩, 34) := ⟨⟨by decide +kernel, by decide +kernel⟩, List.mem_of_getElem? (i := 800) (by decide +kernel), List.mem_of_getElem? (i := 1030) (by decide +kernel), List.mem_of_getElem? (i := 1031) (by decide +kernel)⟩
theorem lw_p31 : lw_okq (⟨"ShoeCornerModel", "man", "()V"⟩, 34) := ⟨⟨by decide +kernel, by decide +kernel⟩, List.mem_of_getElem? (i := 800) (by decide +kernel), List.mem_of_getElem? (i := 1034) (by decide +kernel), List.mem_of_getElem? (i := 1035) (by decide +kernel)⟩
def lw_privs_2 : List (MethodName × Nat) := [(⟨"ShoeCornerModel", "put", "(III)V"⟩, 34), (⟨"ShoeCornerModel", "isBoy", "(I)Z"⟩, 34), (⟨"ShoeCornerModel", "of", "(II)I"⟩, 34), (⟨"ShoeCornerModel", "takesOf", "(I)I"⟩, 34), (⟨"ShoeCornerModel", "asksOf", "(I)I"⟩, 34), (⟨"ShoeCornerModel", "worthOf", "(I)I"⟩, 34), (⟨"ShoeCornerModel", "shineOf", "(III)I"⟩, 34), (⟨"ShoeCornerModel", "plainOf", "(III)I"⟩, 34), (⟨"ShoeCornerModel", "counts", "(I)I"⟩, 34), (⟨"ShoeCornerModel", "worksOut", "(I)I"⟩, 34), (⟨"ShoeCornerModel", "becomes", "(II)I"⟩, 34), (⟨"ShoeCornerModel", "draw", "()I"⟩, 34), (⟨"ShoeCornerModel", "sumOf", "(I)I"⟩, 34), (⟨"ShoeCornerModel", "goesOn", "(I)V"⟩, 34), (⟨"ShoeCornerModel", "minute", "()V"⟩, 34), (⟨"ShoeCornerModel", "man", "()V"⟩, 34)]
theorem lw_r2 : ∀ q ∈ lw_privs_2, lw_okq q := List.forall_mem_cons.mpr ⟨lw_p16, List.forall_mem_cons.mpr ⟨lw_p17, List.forall_mem_cons.mpr ⟨lw_p18, List.forall_mem_cons.mpr ⟨lw_p19, List.forall_mem_cons.mpr ⟨lw_p20, List.forall_mem_cons.mpr ⟨lw_p21, List.forall_mem_cons.mpr ⟨lw_p22, List.forall_mem_cons.mpr ⟨lw_p23, List.forall_mem_cons.mpr ⟨lw_p24, List.forall_mem_cons.mpr ⟨lw_p25, List.forall_mem_cons.mpr ⟨lw_p26, List.forall_mem_cons.mpr ⟨lw_p27, List.forall_mem_cons.mpr ⟨lw_p28, List.forall_mem_cons.mpr ⟨lw_p29, List.forall_mem_cons.mpr ⟨lw_p30, List.forall_mem_cons.mpr ⟨lw_p31, fun _ h => absurd h List.not_mem_nil⟩⟩⟩⟩⟩⟩⟩⟩⟩⟩⟩⟩⟩⟩⟩⟩
theorem lw_p32 : lw_okq (⟨"ShoeCornerModel", "boyFor", "(II)I"⟩, 34) := ⟨⟨by decide +kernel, by decide +kernel⟩, List.mem_of_getElem? (i := 800) (by decide +kernel), List.mem_of_getElem? (i := 1038) (by decide +kernel), List.mem_of_getElem? (i := 1039) (by decide +kernel)⟩
theorem lw_p33 : lw_okq (⟨"ShoeCornerModel", "serves", "(II)V"⟩, 34) := ⟨⟨by decide +kernel, by decide +kernel⟩, List.mem_of_getElem? (i := 800) (by decide +kernel), List.mem_of_getElem? (i := 1045) (by decide +kernel), List.mem_of_getElem? (i := 1046) (by decide +kernel)⟩
theorem lw_p34 : lw_okq (⟨"ShoeCornerModel", "busy", "()I"⟩, 34) := ⟨⟨by decide +kernel, by decide +kernel⟩, List.mem_of_getElem? (i := 800) (by decide +kernel), List.mem_of_getElem? (i := 1053) (by decide +kernel), List.mem_of_getElem? (i := 1054) (by decide +kernel)⟩
theorem lw_p35 : lw_okq (⟨"ShoeCornerModel", "thinks", "()V"⟩, 34) := ⟨⟨by decide +kernel, by decide +kernel⟩, List.mem_of_getElem? (i := 800) (by decide +kernel), List.mem_of_getElem? (i := 1069) (by decide +kernel), List.mem_of_getElem? (i := 1070) (by decide +kernel)⟩
theorem lw_p36 : lw_okq (⟨"ShoeCornerModel", "putsBack", "()V"⟩, 34) := ⟨⟨by decide +kernel, by decide +kernel⟩, List.mem_of_getElem? (i := 800) (by decide +kernel), List.mem_of_getElem? (i := 1074) (by decide +kernel), List.mem_of_getElem? (i := 1075) (by decide +kernel)⟩
theorem lw_p37 : lw_okq (⟨"ShoeCornerModel", "offBy", "(II)J"⟩, 34) := ⟨⟨by decide +kernel, by decide +kernel⟩, List.mem_of_getElem? (i := 800) (by decide +kernel), List.mem_of_getElem? (i := 1102) (by decide +kernel), List.mem_of_getElem? (i := 1103) (by decide +kernel)⟩
theorem lw_p38 : lw_okq (⟨"ShoeCornerModel", "go", "()V"⟩, 34) := ⟨⟨by decide +kernel, by decide +kernel⟩, List.mem_of_getElem? (i := 800) (by decide +kernel), List.mem_of_getElem? (i := 1126) (by decide +kernel), List.mem_of_getElem? (i := 1127) (by decide +kernel)⟩
theorem lw_p39 : lw_okq (⟨"ShoeCornerModel", "isLetter", "(I)Z"⟩, 34) := ⟨⟨by decide +kernel, by decide +kernel⟩, List.mem_of_getElem? (i := 800) (by decide +kernel), List.mem_of_getElem? (i := 1130) (by decide +kernel), List.mem_of_getElem? (i := 1131) (by decide +kernel)⟩
theorem lw_p40 : lw_okq (⟨"ShoeCornerModel", "isFigure", "(I)Z"⟩, 34) := ⟨⟨by decide +kernel, by decide +kernel⟩, List.mem_of_getElem? (i := 800) (by decide +kernel), List.mem_of_getElem? (i := 1134) (by decide +kernel), List.mem_of_getElem? (i := 1135) (by decide +kernel)⟩
theorem lw_p41 : lw_okq (⟨"ShoeCornerModel", "takesKey", "()Z"⟩, 34) := ⟨⟨by decide +kernel, by decide +kernel⟩, List.mem_of_getElem? (i := 800) (by decide +kernel), List.mem_of_getElem? (i := 1138) (by decide +kernel), List.mem_of_getElem? (i := 1139) (by decide +kernel)⟩
theorem lw_p42 : lw_okq (⟨"ShoeCornerModel", "takesE", "()Z"⟩, 34) := ⟨⟨by decide +kernel, by decide +kernel⟩, List.mem_of_getElem? (i := 800) (by decide +kernel), List.mem_of_getElem? (i := 1142) (by decide +kernel), List.mem_of_getElem? (i := 1143) (by decide +kernel)⟩
theorem lw_p43 : lw_okq (⟨"ShoeCornerModel", "takesPart", "()Z"⟩, 34) := ⟨⟨by decide +kernel, by decide +kernel⟩, List.mem_of_getElem? (i := 800) (by decide +kernel), List.mem_of_getElem? (i := 1146) (by decide +kernel), List.mem_of_getElem? (i := 1147) (by decide +kernel)⟩
theorem lw_p44 : lw_okq (⟨"ShoeCornerModel", "nameOf", "(I)I"⟩, 34) := ⟨⟨by decide +kernel, by decide +kernel⟩, List.mem_of_getElem? (i := 800) (by decide +kernel), List.mem_of_getElem? (i := 1150) (by decide +kernel), List.mem_of_getElem? (i := 1151) (by decide +kernel)⟩
theorem lw_p45 : lw_okq (⟨"ShoeCornerModel", "settle", "(I)V"⟩, 34) := ⟨⟨by decide +kernel, by decide +kernel⟩, List.mem_of_getElem? (i := 800) (by decide +kernel), List.mem_of_getElem? (i := 1154) (by decide +kernel), List.mem_of_getElem? (i := 1155) (by decide +kernel)⟩
theorem lw_p46 : lw_okq (⟨"ShoeCornerModel", "notsOpen", "()I"⟩, 34) := ⟨⟨by decide +kernel, by decide +kernel⟩, List.mem_of_getElem? (i := 800) (by decide +kernel), List.mem_of_getElem? (i := 1161) (by decide +kernel), List.mem_of_getElem? (i := 1162) (by decide +kernel)⟩
theorem lw_p47 : lw_okq (⟨"ShoeCornerModel", "signHere", "()I"⟩, 34) := ⟨⟨by decide +kernel, by decide +kernel⟩, List.mem_of_getElem? (i := 800) (by decide +kernel), List.mem_of_getElem? (i := 1165) (by decide +kernel), List.mem_of_getElem? (i := 1166) (by decide +kernel)⟩
def lw_privs_3 : List (MethodName × Nat) := [(⟨"ShoeCornerModel", "boyFor", "(II)I"⟩, 34), (⟨"ShoeCornerModel", "serves", "(II)V"⟩, 34), (⟨"ShoeCornerModel", "busy", "()I"⟩, 34), (⟨"ShoeCornerModel", "thinks", "()V"⟩, 34), (⟨"ShoeCornerModel", "putsBack", "()V"⟩, 34), (⟨"ShoeCornerModel", "offBy", "(II)J"⟩, 34), (⟨"ShoeCornerModel", "go", "()V"⟩, 34), (⟨"ShoeCornerModel", "isLetter", "(I)Z"⟩, 34), (⟨"ShoeCornerModel", "isFigure", "(I)Z"⟩, 34), (⟨"ShoeCornerModel", "takesKey", "()Z"⟩, 34), (⟨"ShoeCornerModel", "takesE", "()Z"⟩, 34), (⟨"ShoeCornerModel", "takesPart", "()Z"⟩, 34), (⟨"ShoeCornerModel", "nameOf", "(I)I"⟩, 34), (⟨"ShoeCornerModel", "settle", "(I)V"⟩, 34), (⟨"ShoeCornerModel", "notsOpen", "()I"⟩, 34), (⟨"ShoeCornerModel", "signHere", "()I"⟩, 34)]
theorem lw_r3 : ∀ q ∈ lw_privs_3, lw_okq q := List.forall_mem_cons.mpr ⟨lw_p32, List.forall_mem_cons.mpr ⟨lw_p33, List.forall_mem_cons.mpr ⟨lw_p34, List.forall_mem_cons.mpr ⟨lw_p35, List.forall_mem_cons.mpr ⟨lw_p36, List.forall_mem_cons.mpr ⟨lw_p37, List.forall_mem_cons.mpr ⟨lw_p38, List.forall_mem_cons.mpr ⟨lw_p39, List.forall_mem_cons.mpr ⟨lw_p40, List.forall_mem_cons.mpr ⟨lw_p41, List.forall_mem_cons.mpr ⟨lw_p42, List.forall_mem_cons.mpr ⟨lw_p43, List.forall_mem_cons.mpr ⟨lw_p44, List.forall_mem_cons.mpr ⟨lw_p45, List.forall_mem_cons.mpr ⟨lw_p46, List.forall_mem_cons.mpr ⟨lw_p47, fun _ h => absurd h List.not_mem_nil⟩⟩⟩⟩⟩⟩⟩⟩⟩⟩⟩⟩⟩⟩⟩⟩
def lw_privs : List (MethodName × Nat) := lw_privs_1 ++ (lw_privs_2 ++ (lw_privs_3))
def lw_tbl : List Cond := k2_sels lw_privs ++ tables_1
theorem lw_privs_ok : ∀ q ∈ lw_privs, lw_okq q := by
  show ∀ q ∈ lw_privs_1 ++ (lw_privs_2 ++ (lw_privs_3)), lw_okq q
  exact List.forall_mem_append.mpr ⟨lw_r1, List.forall_mem_append.mpr ⟨lw_r2, lw_r3⟩⟩
end
section
def RX0 : String := "ShoeCorner$Boy"
def TX0 : u_T := fun k => match k with
  | 0 => ("ShoeCorner$Boy", "kind", "I", false)
  | 1 => ("ShoeCorner$Boy", "place", "I", false)
  | 2 => ("ShoeCorner$Boy", "price", "I", false)
  | 3 => ("ShoeCorner$Boy", "rubs", "I", false)
  | 4 => ("ShoeCorner$Boy", "purse", "I", false)
  | 5 => ("ShoeCorner$Boy", "busy", "I", false)
  | _ => ("ShoeCorner$Boy", "done", "I", false)
def tyX0 : Nat → FieldType := fun k => match k with
  | 0 => .int
  | 1 => .int
  | 2 => .int
  | 3 => .int
  | 4 => .int
  | 5 => .int
  | _ => .int
abbrev wsX00 : List Cond := u_ws RX0 TX0 7
theorem nmX0 : ∀ a, a < 7 → ∀ b, b < 7 → a ≠ b → (TX0 a).2.1 ≠ (TX0 b).2.1 := by decide +kernel
theorem tyX0_ok : ∀ k, k < 7 → parseFieldDescriptor (TX0 k).2.2.1 = some (tyX0 k) := by decide +kernel
abbrev cX0_init : ByteArray := prog_2_method_1_code
def yX0_init : MethodName := ⟨RX0, "<init>", "()V"⟩
abbrev cX0_mayBe : ByteArray := prog_2_method_2_code
def yX0_mayBe : MethodName := ⟨RX0, "mayBe", "(II)Z"⟩
abbrev cX0_change : ByteArray := prog_2_method_3_code
def yX0_change : MethodName := ⟨RX0, "change", "(II)V"⟩
abbrev cX0_become : ByteArray := prog_2_method_4_code
def yX0_become : MethodName := ⟨RX0, "become", "(LShoeCorner$Boy;)V"⟩
abbrev cX0_start : ByteArray := prog_2_method_5_code
def yX0_start : MethodName := ⟨RX0, "start", "(IIII)V"⟩
abbrev cX0_fact : ByteArray := prog_2_method_6_code
def yX0_fact : MethodName := ⟨RX0, "fact", "(I)I"⟩
def RX1 : String := "ShoeCorner$Kinds"
def TX1 : u_T := fun k => match k with
  | _ => ("", "", "", false)
def tyX1 : Nat → FieldType := fun k => match k with
  | _ => .int
abbrev wsX10 : List Cond := u_ws RX1 TX1 0
theorem nmX1 : ∀ a, a < 0 → ∀ b, b < 0 → a ≠ b → (TX1 a).2.1 ≠ (TX1 b).2.1 := by decide +kernel
theorem tyX1_ok : ∀ k, k < 0 → parseFieldDescriptor (TX1 k).2.2.1 = some (tyX1 k) := by decide +kernel
abbrev cX1_isUnder : ByteArray := prog_3_method_2_code
def yX1_isUnder : MethodName := ⟨RX1, "isUnder", "(II)Z"⟩
abbrev cX1_takes : ByteArray := prog_3_method_3_code
def yX1_takes : MethodName := ⟨RX1, "takes", "(II)I"⟩
abbrev cX1_asks : ByteArray := prog_3_method_4_code
def yX1_asks : MethodName := ⟨RX1, "asks", "(II)I"⟩
abbrev cX1_worth : ByteArray := prog_3_method_5_code
def yX1_worth : MethodName := ⟨RX1, "worth", "(II)I"⟩
abbrev cX1_shineFrom : ByteArray := prog_3_method_6_code
def yX1_shineFrom : MethodName := ⟨RX1, "shineFrom", "(III)I"⟩
def RX2 : String := "ShoeCorner$Sheet"
def TX2 : u_T := fun k => match k with
  | 0 => ("ShoeCorner$Sheet", "sort", "I", false)
  | 1 => ("ShoeCorner$Sheet", "count", "I", false)
  | _ => ("ShoeCorner$Sheet", "places", "[I", true)
def tyX2 : Nat → FieldType := fun k => match k with
  | 0 => .int
  | 1 => .int
  | _ => .array .int
abbrev wsX20 : List Cond := u_ws RX2 TX2 3
theorem nmX2 : ∀ a, a < 3 → ∀ b, b < 3 → a ≠ b → (TX2 a).2.1 ≠ (TX2 b).2.1 := by decide +kernel
theorem tyX2_ok : ∀ k, k < 3 → parseFieldDescriptor (TX2 k).2.2.1 = some (tyX2 k) := by decide +kernel
abbrev cX2_init : ByteArray := prog_4_method_1_code
def yX2_init : MethodName := ⟨RX2, "<init>", "()V"⟩
abbrev cX2_renew : ByteArray := prog_4_method_2_code
def yX2_renew : MethodName := ⟨RX2, "renew", "(II)V"⟩
abbrev cX2_become : ByteArray := prog_4_method_3_code
def yX2_become : MethodName := ⟨RX2, "become", "(LShoeCorner$Sheet;)V"⟩
abbrev cX2_isMissing : ByteArray := prog_4_method_4_code
def yX2_isMissing : MethodName := ⟨RX2, "isMissing", "()Z"⟩
abbrev cX2_hasPlace : ByteArray := prog_4_method_5_code
def yX2_hasPlace : MethodName := ⟨RX2, "hasPlace", "(I)Z"⟩
abbrev cX2_hasPlaces : ByteArray := prog_4_method_6_code
def yX2_hasPlaces : MethodName := ⟨RX2, "hasPlaces", "(II)Z"⟩
abbrev cX2_hasNumber : ByteArray := prog_4_method_7_code
def yX2_hasNumber : MethodName := ⟨RX2, "hasNumber", "(I)Z"⟩
def RX3 : String := "ShoeCorner$Slot"
def TX3 : u_T := fun k => match k with
  | 0 => ("ShoeCorner$Slot", "thing", "I", false)
  | 1 => ("ShoeCorner$Slot", "number", "I", false)
  | 2 => ("ShoeCorner$Slot", "boy", "LShoeCorner$Boy;", true)
  | _ => ("ShoeCorner$Slot", "sheet", "LShoeCorner$Sheet;", true)
def tyX3 : Nat → FieldType := fun k => match k with
  | 0 => .int
  | 1 => .int
  | 2 => .object "ShoeCorner$Boy"
  | _ => .object "ShoeCorner$Sheet"
abbrev wsX30 : List Cond := u_ws RX3 TX3 4
theorem nmX3 : ∀ a, a < 4 → ∀ b, b < 4 → a ≠ b → (TX3 a).2.1 ≠ (TX3 b).2.1 := by decide +kernel
theorem tyX3_ok : ∀ k, k < 4 → parseFieldDescriptor (TX3 k).2.2.1 = some (tyX3 k) := by decide +kernel
abbrev cX3_init : ByteArray := prog_5_method_1_code
def yX3_init : MethodName := ⟨RX3, "<init>", "()V"⟩
abbrev cX3_findingFor : ByteArray := prog_5_method_2_code
def yX3_findingFor : MethodName := ⟨RX3, "findingFor", "(I)I"⟩
def RX4 : String := "ShoeCorner$Street"
def TX4 : u_T := fun k => match k with
  | 0 => ("ShoeCorner$Street", "boys", "[LShoeCorner$Boy;", true)
  | 1 => ("ShoeCorner$Street", "laws", "[LShoeCorner$Text;", true)
  | 2 => ("ShoeCorner$Street", "boyCount", "I", false)
  | 3 => ("ShoeCorner$Street", "textCount", "I", false)
  | 4 => ("ShoeCorner$Street", "share", "I", false)
  | 5 => ("ShoeCorner$Street", "owner", "I", false)
  | 6 => ("ShoeCorner$Street", "rain", "I", false)
  | 7 => ("ShoeCorner$Street", "lost", "I", false)
  | 8 => ("ShoeCorner$Street", "minute", "I", false)
  | 9 => ("ShoeCorner$Street", "z", "I", false)
  | 10 => ("ShoeCorner$Street", "wet", "Z", false)
  | _ => ("ShoeCorner$Street", "away", "I", false)
def tyX4 : Nat → FieldType := fun k => match k with
  | 0 => .array (.object "ShoeCorner$Boy")
  | 1 => .array (.object "ShoeCorner$Text")
  | 2 => .int
  | 3 => .int
  | 4 => .int
  | 5 => .int
  | 6 => .int
  | 7 => .int
  | 8 => .int
  | 9 => .int
  | 10 => .boolean
  | _ => .int
abbrev wsX40 : List Cond := u_ws RX4 TX4 12
theorem nmX4 : ∀ a, a < 12 → ∀ b, b < 12 → a ≠ b → (TX4 a).2.1 ≠ (TX4 b).2.1 := by decide +kernel
theorem tyX4_ok : ∀ k, k < 12 → parseFieldDescriptor (TX4 k).2.2.1 = some (tyX4 k) := by decide +kernel
abbrev cX4_init : ByteArray := prog_6_method_1_code
def yX4_init : MethodName := ⟨RX4, "<init>", "()V"⟩
abbrev cX4_become : ByteArray := prog_6_method_2_code
def yX4_become : MethodName := ⟨RX4, "become", "(LShoeCorner$Street;)V"⟩
abbrev cX4_addBoy : ByteArray := prog_6_method_3_code
def yX4_addBoy : MethodName := ⟨RX4, "addBoy", "(IIII)V"⟩
abbrev cX4_drawBoy : ByteArray := prog_6_method_4_code
def yX4_drawBoy : MethodName := ⟨RX4, "drawBoy", "()V"⟩
abbrev cX4_countText : ByteArray := prog_6_method_5_code
def yX4_countText : MethodName := ⟨RX4, "countText", "(LShoeCorner$Text;)V"⟩
abbrev cX4_law : ByteArray := prog_6_method_6_code
def yX4_law : MethodName := ⟨RX4, "law", "(I)LShoeCorner$Text;"⟩
abbrev cX4_shineOf : ByteArray := prog_6_method_7_code
def yX4_shineOf : MethodName := ⟨RX4, "shineOf", "(LShoeCorner$Boy;II)I"⟩
abbrev cX4_bareShine : ByteArray := prog_6_method_8_code
def yX4_bareShine : MethodName := ⟨RX4, "bareShine", "(II)I"⟩
abbrev cX4_draw : ByteArray := prog_6_method_9_code
def yX4_draw : MethodName := ⟨RX4, "draw", "()I"⟩
abbrev cX4_passMinutes : ByteArray := prog_6_method_10_code
def yX4_passMinutes : MethodName := ⟨RX4, "passMinutes", "(I)I"⟩
abbrev cX4_passMinute : ByteArray := prog_6_method_11_code
def yX4_passMinute : MethodName := ⟨RX4, "passMinute", "()I"⟩
abbrev cX4_receiveMan : ByteArray := prog_6_method_12_code
def yX4_receiveMan : MethodName := ⟨RX4, "receiveMan", "()I"⟩
abbrev cX4_paidTo : ByteArray := prog_6_method_13_code
def yX4_paidTo : MethodName := ⟨RX4, "paidTo", "(LShoeCorner$Boy;I)I"⟩
abbrev cX4_chosenBoy : ByteArray := prog_6_method_14_code
def yX4_chosenBoy : MethodName := ⟨RX4, "chosenBoy", "(II)I"⟩
abbrev cX4_purses : ByteArray := prog_6_method_15_code
def yX4_purses : MethodName := ⟨RX4, "purses", "()I"⟩
abbrev cX4_menDone : ByteArray := prog_6_method_16_code
def yX4_menDone : MethodName := ⟨RX4, "menDone", "()I"⟩
abbrev cX4_busyBoys : ByteArray := prog_6_method_17_code
def yX4_busyBoys : MethodName := ⟨RX4, "busyBoys", "()I"⟩
def RX5 : String := "ShoeCorner$Tape"
def TX5 : u_T := fun k => match k with
  | 0 => ("ShoeCorner$Tape", "count", "I", false)
  | 1 => ("ShoeCorner$Tape", "bytes", "[B", true)
  | 2 => ("ShoeCorner$Tape", "end", "I", false)
  | 3 => ("ShoeCorner$Tape", "token", "I", false)
  | 4 => ("ShoeCorner$Tape", "start", "I", false)
  | _ => ("ShoeCorner$Tape", "at", "I", false)
def tyX5 : Nat → FieldType := fun k => match k with
  | 0 => .int
  | 1 => .array .byte
  | 2 => .int
  | 3 => .int
  | 4 => .int
  | _ => .int
abbrev wsX50 : List Cond := u_ws RX5 TX5 6
theorem nmX5 : ∀ a, a < 6 → ∀ b, b < 6 → a ≠ b → (TX5 a).2.1 ≠ (TX5 b).2.1 := by decide +kernel
theorem tyX5_ok : ∀ k, k < 6 → parseFieldDescriptor (TX5 k).2.2.1 = some (tyX5 k) := by decide +kernel
abbrev cX5_init : ByteArray := prog_7_method_1_code
def yX5_init : MethodName := ⟨RX5, "<init>", "()V"⟩
abbrev cX5_addNumber : ByteArray := prog_7_method_2_code
def yX5_addNumber : MethodName := ⟨RX5, "addNumber", "(I)V"⟩
abbrev cX5_useUp : ByteArray := prog_7_method_3_code
def yX5_useUp : MethodName := ⟨RX5, "useUp", "(LShoeCorner$Text;)I"⟩
abbrev cX5_keyRead : ByteArray := prog_7_method_4_code
def yX5_keyRead : MethodName := ⟨RX5, "keyRead", "()I"⟩
abbrev cX5_isWord : ByteArray := prog_7_method_5_code
def yX5_isWord : MethodName := ⟨RX5, "isWord", "(Ljava/lang/String;)Z"⟩
abbrev cX5_expression : ByteArray := prog_7_method_6_code
def yX5_expression : MethodName := ⟨RX5, "expression", "(LShoeCorner$Text;III)Z"⟩
abbrev cX5_levelOf : ByteArray := prog_7_method_7_code
def yX5_levelOf : MethodName := ⟨RX5, "levelOf", "(I)I"⟩
abbrev cX5_piece : ByteArray := prog_7_method_8_code
def yX5_piece : MethodName := ⟨RX5, "piece", "(LShoeCorner$Text;II)Z"⟩
abbrev cX5_number : ByteArray := prog_7_method_9_code
def yX5_number : MethodName := ⟨RX5, "number", "(LShoeCorner$Text;)Z"⟩
abbrev cX5_name : ByteArray := prog_7_method_10_code
def yX5_name : MethodName := ⟨RX5, "name", "(LShoeCorner$Text;)Z"⟩
abbrev cX5_isSign : ByteArray := prog_7_method_11_code
def yX5_isSign : MethodName := ⟨RX5, "isSign", "(I)Z"⟩
abbrev cX5_sign : ByteArray := prog_7_method_12_code
def yX5_sign : MethodName := ⟨RX5, "sign", "()I"⟩
abbrev cX5_step : ByteArray := prog_7_method_13_code
def yX5_step : MethodName := ⟨RX5, "step", "()V"⟩
abbrev cX5_isLetter : ByteArray := prog_7_method_14_code
def yX5_isLetter : MethodName := ⟨RX5, "isLetter", "(I)Z"⟩
abbrev cX5_isDigit : ByteArray := prog_7_method_15_code
def yX5_isDigit : MethodName := ⟨RX5, "isDigit", "(I)Z"⟩
def RX6 : String := "ShoeCorner$Text"
def TX6 : u_T := fun k => match k with
  | 0 => ("ShoeCorner$Text", "number", "I", true)
  | 1 => ("ShoeCorner$Text", "key", "I", false)
  | 2 => ("ShoeCorner$Text", "operands", "I", false)
  | 3 => ("ShoeCorner$Text", "size", "I", false)
  | 4 => ("ShoeCorner$Text", "items", "[I", true)
  | _ => ("ShoeCorner$Text", "stack", "[I", true)
def tyX6 : Nat → FieldType := fun k => match k with
  | 0 => .int
  | 1 => .int
  | 2 => .int
  | 3 => .int
  | 4 => .array .int
  | _ => .array .int
abbrev wsX60 : List Cond := u_ws RX6 TX6 6
theorem nmX6 : ∀ a, a < 6 → ∀ b, b < 6 → a ≠ b → (TX6 a).2.1 ≠ (TX6 b).2.1 := by decide +kernel
theorem tyX6_ok : ∀ k, k < 6 → parseFieldDescriptor (TX6 k).2.2.1 = some (tyX6 k) := by decide +kernel
abbrev cX6_init : ByteArray := prog_8_method_1_code
def yX6_init : MethodName := ⟨RX6, "<init>", "(I[I)V"⟩
abbrev cX6_begin : ByteArray := prog_8_method_2_code
def yX6_begin : MethodName := ⟨RX6, "begin", "(I)V"⟩
abbrev cX6_addNumber : ByteArray := prog_8_method_3_code
def yX6_addNumber : MethodName := ⟨RX6, "addNumber", "(I)V"⟩
abbrev cX6_addName : ByteArray := prog_8_method_4_code
def yX6_addName : MethodName := ⟨RX6, "addName", "(C)Z"⟩
abbrev cX6_addSign : ByteArray := prog_8_method_5_code
def yX6_addSign : MethodName := ⟨RX6, "addSign", "(I)V"⟩
abbrev cX6_addItem : ByteArray := prog_8_method_6_code
def yX6_addItem : MethodName := ⟨RX6, "addItem", "(I)V"⟩
abbrev cX6_namesOf : ByteArray := prog_8_method_7_code
def yX6_namesOf : MethodName := ⟨RX6, "namesOf", "(I)Ljava/lang/String;"⟩
abbrev cX6_value : ByteArray := prog_8_method_8_code
def yX6_value : MethodName := ⟨RX6, "value", "(III)I"⟩
abbrev cX6_joined : ByteArray := prog_8_method_9_code
def yX6_joined : MethodName := ⟨RX6, "joined", "(III)I"⟩
def RX7 : String := "ShoeCorner"
def TX7 : u_T := fun k => match k with
  | 0 => ("ShoeCorner", "texts", "[LShoeCorner$Text;", true)
  | 1 => ("ShoeCorner", "tape", "LShoeCorner$Tape;", true)
  | 2 => ("ShoeCorner", "now", "LShoeCorner$Street;", true)
  | 3 => ("ShoeCorner", "image", "LShoeCorner$Street;", true)
  | 4 => ("ShoeCorner", "thought", "LShoeCorner$Street;", true)
  | 5 => ("ShoeCorner", "sheets", "[LShoeCorner$Sheet;", true)
  | 6 => ("ShoeCorner", "slots", "[LShoeCorner$Slot;", true)
  | 7 => ("ShoeCorner", "waiting", "[I", true)
  | 8 => ("ShoeCorner", "waitingCount", "I", false)
  | _ => ("ShoeCorner", "imageKept", "Z", false)
def tyX7 : Nat → FieldType := fun k => match k with
  | 0 => .array (.object "ShoeCorner$Text")
  | 1 => .object "ShoeCorner$Tape"
  | 2 => .object "ShoeCorner$Street"
  | 3 => .object "ShoeCorner$Street"
  | 4 => .object "ShoeCorner$Street"
  | 5 => .array (.object "ShoeCorner$Sheet")
  | 6 => .array (.object "ShoeCorner$Slot")
  | 7 => .array .int
  | 8 => .int
  | _ => .boolean
abbrev wsX70 : List Cond := u_ws RX7 TX7 10
theorem nmX7 : ∀ a, a < 10 → ∀ b, b < 10 → a ≠ b → (TX7 a).2.1 ≠ (TX7 b).2.1 := by decide +kernel
theorem tyX7_ok : ∀ k, k < 10 → parseFieldDescriptor (TX7 k).2.2.1 = some (tyX7 k) := by decide +kernel
abbrev cX7_init : ByteArray := prog_1_method_1_code
def yX7_init : MethodName := ⟨RX7, "<init>", "()V"⟩
abbrev cX7_boy : ByteArray := prog_1_method_2_code
def yX7_boy : MethodName := ⟨RX7, "boy", "(IIII)I"⟩
abbrev cX7_told : ByteArray := prog_1_method_3_code
def yX7_told : MethodName := ⟨RX7, "told", "(II)I"⟩
abbrev cX7_shine : ByteArray := prog_1_method_4_code
def yX7_shine : MethodName := ⟨RX7, "shine", "(III)I"⟩
abbrev cX7_as : ByteArray := prog_1_method_5_code
def yX7_as : MethodName := ⟨RX7, "as", "(II)I"⟩
abbrev cX7_turns : ByteArray := prog_1_method_6_code
def yX7_turns : MethodName := ⟨RX7, "turns", "(II)I"⟩
abbrev cX7_set : ByteArray := prog_1_method_7_code
def yX7_set : MethodName := ⟨RX7, "set", "(III)I"⟩
abbrev cX7_deal : ByteArray := prog_1_method_8_code
def yX7_deal : MethodName := ⟨RX7, "deal", "(I)I"⟩
abbrev cX7_seed : ByteArray := prog_1_method_9_code
def yX7_seed : MethodName := ⟨RX7, "seed", "(I)I"⟩
abbrev cX7_rule : ByteArray := prog_1_method_10_code
def yX7_rule : MethodName := ⟨RX7, "rule", "(II)I"⟩
abbrev cX7_minutes : ByteArray := prog_1_method_11_code
def yX7_minutes : MethodName := ⟨RX7, "minutes", "(I)I"⟩
abbrev cX7_street : ByteArray := prog_1_method_12_code
def yX7_street : MethodName := ⟨RX7, "street", "(I)I"⟩
abbrev cX7_goesTo : ByteArray := prog_1_method_13_code
def yX7_goesTo : MethodName := ⟨RX7, "goesTo", "(II)I"⟩
abbrev cX7_behind : ByteArray := prog_1_method_14_code
def yX7_behind : MethodName := ⟨RX7, "behind", "(II)I"⟩
abbrev cX7_best : ByteArray := prog_1_method_15_code
def yX7_best : MethodName := ⟨RX7, "best", "(IIII)I"⟩
abbrev cX7_bestShare : ByteArray := prog_1_method_16_code
def yX7_bestShare : MethodName := ⟨RX7, "bestShare", "(II)I"⟩
abbrev cX7_sentAway : ByteArray := prog_1_method_17_code
def yX7_sentAway : MethodName := ⟨RX7, "sentAway", "(II)I"⟩
abbrev cX7_dry : ByteArray := prog_1_method_18_code
def yX7_dry : MethodName := ⟨RX7, "dry", "(I)I"⟩
abbrev cX7_shone : ByteArray := prog_1_method_19_code
def yX7_shone : MethodName := ⟨RX7, "shone", "(II)I"⟩
abbrev cX7_fee : ByteArray := prog_1_method_20_code
def yX7_fee : MethodName := ⟨RX7, "fee", "()I"⟩
abbrev cX7_fine : ByteArray := prog_1_method_21_code
def yX7_fine : MethodName := ⟨RX7, "fine", "(I)I"⟩
abbrev cX7_feed : ByteArray := prog_1_method_22_code
def yX7_feed : MethodName := ⟨RX7, "feed", "(III)I"⟩
abbrev cX7_trim : ByteArray := prog_1_method_23_code
def yX7_trim : MethodName := ⟨RX7, "trim", "(I)I"⟩
abbrev cX7_text : ByteArray := prog_1_method_24_code
def yX7_text : MethodName := ⟨RX7, "text", "()I"⟩
abbrev cX7_textTold : ByteArray := prog_1_method_25_code
def yX7_textTold : MethodName := ⟨RX7, "textTold", "(II)I"⟩
abbrev cX7_why : ByteArray := prog_1_method_26_code
def yX7_why : MethodName := ⟨RX7, "why", "(I)I"⟩
abbrev cX7_sheet : ByteArray := prog_1_method_27_code
def yX7_sheet : MethodName := ⟨RX7, "sheet", "(III)I"⟩
abbrev cX7_mark : ByteArray := prog_1_method_28_code
def yX7_mark : MethodName := ⟨RX7, "mark", "(III)I"⟩
abbrev cX7_pour : ByteArray := prog_1_method_29_code
def yX7_pour : MethodName := ⟨RX7, "pour", "(I)I"⟩
abbrev cX7_reads : ByteArray := prog_1_method_30_code
def yX7_reads : MethodName := ⟨RX7, "reads", "(I)I"⟩
abbrev cX7_copy : ByteArray := prog_1_method_31_code
def yX7_copy : MethodName := ⟨RX7, "copy", "(IIIII)I"⟩
abbrev cX7_lay : ByteArray := prog_1_method_32_code
def yX7_lay : MethodName := ⟨RX7, "lay", "(III)I"⟩
abbrev cX7_ask : ByteArray := prog_1_method_33_code
def yX7_ask : MethodName := ⟨RX7, "ask", "(II)I"⟩
abbrev cX7_item : ByteArray := prog_1_method_34_code
def yX7_item : MethodName := ⟨RX7, "item", "(II)I"⟩
abbrev cX7_rest : ByteArray := prog_1_method_35_code
def yX7_rest : MethodName := ⟨RX7, "rest", "(II)I"⟩
abbrev cX7_tell : ByteArray := prog_1_method_36_code
def yX7_tell : MethodName := ⟨RX7, "tell", "(I)I"⟩
abbrev cX7_check : ByteArray := prog_1_method_37_code
def yX7_check : MethodName := ⟨RX7, "check", "(I)I"⟩
abbrev cX7_keep : ByteArray := prog_1_method_38_code
def yX7_keep : MethodName := ⟨RX7, "keep", "()I"⟩
abbrev cX7_back : ByteArray := prog_1_method_39_code
def yX7_back : MethodName := ⟨RX7, "back", "()I"⟩
abbrev cX7_count : ByteArray := prog_1_method_40_code
def yX7_count : MethodName := ⟨RX7, "count", "(I)I"⟩
abbrev cX7_isBoy : ByteArray := prog_1_method_41_code
def yX7_isBoy : MethodName := ⟨RX7, "isBoy", "(I)Z"⟩
abbrev cX7_isKind : ByteArray := prog_1_method_42_code
def yX7_isKind : MethodName := ⟨RX7, "isKind", "(I)Z"⟩
abbrev cX7_isSheet : ByteArray := prog_1_method_43_code
def yX7_isSheet : MethodName := ⟨RX7, "isSheet", "(I)Z"⟩
abbrev cX7_isSlot : ByteArray := prog_1_method_44_code
def yX7_isSlot : MethodName := ⟨RX7, "isSlot", "(I)Z"⟩
abbrev cX7_mayBeThought : ByteArray := prog_1_method_45_code
def yX7_mayBeThought : MethodName := ⟨RX7, "mayBeThought", "(I)Z"⟩
abbrev cX7_differences : ByteArray := prog_1_method_46_code
def yX7_differences : MethodName := ⟨RX7, "differences", "(LShoeCorner$Boy;LShoeCorner$Sheet;)I"⟩
abbrev cX7_waits : ByteArray := prog_1_method_47_code
def yX7_waits : MethodName := ⟨RX7, "waits", "(III)Z"⟩
def RX8 : String := "ShoeCornerModel"
def TX8 : u_T := fun k => match k with
  | 0 => ("ShoeCornerModel", "now", "[I", true)
  | 1 => ("ShoeCornerModel", "image", "[I", true)
  | 2 => ("ShoeCornerModel", "aside", "[I", true)
  | 3 => ("ShoeCornerModel", "hasImage", "Z", false)
  | 4 => ("ShoeCornerModel", "idle", "I", false)
  | 5 => ("ShoeCornerModel", "before", "[I", true)
  | 6 => ("ShoeCornerModel", "tape", "[I", true)
  | 7 => ("ShoeCornerModel", "taped", "I", false)
  | 8 => ("ShoeCornerModel", "next", "I", false)
  | 9 => ("ShoeCornerModel", "from", "I", false)
  | 10 => ("ShoeCornerModel", "token", "I", false)
  | 11 => ("ShoeCornerModel", "value", "I", false)
  | 12 => ("ShoeCornerModel", "ended", "I", false)
  | 13 => ("ShoeCornerModel", "key", "I", false)
  | 14 => ("ShoeCornerModel", "keys", "[C", true)
  | 15 => ("ShoeCornerModel", "keyAt", "[I", true)
  | 16 => ("ShoeCornerModel", "code", "[I", true)
  | 17 => ("ShoeCornerModel", "codes", "I", false)
  | 18 => ("ShoeCornerModel", "atoms", "I", false)
  | 19 => ("ShoeCornerModel", "waits", "[I", true)
  | 20 => ("ShoeCornerModel", "held", "I", false)
  | 21 => ("ShoeCornerModel", "tested", "[Z", true)
  | 22 => ("ShoeCornerModel", "stack", "[I", true)
  | 23 => ("ShoeCornerModel", "facts", "[I", true)
  | 24 => ("ShoeCornerModel", "sorts", "[I", true)
  | 25 => ("ShoeCornerModel", "sizes", "[I", true)
  | 26 => ("ShoeCornerModel", "cells", "[I", true)
  | 27 => ("ShoeCornerModel", "holds", "[I", true)
  | 28 => ("ShoeCornerModel", "holdsA", "[I", true)
  | 29 => ("ShoeCornerModel", "holdsB", "[I", true)
  | 30 => ("ShoeCornerModel", "heldCells", "[I", true)
  | 31 => ("ShoeCornerModel", "moved", "[I", true)
  | 32 => ("ShoeCornerModel", "tells", "[I", true)
  | _ => ("ShoeCornerModel", "waiting", "I", false)
def tyX8 : Nat → FieldType := fun k => match k with
  | 0 => .array .int
  | 1 => .array .int
  | 2 => .array .int
  | 3 => .boolean
  | 4 => .int
  | 5 => .array .int
  | 6 => .array .int
  | 7 => .int
  | 8 => .int
  | 9 => .int
  | 10 => .int
  | 11 => .int
  | 12 => .int
  | 13 => .int
  | 14 => .array .char
  | 15 => .array .int
  | 16 => .array .int
  | 17 => .int
  | 18 => .int
  | 19 => .array .int
  | 20 => .int
  | 21 => .array .boolean
  | 22 => .array .int
  | 23 => .array .int
  | 24 => .array .int
  | 25 => .array .int
  | 26 => .array .int
  | 27 => .array .int
  | 28 => .array .int
  | 29 => .array .int
  | 30 => .array .int
  | 31 => .array .int
  | 32 => .array .int
  | _ => .int
abbrev wsX80 : List Cond := u_ws RX8 TX8 34
theorem nmX8 : ∀ a, a < 34 → ∀ b, b < 34 → a ≠ b → (TX8 a).2.1 ≠ (TX8 b).2.1 := by decide +kernel
theorem tyX8_ok : ∀ k, k < 34 → parseFieldDescriptor (TX8 k).2.2.1 = some (tyX8 k) := by decide +kernel
abbrev cX8_init : ByteArray := prog_10_method_1_code
def yX8_init : MethodName := ⟨RX8, "<init>", "()V"⟩
abbrev cX8_in : ByteArray := prog_10_method_2_code
def yX8_in : MethodName := ⟨RX8, "in", "(III)Z"⟩
abbrev cX8_within : ByteArray := prog_10_method_3_code
def yX8_within : MethodName := ⟨RX8, "within", "(III)I"⟩
abbrev cX8_copyAll : ByteArray := prog_10_method_4_code
def yX8_copyAll : MethodName := ⟨RX8, "copyAll", "([I[I)V"⟩
abbrev cX8_told0 : ByteArray := prog_10_method_5_code
def yX8_told0 : MethodName := ⟨RX8, "told0", "(I)I"⟩
abbrev cX8_isBoy : ByteArray := prog_10_method_6_code
def yX8_isBoy : MethodName := ⟨RX8, "isBoy", "(I)Z"⟩
abbrev cX8_of : ByteArray := prog_10_method_7_code
def yX8_of : MethodName := ⟨RX8, "of", "(II)I"⟩
abbrev cX8_put : ByteArray := prog_10_method_8_code
def yX8_put : MethodName := ⟨RX8, "put", "(III)V"⟩
abbrev cX8_becomes : ByteArray := prog_10_method_9_code
def yX8_becomes : MethodName := ⟨RX8, "becomes", "(II)I"⟩
abbrev cX8_comes : ByteArray := prog_10_method_10_code
def yX8_comes : MethodName := ⟨RX8, "comes", "(IIII)I"⟩
abbrev cX8_isOf : ByteArray := prog_10_method_11_code
def yX8_isOf : MethodName := ⟨RX8, "isOf", "(II)Z"⟩
abbrev cX8_boy : ByteArray := prog_10_method_12_code
def yX8_boy : MethodName := ⟨RX8, "boy", "(IIII)I"⟩
abbrev cX8_plainOf : ByteArray := prog_10_method_13_code
def yX8_plainOf : MethodName := ⟨RX8, "plainOf", "(III)I"⟩
abbrev cX8_shineOf : ByteArray := prog_10_method_14_code
def yX8_shineOf : MethodName := ⟨RX8, "shineOf", "(III)I"⟩
abbrev cX8_takesOf : ByteArray := prog_10_method_15_code
def yX8_takesOf : MethodName := ⟨RX8, "takesOf", "(I)I"⟩
abbrev cX8_asksOf : ByteArray := prog_10_method_16_code
def yX8_asksOf : MethodName := ⟨RX8, "asksOf", "(I)I"⟩
abbrev cX8_worthOf : ByteArray := prog_10_method_17_code
def yX8_worthOf : MethodName := ⟨RX8, "worthOf", "(I)I"⟩
abbrev cX8_told : ByteArray := prog_10_method_18_code
def yX8_told : MethodName := ⟨RX8, "told", "(II)I"⟩
abbrev cX8_shine : ByteArray := prog_10_method_19_code
def yX8_shine : MethodName := ⟨RX8, "shine", "(III)I"⟩
abbrev cX8_isUnder : ByteArray := prog_10_method_20_code
def yX8_isUnder : MethodName := ⟨RX8, "isUnder", "(II)Z"⟩
abbrev cX8_as : ByteArray := prog_10_method_21_code
def yX8_as : MethodName := ⟨RX8, "as", "(II)I"⟩
abbrev cX8_turns : ByteArray := prog_10_method_22_code
def yX8_turns : MethodName := ⟨RX8, "turns", "(II)I"⟩
abbrev cX8_set : ByteArray := prog_10_method_23_code
def yX8_set : MethodName := ⟨RX8, "set", "(III)I"⟩
abbrev cX8_draw : ByteArray := prog_10_method_24_code
def yX8_draw : MethodName := ⟨RX8, "draw", "()I"⟩
abbrev cX8_deal : ByteArray := prog_10_method_25_code
def yX8_deal : MethodName := ⟨RX8, "deal", "(I)I"⟩
abbrev cX8_seed : ByteArray := prog_10_method_26_code
def yX8_seed : MethodName := ⟨RX8, "seed", "(I)I"⟩
abbrev cX8_rule : ByteArray := prog_10_method_27_code
def yX8_rule : MethodName := ⟨RX8, "rule", "(II)I"⟩
abbrev cX8_apart : ByteArray := prog_10_method_28_code
def yX8_apart : MethodName := ⟨RX8, "apart", "(II)I"⟩
abbrev cX8_boyFor : ByteArray := prog_10_method_29_code
def yX8_boyFor : MethodName := ⟨RX8, "boyFor", "(II)I"⟩
abbrev cX8_serves : ByteArray := prog_10_method_30_code
def yX8_serves : MethodName := ⟨RX8, "serves", "(II)V"⟩
abbrev cX8_man : ByteArray := prog_10_method_31_code
def yX8_man : MethodName := ⟨RX8, "man", "()V"⟩
abbrev cX8_minute : ByteArray := prog_10_method_32_code
def yX8_minute : MethodName := ⟨RX8, "minute", "()V"⟩
abbrev cX8_goesOn : ByteArray := prog_10_method_33_code
def yX8_goesOn : MethodName := ⟨RX8, "goesOn", "(I)V"⟩
abbrev cX8_sumOf : ByteArray := prog_10_method_34_code
def yX8_sumOf : MethodName := ⟨RX8, "sumOf", "(I)I"⟩
abbrev cX8_minutes : ByteArray := prog_10_method_35_code
def yX8_minutes : MethodName := ⟨RX8, "minutes", "(I)I"⟩
abbrev cX8_busy : ByteArray := prog_10_method_36_code
def yX8_busy : MethodName := ⟨RX8, "busy", "()I"⟩
abbrev cX8_street : ByteArray := prog_10_method_37_code
def yX8_street : MethodName := ⟨RX8, "street", "(I)I"⟩
abbrev cX8_goesTo : ByteArray := prog_10_method_38_code
def yX8_goesTo : MethodName := ⟨RX8, "goesTo", "(II)I"⟩
abbrev cX8_thinks : ByteArray := prog_10_method_39_code
def yX8_thinks : MethodName := ⟨RX8, "thinks", "()V"⟩
abbrev cX8_putsBack : ByteArray := prog_10_method_40_code
def yX8_putsBack : MethodName := ⟨RX8, "putsBack", "()V"⟩
abbrev cX8_behind : ByteArray := prog_10_method_41_code
def yX8_behind : MethodName := ⟨RX8, "behind", "(II)I"⟩
abbrev cX8_best : ByteArray := prog_10_method_42_code
def yX8_best : MethodName := ⟨RX8, "best", "(IIII)I"⟩
abbrev cX8_bestShare : ByteArray := prog_10_method_43_code
def yX8_bestShare : MethodName := ⟨RX8, "bestShare", "(II)I"⟩
abbrev cX8_sentAway : ByteArray := prog_10_method_44_code
def yX8_sentAway : MethodName := ⟨RX8, "sentAway", "(II)I"⟩
abbrev cX8_dry : ByteArray := prog_10_method_45_code
def yX8_dry : MethodName := ⟨RX8, "dry", "(I)I"⟩
abbrev cX8_offBy : ByteArray := prog_10_method_46_code
def yX8_offBy : MethodName := ⟨RX8, "offBy", "(II)J"⟩
abbrev cX8_shone : ByteArray := prog_10_method_47_code
def yX8_shone : MethodName := ⟨RX8, "shone", "(II)I"⟩
abbrev cX8_fee : ByteArray := prog_10_method_48_code
def yX8_fee : MethodName := ⟨RX8, "fee", "()I"⟩
abbrev cX8_fine : ByteArray := prog_10_method_49_code
def yX8_fine : MethodName := ⟨RX8, "fine", "(I)I"⟩
abbrev cX8_feed : ByteArray := prog_10_method_50_code
def yX8_feed : MethodName := ⟨RX8, "feed", "(III)I"⟩
abbrev cX8_trim : ByteArray := prog_10_method_51_code
def yX8_trim : MethodName := ⟨RX8, "trim", "(I)I"⟩
abbrev cX8_isLetter : ByteArray := prog_10_method_52_code
def yX8_isLetter : MethodName := ⟨RX8, "isLetter", "(I)Z"⟩
abbrev cX8_isFigure : ByteArray := prog_10_method_53_code
def yX8_isFigure : MethodName := ⟨RX8, "isFigure", "(I)Z"⟩
abbrev cX8_go : ByteArray := prog_10_method_54_code
def yX8_go : MethodName := ⟨RX8, "go", "()V"⟩
abbrev cX8_takesKey : ByteArray := prog_10_method_55_code
def yX8_takesKey : MethodName := ⟨RX8, "takesKey", "()Z"⟩
abbrev cX8_nameOf : ByteArray := prog_10_method_56_code
def yX8_nameOf : MethodName := ⟨RX8, "nameOf", "(I)I"⟩
abbrev cX8_rank : ByteArray := prog_10_method_57_code
def yX8_rank : MethodName := ⟨RX8, "rank", "(I)I"⟩
abbrev cX8_settle : ByteArray := prog_10_method_58_code
def yX8_settle : MethodName := ⟨RX8, "settle", "(I)V"⟩
abbrev cX8_signHere : ByteArray := prog_10_method_59_code
def yX8_signHere : MethodName := ⟨RX8, "signHere", "()I"⟩
abbrev cX8_takesPart : ByteArray := prog_10_method_60_code
def yX8_takesPart : MethodName := ⟨RX8, "takesPart", "()Z"⟩
abbrev cX8_takesE : ByteArray := prog_10_method_61_code
def yX8_takesE : MethodName := ⟨RX8, "takesE", "()Z"⟩
abbrev cX8_notsOpen : ByteArray := prog_10_method_62_code
def yX8_notsOpen : MethodName := ⟨RX8, "notsOpen", "()I"⟩
abbrev cX8_text : ByteArray := prog_10_method_63_code
def yX8_text : MethodName := ⟨RX8, "text", "()I"⟩
abbrev cX8_textTold : ByteArray := prog_10_method_64_code
def yX8_textTold : MethodName := ⟨RX8, "textTold", "(II)I"⟩
abbrev cX8_counts : ByteArray := prog_10_method_65_code
def yX8_counts : MethodName := ⟨RX8, "counts", "(I)I"⟩
abbrev cX8_why : ByteArray := prog_10_method_66_code
def yX8_why : MethodName := ⟨RX8, "why", "(I)I"⟩
abbrev cX8_two : ByteArray := prog_10_method_67_code
def yX8_two : MethodName := ⟨RX8, "two", "(III)I"⟩
abbrev cX8_worksOut : ByteArray := prog_10_method_68_code
def yX8_worksOut : MethodName := ⟨RX8, "worksOut", "(I)I"⟩
abbrev cX8_isSheet : ByteArray := prog_10_method_69_code
def yX8_isSheet : MethodName := ⟨RX8, "isSheet", "(I)Z"⟩
abbrev cX8_isSlot : ByteArray := prog_10_method_70_code
def yX8_isSlot : MethodName := ⟨RX8, "isSlot", "(I)Z"⟩
abbrev cX8_sheet : ByteArray := prog_10_method_71_code
def yX8_sheet : MethodName := ⟨RX8, "sheet", "(III)I"⟩
abbrev cX8_mark : ByteArray := prog_10_method_72_code
def yX8_mark : MethodName := ⟨RX8, "mark", "(III)I"⟩
abbrev cX8_pour : ByteArray := prog_10_method_73_code
def yX8_pour : MethodName := ⟨RX8, "pour", "(I)I"⟩
abbrev cX8_reads : ByteArray := prog_10_method_74_code
def yX8_reads : MethodName := ⟨RX8, "reads", "(I)I"⟩
abbrev cX8_copy : ByteArray := prog_10_method_75_code
def yX8_copy : MethodName := ⟨RX8, "copy", "(IIIII)I"⟩
abbrev cX8_lay : ByteArray := prog_10_method_76_code
def yX8_lay : MethodName := ⟨RX8, "lay", "(III)I"⟩
abbrev cX8_ask : ByteArray := prog_10_method_77_code
def yX8_ask : MethodName := ⟨RX8, "ask", "(II)I"⟩
abbrev cX8_item : ByteArray := prog_10_method_78_code
def yX8_item : MethodName := ⟨RX8, "item", "(II)I"⟩
abbrev cX8_rest : ByteArray := prog_10_method_79_code
def yX8_rest : MethodName := ⟨RX8, "rest", "(II)I"⟩
abbrev cX8_tell : ByteArray := prog_10_method_80_code
def yX8_tell : MethodName := ⟨RX8, "tell", "(I)I"⟩
abbrev cX8_check : ByteArray := prog_10_method_81_code
def yX8_check : MethodName := ⟨RX8, "check", "(I)I"⟩
abbrev cX8_keep : ByteArray := prog_10_method_82_code
def yX8_keep : MethodName := ⟨RX8, "keep", "()I"⟩
abbrev cX8_back : ByteArray := prog_10_method_83_code
def yX8_back : MethodName := ⟨RX8, "back", "()I"⟩
abbrev cX8_count : ByteArray := prog_10_method_84_code
def yX8_count : MethodName := ⟨RX8, "count", "(I)I"⟩
def RJ11 : String := "java/lang/Character"
def TJ11 : u_T := fun k => match k with
  | _ => ("", "", "", false)
def tyJ11 : Nat → FieldType := fun k => match k with
  | _ => .int
abbrev wsJ110 : List Cond := u_ws RJ11 TJ11 0
theorem nmJ11 : ∀ a, a < 0 → ∀ b, b < 0 → a ≠ b → (TJ11 a).2.1 ≠ (TJ11 b).2.1 := by decide +kernel
theorem tyJ11_ok : ∀ k, k < 0 → parseFieldDescriptor (TJ11 k).2.2.1 = some (tyJ11 k) := by decide +kernel
abbrev cJ11_isValidCodePoint_9a6ad : ByteArray := prog_11_method_11_code
def yJ11_isValidCodePoint_9a6ad : MethodName := ⟨RJ11, "isValidCodePoint", "(I)Z"⟩
abbrev cJ11_highSurrogate_5068e : ByteArray := prog_11_method_28_code
def yJ11_highSurrogate_5068e : MethodName := ⟨RJ11, "highSurrogate", "(I)C"⟩
abbrev cJ11_lowSurrogate_5068e : ByteArray := prog_11_method_29_code
def yJ11_lowSurrogate_5068e : MethodName := ⟨RJ11, "lowSurrogate", "(I)C"⟩
def RJ9 : String := "java/lang/Math"
def TJ9 : u_T := fun k => match k with
  | _ => ("", "", "", false)
def tyJ9 : Nat → FieldType := fun k => match k with
  | _ => .int
abbrev wsJ90 : List Cond := u_ws RJ9 TJ9 0
theorem nmJ9 : ∀ a, a < 0 → ∀ b, b < 0 → a ≠ b → (TJ9 a).2.1 ≠ (TJ9 b).2.1 := by decide +kernel
theorem tyJ9_ok : ∀ k, k < 0 → parseFieldDescriptor (TJ9 k).2.2.1 = some (tyJ9 k) := by decide +kernel
abbrev cJ9_abs_0f7a4 : ByteArray := prog_12_method_59_code
def yJ9_abs_0f7a4 : MethodName := ⟨RJ9, "abs", "(I)I"⟩
abbrev cJ9_max_7cf53 : ByteArray := prog_12_method_65_code
def yJ9_max_7cf53 : MethodName := ⟨RJ9, "max", "(II)I"⟩
abbrev cJ9_min_7cf53 : ByteArray := prog_12_method_69_code
def yJ9_min_7cf53 : MethodName := ⟨RJ9, "min", "(II)I"⟩
def RJ0 : String := "java/lang/String"
def TJ0 : u_T := fun k => match k with
  | _ => ("", "", "", false)
def tyJ0 : Nat → FieldType := fun k => match k with
  | _ => .int
abbrev wsJ00 : List Cond := u_ws RJ0 TJ0 0
theorem nmJ0 : ∀ a, a < 0 → ∀ b, b < 0 → a ≠ b → (TJ0 a).2.1 ≠ (TJ0 b).2.1 := by decide +kernel
theorem tyJ0_ok : ∀ k, k < 0 → parseFieldDescriptor (TJ0 k).2.2.1 = some (tyJ0 k) := by decide +kernel
abbrev cJ0_length_8abf5 : ByteArray := prog_13_method_54_code
def yJ0_length_8abf5 : MethodName := ⟨RJ0, "length", "()I"⟩
abbrev cJ0_charAt_5068e : ByteArray := prog_13_method_56_code
def yJ0_charAt_5068e : MethodName := ⟨RJ0, "charAt", "(I)C"⟩
abbrev cJ0_indexOf_0f7a4 : ByteArray := prog_13_method_79_code
def yJ0_indexOf_0f7a4 : MethodName := ⟨RJ0, "indexOf", "(I)I"⟩
abbrev cJ0_indexOf_7cf53 : ByteArray := prog_13_method_80_code
def yJ0_indexOf_7cf53 : MethodName := ⟨RJ0, "indexOf", "(II)I"⟩
abbrev cJ0_coder_7d493 : ByteArray := prog_13_method_152_code
def yJ0_coder_7d493 : MethodName := ⟨RJ0, "coder", "()B"⟩
abbrev cJ0_isLatin1_aae02 : ByteArray := prog_13_method_154_code
def yJ0_isLatin1_aae02 : MethodName := ⟨RJ0, "isLatin1", "()Z"⟩
abbrev cJ0_checkIndex_df160 : ByteArray := prog_13_method_155_code
def yJ0_checkIndex_df160 : MethodName := ⟨RJ0, "checkIndex", "(II)V"⟩
abbrev cJ0_checkBoundsBeginEnd_23922 : ByteArray := prog_13_method_158_code
def yJ0_checkBoundsBeginEnd_23922 : MethodName := ⟨RJ0, "checkBoundsBeginEnd", "(III)V"⟩
def RJ1 : String := "java/lang/StringLatin1"
def TJ1 : u_T := fun k => match k with
  | _ => ("", "", "", false)
def tyJ1 : Nat → FieldType := fun k => match k with
  | _ => .int
abbrev wsJ10 : List Cond := u_ws RJ1 TJ1 0
theorem nmJ1 : ∀ a, a < 0 → ∀ b, b < 0 → a ≠ b → (TJ1 a).2.1 ≠ (TJ1 b).2.1 := by decide +kernel
theorem tyJ1_ok : ∀ k, k < 0 → parseFieldDescriptor (TJ1 k).2.2.1 = some (tyJ1 k) := by decide +kernel
abbrev cJ1_charAt_3b067 : ByteArray := prog_14_method_2_code
def yJ1_charAt_3b067 : MethodName := ⟨RJ1, "charAt", "([BI)C"⟩
abbrev cJ1_canEncode_9a6ad : ByteArray := prog_14_method_4_code
def yJ1_canEncode_9a6ad : MethodName := ⟨RJ1, "canEncode", "(I)Z"⟩
abbrev cJ1_indexOf_4cfef : ByteArray := prog_14_method_22_code
def yJ1_indexOf_4cfef : MethodName := ⟨RJ1, "indexOf", "([BIII)I"⟩
abbrev cJ1_indexOfChar_4cfef : ByteArray := prog_14_method_23_code
def yJ1_indexOfChar_4cfef : MethodName := ⟨RJ1, "indexOfChar", "([BIII)I"⟩
def RJ2 : String := "java/lang/StringUTF16"
def TJ2 : u_T := fun k => match k with
  | _ => ("", "", "", false)
def tyJ2 : Nat → FieldType := fun k => match k with
  | _ => .int
abbrev wsJ20 : List Cond := u_ws RJ2 TJ2 0
theorem nmJ2 : ∀ a, a < 0 → ∀ b, b < 0 → a ≠ b → (TJ2 a).2.1 ≠ (TJ2 b).2.1 := by decide +kernel
theorem tyJ2_ok : ∀ k, k < 0 → parseFieldDescriptor (TJ2 k).2.2.1 = some (tyJ2 k) := by decide +kernel
abbrev cJ2_getChar_3b067 : ByteArray := prog_15_method_5_code
def yJ2_getChar_3b067 : MethodName := ⟨RJ2, "getChar", "([BI)C"⟩
abbrev cJ2_length_9d52b : ByteArray := prog_15_method_6_code
def yJ2_length_9d52b : MethodName := ⟨RJ2, "length", "([B)I"⟩
abbrev cJ2_indexOf_4cfef : ByteArray := prog_15_method_40_code
def yJ2_indexOf_4cfef : MethodName := ⟨RJ2, "indexOf", "([BIII)I"⟩
abbrev cJ2_indexOfChar_4cfef : ByteArray := prog_15_method_47_code
def yJ2_indexOfChar_4cfef : MethodName := ⟨RJ2, "indexOfChar", "([BIII)I"⟩
abbrev cJ2_indexOfCharUnsafe_4cfef : ByteArray := prog_15_method_48_code
def yJ2_indexOfCharUnsafe_4cfef : MethodName := ⟨RJ2, "indexOfCharUnsafe", "([BIII)I"⟩
abbrev cJ2_indexOfSupplementary_4cfef : ByteArray := prog_15_method_49_code
def yJ2_indexOfSupplementary_4cfef : MethodName := ⟨RJ2, "indexOfSupplementary", "([BIII)I"⟩
abbrev cJ2_charAt_3b067 : ByteArray := prog_15_method_83_code
def yJ2_charAt_3b067 : MethodName := ⟨RJ2, "charAt", "([BI)C"⟩
abbrev cJ2_checkIndex_2214a : ByteArray := prog_15_method_91_code
def yJ2_checkIndex_2214a : MethodName := ⟨RJ2, "checkIndex", "(I[B)V"⟩
abbrev cJ2_checkBoundsBeginEnd_d044e : ByteArray := prog_15_method_93_code
def yJ2_checkBoundsBeginEnd_d044e : MethodName := ⟨RJ2, "checkBoundsBeginEnd", "(II[B)V"⟩
def RJ10 : String := "java/lang/System"
def TJ10 : u_T := fun k => match k with
  | _ => ("", "", "", false)
def tyJ10 : Nat → FieldType := fun k => match k with
  | _ => .int
abbrev wsJ100 : List Cond := u_ws RJ10 TJ10 0
theorem nmJ10 : ∀ a, a < 0 → ∀ b, b < 0 → a ≠ b → (TJ10 a).2.1 ≠ (TJ10 b).2.1 := by decide +kernel
theorem tyJ10_ok : ∀ k, k < 0 → parseFieldDescriptor (TJ10 k).2.2.1 = some (tyJ10 k) := by decide +kernel
def RJ3 : String := "jdk/internal/util/Preconditions"
def TJ3 : u_T := fun k => match k with
  | _ => ("", "", "", false)
def tyJ3 : Nat → FieldType := fun k => match k with
  | _ => .int
abbrev wsJ30 : List Cond := u_ws RJ3 TJ3 0
theorem nmJ3 : ∀ a, a < 0 → ∀ b, b < 0 → a ≠ b → (TJ3 a).2.1 ≠ (TJ3 b).2.1 := by decide +kernel
theorem tyJ3_ok : ∀ k, k < 0 → parseFieldDescriptor (TJ3 k).2.2.1 = some (tyJ3 k) := by decide +kernel
abbrev cJ3_checkIndex_8e157 : ByteArray := prog_17_method_11_code
def yJ3_checkIndex_8e157 : MethodName := ⟨RJ3, "checkIndex", "(IILjava/util/function/BiFunction;)I"⟩
abbrev cJ3_checkFromToIndex_8c36e : ByteArray := prog_17_method_12_code
def yJ3_checkFromToIndex_8c36e : MethodName := ⟨RJ3, "checkFromToIndex", "(IIILjava/util/function/BiFunction;)I"⟩
def RL : String := "ShoeCornerLaw"
abbrev cL_law : ByteArray := code
def yL_law : MethodName := ⟨RL, "law", "([I)Z"⟩
abbrev vwCl : List vw_C := [(RX0, TX0, 7), (RX2, TX2, 3), (RX3, TX3, 4), (RX4, TX4, 12), (RX5, TX5, 6), (RX6, TX6, 6), (RX7, TX7, 10), (RX8, TX8, 34)]
theorem tw {w : Cond} (i : Nat) (h : tables_1[i]? = some w) : w ∈ lw_tbl := List.mem_append_right _ (List.mem_of_getElem? h)
set_option maxRecDepth 20000 in
theorem inX0 : ∀ w ∈ wsX00, w ∈ lw_tbl := fun w h => by
  have e : wsX00 = ([86, 88, 90, 92, 94, 96, 98] : List Nat).filterMap (fun i => tables_1[i]?) := by decide +kernel
  rw [e] at h
  obtain ⟨i, -, hi⟩ := List.mem_filterMap.mp h
  exact tw i hi
set_option maxRecDepth 20000 in
theorem inX2 : ∀ w ∈ wsX20, w ∈ lw_tbl := fun w h => by
  have e : wsX20 = ([193, 195, 197] : List Nat).filterMap (fun i => tables_1[i]?) := by decide +kernel
  rw [e] at h
  obtain ⟨i, -, hi⟩ := List.mem_filterMap.mp h
  exact tw i hi
set_option maxRecDepth 20000 in
theorem inX3 : ∀ w ∈ wsX30, w ∈ lw_tbl := fun w h => by
  have e : wsX30 = ([217, 219, 221, 223] : List Nat).filterMap (fun i => tables_1[i]?) := by decide +kernel
  rw [e] at h
  obtain ⟨i, -, hi⟩ := List.mem_filterMap.mp h
  exact tw i hi
set_option maxRecDepth 20000 in
theorem inX4 : ∀ w ∈ wsX40, w ∈ lw_tbl := fun w h => by
  have e : wsX40 = ([124, 126, 128, 130, 132, 134, 136, 138, 140, 142, 144, 146] : List Nat).filterMap (fun i => tables_1[i]?) := by decide +kernel
  rw [e] at h
  obtain ⟨i, -, hi⟩ := List.mem_filterMap.mp h
  exact tw i hi
set_option maxRecDepth 20000 in
theorem inX5 : ∀ w ∈ wsX50, w ∈ lw_tbl := fun w h => by
  have e : wsX50 = ([40, 42, 44, 46, 48, 50] : List Nat).filterMap (fun i => tables_1[i]?) := by decide +kernel
  rw [e] at h
  obtain ⟨i, -, hi⟩ := List.mem_filterMap.mp h
  exact tw i hi
set_option maxRecDepth 20000 in
theorem inX6 : ∀ w ∈ wsX60, w ∈ lw_tbl := fun w h => by
  have e : wsX60 = ([168, 170, 172, 174, 176, 178] : List Nat).filterMap (fun i => tables_1[i]?) := by decide +kernel
  rw [e] at h
  obtain ⟨i, -, hi⟩ := List.mem_filterMap.mp h
  exact tw i hi
set_option maxRecDepth 20000 in
theorem inX7 : ∀ w ∈ wsX70, w ∈ lw_tbl := fun w h => by
  have e : wsX70 = ([236, 238, 240, 242, 244, 246, 248, 250, 252, 254] : List Nat).filterMap (fun i => tables_1[i]?) := by decide +kernel
  rw [e] at h
  obtain ⟨i, -, hi⟩ := List.mem_filterMap.mp h
  exact tw i hi
set_option maxRecDepth 20000 in
theorem inX8 : ∀ w ∈ wsX80, w ∈ lw_tbl := fun w h => by
  have e : wsX80 = ([839, 841, 843, 845, 847, 849, 851, 853, 855, 857, 859, 861, 863, 865, 867, 869, 871, 873, 875, 877, 879, 881, 883, 885, 887, 889, 891, 893, 895, 897, 899, 901, 903, 905] : List Nat).filterMap (fun i => tables_1[i]?) := by decide +kernel
  rw [e] at h
  obtain ⟨i, -, hi⟩ := List.mem_filterMap.mp h
  exact tw i hi
end
section
theorem dX0_init_0 : decode cX0_init 0 = .ok (.aload_n 0, 1) := by decide +kernel
theorem dX0_init_1 : decode cX0_init 1 = .ok (.invokespecial 3, 3) := by decide +kernel
theorem dX0_init_4 : decode cX0_init 4 = .ok (.aload_n 0, 1) := by decide +kernel
theorem dX0_init_5 : decode cX0_init 5 = .ok (.iconst 0, 1) := by decide +kernel
theorem dX0_init_6 : decode cX0_init 6 = .ok (.putfield 9, 3) := by decide +kernel
theorem dX0_init_9 : decode cX0_init 9 = .ok (.aload_n 0, 1) := by decide +kernel
theorem dX0_init_10 : decode cX0_init 10 = .ok (.iconst 0, 1) := by decide +kernel
theorem dX0_init_11 : decode cX0_init 11 = .ok (.putfield 15, 3) := by decide +kernel
theorem dX0_init_14 : decode cX0_init 14 = .ok (.aload_n 0, 1) := by decide +kernel
theorem dX0_init_15 : decode cX0_init 15 = .ok (.iconst 1, 1) := by decide +kernel
theorem dX0_init_16 : decode cX0_init 16 = .ok (.putfield 18, 3) := by decide +kernel
theorem dX0_init_19 : decode cX0_init 19 = .ok (.aload_n 0, 1) := by decide +kernel
theorem dX0_init_20 : decode cX0_init 20 = .ok (.iconst 1, 1) := by decide +kernel
theorem dX0_init_21 : decode cX0_init 21 = .ok (.putfield 21, 3) := by decide +kernel
theorem dX0_init_24 : decode cX0_init 24 = .ok (.aload_n 0, 1) := by decide +kernel
theorem dX0_init_25 : decode cX0_init 25 = .ok (.iconst 0, 1) := by decide +kernel
theorem dX0_init_26 : decode cX0_init 26 = .ok (.putfield 24, 3) := by decide +kernel
theorem dX0_init_29 : decode cX0_init 29 = .ok (.aload_n 0, 1) := by decide +kernel
theorem dX0_init_30 : decode cX0_init 30 = .ok (.iconst 0, 1) := by decide +kernel
theorem dX0_init_31 : decode cX0_init 31 = .ok (.putfield 27, 3) := by decide +kernel
theorem dX0_init_34 : decode cX0_init 34 = .ok (.aload_n 0, 1) := by decide +kernel
theorem dX0_init_35 : decode cX0_init 35 = .ok (.iconst 0, 1) := by decide +kernel
theorem dX0_init_36 : decode cX0_init 36 = .ok (.putfield 30, 3) := by decide +kernel
theorem dX0_init_39 : decode cX0_init 39 = .ok (.return_, 1) := by decide +kernel
theorem dX0_mayBe_0 : decode cX0_mayBe 0 = .ok (.iload_n 0, 1) := by decide +kernel
theorem dX0_mayBe_1 : decode cX0_mayBe 1 = .ok (.tableswitch 77 1 3 #[27, 43, 60], 27) := by decide +kernel
theorem dX0_mayBe_28 : decode cX0_mayBe 28 = .ok (.iload_n 1, 1) := by decide +kernel
theorem dX0_mayBe_29 : decode cX0_mayBe 29 = .ok (.ifCond .lt 13, 3) := by decide +kernel
theorem dX0_mayBe_32 : decode cX0_mayBe 32 = .ok (.iload_n 1, 1) := by decide +kernel
theorem dX0_mayBe_33 : decode cX0_mayBe 33 = .ok (.bipush 10, 2) := by decide +kernel
theorem dX0_mayBe_35 : decode cX0_mayBe 35 = .ok (.if_icmp .ge 7, 3) := by decide +kernel
theorem dX0_mayBe_38 : decode cX0_mayBe 38 = .ok (.iconst 1, 1) := by decide +kernel
theorem dX0_mayBe_39 : decode cX0_mayBe 39 = .ok (.goto 4, 3) := by decide +kernel
theorem dX0_mayBe_42 : decode cX0_mayBe 42 = .ok (.iconst 0, 1) := by decide +kernel
theorem dX0_mayBe_43 : decode cX0_mayBe 43 = .ok (.ireturn, 1) := by decide +kernel
theorem dX0_mayBe_44 : decode cX0_mayBe 44 = .ok (.iload_n 1, 1) := by decide +kernel
theorem dX0_mayBe_45 : decode cX0_mayBe 45 = .ok (.iconst 1, 1) := by decide +kernel
theorem dX0_mayBe_46 : decode cX0_mayBe 46 = .ok (.if_icmp .lt 13, 3) := by decide +kernel
theorem dX0_mayBe_49 : decode cX0_mayBe 49 = .ok (.iload_n 1, 1) := by decide +kernel
theorem dX0_mayBe_50 : decode cX0_mayBe 50 = .ok (.bipush 99, 2) := by decide +kernel
theorem dX0_mayBe_52 : decode cX0_mayBe 52 = .ok (.if_icmp .gt 7, 3) := by decide +kernel
theorem dX0_mayBe_55 : decode cX0_mayBe 55 = .ok (.iconst 1, 1) := by decide +kernel
theorem dX0_mayBe_56 : decode cX0_mayBe 56 = .ok (.goto 4, 3) := by decide +kernel
theorem dX0_mayBe_59 : decode cX0_mayBe 59 = .ok (.iconst 0, 1) := by decide +kernel
theorem dX0_mayBe_60 : decode cX0_mayBe 60 = .ok (.ireturn, 1) := by decide +kernel
theorem dX0_mayBe_61 : decode cX0_mayBe 61 = .ok (.iload_n 1, 1) := by decide +kernel
theorem dX0_mayBe_62 : decode cX0_mayBe 62 = .ok (.iconst 1, 1) := by decide +kernel
theorem dX0_mayBe_63 : decode cX0_mayBe 63 = .ok (.if_icmp .lt 13, 3) := by decide +kernel
theorem dX0_mayBe_66 : decode cX0_mayBe 66 = .ok (.iload_n 1, 1) := by decide +kernel
theorem dX0_mayBe_67 : decode cX0_mayBe 67 = .ok (.bipush 20, 2) := by decide +kernel
theorem dX0_mayBe_69 : decode cX0_mayBe 69 = .ok (.if_icmp .gt 7, 3) := by decide +kernel
theorem dX0_mayBe_72 : decode cX0_mayBe 72 = .ok (.iconst 1, 1) := by decide +kernel
theorem dX0_mayBe_73 : decode cX0_mayBe 73 = .ok (.goto 4, 3) := by decide +kernel
theorem dX0_mayBe_76 : decode cX0_mayBe 76 = .ok (.iconst 0, 1) := by decide +kernel
theorem dX0_mayBe_77 : decode cX0_mayBe 77 = .ok (.ireturn, 1) := by decide +kernel
theorem dX0_mayBe_78 : decode cX0_mayBe 78 = .ok (.iconst 0, 1) := by decide +kernel
theorem dX0_mayBe_79 : decode cX0_mayBe 79 = .ok (.ireturn, 1) := by decide +kernel
theorem dX0_change_0 : decode cX0_change 0 = .ok (.iload_n 1, 1) := by decide +kernel
theorem dX0_change_1 : decode cX0_change 1 = .ok (.iconst 1, 1) := by decide +kernel
theorem dX0_change_2 : decode cX0_change 2 = .ok (.if_icmp .ne 11, 3) := by decide +kernel
theorem dX0_change_5 : decode cX0_change 5 = .ok (.aload_n 0, 1) := by decide +kernel
theorem dX0_change_6 : decode cX0_change 6 = .ok (.iload_n 2, 1) := by decide +kernel
theorem dX0_change_7 : decode cX0_change 7 = .ok (.putfield 15, 3) := by decide +kernel
theorem dX0_change_10 : decode cX0_change 10 = .ok (.goto 26, 3) := by decide +kernel
theorem dX0_change_13 : decode cX0_change 13 = .ok (.iload_n 1, 1) := by decide +kernel
theorem dX0_change_14 : decode cX0_change 14 = .ok (.iconst 2, 1) := by decide +kernel
theorem dX0_change_15 : decode cX0_change 15 = .ok (.if_icmp .ne 11, 3) := by decide +kernel
theorem dX0_change_18 : decode cX0_change 18 = .ok (.aload_n 0, 1) := by decide +kernel
theorem dX0_change_19 : decode cX0_change 19 = .ok (.iload_n 2, 1) := by decide +kernel
theorem dX0_change_20 : decode cX0_change 20 = .ok (.putfield 18, 3) := by decide +kernel
theorem dX0_change_23 : decode cX0_change 23 = .ok (.goto 13, 3) := by decide +kernel
theorem dX0_change_26 : decode cX0_change 26 = .ok (.iload_n 1, 1) := by decide +kernel
theorem dX0_change_27 : decode cX0_change 27 = .ok (.iconst 3, 1) := by decide +kernel
theorem dX0_change_28 : decode cX0_change 28 = .ok (.if_icmp .ne 8, 3) := by decide +kernel
theorem dX0_change_31 : decode cX0_change 31 = .ok (.aload_n 0, 1) := by decide +kernel
theorem dX0_change_32 : decode cX0_change 32 = .ok (.iload_n 2, 1) := by decide +kernel
theorem dX0_change_33 : decode cX0_change 33 = .ok (.putfield 21, 3) := by decide +kernel
theorem dX0_change_36 : decode cX0_change 36 = .ok (.return_, 1) := by decide +kernel
theorem dX0_become_0 : decode cX0_become 0 = .ok (.aload_n 0, 1) := by decide +kernel
theorem dX0_become_1 : decode cX0_become 1 = .ok (.aload_n 1, 1) := by decide +kernel
theorem dX0_become_2 : decode cX0_become 2 = .ok (.getfield 9, 3) := by decide +kernel
theorem dX0_become_5 : decode cX0_become 5 = .ok (.putfield 9, 3) := by decide +kernel
theorem dX0_become_8 : decode cX0_become 8 = .ok (.aload_n 0, 1) := by decide +kernel
theorem dX0_become_9 : decode cX0_become 9 = .ok (.aload_n 1, 1) := by decide +kernel
theorem dX0_become_10 : decode cX0_become 10 = .ok (.getfield 15, 3) := by decide +kernel
theorem dX0_become_13 : decode cX0_become 13 = .ok (.putfield 15, 3) := by decide +kernel
theorem dX0_become_16 : decode cX0_become 16 = .ok (.aload_n 0, 1) := by decide +kernel
theorem dX0_become_17 : decode cX0_become 17 = .ok (.aload_n 1, 1) := by decide +kernel
theorem dX0_become_18 : decode cX0_become 18 = .ok (.getfield 18, 3) := by decide +kernel
theorem dX0_become_21 : decode cX0_become 21 = .ok (.putfield 18, 3) := by decide +kernel
theorem dX0_become_24 : decode cX0_become 24 = .ok (.aload_n 0, 1) := by decide +kernel
theorem dX0_become_25 : decode cX0_become 25 = .ok (.aload_n 1, 1) := by decide +kernel
theorem dX0_become_26 : decode cX0_become 26 = .ok (.getfield 21, 3) := by decide +kernel
theorem dX0_become_29 : decode cX0_become 29 = .ok (.putfield 21, 3) := by decide +kernel
theorem dX0_become_32 : decode cX0_become 32 = .ok (.aload_n 0, 1) := by decide +kernel
theorem dX0_become_33 : decode cX0_become 33 = .ok (.aload_n 1, 1) := by decide +kernel
theorem dX0_become_34 : decode cX0_become 34 = .ok (.getfield 24, 3) := by decide +kernel
theorem dX0_become_37 : decode cX0_become 37 = .ok (.putfield 24, 3) := by decide +kernel
theorem dX0_become_40 : decode cX0_become 40 = .ok (.aload_n 0, 1) := by decide +kernel
theorem dX0_become_41 : decode cX0_become 41 = .ok (.aload_n 1, 1) := by decide +kernel
theorem dX0_become_42 : decode cX0_become 42 = .ok (.getfield 27, 3) := by decide +kernel
theorem dX0_become_45 : decode cX0_become 45 = .ok (.putfield 27, 3) := by decide +kernel
theorem dX0_become_48 : decode cX0_become 48 = .ok (.aload_n 0, 1) := by decide +kernel
theorem dX0_become_49 : decode cX0_become 49 = .ok (.aload_n 1, 1) := by decide +kernel
theorem dX0_become_50 : decode cX0_become 50 = .ok (.getfield 30, 3) := by decide +kernel
theorem dX0_become_53 : decode cX0_become 53 = .ok (.putfield 30, 3) := by decide +kernel
theorem dX0_become_56 : decode cX0_become 56 = .ok (.return_, 1) := by decide +kernel
theorem dX0_start_0 : decode cX0_start 0 = .ok (.aload_n 0, 1) := by decide +kernel
theorem dX0_start_1 : decode cX0_start 1 = .ok (.iload_n 1, 1) := by decide +kernel
theorem dX0_start_2 : decode cX0_start 2 = .ok (.putfield 9, 3) := by decide +kernel
theorem dX0_start_5 : decode cX0_start 5 = .ok (.aload_n 0, 1) := by decide +kernel
theorem dX0_start_6 : decode cX0_start 6 = .ok (.iload_n 2, 1) := by decide +kernel
theorem dX0_start_7 : decode cX0_start 7 = .ok (.putfield 15, 3) := by decide +kernel
theorem dX0_start_10 : decode cX0_start 10 = .ok (.aload_n 0, 1) := by decide +kernel
theorem dX0_start_11 : decode cX0_start 11 = .ok (.iload_n 3, 1) := by decide +kernel
theorem dX0_start_12 : decode cX0_start 12 = .ok (.putfield 18, 3) := by decide +kernel
theorem dX0_start_15 : decode cX0_start 15 = .ok (.aload_n 0, 1) := by decide +kernel
theorem dX0_start_16 : decode cX0_start 16 = .ok (.iload 4, 2) := by decide +kernel
theorem dX0_start_18 : decode cX0_start 18 = .ok (.putfield 21, 3) := by decide +kernel
theorem dX0_start_21 : decode cX0_start 21 = .ok (.aload_n 0, 1) := by decide +kernel
theorem dX0_start_22 : decode cX0_start 22 = .ok (.iconst 0, 1) := by decide +kernel
theorem dX0_start_23 : decode cX0_start 23 = .ok (.putfield 24, 3) := by decide +kernel
theorem dX0_start_26 : decode cX0_start 26 = .ok (.aload_n 0, 1) := by decide +kernel
theorem dX0_start_27 : decode cX0_start 27 = .ok (.iconst 0, 1) := by decide +kernel
theorem dX0_start_28 : decode cX0_start 28 = .ok (.putfield 27, 3) := by decide +kernel
theorem dX0_start_31 : decode cX0_start 31 = .ok (.aload_n 0, 1) := by decide +kernel
theorem dX0_start_32 : decode cX0_start 32 = .ok (.iconst 0, 1) := by decide +kernel
theorem dX0_start_33 : decode cX0_start 33 = .ok (.putfield 30, 3) := by decide +kernel
theorem dX0_start_36 : decode cX0_start 36 = .ok (.return_, 1) := by decide +kernel
theorem dX0_fact_0 : decode cX0_fact 0 = .ok (.iload_n 1, 1) := by decide +kernel
theorem dX0_fact_1 : decode cX0_fact 1 = .ok (.tableswitch 110 0 8 #[51, 56, 61, 66, 71, 76, 81, 86, 98], 51) := by decide +kernel
theorem dX0_fact_52 : decode cX0_fact 52 = .ok (.aload_n 0, 1) := by decide +kernel
theorem dX0_fact_53 : decode cX0_fact 53 = .ok (.getfield 9, 3) := by decide +kernel
theorem dX0_fact_56 : decode cX0_fact 56 = .ok (.ireturn, 1) := by decide +kernel
theorem dX0_fact_57 : decode cX0_fact 57 = .ok (.aload_n 0, 1) := by decide +kernel
theorem dX0_fact_58 : decode cX0_fact 58 = .ok (.getfield 15, 3) := by decide +kernel
theorem dX0_fact_61 : decode cX0_fact 61 = .ok (.ireturn, 1) := by decide +kernel
theorem dX0_fact_62 : decode cX0_fact 62 = .ok (.aload_n 0, 1) := by decide +kernel
theorem dX0_fact_63 : decode cX0_fact 63 = .ok (.getfield 18, 3) := by decide +kernel
theorem dX0_fact_66 : decode cX0_fact 66 = .ok (.ireturn, 1) := by decide +kernel
theorem dX0_fact_67 : decode cX0_fact 67 = .ok (.aload_n 0, 1) := by decide +kernel
theorem dX0_fact_68 : decode cX0_fact 68 = .ok (.getfield 21, 3) := by decide +kernel
theorem dX0_fact_71 : decode cX0_fact 71 = .ok (.ireturn, 1) := by decide +kernel
theorem dX0_fact_72 : decode cX0_fact 72 = .ok (.aload_n 0, 1) := by decide +kernel
theorem dX0_fact_73 : decode cX0_fact 73 = .ok (.getfield 24, 3) := by decide +kernel
theorem dX0_fact_76 : decode cX0_fact 76 = .ok (.ireturn, 1) := by decide +kernel
theorem dX0_fact_77 : decode cX0_fact 77 = .ok (.aload_n 0, 1) := by decide +kernel
theorem dX0_fact_78 : decode cX0_fact 78 = .ok (.getfield 27, 3) := by decide +kernel
theorem dX0_fact_81 : decode cX0_fact 81 = .ok (.ireturn, 1) := by decide +kernel
theorem dX0_fact_82 : decode cX0_fact 82 = .ok (.aload_n 0, 1) := by decide +kernel
theorem dX0_fact_83 : decode cX0_fact 83 = .ok (.getfield 30, 3) := by decide +kernel
theorem dX0_fact_86 : decode cX0_fact 86 = .ok (.ireturn, 1) := by decide +kernel
theorem dX0_fact_87 : decode cX0_fact 87 = .ok (.aload_n 0, 1) := by decide +kernel
theorem dX0_fact_88 : decode cX0_fact 88 = .ok (.getfield 9, 3) := by decide +kernel
theorem dX0_fact_91 : decode cX0_fact 91 = .ok (.aload_n 0, 1) := by decide +kernel
theorem dX0_fact_92 : decode cX0_fact 92 = .ok (.getfield 21, 3) := by decide +kernel
theorem dX0_fact_95 : decode cX0_fact 95 = .ok (.invokestatic 33, 3) := by decide +kernel
theorem dX0_fact_98 : decode cX0_fact 98 = .ok (.ireturn, 1) := by decide +kernel
theorem dX0_fact_99 : decode cX0_fact 99 = .ok (.aload_n 0, 1) := by decide +kernel
theorem dX0_fact_100 : decode cX0_fact 100 = .ok (.getfield 9, 3) := by decide +kernel
theorem dX0_fact_103 : decode cX0_fact 103 = .ok (.aload_n 0, 1) := by decide +kernel
theorem dX0_fact_104 : decode cX0_fact 104 = .ok (.getfield 18, 3) := by decide +kernel
theorem dX0_fact_107 : decode cX0_fact 107 = .ok (.invokestatic 39, 3) := by decide +kernel
theorem dX0_fact_110 : decode cX0_fact 110 = .ok (.ireturn, 1) := by decide +kernel
theorem dX0_fact_111 : decode cX0_fact 111 = .ok (.aload_n 0, 1) := by decide +kernel
theorem dX0_fact_112 : decode cX0_fact 112 = .ok (.getfield 9, 3) := by decide +kernel
theorem dX0_fact_115 : decode cX0_fact 115 = .ok (.aload_n 0, 1) := by decide +kernel
theorem dX0_fact_116 : decode cX0_fact 116 = .ok (.getfield 18, 3) := by decide +kernel
theorem dX0_fact_119 : decode cX0_fact 119 = .ok (.invokestatic 42, 3) := by decide +kernel
theorem dX0_fact_122 : decode cX0_fact 122 = .ok (.ireturn, 1) := by decide +kernel
theorem dX1_isUnder_0 : decode cX1_isUnder 0 = .ok (.iload_n 0, 1) := by decide +kernel
theorem dX1_isUnder_1 : decode cX1_isUnder 1 = .ok (.istore_n 2, 1) := by decide +kernel
theorem dX1_isUnder_2 : decode cX1_isUnder 2 = .ok (.iconst 0, 1) := by decide +kernel
theorem dX1_isUnder_3 : decode cX1_isUnder 3 = .ok (.istore_n 3, 1) := by decide +kernel
theorem dX1_isUnder_4 : decode cX1_isUnder 4 = .ok (.iload_n 3, 1) := by decide +kernel
theorem dX1_isUnder_5 : decode cX1_isUnder 5 = .ok (.bipush 6, 2) := by decide +kernel
theorem dX1_isUnder_7 : decode cX1_isUnder 7 = .ok (.if_icmp .ge 34, 3) := by decide +kernel
theorem dX1_isUnder_10 : decode cX1_isUnder 10 = .ok (.iload_n 2, 1) := by decide +kernel
theorem dX1_isUnder_11 : decode cX1_isUnder 11 = .ok (.ifCond .lt 30, 3) := by decide +kernel
theorem dX1_isUnder_14 : decode cX1_isUnder 14 = .ok (.iload_n 2, 1) := by decide +kernel
theorem dX1_isUnder_15 : decode cX1_isUnder 15 = .ok (.getstatic 9, 3) := by decide +kernel
theorem dX1_isUnder_18 : decode cX1_isUnder 18 = .ok (.arraylength, 1) := by decide +kernel
theorem dX1_isUnder_19 : decode cX1_isUnder 19 = .ok (.if_icmp .ge 22, 3) := by decide +kernel
theorem dX1_isUnder_22 : decode cX1_isUnder 22 = .ok (.iload_n 2, 1) := by decide +kernel
theorem dX1_isUnder_23 : decode cX1_isUnder 23 = .ok (.iload_n 1, 1) := by decide +kernel
theorem dX1_isUnder_24 : decode cX1_isUnder 24 = .ok (.if_icmp .ne 5, 3) := by decide +kernel
theorem dX1_isUnder_27 : decode cX1_isUnder 27 = .ok (.iconst 1, 1) := by decide +kernel
theorem dX1_isUnder_28 : decode cX1_isUnder 28 = .ok (.ireturn, 1) := by decide +kernel
theorem dX1_isUnder_29 : decode cX1_isUnder 29 = .ok (.getstatic 9, 3) := by decide +kernel
theorem dX1_isUnder_32 : decode cX1_isUnder 32 = .ok (.iload_n 2, 1) := by decide +kernel
theorem dX1_isUnder_33 : decode cX1_isUnder 33 = .ok (.iaload, 1) := by decide +kernel
theorem dX1_isUnder_34 : decode cX1_isUnder 34 = .ok (.istore_n 2, 1) := by decide +kernel
theorem dX1_isUnder_35 : decode cX1_isUnder 35 = .ok (.iinc 3 1, 3) := by decide +kernel
theorem dX1_isUnder_38 : decode cX1_isUnder 38 = .ok (.goto (-34), 3) := by decide +kernel
theorem dX1_isUnder_41 : decode cX1_isUnder 41 = .ok (.iconst 0, 1) := by decide +kernel
theorem dX1_isUnder_42 : decode cX1_isUnder 42 = .ok (.ireturn, 1) := by decide +kernel
theorem dX1_takes_0 : decode cX1_takes 0 = .ok (.iload_n 0, 1) := by decide +kernel
theorem dX1_takes_1 : decode cX1_takes 1 = .ok (.tableswitch 52 1 4 #[31, 44, 37, 44], 31) := by decide +kernel
theorem dX1_takes_32 : decode cX1_takes 32 = .ok (.iconst 1, 1) := by decide +kernel
theorem dX1_takes_33 : decode cX1_takes 33 = .ok (.iload_n 1, 1) := by decide +kernel
theorem dX1_takes_34 : decode cX1_takes 34 = .ok (.iconst 4, 1) := by decide +kernel
theorem dX1_takes_35 : decode cX1_takes 35 = .ok (.idiv, 1) := by decide +kernel
theorem dX1_takes_36 : decode cX1_takes 36 = .ok (.iadd, 1) := by decide +kernel
theorem dX1_takes_37 : decode cX1_takes 37 = .ok (.ireturn, 1) := by decide +kernel
theorem dX1_takes_38 : decode cX1_takes 38 = .ok (.iconst 1, 1) := by decide +kernel
theorem dX1_takes_39 : decode cX1_takes 39 = .ok (.iload_n 1, 1) := by decide +kernel
theorem dX1_takes_40 : decode cX1_takes 40 = .ok (.bipush 6, 2) := by decide +kernel
theorem dX1_takes_42 : decode cX1_takes 42 = .ok (.idiv, 1) := by decide +kernel
theorem dX1_takes_43 : decode cX1_takes 43 = .ok (.iadd, 1) := by decide +kernel
theorem dX1_takes_44 : decode cX1_takes 44 = .ok (.ireturn, 1) := by decide +kernel
theorem dX1_takes_45 : decode cX1_takes 45 = .ok (.iconst 1, 1) := by decide +kernel
theorem dX1_takes_46 : decode cX1_takes 46 = .ok (.iload_n 1, 1) := by decide +kernel
theorem dX1_takes_47 : decode cX1_takes 47 = .ok (.iconst 2, 1) := by decide +kernel
theorem dX1_takes_48 : decode cX1_takes 48 = .ok (.idiv, 1) := by decide +kernel
theorem dX1_takes_49 : decode cX1_takes 49 = .ok (.iadd, 1) := by decide +kernel
theorem dX1_takes_50 : decode cX1_takes 50 = .ok (.iconst 2, 1) := by decide +kernel
theorem dX1_takes_51 : decode cX1_takes 51 = .ok (.iadd, 1) := by decide +kernel
theorem dX1_takes_52 : decode cX1_takes 52 = .ok (.ireturn, 1) := by decide +kernel
theorem dX1_takes_53 : decode cX1_takes 53 = .ok (.iconst 1, 1) := by decide +kernel
theorem dX1_takes_54 : decode cX1_takes 54 = .ok (.iload_n 1, 1) := by decide +kernel
theorem dX1_takes_55 : decode cX1_takes 55 = .ok (.iconst 2, 1) := by decide +kernel
theorem dX1_takes_56 : decode cX1_takes 56 = .ok (.idiv, 1) := by decide +kernel
theorem dX1_takes_57 : decode cX1_takes 57 = .ok (.iadd, 1) := by decide +kernel
theorem dX1_takes_58 : decode cX1_takes 58 = .ok (.ireturn, 1) := by decide +kernel
theorem dX1_asks_0 : decode cX1_asks 0 = .ok (.iload_n 0, 1) := by decide +kernel
theorem dX1_asks_1 : decode cX1_asks 1 = .ok (.tableswitch 49 2 5 #[31, 49, 35, 41], 31) := by decide +kernel
theorem dX1_asks_32 : decode cX1_asks 32 = .ok (.iload_n 1, 1) := by decide +kernel
theorem dX1_asks_33 : decode cX1_asks 33 = .ok (.iconst 3, 1) := by decide +kernel
theorem dX1_asks_34 : decode cX1_asks 34 = .ok (.iadd, 1) := by decide +kernel
theorem dX1_asks_35 : decode cX1_asks 35 = .ok (.ireturn, 1) := by decide +kernel
theorem dX1_asks_36 : decode cX1_asks 36 = .ok (.iconst 2, 1) := by decide +kernel
theorem dX1_asks_37 : decode cX1_asks 37 = .ok (.iload_n 1, 1) := by decide +kernel
theorem dX1_asks_38 : decode cX1_asks 38 = .ok (.iconst 3, 1) := by decide +kernel
theorem dX1_asks_39 : decode cX1_asks 39 = .ok (.iadd, 1) := by decide +kernel
theorem dX1_asks_40 : decode cX1_asks 40 = .ok (.imul, 1) := by decide +kernel
theorem dX1_asks_41 : decode cX1_asks 41 = .ok (.ireturn, 1) := by decide +kernel
theorem dX1_asks_42 : decode cX1_asks 42 = .ok (.iconst 1, 1) := by decide +kernel
theorem dX1_asks_43 : decode cX1_asks 43 = .ok (.iload_n 1, 1) := by decide +kernel
theorem dX1_asks_44 : decode cX1_asks 44 = .ok (.iconst 2, 1) := by decide +kernel
theorem dX1_asks_45 : decode cX1_asks 45 = .ok (.isub, 1) := by decide +kernel
theorem dX1_asks_46 : decode cX1_asks 46 = .ok (.invokestatic 15, 3) := by decide +kernel
theorem dX1_asks_49 : decode cX1_asks 49 = .ok (.ireturn, 1) := by decide +kernel
theorem dX1_asks_50 : decode cX1_asks 50 = .ok (.iload_n 1, 1) := by decide +kernel
theorem dX1_asks_51 : decode cX1_asks 51 = .ok (.ireturn, 1) := by decide +kernel
theorem dX1_worth_0 : decode cX1_worth 0 = .ok (.iload_n 0, 1) := by decide +kernel
theorem dX1_worth_1 : decode cX1_worth 1 = .ok (.tableswitch 61 1 5 #[35, 47, 40, 52, 59], 35) := by decide +kernel
theorem dX1_worth_36 : decode cX1_worth 36 = .ok (.iload_n 1, 1) := by decide +kernel
theorem dX1_worth_37 : decode cX1_worth 37 = .ok (.bipush 8, 2) := by decide +kernel
theorem dX1_worth_39 : decode cX1_worth 39 = .ok (.iadd, 1) := by decide +kernel
theorem dX1_worth_40 : decode cX1_worth 40 = .ok (.ireturn, 1) := by decide +kernel
theorem dX1_worth_41 : decode cX1_worth 41 = .ok (.iconst 2, 1) := by decide +kernel
theorem dX1_worth_42 : decode cX1_worth 42 = .ok (.iload_n 1, 1) := by decide +kernel
theorem dX1_worth_43 : decode cX1_worth 43 = .ok (.bipush 8, 2) := by decide +kernel
theorem dX1_worth_45 : decode cX1_worth 45 = .ok (.iadd, 1) := by decide +kernel
theorem dX1_worth_46 : decode cX1_worth 46 = .ok (.imul, 1) := by decide +kernel
theorem dX1_worth_47 : decode cX1_worth 47 = .ok (.ireturn, 1) := by decide +kernel
theorem dX1_worth_48 : decode cX1_worth 48 = .ok (.bipush 99, 2) := by decide +kernel
theorem dX1_worth_50 : decode cX1_worth 50 = .ok (.iload_n 1, 1) := by decide +kernel
theorem dX1_worth_51 : decode cX1_worth 51 = .ok (.isub, 1) := by decide +kernel
theorem dX1_worth_52 : decode cX1_worth 52 = .ok (.ireturn, 1) := by decide +kernel
theorem dX1_worth_53 : decode cX1_worth 53 = .ok (.bipush 99, 2) := by decide +kernel
theorem dX1_worth_55 : decode cX1_worth 55 = .ok (.iload_n 1, 1) := by decide +kernel
theorem dX1_worth_56 : decode cX1_worth 56 = .ok (.isub, 1) := by decide +kernel
theorem dX1_worth_57 : decode cX1_worth 57 = .ok (.iconst 5, 1) := by decide +kernel
theorem dX1_worth_58 : decode cX1_worth 58 = .ok (.isub, 1) := by decide +kernel
theorem dX1_worth_59 : decode cX1_worth 59 = .ok (.ireturn, 1) := by decide +kernel
theorem dX1_worth_60 : decode cX1_worth 60 = .ok (.iconst 2, 1) := by decide +kernel
theorem dX1_worth_61 : decode cX1_worth 61 = .ok (.ireturn, 1) := by decide +kernel
theorem dX1_worth_62 : decode cX1_worth 62 = .ok (.iload_n 1, 1) := by decide +kernel
theorem dX1_worth_63 : decode cX1_worth 63 = .ok (.ireturn, 1) := by decide +kernel
theorem dX1_shineFrom_0 : decode cX1_shineFrom 0 = .ok (.iload_n 0, 1) := by decide +kernel
theorem dX1_shineFrom_1 : decode cX1_shineFrom 1 = .ok (.tableswitch 64 1 4 #[31, 39, 31, 44], 31) := by decide +kernel
theorem dX1_shineFrom_32 : decode cX1_shineFrom 32 = .ok (.iconst 0, 1) := by decide +kernel
theorem dX1_shineFrom_33 : decode cX1_shineFrom 33 = .ok (.iload_n 2, 1) := by decide +kernel
theorem dX1_shineFrom_34 : decode cX1_shineFrom 34 = .ok (.iconst 5, 1) := by decide +kernel
theorem dX1_shineFrom_35 : decode cX1_shineFrom 35 = .ok (.isub, 1) := by decide +kernel
theorem dX1_shineFrom_36 : decode cX1_shineFrom 36 = .ok (.invokestatic 15, 3) := by decide +kernel
theorem dX1_shineFrom_39 : decode cX1_shineFrom 39 = .ok (.ireturn, 1) := by decide +kernel
theorem dX1_shineFrom_40 : decode cX1_shineFrom 40 = .ok (.iload_n 2, 1) := by decide +kernel
theorem dX1_shineFrom_41 : decode cX1_shineFrom 41 = .ok (.bipush 10, 2) := by decide +kernel
theorem dX1_shineFrom_43 : decode cX1_shineFrom 43 = .ok (.iadd, 1) := by decide +kernel
theorem dX1_shineFrom_44 : decode cX1_shineFrom 44 = .ok (.ireturn, 1) := by decide +kernel
theorem dX1_shineFrom_45 : decode cX1_shineFrom 45 = .ok (.iload_n 1, 1) := by decide +kernel
theorem dX1_shineFrom_46 : decode cX1_shineFrom 46 = .ok (.bipush 12, 2) := by decide +kernel
theorem dX1_shineFrom_48 : decode cX1_shineFrom 48 = .ok (.if_icmp .le 12, 3) := by decide +kernel
theorem dX1_shineFrom_51 : decode cX1_shineFrom 51 = .ok (.iload_n 2, 1) := by decide +kernel
theorem dX1_shineFrom_52 : decode cX1_shineFrom 52 = .ok (.bipush 10, 2) := by decide +kernel
theorem dX1_shineFrom_54 : decode cX1_shineFrom 54 = .ok (.iadd, 1) := by decide +kernel
theorem dX1_shineFrom_55 : decode cX1_shineFrom 55 = .ok (.iconst 2, 1) := by decide +kernel
theorem dX1_shineFrom_56 : decode cX1_shineFrom 56 = .ok (.idiv, 1) := by decide +kernel
theorem dX1_shineFrom_57 : decode cX1_shineFrom 57 = .ok (.goto 7, 3) := by decide +kernel
theorem dX1_shineFrom_60 : decode cX1_shineFrom 60 = .ok (.iload_n 2, 1) := by decide +kernel
theorem dX1_shineFrom_61 : decode cX1_shineFrom 61 = .ok (.bipush 10, 2) := by decide +kernel
theorem dX1_shineFrom_63 : decode cX1_shineFrom 63 = .ok (.iadd, 1) := by decide +kernel
theorem dX1_shineFrom_64 : decode cX1_shineFrom 64 = .ok (.ireturn, 1) := by decide +kernel
theorem dX1_shineFrom_65 : decode cX1_shineFrom 65 = .ok (.iload_n 2, 1) := by decide +kernel
theorem dX1_shineFrom_66 : decode cX1_shineFrom 66 = .ok (.ireturn, 1) := by decide +kernel
theorem dX2_init_0 : decode cX2_init 0 = .ok (.aload_n 0, 1) := by decide +kernel
theorem dX2_init_1 : decode cX2_init 1 = .ok (.invokespecial 3, 3) := by decide +kernel
theorem dX2_init_4 : decode cX2_init 4 = .ok (.aload_n 0, 1) := by decide +kernel
theorem dX2_init_5 : decode cX2_init 5 = .ok (.iconst (-1), 1) := by decide +kernel
theorem dX2_init_6 : decode cX2_init 6 = .ok (.putfield 9, 3) := by decide +kernel
theorem dX2_init_9 : decode cX2_init 9 = .ok (.aload_n 0, 1) := by decide +kernel
theorem dX2_init_10 : decode cX2_init 10 = .ok (.iconst 0, 1) := by decide +kernel
theorem dX2_init_11 : decode cX2_init 11 = .ok (.putfield 15, 3) := by decide +kernel
theorem dX2_init_14 : decode cX2_init 14 = .ok (.aload_n 0, 1) := by decide +kernel
theorem dX2_init_15 : decode cX2_init 15 = .ok (.bipush 24, 2) := by decide +kernel
theorem dX2_init_17 : decode cX2_init 17 = .ok (.newarray .int, 2) := by decide +kernel
theorem dX2_init_19 : decode cX2_init 19 = .ok (.putfield 18, 3) := by decide +kernel
theorem dX2_init_22 : decode cX2_init 22 = .ok (.return_, 1) := by decide +kernel
theorem dX2_renew_0 : decode cX2_renew 0 = .ok (.aload_n 0, 1) := by decide +kernel
theorem dX2_renew_1 : decode cX2_renew 1 = .ok (.iload_n 1, 1) := by decide +kernel
theorem dX2_renew_2 : decode cX2_renew 2 = .ok (.putfield 9, 3) := by decide +kernel
theorem dX2_renew_5 : decode cX2_renew 5 = .ok (.aload_n 0, 1) := by decide +kernel
theorem dX2_renew_6 : decode cX2_renew 6 = .ok (.iconst 0, 1) := by decide +kernel
theorem dX2_renew_7 : decode cX2_renew 7 = .ok (.iload_n 2, 1) := by decide +kernel
theorem dX2_renew_8 : decode cX2_renew 8 = .ok (.aload_n 0, 1) := by decide +kernel
theorem dX2_renew_9 : decode cX2_renew 9 = .ok (.getfield 18, 3) := by decide +kernel
theorem dX2_renew_12 : decode cX2_renew 12 = .ok (.arraylength, 1) := by decide +kernel
theorem dX2_renew_13 : decode cX2_renew 13 = .ok (.invokestatic 22, 3) := by decide +kernel
theorem dX2_renew_16 : decode cX2_renew 16 = .ok (.invokestatic 28, 3) := by decide +kernel
theorem dX2_renew_19 : decode cX2_renew 19 = .ok (.putfield 15, 3) := by decide +kernel
theorem dX2_renew_22 : decode cX2_renew 22 = .ok (.iconst 0, 1) := by decide +kernel
theorem dX2_renew_23 : decode cX2_renew 23 = .ok (.istore_n 3, 1) := by decide +kernel
theorem dX2_renew_24 : decode cX2_renew 24 = .ok (.iload_n 3, 1) := by decide +kernel
theorem dX2_renew_25 : decode cX2_renew 25 = .ok (.aload_n 0, 1) := by decide +kernel
theorem dX2_renew_26 : decode cX2_renew 26 = .ok (.getfield 18, 3) := by decide +kernel
theorem dX2_renew_29 : decode cX2_renew 29 = .ok (.arraylength, 1) := by decide +kernel
theorem dX2_renew_30 : decode cX2_renew 30 = .ok (.if_icmp .ge 16, 3) := by decide +kernel
theorem dX2_renew_33 : decode cX2_renew 33 = .ok (.aload_n 0, 1) := by decide +kernel
theorem dX2_renew_34 : decode cX2_renew 34 = .ok (.getfield 18, 3) := by decide +kernel
theorem dX2_renew_37 : decode cX2_renew 37 = .ok (.iload_n 3, 1) := by decide +kernel
theorem dX2_renew_38 : decode cX2_renew 38 = .ok (.iconst 0, 1) := by decide +kernel
theorem dX2_renew_39 : decode cX2_renew 39 = .ok (.iastore, 1) := by decide +kernel
theorem dX2_renew_40 : decode cX2_renew 40 = .ok (.iinc 3 1, 3) := by decide +kernel
theorem dX2_renew_43 : decode cX2_renew 43 = .ok (.goto (-19), 3) := by decide +kernel
theorem dX2_renew_46 : decode cX2_renew 46 = .ok (.return_, 1) := by decide +kernel
theorem dX2_become_0 : decode cX2_become 0 = .ok (.aload_n 0, 1) := by decide +kernel
theorem dX2_become_1 : decode cX2_become 1 = .ok (.aload_n 1, 1) := by decide +kernel
theorem dX2_become_2 : decode cX2_become 2 = .ok (.getfield 9, 3) := by decide +kernel
theorem dX2_become_5 : decode cX2_become 5 = .ok (.putfield 9, 3) := by decide +kernel
theorem dX2_become_8 : decode cX2_become 8 = .ok (.aload_n 0, 1) := by decide +kernel
theorem dX2_become_9 : decode cX2_become 9 = .ok (.aload_n 1, 1) := by decide +kernel
theorem dX2_become_10 : decode cX2_become 10 = .ok (.getfield 15, 3) := by decide +kernel
theorem dX2_become_13 : decode cX2_become 13 = .ok (.putfield 15, 3) := by decide +kernel
theorem dX2_become_16 : decode cX2_become 16 = .ok (.aload_n 1, 1) := by decide +kernel
theorem dX2_become_17 : decode cX2_become 17 = .ok (.getfield 18, 3) := by decide +kernel
theorem dX2_become_20 : decode cX2_become 20 = .ok (.iconst 0, 1) := by decide +kernel
theorem dX2_become_21 : decode cX2_become 21 = .ok (.aload_n 0, 1) := by decide +kernel
theorem dX2_become_22 : decode cX2_become 22 = .ok (.getfield 18, 3) := by decide +kernel
theorem dX2_become_25 : decode cX2_become 25 = .ok (.iconst 0, 1) := by decide +kernel
theorem dX2_become_26 : decode cX2_become 26 = .ok (.bipush 24, 2) := by decide +kernel
theorem dX2_become_28 : decode cX2_become 28 = .ok (.invokestatic 31, 3) := by decide +kernel
theorem dX2_become_31 : decode cX2_become 31 = .ok (.return_, 1) := by decide +kernel
theorem dX2_isMissing_0 : decode cX2_isMissing 0 = .ok (.aload_n 0, 1) := by decide +kernel
theorem dX2_isMissing_1 : decode cX2_isMissing 1 = .ok (.getfield 9, 3) := by decide +kernel
theorem dX2_isMissing_4 : decode cX2_isMissing 4 = .ok (.iconst (-1), 1) := by decide +kernel
theorem dX2_isMissing_5 : decode cX2_isMissing 5 = .ok (.if_icmp .ne 7, 3) := by decide +kernel
theorem dX2_isMissing_8 : decode cX2_isMissing 8 = .ok (.iconst 1, 1) := by decide +kernel
theorem dX2_isMissing_9 : decode cX2_isMissing 9 = .ok (.goto 4, 3) := by decide +kernel
theorem dX2_isMissing_12 : decode cX2_isMissing 12 = .ok (.iconst 0, 1) := by decide +kernel
theorem dX2_isMissing_13 : decode cX2_isMissing 13 = .ok (.ireturn, 1) := by decide +kernel
theorem dX2_hasPlace_0 : decode cX2_hasPlace 0 = .ok (.iload_n 1, 1) := by decide +kernel
theorem dX2_hasPlace_1 : decode cX2_hasPlace 1 = .ok (.ifCond .lt 15, 3) := by decide +kernel
theorem dX2_hasPlace_4 : decode cX2_hasPlace 4 = .ok (.iload_n 1, 1) := by decide +kernel
theorem dX2_hasPlace_5 : decode cX2_hasPlace 5 = .ok (.aload_n 0, 1) := by decide +kernel
theorem dX2_hasPlace_6 : decode cX2_hasPlace 6 = .ok (.getfield 15, 3) := by decide +kernel
theorem dX2_hasPlace_9 : decode cX2_hasPlace 9 = .ok (.if_icmp .ge 7, 3) := by decide +kernel
theorem dX2_hasPlace_12 : decode cX2_hasPlace 12 = .ok (.iconst 1, 1) := by decide +kernel
theorem dX2_hasPlace_13 : decode cX2_hasPlace 13 = .ok (.goto 4, 3) := by decide +kernel
theorem dX2_hasPlace_16 : decode cX2_hasPlace 16 = .ok (.iconst 0, 1) := by decide +kernel
theorem dX2_hasPlace_17 : decode cX2_hasPlace 17 = .ok (.ireturn, 1) := by decide +kernel
theorem dX2_hasPlaces_0 : decode cX2_hasPlaces 0 = .ok (.iload_n 1, 1) := by decide +kernel
theorem dX2_hasPlaces_1 : decode cX2_hasPlaces 1 = .ok (.ifCond .lt 29, 3) := by decide +kernel
theorem dX2_hasPlaces_4 : decode cX2_hasPlaces 4 = .ok (.iload_n 2, 1) := by decide +kernel
theorem dX2_hasPlaces_5 : decode cX2_hasPlaces 5 = .ok (.ifCond .lt 25, 3) := by decide +kernel
theorem dX2_hasPlaces_8 : decode cX2_hasPlaces 8 = .ok (.iload_n 1, 1) := by decide +kernel
theorem dX2_hasPlaces_9 : decode cX2_hasPlaces 9 = .ok (.aload_n 0, 1) := by decide +kernel
theorem dX2_hasPlaces_10 : decode cX2_hasPlaces 10 = .ok (.getfield 15, 3) := by decide +kernel
theorem dX2_hasPlaces_13 : decode cX2_hasPlaces 13 = .ok (.if_icmp .gt 17, 3) := by decide +kernel
theorem dX2_hasPlaces_16 : decode cX2_hasPlaces 16 = .ok (.iload_n 2, 1) := by decide +kernel
theorem dX2_hasPlaces_17 : decode cX2_hasPlaces 17 = .ok (.aload_n 0, 1) := by decide +kernel
theorem dX2_hasPlaces_18 : decode cX2_hasPlaces 18 = .ok (.getfield 15, 3) := by decide +kernel
theorem dX2_hasPlaces_21 : decode cX2_hasPlaces 21 = .ok (.iload_n 1, 1) := by decide +kernel
theorem dX2_hasPlaces_22 : decode cX2_hasPlaces 22 = .ok (.isub, 1) := by decide +kernel
theorem dX2_hasPlaces_23 : decode cX2_hasPlaces 23 = .ok (.if_icmp .gt 7, 3) := by decide +kernel
theorem dX2_hasPlaces_26 : decode cX2_hasPlaces 26 = .ok (.iconst 1, 1) := by decide +kernel
theorem dX2_hasPlaces_27 : decode cX2_hasPlaces 27 = .ok (.goto 4, 3) := by decide +kernel
theorem dX2_hasPlaces_30 : decode cX2_hasPlaces 30 = .ok (.iconst 0, 1) := by decide +kernel
theorem dX2_hasPlaces_31 : decode cX2_hasPlaces 31 = .ok (.ireturn, 1) := by decide +kernel
theorem dX2_hasNumber_0 : decode cX2_hasNumber 0 = .ok (.aload_n 0, 1) := by decide +kernel
theorem dX2_hasNumber_1 : decode cX2_hasNumber 1 = .ok (.iload_n 1, 1) := by decide +kernel
theorem dX2_hasNumber_2 : decode cX2_hasNumber 2 = .ok (.invokevirtual 37, 3) := by decide +kernel
theorem dX2_hasNumber_5 : decode cX2_hasNumber 5 = .ok (.ifCond .eq 18, 3) := by decide +kernel
theorem dX2_hasNumber_8 : decode cX2_hasNumber 8 = .ok (.aload_n 0, 1) := by decide +kernel
theorem dX2_hasNumber_9 : decode cX2_hasNumber 9 = .ok (.getfield 18, 3) := by decide +kernel
theorem dX2_hasNumber_12 : decode cX2_hasNumber 12 = .ok (.iload_n 1, 1) := by decide +kernel
theorem dX2_hasNumber_13 : decode cX2_hasNumber 13 = .ok (.iaload, 1) := by decide +kernel
theorem dX2_hasNumber_14 : decode cX2_hasNumber 14 = .ok (.ldc 41, 2) := by decide +kernel
theorem dX2_hasNumber_16 : decode cX2_hasNumber 16 = .ok (.if_icmp .eq 7, 3) := by decide +kernel
theorem dX2_hasNumber_19 : decode cX2_hasNumber 19 = .ok (.iconst 1, 1) := by decide +kernel
theorem dX2_hasNumber_20 : decode cX2_hasNumber 20 = .ok (.goto 4, 3) := by decide +kernel
theorem dX2_hasNumber_23 : decode cX2_hasNumber 23 = .ok (.iconst 0, 1) := by decide +kernel
theorem dX2_hasNumber_24 : decode cX2_hasNumber 24 = .ok (.ireturn, 1) := by decide +kernel
theorem dX3_init_0 : decode cX3_init 0 = .ok (.aload_n 0, 1) := by decide +kernel
theorem dX3_init_1 : decode cX3_init 1 = .ok (.invokespecial 3, 3) := by decide +kernel
theorem dX3_init_4 : decode cX3_init 4 = .ok (.aload_n 0, 1) := by decide +kernel
theorem dX3_init_5 : decode cX3_init 5 = .ok (.iconst 0, 1) := by decide +kernel
theorem dX3_init_6 : decode cX3_init 6 = .ok (.putfield 9, 3) := by decide +kernel
theorem dX3_init_9 : decode cX3_init 9 = .ok (.aload_n 0, 1) := by decide +kernel
theorem dX3_init_10 : decode cX3_init 10 = .ok (.iconst 0, 1) := by decide +kernel
theorem dX3_init_11 : decode cX3_init 11 = .ok (.putfield 15, 3) := by decide +kernel
theorem dX3_init_14 : decode cX3_init 14 = .ok (.aload_n 0, 1) := by decide +kernel
theorem dX3_init_15 : decode cX3_init 15 = .ok (.new 18, 3) := by decide +kernel
theorem dX3_init_18 : decode cX3_init 18 = .ok (.dup, 1) := by decide +kernel
theorem dX3_init_19 : decode cX3_init 19 = .ok (.invokespecial 20, 3) := by decide +kernel
theorem dX3_init_22 : decode cX3_init 22 = .ok (.putfield 21, 3) := by decide +kernel
theorem dX3_init_25 : decode cX3_init 25 = .ok (.aload_n 0, 1) := by decide +kernel
theorem dX3_init_26 : decode cX3_init 26 = .ok (.new 25, 3) := by decide +kernel
theorem dX3_init_29 : decode cX3_init 29 = .ok (.dup, 1) := by decide +kernel
theorem dX3_init_30 : decode cX3_init 30 = .ok (.invokespecial 27, 3) := by decide +kernel
theorem dX3_init_33 : decode cX3_init 33 = .ok (.putfield 28, 3) := by decide +kernel
theorem dX3_init_36 : decode cX3_init 36 = .ok (.return_, 1) := by decide +kernel
theorem dX3_findingFor_0 : decode cX3_findingFor 0 = .ok (.aload_n 0, 1) := by decide +kernel
theorem dX3_findingFor_1 : decode cX3_findingFor 1 = .ok (.getfield 9, 3) := by decide +kernel
theorem dX3_findingFor_4 : decode cX3_findingFor 4 = .ok (.ifCond .ne 6, 3) := by decide +kernel
theorem dX3_findingFor_7 : decode cX3_findingFor 7 = .ok (.ldc 32, 2) := by decide +kernel
theorem dX3_findingFor_9 : decode cX3_findingFor 9 = .ok (.ireturn, 1) := by decide +kernel
theorem dX3_findingFor_10 : decode cX3_findingFor 10 = .ok (.aload_n 0, 1) := by decide +kernel
theorem dX3_findingFor_11 : decode cX3_findingFor 11 = .ok (.getfield 9, 3) := by decide +kernel
theorem dX3_findingFor_14 : decode cX3_findingFor 14 = .ok (.iload_n 1, 1) := by decide +kernel
theorem dX3_findingFor_15 : decode cX3_findingFor 15 = .ok (.if_icmp .ne 7, 3) := by decide +kernel
theorem dX3_findingFor_18 : decode cX3_findingFor 18 = .ok (.iconst 0, 1) := by decide +kernel
theorem dX3_findingFor_19 : decode cX3_findingFor 19 = .ok (.goto 5, 3) := by decide +kernel
theorem dX3_findingFor_22 : decode cX3_findingFor 22 = .ok (.ldc 33, 2) := by decide +kernel
theorem dX3_findingFor_24 : decode cX3_findingFor 24 = .ok (.ireturn, 1) := by decide +kernel
theorem dX4_init_0 : decode cX4_init 0 = .ok (.aload_n 0, 1) := by decide +kernel
theorem dX4_init_1 : decode cX4_init 1 = .ok (.invokespecial 3, 3) := by decide +kernel
theorem dX4_init_4 : decode cX4_init 4 = .ok (.aload_n 0, 1) := by decide +kernel
theorem dX4_init_5 : decode cX4_init 5 = .ok (.bipush 8, 2) := by decide +kernel
theorem dX4_init_7 : decode cX4_init 7 = .ok (.anewarray 9, 3) := by decide +kernel
theorem dX4_init_10 : decode cX4_init 10 = .ok (.putfield 11, 3) := by decide +kernel
theorem dX4_init_13 : decode cX4_init 13 = .ok (.aload_n 0, 1) := by decide +kernel
theorem dX4_init_14 : decode cX4_init 14 = .ok (.iconst 3, 1) := by decide +kernel
theorem dX4_init_15 : decode cX4_init 15 = .ok (.anewarray 17, 3) := by decide +kernel
theorem dX4_init_18 : decode cX4_init 18 = .ok (.putfield 19, 3) := by decide +kernel
theorem dX4_init_21 : decode cX4_init 21 = .ok (.aload_n 0, 1) := by decide +kernel
theorem dX4_init_22 : decode cX4_init 22 = .ok (.iconst 0, 1) := by decide +kernel
theorem dX4_init_23 : decode cX4_init 23 = .ok (.putfield 23, 3) := by decide +kernel
theorem dX4_init_26 : decode cX4_init 26 = .ok (.aload_n 0, 1) := by decide +kernel
theorem dX4_init_27 : decode cX4_init 27 = .ok (.iconst 0, 1) := by decide +kernel
theorem dX4_init_28 : decode cX4_init 28 = .ok (.putfield 27, 3) := by decide +kernel
theorem dX4_init_31 : decode cX4_init 31 = .ok (.aload_n 0, 1) := by decide +kernel
theorem dX4_init_32 : decode cX4_init 32 = .ok (.iconst 0, 1) := by decide +kernel
theorem dX4_init_33 : decode cX4_init 33 = .ok (.putfield 30, 3) := by decide +kernel
theorem dX4_init_36 : decode cX4_init 36 = .ok (.aload_n 0, 1) := by decide +kernel
theorem dX4_init_37 : decode cX4_init 37 = .ok (.iconst 0, 1) := by decide +kernel
theorem dX4_init_38 : decode cX4_init 38 = .ok (.putfield 33, 3) := by decide +kernel
theorem dX4_init_41 : decode cX4_init 41 = .ok (.aload_n 0, 1) := by decide +kernel
theorem dX4_init_42 : decode cX4_init 42 = .ok (.bipush 20, 2) := by decide +kernel
theorem dX4_init_44 : decode cX4_init 44 = .ok (.putfield 36, 3) := by decide +kernel
theorem dX4_init_47 : decode cX4_init 47 = .ok (.aload_n 0, 1) := by decide +kernel
theorem dX4_init_48 : decode cX4_init 48 = .ok (.iconst 0, 1) := by decide +kernel
theorem dX4_init_49 : decode cX4_init 49 = .ok (.putfield 39, 3) := by decide +kernel
theorem dX4_init_52 : decode cX4_init 52 = .ok (.aload_n 0, 1) := by decide +kernel
theorem dX4_init_53 : decode cX4_init 53 = .ok (.iconst 0, 1) := by decide +kernel
theorem dX4_init_54 : decode cX4_init 54 = .ok (.putfield 42, 3) := by decide +kernel
theorem dX4_init_57 : decode cX4_init 57 = .ok (.aload_n 0, 1) := by decide +kernel
theorem dX4_init_58 : decode cX4_init 58 = .ok (.iconst 1, 1) := by decide +kernel
theorem dX4_init_59 : decode cX4_init 59 = .ok (.putfield 45, 3) := by decide +kernel
theorem dX4_init_62 : decode cX4_init 62 = .ok (.aload_n 0, 1) := by decide +kernel
theorem dX4_init_63 : decode cX4_init 63 = .ok (.iconst 0, 1) := by decide +kernel
theorem dX4_init_64 : decode cX4_init 64 = .ok (.putfield 48, 3) := by decide +kernel
theorem dX4_init_67 : decode cX4_init 67 = .ok (.aload_n 0, 1) := by decide +kernel
theorem dX4_init_68 : decode cX4_init 68 = .ok (.iconst (-1), 1) := by decide +kernel
theorem dX4_init_69 : decode cX4_init 69 = .ok (.putfield 52, 3) := by decide +kernel
theorem dX4_init_72 : decode cX4_init 72 = .ok (.iconst 0, 1) := by decide +kernel
theorem dX4_init_73 : decode cX4_init 73 = .ok (.istore_n 1, 1) := by decide +kernel
theorem dX4_init_74 : decode cX4_init 74 = .ok (.iload_n 1, 1) := by decide +kernel
theorem dX4_init_75 : decode cX4_init 75 = .ok (.aload_n 0, 1) := by decide +kernel
theorem dX4_init_76 : decode cX4_init 76 = .ok (.getfield 11, 3) := by decide +kernel
theorem dX4_init_79 : decode cX4_init 79 = .ok (.arraylength, 1) := by decide +kernel
theorem dX4_init_80 : decode cX4_init 80 = .ok (.if_icmp .ge 22, 3) := by decide +kernel
theorem dX4_init_83 : decode cX4_init 83 = .ok (.aload_n 0, 1) := by decide +kernel
theorem dX4_init_84 : decode cX4_init 84 = .ok (.getfield 11, 3) := by decide +kernel
theorem dX4_init_87 : decode cX4_init 87 = .ok (.iload_n 1, 1) := by decide +kernel
theorem dX4_init_88 : decode cX4_init 88 = .ok (.new 9, 3) := by decide +kernel
theorem dX4_init_91 : decode cX4_init 91 = .ok (.dup, 1) := by decide +kernel
theorem dX4_init_92 : decode cX4_init 92 = .ok (.invokespecial 55, 3) := by decide +kernel
theorem dX4_init_95 : decode cX4_init 95 = .ok (.aastore, 1) := by decide +kernel
theorem dX4_init_96 : decode cX4_init 96 = .ok (.iinc 1 1, 3) := by decide +kernel
theorem dX4_init_99 : decode cX4_init 99 = .ok (.goto (-25), 3) := by decide +kernel
theorem dX4_init_102 : decode cX4_init 102 = .ok (.return_, 1) := by decide +kernel
theorem dX4_become_0 : decode cX4_become 0 = .ok (.aload_n 0, 1) := by decide +kernel
theorem dX4_become_1 : decode cX4_become 1 = .ok (.aload_n 1, 1) := by decide +kernel
theorem dX4_become_2 : decode cX4_become 2 = .ok (.getfield 23, 3) := by decide +kernel
theorem dX4_become_5 : decode cX4_become 5 = .ok (.putfield 23, 3) := by decide +kernel
theorem dX4_become_8 : decode cX4_become 8 = .ok (.aload_n 0, 1) := by decide +kernel
theorem dX4_become_9 : decode cX4_become 9 = .ok (.aload_n 1, 1) := by decide +kernel
theorem dX4_become_10 : decode cX4_become 10 = .ok (.getfield 27, 3) := by decide +kernel
theorem dX4_become_13 : decode cX4_become 13 = .ok (.putfield 27, 3) := by decide +kernel
theorem dX4_become_16 : decode cX4_become 16 = .ok (.aload_n 0, 1) := by decide +kernel
theorem dX4_become_17 : decode cX4_become 17 = .ok (.aload_n 1, 1) := by decide +kernel
theorem dX4_become_18 : decode cX4_become 18 = .ok (.getfield 30, 3) := by decide +kernel
theorem dX4_become_21 : decode cX4_become 21 = .ok (.putfield 30, 3) := by decide +kernel
theorem dX4_become_24 : decode cX4_become 24 = .ok (.aload_n 0, 1) := by decide +kernel
theorem dX4_become_25 : decode cX4_become 25 = .ok (.aload_n 1, 1) := by decide +kernel
theorem dX4_become_26 : decode cX4_become 26 = .ok (.getfield 33, 3) := by decide +kernel
theorem dX4_become_29 : decode cX4_become 29 = .ok (.putfield 33, 3) := by decide +kernel
theorem dX4_become_32 : decode cX4_become 32 = .ok (.aload_n 0, 1) := by decide +kernel
theorem dX4_become_33 : decode cX4_become 33 = .ok (.aload_n 1, 1) := by decide +kernel
theorem dX4_become_34 : decode cX4_become 34 = .ok (.getfield 36, 3) := by decide +kernel
theorem dX4_become_37 : decode cX4_become 37 = .ok (.putfield 36, 3) := by decide +kernel
theorem dX4_become_40 : decode cX4_become 40 = .ok (.aload_n 0, 1) := by decide +kernel
theorem dX4_become_41 : decode cX4_become 41 = .ok (.aload_n 1, 1) := by decide +kernel
theorem dX4_become_42 : decode cX4_become 42 = .ok (.getfield 39, 3) := by decide +kernel
theorem dX4_become_45 : decode cX4_become 45 = .ok (.putfield 39, 3) := by decide +kernel
theorem dX4_become_48 : decode cX4_become 48 = .ok (.aload_n 0, 1) := by decide +kernel
theorem dX4_become_49 : decode cX4_become 49 = .ok (.aload_n 1, 1) := by decide +kernel
theorem dX4_become_50 : decode cX4_become 50 = .ok (.getfield 42, 3) := by decide +kernel
theorem dX4_become_53 : decode cX4_become 53 = .ok (.putfield 42, 3) := by decide +kernel
theorem dX4_become_56 : decode cX4_become 56 = .ok (.aload_n 0, 1) := by decide +kernel
theorem dX4_become_57 : decode cX4_become 57 = .ok (.aload_n 1, 1) := by decide +kernel
theorem dX4_become_58 : decode cX4_become 58 = .ok (.getfield 45, 3) := by decide +kernel
theorem dX4_become_61 : decode cX4_become 61 = .ok (.putfield 45, 3) := by decide +kernel
theorem dX4_become_64 : decode cX4_become 64 = .ok (.aload_n 0, 1) := by decide +kernel
theorem dX4_become_65 : decode cX4_become 65 = .ok (.aload_n 1, 1) := by decide +kernel
theorem dX4_become_66 : decode cX4_become 66 = .ok (.getfield 48, 3) := by decide +kernel
theorem dX4_become_69 : decode cX4_become 69 = .ok (.putfield 48, 3) := by decide +kernel
theorem dX4_become_72 : decode cX4_become 72 = .ok (.aload_n 0, 1) := by decide +kernel
theorem dX4_become_73 : decode cX4_become 73 = .ok (.iconst (-1), 1) := by decide +kernel
theorem dX4_become_74 : decode cX4_become 74 = .ok (.putfield 52, 3) := by decide +kernel
theorem dX4_become_77 : decode cX4_become 77 = .ok (.iconst 0, 1) := by decide +kernel
theorem dX4_become_78 : decode cX4_become 78 = .ok (.istore_n 2, 1) := by decide +kernel
theorem dX4_become_79 : decode cX4_become 79 = .ok (.iload_n 2, 1) := by decide +kernel
theorem dX4_become_80 : decode cX4_become 80 = .ok (.aload_n 0, 1) := by decide +kernel
theorem dX4_become_81 : decode cX4_become 81 = .ok (.getfield 23, 3) := by decide +kernel
theorem dX4_become_84 : decode cX4_become 84 = .ok (.if_icmp .ge 30, 3) := by decide +kernel
theorem dX4_become_87 : decode cX4_become 87 = .ok (.iload_n 2, 1) := by decide +kernel
theorem dX4_become_88 : decode cX4_become 88 = .ok (.bipush 8, 2) := by decide +kernel
theorem dX4_become_90 : decode cX4_become 90 = .ok (.if_icmp .ge 24, 3) := by decide +kernel
theorem dX4_become_93 : decode cX4_become 93 = .ok (.aload_n 0, 1) := by decide +kernel
theorem dX4_become_94 : decode cX4_become 94 = .ok (.getfield 11, 3) := by decide +kernel
theorem dX4_become_97 : decode cX4_become 97 = .ok (.iload_n 2, 1) := by decide +kernel
theorem dX4_become_98 : decode cX4_become 98 = .ok (.aaload, 1) := by decide +kernel
theorem dX4_become_99 : decode cX4_become 99 = .ok (.aload_n 1, 1) := by decide +kernel
theorem dX4_become_100 : decode cX4_become 100 = .ok (.getfield 11, 3) := by decide +kernel
theorem dX4_become_103 : decode cX4_become 103 = .ok (.iload_n 2, 1) := by decide +kernel
theorem dX4_become_104 : decode cX4_become 104 = .ok (.aaload, 1) := by decide +kernel
theorem dX4_become_105 : decode cX4_become 105 = .ok (.invokevirtual 56, 3) := by decide +kernel
theorem dX4_become_108 : decode cX4_become 108 = .ok (.iinc 2 1, 3) := by decide +kernel
theorem dX4_become_111 : decode cX4_become 111 = .ok (.goto (-32), 3) := by decide +kernel
theorem dX4_become_114 : decode cX4_become 114 = .ok (.iconst 0, 1) := by decide +kernel
theorem dX4_become_115 : decode cX4_become 115 = .ok (.istore_n 2, 1) := by decide +kernel
theorem dX4_become_116 : decode cX4_become 116 = .ok (.iload_n 2, 1) := by decide +kernel
theorem dX4_become_117 : decode cX4_become 117 = .ok (.iconst 3, 1) := by decide +kernel
theorem dX4_become_118 : decode cX4_become 118 = .ok (.if_icmp .ge 21, 3) := by decide +kernel
theorem dX4_become_121 : decode cX4_become 121 = .ok (.aload_n 0, 1) := by decide +kernel
theorem dX4_become_122 : decode cX4_become 122 = .ok (.getfield 19, 3) := by decide +kernel
theorem dX4_become_125 : decode cX4_become 125 = .ok (.iload_n 2, 1) := by decide +kernel
theorem dX4_become_126 : decode cX4_become 126 = .ok (.aload_n 1, 1) := by decide +kernel
theorem dX4_become_127 : decode cX4_become 127 = .ok (.getfield 19, 3) := by decide +kernel
theorem dX4_become_130 : decode cX4_become 130 = .ok (.iload_n 2, 1) := by decide +kernel
theorem dX4_become_131 : decode cX4_become 131 = .ok (.aaload, 1) := by decide +kernel
theorem dX4_become_132 : decode cX4_become 132 = .ok (.aastore, 1) := by decide +kernel
theorem dX4_become_133 : decode cX4_become 133 = .ok (.iinc 2 1, 3) := by decide +kernel
theorem dX4_become_136 : decode cX4_become 136 = .ok (.goto (-20), 3) := by decide +kernel
theorem dX4_become_139 : decode cX4_become 139 = .ok (.return_, 1) := by decide +kernel
theorem dX4_addBoy_0 : decode cX4_addBoy 0 = .ok (.aload_n 0, 1) := by decide +kernel
theorem dX4_addBoy_1 : decode cX4_addBoy 1 = .ok (.getfield 23, 3) := by decide +kernel
theorem dX4_addBoy_4 : decode cX4_addBoy 4 = .ok (.aload_n 0, 1) := by decide +kernel
theorem dX4_addBoy_5 : decode cX4_addBoy 5 = .ok (.getfield 11, 3) := by decide +kernel
theorem dX4_addBoy_8 : decode cX4_addBoy 8 = .ok (.arraylength, 1) := by decide +kernel
theorem dX4_addBoy_9 : decode cX4_addBoy 9 = .ok (.if_icmp .ge 30, 3) := by decide +kernel
theorem dX4_addBoy_12 : decode cX4_addBoy 12 = .ok (.aload_n 0, 1) := by decide +kernel
theorem dX4_addBoy_13 : decode cX4_addBoy 13 = .ok (.getfield 11, 3) := by decide +kernel
theorem dX4_addBoy_16 : decode cX4_addBoy 16 = .ok (.aload_n 0, 1) := by decide +kernel
theorem dX4_addBoy_17 : decode cX4_addBoy 17 = .ok (.getfield 23, 3) := by decide +kernel
theorem dX4_addBoy_20 : decode cX4_addBoy 20 = .ok (.aaload, 1) := by decide +kernel
theorem dX4_addBoy_21 : decode cX4_addBoy 21 = .ok (.iload_n 1, 1) := by decide +kernel
theorem dX4_addBoy_22 : decode cX4_addBoy 22 = .ok (.iload_n 2, 1) := by decide +kernel
theorem dX4_addBoy_23 : decode cX4_addBoy 23 = .ok (.iload_n 3, 1) := by decide +kernel
theorem dX4_addBoy_24 : decode cX4_addBoy 24 = .ok (.iload 4, 2) := by decide +kernel
theorem dX4_addBoy_26 : decode cX4_addBoy 26 = .ok (.invokevirtual 60, 3) := by decide +kernel
theorem dX4_addBoy_29 : decode cX4_addBoy 29 = .ok (.aload_n 0, 1) := by decide +kernel
theorem dX4_addBoy_30 : decode cX4_addBoy 30 = .ok (.dup, 1) := by decide +kernel
theorem dX4_addBoy_31 : decode cX4_addBoy 31 = .ok (.getfield 23, 3) := by decide +kernel
theorem dX4_addBoy_34 : decode cX4_addBoy 34 = .ok (.iconst 1, 1) := by decide +kernel
theorem dX4_addBoy_35 : decode cX4_addBoy 35 = .ok (.iadd, 1) := by decide +kernel
theorem dX4_addBoy_36 : decode cX4_addBoy 36 = .ok (.putfield 23, 3) := by decide +kernel
theorem dX4_addBoy_39 : decode cX4_addBoy 39 = .ok (.return_, 1) := by decide +kernel
theorem dX4_drawBoy_0 : decode cX4_drawBoy 0 = .ok (.aload_n 0, 1) := by decide +kernel
theorem dX4_drawBoy_1 : decode cX4_drawBoy 1 = .ok (.invokevirtual 64, 3) := by decide +kernel
theorem dX4_drawBoy_4 : decode cX4_drawBoy 4 = .ok (.bipush 6, 2) := by decide +kernel
theorem dX4_drawBoy_6 : decode cX4_drawBoy 6 = .ok (.irem, 1) := by decide +kernel
theorem dX4_drawBoy_7 : decode cX4_drawBoy 7 = .ok (.istore_n 1, 1) := by decide +kernel
theorem dX4_drawBoy_8 : decode cX4_drawBoy 8 = .ok (.aload_n 0, 1) := by decide +kernel
theorem dX4_drawBoy_9 : decode cX4_drawBoy 9 = .ok (.invokevirtual 64, 3) := by decide +kernel
theorem dX4_drawBoy_12 : decode cX4_drawBoy 12 = .ok (.bipush 10, 2) := by decide +kernel
theorem dX4_drawBoy_14 : decode cX4_drawBoy 14 = .ok (.irem, 1) := by decide +kernel
theorem dX4_drawBoy_15 : decode cX4_drawBoy 15 = .ok (.istore_n 2, 1) := by decide +kernel
theorem dX4_drawBoy_16 : decode cX4_drawBoy 16 = .ok (.iconst 1, 1) := by decide +kernel
theorem dX4_drawBoy_17 : decode cX4_drawBoy 17 = .ok (.aload_n 0, 1) := by decide +kernel
theorem dX4_drawBoy_18 : decode cX4_drawBoy 18 = .ok (.invokevirtual 64, 3) := by decide +kernel
theorem dX4_drawBoy_21 : decode cX4_drawBoy 21 = .ok (.bipush 20, 2) := by decide +kernel
theorem dX4_drawBoy_23 : decode cX4_drawBoy 23 = .ok (.irem, 1) := by decide +kernel
theorem dX4_drawBoy_24 : decode cX4_drawBoy 24 = .ok (.iadd, 1) := by decide +kernel
theorem dX4_drawBoy_25 : decode cX4_drawBoy 25 = .ok (.istore_n 3, 1) := by decide +kernel
theorem dX4_drawBoy_26 : decode cX4_drawBoy 26 = .ok (.iconst 1, 1) := by decide +kernel
theorem dX4_drawBoy_27 : decode cX4_drawBoy 27 = .ok (.aload_n 0, 1) := by decide +kernel
theorem dX4_drawBoy_28 : decode cX4_drawBoy 28 = .ok (.invokevirtual 64, 3) := by decide +kernel
theorem dX4_drawBoy_31 : decode cX4_drawBoy 31 = .ok (.bipush 12, 2) := by decide +kernel
theorem dX4_drawBoy_33 : decode cX4_drawBoy 33 = .ok (.irem, 1) := by decide +kernel
theorem dX4_drawBoy_34 : decode cX4_drawBoy 34 = .ok (.iadd, 1) := by decide +kernel
theorem dX4_drawBoy_35 : decode cX4_drawBoy 35 = .ok (.istore 4, 2) := by decide +kernel
theorem dX4_drawBoy_37 : decode cX4_drawBoy 37 = .ok (.aload_n 0, 1) := by decide +kernel
theorem dX4_drawBoy_38 : decode cX4_drawBoy 38 = .ok (.iload_n 1, 1) := by decide +kernel
theorem dX4_drawBoy_39 : decode cX4_drawBoy 39 = .ok (.iload_n 2, 1) := by decide +kernel
theorem dX4_drawBoy_40 : decode cX4_drawBoy 40 = .ok (.iload_n 3, 1) := by decide +kernel
theorem dX4_drawBoy_41 : decode cX4_drawBoy 41 = .ok (.iload 4, 2) := by decide +kernel
theorem dX4_drawBoy_43 : decode cX4_drawBoy 43 = .ok (.invokevirtual 68, 3) := by decide +kernel
theorem dX4_drawBoy_46 : decode cX4_drawBoy 46 = .ok (.return_, 1) := by decide +kernel
theorem dX4_countText_0 : decode cX4_countText 0 = .ok (.aload_n 1, 1) := by decide +kernel
theorem dX4_countText_1 : decode cX4_countText 1 = .ok (.getfield 71, 3) := by decide +kernel
theorem dX4_countText_4 : decode cX4_countText 4 = .ok (.ifCond .lt 35, 3) := by decide +kernel
theorem dX4_countText_7 : decode cX4_countText 7 = .ok (.aload_n 1, 1) := by decide +kernel
theorem dX4_countText_8 : decode cX4_countText 8 = .ok (.getfield 71, 3) := by decide +kernel
theorem dX4_countText_11 : decode cX4_countText 11 = .ok (.aload_n 0, 1) := by decide +kernel
theorem dX4_countText_12 : decode cX4_countText 12 = .ok (.getfield 19, 3) := by decide +kernel
theorem dX4_countText_15 : decode cX4_countText 15 = .ok (.arraylength, 1) := by decide +kernel
theorem dX4_countText_16 : decode cX4_countText 16 = .ok (.if_icmp .ge 23, 3) := by decide +kernel
theorem dX4_countText_19 : decode cX4_countText 19 = .ok (.aload_n 0, 1) := by decide +kernel
theorem dX4_countText_20 : decode cX4_countText 20 = .ok (.getfield 19, 3) := by decide +kernel
theorem dX4_countText_23 : decode cX4_countText 23 = .ok (.aload_n 1, 1) := by decide +kernel
theorem dX4_countText_24 : decode cX4_countText 24 = .ok (.getfield 71, 3) := by decide +kernel
theorem dX4_countText_27 : decode cX4_countText 27 = .ok (.aload_n 1, 1) := by decide +kernel
theorem dX4_countText_28 : decode cX4_countText 28 = .ok (.aastore, 1) := by decide +kernel
theorem dX4_countText_29 : decode cX4_countText 29 = .ok (.aload_n 0, 1) := by decide +kernel
theorem dX4_countText_30 : decode cX4_countText 30 = .ok (.dup, 1) := by decide +kernel
theorem dX4_countText_31 : decode cX4_countText 31 = .ok (.getfield 27, 3) := by decide +kernel
theorem dX4_countText_34 : decode cX4_countText 34 = .ok (.iconst 1, 1) := by decide +kernel
theorem dX4_countText_35 : decode cX4_countText 35 = .ok (.iadd, 1) := by decide +kernel
theorem dX4_countText_36 : decode cX4_countText 36 = .ok (.putfield 27, 3) := by decide +kernel
theorem dX4_countText_39 : decode cX4_countText 39 = .ok (.return_, 1) := by decide +kernel
theorem dX4_law_0 : decode cX4_law 0 = .ok (.iload_n 1, 1) := by decide +kernel
theorem dX4_law_1 : decode cX4_law 1 = .ok (.ifCond .lt 21, 3) := by decide +kernel
theorem dX4_law_4 : decode cX4_law 4 = .ok (.iload_n 1, 1) := by decide +kernel
theorem dX4_law_5 : decode cX4_law 5 = .ok (.aload_n 0, 1) := by decide +kernel
theorem dX4_law_6 : decode cX4_law 6 = .ok (.getfield 19, 3) := by decide +kernel
theorem dX4_law_9 : decode cX4_law 9 = .ok (.arraylength, 1) := by decide +kernel
theorem dX4_law_10 : decode cX4_law 10 = .ok (.if_icmp .ge 12, 3) := by decide +kernel
theorem dX4_law_13 : decode cX4_law 13 = .ok (.aload_n 0, 1) := by decide +kernel
theorem dX4_law_14 : decode cX4_law 14 = .ok (.getfield 19, 3) := by decide +kernel
theorem dX4_law_17 : decode cX4_law 17 = .ok (.iload_n 1, 1) := by decide +kernel
theorem dX4_law_18 : decode cX4_law 18 = .ok (.aaload, 1) := by decide +kernel
theorem dX4_law_19 : decode cX4_law 19 = .ok (.goto 4, 3) := by decide +kernel
theorem dX4_law_22 : decode cX4_law 22 = .ok (.aconst_null, 1) := by decide +kernel
theorem dX4_law_23 : decode cX4_law 23 = .ok (.areturn, 1) := by decide +kernel
theorem dX4_shineOf_0 : decode cX4_shineOf 0 = .ok (.aload_n 1, 1) := by decide +kernel
theorem dX4_shineOf_1 : decode cX4_shineOf 1 = .ok (.getfield 74, 3) := by decide +kernel
theorem dX4_shineOf_4 : decode cX4_shineOf 4 = .ok (.iconst 3, 1) := by decide +kernel
theorem dX4_shineOf_5 : decode cX4_shineOf 5 = .ok (.if_icmp .ne 9, 3) := by decide +kernel
theorem dX4_shineOf_8 : decode cX4_shineOf 8 = .ok (.iconst 2, 1) := by decide +kernel
theorem dX4_shineOf_9 : decode cX4_shineOf 9 = .ok (.iload_n 2, 1) := by decide +kernel
theorem dX4_shineOf_10 : decode cX4_shineOf 10 = .ok (.imul, 1) := by decide +kernel
theorem dX4_shineOf_11 : decode cX4_shineOf 11 = .ok (.goto 4, 3) := by decide +kernel
theorem dX4_shineOf_14 : decode cX4_shineOf 14 = .ok (.iload_n 2, 1) := by decide +kernel
theorem dX4_shineOf_15 : decode cX4_shineOf 15 = .ok (.istore 4, 2) := by decide +kernel
theorem dX4_shineOf_17 : decode cX4_shineOf 17 = .ok (.aload_n 1, 1) := by decide +kernel
theorem dX4_shineOf_18 : decode cX4_shineOf 18 = .ok (.getfield 74, 3) := by decide +kernel
theorem dX4_shineOf_21 : decode cX4_shineOf 21 = .ok (.iconst 5, 1) := by decide +kernel
theorem dX4_shineOf_22 : decode cX4_shineOf 22 = .ok (.if_icmp .ne 7, 3) := by decide +kernel
theorem dX4_shineOf_25 : decode cX4_shineOf 25 = .ok (.iconst 0, 1) := by decide +kernel
theorem dX4_shineOf_26 : decode cX4_shineOf 26 = .ok (.goto 4, 3) := by decide +kernel
theorem dX4_shineOf_29 : decode cX4_shineOf 29 = .ok (.iload_n 3, 1) := by decide +kernel
theorem dX4_shineOf_30 : decode cX4_shineOf 30 = .ok (.istore 5, 2) := by decide +kernel
theorem dX4_shineOf_32 : decode cX4_shineOf 32 = .ok (.aload_n 0, 1) := by decide +kernel
theorem dX4_shineOf_33 : decode cX4_shineOf 33 = .ok (.iconst 0, 1) := by decide +kernel
theorem dX4_shineOf_34 : decode cX4_shineOf 34 = .ok (.invokevirtual 77, 3) := by decide +kernel
theorem dX4_shineOf_37 : decode cX4_shineOf 37 = .ok (.astore 6, 2) := by decide +kernel
theorem dX4_shineOf_39 : decode cX4_shineOf 39 = .ok (.aload 6, 2) := by decide +kernel
theorem dX4_shineOf_41 : decode cX4_shineOf 41 = .ok (.ifnonnull 13, 3) := by decide +kernel
theorem dX4_shineOf_44 : decode cX4_shineOf 44 = .ok (.iload 4, 2) := by decide +kernel
theorem dX4_shineOf_46 : decode cX4_shineOf 46 = .ok (.iload 5, 2) := by decide +kernel
theorem dX4_shineOf_48 : decode cX4_shineOf 48 = .ok (.invokestatic 81, 3) := by decide +kernel
theorem dX4_shineOf_51 : decode cX4_shineOf 51 = .ok (.goto 16, 3) := by decide +kernel
theorem dX4_shineOf_54 : decode cX4_shineOf 54 = .ok (.aload 6, 2) := by decide +kernel
theorem dX4_shineOf_56 : decode cX4_shineOf 56 = .ok (.iload 4, 2) := by decide +kernel
theorem dX4_shineOf_58 : decode cX4_shineOf 58 = .ok (.iload 5, 2) := by decide +kernel
theorem dX4_shineOf_60 : decode cX4_shineOf 60 = .ok (.aload_n 1, 1) := by decide +kernel
theorem dX4_shineOf_61 : decode cX4_shineOf 61 = .ok (.getfield 85, 3) := by decide +kernel
theorem dX4_shineOf_64 : decode cX4_shineOf 64 = .ok (.invokevirtual 88, 3) := by decide +kernel
theorem dX4_shineOf_67 : decode cX4_shineOf 67 = .ok (.istore 7, 2) := by decide +kernel
theorem dX4_shineOf_69 : decode cX4_shineOf 69 = .ok (.aload_n 1, 1) := by decide +kernel
theorem dX4_shineOf_70 : decode cX4_shineOf 70 = .ok (.getfield 74, 3) := by decide +kernel
theorem dX4_shineOf_73 : decode cX4_shineOf 73 = .ok (.iload_n 2, 1) := by decide +kernel
theorem dX4_shineOf_74 : decode cX4_shineOf 74 = .ok (.iconst 0, 1) := by decide +kernel
theorem dX4_shineOf_75 : decode cX4_shineOf 75 = .ok (.sipush 999, 3) := by decide +kernel
theorem dX4_shineOf_78 : decode cX4_shineOf 78 = .ok (.iload 7, 2) := by decide +kernel
theorem dX4_shineOf_80 : decode cX4_shineOf 80 = .ok (.invokestatic 92, 3) := by decide +kernel
theorem dX4_shineOf_83 : decode cX4_shineOf 83 = .ok (.invokestatic 97, 3) := by decide +kernel
theorem dX4_shineOf_86 : decode cX4_shineOf 86 = .ok (.invokestatic 100, 3) := by decide +kernel
theorem dX4_shineOf_89 : decode cX4_shineOf 89 = .ok (.ireturn, 1) := by decide +kernel
theorem dX4_bareShine_0 : decode cX4_bareShine 0 = .ok (.iconst 1, 1) := by decide +kernel
theorem dX4_bareShine_1 : decode cX4_bareShine 1 = .ok (.iload_n 0, 1) := by decide +kernel
theorem dX4_bareShine_2 : decode cX4_bareShine 2 = .ok (.iadd, 1) := by decide +kernel
theorem dX4_bareShine_3 : decode cX4_bareShine 3 = .ok (.istore_n 2, 1) := by decide +kernel
theorem dX4_bareShine_4 : decode cX4_bareShine 4 = .ok (.iload_n 2, 1) := by decide +kernel
theorem dX4_bareShine_5 : decode cX4_bareShine 5 = .ok (.iconst 1, 1) := by decide +kernel
theorem dX4_bareShine_6 : decode cX4_bareShine 6 = .ok (.if_icmp .ge 7, 3) := by decide +kernel
theorem dX4_bareShine_9 : decode cX4_bareShine 9 = .ok (.iconst 0, 1) := by decide +kernel
theorem dX4_bareShine_10 : decode cX4_bareShine 10 = .ok (.goto 14, 3) := by decide +kernel
theorem dX4_bareShine_13 : decode cX4_bareShine 13 = .ok (.bipush 100, 2) := by decide +kernel
theorem dX4_bareShine_15 : decode cX4_bareShine 15 = .ok (.bipush 60, 2) := by decide +kernel
theorem dX4_bareShine_17 : decode cX4_bareShine 17 = .ok (.iload_n 2, 1) := by decide +kernel
theorem dX4_bareShine_18 : decode cX4_bareShine 18 = .ok (.idiv, 1) := by decide +kernel
theorem dX4_bareShine_19 : decode cX4_bareShine 19 = .ok (.isub, 1) := by decide +kernel
theorem dX4_bareShine_20 : decode cX4_bareShine 20 = .ok (.iconst 3, 1) := by decide +kernel
theorem dX4_bareShine_21 : decode cX4_bareShine 21 = .ok (.iload_n 1, 1) := by decide +kernel
theorem dX4_bareShine_22 : decode cX4_bareShine 22 = .ok (.imul, 1) := by decide +kernel
theorem dX4_bareShine_23 : decode cX4_bareShine 23 = .ok (.isub, 1) := by decide +kernel
theorem dX4_bareShine_24 : decode cX4_bareShine 24 = .ok (.ireturn, 1) := by decide +kernel
theorem dX4_draw_0 : decode cX4_draw 0 = .ok (.aload_n 0, 1) := by decide +kernel
theorem dX4_draw_1 : decode cX4_draw 1 = .ok (.aload_n 0, 1) := by decide +kernel
theorem dX4_draw_2 : decode cX4_draw 2 = .ok (.getfield 45, 3) := by decide +kernel
theorem dX4_draw_5 : decode cX4_draw 5 = .ok (.ldc 105, 2) := by decide +kernel
theorem dX4_draw_7 : decode cX4_draw 7 = .ok (.imul, 1) := by decide +kernel
theorem dX4_draw_8 : decode cX4_draw 8 = .ok (.sipush 12345, 3) := by decide +kernel
theorem dX4_draw_11 : decode cX4_draw 11 = .ok (.iadd, 1) := by decide +kernel
theorem dX4_draw_12 : decode cX4_draw 12 = .ok (.putfield 45, 3) := by decide +kernel
theorem dX4_draw_15 : decode cX4_draw 15 = .ok (.aload_n 0, 1) := by decide +kernel
theorem dX4_draw_16 : decode cX4_draw 16 = .ok (.getfield 45, 3) := by decide +kernel
theorem dX4_draw_19 : decode cX4_draw 19 = .ok (.bipush 8, 2) := by decide +kernel
theorem dX4_draw_21 : decode cX4_draw 21 = .ok (.iushr, 1) := by decide +kernel
theorem dX4_draw_22 : decode cX4_draw 22 = .ok (.ireturn, 1) := by decide +kernel
theorem dX4_passMinutes_0 : decode cX4_passMinutes 0 = .ok (.iconst 0, 1) := by decide +kernel
theorem dX4_passMinutes_1 : decode cX4_passMinutes 1 = .ok (.istore_n 2, 1) := by decide +kernel
theorem dX4_passMinutes_2 : decode cX4_passMinutes 2 = .ok (.iconst 0, 1) := by decide +kernel
theorem dX4_passMinutes_3 : decode cX4_passMinutes 3 = .ok (.istore_n 3, 1) := by decide +kernel
theorem dX4_passMinutes_4 : decode cX4_passMinutes 4 = .ok (.iload_n 3, 1) := by decide +kernel
theorem dX4_passMinutes_5 : decode cX4_passMinutes 5 = .ok (.iload_n 1, 1) := by decide +kernel
theorem dX4_passMinutes_6 : decode cX4_passMinutes 6 = .ok (.if_icmp .ge 16, 3) := by decide +kernel
theorem dX4_passMinutes_9 : decode cX4_passMinutes 9 = .ok (.iload_n 2, 1) := by decide +kernel
theorem dX4_passMinutes_10 : decode cX4_passMinutes 10 = .ok (.aload_n 0, 1) := by decide +kernel
theorem dX4_passMinutes_11 : decode cX4_passMinutes 11 = .ok (.invokevirtual 106, 3) := by decide +kernel
theorem dX4_passMinutes_14 : decode cX4_passMinutes 14 = .ok (.iadd, 1) := by decide +kernel
theorem dX4_passMinutes_15 : decode cX4_passMinutes 15 = .ok (.istore_n 2, 1) := by decide +kernel
theorem dX4_passMinutes_16 : decode cX4_passMinutes 16 = .ok (.iinc 3 1, 3) := by decide +kernel
theorem dX4_passMinutes_19 : decode cX4_passMinutes 19 = .ok (.goto (-15), 3) := by decide +kernel
theorem dX4_passMinutes_22 : decode cX4_passMinutes 22 = .ok (.iload_n 2, 1) := by decide +kernel
theorem dX4_passMinutes_23 : decode cX4_passMinutes 23 = .ok (.ireturn, 1) := by decide +kernel
theorem dX4_passMinute_0 : decode cX4_passMinute 0 = .ok (.iconst 0, 1) := by decide +kernel
theorem dX4_passMinute_1 : decode cX4_passMinute 1 = .ok (.istore_n 1, 1) := by decide +kernel
theorem dX4_passMinute_2 : decode cX4_passMinute 2 = .ok (.iload_n 1, 1) := by decide +kernel
theorem dX4_passMinute_3 : decode cX4_passMinute 3 = .ok (.aload_n 0, 1) := by decide +kernel
theorem dX4_passMinute_4 : decode cX4_passMinute 4 = .ok (.getfield 23, 3) := by decide +kernel
theorem dX4_passMinute_7 : decode cX4_passMinute 7 = .ok (.if_icmp .ge 36, 3) := by decide +kernel
theorem dX4_passMinute_10 : decode cX4_passMinute 10 = .ok (.aload_n 0, 1) := by decide +kernel
theorem dX4_passMinute_11 : decode cX4_passMinute 11 = .ok (.getfield 11, 3) := by decide +kernel
theorem dX4_passMinute_14 : decode cX4_passMinute 14 = .ok (.iload_n 1, 1) := by decide +kernel
theorem dX4_passMinute_15 : decode cX4_passMinute 15 = .ok (.aaload, 1) := by decide +kernel
theorem dX4_passMinute_16 : decode cX4_passMinute 16 = .ok (.getfield 109, 3) := by decide +kernel
theorem dX4_passMinute_19 : decode cX4_passMinute 19 = .ok (.ifCond .le 18, 3) := by decide +kernel
theorem dX4_passMinute_22 : decode cX4_passMinute 22 = .ok (.aload_n 0, 1) := by decide +kernel
theorem dX4_passMinute_23 : decode cX4_passMinute 23 = .ok (.getfield 11, 3) := by decide +kernel
theorem dX4_passMinute_26 : decode cX4_passMinute 26 = .ok (.iload_n 1, 1) := by decide +kernel
theorem dX4_passMinute_27 : decode cX4_passMinute 27 = .ok (.aaload, 1) := by decide +kernel
theorem dX4_passMinute_28 : decode cX4_passMinute 28 = .ok (.dup, 1) := by decide +kernel
theorem dX4_passMinute_29 : decode cX4_passMinute 29 = .ok (.getfield 109, 3) := by decide +kernel
theorem dX4_passMinute_32 : decode cX4_passMinute 32 = .ok (.iconst 1, 1) := by decide +kernel
theorem dX4_passMinute_33 : decode cX4_passMinute 33 = .ok (.isub, 1) := by decide +kernel
theorem dX4_passMinute_34 : decode cX4_passMinute 34 = .ok (.putfield 109, 3) := by decide +kernel
theorem dX4_passMinute_37 : decode cX4_passMinute 37 = .ok (.iinc 1 1, 3) := by decide +kernel
theorem dX4_passMinute_40 : decode cX4_passMinute 40 = .ok (.goto (-38), 3) := by decide +kernel
theorem dX4_passMinute_43 : decode cX4_passMinute 43 = .ok (.aload_n 0, 1) := by decide +kernel
theorem dX4_passMinute_44 : decode cX4_passMinute 44 = .ok (.getfield 48, 3) := by decide +kernel
theorem dX4_passMinute_47 : decode cX4_passMinute 47 = .ok (.istore_n 1, 1) := by decide +kernel
theorem dX4_passMinute_48 : decode cX4_passMinute 48 = .ok (.aload_n 0, 1) := by decide +kernel
theorem dX4_passMinute_49 : decode cX4_passMinute 49 = .ok (.invokevirtual 64, 3) := by decide +kernel
theorem dX4_passMinute_52 : decode cX4_passMinute 52 = .ok (.bipush 100, 2) := by decide +kernel
theorem dX4_passMinute_54 : decode cX4_passMinute 54 = .ok (.irem, 1) := by decide +kernel
theorem dX4_passMinute_55 : decode cX4_passMinute 55 = .ok (.aload_n 0, 1) := by decide +kernel
theorem dX4_passMinute_56 : decode cX4_passMinute 56 = .ok (.getfield 36, 3) := by decide +kernel
theorem dX4_passMinute_59 : decode cX4_passMinute 59 = .ok (.if_icmp .ge 19, 3) := by decide +kernel
theorem dX4_passMinute_62 : decode cX4_passMinute 62 = .ok (.aload_n 0, 1) := by decide +kernel
theorem dX4_passMinute_63 : decode cX4_passMinute 63 = .ok (.aload_n 0, 1) := by decide +kernel
theorem dX4_passMinute_64 : decode cX4_passMinute 64 = .ok (.getfield 48, 3) := by decide +kernel
theorem dX4_passMinute_67 : decode cX4_passMinute 67 = .ok (.ifCond .ne 7, 3) := by decide +kernel
theorem dX4_passMinute_70 : decode cX4_passMinute 70 = .ok (.iconst 1, 1) := by decide +kernel
theorem dX4_passMinute_71 : decode cX4_passMinute 71 = .ok (.goto 4, 3) := by decide +kernel
theorem dX4_passMinute_74 : decode cX4_passMinute 74 = .ok (.iconst 0, 1) := by decide +kernel
theorem dX4_passMinute_75 : decode cX4_passMinute 75 = .ok (.putfield 48, 3) := by decide +kernel
theorem dX4_passMinute_78 : decode cX4_passMinute 78 = .ok (.aload_n 0, 1) := by decide +kernel
theorem dX4_passMinute_79 : decode cX4_passMinute 79 = .ok (.invokevirtual 64, 3) := by decide +kernel
theorem dX4_passMinute_82 : decode cX4_passMinute 82 = .ok (.iconst 3, 1) := by decide +kernel
theorem dX4_passMinute_83 : decode cX4_passMinute 83 = .ok (.irem, 1) := by decide +kernel
theorem dX4_passMinute_84 : decode cX4_passMinute 84 = .ok (.istore_n 2, 1) := by decide +kernel
theorem dX4_passMinute_85 : decode cX4_passMinute 85 = .ok (.aload_n 0, 1) := by decide +kernel
theorem dX4_passMinute_86 : decode cX4_passMinute 86 = .ok (.getfield 48, 3) := by decide +kernel
theorem dX4_passMinute_89 : decode cX4_passMinute 89 = .ok (.ifCond .eq 8, 3) := by decide +kernel
theorem dX4_passMinute_92 : decode cX4_passMinute 92 = .ok (.iconst 0, 1) := by decide +kernel
theorem dX4_passMinute_93 : decode cX4_passMinute 93 = .ok (.istore_n 2, 1) := by decide +kernel
theorem dX4_passMinute_94 : decode cX4_passMinute 94 = .ok (.goto 10, 3) := by decide +kernel
theorem dX4_passMinute_97 : decode cX4_passMinute 97 = .ok (.iload_n 1, 1) := by decide +kernel
theorem dX4_passMinute_98 : decode cX4_passMinute 98 = .ok (.ifCond .eq 6, 3) := by decide +kernel
theorem dX4_passMinute_101 : decode cX4_passMinute 101 = .ok (.iinc 2 2, 3) := by decide +kernel
theorem dX4_passMinute_104 : decode cX4_passMinute 104 = .ok (.iconst 0, 1) := by decide +kernel
theorem dX4_passMinute_105 : decode cX4_passMinute 105 = .ok (.istore_n 3, 1) := by decide +kernel
theorem dX4_passMinute_106 : decode cX4_passMinute 106 = .ok (.iconst 0, 1) := by decide +kernel
theorem dX4_passMinute_107 : decode cX4_passMinute 107 = .ok (.istore 4, 2) := by decide +kernel
theorem dX4_passMinute_109 : decode cX4_passMinute 109 = .ok (.iload 4, 2) := by decide +kernel
theorem dX4_passMinute_111 : decode cX4_passMinute 111 = .ok (.iload_n 2, 1) := by decide +kernel
theorem dX4_passMinute_112 : decode cX4_passMinute 112 = .ok (.if_icmp .ge 16, 3) := by decide +kernel
theorem dX4_passMinute_115 : decode cX4_passMinute 115 = .ok (.iload_n 3, 1) := by decide +kernel
theorem dX4_passMinute_116 : decode cX4_passMinute 116 = .ok (.aload_n 0, 1) := by decide +kernel
theorem dX4_passMinute_117 : decode cX4_passMinute 117 = .ok (.invokevirtual 112, 3) := by decide +kernel
theorem dX4_passMinute_120 : decode cX4_passMinute 120 = .ok (.iadd, 1) := by decide +kernel
theorem dX4_passMinute_121 : decode cX4_passMinute 121 = .ok (.istore_n 3, 1) := by decide +kernel
theorem dX4_passMinute_122 : decode cX4_passMinute 122 = .ok (.iinc 4 1, 3) := by decide +kernel
theorem dX4_passMinute_125 : decode cX4_passMinute 125 = .ok (.goto (-16), 3) := by decide +kernel
theorem dX4_passMinute_128 : decode cX4_passMinute 128 = .ok (.aload_n 0, 1) := by decide +kernel
theorem dX4_passMinute_129 : decode cX4_passMinute 129 = .ok (.dup, 1) := by decide +kernel
theorem dX4_passMinute_130 : decode cX4_passMinute 130 = .ok (.getfield 42, 3) := by decide +kernel
theorem dX4_passMinute_133 : decode cX4_passMinute 133 = .ok (.iconst 1, 1) := by decide +kernel
theorem dX4_passMinute_134 : decode cX4_passMinute 134 = .ok (.iadd, 1) := by decide +kernel
theorem dX4_passMinute_135 : decode cX4_passMinute 135 = .ok (.putfield 42, 3) := by decide +kernel
theorem dX4_passMinute_138 : decode cX4_passMinute 138 = .ok (.iload_n 3, 1) := by decide +kernel
theorem dX4_passMinute_139 : decode cX4_passMinute 139 = .ok (.ireturn, 1) := by decide +kernel
theorem dX4_receiveMan_0 : decode cX4_receiveMan 0 = .ok (.aload_n 0, 1) := by decide +kernel
theorem dX4_receiveMan_1 : decode cX4_receiveMan 1 = .ok (.invokevirtual 64, 3) := by decide +kernel
theorem dX4_receiveMan_4 : decode cX4_receiveMan 4 = .ok (.bipush 10, 2) := by decide +kernel
theorem dX4_receiveMan_6 : decode cX4_receiveMan 6 = .ok (.irem, 1) := by decide +kernel
theorem dX4_receiveMan_7 : decode cX4_receiveMan 7 = .ok (.istore_n 1, 1) := by decide +kernel
theorem dX4_receiveMan_8 : decode cX4_receiveMan 8 = .ok (.aload_n 0, 1) := by decide +kernel
theorem dX4_receiveMan_9 : decode cX4_receiveMan 9 = .ok (.invokevirtual 64, 3) := by decide +kernel
theorem dX4_receiveMan_12 : decode cX4_receiveMan 12 = .ok (.bipush 10, 2) := by decide +kernel
theorem dX4_receiveMan_14 : decode cX4_receiveMan 14 = .ok (.irem, 1) := by decide +kernel
theorem dX4_receiveMan_15 : decode cX4_receiveMan 15 = .ok (.istore_n 2, 1) := by decide +kernel
theorem dX4_receiveMan_16 : decode cX4_receiveMan 16 = .ok (.iconst 1, 1) := by decide +kernel
theorem dX4_receiveMan_17 : decode cX4_receiveMan 17 = .ok (.aload_n 0, 1) := by decide +kernel
theorem dX4_receiveMan_18 : decode cX4_receiveMan 18 = .ok (.invokevirtual 64, 3) := by decide +kernel
theorem dX4_receiveMan_21 : decode cX4_receiveMan 21 = .ok (.bipush 9, 2) := by decide +kernel
theorem dX4_receiveMan_23 : decode cX4_receiveMan 23 = .ok (.irem, 1) := by decide +kernel
theorem dX4_receiveMan_24 : decode cX4_receiveMan 24 = .ok (.iadd, 1) := by decide +kernel
theorem dX4_receiveMan_25 : decode cX4_receiveMan 25 = .ok (.istore_n 3, 1) := by decide +kernel
theorem dX4_receiveMan_26 : decode cX4_receiveMan 26 = .ok (.aload_n 0, 1) := by decide +kernel
theorem dX4_receiveMan_27 : decode cX4_receiveMan 27 = .ok (.iload_n 1, 1) := by decide +kernel
theorem dX4_receiveMan_28 : decode cX4_receiveMan 28 = .ok (.iload_n 3, 1) := by decide +kernel
theorem dX4_receiveMan_29 : decode cX4_receiveMan 29 = .ok (.invokevirtual 115, 3) := by decide +kernel
theorem dX4_receiveMan_32 : decode cX4_receiveMan 32 = .ok (.istore 4, 2) := by decide +kernel
theorem dX4_receiveMan_34 : decode cX4_receiveMan 34 = .ok (.iload 4, 2) := by decide +kernel
theorem dX4_receiveMan_36 : decode cX4_receiveMan 36 = .ok (.ifCond .ge 15, 3) := by decide +kernel
theorem dX4_receiveMan_39 : decode cX4_receiveMan 39 = .ok (.aload_n 0, 1) := by decide +kernel
theorem dX4_receiveMan_40 : decode cX4_receiveMan 40 = .ok (.dup, 1) := by decide +kernel
theorem dX4_receiveMan_41 : decode cX4_receiveMan 41 = .ok (.getfield 39, 3) := by decide +kernel
theorem dX4_receiveMan_44 : decode cX4_receiveMan 44 = .ok (.iconst 1, 1) := by decide +kernel
theorem dX4_receiveMan_45 : decode cX4_receiveMan 45 = .ok (.iadd, 1) := by decide +kernel
theorem dX4_receiveMan_46 : decode cX4_receiveMan 46 = .ok (.putfield 39, 3) := by decide +kernel
theorem dX4_receiveMan_49 : decode cX4_receiveMan 49 = .ok (.iconst 0, 1) := by decide +kernel
theorem dX4_receiveMan_50 : decode cX4_receiveMan 50 = .ok (.ireturn, 1) := by decide +kernel
theorem dX4_receiveMan_51 : decode cX4_receiveMan 51 = .ok (.aload_n 0, 1) := by decide +kernel
theorem dX4_receiveMan_52 : decode cX4_receiveMan 52 = .ok (.getfield 11, 3) := by decide +kernel
theorem dX4_receiveMan_55 : decode cX4_receiveMan 55 = .ok (.iload 4, 2) := by decide +kernel
theorem dX4_receiveMan_57 : decode cX4_receiveMan 57 = .ok (.aaload, 1) := by decide +kernel
theorem dX4_receiveMan_58 : decode cX4_receiveMan 58 = .ok (.astore 5, 2) := by decide +kernel
theorem dX4_receiveMan_60 : decode cX4_receiveMan 60 = .ok (.aload 5, 2) := by decide +kernel
theorem dX4_receiveMan_62 : decode cX4_receiveMan 62 = .ok (.aload 5, 2) := by decide +kernel
theorem dX4_receiveMan_64 : decode cX4_receiveMan 64 = .ok (.getfield 74, 3) := by decide +kernel
theorem dX4_receiveMan_67 : decode cX4_receiveMan 67 = .ok (.aload 5, 2) := by decide +kernel
theorem dX4_receiveMan_69 : decode cX4_receiveMan 69 = .ok (.getfield 118, 3) := by decide +kernel
theorem dX4_receiveMan_72 : decode cX4_receiveMan 72 = .ok (.invokestatic 121, 3) := by decide +kernel
theorem dX4_receiveMan_75 : decode cX4_receiveMan 75 = .ok (.putfield 109, 3) := by decide +kernel
theorem dX4_receiveMan_78 : decode cX4_receiveMan 78 = .ok (.aload 5, 2) := by decide +kernel
theorem dX4_receiveMan_80 : decode cX4_receiveMan 80 = .ok (.dup, 1) := by decide +kernel
theorem dX4_receiveMan_81 : decode cX4_receiveMan 81 = .ok (.getfield 124, 3) := by decide +kernel
theorem dX4_receiveMan_84 : decode cX4_receiveMan 84 = .ok (.iconst 1, 1) := by decide +kernel
theorem dX4_receiveMan_85 : decode cX4_receiveMan 85 = .ok (.iadd, 1) := by decide +kernel
theorem dX4_receiveMan_86 : decode cX4_receiveMan 86 = .ok (.putfield 124, 3) := by decide +kernel
theorem dX4_receiveMan_89 : decode cX4_receiveMan 89 = .ok (.aload 5, 2) := by decide +kernel
theorem dX4_receiveMan_91 : decode cX4_receiveMan 91 = .ok (.aload_n 0, 1) := by decide +kernel
theorem dX4_receiveMan_92 : decode cX4_receiveMan 92 = .ok (.aload 5, 2) := by decide +kernel
theorem dX4_receiveMan_94 : decode cX4_receiveMan 94 = .ok (.aload 5, 2) := by decide +kernel
theorem dX4_receiveMan_96 : decode cX4_receiveMan 96 = .ok (.getfield 118, 3) := by decide +kernel
theorem dX4_receiveMan_99 : decode cX4_receiveMan 99 = .ok (.iload_n 2, 1) := by decide +kernel
theorem dX4_receiveMan_100 : decode cX4_receiveMan 100 = .ok (.invokevirtual 127, 3) := by decide +kernel
theorem dX4_receiveMan_103 : decode cX4_receiveMan 103 = .ok (.invokestatic 131, 3) := by decide +kernel
theorem dX4_receiveMan_106 : decode cX4_receiveMan 106 = .ok (.istore 6, 2) := by decide +kernel
theorem dX4_receiveMan_108 : decode cX4_receiveMan 108 = .ok (.iload 6, 2) := by decide +kernel
theorem dX4_receiveMan_110 : decode cX4_receiveMan 110 = .ok (.aload_n 0, 1) := by decide +kernel
theorem dX4_receiveMan_111 : decode cX4_receiveMan 111 = .ok (.getfield 30, 3) := by decide +kernel
theorem dX4_receiveMan_114 : decode cX4_receiveMan 114 = .ok (.imul, 1) := by decide +kernel
theorem dX4_receiveMan_115 : decode cX4_receiveMan 115 = .ok (.bipush 100, 2) := by decide +kernel
theorem dX4_receiveMan_117 : decode cX4_receiveMan 117 = .ok (.idiv, 1) := by decide +kernel
theorem dX4_receiveMan_118 : decode cX4_receiveMan 118 = .ok (.istore 7, 2) := by decide +kernel
theorem dX4_receiveMan_120 : decode cX4_receiveMan 120 = .ok (.aload_n 0, 1) := by decide +kernel
theorem dX4_receiveMan_121 : decode cX4_receiveMan 121 = .ok (.dup, 1) := by decide +kernel
theorem dX4_receiveMan_122 : decode cX4_receiveMan 122 = .ok (.getfield 33, 3) := by decide +kernel
theorem dX4_receiveMan_125 : decode cX4_receiveMan 125 = .ok (.iload 7, 2) := by decide +kernel
theorem dX4_receiveMan_127 : decode cX4_receiveMan 127 = .ok (.iadd, 1) := by decide +kernel
theorem dX4_receiveMan_128 : decode cX4_receiveMan 128 = .ok (.putfield 33, 3) := by decide +kernel
theorem dX4_receiveMan_131 : decode cX4_receiveMan 131 = .ok (.aload 5, 2) := by decide +kernel
theorem dX4_receiveMan_133 : decode cX4_receiveMan 133 = .ok (.dup, 1) := by decide +kernel
theorem dX4_receiveMan_134 : decode cX4_receiveMan 134 = .ok (.getfield 135, 3) := by decide +kernel
theorem dX4_receiveMan_137 : decode cX4_receiveMan 137 = .ok (.iload 6, 2) := by decide +kernel
theorem dX4_receiveMan_139 : decode cX4_receiveMan 139 = .ok (.iload 7, 2) := by decide +kernel
theorem dX4_receiveMan_141 : decode cX4_receiveMan 141 = .ok (.isub, 1) := by decide +kernel
theorem dX4_receiveMan_142 : decode cX4_receiveMan 142 = .ok (.iadd, 1) := by decide +kernel
theorem dX4_receiveMan_143 : decode cX4_receiveMan 143 = .ok (.putfield 135, 3) := by decide +kernel
theorem dX4_receiveMan_146 : decode cX4_receiveMan 146 = .ok (.iconst 1, 1) := by decide +kernel
theorem dX4_receiveMan_147 : decode cX4_receiveMan 147 = .ok (.ireturn, 1) := by decide +kernel
theorem dX4_paidTo_0 : decode cX4_paidTo 0 = .ok (.iload_n 1, 1) := by decide +kernel
theorem dX4_paidTo_1 : decode cX4_paidTo 1 = .ok (.bipush 30, 2) := by decide +kernel
theorem dX4_paidTo_3 : decode cX4_paidTo 3 = .ok (.if_icmp .ge 5, 3) := by decide +kernel
theorem dX4_paidTo_6 : decode cX4_paidTo 6 = .ok (.iconst 0, 1) := by decide +kernel
theorem dX4_paidTo_7 : decode cX4_paidTo 7 = .ok (.ireturn, 1) := by decide +kernel
theorem dX4_paidTo_8 : decode cX4_paidTo 8 = .ok (.aload_n 0, 1) := by decide +kernel
theorem dX4_paidTo_9 : decode cX4_paidTo 9 = .ok (.getfield 74, 3) := by decide +kernel
theorem dX4_paidTo_12 : decode cX4_paidTo 12 = .ok (.aload_n 0, 1) := by decide +kernel
theorem dX4_paidTo_13 : decode cX4_paidTo 13 = .ok (.getfield 138, 3) := by decide +kernel
theorem dX4_paidTo_16 : decode cX4_paidTo 16 = .ok (.invokestatic 141, 3) := by decide +kernel
theorem dX4_paidTo_19 : decode cX4_paidTo 19 = .ok (.istore_n 2, 1) := by decide +kernel
theorem dX4_paidTo_20 : decode cX4_paidTo 20 = .ok (.iload_n 1, 1) := by decide +kernel
theorem dX4_paidTo_21 : decode cX4_paidTo 21 = .ok (.bipush 90, 2) := by decide +kernel
theorem dX4_paidTo_23 : decode cX4_paidTo 23 = .ok (.if_icmp .lt 9, 3) := by decide +kernel
theorem dX4_paidTo_26 : decode cX4_paidTo 26 = .ok (.iload_n 2, 1) := by decide +kernel
theorem dX4_paidTo_27 : decode cX4_paidTo 27 = .ok (.iconst 1, 1) := by decide +kernel
theorem dX4_paidTo_28 : decode cX4_paidTo 28 = .ok (.iadd, 1) := by decide +kernel
theorem dX4_paidTo_29 : decode cX4_paidTo 29 = .ok (.goto 4, 3) := by decide +kernel
theorem dX4_paidTo_32 : decode cX4_paidTo 32 = .ok (.iload_n 2, 1) := by decide +kernel
theorem dX4_paidTo_33 : decode cX4_paidTo 33 = .ok (.ireturn, 1) := by decide +kernel
theorem dX4_chosenBoy_0 : decode cX4_chosenBoy 0 = .ok (.iconst (-1), 1) := by decide +kernel
theorem dX4_chosenBoy_1 : decode cX4_chosenBoy 1 = .ok (.istore_n 3, 1) := by decide +kernel
theorem dX4_chosenBoy_2 : decode cX4_chosenBoy 2 = .ok (.iconst 0, 1) := by decide +kernel
theorem dX4_chosenBoy_3 : decode cX4_chosenBoy 3 = .ok (.istore 4, 2) := by decide +kernel
theorem dX4_chosenBoy_5 : decode cX4_chosenBoy 5 = .ok (.iconst 0, 1) := by decide +kernel
theorem dX4_chosenBoy_6 : decode cX4_chosenBoy 6 = .ok (.istore 5, 2) := by decide +kernel
theorem dX4_chosenBoy_8 : decode cX4_chosenBoy 8 = .ok (.iload 5, 2) := by decide +kernel
theorem dX4_chosenBoy_10 : decode cX4_chosenBoy 10 = .ok (.aload_n 0, 1) := by decide +kernel
theorem dX4_chosenBoy_11 : decode cX4_chosenBoy 11 = .ok (.getfield 23, 3) := by decide +kernel
theorem dX4_chosenBoy_14 : decode cX4_chosenBoy 14 = .ok (.if_icmp .ge 99, 3) := by decide +kernel
theorem dX4_chosenBoy_17 : decode cX4_chosenBoy 17 = .ok (.aload_n 0, 1) := by decide +kernel
theorem dX4_chosenBoy_18 : decode cX4_chosenBoy 18 = .ok (.getfield 11, 3) := by decide +kernel
theorem dX4_chosenBoy_21 : decode cX4_chosenBoy 21 = .ok (.iload 5, 2) := by decide +kernel
theorem dX4_chosenBoy_23 : decode cX4_chosenBoy 23 = .ok (.aaload, 1) := by decide +kernel
theorem dX4_chosenBoy_24 : decode cX4_chosenBoy 24 = .ok (.astore 6, 2) := by decide +kernel
theorem dX4_chosenBoy_26 : decode cX4_chosenBoy 26 = .ok (.iload 5, 2) := by decide +kernel
theorem dX4_chosenBoy_28 : decode cX4_chosenBoy 28 = .ok (.aload_n 0, 1) := by decide +kernel
theorem dX4_chosenBoy_29 : decode cX4_chosenBoy 29 = .ok (.getfield 52, 3) := by decide +kernel
theorem dX4_chosenBoy_32 : decode cX4_chosenBoy 32 = .ok (.if_icmp .eq 75, 3) := by decide +kernel
theorem dX4_chosenBoy_35 : decode cX4_chosenBoy 35 = .ok (.aload 6, 2) := by decide +kernel
theorem dX4_chosenBoy_37 : decode cX4_chosenBoy 37 = .ok (.getfield 109, 3) := by decide +kernel
theorem dX4_chosenBoy_40 : decode cX4_chosenBoy 40 = .ok (.ifCond .gt 67, 3) := by decide +kernel
theorem dX4_chosenBoy_43 : decode cX4_chosenBoy 43 = .ok (.aload 6, 2) := by decide +kernel
theorem dX4_chosenBoy_45 : decode cX4_chosenBoy 45 = .ok (.getfield 74, 3) := by decide +kernel
theorem dX4_chosenBoy_48 : decode cX4_chosenBoy 48 = .ok (.aload 6, 2) := by decide +kernel
theorem dX4_chosenBoy_50 : decode cX4_chosenBoy 50 = .ok (.getfield 118, 3) := by decide +kernel
theorem dX4_chosenBoy_53 : decode cX4_chosenBoy 53 = .ok (.invokestatic 121, 3) := by decide +kernel
theorem dX4_chosenBoy_56 : decode cX4_chosenBoy 56 = .ok (.iload_n 2, 1) := by decide +kernel
theorem dX4_chosenBoy_57 : decode cX4_chosenBoy 57 = .ok (.if_icmp .le 6, 3) := by decide +kernel
theorem dX4_chosenBoy_60 : decode cX4_chosenBoy 60 = .ok (.goto 47, 3) := by decide +kernel
theorem dX4_chosenBoy_63 : decode cX4_chosenBoy 63 = .ok (.aload 6, 2) := by decide +kernel
theorem dX4_chosenBoy_65 : decode cX4_chosenBoy 65 = .ok (.getfield 74, 3) := by decide +kernel
theorem dX4_chosenBoy_68 : decode cX4_chosenBoy 68 = .ok (.aload 6, 2) := by decide +kernel
theorem dX4_chosenBoy_70 : decode cX4_chosenBoy 70 = .ok (.getfield 138, 3) := by decide +kernel
theorem dX4_chosenBoy_73 : decode cX4_chosenBoy 73 = .ok (.invokestatic 141, 3) := by decide +kernel
theorem dX4_chosenBoy_76 : decode cX4_chosenBoy 76 = .ok (.aload 6, 2) := by decide +kernel
theorem dX4_chosenBoy_78 : decode cX4_chosenBoy 78 = .ok (.getfield 85, 3) := by decide +kernel
theorem dX4_chosenBoy_81 : decode cX4_chosenBoy 81 = .ok (.iload_n 1, 1) := by decide +kernel
theorem dX4_chosenBoy_82 : decode cX4_chosenBoy 82 = .ok (.isub, 1) := by decide +kernel
theorem dX4_chosenBoy_83 : decode cX4_chosenBoy 83 = .ok (.invokestatic 144, 3) := by decide +kernel
theorem dX4_chosenBoy_86 : decode cX4_chosenBoy 86 = .ok (.iadd, 1) := by decide +kernel
theorem dX4_chosenBoy_87 : decode cX4_chosenBoy 87 = .ok (.istore 7, 2) := by decide +kernel
theorem dX4_chosenBoy_89 : decode cX4_chosenBoy 89 = .ok (.iload_n 3, 1) := by decide +kernel
theorem dX4_chosenBoy_90 : decode cX4_chosenBoy 90 = .ok (.ifCond .lt 10, 3) := by decide +kernel
theorem dX4_chosenBoy_93 : decode cX4_chosenBoy 93 = .ok (.iload 7, 2) := by decide +kernel
theorem dX4_chosenBoy_95 : decode cX4_chosenBoy 95 = .ok (.iload 4, 2) := by decide +kernel
theorem dX4_chosenBoy_97 : decode cX4_chosenBoy 97 = .ok (.if_icmp .ge 10, 3) := by decide +kernel
theorem dX4_chosenBoy_100 : decode cX4_chosenBoy 100 = .ok (.iload 5, 2) := by decide +kernel
theorem dX4_chosenBoy_102 : decode cX4_chosenBoy 102 = .ok (.istore_n 3, 1) := by decide +kernel
theorem dX4_chosenBoy_103 : decode cX4_chosenBoy 103 = .ok (.iload 7, 2) := by decide +kernel
theorem dX4_chosenBoy_105 : decode cX4_chosenBoy 105 = .ok (.istore 4, 2) := by decide +kernel
theorem dX4_chosenBoy_107 : decode cX4_chosenBoy 107 = .ok (.iinc 5 1, 3) := by decide +kernel
theorem dX4_chosenBoy_110 : decode cX4_chosenBoy 110 = .ok (.goto (-102), 3) := by decide +kernel
theorem dX4_chosenBoy_113 : decode cX4_chosenBoy 113 = .ok (.iload_n 3, 1) := by decide +kernel
theorem dX4_chosenBoy_114 : decode cX4_chosenBoy 114 = .ok (.ireturn, 1) := by decide +kernel
theorem dX4_purses_0 : decode cX4_purses 0 = .ok (.iconst 0, 1) := by decide +kernel
theorem dX4_purses_1 : decode cX4_purses 1 = .ok (.istore_n 1, 1) := by decide +kernel
theorem dX4_purses_2 : decode cX4_purses 2 = .ok (.iconst 0, 1) := by decide +kernel
theorem dX4_purses_3 : decode cX4_purses 3 = .ok (.istore_n 2, 1) := by decide +kernel
theorem dX4_purses_4 : decode cX4_purses 4 = .ok (.iload_n 2, 1) := by decide +kernel
theorem dX4_purses_5 : decode cX4_purses 5 = .ok (.aload_n 0, 1) := by decide +kernel
theorem dX4_purses_6 : decode cX4_purses 6 = .ok (.getfield 23, 3) := by decide +kernel
theorem dX4_purses_9 : decode cX4_purses 9 = .ok (.if_icmp .ge 21, 3) := by decide +kernel
theorem dX4_purses_12 : decode cX4_purses 12 = .ok (.iload_n 1, 1) := by decide +kernel
theorem dX4_purses_13 : decode cX4_purses 13 = .ok (.aload_n 0, 1) := by decide +kernel
theorem dX4_purses_14 : decode cX4_purses 14 = .ok (.getfield 11, 3) := by decide +kernel
theorem dX4_purses_17 : decode cX4_purses 17 = .ok (.iload_n 2, 1) := by decide +kernel
theorem dX4_purses_18 : decode cX4_purses 18 = .ok (.aaload, 1) := by decide +kernel
theorem dX4_purses_19 : decode cX4_purses 19 = .ok (.getfield 135, 3) := by decide +kernel
theorem dX4_purses_22 : decode cX4_purses 22 = .ok (.iadd, 1) := by decide +kernel
theorem dX4_purses_23 : decode cX4_purses 23 = .ok (.istore_n 1, 1) := by decide +kernel
theorem dX4_purses_24 : decode cX4_purses 24 = .ok (.iinc 2 1, 3) := by decide +kernel
theorem dX4_purses_27 : decode cX4_purses 27 = .ok (.goto (-23), 3) := by decide +kernel
theorem dX4_purses_30 : decode cX4_purses 30 = .ok (.iload_n 1, 1) := by decide +kernel
theorem dX4_purses_31 : decode cX4_purses 31 = .ok (.ireturn, 1) := by decide +kernel
theorem dX4_menDone_0 : decode cX4_menDone 0 = .ok (.iconst 0, 1) := by decide +kernel
theorem dX4_menDone_1 : decode cX4_menDone 1 = .ok (.istore_n 1, 1) := by decide +kernel
theorem dX4_menDone_2 : decode cX4_menDone 2 = .ok (.iconst 0, 1) := by decide +kernel
theorem dX4_menDone_3 : decode cX4_menDone 3 = .ok (.istore_n 2, 1) := by decide +kernel
theorem dX4_menDone_4 : decode cX4_menDone 4 = .ok (.iload_n 2, 1) := by decide +kernel
theorem dX4_menDone_5 : decode cX4_menDone 5 = .ok (.aload_n 0, 1) := by decide +kernel
theorem dX4_menDone_6 : decode cX4_menDone 6 = .ok (.getfield 23, 3) := by decide +kernel
theorem dX4_menDone_9 : decode cX4_menDone 9 = .ok (.if_icmp .ge 21, 3) := by decide +kernel
theorem dX4_menDone_12 : decode cX4_menDone 12 = .ok (.iload_n 1, 1) := by decide +kernel
theorem dX4_menDone_13 : decode cX4_menDone 13 = .ok (.aload_n 0, 1) := by decide +kernel
theorem dX4_menDone_14 : decode cX4_menDone 14 = .ok (.getfield 11, 3) := by decide +kernel
theorem dX4_menDone_17 : decode cX4_menDone 17 = .ok (.iload_n 2, 1) := by decide +kernel
theorem dX4_menDone_18 : decode cX4_menDone 18 = .ok (.aaload, 1) := by decide +kernel
theorem dX4_menDone_19 : decode cX4_menDone 19 = .ok (.getfield 124, 3) := by decide +kernel
theorem dX4_menDone_22 : decode cX4_menDone 22 = .ok (.iadd, 1) := by decide +kernel
theorem dX4_menDone_23 : decode cX4_menDone 23 = .ok (.istore_n 1, 1) := by decide +kernel
theorem dX4_menDone_24 : decode cX4_menDone 24 = .ok (.iinc 2 1, 3) := by decide +kernel
theorem dX4_menDone_27 : decode cX4_menDone 27 = .ok (.goto (-23), 3) := by decide +kernel
theorem dX4_menDone_30 : decode cX4_menDone 30 = .ok (.iload_n 1, 1) := by decide +kernel
theorem dX4_menDone_31 : decode cX4_menDone 31 = .ok (.ireturn, 1) := by decide +kernel
theorem dX4_busyBoys_0 : decode cX4_busyBoys 0 = .ok (.iconst 0, 1) := by decide +kernel
theorem dX4_busyBoys_1 : decode cX4_busyBoys 1 = .ok (.istore_n 1, 1) := by decide +kernel
theorem dX4_busyBoys_2 : decode cX4_busyBoys 2 = .ok (.iconst 0, 1) := by decide +kernel
theorem dX4_busyBoys_3 : decode cX4_busyBoys 3 = .ok (.istore_n 2, 1) := by decide +kernel
theorem dX4_busyBoys_4 : decode cX4_busyBoys 4 = .ok (.iload_n 2, 1) := by decide +kernel
theorem dX4_busyBoys_5 : decode cX4_busyBoys 5 = .ok (.aload_n 0, 1) := by decide +kernel
theorem dX4_busyBoys_6 : decode cX4_busyBoys 6 = .ok (.getfield 23, 3) := by decide +kernel
theorem dX4_busyBoys_9 : decode cX4_busyBoys 9 = .ok (.if_icmp .ge 27, 3) := by decide +kernel
theorem dX4_busyBoys_12 : decode cX4_busyBoys 12 = .ok (.aload_n 0, 1) := by decide +kernel
theorem dX4_busyBoys_13 : decode cX4_busyBoys 13 = .ok (.getfield 11, 3) := by decide +kernel
theorem dX4_busyBoys_16 : decode cX4_busyBoys 16 = .ok (.iload_n 2, 1) := by decide +kernel
theorem dX4_busyBoys_17 : decode cX4_busyBoys 17 = .ok (.aaload, 1) := by decide +kernel
theorem dX4_busyBoys_18 : decode cX4_busyBoys 18 = .ok (.getfield 109, 3) := by decide +kernel
theorem dX4_busyBoys_21 : decode cX4_busyBoys 21 = .ok (.ifCond .le 9, 3) := by decide +kernel
theorem dX4_busyBoys_24 : decode cX4_busyBoys 24 = .ok (.iload_n 1, 1) := by decide +kernel
theorem dX4_busyBoys_25 : decode cX4_busyBoys 25 = .ok (.iconst 1, 1) := by decide +kernel
theorem dX4_busyBoys_26 : decode cX4_busyBoys 26 = .ok (.iload_n 2, 1) := by decide +kernel
theorem dX4_busyBoys_27 : decode cX4_busyBoys 27 = .ok (.ishl, 1) := by decide +kernel
theorem dX4_busyBoys_28 : decode cX4_busyBoys 28 = .ok (.ior, 1) := by decide +kernel
theorem dX4_busyBoys_29 : decode cX4_busyBoys 29 = .ok (.istore_n 1, 1) := by decide +kernel
theorem dX4_busyBoys_30 : decode cX4_busyBoys 30 = .ok (.iinc 2 1, 3) := by decide +kernel
theorem dX4_busyBoys_33 : decode cX4_busyBoys 33 = .ok (.goto (-29), 3) := by decide +kernel
theorem dX4_busyBoys_36 : decode cX4_busyBoys 36 = .ok (.iload_n 1, 1) := by decide +kernel
theorem dX4_busyBoys_37 : decode cX4_busyBoys 37 = .ok (.ireturn, 1) := by decide +kernel
theorem dX5_init_0 : decode cX5_init 0 = .ok (.aload_n 0, 1) := by decide +kernel
theorem dX5_init_1 : decode cX5_init 1 = .ok (.invokespecial 3, 3) := by decide +kernel
theorem dX5_init_4 : decode cX5_init 4 = .ok (.aload_n 0, 1) := by decide +kernel
theorem dX5_init_5 : decode cX5_init 5 = .ok (.iconst 0, 1) := by decide +kernel
theorem dX5_init_6 : decode cX5_init 6 = .ok (.putfield 9, 3) := by decide +kernel
theorem dX5_init_9 : decode cX5_init 9 = .ok (.aload_n 0, 1) := by decide +kernel
theorem dX5_init_10 : decode cX5_init 10 = .ok (.bipush 96, 2) := by decide +kernel
theorem dX5_init_12 : decode cX5_init 12 = .ok (.newarray .byte, 2) := by decide +kernel
theorem dX5_init_14 : decode cX5_init 14 = .ok (.putfield 15, 3) := by decide +kernel
theorem dX5_init_17 : decode cX5_init 17 = .ok (.aload_n 0, 1) := by decide +kernel
theorem dX5_init_18 : decode cX5_init 18 = .ok (.iconst 0, 1) := by decide +kernel
theorem dX5_init_19 : decode cX5_init 19 = .ok (.putfield 19, 3) := by decide +kernel
theorem dX5_init_22 : decode cX5_init 22 = .ok (.aload_n 0, 1) := by decide +kernel
theorem dX5_init_23 : decode cX5_init 23 = .ok (.iconst 0, 1) := by decide +kernel
theorem dX5_init_24 : decode cX5_init 24 = .ok (.putfield 22, 3) := by decide +kernel
theorem dX5_init_27 : decode cX5_init 27 = .ok (.aload_n 0, 1) := by decide +kernel
theorem dX5_init_28 : decode cX5_init 28 = .ok (.iconst 0, 1) := by decide +kernel
theorem dX5_init_29 : decode cX5_init 29 = .ok (.putfield 25, 3) := by decide +kernel
theorem dX5_init_32 : decode cX5_init 32 = .ok (.aload_n 0, 1) := by decide +kernel
theorem dX5_init_33 : decode cX5_init 33 = .ok (.iconst 0, 1) := by decide +kernel
theorem dX5_init_34 : decode cX5_init 34 = .ok (.putfield 28, 3) := by decide +kernel
theorem dX5_init_37 : decode cX5_init 37 = .ok (.return_, 1) := by decide +kernel
theorem dX5_addNumber_0 : decode cX5_addNumber 0 = .ok (.bipush 24, 2) := by decide +kernel
theorem dX5_addNumber_2 : decode cX5_addNumber 2 = .ok (.istore_n 2, 1) := by decide +kernel
theorem dX5_addNumber_3 : decode cX5_addNumber 3 = .ok (.iload_n 2, 1) := by decide +kernel
theorem dX5_addNumber_4 : decode cX5_addNumber 4 = .ok (.ifCond .lt 44, 3) := by decide +kernel
theorem dX5_addNumber_7 : decode cX5_addNumber 7 = .ok (.aload_n 0, 1) := by decide +kernel
theorem dX5_addNumber_8 : decode cX5_addNumber 8 = .ok (.getfield 9, 3) := by decide +kernel
theorem dX5_addNumber_11 : decode cX5_addNumber 11 = .ok (.aload_n 0, 1) := by decide +kernel
theorem dX5_addNumber_12 : decode cX5_addNumber 12 = .ok (.getfield 15, 3) := by decide +kernel
theorem dX5_addNumber_15 : decode cX5_addNumber 15 = .ok (.arraylength, 1) := by decide +kernel
theorem dX5_addNumber_16 : decode cX5_addNumber 16 = .ok (.if_icmp .ge 26, 3) := by decide +kernel
theorem dX5_addNumber_19 : decode cX5_addNumber 19 = .ok (.aload_n 0, 1) := by decide +kernel
theorem dX5_addNumber_20 : decode cX5_addNumber 20 = .ok (.getfield 15, 3) := by decide +kernel
theorem dX5_addNumber_23 : decode cX5_addNumber 23 = .ok (.aload_n 0, 1) := by decide +kernel
theorem dX5_addNumber_24 : decode cX5_addNumber 24 = .ok (.getfield 9, 3) := by decide +kernel
theorem dX5_addNumber_27 : decode cX5_addNumber 27 = .ok (.iload_n 1, 1) := by decide +kernel
theorem dX5_addNumber_28 : decode cX5_addNumber 28 = .ok (.iload_n 2, 1) := by decide +kernel
theorem dX5_addNumber_29 : decode cX5_addNumber 29 = .ok (.ishr, 1) := by decide +kernel
theorem dX5_addNumber_30 : decode cX5_addNumber 30 = .ok (.i2b, 1) := by decide +kernel
theorem dX5_addNumber_31 : decode cX5_addNumber 31 = .ok (.bastore, 1) := by decide +kernel
theorem dX5_addNumber_32 : decode cX5_addNumber 32 = .ok (.aload_n 0, 1) := by decide +kernel
theorem dX5_addNumber_33 : decode cX5_addNumber 33 = .ok (.dup, 1) := by decide +kernel
theorem dX5_addNumber_34 : decode cX5_addNumber 34 = .ok (.getfield 9, 3) := by decide +kernel
theorem dX5_addNumber_37 : decode cX5_addNumber 37 = .ok (.iconst 1, 1) := by decide +kernel
theorem dX5_addNumber_38 : decode cX5_addNumber 38 = .ok (.iadd, 1) := by decide +kernel
theorem dX5_addNumber_39 : decode cX5_addNumber 39 = .ok (.putfield 9, 3) := by decide +kernel
theorem dX5_addNumber_42 : decode cX5_addNumber 42 = .ok (.iinc 2 (-8), 3) := by decide +kernel
theorem dX5_addNumber_45 : decode cX5_addNumber 45 = .ok (.goto (-42), 3) := by decide +kernel
theorem dX5_addNumber_48 : decode cX5_addNumber 48 = .ok (.return_, 1) := by decide +kernel
theorem dX5_useUp_0 : decode cX5_useUp 0 = .ok (.aload_n 0, 1) := by decide +kernel
theorem dX5_useUp_1 : decode cX5_useUp 1 = .ok (.aload_n 0, 1) := by decide +kernel
theorem dX5_useUp_2 : decode cX5_useUp 2 = .ok (.getfield 9, 3) := by decide +kernel
theorem dX5_useUp_5 : decode cX5_useUp 5 = .ok (.putfield 19, 3) := by decide +kernel
theorem dX5_useUp_8 : decode cX5_useUp 8 = .ok (.aload_n 0, 1) := by decide +kernel
theorem dX5_useUp_9 : decode cX5_useUp 9 = .ok (.iconst 0, 1) := by decide +kernel
theorem dX5_useUp_10 : decode cX5_useUp 10 = .ok (.putfield 9, 3) := by decide +kernel
theorem dX5_useUp_13 : decode cX5_useUp 13 = .ok (.aload_n 0, 1) := by decide +kernel
theorem dX5_useUp_14 : decode cX5_useUp 14 = .ok (.iconst 0, 1) := by decide +kernel
theorem dX5_useUp_15 : decode cX5_useUp 15 = .ok (.putfield 28, 3) := by decide +kernel
theorem dX5_useUp_18 : decode cX5_useUp 18 = .ok (.aload_n 0, 1) := by decide +kernel
theorem dX5_useUp_19 : decode cX5_useUp 19 = .ok (.invokevirtual 31, 3) := by decide +kernel
theorem dX5_useUp_22 : decode cX5_useUp 22 = .ok (.aload_n 0, 1) := by decide +kernel
theorem dX5_useUp_23 : decode cX5_useUp 23 = .ok (.invokevirtual 34, 3) := by decide +kernel
theorem dX5_useUp_26 : decode cX5_useUp 26 = .ok (.istore_n 2, 1) := by decide +kernel
theorem dX5_useUp_27 : decode cX5_useUp 27 = .ok (.iload_n 2, 1) := by decide +kernel
theorem dX5_useUp_28 : decode cX5_useUp 28 = .ok (.ifCond .ge 8, 3) := by decide +kernel
theorem dX5_useUp_31 : decode cX5_useUp 31 = .ok (.aload_n 0, 1) := by decide +kernel
theorem dX5_useUp_32 : decode cX5_useUp 32 = .ok (.getfield 25, 3) := by decide +kernel
theorem dX5_useUp_35 : decode cX5_useUp 35 = .ok (.ireturn, 1) := by decide +kernel
theorem dX5_useUp_36 : decode cX5_useUp 36 = .ok (.aload_n 1, 1) := by decide +kernel
theorem dX5_useUp_37 : decode cX5_useUp 37 = .ok (.iload_n 2, 1) := by decide +kernel
theorem dX5_useUp_38 : decode cX5_useUp 38 = .ok (.invokevirtual 38, 3) := by decide +kernel
theorem dX5_useUp_41 : decode cX5_useUp 41 = .ok (.aload_n 0, 1) := by decide +kernel
theorem dX5_useUp_42 : decode cX5_useUp 42 = .ok (.invokevirtual 31, 3) := by decide +kernel
theorem dX5_useUp_45 : decode cX5_useUp 45 = .ok (.aload_n 0, 1) := by decide +kernel
theorem dX5_useUp_46 : decode cX5_useUp 46 = .ok (.aload_n 1, 1) := by decide +kernel
theorem dX5_useUp_47 : decode cX5_useUp 47 = .ok (.iconst 0, 1) := by decide +kernel
theorem dX5_useUp_48 : decode cX5_useUp 48 = .ok (.iconst 0, 1) := by decide +kernel
theorem dX5_useUp_49 : decode cX5_useUp 49 = .ok (.iconst 0, 1) := by decide +kernel
theorem dX5_useUp_50 : decode cX5_useUp 50 = .ok (.invokevirtual 44, 3) := by decide +kernel
theorem dX5_useUp_53 : decode cX5_useUp 53 = .ok (.ifCond .eq 10, 3) := by decide +kernel
theorem dX5_useUp_56 : decode cX5_useUp 56 = .ok (.aload_n 0, 1) := by decide +kernel
theorem dX5_useUp_57 : decode cX5_useUp 57 = .ok (.getfield 22, 3) := by decide +kernel
theorem dX5_useUp_60 : decode cX5_useUp 60 = .ok (.ifCond .eq 8, 3) := by decide +kernel
theorem dX5_useUp_63 : decode cX5_useUp 63 = .ok (.aload_n 0, 1) := by decide +kernel
theorem dX5_useUp_64 : decode cX5_useUp 64 = .ok (.getfield 25, 3) := by decide +kernel
theorem dX5_useUp_67 : decode cX5_useUp 67 = .ok (.ireturn, 1) := by decide +kernel
theorem dX5_useUp_68 : decode cX5_useUp 68 = .ok (.iconst (-1), 1) := by decide +kernel
theorem dX5_useUp_69 : decode cX5_useUp 69 = .ok (.ireturn, 1) := by decide +kernel
theorem dX5_keyRead_0 : decode cX5_keyRead 0 = .ok (.aload_n 0, 1) := by decide +kernel
theorem dX5_keyRead_1 : decode cX5_keyRead 1 = .ok (.ldc 48, 2) := by decide +kernel
theorem dX5_keyRead_3 : decode cX5_keyRead 3 = .ok (.invokevirtual 50, 3) := by decide +kernel
theorem dX5_keyRead_6 : decode cX5_keyRead 6 = .ok (.ifCond .eq 5, 3) := by decide +kernel
theorem dX5_keyRead_9 : decode cX5_keyRead 9 = .ok (.iconst 0, 1) := by decide +kernel
theorem dX5_keyRead_10 : decode cX5_keyRead 10 = .ok (.ireturn, 1) := by decide +kernel
theorem dX5_keyRead_11 : decode cX5_keyRead 11 = .ok (.aload_n 0, 1) := by decide +kernel
theorem dX5_keyRead_12 : decode cX5_keyRead 12 = .ok (.ldc 54, 2) := by decide +kernel
theorem dX5_keyRead_14 : decode cX5_keyRead 14 = .ok (.invokevirtual 50, 3) := by decide +kernel
theorem dX5_keyRead_17 : decode cX5_keyRead 17 = .ok (.ifCond .eq 5, 3) := by decide +kernel
theorem dX5_keyRead_20 : decode cX5_keyRead 20 = .ok (.iconst 1, 1) := by decide +kernel
theorem dX5_keyRead_21 : decode cX5_keyRead 21 = .ok (.ireturn, 1) := by decide +kernel
theorem dX5_keyRead_22 : decode cX5_keyRead 22 = .ok (.aload_n 0, 1) := by decide +kernel
theorem dX5_keyRead_23 : decode cX5_keyRead 23 = .ok (.ldc 56, 2) := by decide +kernel
theorem dX5_keyRead_25 : decode cX5_keyRead 25 = .ok (.invokevirtual 50, 3) := by decide +kernel
theorem dX5_keyRead_28 : decode cX5_keyRead 28 = .ok (.ifCond .eq 7, 3) := by decide +kernel
theorem dX5_keyRead_31 : decode cX5_keyRead 31 = .ok (.iconst 2, 1) := by decide +kernel
theorem dX5_keyRead_32 : decode cX5_keyRead 32 = .ok (.goto 4, 3) := by decide +kernel
theorem dX5_keyRead_35 : decode cX5_keyRead 35 = .ok (.iconst (-1), 1) := by decide +kernel
theorem dX5_keyRead_36 : decode cX5_keyRead 36 = .ok (.ireturn, 1) := by decide +kernel
theorem dX5_isWord_0 : decode cX5_isWord 0 = .ok (.aload_n 0, 1) := by decide +kernel
theorem dX5_isWord_1 : decode cX5_isWord 1 = .ok (.getfield 22, 3) := by decide +kernel
theorem dX5_isWord_4 : decode cX5_isWord 4 = .ok (.iconst 1, 1) := by decide +kernel
theorem dX5_isWord_5 : decode cX5_isWord 5 = .ok (.if_icmp .ne 19, 3) := by decide +kernel
theorem dX5_isWord_8 : decode cX5_isWord 8 = .ok (.aload_n 0, 1) := by decide +kernel
theorem dX5_isWord_9 : decode cX5_isWord 9 = .ok (.getfield 28, 3) := by decide +kernel
theorem dX5_isWord_12 : decode cX5_isWord 12 = .ok (.aload_n 0, 1) := by decide +kernel
theorem dX5_isWord_13 : decode cX5_isWord 13 = .ok (.getfield 25, 3) := by decide +kernel
theorem dX5_isWord_16 : decode cX5_isWord 16 = .ok (.isub, 1) := by decide +kernel
theorem dX5_isWord_17 : decode cX5_isWord 17 = .ok (.aload_n 1, 1) := by decide +kernel
theorem dX5_isWord_18 : decode cX5_isWord 18 = .ok (.invokevirtual 58, 3) := by decide +kernel
theorem dX5_isWord_21 : decode cX5_isWord 21 = .ok (.if_icmp .eq 5, 3) := by decide +kernel
theorem dX5_isWord_24 : decode cX5_isWord 24 = .ok (.iconst 0, 1) := by decide +kernel
theorem dX5_isWord_25 : decode cX5_isWord 25 = .ok (.ireturn, 1) := by decide +kernel
theorem dX5_isWord_26 : decode cX5_isWord 26 = .ok (.iconst 0, 1) := by decide +kernel
theorem dX5_isWord_27 : decode cX5_isWord 27 = .ok (.istore_n 2, 1) := by decide +kernel
theorem dX5_isWord_28 : decode cX5_isWord 28 = .ok (.iload_n 2, 1) := by decide +kernel
theorem dX5_isWord_29 : decode cX5_isWord 29 = .ok (.aload_n 1, 1) := by decide +kernel
theorem dX5_isWord_30 : decode cX5_isWord 30 = .ok (.invokevirtual 58, 3) := by decide +kernel
theorem dX5_isWord_33 : decode cX5_isWord 33 = .ok (.if_icmp .ge 30, 3) := by decide +kernel
theorem dX5_isWord_36 : decode cX5_isWord 36 = .ok (.aload_n 0, 1) := by decide +kernel
theorem dX5_isWord_37 : decode cX5_isWord 37 = .ok (.getfield 15, 3) := by decide +kernel
theorem dX5_isWord_40 : decode cX5_isWord 40 = .ok (.aload_n 0, 1) := by decide +kernel
theorem dX5_isWord_41 : decode cX5_isWord 41 = .ok (.getfield 25, 3) := by decide +kernel
theorem dX5_isWord_44 : decode cX5_isWord 44 = .ok (.iload_n 2, 1) := by decide +kernel
theorem dX5_isWord_45 : decode cX5_isWord 45 = .ok (.iadd, 1) := by decide +kernel
theorem dX5_isWord_46 : decode cX5_isWord 46 = .ok (.baload, 1) := by decide +kernel
theorem dX5_isWord_47 : decode cX5_isWord 47 = .ok (.aload_n 1, 1) := by decide +kernel
theorem dX5_isWord_48 : decode cX5_isWord 48 = .ok (.iload_n 2, 1) := by decide +kernel
theorem dX5_isWord_49 : decode cX5_isWord 49 = .ok (.invokevirtual 63, 3) := by decide +kernel
theorem dX5_isWord_52 : decode cX5_isWord 52 = .ok (.if_icmp .eq 5, 3) := by decide +kernel
theorem dX5_isWord_55 : decode cX5_isWord 55 = .ok (.iconst 0, 1) := by decide +kernel
theorem dX5_isWord_56 : decode cX5_isWord 56 = .ok (.ireturn, 1) := by decide +kernel
theorem dX5_isWord_57 : decode cX5_isWord 57 = .ok (.iinc 2 1, 3) := by decide +kernel
theorem dX5_isWord_60 : decode cX5_isWord 60 = .ok (.goto (-32), 3) := by decide +kernel
theorem dX5_isWord_63 : decode cX5_isWord 63 = .ok (.iconst 1, 1) := by decide +kernel
theorem dX5_isWord_64 : decode cX5_isWord 64 = .ok (.ireturn, 1) := by decide +kernel
theorem dX5_expression_0 : decode cX5_expression 0 = .ok (.iload_n 2, 1) := by decide +kernel
theorem dX5_expression_1 : decode cX5_expression 1 = .ok (.iconst 4, 1) := by decide +kernel
theorem dX5_expression_2 : decode cX5_expression 2 = .ok (.if_icmp .le 12, 3) := by decide +kernel
theorem dX5_expression_5 : decode cX5_expression 5 = .ok (.aload_n 0, 1) := by decide +kernel
theorem dX5_expression_6 : decode cX5_expression 6 = .ok (.aload_n 1, 1) := by decide +kernel
theorem dX5_expression_7 : decode cX5_expression 7 = .ok (.iload_n 3, 1) := by decide +kernel
theorem dX5_expression_8 : decode cX5_expression 8 = .ok (.iload 4, 2) := by decide +kernel
theorem dX5_expression_10 : decode cX5_expression 10 = .ok (.invokevirtual 67, 3) := by decide +kernel
theorem dX5_expression_13 : decode cX5_expression 13 = .ok (.ireturn, 1) := by decide +kernel
theorem dX5_expression_14 : decode cX5_expression 14 = .ok (.aload_n 0, 1) := by decide +kernel
theorem dX5_expression_15 : decode cX5_expression 15 = .ok (.aload_n 1, 1) := by decide +kernel
theorem dX5_expression_16 : decode cX5_expression 16 = .ok (.iload_n 2, 1) := by decide +kernel
theorem dX5_expression_17 : decode cX5_expression 17 = .ok (.iconst 1, 1) := by decide +kernel
theorem dX5_expression_18 : decode cX5_expression 18 = .ok (.iadd, 1) := by decide +kernel
theorem dX5_expression_19 : decode cX5_expression 19 = .ok (.iload_n 3, 1) := by decide +kernel
theorem dX5_expression_20 : decode cX5_expression 20 = .ok (.iload 4, 2) := by decide +kernel
theorem dX5_expression_22 : decode cX5_expression 22 = .ok (.invokevirtual 44, 3) := by decide +kernel
theorem dX5_expression_25 : decode cX5_expression 25 = .ok (.ifCond .ne 5, 3) := by decide +kernel
theorem dX5_expression_28 : decode cX5_expression 28 = .ok (.iconst 0, 1) := by decide +kernel
theorem dX5_expression_29 : decode cX5_expression 29 = .ok (.ireturn, 1) := by decide +kernel
theorem dX5_expression_30 : decode cX5_expression 30 = .ok (.iload_n 2, 1) := by decide +kernel
theorem dX5_expression_31 : decode cX5_expression 31 = .ok (.iconst 2, 1) := by decide +kernel
theorem dX5_expression_32 : decode cX5_expression 32 = .ok (.if_icmp .ne 7, 3) := by decide +kernel
theorem dX5_expression_35 : decode cX5_expression 35 = .ok (.iconst 1, 1) := by decide +kernel
theorem dX5_expression_36 : decode cX5_expression 36 = .ok (.goto 5, 3) := by decide +kernel
theorem dX5_expression_39 : decode cX5_expression 39 = .ok (.bipush 96, 2) := by decide +kernel
theorem dX5_expression_41 : decode cX5_expression 41 = .ok (.istore 5, 2) := by decide +kernel
theorem dX5_expression_43 : decode cX5_expression 43 = .ok (.iconst 0, 1) := by decide +kernel
theorem dX5_expression_44 : decode cX5_expression 44 = .ok (.istore 6, 2) := by decide +kernel
theorem dX5_expression_46 : decode cX5_expression 46 = .ok (.iload 6, 2) := by decide +kernel
theorem dX5_expression_48 : decode cX5_expression 48 = .ok (.iload 5, 2) := by decide +kernel
theorem dX5_expression_50 : decode cX5_expression 50 = .ok (.if_icmp .ge 60, 3) := by decide +kernel
theorem dX5_expression_53 : decode cX5_expression 53 = .ok (.aload_n 0, 1) := by decide +kernel
theorem dX5_expression_54 : decode cX5_expression 54 = .ok (.getfield 22, 3) := by decide +kernel
theorem dX5_expression_57 : decode cX5_expression 57 = .ok (.iconst 3, 1) := by decide +kernel
theorem dX5_expression_58 : decode cX5_expression 58 = .ok (.if_icmp .ne 52, 3) := by decide +kernel
theorem dX5_expression_61 : decode cX5_expression 61 = .ok (.aload_n 0, 1) := by decide +kernel
theorem dX5_expression_62 : decode cX5_expression 62 = .ok (.invokevirtual 71, 3) := by decide +kernel
theorem dX5_expression_65 : decode cX5_expression 65 = .ok (.invokestatic 74, 3) := by decide +kernel
theorem dX5_expression_68 : decode cX5_expression 68 = .ok (.iload_n 2, 1) := by decide +kernel
theorem dX5_expression_69 : decode cX5_expression 69 = .ok (.if_icmp .ne 41, 3) := by decide +kernel
theorem dX5_expression_72 : decode cX5_expression 72 = .ok (.aload_n 0, 1) := by decide +kernel
theorem dX5_expression_73 : decode cX5_expression 73 = .ok (.invokevirtual 71, 3) := by decide +kernel
theorem dX5_expression_76 : decode cX5_expression 76 = .ok (.istore 7, 2) := by decide +kernel
theorem dX5_expression_78 : decode cX5_expression 78 = .ok (.aload_n 0, 1) := by decide +kernel
theorem dX5_expression_79 : decode cX5_expression 79 = .ok (.invokevirtual 31, 3) := by decide +kernel
theorem dX5_expression_82 : decode cX5_expression 82 = .ok (.aload_n 0, 1) := by decide +kernel
theorem dX5_expression_83 : decode cX5_expression 83 = .ok (.aload_n 1, 1) := by decide +kernel
theorem dX5_expression_84 : decode cX5_expression 84 = .ok (.iload_n 2, 1) := by decide +kernel
theorem dX5_expression_85 : decode cX5_expression 85 = .ok (.iconst 1, 1) := by decide +kernel
theorem dX5_expression_86 : decode cX5_expression 86 = .ok (.iadd, 1) := by decide +kernel
theorem dX5_expression_87 : decode cX5_expression 87 = .ok (.iload_n 3, 1) := by decide +kernel
theorem dX5_expression_88 : decode cX5_expression 88 = .ok (.iload 4, 2) := by decide +kernel
theorem dX5_expression_90 : decode cX5_expression 90 = .ok (.invokevirtual 44, 3) := by decide +kernel
theorem dX5_expression_93 : decode cX5_expression 93 = .ok (.ifCond .ne 5, 3) := by decide +kernel
theorem dX5_expression_96 : decode cX5_expression 96 = .ok (.iconst 0, 1) := by decide +kernel
theorem dX5_expression_97 : decode cX5_expression 97 = .ok (.ireturn, 1) := by decide +kernel
theorem dX5_expression_98 : decode cX5_expression 98 = .ok (.aload_n 1, 1) := by decide +kernel
theorem dX5_expression_99 : decode cX5_expression 99 = .ok (.iload 7, 2) := by decide +kernel
theorem dX5_expression_101 : decode cX5_expression 101 = .ok (.invokevirtual 78, 3) := by decide +kernel
theorem dX5_expression_104 : decode cX5_expression 104 = .ok (.iinc 6 1, 3) := by decide +kernel
theorem dX5_expression_107 : decode cX5_expression 107 = .ok (.goto (-61), 3) := by decide +kernel
theorem dX5_expression_110 : decode cX5_expression 110 = .ok (.iconst 1, 1) := by decide +kernel
theorem dX5_expression_111 : decode cX5_expression 111 = .ok (.ireturn, 1) := by decide +kernel
theorem dX5_levelOf_0 : decode cX5_levelOf 0 = .ok (.iload_n 0, 1) := by decide +kernel
theorem dX5_levelOf_1 : decode cX5_levelOf 1 = .ok (.lookupswitch 93 #[(38, 85), (42, 91), (43, 89), (45, 89), (47, 91), (60, 87), (61, 87), (62, 87), (124, 83)], 83) := by decide +kernel
theorem dX5_levelOf_84 : decode cX5_levelOf 84 = .ok (.iconst 0, 1) := by decide +kernel
theorem dX5_levelOf_85 : decode cX5_levelOf 85 = .ok (.ireturn, 1) := by decide +kernel
theorem dX5_levelOf_86 : decode cX5_levelOf 86 = .ok (.iconst 1, 1) := by decide +kernel
theorem dX5_levelOf_87 : decode cX5_levelOf 87 = .ok (.ireturn, 1) := by decide +kernel
theorem dX5_levelOf_88 : decode cX5_levelOf 88 = .ok (.iconst 2, 1) := by decide +kernel
theorem dX5_levelOf_89 : decode cX5_levelOf 89 = .ok (.ireturn, 1) := by decide +kernel
theorem dX5_levelOf_90 : decode cX5_levelOf 90 = .ok (.iconst 3, 1) := by decide +kernel
theorem dX5_levelOf_91 : decode cX5_levelOf 91 = .ok (.ireturn, 1) := by decide +kernel
theorem dX5_levelOf_92 : decode cX5_levelOf 92 = .ok (.iconst 4, 1) := by decide +kernel
theorem dX5_levelOf_93 : decode cX5_levelOf 93 = .ok (.ireturn, 1) := by decide +kernel
theorem dX5_levelOf_94 : decode cX5_levelOf 94 = .ok (.iconst (-1), 1) := by decide +kernel
theorem dX5_levelOf_95 : decode cX5_levelOf 95 = .ok (.ireturn, 1) := by decide +kernel
theorem dX5_piece_0 : decode cX5_piece 0 = .ok (.aload_n 0, 1) := by decide +kernel
theorem dX5_piece_1 : decode cX5_piece 1 = .ok (.getfield 22, 3) := by decide +kernel
theorem dX5_piece_4 : decode cX5_piece 4 = .ok (.iconst 2, 1) := by decide +kernel
theorem dX5_piece_5 : decode cX5_piece 5 = .ok (.if_icmp .ne 9, 3) := by decide +kernel
theorem dX5_piece_8 : decode cX5_piece 8 = .ok (.aload_n 0, 1) := by decide +kernel
theorem dX5_piece_9 : decode cX5_piece 9 = .ok (.aload_n 1, 1) := by decide +kernel
theorem dX5_piece_10 : decode cX5_piece 10 = .ok (.invokevirtual 81, 3) := by decide +kernel
theorem dX5_piece_13 : decode cX5_piece 13 = .ok (.ireturn, 1) := by decide +kernel
theorem dX5_piece_14 : decode cX5_piece 14 = .ok (.aload_n 0, 1) := by decide +kernel
theorem dX5_piece_15 : decode cX5_piece 15 = .ok (.getfield 22, 3) := by decide +kernel
theorem dX5_piece_18 : decode cX5_piece 18 = .ok (.iconst 1, 1) := by decide +kernel
theorem dX5_piece_19 : decode cX5_piece 19 = .ok (.if_icmp .ne 9, 3) := by decide +kernel
theorem dX5_piece_22 : decode cX5_piece 22 = .ok (.aload_n 0, 1) := by decide +kernel
theorem dX5_piece_23 : decode cX5_piece 23 = .ok (.aload_n 1, 1) := by decide +kernel
theorem dX5_piece_24 : decode cX5_piece 24 = .ok (.invokevirtual 85, 3) := by decide +kernel
theorem dX5_piece_27 : decode cX5_piece 27 = .ok (.ireturn, 1) := by decide +kernel
theorem dX5_piece_28 : decode cX5_piece 28 = .ok (.aload_n 0, 1) := by decide +kernel
theorem dX5_piece_29 : decode cX5_piece 29 = .ok (.bipush 33, 2) := by decide +kernel
theorem dX5_piece_31 : decode cX5_piece 31 = .ok (.invokevirtual 88, 3) := by decide +kernel
theorem dX5_piece_34 : decode cX5_piece 34 = .ok (.ifCond .eq 35, 3) := by decide +kernel
theorem dX5_piece_37 : decode cX5_piece 37 = .ok (.iload_n 3, 1) := by decide +kernel
theorem dX5_piece_38 : decode cX5_piece 38 = .ok (.bipush 8, 2) := by decide +kernel
theorem dX5_piece_40 : decode cX5_piece 40 = .ok (.if_icmp .ge 29, 3) := by decide +kernel
theorem dX5_piece_43 : decode cX5_piece 43 = .ok (.aload_n 0, 1) := by decide +kernel
theorem dX5_piece_44 : decode cX5_piece 44 = .ok (.invokevirtual 31, 3) := by decide +kernel
theorem dX5_piece_47 : decode cX5_piece 47 = .ok (.aload_n 0, 1) := by decide +kernel
theorem dX5_piece_48 : decode cX5_piece 48 = .ok (.aload_n 1, 1) := by decide +kernel
theorem dX5_piece_49 : decode cX5_piece 49 = .ok (.iload_n 2, 1) := by decide +kernel
theorem dX5_piece_50 : decode cX5_piece 50 = .ok (.iload_n 3, 1) := by decide +kernel
theorem dX5_piece_51 : decode cX5_piece 51 = .ok (.iconst 1, 1) := by decide +kernel
theorem dX5_piece_52 : decode cX5_piece 52 = .ok (.iadd, 1) := by decide +kernel
theorem dX5_piece_53 : decode cX5_piece 53 = .ok (.invokevirtual 67, 3) := by decide +kernel
theorem dX5_piece_56 : decode cX5_piece 56 = .ok (.ifCond .ne 5, 3) := by decide +kernel
theorem dX5_piece_59 : decode cX5_piece 59 = .ok (.iconst 0, 1) := by decide +kernel
theorem dX5_piece_60 : decode cX5_piece 60 = .ok (.ireturn, 1) := by decide +kernel
theorem dX5_piece_61 : decode cX5_piece 61 = .ok (.aload_n 1, 1) := by decide +kernel
theorem dX5_piece_62 : decode cX5_piece 62 = .ok (.bipush 33, 2) := by decide +kernel
theorem dX5_piece_64 : decode cX5_piece 64 = .ok (.invokevirtual 78, 3) := by decide +kernel
theorem dX5_piece_67 : decode cX5_piece 67 = .ok (.iconst 1, 1) := by decide +kernel
theorem dX5_piece_68 : decode cX5_piece 68 = .ok (.ireturn, 1) := by decide +kernel
theorem dX5_piece_69 : decode cX5_piece 69 = .ok (.aload_n 0, 1) := by decide +kernel
theorem dX5_piece_70 : decode cX5_piece 70 = .ok (.bipush 40, 2) := by decide +kernel
theorem dX5_piece_72 : decode cX5_piece 72 = .ok (.invokevirtual 88, 3) := by decide +kernel
theorem dX5_piece_75 : decode cX5_piece 75 = .ok (.ifCond .eq 43, 3) := by decide +kernel
theorem dX5_piece_78 : decode cX5_piece 78 = .ok (.iload_n 2, 1) := by decide +kernel
theorem dX5_piece_79 : decode cX5_piece 79 = .ok (.bipush 8, 2) := by decide +kernel
theorem dX5_piece_81 : decode cX5_piece 81 = .ok (.if_icmp .ge 37, 3) := by decide +kernel
theorem dX5_piece_84 : decode cX5_piece 84 = .ok (.aload_n 0, 1) := by decide +kernel
theorem dX5_piece_85 : decode cX5_piece 85 = .ok (.invokevirtual 31, 3) := by decide +kernel
theorem dX5_piece_88 : decode cX5_piece 88 = .ok (.aload_n 0, 1) := by decide +kernel
theorem dX5_piece_89 : decode cX5_piece 89 = .ok (.aload_n 1, 1) := by decide +kernel
theorem dX5_piece_90 : decode cX5_piece 90 = .ok (.iconst 0, 1) := by decide +kernel
theorem dX5_piece_91 : decode cX5_piece 91 = .ok (.iload_n 2, 1) := by decide +kernel
theorem dX5_piece_92 : decode cX5_piece 92 = .ok (.iconst 1, 1) := by decide +kernel
theorem dX5_piece_93 : decode cX5_piece 93 = .ok (.iadd, 1) := by decide +kernel
theorem dX5_piece_94 : decode cX5_piece 94 = .ok (.iload_n 3, 1) := by decide +kernel
theorem dX5_piece_95 : decode cX5_piece 95 = .ok (.invokevirtual 44, 3) := by decide +kernel
theorem dX5_piece_98 : decode cX5_piece 98 = .ok (.ifCond .eq 12, 3) := by decide +kernel
theorem dX5_piece_101 : decode cX5_piece 101 = .ok (.aload_n 0, 1) := by decide +kernel
theorem dX5_piece_102 : decode cX5_piece 102 = .ok (.bipush 41, 2) := by decide +kernel
theorem dX5_piece_104 : decode cX5_piece 104 = .ok (.invokevirtual 88, 3) := by decide +kernel
theorem dX5_piece_107 : decode cX5_piece 107 = .ok (.ifCond .ne 5, 3) := by decide +kernel
theorem dX5_piece_110 : decode cX5_piece 110 = .ok (.iconst 0, 1) := by decide +kernel
theorem dX5_piece_111 : decode cX5_piece 111 = .ok (.ireturn, 1) := by decide +kernel
theorem dX5_piece_112 : decode cX5_piece 112 = .ok (.aload_n 0, 1) := by decide +kernel
theorem dX5_piece_113 : decode cX5_piece 113 = .ok (.invokevirtual 31, 3) := by decide +kernel
theorem dX5_piece_116 : decode cX5_piece 116 = .ok (.iconst 1, 1) := by decide +kernel
theorem dX5_piece_117 : decode cX5_piece 117 = .ok (.ireturn, 1) := by decide +kernel
theorem dX5_piece_118 : decode cX5_piece 118 = .ok (.iconst 0, 1) := by decide +kernel
theorem dX5_piece_119 : decode cX5_piece 119 = .ok (.ireturn, 1) := by decide +kernel
theorem dX5_number_0 : decode cX5_number 0 = .ok (.aload_n 0, 1) := by decide +kernel
theorem dX5_number_1 : decode cX5_number 1 = .ok (.getfield 28, 3) := by decide +kernel
theorem dX5_number_4 : decode cX5_number 4 = .ok (.aload_n 0, 1) := by decide +kernel
theorem dX5_number_5 : decode cX5_number 5 = .ok (.getfield 25, 3) := by decide +kernel
theorem dX5_number_8 : decode cX5_number 8 = .ok (.isub, 1) := by decide +kernel
theorem dX5_number_9 : decode cX5_number 9 = .ok (.iconst 4, 1) := by decide +kernel
theorem dX5_number_10 : decode cX5_number 10 = .ok (.if_icmp .le 5, 3) := by decide +kernel
theorem dX5_number_13 : decode cX5_number 13 = .ok (.iconst 0, 1) := by decide +kernel
theorem dX5_number_14 : decode cX5_number 14 = .ok (.ireturn, 1) := by decide +kernel
theorem dX5_number_15 : decode cX5_number 15 = .ok (.iconst 0, 1) := by decide +kernel
theorem dX5_number_16 : decode cX5_number 16 = .ok (.istore_n 2, 1) := by decide +kernel
theorem dX5_number_17 : decode cX5_number 17 = .ok (.aload_n 0, 1) := by decide +kernel
theorem dX5_number_18 : decode cX5_number 18 = .ok (.getfield 25, 3) := by decide +kernel
theorem dX5_number_21 : decode cX5_number 21 = .ok (.istore_n 3, 1) := by decide +kernel
theorem dX5_number_22 : decode cX5_number 22 = .ok (.iload_n 3, 1) := by decide +kernel
theorem dX5_number_23 : decode cX5_number 23 = .ok (.aload_n 0, 1) := by decide +kernel
theorem dX5_number_24 : decode cX5_number 24 = .ok (.getfield 28, 3) := by decide +kernel
theorem dX5_number_27 : decode cX5_number 27 = .ok (.if_icmp .ge 24, 3) := by decide +kernel
theorem dX5_number_30 : decode cX5_number 30 = .ok (.bipush 10, 2) := by decide +kernel
theorem dX5_number_32 : decode cX5_number 32 = .ok (.iload_n 2, 1) := by decide +kernel
theorem dX5_number_33 : decode cX5_number 33 = .ok (.imul, 1) := by decide +kernel
theorem dX5_number_34 : decode cX5_number 34 = .ok (.aload_n 0, 1) := by decide +kernel
theorem dX5_number_35 : decode cX5_number 35 = .ok (.getfield 15, 3) := by decide +kernel
theorem dX5_number_38 : decode cX5_number 38 = .ok (.iload_n 3, 1) := by decide +kernel
theorem dX5_number_39 : decode cX5_number 39 = .ok (.baload, 1) := by decide +kernel
theorem dX5_number_40 : decode cX5_number 40 = .ok (.iadd, 1) := by decide +kernel
theorem dX5_number_41 : decode cX5_number 41 = .ok (.bipush 48, 2) := by decide +kernel
theorem dX5_number_43 : decode cX5_number 43 = .ok (.isub, 1) := by decide +kernel
theorem dX5_number_44 : decode cX5_number 44 = .ok (.istore_n 2, 1) := by decide +kernel
theorem dX5_number_45 : decode cX5_number 45 = .ok (.iinc 3 1, 3) := by decide +kernel
theorem dX5_number_48 : decode cX5_number 48 = .ok (.goto (-26), 3) := by decide +kernel
theorem dX5_number_51 : decode cX5_number 51 = .ok (.aload_n 1, 1) := by decide +kernel
theorem dX5_number_52 : decode cX5_number 52 = .ok (.iload_n 2, 1) := by decide +kernel
theorem dX5_number_53 : decode cX5_number 53 = .ok (.invokevirtual 92, 3) := by decide +kernel
theorem dX5_number_56 : decode cX5_number 56 = .ok (.aload_n 0, 1) := by decide +kernel
theorem dX5_number_57 : decode cX5_number 57 = .ok (.invokevirtual 31, 3) := by decide +kernel
theorem dX5_number_60 : decode cX5_number 60 = .ok (.iconst 1, 1) := by decide +kernel
theorem dX5_number_61 : decode cX5_number 61 = .ok (.ireturn, 1) := by decide +kernel
theorem dX5_name_0 : decode cX5_name 0 = .ok (.aload_n 0, 1) := by decide +kernel
theorem dX5_name_1 : decode cX5_name 1 = .ok (.getfield 28, 3) := by decide +kernel
theorem dX5_name_4 : decode cX5_name 4 = .ok (.aload_n 0, 1) := by decide +kernel
theorem dX5_name_5 : decode cX5_name 5 = .ok (.getfield 25, 3) := by decide +kernel
theorem dX5_name_8 : decode cX5_name 8 = .ok (.isub, 1) := by decide +kernel
theorem dX5_name_9 : decode cX5_name 9 = .ok (.iconst 1, 1) := by decide +kernel
theorem dX5_name_10 : decode cX5_name 10 = .ok (.if_icmp .ne 20, 3) := by decide +kernel
theorem dX5_name_13 : decode cX5_name 13 = .ok (.aload_n 1, 1) := by decide +kernel
theorem dX5_name_14 : decode cX5_name 14 = .ok (.aload_n 0, 1) := by decide +kernel
theorem dX5_name_15 : decode cX5_name 15 = .ok (.getfield 15, 3) := by decide +kernel
theorem dX5_name_18 : decode cX5_name 18 = .ok (.aload_n 0, 1) := by decide +kernel
theorem dX5_name_19 : decode cX5_name 19 = .ok (.getfield 25, 3) := by decide +kernel
theorem dX5_name_22 : decode cX5_name 22 = .ok (.baload, 1) := by decide +kernel
theorem dX5_name_23 : decode cX5_name 23 = .ok (.i2c, 1) := by decide +kernel
theorem dX5_name_24 : decode cX5_name 24 = .ok (.invokevirtual 95, 3) := by decide +kernel
theorem dX5_name_27 : decode cX5_name 27 = .ok (.ifCond .ne 5, 3) := by decide +kernel
theorem dX5_name_30 : decode cX5_name 30 = .ok (.iconst 0, 1) := by decide +kernel
theorem dX5_name_31 : decode cX5_name 31 = .ok (.ireturn, 1) := by decide +kernel
theorem dX5_name_32 : decode cX5_name 32 = .ok (.aload_n 0, 1) := by decide +kernel
theorem dX5_name_33 : decode cX5_name 33 = .ok (.invokevirtual 31, 3) := by decide +kernel
theorem dX5_name_36 : decode cX5_name 36 = .ok (.iconst 1, 1) := by decide +kernel
theorem dX5_name_37 : decode cX5_name 37 = .ok (.ireturn, 1) := by decide +kernel
theorem dX5_isSign_0 : decode cX5_isSign 0 = .ok (.aload_n 0, 1) := by decide +kernel
theorem dX5_isSign_1 : decode cX5_isSign 1 = .ok (.getfield 22, 3) := by decide +kernel
theorem dX5_isSign_4 : decode cX5_isSign 4 = .ok (.iconst 3, 1) := by decide +kernel
theorem dX5_isSign_5 : decode cX5_isSign 5 = .ok (.if_icmp .ne 15, 3) := by decide +kernel
theorem dX5_isSign_8 : decode cX5_isSign 8 = .ok (.aload_n 0, 1) := by decide +kernel
theorem dX5_isSign_9 : decode cX5_isSign 9 = .ok (.invokevirtual 71, 3) := by decide +kernel
theorem dX5_isSign_12 : decode cX5_isSign 12 = .ok (.iload_n 1, 1) := by decide +kernel
theorem dX5_isSign_13 : decode cX5_isSign 13 = .ok (.if_icmp .ne 7, 3) := by decide +kernel
theorem dX5_isSign_16 : decode cX5_isSign 16 = .ok (.iconst 1, 1) := by decide +kernel
theorem dX5_isSign_17 : decode cX5_isSign 17 = .ok (.goto 4, 3) := by decide +kernel
theorem dX5_isSign_20 : decode cX5_isSign 20 = .ok (.iconst 0, 1) := by decide +kernel
theorem dX5_isSign_21 : decode cX5_isSign 21 = .ok (.ireturn, 1) := by decide +kernel
theorem dX5_sign_0 : decode cX5_sign 0 = .ok (.aload_n 0, 1) := by decide +kernel
theorem dX5_sign_1 : decode cX5_sign 1 = .ok (.getfield 25, 3) := by decide +kernel
theorem dX5_sign_4 : decode cX5_sign 4 = .ok (.aload_n 0, 1) := by decide +kernel
theorem dX5_sign_5 : decode cX5_sign 5 = .ok (.getfield 19, 3) := by decide +kernel
theorem dX5_sign_8 : decode cX5_sign 8 = .ok (.if_icmp .ge 15, 3) := by decide +kernel
theorem dX5_sign_11 : decode cX5_sign 11 = .ok (.aload_n 0, 1) := by decide +kernel
theorem dX5_sign_12 : decode cX5_sign 12 = .ok (.getfield 15, 3) := by decide +kernel
theorem dX5_sign_15 : decode cX5_sign 15 = .ok (.aload_n 0, 1) := by decide +kernel
theorem dX5_sign_16 : decode cX5_sign 16 = .ok (.getfield 25, 3) := by decide +kernel
theorem dX5_sign_19 : decode cX5_sign 19 = .ok (.baload, 1) := by decide +kernel
theorem dX5_sign_20 : decode cX5_sign 20 = .ok (.goto 4, 3) := by decide +kernel
theorem dX5_sign_23 : decode cX5_sign 23 = .ok (.iconst 0, 1) := by decide +kernel
theorem dX5_sign_24 : decode cX5_sign 24 = .ok (.ireturn, 1) := by decide +kernel
theorem dX5_step_0 : decode cX5_step 0 = .ok (.aload_n 0, 1) := by decide +kernel
theorem dX5_step_1 : decode cX5_step 1 = .ok (.getfield 28, 3) := by decide +kernel
theorem dX5_step_4 : decode cX5_step 4 = .ok (.aload_n 0, 1) := by decide +kernel
theorem dX5_step_5 : decode cX5_step 5 = .ok (.getfield 19, 3) := by decide +kernel
theorem dX5_step_8 : decode cX5_step 8 = .ok (.if_icmp .ge 30, 3) := by decide +kernel
theorem dX5_step_11 : decode cX5_step 11 = .ok (.aload_n 0, 1) := by decide +kernel
theorem dX5_step_12 : decode cX5_step 12 = .ok (.getfield 15, 3) := by decide +kernel
theorem dX5_step_15 : decode cX5_step 15 = .ok (.aload_n 0, 1) := by decide +kernel
theorem dX5_step_16 : decode cX5_step 16 = .ok (.getfield 28, 3) := by decide +kernel
theorem dX5_step_19 : decode cX5_step 19 = .ok (.baload, 1) := by decide +kernel
theorem dX5_step_20 : decode cX5_step 20 = .ok (.bipush 32, 2) := by decide +kernel
theorem dX5_step_22 : decode cX5_step 22 = .ok (.if_icmp .ne 16, 3) := by decide +kernel
theorem dX5_step_25 : decode cX5_step 25 = .ok (.aload_n 0, 1) := by decide +kernel
theorem dX5_step_26 : decode cX5_step 26 = .ok (.dup, 1) := by decide +kernel
theorem dX5_step_27 : decode cX5_step 27 = .ok (.getfield 28, 3) := by decide +kernel
theorem dX5_step_30 : decode cX5_step 30 = .ok (.iconst 1, 1) := by decide +kernel
theorem dX5_step_31 : decode cX5_step 31 = .ok (.iadd, 1) := by decide +kernel
theorem dX5_step_32 : decode cX5_step 32 = .ok (.putfield 28, 3) := by decide +kernel
theorem dX5_step_35 : decode cX5_step 35 = .ok (.goto (-35), 3) := by decide +kernel
theorem dX5_step_38 : decode cX5_step 38 = .ok (.aload_n 0, 1) := by decide +kernel
theorem dX5_step_39 : decode cX5_step 39 = .ok (.aload_n 0, 1) := by decide +kernel
theorem dX5_step_40 : decode cX5_step 40 = .ok (.getfield 28, 3) := by decide +kernel
theorem dX5_step_43 : decode cX5_step 43 = .ok (.putfield 25, 3) := by decide +kernel
theorem dX5_step_46 : decode cX5_step 46 = .ok (.aload_n 0, 1) := by decide +kernel
theorem dX5_step_47 : decode cX5_step 47 = .ok (.getfield 28, 3) := by decide +kernel
theorem dX5_step_50 : decode cX5_step 50 = .ok (.aload_n 0, 1) := by decide +kernel
theorem dX5_step_51 : decode cX5_step 51 = .ok (.getfield 19, 3) := by decide +kernel
theorem dX5_step_54 : decode cX5_step 54 = .ok (.if_icmp .lt 9, 3) := by decide +kernel
theorem dX5_step_57 : decode cX5_step 57 = .ok (.aload_n 0, 1) := by decide +kernel
theorem dX5_step_58 : decode cX5_step 58 = .ok (.iconst 0, 1) := by decide +kernel
theorem dX5_step_59 : decode cX5_step 59 = .ok (.putfield 22, 3) := by decide +kernel
theorem dX5_step_62 : decode cX5_step 62 = .ok (.return_, 1) := by decide +kernel
theorem dX5_step_63 : decode cX5_step 63 = .ok (.aload_n 0, 1) := by decide +kernel
theorem dX5_step_64 : decode cX5_step 64 = .ok (.getfield 15, 3) := by decide +kernel
theorem dX5_step_67 : decode cX5_step 67 = .ok (.aload_n 0, 1) := by decide +kernel
theorem dX5_step_68 : decode cX5_step 68 = .ok (.getfield 28, 3) := by decide +kernel
theorem dX5_step_71 : decode cX5_step 71 = .ok (.baload, 1) := by decide +kernel
theorem dX5_step_72 : decode cX5_step 72 = .ok (.invokestatic 99, 3) := by decide +kernel
theorem dX5_step_75 : decode cX5_step 75 = .ok (.ifCond .eq 47, 3) := by decide +kernel
theorem dX5_step_78 : decode cX5_step 78 = .ok (.aload_n 0, 1) := by decide +kernel
theorem dX5_step_79 : decode cX5_step 79 = .ok (.iconst 1, 1) := by decide +kernel
theorem dX5_step_80 : decode cX5_step 80 = .ok (.putfield 22, 3) := by decide +kernel
theorem dX5_step_83 : decode cX5_step 83 = .ok (.aload_n 0, 1) := by decide +kernel
theorem dX5_step_84 : decode cX5_step 84 = .ok (.getfield 28, 3) := by decide +kernel
theorem dX5_step_87 : decode cX5_step 87 = .ok (.aload_n 0, 1) := by decide +kernel
theorem dX5_step_88 : decode cX5_step 88 = .ok (.getfield 19, 3) := by decide +kernel
theorem dX5_step_91 : decode cX5_step 91 = .ok (.if_icmp .ge 105, 3) := by decide +kernel
theorem dX5_step_94 : decode cX5_step 94 = .ok (.aload_n 0, 1) := by decide +kernel
theorem dX5_step_95 : decode cX5_step 95 = .ok (.getfield 15, 3) := by decide +kernel
theorem dX5_step_98 : decode cX5_step 98 = .ok (.aload_n 0, 1) := by decide +kernel
theorem dX5_step_99 : decode cX5_step 99 = .ok (.getfield 28, 3) := by decide +kernel
theorem dX5_step_102 : decode cX5_step 102 = .ok (.baload, 1) := by decide +kernel
theorem dX5_step_103 : decode cX5_step 103 = .ok (.invokestatic 99, 3) := by decide +kernel
theorem dX5_step_106 : decode cX5_step 106 = .ok (.ifCond .eq 90, 3) := by decide +kernel
theorem dX5_step_109 : decode cX5_step 109 = .ok (.aload_n 0, 1) := by decide +kernel
theorem dX5_step_110 : decode cX5_step 110 = .ok (.dup, 1) := by decide +kernel
theorem dX5_step_111 : decode cX5_step 111 = .ok (.getfield 28, 3) := by decide +kernel
theorem dX5_step_114 : decode cX5_step 114 = .ok (.iconst 1, 1) := by decide +kernel
theorem dX5_step_115 : decode cX5_step 115 = .ok (.iadd, 1) := by decide +kernel
theorem dX5_step_116 : decode cX5_step 116 = .ok (.putfield 28, 3) := by decide +kernel
theorem dX5_step_119 : decode cX5_step 119 = .ok (.goto (-36), 3) := by decide +kernel
theorem dX5_step_122 : decode cX5_step 122 = .ok (.aload_n 0, 1) := by decide +kernel
theorem dX5_step_123 : decode cX5_step 123 = .ok (.getfield 15, 3) := by decide +kernel
theorem dX5_step_126 : decode cX5_step 126 = .ok (.aload_n 0, 1) := by decide +kernel
theorem dX5_step_127 : decode cX5_step 127 = .ok (.getfield 28, 3) := by decide +kernel
theorem dX5_step_130 : decode cX5_step 130 = .ok (.baload, 1) := by decide +kernel
theorem dX5_step_131 : decode cX5_step 131 = .ok (.invokestatic 102, 3) := by decide +kernel
theorem dX5_step_134 : decode cX5_step 134 = .ok (.ifCond .eq 47, 3) := by decide +kernel
theorem dX5_step_137 : decode cX5_step 137 = .ok (.aload_n 0, 1) := by decide +kernel
theorem dX5_step_138 : decode cX5_step 138 = .ok (.iconst 2, 1) := by decide +kernel
theorem dX5_step_139 : decode cX5_step 139 = .ok (.putfield 22, 3) := by decide +kernel
theorem dX5_step_142 : decode cX5_step 142 = .ok (.aload_n 0, 1) := by decide +kernel
theorem dX5_step_143 : decode cX5_step 143 = .ok (.getfield 28, 3) := by decide +kernel
theorem dX5_step_146 : decode cX5_step 146 = .ok (.aload_n 0, 1) := by decide +kernel
theorem dX5_step_147 : decode cX5_step 147 = .ok (.getfield 19, 3) := by decide +kernel
theorem dX5_step_150 : decode cX5_step 150 = .ok (.if_icmp .ge 46, 3) := by decide +kernel
theorem dX5_step_153 : decode cX5_step 153 = .ok (.aload_n 0, 1) := by decide +kernel
theorem dX5_step_154 : decode cX5_step 154 = .ok (.getfield 15, 3) := by decide +kernel
theorem dX5_step_157 : decode cX5_step 157 = .ok (.aload_n 0, 1) := by decide +kernel
theorem dX5_step_158 : decode cX5_step 158 = .ok (.getfield 28, 3) := by decide +kernel
theorem dX5_step_161 : decode cX5_step 161 = .ok (.baload, 1) := by decide +kernel
theorem dX5_step_162 : decode cX5_step 162 = .ok (.invokestatic 102, 3) := by decide +kernel
theorem dX5_step_165 : decode cX5_step 165 = .ok (.ifCond .eq 31, 3) := by decide +kernel
theorem dX5_step_168 : decode cX5_step 168 = .ok (.aload_n 0, 1) := by decide +kernel
theorem dX5_step_169 : decode cX5_step 169 = .ok (.dup, 1) := by decide +kernel
theorem dX5_step_170 : decode cX5_step 170 = .ok (.getfield 28, 3) := by decide +kernel
theorem dX5_step_173 : decode cX5_step 173 = .ok (.iconst 1, 1) := by decide +kernel
theorem dX5_step_174 : decode cX5_step 174 = .ok (.iadd, 1) := by decide +kernel
theorem dX5_step_175 : decode cX5_step 175 = .ok (.putfield 28, 3) := by decide +kernel
theorem dX5_step_178 : decode cX5_step 178 = .ok (.goto (-36), 3) := by decide +kernel
theorem dX5_step_181 : decode cX5_step 181 = .ok (.aload_n 0, 1) := by decide +kernel
theorem dX5_step_182 : decode cX5_step 182 = .ok (.iconst 3, 1) := by decide +kernel
theorem dX5_step_183 : decode cX5_step 183 = .ok (.putfield 22, 3) := by decide +kernel
theorem dX5_step_186 : decode cX5_step 186 = .ok (.aload_n 0, 1) := by decide +kernel
theorem dX5_step_187 : decode cX5_step 187 = .ok (.dup, 1) := by decide +kernel
theorem dX5_step_188 : decode cX5_step 188 = .ok (.getfield 28, 3) := by decide +kernel
theorem dX5_step_191 : decode cX5_step 191 = .ok (.iconst 1, 1) := by decide +kernel
theorem dX5_step_192 : decode cX5_step 192 = .ok (.iadd, 1) := by decide +kernel
theorem dX5_step_193 : decode cX5_step 193 = .ok (.putfield 28, 3) := by decide +kernel
theorem dX5_step_196 : decode cX5_step 196 = .ok (.aload_n 0, 1) := by decide +kernel
theorem dX5_step_197 : decode cX5_step 197 = .ok (.getfield 22, 3) := by decide +kernel
theorem dX5_step_200 : decode cX5_step 200 = .ok (.iconst 3, 1) := by decide +kernel
theorem dX5_step_201 : decode cX5_step 201 = .ok (.if_icmp .eq 49, 3) := by decide +kernel
theorem dX5_step_204 : decode cX5_step 204 = .ok (.aload_n 0, 1) := by decide +kernel
theorem dX5_step_205 : decode cX5_step 205 = .ok (.getfield 25, 3) := by decide +kernel
theorem dX5_step_208 : decode cX5_step 208 = .ok (.ifCond .le 42, 3) := by decide +kernel
theorem dX5_step_211 : decode cX5_step 211 = .ok (.aload_n 0, 1) := by decide +kernel
theorem dX5_step_212 : decode cX5_step 212 = .ok (.getfield 15, 3) := by decide +kernel
theorem dX5_step_215 : decode cX5_step 215 = .ok (.aload_n 0, 1) := by decide +kernel
theorem dX5_step_216 : decode cX5_step 216 = .ok (.getfield 25, 3) := by decide +kernel
theorem dX5_step_219 : decode cX5_step 219 = .ok (.iconst 1, 1) := by decide +kernel
theorem dX5_step_220 : decode cX5_step 220 = .ok (.isub, 1) := by decide +kernel
theorem dX5_step_221 : decode cX5_step 221 = .ok (.baload, 1) := by decide +kernel
theorem dX5_step_222 : decode cX5_step 222 = .ok (.invokestatic 99, 3) := by decide +kernel
theorem dX5_step_225 : decode cX5_step 225 = .ok (.ifCond .ne 20, 3) := by decide +kernel
theorem dX5_step_228 : decode cX5_step 228 = .ok (.aload_n 0, 1) := by decide +kernel
theorem dX5_step_229 : decode cX5_step 229 = .ok (.getfield 15, 3) := by decide +kernel
theorem dX5_step_232 : decode cX5_step 232 = .ok (.aload_n 0, 1) := by decide +kernel
theorem dX5_step_233 : decode cX5_step 233 = .ok (.getfield 25, 3) := by decide +kernel
theorem dX5_step_236 : decode cX5_step 236 = .ok (.iconst 1, 1) := by decide +kernel
theorem dX5_step_237 : decode cX5_step 237 = .ok (.isub, 1) := by decide +kernel
theorem dX5_step_238 : decode cX5_step 238 = .ok (.baload, 1) := by decide +kernel
theorem dX5_step_239 : decode cX5_step 239 = .ok (.invokestatic 102, 3) := by decide +kernel
theorem dX5_step_242 : decode cX5_step 242 = .ok (.ifCond .eq 8, 3) := by decide +kernel
theorem dX5_step_245 : decode cX5_step 245 = .ok (.aload_n 0, 1) := by decide +kernel
theorem dX5_step_246 : decode cX5_step 246 = .ok (.iconst 4, 1) := by decide +kernel
theorem dX5_step_247 : decode cX5_step 247 = .ok (.putfield 22, 3) := by decide +kernel
theorem dX5_step_250 : decode cX5_step 250 = .ok (.return_, 1) := by decide +kernel
theorem dX5_isLetter_0 : decode cX5_isLetter 0 = .ok (.iload_n 0, 1) := by decide +kernel
theorem dX5_isLetter_1 : decode cX5_isLetter 1 = .ok (.bipush 97, 2) := by decide +kernel
theorem dX5_isLetter_3 : decode cX5_isLetter 3 = .ok (.if_icmp .lt 13, 3) := by decide +kernel
theorem dX5_isLetter_6 : decode cX5_isLetter 6 = .ok (.iload_n 0, 1) := by decide +kernel
theorem dX5_isLetter_7 : decode cX5_isLetter 7 = .ok (.bipush 122, 2) := by decide +kernel
theorem dX5_isLetter_9 : decode cX5_isLetter 9 = .ok (.if_icmp .gt 7, 3) := by decide +kernel
theorem dX5_isLetter_12 : decode cX5_isLetter 12 = .ok (.iconst 1, 1) := by decide +kernel
theorem dX5_isLetter_13 : decode cX5_isLetter 13 = .ok (.goto 4, 3) := by decide +kernel
theorem dX5_isLetter_16 : decode cX5_isLetter 16 = .ok (.iconst 0, 1) := by decide +kernel
theorem dX5_isLetter_17 : decode cX5_isLetter 17 = .ok (.ireturn, 1) := by decide +kernel
theorem dX5_isDigit_0 : decode cX5_isDigit 0 = .ok (.iload_n 0, 1) := by decide +kernel
theorem dX5_isDigit_1 : decode cX5_isDigit 1 = .ok (.bipush 48, 2) := by decide +kernel
theorem dX5_isDigit_3 : decode cX5_isDigit 3 = .ok (.if_icmp .lt 13, 3) := by decide +kernel
theorem dX5_isDigit_6 : decode cX5_isDigit 6 = .ok (.iload_n 0, 1) := by decide +kernel
theorem dX5_isDigit_7 : decode cX5_isDigit 7 = .ok (.bipush 57, 2) := by decide +kernel
theorem dX5_isDigit_9 : decode cX5_isDigit 9 = .ok (.if_icmp .gt 7, 3) := by decide +kernel
theorem dX5_isDigit_12 : decode cX5_isDigit 12 = .ok (.iconst 1, 1) := by decide +kernel
theorem dX5_isDigit_13 : decode cX5_isDigit 13 = .ok (.goto 4, 3) := by decide +kernel
theorem dX5_isDigit_16 : decode cX5_isDigit 16 = .ok (.iconst 0, 1) := by decide +kernel
theorem dX5_isDigit_17 : decode cX5_isDigit 17 = .ok (.ireturn, 1) := by decide +kernel
theorem dX6_init_0 : decode cX6_init 0 = .ok (.aload_n 0, 1) := by decide +kernel
theorem dX6_init_1 : decode cX6_init 1 = .ok (.invokespecial 3, 3) := by decide +kernel
theorem dX6_init_4 : decode cX6_init 4 = .ok (.aload_n 0, 1) := by decide +kernel
theorem dX6_init_5 : decode cX6_init 5 = .ok (.iconst 0, 1) := by decide +kernel
theorem dX6_init_6 : decode cX6_init 6 = .ok (.putfield 9, 3) := by decide +kernel
theorem dX6_init_9 : decode cX6_init 9 = .ok (.aload_n 0, 1) := by decide +kernel
theorem dX6_init_10 : decode cX6_init 10 = .ok (.iconst 0, 1) := by decide +kernel
theorem dX6_init_11 : decode cX6_init 11 = .ok (.putfield 15, 3) := by decide +kernel
theorem dX6_init_14 : decode cX6_init 14 = .ok (.aload_n 0, 1) := by decide +kernel
theorem dX6_init_15 : decode cX6_init 15 = .ok (.iconst 0, 1) := by decide +kernel
theorem dX6_init_16 : decode cX6_init 16 = .ok (.putfield 18, 3) := by decide +kernel
theorem dX6_init_19 : decode cX6_init 19 = .ok (.aload_n 0, 1) := by decide +kernel
theorem dX6_init_20 : decode cX6_init 20 = .ok (.bipush 96, 2) := by decide +kernel
theorem dX6_init_22 : decode cX6_init 22 = .ok (.newarray .int, 2) := by decide +kernel
theorem dX6_init_24 : decode cX6_init 24 = .ok (.putfield 21, 3) := by decide +kernel
theorem dX6_init_27 : decode cX6_init 27 = .ok (.aload_n 0, 1) := by decide +kernel
theorem dX6_init_28 : decode cX6_init 28 = .ok (.iload_n 1, 1) := by decide +kernel
theorem dX6_init_29 : decode cX6_init 29 = .ok (.putfield 25, 3) := by decide +kernel
theorem dX6_init_32 : decode cX6_init 32 = .ok (.aload_n 0, 1) := by decide +kernel
theorem dX6_init_33 : decode cX6_init 33 = .ok (.aload_n 2, 1) := by decide +kernel
theorem dX6_init_34 : decode cX6_init 34 = .ok (.putfield 28, 3) := by decide +kernel
theorem dX6_init_37 : decode cX6_init 37 = .ok (.return_, 1) := by decide +kernel
theorem dX6_begin_0 : decode cX6_begin 0 = .ok (.aload_n 0, 1) := by decide +kernel
theorem dX6_begin_1 : decode cX6_begin 1 = .ok (.iload_n 1, 1) := by decide +kernel
theorem dX6_begin_2 : decode cX6_begin 2 = .ok (.putfield 9, 3) := by decide +kernel
theorem dX6_begin_5 : decode cX6_begin 5 = .ok (.aload_n 0, 1) := by decide +kernel
theorem dX6_begin_6 : decode cX6_begin 6 = .ok (.iconst 0, 1) := by decide +kernel
theorem dX6_begin_7 : decode cX6_begin 7 = .ok (.putfield 15, 3) := by decide +kernel
theorem dX6_begin_10 : decode cX6_begin 10 = .ok (.aload_n 0, 1) := by decide +kernel
theorem dX6_begin_11 : decode cX6_begin 11 = .ok (.iconst 0, 1) := by decide +kernel
theorem dX6_begin_12 : decode cX6_begin 12 = .ok (.putfield 18, 3) := by decide +kernel
theorem dX6_begin_15 : decode cX6_begin 15 = .ok (.return_, 1) := by decide +kernel
theorem dX6_addNumber_0 : decode cX6_addNumber 0 = .ok (.aload_n 0, 1) := by decide +kernel
theorem dX6_addNumber_1 : decode cX6_addNumber 1 = .ok (.iload_n 1, 1) := by decide +kernel
theorem dX6_addNumber_2 : decode cX6_addNumber 2 = .ok (.invokevirtual 31, 3) := by decide +kernel
theorem dX6_addNumber_5 : decode cX6_addNumber 5 = .ok (.aload_n 0, 1) := by decide +kernel
theorem dX6_addNumber_6 : decode cX6_addNumber 6 = .ok (.dup, 1) := by decide +kernel
theorem dX6_addNumber_7 : decode cX6_addNumber 7 = .ok (.getfield 15, 3) := by decide +kernel
theorem dX6_addNumber_10 : decode cX6_addNumber 10 = .ok (.iconst 1, 1) := by decide +kernel
theorem dX6_addNumber_11 : decode cX6_addNumber 11 = .ok (.iadd, 1) := by decide +kernel
theorem dX6_addNumber_12 : decode cX6_addNumber 12 = .ok (.putfield 15, 3) := by decide +kernel
theorem dX6_addNumber_15 : decode cX6_addNumber 15 = .ok (.return_, 1) := by decide +kernel
theorem dX6_addName_0 : decode cX6_addName 0 = .ok (.aload_n 0, 1) := by decide +kernel
theorem dX6_addName_1 : decode cX6_addName 1 = .ok (.getfield 9, 3) := by decide +kernel
theorem dX6_addName_4 : decode cX6_addName 4 = .ok (.invokestatic 35, 3) := by decide +kernel
theorem dX6_addName_7 : decode cX6_addName 7 = .ok (.iload_n 1, 1) := by decide +kernel
theorem dX6_addName_8 : decode cX6_addName 8 = .ok (.invokevirtual 39, 3) := by decide +kernel
theorem dX6_addName_11 : decode cX6_addName 11 = .ok (.istore_n 2, 1) := by decide +kernel
theorem dX6_addName_12 : decode cX6_addName 12 = .ok (.iload_n 2, 1) := by decide +kernel
theorem dX6_addName_13 : decode cX6_addName 13 = .ok (.ifCond .ge 5, 3) := by decide +kernel
theorem dX6_addName_16 : decode cX6_addName 16 = .ok (.iconst 0, 1) := by decide +kernel
theorem dX6_addName_17 : decode cX6_addName 17 = .ok (.ireturn, 1) := by decide +kernel
theorem dX6_addName_18 : decode cX6_addName 18 = .ok (.aload_n 0, 1) := by decide +kernel
theorem dX6_addName_19 : decode cX6_addName 19 = .ok (.iconst (-1), 1) := by decide +kernel
theorem dX6_addName_20 : decode cX6_addName 20 = .ok (.iload_n 2, 1) := by decide +kernel
theorem dX6_addName_21 : decode cX6_addName 21 = .ok (.isub, 1) := by decide +kernel
theorem dX6_addName_22 : decode cX6_addName 22 = .ok (.invokevirtual 31, 3) := by decide +kernel
theorem dX6_addName_25 : decode cX6_addName 25 = .ok (.aload_n 0, 1) := by decide +kernel
theorem dX6_addName_26 : decode cX6_addName 26 = .ok (.dup, 1) := by decide +kernel
theorem dX6_addName_27 : decode cX6_addName 27 = .ok (.getfield 15, 3) := by decide +kernel
theorem dX6_addName_30 : decode cX6_addName 30 = .ok (.iconst 1, 1) := by decide +kernel
theorem dX6_addName_31 : decode cX6_addName 31 = .ok (.iadd, 1) := by decide +kernel
theorem dX6_addName_32 : decode cX6_addName 32 = .ok (.putfield 15, 3) := by decide +kernel
theorem dX6_addName_35 : decode cX6_addName 35 = .ok (.iconst 1, 1) := by decide +kernel
theorem dX6_addName_36 : decode cX6_addName 36 = .ok (.ireturn, 1) := by decide +kernel
theorem dX6_addSign_0 : decode cX6_addSign 0 = .ok (.aload_n 0, 1) := by decide +kernel
theorem dX6_addSign_1 : decode cX6_addSign 1 = .ok (.sipush 10000, 3) := by decide +kernel
theorem dX6_addSign_4 : decode cX6_addSign 4 = .ok (.iload_n 1, 1) := by decide +kernel
theorem dX6_addSign_5 : decode cX6_addSign 5 = .ok (.iadd, 1) := by decide +kernel
theorem dX6_addSign_6 : decode cX6_addSign 6 = .ok (.invokevirtual 31, 3) := by decide +kernel
theorem dX6_addSign_9 : decode cX6_addSign 9 = .ok (.return_, 1) := by decide +kernel
theorem dX6_addItem_0 : decode cX6_addItem 0 = .ok (.aload_n 0, 1) := by decide +kernel
theorem dX6_addItem_1 : decode cX6_addItem 1 = .ok (.getfield 18, 3) := by decide +kernel
theorem dX6_addItem_4 : decode cX6_addItem 4 = .ok (.aload_n 0, 1) := by decide +kernel
theorem dX6_addItem_5 : decode cX6_addItem 5 = .ok (.getfield 21, 3) := by decide +kernel
theorem dX6_addItem_8 : decode cX6_addItem 8 = .ok (.arraylength, 1) := by decide +kernel
theorem dX6_addItem_9 : decode cX6_addItem 9 = .ok (.if_icmp .ge 23, 3) := by decide +kernel
theorem dX6_addItem_12 : decode cX6_addItem 12 = .ok (.aload_n 0, 1) := by decide +kernel
theorem dX6_addItem_13 : decode cX6_addItem 13 = .ok (.getfield 21, 3) := by decide +kernel
theorem dX6_addItem_16 : decode cX6_addItem 16 = .ok (.aload_n 0, 1) := by decide +kernel
theorem dX6_addItem_17 : decode cX6_addItem 17 = .ok (.getfield 18, 3) := by decide +kernel
theorem dX6_addItem_20 : decode cX6_addItem 20 = .ok (.iload_n 1, 1) := by decide +kernel
theorem dX6_addItem_21 : decode cX6_addItem 21 = .ok (.iastore, 1) := by decide +kernel
theorem dX6_addItem_22 : decode cX6_addItem 22 = .ok (.aload_n 0, 1) := by decide +kernel
theorem dX6_addItem_23 : decode cX6_addItem 23 = .ok (.dup, 1) := by decide +kernel
theorem dX6_addItem_24 : decode cX6_addItem 24 = .ok (.getfield 18, 3) := by decide +kernel
theorem dX6_addItem_27 : decode cX6_addItem 27 = .ok (.iconst 1, 1) := by decide +kernel
theorem dX6_addItem_28 : decode cX6_addItem 28 = .ok (.iadd, 1) := by decide +kernel
theorem dX6_addItem_29 : decode cX6_addItem 29 = .ok (.putfield 18, 3) := by decide +kernel
theorem dX6_addItem_32 : decode cX6_addItem 32 = .ok (.return_, 1) := by decide +kernel
theorem dX6_namesOf_0 : decode cX6_namesOf 0 = .ok (.iload_n 0, 1) := by decide +kernel
theorem dX6_namesOf_1 : decode cX6_namesOf 1 = .ok (.lookupswitch 33 #[(0, 27), (1, 30)], 27) := by decide +kernel
theorem dX6_namesOf_28 : decode cX6_namesOf 28 = .ok (.ldc 45, 2) := by decide +kernel
theorem dX6_namesOf_30 : decode cX6_namesOf 30 = .ok (.areturn, 1) := by decide +kernel
theorem dX6_namesOf_31 : decode cX6_namesOf 31 = .ok (.ldc 47, 2) := by decide +kernel
theorem dX6_namesOf_33 : decode cX6_namesOf 33 = .ok (.areturn, 1) := by decide +kernel
theorem dX6_namesOf_34 : decode cX6_namesOf 34 = .ok (.ldc 49, 2) := by decide +kernel
theorem dX6_namesOf_36 : decode cX6_namesOf 36 = .ok (.areturn, 1) := by decide +kernel
theorem dX6_value_0 : decode cX6_value 0 = .ok (.iconst 0, 1) := by decide +kernel
theorem dX6_value_1 : decode cX6_value 1 = .ok (.istore 4, 2) := by decide +kernel
theorem dX6_value_3 : decode cX6_value 3 = .ok (.iconst 0, 1) := by decide +kernel
theorem dX6_value_4 : decode cX6_value 4 = .ok (.istore 5, 2) := by decide +kernel
theorem dX6_value_6 : decode cX6_value 6 = .ok (.iload 5, 2) := by decide +kernel
theorem dX6_value_8 : decode cX6_value 8 = .ok (.aload_n 0, 1) := by decide +kernel
theorem dX6_value_9 : decode cX6_value 9 = .ok (.getfield 18, 3) := by decide +kernel
theorem dX6_value_12 : decode cX6_value 12 = .ok (.if_icmp .ge 169, 3) := by decide +kernel
theorem dX6_value_15 : decode cX6_value 15 = .ok (.aload_n 0, 1) := by decide +kernel
theorem dX6_value_16 : decode cX6_value 16 = .ok (.getfield 21, 3) := by decide +kernel
theorem dX6_value_19 : decode cX6_value 19 = .ok (.iload 5, 2) := by decide +kernel
theorem dX6_value_21 : decode cX6_value 21 = .ok (.iaload, 1) := by decide +kernel
theorem dX6_value_22 : decode cX6_value 22 = .ok (.istore 6, 2) := by decide +kernel
theorem dX6_value_24 : decode cX6_value 24 = .ok (.iload 6, 2) := by decide +kernel
theorem dX6_value_26 : decode cX6_value 26 = .ok (.sipush 10033, 3) := by decide +kernel
theorem dX6_value_29 : decode cX6_value 29 = .ok (.if_icmp .ne 38, 3) := by decide +kernel
theorem dX6_value_32 : decode cX6_value 32 = .ok (.iload 4, 2) := by decide +kernel
theorem dX6_value_34 : decode cX6_value 34 = .ok (.iconst 1, 1) := by decide +kernel
theorem dX6_value_35 : decode cX6_value 35 = .ok (.if_icmp .lt 140, 3) := by decide +kernel
theorem dX6_value_38 : decode cX6_value 38 = .ok (.aload_n 0, 1) := by decide +kernel
theorem dX6_value_39 : decode cX6_value 39 = .ok (.getfield 28, 3) := by decide +kernel
theorem dX6_value_42 : decode cX6_value 42 = .ok (.iload 4, 2) := by decide +kernel
theorem dX6_value_44 : decode cX6_value 44 = .ok (.iconst 1, 1) := by decide +kernel
theorem dX6_value_45 : decode cX6_value 45 = .ok (.isub, 1) := by decide +kernel
theorem dX6_value_46 : decode cX6_value 46 = .ok (.aload_n 0, 1) := by decide +kernel
theorem dX6_value_47 : decode cX6_value 47 = .ok (.getfield 28, 3) := by decide +kernel
theorem dX6_value_50 : decode cX6_value 50 = .ok (.iload 4, 2) := by decide +kernel
theorem dX6_value_52 : decode cX6_value 52 = .ok (.iconst 1, 1) := by decide +kernel
theorem dX6_value_53 : decode cX6_value 53 = .ok (.isub, 1) := by decide +kernel
theorem dX6_value_54 : decode cX6_value 54 = .ok (.iaload, 1) := by decide +kernel
theorem dX6_value_55 : decode cX6_value 55 = .ok (.ifCond .ne 7, 3) := by decide +kernel
theorem dX6_value_58 : decode cX6_value 58 = .ok (.iconst 1, 1) := by decide +kernel
theorem dX6_value_59 : decode cX6_value 59 = .ok (.goto 4, 3) := by decide +kernel
theorem dX6_value_62 : decode cX6_value 62 = .ok (.iconst 0, 1) := by decide +kernel
theorem dX6_value_63 : decode cX6_value 63 = .ok (.iastore, 1) := by decide +kernel
theorem dX6_value_64 : decode cX6_value 64 = .ok (.goto 111, 3) := by decide +kernel
theorem dX6_value_67 : decode cX6_value 67 = .ok (.iload 6, 2) := by decide +kernel
theorem dX6_value_69 : decode cX6_value 69 = .ok (.sipush 10000, 3) := by decide +kernel
theorem dX6_value_72 : decode cX6_value 72 = .ok (.if_icmp .lt 51, 3) := by decide +kernel
theorem dX6_value_75 : decode cX6_value 75 = .ok (.iload 4, 2) := by decide +kernel
theorem dX6_value_77 : decode cX6_value 77 = .ok (.iconst 2, 1) := by decide +kernel
theorem dX6_value_78 : decode cX6_value 78 = .ok (.if_icmp .lt 97, 3) := by decide +kernel
theorem dX6_value_81 : decode cX6_value 81 = .ok (.aload_n 0, 1) := by decide +kernel
theorem dX6_value_82 : decode cX6_value 82 = .ok (.getfield 28, 3) := by decide +kernel
theorem dX6_value_85 : decode cX6_value 85 = .ok (.iload 4, 2) := by decide +kernel
theorem dX6_value_87 : decode cX6_value 87 = .ok (.iconst 2, 1) := by decide +kernel
theorem dX6_value_88 : decode cX6_value 88 = .ok (.isub, 1) := by decide +kernel
theorem dX6_value_89 : decode cX6_value 89 = .ok (.iload 6, 2) := by decide +kernel
theorem dX6_value_91 : decode cX6_value 91 = .ok (.sipush 10000, 3) := by decide +kernel
theorem dX6_value_94 : decode cX6_value 94 = .ok (.isub, 1) := by decide +kernel
theorem dX6_value_95 : decode cX6_value 95 = .ok (.aload_n 0, 1) := by decide +kernel
theorem dX6_value_96 : decode cX6_value 96 = .ok (.getfield 28, 3) := by decide +kernel
theorem dX6_value_99 : decode cX6_value 99 = .ok (.iload 4, 2) := by decide +kernel
theorem dX6_value_101 : decode cX6_value 101 = .ok (.iconst 2, 1) := by decide +kernel
theorem dX6_value_102 : decode cX6_value 102 = .ok (.isub, 1) := by decide +kernel
theorem dX6_value_103 : decode cX6_value 103 = .ok (.iaload, 1) := by decide +kernel
theorem dX6_value_104 : decode cX6_value 104 = .ok (.aload_n 0, 1) := by decide +kernel
theorem dX6_value_105 : decode cX6_value 105 = .ok (.getfield 28, 3) := by decide +kernel
theorem dX6_value_108 : decode cX6_value 108 = .ok (.iload 4, 2) := by decide +kernel
theorem dX6_value_110 : decode cX6_value 110 = .ok (.iconst 1, 1) := by decide +kernel
theorem dX6_value_111 : decode cX6_value 111 = .ok (.isub, 1) := by decide +kernel
theorem dX6_value_112 : decode cX6_value 112 = .ok (.iaload, 1) := by decide +kernel
theorem dX6_value_113 : decode cX6_value 113 = .ok (.invokestatic 51, 3) := by decide +kernel
theorem dX6_value_116 : decode cX6_value 116 = .ok (.iastore, 1) := by decide +kernel
theorem dX6_value_117 : decode cX6_value 117 = .ok (.iinc 4 (-1), 3) := by decide +kernel
theorem dX6_value_120 : decode cX6_value 120 = .ok (.goto 55, 3) := by decide +kernel
theorem dX6_value_123 : decode cX6_value 123 = .ok (.iload 4, 2) := by decide +kernel
theorem dX6_value_125 : decode cX6_value 125 = .ok (.aload_n 0, 1) := by decide +kernel
theorem dX6_value_126 : decode cX6_value 126 = .ok (.getfield 28, 3) := by decide +kernel
theorem dX6_value_129 : decode cX6_value 129 = .ok (.arraylength, 1) := by decide +kernel
theorem dX6_value_130 : decode cX6_value 130 = .ok (.if_icmp .ge 45, 3) := by decide +kernel
theorem dX6_value_133 : decode cX6_value 133 = .ok (.aload_n 0, 1) := by decide +kernel
theorem dX6_value_134 : decode cX6_value 134 = .ok (.getfield 28, 3) := by decide +kernel
theorem dX6_value_137 : decode cX6_value 137 = .ok (.iload 4, 2) := by decide +kernel
theorem dX6_value_139 : decode cX6_value 139 = .ok (.iload 6, 2) := by decide +kernel
theorem dX6_value_141 : decode cX6_value 141 = .ok (.ifCond .lt 8, 3) := by decide +kernel
theorem dX6_value_144 : decode cX6_value 144 = .ok (.iload 6, 2) := by decide +kernel
theorem dX6_value_146 : decode cX6_value 146 = .ok (.goto 25, 3) := by decide +kernel
theorem dX6_value_149 : decode cX6_value 149 = .ok (.iload 6, 2) := by decide +kernel
theorem dX6_value_151 : decode cX6_value 151 = .ok (.iconst (-1), 1) := by decide +kernel
theorem dX6_value_152 : decode cX6_value 152 = .ok (.if_icmp .ne 7, 3) := by decide +kernel
theorem dX6_value_155 : decode cX6_value 155 = .ok (.iload_n 1, 1) := by decide +kernel
theorem dX6_value_156 : decode cX6_value 156 = .ok (.goto 15, 3) := by decide +kernel
theorem dX6_value_159 : decode cX6_value 159 = .ok (.iload 6, 2) := by decide +kernel
theorem dX6_value_161 : decode cX6_value 161 = .ok (.bipush (-2), 2) := by decide +kernel
theorem dX6_value_163 : decode cX6_value 163 = .ok (.if_icmp .ne 7, 3) := by decide +kernel
theorem dX6_value_166 : decode cX6_value 166 = .ok (.iload_n 2, 1) := by decide +kernel
theorem dX6_value_167 : decode cX6_value 167 = .ok (.goto 4, 3) := by decide +kernel
theorem dX6_value_170 : decode cX6_value 170 = .ok (.iload_n 3, 1) := by decide +kernel
theorem dX6_value_171 : decode cX6_value 171 = .ok (.iastore, 1) := by decide +kernel
theorem dX6_value_172 : decode cX6_value 172 = .ok (.iinc 4 1, 3) := by decide +kernel
theorem dX6_value_175 : decode cX6_value 175 = .ok (.iinc 5 1, 3) := by decide +kernel
theorem dX6_value_178 : decode cX6_value 178 = .ok (.goto (-172), 3) := by decide +kernel
theorem dX6_value_181 : decode cX6_value 181 = .ok (.iload 4, 2) := by decide +kernel
theorem dX6_value_183 : decode cX6_value 183 = .ok (.ifCond .le 12, 3) := by decide +kernel
theorem dX6_value_186 : decode cX6_value 186 = .ok (.aload_n 0, 1) := by decide +kernel
theorem dX6_value_187 : decode cX6_value 187 = .ok (.getfield 28, 3) := by decide +kernel
theorem dX6_value_190 : decode cX6_value 190 = .ok (.iconst 0, 1) := by decide +kernel
theorem dX6_value_191 : decode cX6_value 191 = .ok (.iaload, 1) := by decide +kernel
theorem dX6_value_192 : decode cX6_value 192 = .ok (.goto 4, 3) := by decide +kernel
theorem dX6_value_195 : decode cX6_value 195 = .ok (.iconst 0, 1) := by decide +kernel
theorem dX6_value_196 : decode cX6_value 196 = .ok (.ireturn, 1) := by decide +kernel
theorem dX6_joined_0 : decode cX6_joined 0 = .ok (.iload_n 0, 1) := by decide +kernel
theorem dX6_joined_1 : decode cX6_joined 1 = .ok (.lookupswitch 148 #[(38, 89), (42, 144), (43, 136), (45, 140), (60, 103), (61, 114), (62, 125), (124, 75)], 75) := by decide +kernel
theorem dX6_joined_76 : decode cX6_joined 76 = .ok (.iload_n 1, 1) := by decide +kernel
theorem dX6_joined_77 : decode cX6_joined 77 = .ok (.ifCond .ne 7, 3) := by decide +kernel
theorem dX6_joined_80 : decode cX6_joined 80 = .ok (.iload_n 2, 1) := by decide +kernel
theorem dX6_joined_81 : decode cX6_joined 81 = .ok (.ifCond .eq 7, 3) := by decide +kernel
theorem dX6_joined_84 : decode cX6_joined 84 = .ok (.iconst 1, 1) := by decide +kernel
theorem dX6_joined_85 : decode cX6_joined 85 = .ok (.goto 4, 3) := by decide +kernel
theorem dX6_joined_88 : decode cX6_joined 88 = .ok (.iconst 0, 1) := by decide +kernel
theorem dX6_joined_89 : decode cX6_joined 89 = .ok (.ireturn, 1) := by decide +kernel
theorem dX6_joined_90 : decode cX6_joined 90 = .ok (.iload_n 1, 1) := by decide +kernel
theorem dX6_joined_91 : decode cX6_joined 91 = .ok (.ifCond .eq 11, 3) := by decide +kernel
theorem dX6_joined_94 : decode cX6_joined 94 = .ok (.iload_n 2, 1) := by decide +kernel
theorem dX6_joined_95 : decode cX6_joined 95 = .ok (.ifCond .eq 7, 3) := by decide +kernel
theorem dX6_joined_98 : decode cX6_joined 98 = .ok (.iconst 1, 1) := by decide +kernel
theorem dX6_joined_99 : decode cX6_joined 99 = .ok (.goto 4, 3) := by decide +kernel
theorem dX6_joined_102 : decode cX6_joined 102 = .ok (.iconst 0, 1) := by decide +kernel
theorem dX6_joined_103 : decode cX6_joined 103 = .ok (.ireturn, 1) := by decide +kernel
theorem dX6_joined_104 : decode cX6_joined 104 = .ok (.iload_n 1, 1) := by decide +kernel
theorem dX6_joined_105 : decode cX6_joined 105 = .ok (.iload_n 2, 1) := by decide +kernel
theorem dX6_joined_106 : decode cX6_joined 106 = .ok (.if_icmp .ge 7, 3) := by decide +kernel
theorem dX6_joined_109 : decode cX6_joined 109 = .ok (.iconst 1, 1) := by decide +kernel
theorem dX6_joined_110 : decode cX6_joined 110 = .ok (.goto 4, 3) := by decide +kernel
theorem dX6_joined_113 : decode cX6_joined 113 = .ok (.iconst 0, 1) := by decide +kernel
theorem dX6_joined_114 : decode cX6_joined 114 = .ok (.ireturn, 1) := by decide +kernel
theorem dX6_joined_115 : decode cX6_joined 115 = .ok (.iload_n 1, 1) := by decide +kernel
theorem dX6_joined_116 : decode cX6_joined 116 = .ok (.iload_n 2, 1) := by decide +kernel
theorem dX6_joined_117 : decode cX6_joined 117 = .ok (.if_icmp .ne 7, 3) := by decide +kernel
theorem dX6_joined_120 : decode cX6_joined 120 = .ok (.iconst 1, 1) := by decide +kernel
theorem dX6_joined_121 : decode cX6_joined 121 = .ok (.goto 4, 3) := by decide +kernel
theorem dX6_joined_124 : decode cX6_joined 124 = .ok (.iconst 0, 1) := by decide +kernel
theorem dX6_joined_125 : decode cX6_joined 125 = .ok (.ireturn, 1) := by decide +kernel
theorem dX6_joined_126 : decode cX6_joined 126 = .ok (.iload_n 1, 1) := by decide +kernel
theorem dX6_joined_127 : decode cX6_joined 127 = .ok (.iload_n 2, 1) := by decide +kernel
theorem dX6_joined_128 : decode cX6_joined 128 = .ok (.if_icmp .le 7, 3) := by decide +kernel
theorem dX6_joined_131 : decode cX6_joined 131 = .ok (.iconst 1, 1) := by decide +kernel
theorem dX6_joined_132 : decode cX6_joined 132 = .ok (.goto 4, 3) := by decide +kernel
theorem dX6_joined_135 : decode cX6_joined 135 = .ok (.iconst 0, 1) := by decide +kernel
theorem dX6_joined_136 : decode cX6_joined 136 = .ok (.ireturn, 1) := by decide +kernel
theorem dX6_joined_137 : decode cX6_joined 137 = .ok (.iload_n 1, 1) := by decide +kernel
theorem dX6_joined_138 : decode cX6_joined 138 = .ok (.iload_n 2, 1) := by decide +kernel
theorem dX6_joined_139 : decode cX6_joined 139 = .ok (.iadd, 1) := by decide +kernel
theorem dX6_joined_140 : decode cX6_joined 140 = .ok (.ireturn, 1) := by decide +kernel
theorem dX6_joined_141 : decode cX6_joined 141 = .ok (.iload_n 1, 1) := by decide +kernel
theorem dX6_joined_142 : decode cX6_joined 142 = .ok (.iload_n 2, 1) := by decide +kernel
theorem dX6_joined_143 : decode cX6_joined 143 = .ok (.isub, 1) := by decide +kernel
theorem dX6_joined_144 : decode cX6_joined 144 = .ok (.ireturn, 1) := by decide +kernel
theorem dX6_joined_145 : decode cX6_joined 145 = .ok (.iload_n 1, 1) := by decide +kernel
theorem dX6_joined_146 : decode cX6_joined 146 = .ok (.iload_n 2, 1) := by decide +kernel
theorem dX6_joined_147 : decode cX6_joined 147 = .ok (.imul, 1) := by decide +kernel
theorem dX6_joined_148 : decode cX6_joined 148 = .ok (.ireturn, 1) := by decide +kernel
theorem dX6_joined_149 : decode cX6_joined 149 = .ok (.iload_n 2, 1) := by decide +kernel
theorem dX6_joined_150 : decode cX6_joined 150 = .ok (.ifCond .ne 7, 3) := by decide +kernel
theorem dX6_joined_153 : decode cX6_joined 153 = .ok (.iconst 0, 1) := by decide +kernel
theorem dX6_joined_154 : decode cX6_joined 154 = .ok (.goto 6, 3) := by decide +kernel
theorem dX6_joined_157 : decode cX6_joined 157 = .ok (.iload_n 1, 1) := by decide +kernel
theorem dX6_joined_158 : decode cX6_joined 158 = .ok (.iload_n 2, 1) := by decide +kernel
theorem dX6_joined_159 : decode cX6_joined 159 = .ok (.idiv, 1) := by decide +kernel
theorem dX6_joined_160 : decode cX6_joined 160 = .ok (.ireturn, 1) := by decide +kernel
theorem dX7_init_0 : decode cX7_init 0 = .ok (.aload_n 0, 1) := by decide +kernel
theorem dX7_init_1 : decode cX7_init 1 = .ok (.invokespecial 1, 3) := by decide +kernel
theorem dX7_init_4 : decode cX7_init 4 = .ok (.aload_n 0, 1) := by decide +kernel
theorem dX7_init_5 : decode cX7_init 5 = .ok (.bipush 15, 2) := by decide +kernel
theorem dX7_init_7 : decode cX7_init 7 = .ok (.anewarray 9, 3) := by decide +kernel
theorem dX7_init_10 : decode cX7_init 10 = .ok (.putfield 11, 3) := by decide +kernel
theorem dX7_init_13 : decode cX7_init 13 = .ok (.aload_n 0, 1) := by decide +kernel
theorem dX7_init_14 : decode cX7_init 14 = .ok (.new 15, 3) := by decide +kernel
theorem dX7_init_17 : decode cX7_init 17 = .ok (.dup, 1) := by decide +kernel
theorem dX7_init_18 : decode cX7_init 18 = .ok (.invokespecial 17, 3) := by decide +kernel
theorem dX7_init_21 : decode cX7_init 21 = .ok (.putfield 18, 3) := by decide +kernel
theorem dX7_init_24 : decode cX7_init 24 = .ok (.aload_n 0, 1) := by decide +kernel
theorem dX7_init_25 : decode cX7_init 25 = .ok (.new 22, 3) := by decide +kernel
theorem dX7_init_28 : decode cX7_init 28 = .ok (.dup, 1) := by decide +kernel
theorem dX7_init_29 : decode cX7_init 29 = .ok (.invokespecial 24, 3) := by decide +kernel
theorem dX7_init_32 : decode cX7_init 32 = .ok (.putfield 25, 3) := by decide +kernel
theorem dX7_init_35 : decode cX7_init 35 = .ok (.aload_n 0, 1) := by decide +kernel
theorem dX7_init_36 : decode cX7_init 36 = .ok (.new 22, 3) := by decide +kernel
theorem dX7_init_39 : decode cX7_init 39 = .ok (.dup, 1) := by decide +kernel
theorem dX7_init_40 : decode cX7_init 40 = .ok (.invokespecial 24, 3) := by decide +kernel
theorem dX7_init_43 : decode cX7_init 43 = .ok (.putfield 29, 3) := by decide +kernel
theorem dX7_init_46 : decode cX7_init 46 = .ok (.aload_n 0, 1) := by decide +kernel
theorem dX7_init_47 : decode cX7_init 47 = .ok (.new 22, 3) := by decide +kernel
theorem dX7_init_50 : decode cX7_init 50 = .ok (.dup, 1) := by decide +kernel
theorem dX7_init_51 : decode cX7_init 51 = .ok (.invokespecial 24, 3) := by decide +kernel
theorem dX7_init_54 : decode cX7_init 54 = .ok (.putfield 32, 3) := by decide +kernel
theorem dX7_init_57 : decode cX7_init 57 = .ok (.aload_n 0, 1) := by decide +kernel
theorem dX7_init_58 : decode cX7_init 58 = .ok (.iconst 4, 1) := by decide +kernel
theorem dX7_init_59 : decode cX7_init 59 = .ok (.anewarray 35, 3) := by decide +kernel
theorem dX7_init_62 : decode cX7_init 62 = .ok (.putfield 37, 3) := by decide +kernel
theorem dX7_init_65 : decode cX7_init 65 = .ok (.aload_n 0, 1) := by decide +kernel
theorem dX7_init_66 : decode cX7_init 66 = .ok (.iconst 5, 1) := by decide +kernel
theorem dX7_init_67 : decode cX7_init 67 = .ok (.anewarray 41, 3) := by decide +kernel
theorem dX7_init_70 : decode cX7_init 70 = .ok (.putfield 43, 3) := by decide +kernel
theorem dX7_init_73 : decode cX7_init 73 = .ok (.aload_n 0, 1) := by decide +kernel
theorem dX7_init_74 : decode cX7_init 74 = .ok (.bipush 60, 2) := by decide +kernel
theorem dX7_init_76 : decode cX7_init 76 = .ok (.newarray .int, 2) := by decide +kernel
theorem dX7_init_78 : decode cX7_init 78 = .ok (.putfield 47, 3) := by decide +kernel
theorem dX7_init_81 : decode cX7_init 81 = .ok (.aload_n 0, 1) := by decide +kernel
theorem dX7_init_82 : decode cX7_init 82 = .ok (.iconst 0, 1) := by decide +kernel
theorem dX7_init_83 : decode cX7_init 83 = .ok (.putfield 51, 3) := by decide +kernel
theorem dX7_init_86 : decode cX7_init 86 = .ok (.aload_n 0, 1) := by decide +kernel
theorem dX7_init_87 : decode cX7_init 87 = .ok (.iconst 0, 1) := by decide +kernel
theorem dX7_init_88 : decode cX7_init 88 = .ok (.putfield 55, 3) := by decide +kernel
theorem dX7_init_91 : decode cX7_init 91 = .ok (.bipush 96, 2) := by decide +kernel
theorem dX7_init_93 : decode cX7_init 93 = .ok (.newarray .int, 2) := by decide +kernel
theorem dX7_init_95 : decode cX7_init 95 = .ok (.astore_n 1, 1) := by decide +kernel
theorem dX7_init_96 : decode cX7_init 96 = .ok (.iconst 0, 1) := by decide +kernel
theorem dX7_init_97 : decode cX7_init 97 = .ok (.istore_n 2, 1) := by decide +kernel
theorem dX7_init_98 : decode cX7_init 98 = .ok (.iload_n 2, 1) := by decide +kernel
theorem dX7_init_99 : decode cX7_init 99 = .ok (.aload_n 0, 1) := by decide +kernel
theorem dX7_init_100 : decode cX7_init 100 = .ok (.getfield 11, 3) := by decide +kernel
theorem dX7_init_103 : decode cX7_init 103 = .ok (.arraylength, 1) := by decide +kernel
theorem dX7_init_104 : decode cX7_init 104 = .ok (.if_icmp .ge 24, 3) := by decide +kernel
theorem dX7_init_107 : decode cX7_init 107 = .ok (.aload_n 0, 1) := by decide +kernel
theorem dX7_init_108 : decode cX7_init 108 = .ok (.getfield 11, 3) := by decide +kernel
theorem dX7_init_111 : decode cX7_init 111 = .ok (.iload_n 2, 1) := by decide +kernel
theorem dX7_init_112 : decode cX7_init 112 = .ok (.new 9, 3) := by decide +kernel
theorem dX7_init_115 : decode cX7_init 115 = .ok (.dup, 1) := by decide +kernel
theorem dX7_init_116 : decode cX7_init 116 = .ok (.iload_n 2, 1) := by decide +kernel
theorem dX7_init_117 : decode cX7_init 117 = .ok (.aload_n 1, 1) := by decide +kernel
theorem dX7_init_118 : decode cX7_init 118 = .ok (.invokespecial 59, 3) := by decide +kernel
theorem dX7_init_121 : decode cX7_init 121 = .ok (.aastore, 1) := by decide +kernel
theorem dX7_init_122 : decode cX7_init 122 = .ok (.iinc 2 1, 3) := by decide +kernel
theorem dX7_init_125 : decode cX7_init 125 = .ok (.goto (-27), 3) := by decide +kernel
theorem dX7_init_128 : decode cX7_init 128 = .ok (.iconst 0, 1) := by decide +kernel
theorem dX7_init_129 : decode cX7_init 129 = .ok (.istore_n 2, 1) := by decide +kernel
theorem dX7_init_130 : decode cX7_init 130 = .ok (.iload_n 2, 1) := by decide +kernel
theorem dX7_init_131 : decode cX7_init 131 = .ok (.aload_n 0, 1) := by decide +kernel
theorem dX7_init_132 : decode cX7_init 132 = .ok (.getfield 37, 3) := by decide +kernel
theorem dX7_init_135 : decode cX7_init 135 = .ok (.arraylength, 1) := by decide +kernel
theorem dX7_init_136 : decode cX7_init 136 = .ok (.if_icmp .ge 22, 3) := by decide +kernel
theorem dX7_init_139 : decode cX7_init 139 = .ok (.aload_n 0, 1) := by decide +kernel
theorem dX7_init_140 : decode cX7_init 140 = .ok (.getfield 37, 3) := by decide +kernel
theorem dX7_init_143 : decode cX7_init 143 = .ok (.iload_n 2, 1) := by decide +kernel
theorem dX7_init_144 : decode cX7_init 144 = .ok (.new 35, 3) := by decide +kernel
theorem dX7_init_147 : decode cX7_init 147 = .ok (.dup, 1) := by decide +kernel
theorem dX7_init_148 : decode cX7_init 148 = .ok (.invokespecial 62, 3) := by decide +kernel
theorem dX7_init_151 : decode cX7_init 151 = .ok (.aastore, 1) := by decide +kernel
theorem dX7_init_152 : decode cX7_init 152 = .ok (.iinc 2 1, 3) := by decide +kernel
theorem dX7_init_155 : decode cX7_init 155 = .ok (.goto (-25), 3) := by decide +kernel
theorem dX7_init_158 : decode cX7_init 158 = .ok (.iconst 0, 1) := by decide +kernel
theorem dX7_init_159 : decode cX7_init 159 = .ok (.istore_n 2, 1) := by decide +kernel
theorem dX7_init_160 : decode cX7_init 160 = .ok (.iload_n 2, 1) := by decide +kernel
theorem dX7_init_161 : decode cX7_init 161 = .ok (.aload_n 0, 1) := by decide +kernel
theorem dX7_init_162 : decode cX7_init 162 = .ok (.getfield 43, 3) := by decide +kernel
theorem dX7_init_165 : decode cX7_init 165 = .ok (.arraylength, 1) := by decide +kernel
theorem dX7_init_166 : decode cX7_init 166 = .ok (.if_icmp .ge 22, 3) := by decide +kernel
theorem dX7_init_169 : decode cX7_init 169 = .ok (.aload_n 0, 1) := by decide +kernel
theorem dX7_init_170 : decode cX7_init 170 = .ok (.getfield 43, 3) := by decide +kernel
theorem dX7_init_173 : decode cX7_init 173 = .ok (.iload_n 2, 1) := by decide +kernel
theorem dX7_init_174 : decode cX7_init 174 = .ok (.new 41, 3) := by decide +kernel
theorem dX7_init_177 : decode cX7_init 177 = .ok (.dup, 1) := by decide +kernel
theorem dX7_init_178 : decode cX7_init 178 = .ok (.invokespecial 63, 3) := by decide +kernel
theorem dX7_init_181 : decode cX7_init 181 = .ok (.aastore, 1) := by decide +kernel
theorem dX7_init_182 : decode cX7_init 182 = .ok (.iinc 2 1, 3) := by decide +kernel
theorem dX7_init_185 : decode cX7_init 185 = .ok (.goto (-25), 3) := by decide +kernel
theorem dX7_init_188 : decode cX7_init 188 = .ok (.return_, 1) := by decide +kernel
theorem dX7_boy_0 : decode cX7_boy 0 = .ok (.iload_n 1, 1) := by decide +kernel
theorem dX7_boy_1 : decode cX7_boy 1 = .ok (.invokestatic 64, 3) := by decide +kernel
theorem dX7_boy_4 : decode cX7_boy 4 = .ok (.ifCond .eq 28, 3) := by decide +kernel
theorem dX7_boy_7 : decode cX7_boy 7 = .ok (.iconst 1, 1) := by decide +kernel
theorem dX7_boy_8 : decode cX7_boy 8 = .ok (.iload_n 2, 1) := by decide +kernel
theorem dX7_boy_9 : decode cX7_boy 9 = .ok (.invokestatic 68, 3) := by decide +kernel
theorem dX7_boy_12 : decode cX7_boy 12 = .ok (.ifCond .eq 20, 3) := by decide +kernel
theorem dX7_boy_15 : decode cX7_boy 15 = .ok (.iconst 2, 1) := by decide +kernel
theorem dX7_boy_16 : decode cX7_boy 16 = .ok (.iload_n 3, 1) := by decide +kernel
theorem dX7_boy_17 : decode cX7_boy 17 = .ok (.invokestatic 68, 3) := by decide +kernel
theorem dX7_boy_20 : decode cX7_boy 20 = .ok (.ifCond .eq 12, 3) := by decide +kernel
theorem dX7_boy_23 : decode cX7_boy 23 = .ok (.iconst 3, 1) := by decide +kernel
theorem dX7_boy_24 : decode cX7_boy 24 = .ok (.iload 4, 2) := by decide +kernel
theorem dX7_boy_26 : decode cX7_boy 26 = .ok (.invokestatic 68, 3) := by decide +kernel
theorem dX7_boy_29 : decode cX7_boy 29 = .ok (.ifCond .ne 6, 3) := by decide +kernel
theorem dX7_boy_32 : decode cX7_boy 32 = .ok (.ldc 74, 2) := by decide +kernel
theorem dX7_boy_34 : decode cX7_boy 34 = .ok (.ireturn, 1) := by decide +kernel
theorem dX7_boy_35 : decode cX7_boy 35 = .ok (.aload_n 0, 1) := by decide +kernel
theorem dX7_boy_36 : decode cX7_boy 36 = .ok (.getfield 25, 3) := by decide +kernel
theorem dX7_boy_39 : decode cX7_boy 39 = .ok (.getfield 75, 3) := by decide +kernel
theorem dX7_boy_42 : decode cX7_boy 42 = .ok (.bipush 8, 2) := by decide +kernel
theorem dX7_boy_44 : decode cX7_boy 44 = .ok (.if_icmp .lt 6, 3) := by decide +kernel
theorem dX7_boy_47 : decode cX7_boy 47 = .ok (.ldc 78, 2) := by decide +kernel
theorem dX7_boy_49 : decode cX7_boy 49 = .ok (.ireturn, 1) := by decide +kernel
theorem dX7_boy_50 : decode cX7_boy 50 = .ok (.aload_n 0, 1) := by decide +kernel
theorem dX7_boy_51 : decode cX7_boy 51 = .ok (.getfield 25, 3) := by decide +kernel
theorem dX7_boy_54 : decode cX7_boy 54 = .ok (.iload_n 1, 1) := by decide +kernel
theorem dX7_boy_55 : decode cX7_boy 55 = .ok (.iload_n 2, 1) := by decide +kernel
theorem dX7_boy_56 : decode cX7_boy 56 = .ok (.iload_n 3, 1) := by decide +kernel
theorem dX7_boy_57 : decode cX7_boy 57 = .ok (.iload 4, 2) := by decide +kernel
theorem dX7_boy_59 : decode cX7_boy 59 = .ok (.invokevirtual 79, 3) := by decide +kernel
theorem dX7_boy_62 : decode cX7_boy 62 = .ok (.aload_n 0, 1) := by decide +kernel
theorem dX7_boy_63 : decode cX7_boy 63 = .ok (.getfield 25, 3) := by decide +kernel
theorem dX7_boy_66 : decode cX7_boy 66 = .ok (.getfield 75, 3) := by decide +kernel
theorem dX7_boy_69 : decode cX7_boy 69 = .ok (.iconst 1, 1) := by decide +kernel
theorem dX7_boy_70 : decode cX7_boy 70 = .ok (.isub, 1) := by decide +kernel
theorem dX7_boy_71 : decode cX7_boy 71 = .ok (.ireturn, 1) := by decide +kernel
theorem dX7_told_0 : decode cX7_told 0 = .ok (.aload_n 0, 1) := by decide +kernel
theorem dX7_told_1 : decode cX7_told 1 = .ok (.iload_n 1, 1) := by decide +kernel
theorem dX7_told_2 : decode cX7_told 2 = .ok (.invokevirtual 83, 3) := by decide +kernel
theorem dX7_told_5 : decode cX7_told 5 = .ok (.ifCond .eq 13, 3) := by decide +kernel
theorem dX7_told_8 : decode cX7_told 8 = .ok (.iload_n 2, 1) := by decide +kernel
theorem dX7_told_9 : decode cX7_told 9 = .ok (.ifCond .lt 9, 3) := by decide +kernel
theorem dX7_told_12 : decode cX7_told 12 = .ok (.iload_n 2, 1) := by decide +kernel
theorem dX7_told_13 : decode cX7_told 13 = .ok (.bipush 9, 2) := by decide +kernel
theorem dX7_told_15 : decode cX7_told 15 = .ok (.if_icmp .le 6, 3) := by decide +kernel
theorem dX7_told_18 : decode cX7_told 18 = .ok (.ldc 74, 2) := by decide +kernel
theorem dX7_told_20 : decode cX7_told 20 = .ok (.ireturn, 1) := by decide +kernel
theorem dX7_told_21 : decode cX7_told 21 = .ok (.aload_n 0, 1) := by decide +kernel
theorem dX7_told_22 : decode cX7_told 22 = .ok (.getfield 25, 3) := by decide +kernel
theorem dX7_told_25 : decode cX7_told 25 = .ok (.getfield 86, 3) := by decide +kernel
theorem dX7_told_28 : decode cX7_told 28 = .ok (.iload_n 1, 1) := by decide +kernel
theorem dX7_told_29 : decode cX7_told 29 = .ok (.aaload, 1) := by decide +kernel
theorem dX7_told_30 : decode cX7_told 30 = .ok (.iload_n 2, 1) := by decide +kernel
theorem dX7_told_31 : decode cX7_told 31 = .ok (.invokevirtual 90, 3) := by decide +kernel
theorem dX7_told_34 : decode cX7_told 34 = .ok (.ireturn, 1) := by decide +kernel
theorem dX7_shine_0 : decode cX7_shine 0 = .ok (.aload_n 0, 1) := by decide +kernel
theorem dX7_shine_1 : decode cX7_shine 1 = .ok (.iload_n 1, 1) := by decide +kernel
theorem dX7_shine_2 : decode cX7_shine 2 = .ok (.invokevirtual 83, 3) := by decide +kernel
theorem dX7_shine_5 : decode cX7_shine 5 = .ok (.ifCond .eq 23, 3) := by decide +kernel
theorem dX7_shine_8 : decode cX7_shine 8 = .ok (.iload_n 2, 1) := by decide +kernel
theorem dX7_shine_9 : decode cX7_shine 9 = .ok (.ifCond .lt 19, 3) := by decide +kernel
theorem dX7_shine_12 : decode cX7_shine 12 = .ok (.iload_n 2, 1) := by decide +kernel
theorem dX7_shine_13 : decode cX7_shine 13 = .ok (.bipush 40, 2) := by decide +kernel
theorem dX7_shine_15 : decode cX7_shine 15 = .ok (.if_icmp .gt 13, 3) := by decide +kernel
theorem dX7_shine_18 : decode cX7_shine 18 = .ok (.iload_n 3, 1) := by decide +kernel
theorem dX7_shine_19 : decode cX7_shine 19 = .ok (.ifCond .lt 9, 3) := by decide +kernel
theorem dX7_shine_22 : decode cX7_shine 22 = .ok (.iload_n 3, 1) := by decide +kernel
theorem dX7_shine_23 : decode cX7_shine 23 = .ok (.bipush 9, 2) := by decide +kernel
theorem dX7_shine_25 : decode cX7_shine 25 = .ok (.if_icmp .le 6, 3) := by decide +kernel
theorem dX7_shine_28 : decode cX7_shine 28 = .ok (.ldc 74, 2) := by decide +kernel
theorem dX7_shine_30 : decode cX7_shine 30 = .ok (.ireturn, 1) := by decide +kernel
theorem dX7_shine_31 : decode cX7_shine 31 = .ok (.aload_n 0, 1) := by decide +kernel
theorem dX7_shine_32 : decode cX7_shine 32 = .ok (.getfield 25, 3) := by decide +kernel
theorem dX7_shine_35 : decode cX7_shine 35 = .ok (.aload_n 0, 1) := by decide +kernel
theorem dX7_shine_36 : decode cX7_shine 36 = .ok (.getfield 25, 3) := by decide +kernel
theorem dX7_shine_39 : decode cX7_shine 39 = .ok (.getfield 86, 3) := by decide +kernel
theorem dX7_shine_42 : decode cX7_shine 42 = .ok (.iload_n 1, 1) := by decide +kernel
theorem dX7_shine_43 : decode cX7_shine 43 = .ok (.aaload, 1) := by decide +kernel
theorem dX7_shine_44 : decode cX7_shine 44 = .ok (.iload_n 2, 1) := by decide +kernel
theorem dX7_shine_45 : decode cX7_shine 45 = .ok (.iload_n 3, 1) := by decide +kernel
theorem dX7_shine_46 : decode cX7_shine 46 = .ok (.invokevirtual 94, 3) := by decide +kernel
theorem dX7_shine_49 : decode cX7_shine 49 = .ok (.ireturn, 1) := by decide +kernel
theorem dX7_as_0 : decode cX7_as 0 = .ok (.aload_n 0, 1) := by decide +kernel
theorem dX7_as_1 : decode cX7_as 1 = .ok (.iload_n 1, 1) := by decide +kernel
theorem dX7_as_2 : decode cX7_as 2 = .ok (.invokevirtual 83, 3) := by decide +kernel
theorem dX7_as_5 : decode cX7_as 5 = .ok (.ifCond .eq 10, 3) := by decide +kernel
theorem dX7_as_8 : decode cX7_as 8 = .ok (.iload_n 2, 1) := by decide +kernel
theorem dX7_as_9 : decode cX7_as 9 = .ok (.invokestatic 64, 3) := by decide +kernel
theorem dX7_as_12 : decode cX7_as 12 = .ok (.ifCond .ne 6, 3) := by decide +kernel
theorem dX7_as_15 : decode cX7_as 15 = .ok (.ldc 74, 2) := by decide +kernel
theorem dX7_as_17 : decode cX7_as 17 = .ok (.ireturn, 1) := by decide +kernel
theorem dX7_as_18 : decode cX7_as 18 = .ok (.aload_n 0, 1) := by decide +kernel
theorem dX7_as_19 : decode cX7_as 19 = .ok (.getfield 25, 3) := by decide +kernel
theorem dX7_as_22 : decode cX7_as 22 = .ok (.getfield 86, 3) := by decide +kernel
theorem dX7_as_25 : decode cX7_as 25 = .ok (.iload_n 1, 1) := by decide +kernel
theorem dX7_as_26 : decode cX7_as 26 = .ok (.aaload, 1) := by decide +kernel
theorem dX7_as_27 : decode cX7_as 27 = .ok (.astore_n 3, 1) := by decide +kernel
theorem dX7_as_28 : decode cX7_as 28 = .ok (.aload_n 3, 1) := by decide +kernel
theorem dX7_as_29 : decode cX7_as 29 = .ok (.getfield 98, 3) := by decide +kernel
theorem dX7_as_32 : decode cX7_as 32 = .ok (.iload_n 2, 1) := by decide +kernel
theorem dX7_as_33 : decode cX7_as 33 = .ok (.invokestatic 101, 3) := by decide +kernel
theorem dX7_as_36 : decode cX7_as 36 = .ok (.ifCond .eq 10, 3) := by decide +kernel
theorem dX7_as_39 : decode cX7_as 39 = .ok (.aload_n 3, 1) := by decide +kernel
theorem dX7_as_40 : decode cX7_as 40 = .ok (.getfield 106, 3) := by decide +kernel
theorem dX7_as_43 : decode cX7_as 43 = .ok (.goto 5, 3) := by decide +kernel
theorem dX7_as_46 : decode cX7_as 46 = .ok (.ldc 109, 2) := by decide +kernel
theorem dX7_as_48 : decode cX7_as 48 = .ok (.ireturn, 1) := by decide +kernel
theorem dX7_turns_0 : decode cX7_turns 0 = .ok (.aload_n 0, 1) := by decide +kernel
theorem dX7_turns_1 : decode cX7_turns 1 = .ok (.iload_n 1, 1) := by decide +kernel
theorem dX7_turns_2 : decode cX7_turns 2 = .ok (.invokevirtual 83, 3) := by decide +kernel
theorem dX7_turns_5 : decode cX7_turns 5 = .ok (.ifCond .eq 10, 3) := by decide +kernel
theorem dX7_turns_8 : decode cX7_turns 8 = .ok (.iload_n 2, 1) := by decide +kernel
theorem dX7_turns_9 : decode cX7_turns 9 = .ok (.invokestatic 64, 3) := by decide +kernel
theorem dX7_turns_12 : decode cX7_turns 12 = .ok (.ifCond .ne 6, 3) := by decide +kernel
theorem dX7_turns_15 : decode cX7_turns 15 = .ok (.ldc 74, 2) := by decide +kernel
theorem dX7_turns_17 : decode cX7_turns 17 = .ok (.ireturn, 1) := by decide +kernel
theorem dX7_turns_18 : decode cX7_turns 18 = .ok (.aload_n 0, 1) := by decide +kernel
theorem dX7_turns_19 : decode cX7_turns 19 = .ok (.getfield 25, 3) := by decide +kernel
theorem dX7_turns_22 : decode cX7_turns 22 = .ok (.getfield 86, 3) := by decide +kernel
theorem dX7_turns_25 : decode cX7_turns 25 = .ok (.iload_n 1, 1) := by decide +kernel
theorem dX7_turns_26 : decode cX7_turns 26 = .ok (.aaload, 1) := by decide +kernel
theorem dX7_turns_27 : decode cX7_turns 27 = .ok (.getfield 98, 3) := by decide +kernel
theorem dX7_turns_30 : decode cX7_turns 30 = .ok (.istore_n 3, 1) := by decide +kernel
theorem dX7_turns_31 : decode cX7_turns 31 = .ok (.aload_n 0, 1) := by decide +kernel
theorem dX7_turns_32 : decode cX7_turns 32 = .ok (.getfield 25, 3) := by decide +kernel
theorem dX7_turns_35 : decode cX7_turns 35 = .ok (.getfield 86, 3) := by decide +kernel
theorem dX7_turns_38 : decode cX7_turns 38 = .ok (.iload_n 1, 1) := by decide +kernel
theorem dX7_turns_39 : decode cX7_turns 39 = .ok (.aaload, 1) := by decide +kernel
theorem dX7_turns_40 : decode cX7_turns 40 = .ok (.iload_n 2, 1) := by decide +kernel
theorem dX7_turns_41 : decode cX7_turns 41 = .ok (.putfield 98, 3) := by decide +kernel
theorem dX7_turns_44 : decode cX7_turns 44 = .ok (.iload_n 3, 1) := by decide +kernel
theorem dX7_turns_45 : decode cX7_turns 45 = .ok (.ireturn, 1) := by decide +kernel
theorem dX7_set_0 : decode cX7_set 0 = .ok (.aload_n 0, 1) := by decide +kernel
theorem dX7_set_1 : decode cX7_set 1 = .ok (.iload_n 1, 1) := by decide +kernel
theorem dX7_set_2 : decode cX7_set 2 = .ok (.invokevirtual 83, 3) := by decide +kernel
theorem dX7_set_5 : decode cX7_set 5 = .ok (.ifCond .eq 11, 3) := by decide +kernel
theorem dX7_set_8 : decode cX7_set 8 = .ok (.iload_n 2, 1) := by decide +kernel
theorem dX7_set_9 : decode cX7_set 9 = .ok (.iload_n 3, 1) := by decide +kernel
theorem dX7_set_10 : decode cX7_set 10 = .ok (.invokestatic 68, 3) := by decide +kernel
theorem dX7_set_13 : decode cX7_set 13 = .ok (.ifCond .ne 6, 3) := by decide +kernel
theorem dX7_set_16 : decode cX7_set 16 = .ok (.ldc 74, 2) := by decide +kernel
theorem dX7_set_18 : decode cX7_set 18 = .ok (.ireturn, 1) := by decide +kernel
theorem dX7_set_19 : decode cX7_set 19 = .ok (.aload_n 0, 1) := by decide +kernel
theorem dX7_set_20 : decode cX7_set 20 = .ok (.getfield 25, 3) := by decide +kernel
theorem dX7_set_23 : decode cX7_set 23 = .ok (.getfield 86, 3) := by decide +kernel
theorem dX7_set_26 : decode cX7_set 26 = .ok (.iload_n 1, 1) := by decide +kernel
theorem dX7_set_27 : decode cX7_set 27 = .ok (.aaload, 1) := by decide +kernel
theorem dX7_set_28 : decode cX7_set 28 = .ok (.iload_n 2, 1) := by decide +kernel
theorem dX7_set_29 : decode cX7_set 29 = .ok (.invokevirtual 90, 3) := by decide +kernel
theorem dX7_set_32 : decode cX7_set 32 = .ok (.istore 4, 2) := by decide +kernel
theorem dX7_set_34 : decode cX7_set 34 = .ok (.aload_n 0, 1) := by decide +kernel
theorem dX7_set_35 : decode cX7_set 35 = .ok (.getfield 25, 3) := by decide +kernel
theorem dX7_set_38 : decode cX7_set 38 = .ok (.getfield 86, 3) := by decide +kernel
theorem dX7_set_41 : decode cX7_set 41 = .ok (.iload_n 1, 1) := by decide +kernel
theorem dX7_set_42 : decode cX7_set 42 = .ok (.aaload, 1) := by decide +kernel
theorem dX7_set_43 : decode cX7_set 43 = .ok (.iload_n 2, 1) := by decide +kernel
theorem dX7_set_44 : decode cX7_set 44 = .ok (.iload_n 3, 1) := by decide +kernel
theorem dX7_set_45 : decode cX7_set 45 = .ok (.invokevirtual 110, 3) := by decide +kernel
theorem dX7_set_48 : decode cX7_set 48 = .ok (.iload 4, 2) := by decide +kernel
theorem dX7_set_50 : decode cX7_set 50 = .ok (.ireturn, 1) := by decide +kernel
theorem dX7_deal_0 : decode cX7_deal 0 = .ok (.iload_n 1, 1) := by decide +kernel
theorem dX7_deal_1 : decode cX7_deal 1 = .ok (.iconst 1, 1) := by decide +kernel
theorem dX7_deal_2 : decode cX7_deal 2 = .ok (.if_icmp .lt 9, 3) := by decide +kernel
theorem dX7_deal_5 : decode cX7_deal 5 = .ok (.iload_n 1, 1) := by decide +kernel
theorem dX7_deal_6 : decode cX7_deal 6 = .ok (.bipush 8, 2) := by decide +kernel
theorem dX7_deal_8 : decode cX7_deal 8 = .ok (.if_icmp .le 6, 3) := by decide +kernel
theorem dX7_deal_11 : decode cX7_deal 11 = .ok (.ldc 74, 2) := by decide +kernel
theorem dX7_deal_13 : decode cX7_deal 13 = .ok (.ireturn, 1) := by decide +kernel
theorem dX7_deal_14 : decode cX7_deal 14 = .ok (.iload_n 1, 1) := by decide +kernel
theorem dX7_deal_15 : decode cX7_deal 15 = .ok (.bipush 8, 2) := by decide +kernel
theorem dX7_deal_17 : decode cX7_deal 17 = .ok (.aload_n 0, 1) := by decide +kernel
theorem dX7_deal_18 : decode cX7_deal 18 = .ok (.getfield 25, 3) := by decide +kernel
theorem dX7_deal_21 : decode cX7_deal 21 = .ok (.getfield 75, 3) := by decide +kernel
theorem dX7_deal_24 : decode cX7_deal 24 = .ok (.isub, 1) := by decide +kernel
theorem dX7_deal_25 : decode cX7_deal 25 = .ok (.invokestatic 114, 3) := by decide +kernel
theorem dX7_deal_28 : decode cX7_deal 28 = .ok (.istore_n 2, 1) := by decide +kernel
theorem dX7_deal_29 : decode cX7_deal 29 = .ok (.iconst 0, 1) := by decide +kernel
theorem dX7_deal_30 : decode cX7_deal 30 = .ok (.istore_n 3, 1) := by decide +kernel
theorem dX7_deal_31 : decode cX7_deal 31 = .ok (.iload_n 3, 1) := by decide +kernel
theorem dX7_deal_32 : decode cX7_deal 32 = .ok (.iload_n 2, 1) := by decide +kernel
theorem dX7_deal_33 : decode cX7_deal 33 = .ok (.if_icmp .ge 16, 3) := by decide +kernel
theorem dX7_deal_36 : decode cX7_deal 36 = .ok (.aload_n 0, 1) := by decide +kernel
theorem dX7_deal_37 : decode cX7_deal 37 = .ok (.getfield 25, 3) := by decide +kernel
theorem dX7_deal_40 : decode cX7_deal 40 = .ok (.invokevirtual 120, 3) := by decide +kernel
theorem dX7_deal_43 : decode cX7_deal 43 = .ok (.iinc 3 1, 3) := by decide +kernel
theorem dX7_deal_46 : decode cX7_deal 46 = .ok (.goto (-15), 3) := by decide +kernel
theorem dX7_deal_49 : decode cX7_deal 49 = .ok (.iload_n 2, 1) := by decide +kernel
theorem dX7_deal_50 : decode cX7_deal 50 = .ok (.ireturn, 1) := by decide +kernel
theorem dX7_seed_0 : decode cX7_seed 0 = .ok (.aload_n 0, 1) := by decide +kernel
theorem dX7_seed_1 : decode cX7_seed 1 = .ok (.getfield 25, 3) := by decide +kernel
theorem dX7_seed_4 : decode cX7_seed 4 = .ok (.getfield 123, 3) := by decide +kernel
theorem dX7_seed_7 : decode cX7_seed 7 = .ok (.istore_n 2, 1) := by decide +kernel
theorem dX7_seed_8 : decode cX7_seed 8 = .ok (.aload_n 0, 1) := by decide +kernel
theorem dX7_seed_9 : decode cX7_seed 9 = .ok (.getfield 25, 3) := by decide +kernel
theorem dX7_seed_12 : decode cX7_seed 12 = .ok (.iload_n 1, 1) := by decide +kernel
theorem dX7_seed_13 : decode cX7_seed 13 = .ok (.putfield 123, 3) := by decide +kernel
theorem dX7_seed_16 : decode cX7_seed 16 = .ok (.iload_n 2, 1) := by decide +kernel
theorem dX7_seed_17 : decode cX7_seed 17 = .ok (.ireturn, 1) := by decide +kernel
theorem dX7_rule_0 : decode cX7_rule 0 = .ok (.iload_n 2, 1) := by decide +kernel
theorem dX7_rule_1 : decode cX7_rule 1 = .ok (.ifCond .ge 6, 3) := by decide +kernel
theorem dX7_rule_4 : decode cX7_rule 4 = .ok (.ldc 74, 2) := by decide +kernel
theorem dX7_rule_6 : decode cX7_rule 6 = .ok (.ireturn, 1) := by decide +kernel
theorem dX7_rule_7 : decode cX7_rule 7 = .ok (.iload_n 1, 1) := by decide +kernel
theorem dX7_rule_8 : decode cX7_rule 8 = .ok (.ifCond .ne 27, 3) := by decide +kernel
theorem dX7_rule_11 : decode cX7_rule 11 = .ok (.iload_n 2, 1) := by decide +kernel
theorem dX7_rule_12 : decode cX7_rule 12 = .ok (.bipush 99, 2) := by decide +kernel
theorem dX7_rule_14 : decode cX7_rule 14 = .ok (.if_icmp .gt 21, 3) := by decide +kernel
theorem dX7_rule_17 : decode cX7_rule 17 = .ok (.aload_n 0, 1) := by decide +kernel
theorem dX7_rule_18 : decode cX7_rule 18 = .ok (.getfield 25, 3) := by decide +kernel
theorem dX7_rule_21 : decode cX7_rule 21 = .ok (.getfield 126, 3) := by decide +kernel
theorem dX7_rule_24 : decode cX7_rule 24 = .ok (.istore_n 3, 1) := by decide +kernel
theorem dX7_rule_25 : decode cX7_rule 25 = .ok (.aload_n 0, 1) := by decide +kernel
theorem dX7_rule_26 : decode cX7_rule 26 = .ok (.getfield 25, 3) := by decide +kernel
theorem dX7_rule_29 : decode cX7_rule 29 = .ok (.iload_n 2, 1) := by decide +kernel
theorem dX7_rule_30 : decode cX7_rule 30 = .ok (.putfield 126, 3) := by decide +kernel
theorem dX7_rule_33 : decode cX7_rule 33 = .ok (.iload_n 3, 1) := by decide +kernel
theorem dX7_rule_34 : decode cX7_rule 34 = .ok (.ireturn, 1) := by decide +kernel
theorem dX7_rule_35 : decode cX7_rule 35 = .ok (.iload_n 1, 1) := by decide +kernel
theorem dX7_rule_36 : decode cX7_rule 36 = .ok (.iconst 1, 1) := by decide +kernel
theorem dX7_rule_37 : decode cX7_rule 37 = .ok (.if_icmp .ne 27, 3) := by decide +kernel
theorem dX7_rule_40 : decode cX7_rule 40 = .ok (.iload_n 2, 1) := by decide +kernel
theorem dX7_rule_41 : decode cX7_rule 41 = .ok (.bipush 100, 2) := by decide +kernel
theorem dX7_rule_43 : decode cX7_rule 43 = .ok (.if_icmp .gt 21, 3) := by decide +kernel
theorem dX7_rule_46 : decode cX7_rule 46 = .ok (.aload_n 0, 1) := by decide +kernel
theorem dX7_rule_47 : decode cX7_rule 47 = .ok (.getfield 25, 3) := by decide +kernel
theorem dX7_rule_50 : decode cX7_rule 50 = .ok (.getfield 129, 3) := by decide +kernel
theorem dX7_rule_53 : decode cX7_rule 53 = .ok (.istore_n 3, 1) := by decide +kernel
theorem dX7_rule_54 : decode cX7_rule 54 = .ok (.aload_n 0, 1) := by decide +kernel
theorem dX7_rule_55 : decode cX7_rule 55 = .ok (.getfield 25, 3) := by decide +kernel
theorem dX7_rule_58 : decode cX7_rule 58 = .ok (.iload_n 2, 1) := by decide +kernel
theorem dX7_rule_59 : decode cX7_rule 59 = .ok (.putfield 129, 3) := by decide +kernel
theorem dX7_rule_62 : decode cX7_rule 62 = .ok (.iload_n 3, 1) := by decide +kernel
theorem dX7_rule_63 : decode cX7_rule 63 = .ok (.ireturn, 1) := by decide +kernel
theorem dX7_rule_64 : decode cX7_rule 64 = .ok (.iload_n 1, 1) := by decide +kernel
theorem dX7_rule_65 : decode cX7_rule 65 = .ok (.iconst 2, 1) := by decide +kernel
theorem dX7_rule_66 : decode cX7_rule 66 = .ok (.if_icmp .ne 43, 3) := by decide +kernel
theorem dX7_rule_69 : decode cX7_rule 69 = .ok (.iload_n 2, 1) := by decide +kernel
theorem dX7_rule_70 : decode cX7_rule 70 = .ok (.iconst 1, 1) := by decide +kernel
theorem dX7_rule_71 : decode cX7_rule 71 = .ok (.if_icmp .gt 38, 3) := by decide +kernel
theorem dX7_rule_74 : decode cX7_rule 74 = .ok (.aload_n 0, 1) := by decide +kernel
theorem dX7_rule_75 : decode cX7_rule 75 = .ok (.getfield 25, 3) := by decide +kernel
theorem dX7_rule_78 : decode cX7_rule 78 = .ok (.getfield 132, 3) := by decide +kernel
theorem dX7_rule_81 : decode cX7_rule 81 = .ok (.ifCond .eq 7, 3) := by decide +kernel
theorem dX7_rule_84 : decode cX7_rule 84 = .ok (.iconst 1, 1) := by decide +kernel
theorem dX7_rule_85 : decode cX7_rule 85 = .ok (.goto 4, 3) := by decide +kernel
theorem dX7_rule_88 : decode cX7_rule 88 = .ok (.iconst 0, 1) := by decide +kernel
theorem dX7_rule_89 : decode cX7_rule 89 = .ok (.istore_n 3, 1) := by decide +kernel
theorem dX7_rule_90 : decode cX7_rule 90 = .ok (.aload_n 0, 1) := by decide +kernel
theorem dX7_rule_91 : decode cX7_rule 91 = .ok (.getfield 25, 3) := by decide +kernel
theorem dX7_rule_94 : decode cX7_rule 94 = .ok (.iload_n 2, 1) := by decide +kernel
theorem dX7_rule_95 : decode cX7_rule 95 = .ok (.iconst 1, 1) := by decide +kernel
theorem dX7_rule_96 : decode cX7_rule 96 = .ok (.if_icmp .ne 7, 3) := by decide +kernel
theorem dX7_rule_99 : decode cX7_rule 99 = .ok (.iconst 1, 1) := by decide +kernel
theorem dX7_rule_100 : decode cX7_rule 100 = .ok (.goto 4, 3) := by decide +kernel
theorem dX7_rule_103 : decode cX7_rule 103 = .ok (.iconst 0, 1) := by decide +kernel
theorem dX7_rule_104 : decode cX7_rule 104 = .ok (.putfield 132, 3) := by decide +kernel
theorem dX7_rule_107 : decode cX7_rule 107 = .ok (.iload_n 3, 1) := by decide +kernel
theorem dX7_rule_108 : decode cX7_rule 108 = .ok (.ireturn, 1) := by decide +kernel
theorem dX7_rule_109 : decode cX7_rule 109 = .ok (.ldc 74, 2) := by decide +kernel
theorem dX7_rule_111 : decode cX7_rule 111 = .ok (.ireturn, 1) := by decide +kernel
theorem dX7_minutes_0 : decode cX7_minutes 0 = .ok (.iload_n 1, 1) := by decide +kernel
theorem dX7_minutes_1 : decode cX7_minutes 1 = .ok (.iconst 1, 1) := by decide +kernel
theorem dX7_minutes_2 : decode cX7_minutes 2 = .ok (.if_icmp .lt 10, 3) := by decide +kernel
theorem dX7_minutes_5 : decode cX7_minutes 5 = .ok (.iload_n 1, 1) := by decide +kernel
theorem dX7_minutes_6 : decode cX7_minutes 6 = .ok (.sipush 300, 3) := by decide +kernel
theorem dX7_minutes_9 : decode cX7_minutes 9 = .ok (.if_icmp .le 6, 3) := by decide +kernel
theorem dX7_minutes_12 : decode cX7_minutes 12 = .ok (.ldc 74, 2) := by decide +kernel
theorem dX7_minutes_14 : decode cX7_minutes 14 = .ok (.ireturn, 1) := by decide +kernel
theorem dX7_minutes_15 : decode cX7_minutes 15 = .ok (.aload_n 0, 1) := by decide +kernel
theorem dX7_minutes_16 : decode cX7_minutes 16 = .ok (.getfield 25, 3) := by decide +kernel
theorem dX7_minutes_19 : decode cX7_minutes 19 = .ok (.iload_n 1, 1) := by decide +kernel
theorem dX7_minutes_20 : decode cX7_minutes 20 = .ok (.sipush 9999, 3) := by decide +kernel
theorem dX7_minutes_23 : decode cX7_minutes 23 = .ok (.aload_n 0, 1) := by decide +kernel
theorem dX7_minutes_24 : decode cX7_minutes 24 = .ok (.getfield 25, 3) := by decide +kernel
theorem dX7_minutes_27 : decode cX7_minutes 27 = .ok (.getfield 135, 3) := by decide +kernel
theorem dX7_minutes_30 : decode cX7_minutes 30 = .ok (.isub, 1) := by decide +kernel
theorem dX7_minutes_31 : decode cX7_minutes 31 = .ok (.invokestatic 114, 3) := by decide +kernel
theorem dX7_minutes_34 : decode cX7_minutes 34 = .ok (.invokevirtual 138, 3) := by decide +kernel
theorem dX7_minutes_37 : decode cX7_minutes 37 = .ok (.ireturn, 1) := by decide +kernel
theorem dX7_street_0 : decode cX7_street 0 = .ok (.iload_n 1, 1) := by decide +kernel
theorem dX7_street_1 : decode cX7_street 1 = .ok (.tableswitch 75 0 4 #[35, 43, 51, 59, 67], 35) := by decide +kernel
theorem dX7_street_36 : decode cX7_street 36 = .ok (.aload_n 0, 1) := by decide +kernel
theorem dX7_street_37 : decode cX7_street 37 = .ok (.getfield 25, 3) := by decide +kernel
theorem dX7_street_40 : decode cX7_street 40 = .ok (.invokevirtual 141, 3) := by decide +kernel
theorem dX7_street_43 : decode cX7_street 43 = .ok (.ireturn, 1) := by decide +kernel
theorem dX7_street_44 : decode cX7_street 44 = .ok (.aload_n 0, 1) := by decide +kernel
theorem dX7_street_45 : decode cX7_street 45 = .ok (.getfield 25, 3) := by decide +kernel
theorem dX7_street_48 : decode cX7_street 48 = .ok (.getfield 145, 3) := by decide +kernel
theorem dX7_street_51 : decode cX7_street 51 = .ok (.ireturn, 1) := by decide +kernel
theorem dX7_street_52 : decode cX7_street 52 = .ok (.aload_n 0, 1) := by decide +kernel
theorem dX7_street_53 : decode cX7_street 53 = .ok (.getfield 25, 3) := by decide +kernel
theorem dX7_street_56 : decode cX7_street 56 = .ok (.getfield 148, 3) := by decide +kernel
theorem dX7_street_59 : decode cX7_street 59 = .ok (.ireturn, 1) := by decide +kernel
theorem dX7_street_60 : decode cX7_street 60 = .ok (.aload_n 0, 1) := by decide +kernel
theorem dX7_street_61 : decode cX7_street 61 = .ok (.getfield 25, 3) := by decide +kernel
theorem dX7_street_64 : decode cX7_street 64 = .ok (.invokevirtual 151, 3) := by decide +kernel
theorem dX7_street_67 : decode cX7_street 67 = .ok (.ireturn, 1) := by decide +kernel
theorem dX7_street_68 : decode cX7_street 68 = .ok (.aload_n 0, 1) := by decide +kernel
theorem dX7_street_69 : decode cX7_street 69 = .ok (.getfield 25, 3) := by decide +kernel
theorem dX7_street_72 : decode cX7_street 72 = .ok (.invokevirtual 154, 3) := by decide +kernel
theorem dX7_street_75 : decode cX7_street 75 = .ok (.ireturn, 1) := by decide +kernel
theorem dX7_street_76 : decode cX7_street 76 = .ok (.ldc 74, 2) := by decide +kernel
theorem dX7_street_78 : decode cX7_street 78 = .ok (.ireturn, 1) := by decide +kernel
theorem dX7_goesTo_0 : decode cX7_goesTo 0 = .ok (.iload_n 1, 1) := by decide +kernel
theorem dX7_goesTo_1 : decode cX7_goesTo 1 = .ok (.ifCond .lt 20, 3) := by decide +kernel
theorem dX7_goesTo_4 : decode cX7_goesTo 4 = .ok (.iload_n 1, 1) := by decide +kernel
theorem dX7_goesTo_5 : decode cX7_goesTo 5 = .ok (.bipush 10, 2) := by decide +kernel
theorem dX7_goesTo_7 : decode cX7_goesTo 7 = .ok (.if_icmp .ge 14, 3) := by decide +kernel
theorem dX7_goesTo_10 : decode cX7_goesTo 10 = .ok (.iload_n 2, 1) := by decide +kernel
theorem dX7_goesTo_11 : decode cX7_goesTo 11 = .ok (.iconst 1, 1) := by decide +kernel
theorem dX7_goesTo_12 : decode cX7_goesTo 12 = .ok (.if_icmp .lt 9, 3) := by decide +kernel
theorem dX7_goesTo_15 : decode cX7_goesTo 15 = .ok (.iload_n 2, 1) := by decide +kernel
theorem dX7_goesTo_16 : decode cX7_goesTo 16 = .ok (.bipush 9, 2) := by decide +kernel
theorem dX7_goesTo_18 : decode cX7_goesTo 18 = .ok (.if_icmp .le 6, 3) := by decide +kernel
theorem dX7_goesTo_21 : decode cX7_goesTo 21 = .ok (.ldc 74, 2) := by decide +kernel
theorem dX7_goesTo_23 : decode cX7_goesTo 23 = .ok (.ireturn, 1) := by decide +kernel
theorem dX7_goesTo_24 : decode cX7_goesTo 24 = .ok (.aload_n 0, 1) := by decide +kernel
theorem dX7_goesTo_25 : decode cX7_goesTo 25 = .ok (.getfield 25, 3) := by decide +kernel
theorem dX7_goesTo_28 : decode cX7_goesTo 28 = .ok (.iload_n 1, 1) := by decide +kernel
theorem dX7_goesTo_29 : decode cX7_goesTo 29 = .ok (.iload_n 2, 1) := by decide +kernel
theorem dX7_goesTo_30 : decode cX7_goesTo 30 = .ok (.invokevirtual 157, 3) := by decide +kernel
theorem dX7_goesTo_33 : decode cX7_goesTo 33 = .ok (.istore_n 3, 1) := by decide +kernel
theorem dX7_goesTo_34 : decode cX7_goesTo 34 = .ok (.iload_n 3, 1) := by decide +kernel
theorem dX7_goesTo_35 : decode cX7_goesTo 35 = .ok (.ifCond .ge 8, 3) := by decide +kernel
theorem dX7_goesTo_38 : decode cX7_goesTo 38 = .ok (.ldc 160, 2) := by decide +kernel
theorem dX7_goesTo_40 : decode cX7_goesTo 40 = .ok (.goto 4, 3) := by decide +kernel
theorem dX7_goesTo_43 : decode cX7_goesTo 43 = .ok (.iload_n 3, 1) := by decide +kernel
theorem dX7_goesTo_44 : decode cX7_goesTo 44 = .ok (.ireturn, 1) := by decide +kernel
theorem dX7_behind_0 : decode cX7_behind 0 = .ok (.iload_n 1, 1) := by decide +kernel
theorem dX7_behind_1 : decode cX7_behind 1 = .ok (.ifCond .lt 27, 3) := by decide +kernel
theorem dX7_behind_4 : decode cX7_behind 4 = .ok (.iload_n 1, 1) := by decide +kernel
theorem dX7_behind_5 : decode cX7_behind 5 = .ok (.sipush 300, 3) := by decide +kernel
theorem dX7_behind_8 : decode cX7_behind 8 = .ok (.if_icmp .gt 20, 3) := by decide +kernel
theorem dX7_behind_11 : decode cX7_behind 11 = .ok (.iload_n 2, 1) := by decide +kernel
theorem dX7_behind_12 : decode cX7_behind 12 = .ok (.ifCond .lt 16, 3) := by decide +kernel
theorem dX7_behind_15 : decode cX7_behind 15 = .ok (.iload_n 2, 1) := by decide +kernel
theorem dX7_behind_16 : decode cX7_behind 16 = .ok (.iconst 3, 1) := by decide +kernel
theorem dX7_behind_17 : decode cX7_behind 17 = .ok (.aload_n 0, 1) := by decide +kernel
theorem dX7_behind_18 : decode cX7_behind 18 = .ok (.getfield 25, 3) := by decide +kernel
theorem dX7_behind_21 : decode cX7_behind 21 = .ok (.getfield 75, 3) := by decide +kernel
theorem dX7_behind_24 : decode cX7_behind 24 = .ok (.iadd, 1) := by decide +kernel
theorem dX7_behind_25 : decode cX7_behind 25 = .ok (.if_icmp .lt 6, 3) := by decide +kernel
theorem dX7_behind_28 : decode cX7_behind 28 = .ok (.ldc 74, 2) := by decide +kernel
theorem dX7_behind_30 : decode cX7_behind 30 = .ok (.ireturn, 1) := by decide +kernel
theorem dX7_behind_31 : decode cX7_behind 31 = .ok (.aload_n 0, 1) := by decide +kernel
theorem dX7_behind_32 : decode cX7_behind 32 = .ok (.getfield 32, 3) := by decide +kernel
theorem dX7_behind_35 : decode cX7_behind 35 = .ok (.aload_n 0, 1) := by decide +kernel
theorem dX7_behind_36 : decode cX7_behind 36 = .ok (.getfield 25, 3) := by decide +kernel
theorem dX7_behind_39 : decode cX7_behind 39 = .ok (.invokevirtual 161, 3) := by decide +kernel
theorem dX7_behind_42 : decode cX7_behind 42 = .ok (.aload_n 0, 1) := by decide +kernel
theorem dX7_behind_43 : decode cX7_behind 43 = .ok (.getfield 32, 3) := by decide +kernel
theorem dX7_behind_46 : decode cX7_behind 46 = .ok (.iload_n 1, 1) := by decide +kernel
theorem dX7_behind_47 : decode cX7_behind 47 = .ok (.invokevirtual 138, 3) := by decide +kernel
theorem dX7_behind_50 : decode cX7_behind 50 = .ok (.pop, 1) := by decide +kernel
theorem dX7_behind_51 : decode cX7_behind 51 = .ok (.iload_n 2, 1) := by decide +kernel
theorem dX7_behind_52 : decode cX7_behind 52 = .ok (.tableswitch 52 0 2 #[28, 36, 44], 28) := by decide +kernel
theorem dX7_behind_80 : decode cX7_behind 80 = .ok (.aload_n 0, 1) := by decide +kernel
theorem dX7_behind_81 : decode cX7_behind 81 = .ok (.getfield 32, 3) := by decide +kernel
theorem dX7_behind_84 : decode cX7_behind 84 = .ok (.invokevirtual 141, 3) := by decide +kernel
theorem dX7_behind_87 : decode cX7_behind 87 = .ok (.ireturn, 1) := by decide +kernel
theorem dX7_behind_88 : decode cX7_behind 88 = .ok (.aload_n 0, 1) := by decide +kernel
theorem dX7_behind_89 : decode cX7_behind 89 = .ok (.getfield 32, 3) := by decide +kernel
theorem dX7_behind_92 : decode cX7_behind 92 = .ok (.getfield 145, 3) := by decide +kernel
theorem dX7_behind_95 : decode cX7_behind 95 = .ok (.ireturn, 1) := by decide +kernel
theorem dX7_behind_96 : decode cX7_behind 96 = .ok (.aload_n 0, 1) := by decide +kernel
theorem dX7_behind_97 : decode cX7_behind 97 = .ok (.getfield 32, 3) := by decide +kernel
theorem dX7_behind_100 : decode cX7_behind 100 = .ok (.getfield 148, 3) := by decide +kernel
theorem dX7_behind_103 : decode cX7_behind 103 = .ok (.ireturn, 1) := by decide +kernel
theorem dX7_behind_104 : decode cX7_behind 104 = .ok (.aload_n 0, 1) := by decide +kernel
theorem dX7_behind_105 : decode cX7_behind 105 = .ok (.getfield 32, 3) := by decide +kernel
theorem dX7_behind_108 : decode cX7_behind 108 = .ok (.getfield 86, 3) := by decide +kernel
theorem dX7_behind_111 : decode cX7_behind 111 = .ok (.iload_n 2, 1) := by decide +kernel
theorem dX7_behind_112 : decode cX7_behind 112 = .ok (.iconst 3, 1) := by decide +kernel
theorem dX7_behind_113 : decode cX7_behind 113 = .ok (.isub, 1) := by decide +kernel
theorem dX7_behind_114 : decode cX7_behind 114 = .ok (.aaload, 1) := by decide +kernel
theorem dX7_behind_115 : decode cX7_behind 115 = .ok (.getfield 165, 3) := by decide +kernel
theorem dX7_behind_118 : decode cX7_behind 118 = .ok (.ireturn, 1) := by decide +kernel
theorem dX7_best_0 : decode cX7_best 0 = .ok (.aload_n 0, 1) := by decide +kernel
theorem dX7_best_1 : decode cX7_best 1 = .ok (.iload_n 1, 1) := by decide +kernel
theorem dX7_best_2 : decode cX7_best 2 = .ok (.invokevirtual 83, 3) := by decide +kernel
theorem dX7_best_5 : decode cX7_best 5 = .ok (.ifCond .eq 30, 3) := by decide +kernel
theorem dX7_best_8 : decode cX7_best 8 = .ok (.iload_n 2, 1) := by decide +kernel
theorem dX7_best_9 : decode cX7_best 9 = .ok (.ifCond .lt 26, 3) := by decide +kernel
theorem dX7_best_12 : decode cX7_best 12 = .ok (.iload_n 2, 1) := by decide +kernel
theorem dX7_best_13 : decode cX7_best 13 = .ok (.iconst 2, 1) := by decide +kernel
theorem dX7_best_14 : decode cX7_best 14 = .ok (.if_icmp .gt 21, 3) := by decide +kernel
theorem dX7_best_17 : decode cX7_best 17 = .ok (.iload_n 3, 1) := by decide +kernel
theorem dX7_best_18 : decode cX7_best 18 = .ok (.invokestatic 168, 3) := by decide +kernel
theorem dX7_best_21 : decode cX7_best 21 = .ok (.ifCond .eq 14, 3) := by decide +kernel
theorem dX7_best_24 : decode cX7_best 24 = .ok (.iload 4, 2) := by decide +kernel
theorem dX7_best_26 : decode cX7_best 26 = .ok (.ifCond .lt 9, 3) := by decide +kernel
theorem dX7_best_29 : decode cX7_best 29 = .ok (.iload 4, 2) := by decide +kernel
theorem dX7_best_31 : decode cX7_best 31 = .ok (.iconst 1, 1) := by decide +kernel
theorem dX7_best_32 : decode cX7_best 32 = .ok (.if_icmp .le 6, 3) := by decide +kernel
theorem dX7_best_35 : decode cX7_best 35 = .ok (.ldc 74, 2) := by decide +kernel
theorem dX7_best_37 : decode cX7_best 37 = .ok (.ireturn, 1) := by decide +kernel
theorem dX7_best_38 : decode cX7_best 38 = .ok (.iload_n 2, 1) := by decide +kernel
theorem dX7_best_39 : decode cX7_best 39 = .ok (.iconst 1, 1) := by decide +kernel
theorem dX7_best_40 : decode cX7_best 40 = .ok (.if_icmp .ne 7, 3) := by decide +kernel
theorem dX7_best_43 : decode cX7_best 43 = .ok (.iconst 0, 1) := by decide +kernel
theorem dX7_best_44 : decode cX7_best 44 = .ok (.goto 4, 3) := by decide +kernel
theorem dX7_best_47 : decode cX7_best 47 = .ok (.iconst 1, 1) := by decide +kernel
theorem dX7_best_48 : decode cX7_best 48 = .ok (.istore 5, 2) := by decide +kernel
theorem dX7_best_50 : decode cX7_best 50 = .ok (.iload_n 2, 1) := by decide +kernel
theorem dX7_best_51 : decode cX7_best 51 = .ok (.ifCond .ne 8, 3) := by decide +kernel
theorem dX7_best_54 : decode cX7_best 54 = .ok (.bipush 20, 2) := by decide +kernel
theorem dX7_best_56 : decode cX7_best 56 = .ok (.goto 15, 3) := by decide +kernel
theorem dX7_best_59 : decode cX7_best 59 = .ok (.iload_n 2, 1) := by decide +kernel
theorem dX7_best_60 : decode cX7_best 60 = .ok (.iconst 1, 1) := by decide +kernel
theorem dX7_best_61 : decode cX7_best 61 = .ok (.if_icmp .ne 8, 3) := by decide +kernel
theorem dX7_best_64 : decode cX7_best 64 = .ok (.bipush 9, 2) := by decide +kernel
theorem dX7_best_66 : decode cX7_best 66 = .ok (.goto 5, 3) := by decide +kernel
theorem dX7_best_69 : decode cX7_best 69 = .ok (.bipush 40, 2) := by decide +kernel
theorem dX7_best_71 : decode cX7_best 71 = .ok (.istore 6, 2) := by decide +kernel
theorem dX7_best_73 : decode cX7_best 73 = .ok (.iload_n 2, 1) := by decide +kernel
theorem dX7_best_74 : decode cX7_best 74 = .ok (.ifCond .ne 7, 3) := by decide +kernel
theorem dX7_best_77 : decode cX7_best 77 = .ok (.iconst 3, 1) := by decide +kernel
theorem dX7_best_78 : decode cX7_best 78 = .ok (.goto 13, 3) := by decide +kernel
theorem dX7_best_81 : decode cX7_best 81 = .ok (.iload_n 2, 1) := by decide +kernel
theorem dX7_best_82 : decode cX7_best 82 = .ok (.iconst 1, 1) := by decide +kernel
theorem dX7_best_83 : decode cX7_best 83 = .ok (.if_icmp .ne 7, 3) := by decide +kernel
theorem dX7_best_86 : decode cX7_best 86 = .ok (.iconst 1, 1) := by decide +kernel
theorem dX7_best_87 : decode cX7_best 87 = .ok (.goto 4, 3) := by decide +kernel
theorem dX7_best_90 : decode cX7_best 90 = .ok (.iconst 2, 1) := by decide +kernel
theorem dX7_best_91 : decode cX7_best 91 = .ok (.istore 7, 2) := by decide +kernel
theorem dX7_best_93 : decode cX7_best 93 = .ok (.iload 5, 2) := by decide +kernel
theorem dX7_best_95 : decode cX7_best 95 = .ok (.istore 8, 2) := by decide +kernel
theorem dX7_best_97 : decode cX7_best 97 = .ok (.iconst 0, 1) := by decide +kernel
theorem dX7_best_98 : decode cX7_best 98 = .ok (.istore 9, 2) := by decide +kernel
theorem dX7_best_100 : decode cX7_best 100 = .ok (.iload 5, 2) := by decide +kernel
theorem dX7_best_102 : decode cX7_best 102 = .ok (.istore 10, 2) := by decide +kernel
theorem dX7_best_104 : decode cX7_best 104 = .ok (.iload 10, 2) := by decide +kernel
theorem dX7_best_106 : decode cX7_best 106 = .ok (.iload 6, 2) := by decide +kernel
theorem dX7_best_108 : decode cX7_best 108 = .ok (.if_icmp .gt 81, 3) := by decide +kernel
theorem dX7_best_111 : decode cX7_best 111 = .ok (.aload_n 0, 1) := by decide +kernel
theorem dX7_best_112 : decode cX7_best 112 = .ok (.getfield 32, 3) := by decide +kernel
theorem dX7_best_115 : decode cX7_best 115 = .ok (.aload_n 0, 1) := by decide +kernel
theorem dX7_best_116 : decode cX7_best 116 = .ok (.getfield 25, 3) := by decide +kernel
theorem dX7_best_119 : decode cX7_best 119 = .ok (.invokevirtual 161, 3) := by decide +kernel
theorem dX7_best_122 : decode cX7_best 122 = .ok (.aload_n 0, 1) := by decide +kernel
theorem dX7_best_123 : decode cX7_best 123 = .ok (.getfield 32, 3) := by decide +kernel
theorem dX7_best_126 : decode cX7_best 126 = .ok (.getfield 86, 3) := by decide +kernel
theorem dX7_best_129 : decode cX7_best 129 = .ok (.iload_n 1, 1) := by decide +kernel
theorem dX7_best_130 : decode cX7_best 130 = .ok (.aaload, 1) := by decide +kernel
theorem dX7_best_131 : decode cX7_best 131 = .ok (.iload 7, 2) := by decide +kernel
theorem dX7_best_133 : decode cX7_best 133 = .ok (.iload 10, 2) := by decide +kernel
theorem dX7_best_135 : decode cX7_best 135 = .ok (.invokevirtual 110, 3) := by decide +kernel
theorem dX7_best_138 : decode cX7_best 138 = .ok (.aload_n 0, 1) := by decide +kernel
theorem dX7_best_139 : decode cX7_best 139 = .ok (.getfield 32, 3) := by decide +kernel
theorem dX7_best_142 : decode cX7_best 142 = .ok (.iload_n 3, 1) := by decide +kernel
theorem dX7_best_143 : decode cX7_best 143 = .ok (.invokevirtual 138, 3) := by decide +kernel
theorem dX7_best_146 : decode cX7_best 146 = .ok (.pop, 1) := by decide +kernel
theorem dX7_best_147 : decode cX7_best 147 = .ok (.aload_n 0, 1) := by decide +kernel
theorem dX7_best_148 : decode cX7_best 148 = .ok (.getfield 32, 3) := by decide +kernel
theorem dX7_best_151 : decode cX7_best 151 = .ok (.getfield 86, 3) := by decide +kernel
theorem dX7_best_154 : decode cX7_best 154 = .ok (.iload_n 1, 1) := by decide +kernel
theorem dX7_best_155 : decode cX7_best 155 = .ok (.aaload, 1) := by decide +kernel
theorem dX7_best_156 : decode cX7_best 156 = .ok (.getfield 165, 3) := by decide +kernel
theorem dX7_best_159 : decode cX7_best 159 = .ok (.istore 11, 2) := by decide +kernel
theorem dX7_best_161 : decode cX7_best 161 = .ok (.iload 10, 2) := by decide +kernel
theorem dX7_best_163 : decode cX7_best 163 = .ok (.iload 5, 2) := by decide +kernel
theorem dX7_best_165 : decode cX7_best 165 = .ok (.if_icmp .eq 10, 3) := by decide +kernel
theorem dX7_best_168 : decode cX7_best 168 = .ok (.iload 11, 2) := by decide +kernel
theorem dX7_best_170 : decode cX7_best 170 = .ok (.iload 9, 2) := by decide +kernel
theorem dX7_best_172 : decode cX7_best 172 = .ok (.if_icmp .le 11, 3) := by decide +kernel
theorem dX7_best_175 : decode cX7_best 175 = .ok (.iload 10, 2) := by decide +kernel
theorem dX7_best_177 : decode cX7_best 177 = .ok (.istore 8, 2) := by decide +kernel
theorem dX7_best_179 : decode cX7_best 179 = .ok (.iload 11, 2) := by decide +kernel
theorem dX7_best_181 : decode cX7_best 181 = .ok (.istore 9, 2) := by decide +kernel
theorem dX7_best_183 : decode cX7_best 183 = .ok (.iinc 10 1, 3) := by decide +kernel
theorem dX7_best_186 : decode cX7_best 186 = .ok (.goto (-82), 3) := by decide +kernel
theorem dX7_best_189 : decode cX7_best 189 = .ok (.iload 4, 2) := by decide +kernel
theorem dX7_best_191 : decode cX7_best 191 = .ok (.ifCond .ne 8, 3) := by decide +kernel
theorem dX7_best_194 : decode cX7_best 194 = .ok (.iload 8, 2) := by decide +kernel
theorem dX7_best_196 : decode cX7_best 196 = .ok (.goto 5, 3) := by decide +kernel
theorem dX7_best_199 : decode cX7_best 199 = .ok (.iload 9, 2) := by decide +kernel
theorem dX7_best_201 : decode cX7_best 201 = .ok (.ireturn, 1) := by decide +kernel
theorem dX7_bestShare_0 : decode cX7_bestShare 0 = .ok (.iload_n 1, 1) := by decide +kernel
theorem dX7_bestShare_1 : decode cX7_bestShare 1 = .ok (.invokestatic 168, 3) := by decide +kernel
theorem dX7_bestShare_4 : decode cX7_bestShare 4 = .ok (.ifCond .eq 12, 3) := by decide +kernel
theorem dX7_bestShare_7 : decode cX7_bestShare 7 = .ok (.iload_n 2, 1) := by decide +kernel
theorem dX7_bestShare_8 : decode cX7_bestShare 8 = .ok (.ifCond .lt 8, 3) := by decide +kernel
theorem dX7_bestShare_11 : decode cX7_bestShare 11 = .ok (.iload_n 2, 1) := by decide +kernel
theorem dX7_bestShare_12 : decode cX7_bestShare 12 = .ok (.iconst 1, 1) := by decide +kernel
theorem dX7_bestShare_13 : decode cX7_bestShare 13 = .ok (.if_icmp .le 6, 3) := by decide +kernel
theorem dX7_bestShare_16 : decode cX7_bestShare 16 = .ok (.ldc 74, 2) := by decide +kernel
theorem dX7_bestShare_18 : decode cX7_bestShare 18 = .ok (.ireturn, 1) := by decide +kernel
theorem dX7_bestShare_19 : decode cX7_bestShare 19 = .ok (.iconst 0, 1) := by decide +kernel
theorem dX7_bestShare_20 : decode cX7_bestShare 20 = .ok (.istore_n 3, 1) := by decide +kernel
theorem dX7_bestShare_21 : decode cX7_bestShare 21 = .ok (.iconst 0, 1) := by decide +kernel
theorem dX7_bestShare_22 : decode cX7_bestShare 22 = .ok (.istore 4, 2) := by decide +kernel
theorem dX7_bestShare_24 : decode cX7_bestShare 24 = .ok (.iconst 0, 1) := by decide +kernel
theorem dX7_bestShare_25 : decode cX7_bestShare 25 = .ok (.istore 5, 2) := by decide +kernel
theorem dX7_bestShare_27 : decode cX7_bestShare 27 = .ok (.iload 5, 2) := by decide +kernel
theorem dX7_bestShare_29 : decode cX7_bestShare 29 = .ok (.bipush 99, 2) := by decide +kernel
theorem dX7_bestShare_31 : decode cX7_bestShare 31 = .ok (.if_icmp .gt 67, 3) := by decide +kernel
theorem dX7_bestShare_34 : decode cX7_bestShare 34 = .ok (.aload_n 0, 1) := by decide +kernel
theorem dX7_bestShare_35 : decode cX7_bestShare 35 = .ok (.getfield 32, 3) := by decide +kernel
theorem dX7_bestShare_38 : decode cX7_bestShare 38 = .ok (.aload_n 0, 1) := by decide +kernel
theorem dX7_bestShare_39 : decode cX7_bestShare 39 = .ok (.getfield 25, 3) := by decide +kernel
theorem dX7_bestShare_42 : decode cX7_bestShare 42 = .ok (.invokevirtual 161, 3) := by decide +kernel
theorem dX7_bestShare_45 : decode cX7_bestShare 45 = .ok (.aload_n 0, 1) := by decide +kernel
theorem dX7_bestShare_46 : decode cX7_bestShare 46 = .ok (.getfield 32, 3) := by decide +kernel
theorem dX7_bestShare_49 : decode cX7_bestShare 49 = .ok (.iload 5, 2) := by decide +kernel
theorem dX7_bestShare_51 : decode cX7_bestShare 51 = .ok (.putfield 126, 3) := by decide +kernel
theorem dX7_bestShare_54 : decode cX7_bestShare 54 = .ok (.aload_n 0, 1) := by decide +kernel
theorem dX7_bestShare_55 : decode cX7_bestShare 55 = .ok (.getfield 32, 3) := by decide +kernel
theorem dX7_bestShare_58 : decode cX7_bestShare 58 = .ok (.iload_n 1, 1) := by decide +kernel
theorem dX7_bestShare_59 : decode cX7_bestShare 59 = .ok (.invokevirtual 138, 3) := by decide +kernel
theorem dX7_bestShare_62 : decode cX7_bestShare 62 = .ok (.pop, 1) := by decide +kernel
theorem dX7_bestShare_63 : decode cX7_bestShare 63 = .ok (.iload 5, 2) := by decide +kernel
theorem dX7_bestShare_65 : decode cX7_bestShare 65 = .ok (.ifCond .eq 15, 3) := by decide +kernel
theorem dX7_bestShare_68 : decode cX7_bestShare 68 = .ok (.aload_n 0, 1) := by decide +kernel
theorem dX7_bestShare_69 : decode cX7_bestShare 69 = .ok (.getfield 32, 3) := by decide +kernel
theorem dX7_bestShare_72 : decode cX7_bestShare 72 = .ok (.getfield 145, 3) := by decide +kernel
theorem dX7_bestShare_75 : decode cX7_bestShare 75 = .ok (.iload 4, 2) := by decide +kernel
theorem dX7_bestShare_77 : decode cX7_bestShare 77 = .ok (.if_icmp .le 15, 3) := by decide +kernel
theorem dX7_bestShare_80 : decode cX7_bestShare 80 = .ok (.iload 5, 2) := by decide +kernel
theorem dX7_bestShare_82 : decode cX7_bestShare 82 = .ok (.istore_n 3, 1) := by decide +kernel
theorem dX7_bestShare_83 : decode cX7_bestShare 83 = .ok (.aload_n 0, 1) := by decide +kernel
theorem dX7_bestShare_84 : decode cX7_bestShare 84 = .ok (.getfield 32, 3) := by decide +kernel
theorem dX7_bestShare_87 : decode cX7_bestShare 87 = .ok (.getfield 145, 3) := by decide +kernel
theorem dX7_bestShare_90 : decode cX7_bestShare 90 = .ok (.istore 4, 2) := by decide +kernel
theorem dX7_bestShare_92 : decode cX7_bestShare 92 = .ok (.iinc 5 1, 3) := by decide +kernel
theorem dX7_bestShare_95 : decode cX7_bestShare 95 = .ok (.goto (-68), 3) := by decide +kernel
theorem dX7_bestShare_98 : decode cX7_bestShare 98 = .ok (.iload_n 2, 1) := by decide +kernel
theorem dX7_bestShare_99 : decode cX7_bestShare 99 = .ok (.ifCond .ne 7, 3) := by decide +kernel
theorem dX7_bestShare_102 : decode cX7_bestShare 102 = .ok (.iload_n 3, 1) := by decide +kernel
theorem dX7_bestShare_103 : decode cX7_bestShare 103 = .ok (.goto 5, 3) := by decide +kernel
theorem dX7_bestShare_106 : decode cX7_bestShare 106 = .ok (.iload 4, 2) := by decide +kernel
theorem dX7_bestShare_108 : decode cX7_bestShare 108 = .ok (.ireturn, 1) := by decide +kernel
theorem dX7_sentAway_0 : decode cX7_sentAway 0 = .ok (.iload_n 1, 1) := by decide +kernel
theorem dX7_sentAway_1 : decode cX7_sentAway 1 = .ok (.invokestatic 168, 3) := by decide +kernel
theorem dX7_sentAway_4 : decode cX7_sentAway 4 = .ok (.ifCond .eq 12, 3) := by decide +kernel
theorem dX7_sentAway_7 : decode cX7_sentAway 7 = .ok (.iload_n 2, 1) := by decide +kernel
theorem dX7_sentAway_8 : decode cX7_sentAway 8 = .ok (.ifCond .lt 8, 3) := by decide +kernel
theorem dX7_sentAway_11 : decode cX7_sentAway 11 = .ok (.iload_n 2, 1) := by decide +kernel
theorem dX7_sentAway_12 : decode cX7_sentAway 12 = .ok (.iconst 1, 1) := by decide +kernel
theorem dX7_sentAway_13 : decode cX7_sentAway 13 = .ok (.if_icmp .le 6, 3) := by decide +kernel
theorem dX7_sentAway_16 : decode cX7_sentAway 16 = .ok (.ldc 74, 2) := by decide +kernel
theorem dX7_sentAway_18 : decode cX7_sentAway 18 = .ok (.ireturn, 1) := by decide +kernel
theorem dX7_sentAway_19 : decode cX7_sentAway 19 = .ok (.aload_n 0, 1) := by decide +kernel
theorem dX7_sentAway_20 : decode cX7_sentAway 20 = .ok (.getfield 25, 3) := by decide +kernel
theorem dX7_sentAway_23 : decode cX7_sentAway 23 = .ok (.getfield 75, 3) := by decide +kernel
theorem dX7_sentAway_26 : decode cX7_sentAway 26 = .ok (.ifCond .ne 6, 3) := by decide +kernel
theorem dX7_sentAway_29 : decode cX7_sentAway 29 = .ok (.ldc 160, 2) := by decide +kernel
theorem dX7_sentAway_31 : decode cX7_sentAway 31 = .ok (.ireturn, 1) := by decide +kernel
theorem dX7_sentAway_32 : decode cX7_sentAway 32 = .ok (.iconst 0, 1) := by decide +kernel
theorem dX7_sentAway_33 : decode cX7_sentAway 33 = .ok (.istore_n 3, 1) := by decide +kernel
theorem dX7_sentAway_34 : decode cX7_sentAway 34 = .ok (.iconst 0, 1) := by decide +kernel
theorem dX7_sentAway_35 : decode cX7_sentAway 35 = .ok (.istore 4, 2) := by decide +kernel
theorem dX7_sentAway_37 : decode cX7_sentAway 37 = .ok (.iconst 0, 1) := by decide +kernel
theorem dX7_sentAway_38 : decode cX7_sentAway 38 = .ok (.istore 5, 2) := by decide +kernel
theorem dX7_sentAway_40 : decode cX7_sentAway 40 = .ok (.iload 5, 2) := by decide +kernel
theorem dX7_sentAway_42 : decode cX7_sentAway 42 = .ok (.aload_n 0, 1) := by decide +kernel
theorem dX7_sentAway_43 : decode cX7_sentAway 43 = .ok (.getfield 25, 3) := by decide +kernel
theorem dX7_sentAway_46 : decode cX7_sentAway 46 = .ok (.getfield 75, 3) := by decide +kernel
theorem dX7_sentAway_49 : decode cX7_sentAway 49 = .ok (.if_icmp .ge 66, 3) := by decide +kernel
theorem dX7_sentAway_52 : decode cX7_sentAway 52 = .ok (.aload_n 0, 1) := by decide +kernel
theorem dX7_sentAway_53 : decode cX7_sentAway 53 = .ok (.getfield 32, 3) := by decide +kernel
theorem dX7_sentAway_56 : decode cX7_sentAway 56 = .ok (.aload_n 0, 1) := by decide +kernel
theorem dX7_sentAway_57 : decode cX7_sentAway 57 = .ok (.getfield 25, 3) := by decide +kernel
theorem dX7_sentAway_60 : decode cX7_sentAway 60 = .ok (.invokevirtual 161, 3) := by decide +kernel
theorem dX7_sentAway_63 : decode cX7_sentAway 63 = .ok (.aload_n 0, 1) := by decide +kernel
theorem dX7_sentAway_64 : decode cX7_sentAway 64 = .ok (.getfield 32, 3) := by decide +kernel
theorem dX7_sentAway_67 : decode cX7_sentAway 67 = .ok (.iload 5, 2) := by decide +kernel
theorem dX7_sentAway_69 : decode cX7_sentAway 69 = .ok (.putfield 171, 3) := by decide +kernel
theorem dX7_sentAway_72 : decode cX7_sentAway 72 = .ok (.aload_n 0, 1) := by decide +kernel
theorem dX7_sentAway_73 : decode cX7_sentAway 73 = .ok (.getfield 32, 3) := by decide +kernel
theorem dX7_sentAway_76 : decode cX7_sentAway 76 = .ok (.iload_n 1, 1) := by decide +kernel
theorem dX7_sentAway_77 : decode cX7_sentAway 77 = .ok (.invokevirtual 138, 3) := by decide +kernel
theorem dX7_sentAway_80 : decode cX7_sentAway 80 = .ok (.pop, 1) := by decide +kernel
theorem dX7_sentAway_81 : decode cX7_sentAway 81 = .ok (.aload_n 0, 1) := by decide +kernel
theorem dX7_sentAway_82 : decode cX7_sentAway 82 = .ok (.getfield 32, 3) := by decide +kernel
theorem dX7_sentAway_85 : decode cX7_sentAway 85 = .ok (.invokevirtual 141, 3) := by decide +kernel
theorem dX7_sentAway_88 : decode cX7_sentAway 88 = .ok (.istore 6, 2) := by decide +kernel
theorem dX7_sentAway_90 : decode cX7_sentAway 90 = .ok (.iload 5, 2) := by decide +kernel
theorem dX7_sentAway_92 : decode cX7_sentAway 92 = .ok (.ifCond .eq 10, 3) := by decide +kernel
theorem dX7_sentAway_95 : decode cX7_sentAway 95 = .ok (.iload 6, 2) := by decide +kernel
theorem dX7_sentAway_97 : decode cX7_sentAway 97 = .ok (.iload 4, 2) := by decide +kernel
theorem dX7_sentAway_99 : decode cX7_sentAway 99 = .ok (.if_icmp .le 10, 3) := by decide +kernel
theorem dX7_sentAway_102 : decode cX7_sentAway 102 = .ok (.iload 5, 2) := by decide +kernel
theorem dX7_sentAway_104 : decode cX7_sentAway 104 = .ok (.istore_n 3, 1) := by decide +kernel
theorem dX7_sentAway_105 : decode cX7_sentAway 105 = .ok (.iload 6, 2) := by decide +kernel
theorem dX7_sentAway_107 : decode cX7_sentAway 107 = .ok (.istore 4, 2) := by decide +kernel
theorem dX7_sentAway_109 : decode cX7_sentAway 109 = .ok (.iinc 5 1, 3) := by decide +kernel
theorem dX7_sentAway_112 : decode cX7_sentAway 112 = .ok (.goto (-72), 3) := by decide +kernel
theorem dX7_sentAway_115 : decode cX7_sentAway 115 = .ok (.iload_n 2, 1) := by decide +kernel
theorem dX7_sentAway_116 : decode cX7_sentAway 116 = .ok (.ifCond .ne 7, 3) := by decide +kernel
theorem dX7_sentAway_119 : decode cX7_sentAway 119 = .ok (.iload_n 3, 1) := by decide +kernel
theorem dX7_sentAway_120 : decode cX7_sentAway 120 = .ok (.goto 5, 3) := by decide +kernel
theorem dX7_sentAway_123 : decode cX7_sentAway 123 = .ok (.iload 4, 2) := by decide +kernel
theorem dX7_sentAway_125 : decode cX7_sentAway 125 = .ok (.ireturn, 1) := by decide +kernel
theorem dX7_dry_0 : decode cX7_dry 0 = .ok (.iload_n 1, 1) := by decide +kernel
theorem dX7_dry_1 : decode cX7_dry 1 = .ok (.invokestatic 168, 3) := by decide +kernel
theorem dX7_dry_4 : decode cX7_dry 4 = .ok (.ifCond .ne 6, 3) := by decide +kernel
theorem dX7_dry_7 : decode cX7_dry 7 = .ok (.ldc 74, 2) := by decide +kernel
theorem dX7_dry_9 : decode cX7_dry 9 = .ok (.ireturn, 1) := by decide +kernel
theorem dX7_dry_10 : decode cX7_dry 10 = .ok (.aload_n 0, 1) := by decide +kernel
theorem dX7_dry_11 : decode cX7_dry 11 = .ok (.getfield 32, 3) := by decide +kernel
theorem dX7_dry_14 : decode cX7_dry 14 = .ok (.aload_n 0, 1) := by decide +kernel
theorem dX7_dry_15 : decode cX7_dry 15 = .ok (.getfield 25, 3) := by decide +kernel
theorem dX7_dry_18 : decode cX7_dry 18 = .ok (.invokevirtual 161, 3) := by decide +kernel
theorem dX7_dry_21 : decode cX7_dry 21 = .ok (.aload_n 0, 1) := by decide +kernel
theorem dX7_dry_22 : decode cX7_dry 22 = .ok (.getfield 32, 3) := by decide +kernel
theorem dX7_dry_25 : decode cX7_dry 25 = .ok (.iload_n 1, 1) := by decide +kernel
theorem dX7_dry_26 : decode cX7_dry 26 = .ok (.invokevirtual 138, 3) := by decide +kernel
theorem dX7_dry_29 : decode cX7_dry 29 = .ok (.pop, 1) := by decide +kernel
theorem dX7_dry_30 : decode cX7_dry 30 = .ok (.aload_n 0, 1) := by decide +kernel
theorem dX7_dry_31 : decode cX7_dry 31 = .ok (.getfield 32, 3) := by decide +kernel
theorem dX7_dry_34 : decode cX7_dry 34 = .ok (.invokevirtual 141, 3) := by decide +kernel
theorem dX7_dry_37 : decode cX7_dry 37 = .ok (.istore_n 2, 1) := by decide +kernel
theorem dX7_dry_38 : decode cX7_dry 38 = .ok (.aload_n 0, 1) := by decide +kernel
theorem dX7_dry_39 : decode cX7_dry 39 = .ok (.getfield 32, 3) := by decide +kernel
theorem dX7_dry_42 : decode cX7_dry 42 = .ok (.aload_n 0, 1) := by decide +kernel
theorem dX7_dry_43 : decode cX7_dry 43 = .ok (.getfield 25, 3) := by decide +kernel
theorem dX7_dry_46 : decode cX7_dry 46 = .ok (.invokevirtual 161, 3) := by decide +kernel
theorem dX7_dry_49 : decode cX7_dry 49 = .ok (.aload_n 0, 1) := by decide +kernel
theorem dX7_dry_50 : decode cX7_dry 50 = .ok (.getfield 32, 3) := by decide +kernel
theorem dX7_dry_53 : decode cX7_dry 53 = .ok (.iconst 0, 1) := by decide +kernel
theorem dX7_dry_54 : decode cX7_dry 54 = .ok (.putfield 132, 3) := by decide +kernel
theorem dX7_dry_57 : decode cX7_dry 57 = .ok (.aload_n 0, 1) := by decide +kernel
theorem dX7_dry_58 : decode cX7_dry 58 = .ok (.getfield 32, 3) := by decide +kernel
theorem dX7_dry_61 : decode cX7_dry 61 = .ok (.iconst 0, 1) := by decide +kernel
theorem dX7_dry_62 : decode cX7_dry 62 = .ok (.putfield 129, 3) := by decide +kernel
theorem dX7_dry_65 : decode cX7_dry 65 = .ok (.aload_n 0, 1) := by decide +kernel
theorem dX7_dry_66 : decode cX7_dry 66 = .ok (.getfield 32, 3) := by decide +kernel
theorem dX7_dry_69 : decode cX7_dry 69 = .ok (.iload_n 1, 1) := by decide +kernel
theorem dX7_dry_70 : decode cX7_dry 70 = .ok (.invokevirtual 138, 3) := by decide +kernel
theorem dX7_dry_73 : decode cX7_dry 73 = .ok (.pop, 1) := by decide +kernel
theorem dX7_dry_74 : decode cX7_dry 74 = .ok (.aload_n 0, 1) := by decide +kernel
theorem dX7_dry_75 : decode cX7_dry 75 = .ok (.getfield 32, 3) := by decide +kernel
theorem dX7_dry_78 : decode cX7_dry 78 = .ok (.invokevirtual 141, 3) := by decide +kernel
theorem dX7_dry_81 : decode cX7_dry 81 = .ok (.iload_n 2, 1) := by decide +kernel
theorem dX7_dry_82 : decode cX7_dry 82 = .ok (.isub, 1) := by decide +kernel
theorem dX7_dry_83 : decode cX7_dry 83 = .ok (.ireturn, 1) := by decide +kernel
theorem dX7_shone_0 : decode cX7_shone 0 = .ok (.iload_n 1, 1) := by decide +kernel
theorem dX7_shone_1 : decode cX7_shone 1 = .ok (.invokestatic 174, 3) := by decide +kernel
theorem dX7_shone_4 : decode cX7_shone 4 = .ok (.ifCond .eq 12, 3) := by decide +kernel
theorem dX7_shone_7 : decode cX7_shone 7 = .ok (.iload_n 2, 1) := by decide +kernel
theorem dX7_shone_8 : decode cX7_shone 8 = .ok (.ifCond .lt 8, 3) := by decide +kernel
theorem dX7_shone_11 : decode cX7_shone 11 = .ok (.iload_n 2, 1) := by decide +kernel
theorem dX7_shone_12 : decode cX7_shone 12 = .ok (.iconst 1, 1) := by decide +kernel
theorem dX7_shone_13 : decode cX7_shone 13 = .ok (.if_icmp .le 6, 3) := by decide +kernel
theorem dX7_shone_16 : decode cX7_shone 16 = .ok (.ldc 74, 2) := by decide +kernel
theorem dX7_shone_18 : decode cX7_shone 18 = .ok (.ireturn, 1) := by decide +kernel
theorem dX7_shone_19 : decode cX7_shone 19 = .ok (.aload_n 0, 1) := by decide +kernel
theorem dX7_shone_20 : decode cX7_shone 20 = .ok (.getfield 37, 3) := by decide +kernel
theorem dX7_shone_23 : decode cX7_shone 23 = .ok (.iload_n 1, 1) := by decide +kernel
theorem dX7_shone_24 : decode cX7_shone 24 = .ok (.aaload, 1) := by decide +kernel
theorem dX7_shone_25 : decode cX7_shone 25 = .ok (.invokevirtual 177, 3) := by decide +kernel
theorem dX7_shone_28 : decode cX7_shone 28 = .ok (.ifCond .eq 6, 3) := by decide +kernel
theorem dX7_shone_31 : decode cX7_shone 31 = .ok (.ldc 181, 2) := by decide +kernel
theorem dX7_shone_33 : decode cX7_shone 33 = .ok (.ireturn, 1) := by decide +kernel
theorem dX7_shone_34 : decode cX7_shone 34 = .ok (.aload_n 0, 1) := by decide +kernel
theorem dX7_shone_35 : decode cX7_shone 35 = .ok (.getfield 25, 3) := by decide +kernel
theorem dX7_shone_38 : decode cX7_shone 38 = .ok (.getfield 75, 3) := by decide +kernel
theorem dX7_shone_41 : decode cX7_shone 41 = .ok (.ifCond .ne 6, 3) := by decide +kernel
theorem dX7_shone_44 : decode cX7_shone 44 = .ok (.ldc 160, 2) := by decide +kernel
theorem dX7_shone_46 : decode cX7_shone 46 = .ok (.ireturn, 1) := by decide +kernel
theorem dX7_shone_47 : decode cX7_shone 47 = .ok (.iconst 0, 1) := by decide +kernel
theorem dX7_shone_48 : decode cX7_shone 48 = .ok (.istore_n 3, 1) := by decide +kernel
theorem dX7_shone_49 : decode cX7_shone 49 = .ok (.iconst 0, 1) := by decide +kernel
theorem dX7_shone_50 : decode cX7_shone 50 = .ok (.istore 4, 2) := by decide +kernel
theorem dX7_shone_52 : decode cX7_shone 52 = .ok (.iconst 0, 1) := by decide +kernel
theorem dX7_shone_53 : decode cX7_shone 53 = .ok (.istore 5, 2) := by decide +kernel
theorem dX7_shone_55 : decode cX7_shone 55 = .ok (.iload 5, 2) := by decide +kernel
theorem dX7_shone_57 : decode cX7_shone 57 = .ok (.aload_n 0, 1) := by decide +kernel
theorem dX7_shone_58 : decode cX7_shone 58 = .ok (.getfield 25, 3) := by decide +kernel
theorem dX7_shone_61 : decode cX7_shone 61 = .ok (.getfield 75, 3) := by decide +kernel
theorem dX7_shone_64 : decode cX7_shone 64 = .ok (.if_icmp .ge 50, 3) := by decide +kernel
theorem dX7_shone_67 : decode cX7_shone 67 = .ok (.aload_n 0, 1) := by decide +kernel
theorem dX7_shone_68 : decode cX7_shone 68 = .ok (.aload_n 0, 1) := by decide +kernel
theorem dX7_shone_69 : decode cX7_shone 69 = .ok (.getfield 25, 3) := by decide +kernel
theorem dX7_shone_72 : decode cX7_shone 72 = .ok (.getfield 86, 3) := by decide +kernel
theorem dX7_shone_75 : decode cX7_shone 75 = .ok (.iload 5, 2) := by decide +kernel
theorem dX7_shone_77 : decode cX7_shone 77 = .ok (.aaload, 1) := by decide +kernel
theorem dX7_shone_78 : decode cX7_shone 78 = .ok (.aload_n 0, 1) := by decide +kernel
theorem dX7_shone_79 : decode cX7_shone 79 = .ok (.getfield 37, 3) := by decide +kernel
theorem dX7_shone_82 : decode cX7_shone 82 = .ok (.iload_n 1, 1) := by decide +kernel
theorem dX7_shone_83 : decode cX7_shone 83 = .ok (.aaload, 1) := by decide +kernel
theorem dX7_shone_84 : decode cX7_shone 84 = .ok (.invokevirtual 182, 3) := by decide +kernel
theorem dX7_shone_87 : decode cX7_shone 87 = .ok (.istore 6, 2) := by decide +kernel
theorem dX7_shone_89 : decode cX7_shone 89 = .ok (.iload 5, 2) := by decide +kernel
theorem dX7_shone_91 : decode cX7_shone 91 = .ok (.ifCond .eq 10, 3) := by decide +kernel
theorem dX7_shone_94 : decode cX7_shone 94 = .ok (.iload 6, 2) := by decide +kernel
theorem dX7_shone_96 : decode cX7_shone 96 = .ok (.iload 4, 2) := by decide +kernel
theorem dX7_shone_98 : decode cX7_shone 98 = .ok (.if_icmp .ge 10, 3) := by decide +kernel
theorem dX7_shone_101 : decode cX7_shone 101 = .ok (.iload 5, 2) := by decide +kernel
theorem dX7_shone_103 : decode cX7_shone 103 = .ok (.istore_n 3, 1) := by decide +kernel
theorem dX7_shone_104 : decode cX7_shone 104 = .ok (.iload 6, 2) := by decide +kernel
theorem dX7_shone_106 : decode cX7_shone 106 = .ok (.istore 4, 2) := by decide +kernel
theorem dX7_shone_108 : decode cX7_shone 108 = .ok (.iinc 5 1, 3) := by decide +kernel
theorem dX7_shone_111 : decode cX7_shone 111 = .ok (.goto (-56), 3) := by decide +kernel
theorem dX7_shone_114 : decode cX7_shone 114 = .ok (.iload_n 2, 1) := by decide +kernel
theorem dX7_shone_115 : decode cX7_shone 115 = .ok (.ifCond .ne 7, 3) := by decide +kernel
theorem dX7_shone_118 : decode cX7_shone 118 = .ok (.iload_n 3, 1) := by decide +kernel
theorem dX7_shone_119 : decode cX7_shone 119 = .ok (.goto 5, 3) := by decide +kernel
theorem dX7_shone_122 : decode cX7_shone 122 = .ok (.iload 4, 2) := by decide +kernel
theorem dX7_shone_124 : decode cX7_shone 124 = .ok (.ireturn, 1) := by decide +kernel
theorem dX7_fee_0 : decode cX7_fee 0 = .ok (.aload_n 0, 1) := by decide +kernel
theorem dX7_fee_1 : decode cX7_fee 1 = .ok (.getfield 25, 3) := by decide +kernel
theorem dX7_fee_4 : decode cX7_fee 4 = .ok (.iconst 1, 1) := by decide +kernel
theorem dX7_fee_5 : decode cX7_fee 5 = .ok (.invokevirtual 186, 3) := by decide +kernel
theorem dX7_fee_8 : decode cX7_fee 8 = .ok (.astore_n 1, 1) := by decide +kernel
theorem dX7_fee_9 : decode cX7_fee 9 = .ok (.aload_n 1, 1) := by decide +kernel
theorem dX7_fee_10 : decode cX7_fee 10 = .ok (.ifnonnull 13, 3) := by decide +kernel
theorem dX7_fee_13 : decode cX7_fee 13 = .ok (.aload_n 0, 1) := by decide +kernel
theorem dX7_fee_14 : decode cX7_fee 14 = .ok (.getfield 25, 3) := by decide +kernel
theorem dX7_fee_17 : decode cX7_fee 17 = .ok (.getfield 148, 3) := by decide +kernel
theorem dX7_fee_20 : decode cX7_fee 20 = .ok (.goto 22, 3) := by decide +kernel
theorem dX7_fee_23 : decode cX7_fee 23 = .ok (.aload_n 1, 1) := by decide +kernel
theorem dX7_fee_24 : decode cX7_fee 24 = .ok (.aload_n 0, 1) := by decide +kernel
theorem dX7_fee_25 : decode cX7_fee 25 = .ok (.getfield 25, 3) := by decide +kernel
theorem dX7_fee_28 : decode cX7_fee 28 = .ok (.getfield 148, 3) := by decide +kernel
theorem dX7_fee_31 : decode cX7_fee 31 = .ok (.aload_n 0, 1) := by decide +kernel
theorem dX7_fee_32 : decode cX7_fee 32 = .ok (.getfield 25, 3) := by decide +kernel
theorem dX7_fee_35 : decode cX7_fee 35 = .ok (.getfield 145, 3) := by decide +kernel
theorem dX7_fee_38 : decode cX7_fee 38 = .ok (.iconst 0, 1) := by decide +kernel
theorem dX7_fee_39 : decode cX7_fee 39 = .ok (.invokevirtual 190, 3) := by decide +kernel
theorem dX7_fee_42 : decode cX7_fee 42 = .ok (.ireturn, 1) := by decide +kernel
theorem dX7_fine_0 : decode cX7_fine 0 = .ok (.aload_n 0, 1) := by decide +kernel
theorem dX7_fine_1 : decode cX7_fine 1 = .ok (.iload_n 1, 1) := by decide +kernel
theorem dX7_fine_2 : decode cX7_fine 2 = .ok (.invokevirtual 83, 3) := by decide +kernel
theorem dX7_fine_5 : decode cX7_fine 5 = .ok (.ifCond .ne 6, 3) := by decide +kernel
theorem dX7_fine_8 : decode cX7_fine 8 = .ok (.ldc 74, 2) := by decide +kernel
theorem dX7_fine_10 : decode cX7_fine 10 = .ok (.ireturn, 1) := by decide +kernel
theorem dX7_fine_11 : decode cX7_fine 11 = .ok (.aload_n 0, 1) := by decide +kernel
theorem dX7_fine_12 : decode cX7_fine 12 = .ok (.getfield 25, 3) := by decide +kernel
theorem dX7_fine_15 : decode cX7_fine 15 = .ok (.getfield 86, 3) := by decide +kernel
theorem dX7_fine_18 : decode cX7_fine 18 = .ok (.iload_n 1, 1) := by decide +kernel
theorem dX7_fine_19 : decode cX7_fine 19 = .ok (.aaload, 1) := by decide +kernel
theorem dX7_fine_20 : decode cX7_fine 20 = .ok (.astore_n 2, 1) := by decide +kernel
theorem dX7_fine_21 : decode cX7_fine 21 = .ok (.aload_n 0, 1) := by decide +kernel
theorem dX7_fine_22 : decode cX7_fine 22 = .ok (.getfield 25, 3) := by decide +kernel
theorem dX7_fine_25 : decode cX7_fine 25 = .ok (.iconst 2, 1) := by decide +kernel
theorem dX7_fine_26 : decode cX7_fine 26 = .ok (.invokevirtual 186, 3) := by decide +kernel
theorem dX7_fine_29 : decode cX7_fine 29 = .ok (.astore_n 3, 1) := by decide +kernel
theorem dX7_fine_30 : decode cX7_fine 30 = .ok (.aload_n 3, 1) := by decide +kernel
theorem dX7_fine_31 : decode cX7_fine 31 = .ok (.ifnonnull 10, 3) := by decide +kernel
theorem dX7_fine_34 : decode cX7_fine 34 = .ok (.aload_n 2, 1) := by decide +kernel
theorem dX7_fine_35 : decode cX7_fine 35 = .ok (.getfield 165, 3) := by decide +kernel
theorem dX7_fine_38 : decode cX7_fine 38 = .ok (.goto 16, 3) := by decide +kernel
theorem dX7_fine_41 : decode cX7_fine 41 = .ok (.aload_n 3, 1) := by decide +kernel
theorem dX7_fine_42 : decode cX7_fine 42 = .ok (.aload_n 2, 1) := by decide +kernel
theorem dX7_fine_43 : decode cX7_fine 43 = .ok (.getfield 165, 3) := by decide +kernel
theorem dX7_fine_46 : decode cX7_fine 46 = .ok (.aload_n 2, 1) := by decide +kernel
theorem dX7_fine_47 : decode cX7_fine 47 = .ok (.getfield 194, 3) := by decide +kernel
theorem dX7_fine_50 : decode cX7_fine 50 = .ok (.iconst 0, 1) := by decide +kernel
theorem dX7_fine_51 : decode cX7_fine 51 = .ok (.invokevirtual 190, 3) := by decide +kernel
theorem dX7_fine_54 : decode cX7_fine 54 = .ok (.ireturn, 1) := by decide +kernel
theorem dX7_feed_0 : decode cX7_feed 0 = .ok (.aload_n 0, 1) := by decide +kernel
theorem dX7_feed_1 : decode cX7_feed 1 = .ok (.getfield 18, 3) := by decide +kernel
theorem dX7_feed_4 : decode cX7_feed 4 = .ok (.getfield 197, 3) := by decide +kernel
theorem dX7_feed_7 : decode cX7_feed 7 = .ok (.bipush 12, 2) := by decide +kernel
theorem dX7_feed_9 : decode cX7_feed 9 = .ok (.iadd, 1) := by decide +kernel
theorem dX7_feed_10 : decode cX7_feed 10 = .ok (.bipush 96, 2) := by decide +kernel
theorem dX7_feed_12 : decode cX7_feed 12 = .ok (.if_icmp .le 6, 3) := by decide +kernel
theorem dX7_feed_15 : decode cX7_feed 15 = .ok (.ldc 78, 2) := by decide +kernel
theorem dX7_feed_17 : decode cX7_feed 17 = .ok (.ireturn, 1) := by decide +kernel
theorem dX7_feed_18 : decode cX7_feed 18 = .ok (.aload_n 0, 1) := by decide +kernel
theorem dX7_feed_19 : decode cX7_feed 19 = .ok (.getfield 18, 3) := by decide +kernel
theorem dX7_feed_22 : decode cX7_feed 22 = .ok (.iload_n 1, 1) := by decide +kernel
theorem dX7_feed_23 : decode cX7_feed 23 = .ok (.invokevirtual 200, 3) := by decide +kernel
theorem dX7_feed_26 : decode cX7_feed 26 = .ok (.aload_n 0, 1) := by decide +kernel
theorem dX7_feed_27 : decode cX7_feed 27 = .ok (.getfield 18, 3) := by decide +kernel
theorem dX7_feed_30 : decode cX7_feed 30 = .ok (.iload_n 2, 1) := by decide +kernel
theorem dX7_feed_31 : decode cX7_feed 31 = .ok (.invokevirtual 200, 3) := by decide +kernel
theorem dX7_feed_34 : decode cX7_feed 34 = .ok (.aload_n 0, 1) := by decide +kernel
theorem dX7_feed_35 : decode cX7_feed 35 = .ok (.getfield 18, 3) := by decide +kernel
theorem dX7_feed_38 : decode cX7_feed 38 = .ok (.iload_n 3, 1) := by decide +kernel
theorem dX7_feed_39 : decode cX7_feed 39 = .ok (.invokevirtual 200, 3) := by decide +kernel
theorem dX7_feed_42 : decode cX7_feed 42 = .ok (.aload_n 0, 1) := by decide +kernel
theorem dX7_feed_43 : decode cX7_feed 43 = .ok (.getfield 18, 3) := by decide +kernel
theorem dX7_feed_46 : decode cX7_feed 46 = .ok (.getfield 197, 3) := by decide +kernel
theorem dX7_feed_49 : decode cX7_feed 49 = .ok (.ireturn, 1) := by decide +kernel
theorem dX7_trim_0 : decode cX7_trim 0 = .ok (.iload_n 1, 1) := by decide +kernel
theorem dX7_trim_1 : decode cX7_trim 1 = .ok (.ifCond .lt 14, 3) := by decide +kernel
theorem dX7_trim_4 : decode cX7_trim 4 = .ok (.iload_n 1, 1) := by decide +kernel
theorem dX7_trim_5 : decode cX7_trim 5 = .ok (.aload_n 0, 1) := by decide +kernel
theorem dX7_trim_6 : decode cX7_trim 6 = .ok (.getfield 18, 3) := by decide +kernel
theorem dX7_trim_9 : decode cX7_trim 9 = .ok (.getfield 197, 3) := by decide +kernel
theorem dX7_trim_12 : decode cX7_trim 12 = .ok (.if_icmp .le 6, 3) := by decide +kernel
theorem dX7_trim_15 : decode cX7_trim 15 = .ok (.ldc 74, 2) := by decide +kernel
theorem dX7_trim_17 : decode cX7_trim 17 = .ok (.ireturn, 1) := by decide +kernel
theorem dX7_trim_18 : decode cX7_trim 18 = .ok (.aload_n 0, 1) := by decide +kernel
theorem dX7_trim_19 : decode cX7_trim 19 = .ok (.getfield 18, 3) := by decide +kernel
theorem dX7_trim_22 : decode cX7_trim 22 = .ok (.iload_n 1, 1) := by decide +kernel
theorem dX7_trim_23 : decode cX7_trim 23 = .ok (.putfield 197, 3) := by decide +kernel
theorem dX7_trim_26 : decode cX7_trim 26 = .ok (.iload_n 1, 1) := by decide +kernel
theorem dX7_trim_27 : decode cX7_trim 27 = .ok (.ireturn, 1) := by decide +kernel
theorem dX7_text_0 : decode cX7_text 0 = .ok (.aload_n 0, 1) := by decide +kernel
theorem dX7_text_1 : decode cX7_text 1 = .ok (.getfield 11, 3) := by decide +kernel
theorem dX7_text_4 : decode cX7_text 4 = .ok (.aload_n 0, 1) := by decide +kernel
theorem dX7_text_5 : decode cX7_text 5 = .ok (.getfield 25, 3) := by decide +kernel
theorem dX7_text_8 : decode cX7_text 8 = .ok (.getfield 204, 3) := by decide +kernel
theorem dX7_text_11 : decode cX7_text 11 = .ok (.bipush 14, 2) := by decide +kernel
theorem dX7_text_13 : decode cX7_text 13 = .ok (.invokestatic 114, 3) := by decide +kernel
theorem dX7_text_16 : decode cX7_text 16 = .ok (.aaload, 1) := by decide +kernel
theorem dX7_text_17 : decode cX7_text 17 = .ok (.astore_n 1, 1) := by decide +kernel
theorem dX7_text_18 : decode cX7_text 18 = .ok (.aload_n 0, 1) := by decide +kernel
theorem dX7_text_19 : decode cX7_text 19 = .ok (.getfield 18, 3) := by decide +kernel
theorem dX7_text_22 : decode cX7_text 22 = .ok (.aload_n 1, 1) := by decide +kernel
theorem dX7_text_23 : decode cX7_text 23 = .ok (.invokevirtual 207, 3) := by decide +kernel
theorem dX7_text_26 : decode cX7_text 26 = .ok (.istore_n 2, 1) := by decide +kernel
theorem dX7_text_27 : decode cX7_text 27 = .ok (.iload_n 2, 1) := by decide +kernel
theorem dX7_text_28 : decode cX7_text 28 = .ok (.ifCond .lt 8, 3) := by decide +kernel
theorem dX7_text_31 : decode cX7_text 31 = .ok (.bipush (-100), 2) := by decide +kernel
theorem dX7_text_33 : decode cX7_text 33 = .ok (.iload_n 2, 1) := by decide +kernel
theorem dX7_text_34 : decode cX7_text 34 = .ok (.isub, 1) := by decide +kernel
theorem dX7_text_35 : decode cX7_text 35 = .ok (.ireturn, 1) := by decide +kernel
theorem dX7_text_36 : decode cX7_text 36 = .ok (.aload_n 0, 1) := by decide +kernel
theorem dX7_text_37 : decode cX7_text 37 = .ok (.getfield 25, 3) := by decide +kernel
theorem dX7_text_40 : decode cX7_text 40 = .ok (.getfield 204, 3) := by decide +kernel
theorem dX7_text_43 : decode cX7_text 43 = .ok (.bipush 14, 2) := by decide +kernel
theorem dX7_text_45 : decode cX7_text 45 = .ok (.if_icmp .lt 6, 3) := by decide +kernel
theorem dX7_text_48 : decode cX7_text 48 = .ok (.ldc 78, 2) := by decide +kernel
theorem dX7_text_50 : decode cX7_text 50 = .ok (.ireturn, 1) := by decide +kernel
theorem dX7_text_51 : decode cX7_text 51 = .ok (.aload_n 0, 1) := by decide +kernel
theorem dX7_text_52 : decode cX7_text 52 = .ok (.getfield 25, 3) := by decide +kernel
theorem dX7_text_55 : decode cX7_text 55 = .ok (.aload_n 1, 1) := by decide +kernel
theorem dX7_text_56 : decode cX7_text 56 = .ok (.invokevirtual 211, 3) := by decide +kernel
theorem dX7_text_59 : decode cX7_text 59 = .ok (.aload_n 1, 1) := by decide +kernel
theorem dX7_text_60 : decode cX7_text 60 = .ok (.getfield 215, 3) := by decide +kernel
theorem dX7_text_63 : decode cX7_text 63 = .ok (.ireturn, 1) := by decide +kernel
theorem dX7_textTold_0 : decode cX7_textTold 0 = .ok (.iload_n 1, 1) := by decide +kernel
theorem dX7_textTold_1 : decode cX7_textTold 1 = .ok (.ifCond .lt 23, 3) := by decide +kernel
theorem dX7_textTold_4 : decode cX7_textTold 4 = .ok (.iload_n 1, 1) := by decide +kernel
theorem dX7_textTold_5 : decode cX7_textTold 5 = .ok (.aload_n 0, 1) := by decide +kernel
theorem dX7_textTold_6 : decode cX7_textTold 6 = .ok (.getfield 25, 3) := by decide +kernel
theorem dX7_textTold_9 : decode cX7_textTold 9 = .ok (.getfield 204, 3) := by decide +kernel
theorem dX7_textTold_12 : decode cX7_textTold 12 = .ok (.if_icmp .ge 12, 3) := by decide +kernel
theorem dX7_textTold_15 : decode cX7_textTold 15 = .ok (.iload_n 2, 1) := by decide +kernel
theorem dX7_textTold_16 : decode cX7_textTold 16 = .ok (.ifCond .lt 8, 3) := by decide +kernel
theorem dX7_textTold_19 : decode cX7_textTold 19 = .ok (.iload_n 2, 1) := by decide +kernel
theorem dX7_textTold_20 : decode cX7_textTold 20 = .ok (.iconst 1, 1) := by decide +kernel
theorem dX7_textTold_21 : decode cX7_textTold 21 = .ok (.if_icmp .le 6, 3) := by decide +kernel
theorem dX7_textTold_24 : decode cX7_textTold 24 = .ok (.ldc 74, 2) := by decide +kernel
theorem dX7_textTold_26 : decode cX7_textTold 26 = .ok (.ireturn, 1) := by decide +kernel
theorem dX7_textTold_27 : decode cX7_textTold 27 = .ok (.iload_n 2, 1) := by decide +kernel
theorem dX7_textTold_28 : decode cX7_textTold 28 = .ok (.ifCond .ne 15, 3) := by decide +kernel
theorem dX7_textTold_31 : decode cX7_textTold 31 = .ok (.aload_n 0, 1) := by decide +kernel
theorem dX7_textTold_32 : decode cX7_textTold 32 = .ok (.getfield 11, 3) := by decide +kernel
theorem dX7_textTold_35 : decode cX7_textTold 35 = .ok (.iload_n 1, 1) := by decide +kernel
theorem dX7_textTold_36 : decode cX7_textTold 36 = .ok (.aaload, 1) := by decide +kernel
theorem dX7_textTold_37 : decode cX7_textTold 37 = .ok (.getfield 218, 3) := by decide +kernel
theorem dX7_textTold_40 : decode cX7_textTold 40 = .ok (.goto 12, 3) := by decide +kernel
theorem dX7_textTold_43 : decode cX7_textTold 43 = .ok (.aload_n 0, 1) := by decide +kernel
theorem dX7_textTold_44 : decode cX7_textTold 44 = .ok (.getfield 11, 3) := by decide +kernel
theorem dX7_textTold_47 : decode cX7_textTold 47 = .ok (.iload_n 1, 1) := by decide +kernel
theorem dX7_textTold_48 : decode cX7_textTold 48 = .ok (.aaload, 1) := by decide +kernel
theorem dX7_textTold_49 : decode cX7_textTold 49 = .ok (.getfield 221, 3) := by decide +kernel
theorem dX7_textTold_52 : decode cX7_textTold 52 = .ok (.ireturn, 1) := by decide +kernel
theorem dX7_why_0 : decode cX7_why 0 = .ok (.iload_n 1, 1) := by decide +kernel
theorem dX7_why_1 : decode cX7_why 1 = .ok (.ifCond .lt 8, 3) := by decide +kernel
theorem dX7_why_4 : decode cX7_why 4 = .ok (.iload_n 1, 1) := by decide +kernel
theorem dX7_why_5 : decode cX7_why 5 = .ok (.iconst 3, 1) := by decide +kernel
theorem dX7_why_6 : decode cX7_why 6 = .ok (.if_icmp .lt 6, 3) := by decide +kernel
theorem dX7_why_9 : decode cX7_why 9 = .ok (.ldc 74, 2) := by decide +kernel
theorem dX7_why_11 : decode cX7_why 11 = .ok (.ireturn, 1) := by decide +kernel
theorem dX7_why_12 : decode cX7_why 12 = .ok (.aload_n 0, 1) := by decide +kernel
theorem dX7_why_13 : decode cX7_why 13 = .ok (.getfield 25, 3) := by decide +kernel
theorem dX7_why_16 : decode cX7_why 16 = .ok (.iload_n 1, 1) := by decide +kernel
theorem dX7_why_17 : decode cX7_why 17 = .ok (.invokevirtual 186, 3) := by decide +kernel
theorem dX7_why_20 : decode cX7_why 20 = .ok (.astore_n 2, 1) := by decide +kernel
theorem dX7_why_21 : decode cX7_why 21 = .ok (.aload_n 2, 1) := by decide +kernel
theorem dX7_why_22 : decode cX7_why 22 = .ok (.ifnonnull 8, 3) := by decide +kernel
theorem dX7_why_25 : decode cX7_why 25 = .ok (.ldc 160, 2) := by decide +kernel
theorem dX7_why_27 : decode cX7_why 27 = .ok (.goto 7, 3) := by decide +kernel
theorem dX7_why_30 : decode cX7_why 30 = .ok (.aload_n 2, 1) := by decide +kernel
theorem dX7_why_31 : decode cX7_why 31 = .ok (.getfield 215, 3) := by decide +kernel
theorem dX7_why_34 : decode cX7_why 34 = .ok (.ireturn, 1) := by decide +kernel
theorem dX7_sheet_0 : decode cX7_sheet 0 = .ok (.iload_n 1, 1) := by decide +kernel
theorem dX7_sheet_1 : decode cX7_sheet 1 = .ok (.invokestatic 174, 3) := by decide +kernel
theorem dX7_sheet_4 : decode cX7_sheet 4 = .ok (.ifCond .eq 13, 3) := by decide +kernel
theorem dX7_sheet_7 : decode cX7_sheet 7 = .ok (.iload_n 2, 1) := by decide +kernel
theorem dX7_sheet_8 : decode cX7_sheet 8 = .ok (.iconst (-1), 1) := by decide +kernel
theorem dX7_sheet_9 : decode cX7_sheet 9 = .ok (.if_icmp .lt 8, 3) := by decide +kernel
theorem dX7_sheet_12 : decode cX7_sheet 12 = .ok (.iload_n 2, 1) := by decide +kernel
theorem dX7_sheet_13 : decode cX7_sheet 13 = .ok (.iconst 1, 1) := by decide +kernel
theorem dX7_sheet_14 : decode cX7_sheet 14 = .ok (.if_icmp .le 6, 3) := by decide +kernel
theorem dX7_sheet_17 : decode cX7_sheet 17 = .ok (.ldc 74, 2) := by decide +kernel
theorem dX7_sheet_19 : decode cX7_sheet 19 = .ok (.ireturn, 1) := by decide +kernel
theorem dX7_sheet_20 : decode cX7_sheet 20 = .ok (.iload_n 2, 1) := by decide +kernel
theorem dX7_sheet_21 : decode cX7_sheet 21 = .ok (.iconst (-1), 1) := by decide +kernel
theorem dX7_sheet_22 : decode cX7_sheet 22 = .ok (.if_icmp .ne 16, 3) := by decide +kernel
theorem dX7_sheet_25 : decode cX7_sheet 25 = .ok (.aload_n 0, 1) := by decide +kernel
theorem dX7_sheet_26 : decode cX7_sheet 26 = .ok (.getfield 37, 3) := by decide +kernel
theorem dX7_sheet_29 : decode cX7_sheet 29 = .ok (.iload_n 1, 1) := by decide +kernel
theorem dX7_sheet_30 : decode cX7_sheet 30 = .ok (.aaload, 1) := by decide +kernel
theorem dX7_sheet_31 : decode cX7_sheet 31 = .ok (.iconst (-1), 1) := by decide +kernel
theorem dX7_sheet_32 : decode cX7_sheet 32 = .ok (.iconst 0, 1) := by decide +kernel
end
section
theorem dX7_sheet_33 : decode cX7_sheet 33 = .ok (.invokevirtual 224, 3) := by decide +kernel
theorem dX7_sheet_36 : decode cX7_sheet 36 = .ok (.iconst 0, 1) := by decide +kernel
theorem dX7_sheet_37 : decode cX7_sheet 37 = .ok (.ireturn, 1) := by decide +kernel
theorem dX7_sheet_38 : decode cX7_sheet 38 = .ok (.iload_n 3, 1) := by decide +kernel
theorem dX7_sheet_39 : decode cX7_sheet 39 = .ok (.bipush 24, 2) := by decide +kernel
theorem dX7_sheet_41 : decode cX7_sheet 41 = .ok (.if_icmp .le 6, 3) := by decide +kernel
theorem dX7_sheet_44 : decode cX7_sheet 44 = .ok (.ldc 74, 2) := by decide +kernel
theorem dX7_sheet_46 : decode cX7_sheet 46 = .ok (.ireturn, 1) := by decide +kernel
theorem dX7_sheet_47 : decode cX7_sheet 47 = .ok (.iload_n 3, 1) := by decide +kernel
theorem dX7_sheet_48 : decode cX7_sheet 48 = .ok (.ifCond .ge 6, 3) := by decide +kernel
theorem dX7_sheet_51 : decode cX7_sheet 51 = .ok (.ldc 227, 2) := by decide +kernel
theorem dX7_sheet_53 : decode cX7_sheet 53 = .ok (.ireturn, 1) := by decide +kernel
theorem dX7_sheet_54 : decode cX7_sheet 54 = .ok (.aload_n 0, 1) := by decide +kernel
theorem dX7_sheet_55 : decode cX7_sheet 55 = .ok (.getfield 37, 3) := by decide +kernel
theorem dX7_sheet_58 : decode cX7_sheet 58 = .ok (.iload_n 1, 1) := by decide +kernel
theorem dX7_sheet_59 : decode cX7_sheet 59 = .ok (.aaload, 1) := by decide +kernel
theorem dX7_sheet_60 : decode cX7_sheet 60 = .ok (.iload_n 2, 1) := by decide +kernel
theorem dX7_sheet_61 : decode cX7_sheet 61 = .ok (.iload_n 3, 1) := by decide +kernel
theorem dX7_sheet_62 : decode cX7_sheet 62 = .ok (.invokevirtual 224, 3) := by decide +kernel
theorem dX7_sheet_65 : decode cX7_sheet 65 = .ok (.iload_n 3, 1) := by decide +kernel
theorem dX7_sheet_66 : decode cX7_sheet 66 = .ok (.ireturn, 1) := by decide +kernel
theorem dX7_mark_0 : decode cX7_mark 0 = .ok (.iload_n 1, 1) := by decide +kernel
theorem dX7_mark_1 : decode cX7_mark 1 = .ok (.invokestatic 174, 3) := by decide +kernel
theorem dX7_mark_4 : decode cX7_mark 4 = .ok (.ifCond .ne 6, 3) := by decide +kernel
theorem dX7_mark_7 : decode cX7_mark 7 = .ok (.ldc 74, 2) := by decide +kernel
theorem dX7_mark_9 : decode cX7_mark 9 = .ok (.ireturn, 1) := by decide +kernel
theorem dX7_mark_10 : decode cX7_mark 10 = .ok (.aload_n 0, 1) := by decide +kernel
theorem dX7_mark_11 : decode cX7_mark 11 = .ok (.getfield 37, 3) := by decide +kernel
theorem dX7_mark_14 : decode cX7_mark 14 = .ok (.iload_n 1, 1) := by decide +kernel
theorem dX7_mark_15 : decode cX7_mark 15 = .ok (.aaload, 1) := by decide +kernel
theorem dX7_mark_16 : decode cX7_mark 16 = .ok (.astore 4, 2) := by decide +kernel
theorem dX7_mark_18 : decode cX7_mark 18 = .ok (.aload 4, 2) := by decide +kernel
theorem dX7_mark_20 : decode cX7_mark 20 = .ok (.invokevirtual 177, 3) := by decide +kernel
theorem dX7_mark_23 : decode cX7_mark 23 = .ok (.ifCond .eq 6, 3) := by decide +kernel
theorem dX7_mark_26 : decode cX7_mark 26 = .ok (.ldc 181, 2) := by decide +kernel
theorem dX7_mark_28 : decode cX7_mark 28 = .ok (.ireturn, 1) := by decide +kernel
theorem dX7_mark_29 : decode cX7_mark 29 = .ok (.aload 4, 2) := by decide +kernel
theorem dX7_mark_31 : decode cX7_mark 31 = .ok (.iload_n 2, 1) := by decide +kernel
theorem dX7_mark_32 : decode cX7_mark 32 = .ok (.invokevirtual 228, 3) := by decide +kernel
theorem dX7_mark_35 : decode cX7_mark 35 = .ok (.ifCond .ne 6, 3) := by decide +kernel
theorem dX7_mark_38 : decode cX7_mark 38 = .ok (.ldc 231, 2) := by decide +kernel
theorem dX7_mark_40 : decode cX7_mark 40 = .ok (.ireturn, 1) := by decide +kernel
theorem dX7_mark_41 : decode cX7_mark 41 = .ok (.aload 4, 2) := by decide +kernel
theorem dX7_mark_43 : decode cX7_mark 43 = .ok (.getfield 232, 3) := by decide +kernel
theorem dX7_mark_46 : decode cX7_mark 46 = .ok (.ifCond .ne 23, 3) := by decide +kernel
theorem dX7_mark_49 : decode cX7_mark 49 = .ok (.iload_n 3, 1) := by decide +kernel
theorem dX7_mark_50 : decode cX7_mark 50 = .ok (.ldc 160, 2) := by decide +kernel
theorem dX7_mark_52 : decode cX7_mark 52 = .ok (.if_icmp .ne 6, 3) := by decide +kernel
theorem dX7_mark_55 : decode cX7_mark 55 = .ok (.ldc 109, 2) := by decide +kernel
theorem dX7_mark_57 : decode cX7_mark 57 = .ok (.ireturn, 1) := by decide +kernel
theorem dX7_mark_58 : decode cX7_mark 58 = .ok (.aload 4, 2) := by decide +kernel
theorem dX7_mark_60 : decode cX7_mark 60 = .ok (.getfield 235, 3) := by decide +kernel
theorem dX7_mark_63 : decode cX7_mark 63 = .ok (.iload_n 2, 1) := by decide +kernel
theorem dX7_mark_64 : decode cX7_mark 64 = .ok (.iload_n 3, 1) := by decide +kernel
theorem dX7_mark_65 : decode cX7_mark 65 = .ok (.i2s, 1) := by decide +kernel
theorem dX7_mark_66 : decode cX7_mark 66 = .ok (.iastore, 1) := by decide +kernel
theorem dX7_mark_67 : decode cX7_mark 67 = .ok (.iconst 1, 1) := by decide +kernel
theorem dX7_mark_68 : decode cX7_mark 68 = .ok (.ireturn, 1) := by decide +kernel
theorem dX7_mark_69 : decode cX7_mark 69 = .ok (.iload_n 3, 1) := by decide +kernel
theorem dX7_mark_70 : decode cX7_mark 70 = .ok (.ldc 160, 2) := by decide +kernel
theorem dX7_mark_72 : decode cX7_mark 72 = .ok (.if_icmp .eq 18, 3) := by decide +kernel
theorem dX7_mark_75 : decode cX7_mark 75 = .ok (.iload_n 3, 1) := by decide +kernel
theorem dX7_mark_76 : decode cX7_mark 76 = .ok (.ldc 238, 2) := by decide +kernel
theorem dX7_mark_78 : decode cX7_mark 78 = .ok (.if_icmp .lt 9, 3) := by decide +kernel
theorem dX7_mark_81 : decode cX7_mark 81 = .ok (.iload_n 3, 1) := by decide +kernel
theorem dX7_mark_82 : decode cX7_mark 82 = .ok (.ldc 239, 2) := by decide +kernel
theorem dX7_mark_84 : decode cX7_mark 84 = .ok (.if_icmp .le 6, 3) := by decide +kernel
theorem dX7_mark_87 : decode cX7_mark 87 = .ok (.ldc 74, 2) := by decide +kernel
theorem dX7_mark_89 : decode cX7_mark 89 = .ok (.ireturn, 1) := by decide +kernel
theorem dX7_mark_90 : decode cX7_mark 90 = .ok (.aload 4, 2) := by decide +kernel
theorem dX7_mark_92 : decode cX7_mark 92 = .ok (.getfield 235, 3) := by decide +kernel
theorem dX7_mark_95 : decode cX7_mark 95 = .ok (.iload_n 2, 1) := by decide +kernel
theorem dX7_mark_96 : decode cX7_mark 96 = .ok (.iload_n 3, 1) := by decide +kernel
theorem dX7_mark_97 : decode cX7_mark 97 = .ok (.iastore, 1) := by decide +kernel
theorem dX7_mark_98 : decode cX7_mark 98 = .ok (.iconst 1, 1) := by decide +kernel
theorem dX7_mark_99 : decode cX7_mark 99 = .ok (.ireturn, 1) := by decide +kernel
theorem dX7_pour_0 : decode cX7_pour 0 = .ok (.iload_n 1, 1) := by decide +kernel
theorem dX7_pour_1 : decode cX7_pour 1 = .ok (.invokestatic 174, 3) := by decide +kernel
theorem dX7_pour_4 : decode cX7_pour 4 = .ok (.ifCond .ne 6, 3) := by decide +kernel
theorem dX7_pour_7 : decode cX7_pour 7 = .ok (.ldc 74, 2) := by decide +kernel
theorem dX7_pour_9 : decode cX7_pour 9 = .ok (.ireturn, 1) := by decide +kernel
theorem dX7_pour_10 : decode cX7_pour 10 = .ok (.aload_n 0, 1) := by decide +kernel
theorem dX7_pour_11 : decode cX7_pour 11 = .ok (.getfield 37, 3) := by decide +kernel
theorem dX7_pour_14 : decode cX7_pour 14 = .ok (.iload_n 1, 1) := by decide +kernel
theorem dX7_pour_15 : decode cX7_pour 15 = .ok (.aaload, 1) := by decide +kernel
theorem dX7_pour_16 : decode cX7_pour 16 = .ok (.astore_n 2, 1) := by decide +kernel
theorem dX7_pour_17 : decode cX7_pour 17 = .ok (.aload_n 2, 1) := by decide +kernel
theorem dX7_pour_18 : decode cX7_pour 18 = .ok (.invokevirtual 177, 3) := by decide +kernel
theorem dX7_pour_21 : decode cX7_pour 21 = .ok (.ifCond .eq 6, 3) := by decide +kernel
theorem dX7_pour_24 : decode cX7_pour 24 = .ok (.ldc 181, 2) := by decide +kernel
theorem dX7_pour_26 : decode cX7_pour 26 = .ok (.ireturn, 1) := by decide +kernel
theorem dX7_pour_27 : decode cX7_pour 27 = .ok (.iconst 0, 1) := by decide +kernel
theorem dX7_pour_28 : decode cX7_pour 28 = .ok (.istore_n 3, 1) := by decide +kernel
theorem dX7_pour_29 : decode cX7_pour 29 = .ok (.iconst 0, 1) := by decide +kernel
theorem dX7_pour_30 : decode cX7_pour 30 = .ok (.istore 4, 2) := by decide +kernel
theorem dX7_pour_32 : decode cX7_pour 32 = .ok (.iload 4, 2) := by decide +kernel
theorem dX7_pour_34 : decode cX7_pour 34 = .ok (.aload_n 0, 1) := by decide +kernel
theorem dX7_pour_35 : decode cX7_pour 35 = .ok (.getfield 25, 3) := by decide +kernel
theorem dX7_pour_38 : decode cX7_pour 38 = .ok (.getfield 75, 3) := by decide +kernel
theorem dX7_pour_41 : decode cX7_pour 41 = .ok (.if_icmp .ge 72, 3) := by decide +kernel
theorem dX7_pour_44 : decode cX7_pour 44 = .ok (.aload_n 2, 1) := by decide +kernel
theorem dX7_pour_45 : decode cX7_pour 45 = .ok (.iload 4, 2) := by decide +kernel
theorem dX7_pour_47 : decode cX7_pour 47 = .ok (.invokevirtual 240, 3) := by decide +kernel
theorem dX7_pour_50 : decode cX7_pour 50 = .ok (.ifCond .eq 57, 3) := by decide +kernel
theorem dX7_pour_53 : decode cX7_pour 53 = .ok (.iconst 1, 1) := by decide +kernel
theorem dX7_pour_54 : decode cX7_pour 54 = .ok (.bipush 99, 2) := by decide +kernel
theorem dX7_pour_56 : decode cX7_pour 56 = .ok (.aload_n 2, 1) := by decide +kernel
theorem dX7_pour_57 : decode cX7_pour 57 = .ok (.getfield 235, 3) := by decide +kernel
theorem dX7_pour_60 : decode cX7_pour 60 = .ok (.iload 4, 2) := by decide +kernel
theorem dX7_pour_62 : decode cX7_pour 62 = .ok (.iaload, 1) := by decide +kernel
theorem dX7_pour_63 : decode cX7_pour 63 = .ok (.invokestatic 114, 3) := by decide +kernel
theorem dX7_pour_66 : decode cX7_pour 66 = .ok (.invokestatic 243, 3) := by decide +kernel
theorem dX7_pour_69 : decode cX7_pour 69 = .ok (.istore 5, 2) := by decide +kernel
theorem dX7_pour_71 : decode cX7_pour 71 = .ok (.iload 5, 2) := by decide +kernel
theorem dX7_pour_73 : decode cX7_pour 73 = .ok (.aload_n 0, 1) := by decide +kernel
theorem dX7_pour_74 : decode cX7_pour 74 = .ok (.getfield 25, 3) := by decide +kernel
theorem dX7_pour_77 : decode cX7_pour 77 = .ok (.getfield 86, 3) := by decide +kernel
theorem dX7_pour_80 : decode cX7_pour 80 = .ok (.iload 4, 2) := by decide +kernel
theorem dX7_pour_82 : decode cX7_pour 82 = .ok (.aaload, 1) := by decide +kernel
theorem dX7_pour_83 : decode cX7_pour 83 = .ok (.getfield 106, 3) := by decide +kernel
theorem dX7_pour_86 : decode cX7_pour 86 = .ok (.if_icmp .eq 6, 3) := by decide +kernel
theorem dX7_pour_89 : decode cX7_pour 89 = .ok (.iinc 3 1, 3) := by decide +kernel
theorem dX7_pour_92 : decode cX7_pour 92 = .ok (.aload_n 0, 1) := by decide +kernel
theorem dX7_pour_93 : decode cX7_pour 93 = .ok (.getfield 25, 3) := by decide +kernel
theorem dX7_pour_96 : decode cX7_pour 96 = .ok (.getfield 86, 3) := by decide +kernel
theorem dX7_pour_99 : decode cX7_pour 99 = .ok (.iload 4, 2) := by decide +kernel
theorem dX7_pour_101 : decode cX7_pour 101 = .ok (.aaload, 1) := by decide +kernel
theorem dX7_pour_102 : decode cX7_pour 102 = .ok (.iload 5, 2) := by decide +kernel
theorem dX7_pour_104 : decode cX7_pour 104 = .ok (.putfield 106, 3) := by decide +kernel
theorem dX7_pour_107 : decode cX7_pour 107 = .ok (.iinc 4 1, 3) := by decide +kernel
theorem dX7_pour_110 : decode cX7_pour 110 = .ok (.goto (-78), 3) := by decide +kernel
theorem dX7_pour_113 : decode cX7_pour 113 = .ok (.iload_n 3, 1) := by decide +kernel
theorem dX7_pour_114 : decode cX7_pour 114 = .ok (.ireturn, 1) := by decide +kernel
theorem dX7_reads_0 : decode cX7_reads 0 = .ok (.iload_n 1, 1) := by decide +kernel
theorem dX7_reads_1 : decode cX7_reads 1 = .ok (.invokestatic 174, 3) := by decide +kernel
theorem dX7_reads_4 : decode cX7_reads 4 = .ok (.ifCond .ne 6, 3) := by decide +kernel
theorem dX7_reads_7 : decode cX7_reads 7 = .ok (.ldc 74, 2) := by decide +kernel
theorem dX7_reads_9 : decode cX7_reads 9 = .ok (.ireturn, 1) := by decide +kernel
theorem dX7_reads_10 : decode cX7_reads 10 = .ok (.aload_n 0, 1) := by decide +kernel
theorem dX7_reads_11 : decode cX7_reads 11 = .ok (.getfield 37, 3) := by decide +kernel
theorem dX7_reads_14 : decode cX7_reads 14 = .ok (.iload_n 1, 1) := by decide +kernel
theorem dX7_reads_15 : decode cX7_reads 15 = .ok (.aaload, 1) := by decide +kernel
theorem dX7_reads_16 : decode cX7_reads 16 = .ok (.astore_n 2, 1) := by decide +kernel
theorem dX7_reads_17 : decode cX7_reads 17 = .ok (.aload_n 2, 1) := by decide +kernel
theorem dX7_reads_18 : decode cX7_reads 18 = .ok (.invokevirtual 177, 3) := by decide +kernel
theorem dX7_reads_21 : decode cX7_reads 21 = .ok (.ifCond .eq 6, 3) := by decide +kernel
theorem dX7_reads_24 : decode cX7_reads 24 = .ok (.ldc 181, 2) := by decide +kernel
theorem dX7_reads_26 : decode cX7_reads 26 = .ok (.ireturn, 1) := by decide +kernel
theorem dX7_reads_27 : decode cX7_reads 27 = .ok (.iconst 0, 1) := by decide +kernel
theorem dX7_reads_28 : decode cX7_reads 28 = .ok (.istore_n 3, 1) := by decide +kernel
theorem dX7_reads_29 : decode cX7_reads 29 = .ok (.iload_n 3, 1) := by decide +kernel
theorem dX7_reads_30 : decode cX7_reads 30 = .ok (.aload_n 2, 1) := by decide +kernel
theorem dX7_reads_31 : decode cX7_reads 31 = .ok (.getfield 246, 3) := by decide +kernel
theorem dX7_reads_34 : decode cX7_reads 34 = .ok (.if_icmp .ge 48, 3) := by decide +kernel
theorem dX7_reads_37 : decode cX7_reads 37 = .ok (.aload_n 2, 1) := by decide +kernel
theorem dX7_reads_38 : decode cX7_reads 38 = .ok (.iload_n 3, 1) := by decide +kernel
theorem dX7_reads_39 : decode cX7_reads 39 = .ok (.invokevirtual 240, 3) := by decide +kernel
theorem dX7_reads_42 : decode cX7_reads 42 = .ok (.ifCond .eq 34, 3) := by decide +kernel
theorem dX7_reads_45 : decode cX7_reads 45 = .ok (.aload_n 0, 1) := by decide +kernel
theorem dX7_reads_46 : decode cX7_reads 46 = .ok (.iload_n 3, 1) := by decide +kernel
theorem dX7_reads_47 : decode cX7_reads 47 = .ok (.invokevirtual 83, 3) := by decide +kernel
theorem dX7_reads_50 : decode cX7_reads 50 = .ok (.ifCond .eq 24, 3) := by decide +kernel
theorem dX7_reads_53 : decode cX7_reads 53 = .ok (.aload_n 2, 1) := by decide +kernel
theorem dX7_reads_54 : decode cX7_reads 54 = .ok (.getfield 235, 3) := by decide +kernel
theorem dX7_reads_57 : decode cX7_reads 57 = .ok (.iload_n 3, 1) := by decide +kernel
theorem dX7_reads_58 : decode cX7_reads 58 = .ok (.iaload, 1) := by decide +kernel
theorem dX7_reads_59 : decode cX7_reads 59 = .ok (.aload_n 0, 1) := by decide +kernel
theorem dX7_reads_60 : decode cX7_reads 60 = .ok (.getfield 25, 3) := by decide +kernel
theorem dX7_reads_63 : decode cX7_reads 63 = .ok (.getfield 86, 3) := by decide +kernel
theorem dX7_reads_66 : decode cX7_reads 66 = .ok (.iload_n 3, 1) := by decide +kernel
theorem dX7_reads_67 : decode cX7_reads 67 = .ok (.aaload, 1) := by decide +kernel
theorem dX7_reads_68 : decode cX7_reads 68 = .ok (.getfield 165, 3) := by decide +kernel
theorem dX7_reads_71 : decode cX7_reads 71 = .ok (.if_icmp .eq 5, 3) := by decide +kernel
theorem dX7_reads_74 : decode cX7_reads 74 = .ok (.iload_n 3, 1) := by decide +kernel
theorem dX7_reads_75 : decode cX7_reads 75 = .ok (.ireturn, 1) := by decide +kernel
theorem dX7_reads_76 : decode cX7_reads 76 = .ok (.iinc 3 1, 3) := by decide +kernel
theorem dX7_reads_79 : decode cX7_reads 79 = .ok (.goto (-50), 3) := by decide +kernel
theorem dX7_reads_82 : decode cX7_reads 82 = .ok (.ldc 160, 2) := by decide +kernel
theorem dX7_reads_84 : decode cX7_reads 84 = .ok (.ireturn, 1) := by decide +kernel
theorem dX7_copy_0 : decode cX7_copy 0 = .ok (.iload_n 1, 1) := by decide +kernel
theorem dX7_copy_1 : decode cX7_copy 1 = .ok (.invokestatic 174, 3) := by decide +kernel
theorem dX7_copy_4 : decode cX7_copy 4 = .ok (.ifCond .eq 10, 3) := by decide +kernel
theorem dX7_copy_7 : decode cX7_copy 7 = .ok (.iload_n 3, 1) := by decide +kernel
theorem dX7_copy_8 : decode cX7_copy 8 = .ok (.invokestatic 174, 3) := by decide +kernel
theorem dX7_copy_11 : decode cX7_copy 11 = .ok (.ifCond .ne 6, 3) := by decide +kernel
theorem dX7_copy_14 : decode cX7_copy 14 = .ok (.ldc 74, 2) := by decide +kernel
theorem dX7_copy_16 : decode cX7_copy 16 = .ok (.ireturn, 1) := by decide +kernel
theorem dX7_copy_17 : decode cX7_copy 17 = .ok (.aload_n 0, 1) := by decide +kernel
theorem dX7_copy_18 : decode cX7_copy 18 = .ok (.getfield 37, 3) := by decide +kernel
theorem dX7_copy_21 : decode cX7_copy 21 = .ok (.iload_n 1, 1) := by decide +kernel
theorem dX7_copy_22 : decode cX7_copy 22 = .ok (.aaload, 1) := by decide +kernel
theorem dX7_copy_23 : decode cX7_copy 23 = .ok (.astore 6, 2) := by decide +kernel
theorem dX7_copy_25 : decode cX7_copy 25 = .ok (.aload_n 0, 1) := by decide +kernel
theorem dX7_copy_26 : decode cX7_copy 26 = .ok (.getfield 37, 3) := by decide +kernel
theorem dX7_copy_29 : decode cX7_copy 29 = .ok (.iload_n 3, 1) := by decide +kernel
theorem dX7_copy_30 : decode cX7_copy 30 = .ok (.aaload, 1) := by decide +kernel
theorem dX7_copy_31 : decode cX7_copy 31 = .ok (.astore 7, 2) := by decide +kernel
theorem dX7_copy_33 : decode cX7_copy 33 = .ok (.aload 6, 2) := by decide +kernel
theorem dX7_copy_35 : decode cX7_copy 35 = .ok (.invokevirtual 177, 3) := by decide +kernel
theorem dX7_copy_38 : decode cX7_copy 38 = .ok (.ifCond .ne 11, 3) := by decide +kernel
theorem dX7_copy_41 : decode cX7_copy 41 = .ok (.aload 7, 2) := by decide +kernel
theorem dX7_copy_43 : decode cX7_copy 43 = .ok (.invokevirtual 177, 3) := by decide +kernel
theorem dX7_copy_46 : decode cX7_copy 46 = .ok (.ifCond .eq 6, 3) := by decide +kernel
theorem dX7_copy_49 : decode cX7_copy 49 = .ok (.ldc 181, 2) := by decide +kernel
theorem dX7_copy_51 : decode cX7_copy 51 = .ok (.ireturn, 1) := by decide +kernel
theorem dX7_copy_52 : decode cX7_copy 52 = .ok (.aload 6, 2) := by decide +kernel
theorem dX7_copy_54 : decode cX7_copy 54 = .ok (.getfield 232, 3) := by decide +kernel
theorem dX7_copy_57 : decode cX7_copy 57 = .ok (.aload 7, 2) := by decide +kernel
theorem dX7_copy_59 : decode cX7_copy 59 = .ok (.getfield 232, 3) := by decide +kernel
theorem dX7_copy_62 : decode cX7_copy 62 = .ok (.if_icmp .eq 6, 3) := by decide +kernel
theorem dX7_copy_65 : decode cX7_copy 65 = .ok (.ldc 109, 2) := by decide +kernel
theorem dX7_copy_67 : decode cX7_copy 67 = .ok (.ireturn, 1) := by decide +kernel
theorem dX7_copy_68 : decode cX7_copy 68 = .ok (.aload 6, 2) := by decide +kernel
theorem dX7_copy_70 : decode cX7_copy 70 = .ok (.iload_n 2, 1) := by decide +kernel
theorem dX7_copy_71 : decode cX7_copy 71 = .ok (.iload 5, 2) := by decide +kernel
theorem dX7_copy_73 : decode cX7_copy 73 = .ok (.invokevirtual 247, 3) := by decide +kernel
theorem dX7_copy_76 : decode cX7_copy 76 = .ok (.ifCond .eq 15, 3) := by decide +kernel
theorem dX7_copy_79 : decode cX7_copy 79 = .ok (.aload 7, 2) := by decide +kernel
theorem dX7_copy_81 : decode cX7_copy 81 = .ok (.iload 4, 2) := by decide +kernel
theorem dX7_copy_83 : decode cX7_copy 83 = .ok (.iload 5, 2) := by decide +kernel
theorem dX7_copy_85 : decode cX7_copy 85 = .ok (.invokevirtual 247, 3) := by decide +kernel
theorem dX7_copy_88 : decode cX7_copy 88 = .ok (.ifCond .ne 6, 3) := by decide +kernel
theorem dX7_copy_91 : decode cX7_copy 91 = .ok (.ldc 231, 2) := by decide +kernel
theorem dX7_copy_93 : decode cX7_copy 93 = .ok (.ireturn, 1) := by decide +kernel
theorem dX7_copy_94 : decode cX7_copy 94 = .ok (.aload 6, 2) := by decide +kernel
theorem dX7_copy_96 : decode cX7_copy 96 = .ok (.getfield 235, 3) := by decide +kernel
theorem dX7_copy_99 : decode cX7_copy 99 = .ok (.iload_n 2, 1) := by decide +kernel
theorem dX7_copy_100 : decode cX7_copy 100 = .ok (.aload 7, 2) := by decide +kernel
theorem dX7_copy_102 : decode cX7_copy 102 = .ok (.getfield 235, 3) := by decide +kernel
theorem dX7_copy_105 : decode cX7_copy 105 = .ok (.iload 4, 2) := by decide +kernel
theorem dX7_copy_107 : decode cX7_copy 107 = .ok (.iload 5, 2) := by decide +kernel
theorem dX7_copy_109 : decode cX7_copy 109 = .ok (.invokestatic 250, 3) := by decide +kernel
theorem dX7_copy_112 : decode cX7_copy 112 = .ok (.iload 5, 2) := by decide +kernel
theorem dX7_copy_114 : decode cX7_copy 114 = .ok (.ireturn, 1) := by decide +kernel
theorem dX7_lay_0 : decode cX7_lay 0 = .ok (.iload_n 1, 1) := by decide +kernel
theorem dX7_lay_1 : decode cX7_lay 1 = .ok (.invokestatic 256, 3) := by decide +kernel
theorem dX7_lay_4 : decode cX7_lay 4 = .ok (.ifCond .eq 12, 3) := by decide +kernel
theorem dX7_lay_7 : decode cX7_lay 7 = .ok (.iload_n 2, 1) := by decide +kernel
theorem dX7_lay_8 : decode cX7_lay 8 = .ok (.ifCond .lt 8, 3) := by decide +kernel
theorem dX7_lay_11 : decode cX7_lay 11 = .ok (.iload_n 2, 1) := by decide +kernel
theorem dX7_lay_12 : decode cX7_lay 12 = .ok (.iconst 3, 1) := by decide +kernel
theorem dX7_lay_13 : decode cX7_lay 13 = .ok (.if_icmp .le 6, 3) := by decide +kernel
theorem dX7_lay_16 : decode cX7_lay 16 = .ok (.ldc 74, 2) := by decide +kernel
theorem dX7_lay_18 : decode cX7_lay 18 = .ok (.ireturn, 1) := by decide +kernel
theorem dX7_lay_19 : decode cX7_lay 19 = .ok (.iload_n 2, 1) := by decide +kernel
theorem dX7_lay_20 : decode cX7_lay 20 = .ok (.iconst 1, 1) := by decide +kernel
theorem dX7_lay_21 : decode cX7_lay 21 = .ok (.if_icmp .ne 11, 3) := by decide +kernel
theorem dX7_lay_24 : decode cX7_lay 24 = .ok (.aload_n 0, 1) := by decide +kernel
theorem dX7_lay_25 : decode cX7_lay 25 = .ok (.iload_n 3, 1) := by decide +kernel
theorem dX7_lay_26 : decode cX7_lay 26 = .ok (.invokevirtual 83, 3) := by decide +kernel
theorem dX7_lay_29 : decode cX7_lay 29 = .ok (.ifCond .eq 15, 3) := by decide +kernel
theorem dX7_lay_32 : decode cX7_lay 32 = .ok (.iload_n 2, 1) := by decide +kernel
theorem dX7_lay_33 : decode cX7_lay 33 = .ok (.iconst 2, 1) := by decide +kernel
theorem dX7_lay_34 : decode cX7_lay 34 = .ok (.if_icmp .ne 13, 3) := by decide +kernel
theorem dX7_lay_37 : decode cX7_lay 37 = .ok (.iload_n 3, 1) := by decide +kernel
theorem dX7_lay_38 : decode cX7_lay 38 = .ok (.invokestatic 174, 3) := by decide +kernel
theorem dX7_lay_41 : decode cX7_lay 41 = .ok (.ifCond .ne 6, 3) := by decide +kernel
theorem dX7_lay_44 : decode cX7_lay 44 = .ok (.ldc 74, 2) := by decide +kernel
theorem dX7_lay_46 : decode cX7_lay 46 = .ok (.ireturn, 1) := by decide +kernel
theorem dX7_lay_47 : decode cX7_lay 47 = .ok (.iload_n 2, 1) := by decide +kernel
theorem dX7_lay_48 : decode cX7_lay 48 = .ok (.iconst 2, 1) := by decide +kernel
theorem dX7_lay_49 : decode cX7_lay 49 = .ok (.if_icmp .ne 18, 3) := by decide +kernel
theorem dX7_lay_52 : decode cX7_lay 52 = .ok (.aload_n 0, 1) := by decide +kernel
theorem dX7_lay_53 : decode cX7_lay 53 = .ok (.getfield 37, 3) := by decide +kernel
theorem dX7_lay_56 : decode cX7_lay 56 = .ok (.iload_n 3, 1) := by decide +kernel
theorem dX7_lay_57 : decode cX7_lay 57 = .ok (.aaload, 1) := by decide +kernel
theorem dX7_lay_58 : decode cX7_lay 58 = .ok (.invokevirtual 177, 3) := by decide +kernel
theorem dX7_lay_61 : decode cX7_lay 61 = .ok (.ifCond .eq 6, 3) := by decide +kernel
theorem dX7_lay_64 : decode cX7_lay 64 = .ok (.ldc 181, 2) := by decide +kernel
theorem dX7_lay_66 : decode cX7_lay 66 = .ok (.ireturn, 1) := by decide +kernel
theorem dX7_lay_67 : decode cX7_lay 67 = .ok (.aload_n 0, 1) := by decide +kernel
theorem dX7_lay_68 : decode cX7_lay 68 = .ok (.getfield 43, 3) := by decide +kernel
theorem dX7_lay_71 : decode cX7_lay 71 = .ok (.iload_n 1, 1) := by decide +kernel
theorem dX7_lay_72 : decode cX7_lay 72 = .ok (.aaload, 1) := by decide +kernel
theorem dX7_lay_73 : decode cX7_lay 73 = .ok (.astore 4, 2) := by decide +kernel
theorem dX7_lay_75 : decode cX7_lay 75 = .ok (.aload 4, 2) := by decide +kernel
theorem dX7_lay_77 : decode cX7_lay 77 = .ok (.getfield 259, 3) := by decide +kernel
theorem dX7_lay_80 : decode cX7_lay 80 = .ok (.istore 5, 2) := by decide +kernel
theorem dX7_lay_82 : decode cX7_lay 82 = .ok (.aload 4, 2) := by decide +kernel
theorem dX7_lay_84 : decode cX7_lay 84 = .ok (.iload_n 2, 1) := by decide +kernel
theorem dX7_lay_85 : decode cX7_lay 85 = .ok (.putfield 259, 3) := by decide +kernel
theorem dX7_lay_88 : decode cX7_lay 88 = .ok (.iload_n 2, 1) := by decide +kernel
theorem dX7_lay_89 : decode cX7_lay 89 = .ok (.iconst 1, 1) := by decide +kernel
theorem dX7_lay_90 : decode cX7_lay 90 = .ok (.if_icmp .ne 23, 3) := by decide +kernel
theorem dX7_lay_93 : decode cX7_lay 93 = .ok (.aload 4, 2) := by decide +kernel
theorem dX7_lay_95 : decode cX7_lay 95 = .ok (.getfield 262, 3) := by decide +kernel
theorem dX7_lay_98 : decode cX7_lay 98 = .ok (.aload_n 0, 1) := by decide +kernel
theorem dX7_lay_99 : decode cX7_lay 99 = .ok (.getfield 25, 3) := by decide +kernel
theorem dX7_lay_102 : decode cX7_lay 102 = .ok (.getfield 86, 3) := by decide +kernel
theorem dX7_lay_105 : decode cX7_lay 105 = .ok (.iload_n 3, 1) := by decide +kernel
theorem dX7_lay_106 : decode cX7_lay 106 = .ok (.aaload, 1) := by decide +kernel
theorem dX7_lay_107 : decode cX7_lay 107 = .ok (.invokevirtual 266, 3) := by decide +kernel
theorem dX7_lay_110 : decode cX7_lay 110 = .ok (.goto 36, 3) := by decide +kernel
theorem dX7_lay_113 : decode cX7_lay 113 = .ok (.iload_n 2, 1) := by decide +kernel
theorem dX7_lay_114 : decode cX7_lay 114 = .ok (.iconst 2, 1) := by decide +kernel
theorem dX7_lay_115 : decode cX7_lay 115 = .ok (.if_icmp .ne 20, 3) := by decide +kernel
theorem dX7_lay_118 : decode cX7_lay 118 = .ok (.aload 4, 2) := by decide +kernel
theorem dX7_lay_120 : decode cX7_lay 120 = .ok (.getfield 269, 3) := by decide +kernel
theorem dX7_lay_123 : decode cX7_lay 123 = .ok (.aload_n 0, 1) := by decide +kernel
theorem dX7_lay_124 : decode cX7_lay 124 = .ok (.getfield 37, 3) := by decide +kernel
theorem dX7_lay_127 : decode cX7_lay 127 = .ok (.iload_n 3, 1) := by decide +kernel
theorem dX7_lay_128 : decode cX7_lay 128 = .ok (.aaload, 1) := by decide +kernel
theorem dX7_lay_129 : decode cX7_lay 129 = .ok (.invokevirtual 273, 3) := by decide +kernel
theorem dX7_lay_132 : decode cX7_lay 132 = .ok (.goto 14, 3) := by decide +kernel
theorem dX7_lay_135 : decode cX7_lay 135 = .ok (.iload_n 2, 1) := by decide +kernel
theorem dX7_lay_136 : decode cX7_lay 136 = .ok (.iconst 3, 1) := by decide +kernel
theorem dX7_lay_137 : decode cX7_lay 137 = .ok (.if_icmp .ne 9, 3) := by decide +kernel
theorem dX7_lay_140 : decode cX7_lay 140 = .ok (.aload 4, 2) := by decide +kernel
theorem dX7_lay_142 : decode cX7_lay 142 = .ok (.iload_n 3, 1) := by decide +kernel
theorem dX7_lay_143 : decode cX7_lay 143 = .ok (.putfield 276, 3) := by decide +kernel
theorem dX7_lay_146 : decode cX7_lay 146 = .ok (.iload 5, 2) := by decide +kernel
theorem dX7_lay_148 : decode cX7_lay 148 = .ok (.ireturn, 1) := by decide +kernel
theorem dX7_ask_0 : decode cX7_ask 0 = .ok (.iload_n 1, 1) := by decide +kernel
theorem dX7_ask_1 : decode cX7_ask 1 = .ok (.invokestatic 256, 3) := by decide +kernel
theorem dX7_ask_4 : decode cX7_ask 4 = .ok (.ifCond .eq 10, 3) := by decide +kernel
theorem dX7_ask_7 : decode cX7_ask 7 = .ok (.iload_n 2, 1) := by decide +kernel
theorem dX7_ask_8 : decode cX7_ask 8 = .ok (.invokestatic 64, 3) := by decide +kernel
theorem dX7_ask_11 : decode cX7_ask 11 = .ok (.ifCond .ne 6, 3) := by decide +kernel
theorem dX7_ask_14 : decode cX7_ask 14 = .ok (.ldc 74, 2) := by decide +kernel
theorem dX7_ask_16 : decode cX7_ask 16 = .ok (.ireturn, 1) := by decide +kernel
theorem dX7_ask_17 : decode cX7_ask 17 = .ok (.aload_n 0, 1) := by decide +kernel
theorem dX7_ask_18 : decode cX7_ask 18 = .ok (.getfield 43, 3) := by decide +kernel
theorem dX7_ask_21 : decode cX7_ask 21 = .ok (.iload_n 1, 1) := by decide +kernel
theorem dX7_ask_22 : decode cX7_ask 22 = .ok (.aaload, 1) := by decide +kernel
theorem dX7_ask_23 : decode cX7_ask 23 = .ok (.iconst 1, 1) := by decide +kernel
theorem dX7_ask_24 : decode cX7_ask 24 = .ok (.invokevirtual 277, 3) := by decide +kernel
theorem dX7_ask_27 : decode cX7_ask 27 = .ok (.istore_n 3, 1) := by decide +kernel
theorem dX7_ask_28 : decode cX7_ask 28 = .ok (.iload_n 3, 1) := by decide +kernel
theorem dX7_ask_29 : decode cX7_ask 29 = .ok (.ifCond .eq 5, 3) := by decide +kernel
theorem dX7_ask_32 : decode cX7_ask 32 = .ok (.iload_n 3, 1) := by decide +kernel
theorem dX7_ask_33 : decode cX7_ask 33 = .ok (.ireturn, 1) := by decide +kernel
theorem dX7_ask_34 : decode cX7_ask 34 = .ok (.aload_n 0, 1) := by decide +kernel
theorem dX7_ask_35 : decode cX7_ask 35 = .ok (.getfield 43, 3) := by decide +kernel
theorem dX7_ask_38 : decode cX7_ask 38 = .ok (.iload_n 1, 1) := by decide +kernel
theorem dX7_ask_39 : decode cX7_ask 39 = .ok (.aaload, 1) := by decide +kernel
theorem dX7_ask_40 : decode cX7_ask 40 = .ok (.getfield 262, 3) := by decide +kernel
theorem dX7_ask_43 : decode cX7_ask 43 = .ok (.astore 4, 2) := by decide +kernel
theorem dX7_ask_45 : decode cX7_ask 45 = .ok (.aload 4, 2) := by decide +kernel
theorem dX7_ask_47 : decode cX7_ask 47 = .ok (.getfield 98, 3) := by decide +kernel
theorem dX7_ask_50 : decode cX7_ask 50 = .ok (.iload_n 2, 1) := by decide +kernel
theorem dX7_ask_51 : decode cX7_ask 51 = .ok (.invokestatic 101, 3) := by decide +kernel
theorem dX7_ask_54 : decode cX7_ask 54 = .ok (.ifCond .eq 19, 3) := by decide +kernel
theorem dX7_ask_57 : decode cX7_ask 57 = .ok (.aload 4, 2) := by decide +kernel
theorem dX7_ask_59 : decode cX7_ask 59 = .ok (.getfield 98, 3) := by decide +kernel
theorem dX7_ask_62 : decode cX7_ask 62 = .ok (.aload 4, 2) := by decide +kernel
theorem dX7_ask_64 : decode cX7_ask 64 = .ok (.getfield 106, 3) := by decide +kernel
theorem dX7_ask_67 : decode cX7_ask 67 = .ok (.invokestatic 280, 3) := by decide +kernel
theorem dX7_ask_70 : decode cX7_ask 70 = .ok (.goto 5, 3) := by decide +kernel
theorem dX7_ask_73 : decode cX7_ask 73 = .ok (.ldc 109, 2) := by decide +kernel
theorem dX7_ask_75 : decode cX7_ask 75 = .ok (.ireturn, 1) := by decide +kernel
theorem dX7_item_0 : decode cX7_item 0 = .ok (.iload_n 1, 1) := by decide +kernel
theorem dX7_item_1 : decode cX7_item 1 = .ok (.invokestatic 256, 3) := by decide +kernel
theorem dX7_item_4 : decode cX7_item 4 = .ok (.ifCond .ne 6, 3) := by decide +kernel
theorem dX7_item_7 : decode cX7_item 7 = .ok (.ldc 74, 2) := by decide +kernel
theorem dX7_item_9 : decode cX7_item 9 = .ok (.ireturn, 1) := by decide +kernel
theorem dX7_item_10 : decode cX7_item 10 = .ok (.aload_n 0, 1) := by decide +kernel
theorem dX7_item_11 : decode cX7_item 11 = .ok (.getfield 43, 3) := by decide +kernel
theorem dX7_item_14 : decode cX7_item 14 = .ok (.iload_n 1, 1) := by decide +kernel
theorem dX7_item_15 : decode cX7_item 15 = .ok (.aaload, 1) := by decide +kernel
theorem dX7_item_16 : decode cX7_item 16 = .ok (.iconst 2, 1) := by decide +kernel
theorem dX7_item_17 : decode cX7_item 17 = .ok (.invokevirtual 277, 3) := by decide +kernel
theorem dX7_item_20 : decode cX7_item 20 = .ok (.istore_n 3, 1) := by decide +kernel
theorem dX7_item_21 : decode cX7_item 21 = .ok (.iload_n 3, 1) := by decide +kernel
theorem dX7_item_22 : decode cX7_item 22 = .ok (.ifCond .eq 5, 3) := by decide +kernel
theorem dX7_item_25 : decode cX7_item 25 = .ok (.iload_n 3, 1) := by decide +kernel
theorem dX7_item_26 : decode cX7_item 26 = .ok (.ireturn, 1) := by decide +kernel
theorem dX7_item_27 : decode cX7_item 27 = .ok (.aload_n 0, 1) := by decide +kernel
theorem dX7_item_28 : decode cX7_item 28 = .ok (.getfield 43, 3) := by decide +kernel
theorem dX7_item_31 : decode cX7_item 31 = .ok (.iload_n 1, 1) := by decide +kernel
theorem dX7_item_32 : decode cX7_item 32 = .ok (.aaload, 1) := by decide +kernel
theorem dX7_item_33 : decode cX7_item 33 = .ok (.getfield 269, 3) := by decide +kernel
theorem dX7_item_36 : decode cX7_item 36 = .ok (.astore 4, 2) := by decide +kernel
theorem dX7_item_38 : decode cX7_item 38 = .ok (.aload 4, 2) := by decide +kernel
theorem dX7_item_40 : decode cX7_item 40 = .ok (.iload_n 2, 1) := by decide +kernel
theorem dX7_item_41 : decode cX7_item 41 = .ok (.invokevirtual 228, 3) := by decide +kernel
theorem dX7_item_44 : decode cX7_item 44 = .ok (.ifCond .ne 6, 3) := by decide +kernel
theorem dX7_item_47 : decode cX7_item 47 = .ok (.ldc 231, 2) := by decide +kernel
theorem dX7_item_49 : decode cX7_item 49 = .ok (.ireturn, 1) := by decide +kernel
theorem dX7_item_50 : decode cX7_item 50 = .ok (.aload 4, 2) := by decide +kernel
theorem dX7_item_52 : decode cX7_item 52 = .ok (.iload_n 2, 1) := by decide +kernel
theorem dX7_item_53 : decode cX7_item 53 = .ok (.invokevirtual 240, 3) := by decide +kernel
theorem dX7_item_56 : decode cX7_item 56 = .ok (.ifCond .eq 13, 3) := by decide +kernel
theorem dX7_item_59 : decode cX7_item 59 = .ok (.aload 4, 2) := by decide +kernel
theorem dX7_item_61 : decode cX7_item 61 = .ok (.getfield 235, 3) := by decide +kernel
theorem dX7_item_64 : decode cX7_item 64 = .ok (.iload_n 2, 1) := by decide +kernel
theorem dX7_item_65 : decode cX7_item 65 = .ok (.iaload, 1) := by decide +kernel
theorem dX7_item_66 : decode cX7_item 66 = .ok (.goto 5, 3) := by decide +kernel
theorem dX7_item_69 : decode cX7_item 69 = .ok (.ldc 109, 2) := by decide +kernel
theorem dX7_item_71 : decode cX7_item 71 = .ok (.ireturn, 1) := by decide +kernel
theorem dX7_rest_0 : decode cX7_rest 0 = .ok (.iload_n 1, 1) := by decide +kernel
theorem dX7_rest_1 : decode cX7_rest 1 = .ok (.invokestatic 256, 3) := by decide +kernel
theorem dX7_rest_4 : decode cX7_rest 4 = .ok (.ifCond .ne 6, 3) := by decide +kernel
theorem dX7_rest_7 : decode cX7_rest 7 = .ok (.ldc 74, 2) := by decide +kernel
theorem dX7_rest_9 : decode cX7_rest 9 = .ok (.ireturn, 1) := by decide +kernel
theorem dX7_rest_10 : decode cX7_rest 10 = .ok (.aload_n 0, 1) := by decide +kernel
theorem dX7_rest_11 : decode cX7_rest 11 = .ok (.getfield 43, 3) := by decide +kernel
theorem dX7_rest_14 : decode cX7_rest 14 = .ok (.iload_n 1, 1) := by decide +kernel
theorem dX7_rest_15 : decode cX7_rest 15 = .ok (.aaload, 1) := by decide +kernel
theorem dX7_rest_16 : decode cX7_rest 16 = .ok (.iconst 3, 1) := by decide +kernel
theorem dX7_rest_17 : decode cX7_rest 17 = .ok (.invokevirtual 277, 3) := by decide +kernel
theorem dX7_rest_20 : decode cX7_rest 20 = .ok (.istore_n 3, 1) := by decide +kernel
theorem dX7_rest_21 : decode cX7_rest 21 = .ok (.iload_n 3, 1) := by decide +kernel
theorem dX7_rest_22 : decode cX7_rest 22 = .ok (.ifCond .eq 5, 3) := by decide +kernel
theorem dX7_rest_25 : decode cX7_rest 25 = .ok (.iload_n 3, 1) := by decide +kernel
theorem dX7_rest_26 : decode cX7_rest 26 = .ok (.ireturn, 1) := by decide +kernel
theorem dX7_rest_27 : decode cX7_rest 27 = .ok (.iload_n 2, 1) := by decide +kernel
theorem dX7_rest_28 : decode cX7_rest 28 = .ok (.ifCond .ne 9, 3) := by decide +kernel
theorem dX7_rest_31 : decode cX7_rest 31 = .ok (.ldc_w 283, 3) := by decide +kernel
theorem dX7_rest_34 : decode cX7_rest 34 = .ok (.goto 14, 3) := by decide +kernel
theorem dX7_rest_37 : decode cX7_rest 37 = .ok (.aload_n 0, 1) := by decide +kernel
theorem dX7_rest_38 : decode cX7_rest 38 = .ok (.getfield 43, 3) := by decide +kernel
theorem dX7_rest_41 : decode cX7_rest 41 = .ok (.iload_n 1, 1) := by decide +kernel
theorem dX7_rest_42 : decode cX7_rest 42 = .ok (.aaload, 1) := by decide +kernel
theorem dX7_rest_43 : decode cX7_rest 43 = .ok (.getfield 276, 3) := by decide +kernel
theorem dX7_rest_46 : decode cX7_rest 46 = .ok (.iload_n 2, 1) := by decide +kernel
theorem dX7_rest_47 : decode cX7_rest 47 = .ok (.irem, 1) := by decide +kernel
theorem dX7_rest_48 : decode cX7_rest 48 = .ok (.ireturn, 1) := by decide +kernel
theorem dX7_tell_0 : decode cX7_tell 0 = .ok (.aload_n 0, 1) := by decide +kernel
theorem dX7_tell_1 : decode cX7_tell 1 = .ok (.getfield 51, 3) := by decide +kernel
theorem dX7_tell_4 : decode cX7_tell 4 = .ok (.aload_n 0, 1) := by decide +kernel
theorem dX7_tell_5 : decode cX7_tell 5 = .ok (.getfield 47, 3) := by decide +kernel
theorem dX7_tell_8 : decode cX7_tell 8 = .ok (.arraylength, 1) := by decide +kernel
theorem dX7_tell_9 : decode cX7_tell 9 = .ok (.if_icmp .lt 6, 3) := by decide +kernel
theorem dX7_tell_12 : decode cX7_tell 12 = .ok (.ldc 78, 2) := by decide +kernel
theorem dX7_tell_14 : decode cX7_tell 14 = .ok (.ireturn, 1) := by decide +kernel
theorem dX7_tell_15 : decode cX7_tell 15 = .ok (.aload_n 0, 1) := by decide +kernel
theorem dX7_tell_16 : decode cX7_tell 16 = .ok (.getfield 47, 3) := by decide +kernel
theorem dX7_tell_19 : decode cX7_tell 19 = .ok (.aload_n 0, 1) := by decide +kernel
theorem dX7_tell_20 : decode cX7_tell 20 = .ok (.getfield 51, 3) := by decide +kernel
theorem dX7_tell_23 : decode cX7_tell 23 = .ok (.iload_n 1, 1) := by decide +kernel
theorem dX7_tell_24 : decode cX7_tell 24 = .ok (.iastore, 1) := by decide +kernel
theorem dX7_tell_25 : decode cX7_tell 25 = .ok (.aload_n 0, 1) := by decide +kernel
theorem dX7_tell_26 : decode cX7_tell 26 = .ok (.dup, 1) := by decide +kernel
theorem dX7_tell_27 : decode cX7_tell 27 = .ok (.getfield 51, 3) := by decide +kernel
theorem dX7_tell_30 : decode cX7_tell 30 = .ok (.iconst 1, 1) := by decide +kernel
theorem dX7_tell_31 : decode cX7_tell 31 = .ok (.iadd, 1) := by decide +kernel
theorem dX7_tell_32 : decode cX7_tell 32 = .ok (.putfield 51, 3) := by decide +kernel
theorem dX7_tell_35 : decode cX7_tell 35 = .ok (.aload_n 0, 1) := by decide +kernel
theorem dX7_tell_36 : decode cX7_tell 36 = .ok (.getfield 51, 3) := by decide +kernel
theorem dX7_tell_39 : decode cX7_tell 39 = .ok (.ireturn, 1) := by decide +kernel
theorem dX7_check_0 : decode cX7_check 0 = .ok (.aload_n 0, 1) := by decide +kernel
theorem dX7_check_1 : decode cX7_check 1 = .ok (.getfield 51, 3) := by decide +kernel
theorem dX7_check_4 : decode cX7_check 4 = .ok (.istore_n 2, 1) := by decide +kernel
theorem dX7_check_5 : decode cX7_check 5 = .ok (.aload_n 0, 1) := by decide +kernel
theorem dX7_check_6 : decode cX7_check 6 = .ok (.iconst 0, 1) := by decide +kernel
theorem dX7_check_7 : decode cX7_check 7 = .ok (.putfield 51, 3) := by decide +kernel
theorem dX7_check_10 : decode cX7_check 10 = .ok (.iload_n 1, 1) := by decide +kernel
theorem dX7_check_11 : decode cX7_check 11 = .ok (.iconst 1, 1) := by decide +kernel
theorem dX7_check_12 : decode cX7_check 12 = .ok (.if_icmp .lt 9, 3) := by decide +kernel
theorem dX7_check_15 : decode cX7_check 15 = .ok (.iload_n 1, 1) := by decide +kernel
theorem dX7_check_16 : decode cX7_check 16 = .ok (.bipush 30, 2) := by decide +kernel
theorem dX7_check_18 : decode cX7_check 18 = .ok (.if_icmp .le 6, 3) := by decide +kernel
theorem dX7_check_21 : decode cX7_check 21 = .ok (.ldc 74, 2) := by decide +kernel
theorem dX7_check_23 : decode cX7_check 23 = .ok (.ireturn, 1) := by decide +kernel
theorem dX7_check_24 : decode cX7_check 24 = .ok (.aload_n 0, 1) := by decide +kernel
theorem dX7_check_25 : decode cX7_check 25 = .ok (.getfield 55, 3) := by decide +kernel
theorem dX7_check_28 : decode cX7_check 28 = .ok (.ifCond .ne 7, 3) := by decide +kernel
theorem dX7_check_31 : decode cX7_check 31 = .ok (.ldc_w 283, 3) := by decide +kernel
theorem dX7_check_34 : decode cX7_check 34 = .ok (.ireturn, 1) := by decide +kernel
theorem dX7_check_35 : decode cX7_check 35 = .ok (.aload_n 0, 1) := by decide +kernel
theorem dX7_check_36 : decode cX7_check 36 = .ok (.getfield 32, 3) := by decide +kernel
theorem dX7_check_39 : decode cX7_check 39 = .ok (.aload_n 0, 1) := by decide +kernel
theorem dX7_check_40 : decode cX7_check 40 = .ok (.getfield 29, 3) := by decide +kernel
theorem dX7_check_43 : decode cX7_check 43 = .ok (.invokevirtual 161, 3) := by decide +kernel
theorem dX7_check_46 : decode cX7_check 46 = .ok (.iload_n 1, 1) := by decide +kernel
theorem dX7_check_47 : decode cX7_check 47 = .ok (.sipush 9999, 3) := by decide +kernel
theorem dX7_check_50 : decode cX7_check 50 = .ok (.aload_n 0, 1) := by decide +kernel
theorem dX7_check_51 : decode cX7_check 51 = .ok (.getfield 29, 3) := by decide +kernel
theorem dX7_check_54 : decode cX7_check 54 = .ok (.getfield 135, 3) := by decide +kernel
theorem dX7_check_57 : decode cX7_check 57 = .ok (.isub, 1) := by decide +kernel
theorem dX7_check_58 : decode cX7_check 58 = .ok (.invokestatic 114, 3) := by decide +kernel
theorem dX7_check_61 : decode cX7_check 61 = .ok (.istore_n 3, 1) := by decide +kernel
theorem dX7_check_62 : decode cX7_check 62 = .ok (.iconst 0, 1) := by decide +kernel
theorem dX7_check_63 : decode cX7_check 63 = .ok (.istore 4, 2) := by decide +kernel
theorem dX7_check_65 : decode cX7_check 65 = .ok (.iload 4, 2) := by decide +kernel
theorem dX7_check_67 : decode cX7_check 67 = .ok (.iload_n 3, 1) := by decide +kernel
theorem dX7_check_68 : decode cX7_check 68 = .ok (.if_icmp .ge 71, 3) := by decide +kernel
theorem dX7_check_71 : decode cX7_check 71 = .ok (.aload_n 0, 1) := by decide +kernel
theorem dX7_check_72 : decode cX7_check 72 = .ok (.getfield 32, 3) := by decide +kernel
theorem dX7_check_75 : decode cX7_check 75 = .ok (.invokevirtual 284, 3) := by decide +kernel
theorem dX7_check_78 : decode cX7_check 78 = .ok (.pop, 1) := by decide +kernel
theorem dX7_check_79 : decode cX7_check 79 = .ok (.aload_n 0, 1) := by decide +kernel
theorem dX7_check_80 : decode cX7_check 80 = .ok (.iconst 2, 1) := by decide +kernel
theorem dX7_check_81 : decode cX7_check 81 = .ok (.iload 4, 2) := by decide +kernel
theorem dX7_check_83 : decode cX7_check 83 = .ok (.imul, 1) := by decide +kernel
theorem dX7_check_84 : decode cX7_check 84 = .ok (.iload_n 2, 1) := by decide +kernel
theorem dX7_check_85 : decode cX7_check 85 = .ok (.aload_n 0, 1) := by decide +kernel
theorem dX7_check_86 : decode cX7_check 86 = .ok (.getfield 32, 3) := by decide +kernel
theorem dX7_check_89 : decode cX7_check 89 = .ok (.invokevirtual 141, 3) := by decide +kernel
theorem dX7_check_92 : decode cX7_check 92 = .ok (.invokevirtual 287, 3) := by decide +kernel
theorem dX7_check_95 : decode cX7_check 95 = .ok (.ifCond .ne 10, 3) := by decide +kernel
theorem dX7_check_98 : decode cX7_check 98 = .ok (.iconst 1, 1) := by decide +kernel
theorem dX7_check_99 : decode cX7_check 99 = .ok (.iconst 2, 1) := by decide +kernel
theorem dX7_check_100 : decode cX7_check 100 = .ok (.iload 4, 2) := by decide +kernel
theorem dX7_check_102 : decode cX7_check 102 = .ok (.imul, 1) := by decide +kernel
theorem dX7_check_103 : decode cX7_check 103 = .ok (.iadd, 1) := by decide +kernel
theorem dX7_check_104 : decode cX7_check 104 = .ok (.ireturn, 1) := by decide +kernel
theorem dX7_check_105 : decode cX7_check 105 = .ok (.aload_n 0, 1) := by decide +kernel
theorem dX7_check_106 : decode cX7_check 106 = .ok (.iconst 2, 1) := by decide +kernel
theorem dX7_check_107 : decode cX7_check 107 = .ok (.iload 4, 2) := by decide +kernel
theorem dX7_check_109 : decode cX7_check 109 = .ok (.imul, 1) := by decide +kernel
theorem dX7_check_110 : decode cX7_check 110 = .ok (.iconst 1, 1) := by decide +kernel
theorem dX7_check_111 : decode cX7_check 111 = .ok (.iadd, 1) := by decide +kernel
theorem dX7_check_112 : decode cX7_check 112 = .ok (.iload_n 2, 1) := by decide +kernel
theorem dX7_check_113 : decode cX7_check 113 = .ok (.aload_n 0, 1) := by decide +kernel
theorem dX7_check_114 : decode cX7_check 114 = .ok (.getfield 32, 3) := by decide +kernel
theorem dX7_check_117 : decode cX7_check 117 = .ok (.getfield 148, 3) := by decide +kernel
theorem dX7_check_120 : decode cX7_check 120 = .ok (.invokevirtual 287, 3) := by decide +kernel
theorem dX7_check_123 : decode cX7_check 123 = .ok (.ifCond .ne 10, 3) := by decide +kernel
theorem dX7_check_126 : decode cX7_check 126 = .ok (.iconst 2, 1) := by decide +kernel
theorem dX7_check_127 : decode cX7_check 127 = .ok (.iconst 2, 1) := by decide +kernel
theorem dX7_check_128 : decode cX7_check 128 = .ok (.iload 4, 2) := by decide +kernel
theorem dX7_check_130 : decode cX7_check 130 = .ok (.imul, 1) := by decide +kernel
theorem dX7_check_131 : decode cX7_check 131 = .ok (.iadd, 1) := by decide +kernel
theorem dX7_check_132 : decode cX7_check 132 = .ok (.ireturn, 1) := by decide +kernel
theorem dX7_check_133 : decode cX7_check 133 = .ok (.iinc 4 1, 3) := by decide +kernel
theorem dX7_check_136 : decode cX7_check 136 = .ok (.goto (-71), 3) := by decide +kernel
theorem dX7_check_139 : decode cX7_check 139 = .ok (.iload_n 2, 1) := by decide +kernel
theorem dX7_check_140 : decode cX7_check 140 = .ok (.iconst 2, 1) := by decide +kernel
theorem dX7_check_141 : decode cX7_check 141 = .ok (.iload_n 3, 1) := by decide +kernel
theorem dX7_check_142 : decode cX7_check 142 = .ok (.imul, 1) := by decide +kernel
theorem dX7_check_143 : decode cX7_check 143 = .ok (.if_icmp .le 11, 3) := by decide +kernel
theorem dX7_check_146 : decode cX7_check 146 = .ok (.iconst 1, 1) := by decide +kernel
theorem dX7_check_147 : decode cX7_check 147 = .ok (.iconst 2, 1) := by decide +kernel
theorem dX7_check_148 : decode cX7_check 148 = .ok (.iload_n 3, 1) := by decide +kernel
theorem dX7_check_149 : decode cX7_check 149 = .ok (.imul, 1) := by decide +kernel
theorem dX7_check_150 : decode cX7_check 150 = .ok (.iadd, 1) := by decide +kernel
theorem dX7_check_151 : decode cX7_check 151 = .ok (.goto 4, 3) := by decide +kernel
theorem dX7_check_154 : decode cX7_check 154 = .ok (.iconst 0, 1) := by decide +kernel
theorem dX7_check_155 : decode cX7_check 155 = .ok (.ireturn, 1) := by decide +kernel
theorem dX7_keep_0 : decode cX7_keep 0 = .ok (.aload_n 0, 1) := by decide +kernel
theorem dX7_keep_1 : decode cX7_keep 1 = .ok (.getfield 29, 3) := by decide +kernel
theorem dX7_keep_4 : decode cX7_keep 4 = .ok (.aload_n 0, 1) := by decide +kernel
theorem dX7_keep_5 : decode cX7_keep 5 = .ok (.getfield 25, 3) := by decide +kernel
theorem dX7_keep_8 : decode cX7_keep 8 = .ok (.invokevirtual 161, 3) := by decide +kernel
theorem dX7_keep_11 : decode cX7_keep 11 = .ok (.aload_n 0, 1) := by decide +kernel
theorem dX7_keep_12 : decode cX7_keep 12 = .ok (.iconst 1, 1) := by decide +kernel
theorem dX7_keep_13 : decode cX7_keep 13 = .ok (.putfield 55, 3) := by decide +kernel
theorem dX7_keep_16 : decode cX7_keep 16 = .ok (.aload_n 0, 1) := by decide +kernel
theorem dX7_keep_17 : decode cX7_keep 17 = .ok (.getfield 29, 3) := by decide +kernel
theorem dX7_keep_20 : decode cX7_keep 20 = .ok (.getfield 75, 3) := by decide +kernel
theorem dX7_keep_23 : decode cX7_keep 23 = .ok (.ireturn, 1) := by decide +kernel
theorem dX7_back_0 : decode cX7_back 0 = .ok (.aload_n 0, 1) := by decide +kernel
theorem dX7_back_1 : decode cX7_back 1 = .ok (.getfield 55, 3) := by decide +kernel
theorem dX7_back_4 : decode cX7_back 4 = .ok (.ifCond .ne 7, 3) := by decide +kernel
theorem dX7_back_7 : decode cX7_back 7 = .ok (.ldc_w 283, 3) := by decide +kernel
theorem dX7_back_10 : decode cX7_back 10 = .ok (.ireturn, 1) := by decide +kernel
theorem dX7_back_11 : decode cX7_back 11 = .ok (.aload_n 0, 1) := by decide +kernel
theorem dX7_back_12 : decode cX7_back 12 = .ok (.getfield 25, 3) := by decide +kernel
theorem dX7_back_15 : decode cX7_back 15 = .ok (.aload_n 0, 1) := by decide +kernel
theorem dX7_back_16 : decode cX7_back 16 = .ok (.getfield 29, 3) := by decide +kernel
theorem dX7_back_19 : decode cX7_back 19 = .ok (.invokevirtual 161, 3) := by decide +kernel
theorem dX7_back_22 : decode cX7_back 22 = .ok (.aload_n 0, 1) := by decide +kernel
theorem dX7_back_23 : decode cX7_back 23 = .ok (.getfield 25, 3) := by decide +kernel
theorem dX7_back_26 : decode cX7_back 26 = .ok (.getfield 75, 3) := by decide +kernel
theorem dX7_back_29 : decode cX7_back 29 = .ok (.ireturn, 1) := by decide +kernel
theorem dX7_count_0 : decode cX7_count 0 = .ok (.iload_n 1, 1) := by decide +kernel
theorem dX7_count_1 : decode cX7_count 1 = .ok (.tableswitch 128 0 8 #[51, 59, 67, 75, 83, 99, 107, 112, 120], 51) := by decide +kernel
theorem dX7_count_52 : decode cX7_count 52 = .ok (.aload_n 0, 1) := by decide +kernel
theorem dX7_count_53 : decode cX7_count 53 = .ok (.getfield 25, 3) := by decide +kernel
theorem dX7_count_56 : decode cX7_count 56 = .ok (.getfield 75, 3) := by decide +kernel
theorem dX7_count_59 : decode cX7_count 59 = .ok (.ireturn, 1) := by decide +kernel
theorem dX7_count_60 : decode cX7_count 60 = .ok (.aload_n 0, 1) := by decide +kernel
theorem dX7_count_61 : decode cX7_count 61 = .ok (.getfield 25, 3) := by decide +kernel
theorem dX7_count_64 : decode cX7_count 64 = .ok (.getfield 135, 3) := by decide +kernel
theorem dX7_count_67 : decode cX7_count 67 = .ok (.ireturn, 1) := by decide +kernel
theorem dX7_count_68 : decode cX7_count 68 = .ok (.aload_n 0, 1) := by decide +kernel
theorem dX7_count_69 : decode cX7_count 69 = .ok (.getfield 25, 3) := by decide +kernel
theorem dX7_count_72 : decode cX7_count 72 = .ok (.getfield 126, 3) := by decide +kernel
theorem dX7_count_75 : decode cX7_count 75 = .ok (.ireturn, 1) := by decide +kernel
theorem dX7_count_76 : decode cX7_count 76 = .ok (.aload_n 0, 1) := by decide +kernel
theorem dX7_count_77 : decode cX7_count 77 = .ok (.getfield 25, 3) := by decide +kernel
theorem dX7_count_80 : decode cX7_count 80 = .ok (.getfield 129, 3) := by decide +kernel
theorem dX7_count_83 : decode cX7_count 83 = .ok (.ireturn, 1) := by decide +kernel
theorem dX7_count_84 : decode cX7_count 84 = .ok (.aload_n 0, 1) := by decide +kernel
theorem dX7_count_85 : decode cX7_count 85 = .ok (.getfield 25, 3) := by decide +kernel
theorem dX7_count_88 : decode cX7_count 88 = .ok (.getfield 132, 3) := by decide +kernel
theorem dX7_count_91 : decode cX7_count 91 = .ok (.ifCond .eq 7, 3) := by decide +kernel
theorem dX7_count_94 : decode cX7_count 94 = .ok (.iconst 1, 1) := by decide +kernel
theorem dX7_count_95 : decode cX7_count 95 = .ok (.goto 4, 3) := by decide +kernel
theorem dX7_count_98 : decode cX7_count 98 = .ok (.iconst 0, 1) := by decide +kernel
theorem dX7_count_99 : decode cX7_count 99 = .ok (.ireturn, 1) := by decide +kernel
theorem dX7_count_100 : decode cX7_count 100 = .ok (.aload_n 0, 1) := by decide +kernel
theorem dX7_count_101 : decode cX7_count 101 = .ok (.getfield 25, 3) := by decide +kernel
theorem dX7_count_104 : decode cX7_count 104 = .ok (.getfield 204, 3) := by decide +kernel
theorem dX7_count_107 : decode cX7_count 107 = .ok (.ireturn, 1) := by decide +kernel
theorem dX7_count_108 : decode cX7_count 108 = .ok (.aload_n 0, 1) := by decide +kernel
theorem dX7_count_109 : decode cX7_count 109 = .ok (.getfield 51, 3) := by decide +kernel
theorem dX7_count_112 : decode cX7_count 112 = .ok (.ireturn, 1) := by decide +kernel
theorem dX7_count_113 : decode cX7_count 113 = .ok (.aload_n 0, 1) := by decide +kernel
theorem dX7_count_114 : decode cX7_count 114 = .ok (.getfield 18, 3) := by decide +kernel
theorem dX7_count_117 : decode cX7_count 117 = .ok (.getfield 197, 3) := by decide +kernel
theorem dX7_count_120 : decode cX7_count 120 = .ok (.ireturn, 1) := by decide +kernel
theorem dX7_count_121 : decode cX7_count 121 = .ok (.aload_n 0, 1) := by decide +kernel
theorem dX7_count_122 : decode cX7_count 122 = .ok (.getfield 25, 3) := by decide +kernel
theorem dX7_count_125 : decode cX7_count 125 = .ok (.getfield 123, 3) := by decide +kernel
theorem dX7_count_128 : decode cX7_count 128 = .ok (.ireturn, 1) := by decide +kernel
theorem dX7_count_129 : decode cX7_count 129 = .ok (.ldc 74, 2) := by decide +kernel
theorem dX7_count_131 : decode cX7_count 131 = .ok (.ireturn, 1) := by decide +kernel
theorem dX7_isBoy_0 : decode cX7_isBoy 0 = .ok (.iload_n 1, 1) := by decide +kernel
theorem dX7_isBoy_1 : decode cX7_isBoy 1 = .ok (.ifCond .lt 18, 3) := by decide +kernel
theorem dX7_isBoy_4 : decode cX7_isBoy 4 = .ok (.iload_n 1, 1) := by decide +kernel
theorem dX7_isBoy_5 : decode cX7_isBoy 5 = .ok (.aload_n 0, 1) := by decide +kernel
theorem dX7_isBoy_6 : decode cX7_isBoy 6 = .ok (.getfield 25, 3) := by decide +kernel
theorem dX7_isBoy_9 : decode cX7_isBoy 9 = .ok (.getfield 75, 3) := by decide +kernel
theorem dX7_isBoy_12 : decode cX7_isBoy 12 = .ok (.if_icmp .ge 7, 3) := by decide +kernel
theorem dX7_isBoy_15 : decode cX7_isBoy 15 = .ok (.iconst 1, 1) := by decide +kernel
theorem dX7_isBoy_16 : decode cX7_isBoy 16 = .ok (.goto 4, 3) := by decide +kernel
theorem dX7_isBoy_19 : decode cX7_isBoy 19 = .ok (.iconst 0, 1) := by decide +kernel
theorem dX7_isBoy_20 : decode cX7_isBoy 20 = .ok (.ireturn, 1) := by decide +kernel
theorem dX7_isKind_0 : decode cX7_isKind 0 = .ok (.iload_n 0, 1) := by decide +kernel
theorem dX7_isKind_1 : decode cX7_isKind 1 = .ok (.ifCond .lt 13, 3) := by decide +kernel
theorem dX7_isKind_4 : decode cX7_isKind 4 = .ok (.iload_n 0, 1) := by decide +kernel
theorem dX7_isKind_5 : decode cX7_isKind 5 = .ok (.bipush 6, 2) := by decide +kernel
theorem dX7_isKind_7 : decode cX7_isKind 7 = .ok (.if_icmp .ge 7, 3) := by decide +kernel
theorem dX7_isKind_10 : decode cX7_isKind 10 = .ok (.iconst 1, 1) := by decide +kernel
theorem dX7_isKind_11 : decode cX7_isKind 11 = .ok (.goto 4, 3) := by decide +kernel
theorem dX7_isKind_14 : decode cX7_isKind 14 = .ok (.iconst 0, 1) := by decide +kernel
theorem dX7_isKind_15 : decode cX7_isKind 15 = .ok (.ireturn, 1) := by decide +kernel
theorem dX7_isSheet_0 : decode cX7_isSheet 0 = .ok (.iload_n 0, 1) := by decide +kernel
theorem dX7_isSheet_1 : decode cX7_isSheet 1 = .ok (.ifCond .lt 12, 3) := by decide +kernel
theorem dX7_isSheet_4 : decode cX7_isSheet 4 = .ok (.iload_n 0, 1) := by decide +kernel
theorem dX7_isSheet_5 : decode cX7_isSheet 5 = .ok (.iconst 4, 1) := by decide +kernel
theorem dX7_isSheet_6 : decode cX7_isSheet 6 = .ok (.if_icmp .ge 7, 3) := by decide +kernel
theorem dX7_isSheet_9 : decode cX7_isSheet 9 = .ok (.iconst 1, 1) := by decide +kernel
theorem dX7_isSheet_10 : decode cX7_isSheet 10 = .ok (.goto 4, 3) := by decide +kernel
theorem dX7_isSheet_13 : decode cX7_isSheet 13 = .ok (.iconst 0, 1) := by decide +kernel
theorem dX7_isSheet_14 : decode cX7_isSheet 14 = .ok (.ireturn, 1) := by decide +kernel
theorem dX7_isSlot_0 : decode cX7_isSlot 0 = .ok (.iload_n 0, 1) := by decide +kernel
theorem dX7_isSlot_1 : decode cX7_isSlot 1 = .ok (.ifCond .lt 12, 3) := by decide +kernel
theorem dX7_isSlot_4 : decode cX7_isSlot 4 = .ok (.iload_n 0, 1) := by decide +kernel
theorem dX7_isSlot_5 : decode cX7_isSlot 5 = .ok (.iconst 5, 1) := by decide +kernel
theorem dX7_isSlot_6 : decode cX7_isSlot 6 = .ok (.if_icmp .ge 7, 3) := by decide +kernel
theorem dX7_isSlot_9 : decode cX7_isSlot 9 = .ok (.iconst 1, 1) := by decide +kernel
theorem dX7_isSlot_10 : decode cX7_isSlot 10 = .ok (.goto 4, 3) := by decide +kernel
theorem dX7_isSlot_13 : decode cX7_isSlot 13 = .ok (.iconst 0, 1) := by decide +kernel
theorem dX7_isSlot_14 : decode cX7_isSlot 14 = .ok (.ireturn, 1) := by decide +kernel
theorem dX7_mayBeThought_0 : decode cX7_mayBeThought 0 = .ok (.iload_n 0, 1) := by decide +kernel
theorem dX7_mayBeThought_1 : decode cX7_mayBeThought 1 = .ok (.iconst 1, 1) := by decide +kernel
theorem dX7_mayBeThought_2 : decode cX7_mayBeThought 2 = .ok (.if_icmp .lt 13, 3) := by decide +kernel
theorem dX7_mayBeThought_5 : decode cX7_mayBeThought 5 = .ok (.iload_n 0, 1) := by decide +kernel
theorem dX7_mayBeThought_6 : decode cX7_mayBeThought 6 = .ok (.bipush 60, 2) := by decide +kernel
theorem dX7_mayBeThought_8 : decode cX7_mayBeThought 8 = .ok (.if_icmp .gt 7, 3) := by decide +kernel
theorem dX7_mayBeThought_11 : decode cX7_mayBeThought 11 = .ok (.iconst 1, 1) := by decide +kernel
theorem dX7_mayBeThought_12 : decode cX7_mayBeThought 12 = .ok (.goto 4, 3) := by decide +kernel
theorem dX7_mayBeThought_15 : decode cX7_mayBeThought 15 = .ok (.iconst 0, 1) := by decide +kernel
theorem dX7_mayBeThought_16 : decode cX7_mayBeThought 16 = .ok (.ireturn, 1) := by decide +kernel
theorem dX7_differences_0 : decode cX7_differences 0 = .ok (.iconst 0, 1) := by decide +kernel
theorem dX7_differences_1 : decode cX7_differences 1 = .ok (.istore_n 3, 1) := by decide +kernel
theorem dX7_differences_2 : decode cX7_differences 2 = .ok (.iconst 0, 1) := by decide +kernel
theorem dX7_differences_3 : decode cX7_differences 3 = .ok (.istore 4, 2) := by decide +kernel
theorem dX7_differences_5 : decode cX7_differences 5 = .ok (.iload 4, 2) := by decide +kernel
theorem dX7_differences_7 : decode cX7_differences 7 = .ok (.aload_n 2, 1) := by decide +kernel
theorem dX7_differences_8 : decode cX7_differences 8 = .ok (.getfield 246, 3) := by decide +kernel
theorem dX7_differences_11 : decode cX7_differences 11 = .ok (.if_icmp .ge 43, 3) := by decide +kernel
theorem dX7_differences_14 : decode cX7_differences 14 = .ok (.aload_n 2, 1) := by decide +kernel
theorem dX7_differences_15 : decode cX7_differences 15 = .ok (.iload 4, 2) := by decide +kernel
theorem dX7_differences_17 : decode cX7_differences 17 = .ok (.invokevirtual 240, 3) := by decide +kernel
theorem dX7_differences_20 : decode cX7_differences 20 = .ok (.ifCond .eq 28, 3) := by decide +kernel
theorem dX7_differences_23 : decode cX7_differences 23 = .ok (.iload_n 3, 1) := by decide +kernel
theorem dX7_differences_24 : decode cX7_differences 24 = .ok (.aload_n 0, 1) := by decide +kernel
theorem dX7_differences_25 : decode cX7_differences 25 = .ok (.getfield 25, 3) := by decide +kernel
theorem dX7_differences_28 : decode cX7_differences 28 = .ok (.aload_n 1, 1) := by decide +kernel
theorem dX7_differences_29 : decode cX7_differences 29 = .ok (.iload 4, 2) := by decide +kernel
theorem dX7_differences_31 : decode cX7_differences 31 = .ok (.iconst 0, 1) := by decide +kernel
theorem dX7_differences_32 : decode cX7_differences 32 = .ok (.invokevirtual 94, 3) := by decide +kernel
theorem dX7_differences_35 : decode cX7_differences 35 = .ok (.aload_n 2, 1) := by decide +kernel
theorem dX7_differences_36 : decode cX7_differences 36 = .ok (.getfield 235, 3) := by decide +kernel
theorem dX7_differences_39 : decode cX7_differences 39 = .ok (.iload 4, 2) := by decide +kernel
theorem dX7_differences_41 : decode cX7_differences 41 = .ok (.iaload, 1) := by decide +kernel
theorem dX7_differences_42 : decode cX7_differences 42 = .ok (.isub, 1) := by decide +kernel
theorem dX7_differences_43 : decode cX7_differences 43 = .ok (.invokestatic 291, 3) := by decide +kernel
theorem dX7_differences_46 : decode cX7_differences 46 = .ok (.iadd, 1) := by decide +kernel
theorem dX7_differences_47 : decode cX7_differences 47 = .ok (.istore_n 3, 1) := by decide +kernel
theorem dX7_differences_48 : decode cX7_differences 48 = .ok (.iinc 4 1, 3) := by decide +kernel
theorem dX7_differences_51 : decode cX7_differences 51 = .ok (.goto (-46), 3) := by decide +kernel
theorem dX7_differences_54 : decode cX7_differences 54 = .ok (.iload_n 3, 1) := by decide +kernel
theorem dX7_differences_55 : decode cX7_differences 55 = .ok (.ireturn, 1) := by decide +kernel
theorem dX7_waits_0 : decode cX7_waits 0 = .ok (.iload_n 1, 1) := by decide +kernel
theorem dX7_waits_1 : decode cX7_waits 1 = .ok (.iload_n 2, 1) := by decide +kernel
theorem dX7_waits_2 : decode cX7_waits 2 = .ok (.if_icmp .ge 26, 3) := by decide +kernel
theorem dX7_waits_5 : decode cX7_waits 5 = .ok (.iload_n 1, 1) := by decide +kernel
theorem dX7_waits_6 : decode cX7_waits 6 = .ok (.aload_n 0, 1) := by decide +kernel
theorem dX7_waits_7 : decode cX7_waits 7 = .ok (.getfield 47, 3) := by decide +kernel
theorem dX7_waits_10 : decode cX7_waits 10 = .ok (.arraylength, 1) := by decide +kernel
theorem dX7_waits_11 : decode cX7_waits 11 = .ok (.if_icmp .ge 17, 3) := by decide +kernel
theorem dX7_waits_14 : decode cX7_waits 14 = .ok (.aload_n 0, 1) := by decide +kernel
theorem dX7_waits_15 : decode cX7_waits 15 = .ok (.getfield 47, 3) := by decide +kernel
theorem dX7_waits_18 : decode cX7_waits 18 = .ok (.iload_n 1, 1) := by decide +kernel
theorem dX7_waits_19 : decode cX7_waits 19 = .ok (.iaload, 1) := by decide +kernel
theorem dX7_waits_20 : decode cX7_waits 20 = .ok (.iload_n 3, 1) := by decide +kernel
theorem dX7_waits_21 : decode cX7_waits 21 = .ok (.if_icmp .ne 7, 3) := by decide +kernel
theorem dX7_waits_24 : decode cX7_waits 24 = .ok (.iconst 1, 1) := by decide +kernel
theorem dX7_waits_25 : decode cX7_waits 25 = .ok (.goto 4, 3) := by decide +kernel
theorem dX7_waits_28 : decode cX7_waits 28 = .ok (.iconst 0, 1) := by decide +kernel
theorem dX7_waits_29 : decode cX7_waits 29 = .ok (.ireturn, 1) := by decide +kernel
theorem dX8_init_0 : decode cX8_init 0 = .ok (.aload_n 0, 1) := by decide +kernel
theorem dX8_init_1 : decode cX8_init 1 = .ok (.invokespecial 1, 3) := by decide +kernel
theorem dX8_init_4 : decode cX8_init 4 = .ok (.aload_n 0, 1) := by decide +kernel
theorem dX8_init_5 : decode cX8_init 5 = .ok (.sipush 1437, 3) := by decide +kernel
theorem dX8_init_8 : decode cX8_init 8 = .ok (.newarray .int, 2) := by decide +kernel
theorem dX8_init_10 : decode cX8_init 10 = .ok (.putfield 9, 3) := by decide +kernel
theorem dX8_init_13 : decode cX8_init 13 = .ok (.aload_n 0, 1) := by decide +kernel
theorem dX8_init_14 : decode cX8_init 14 = .ok (.sipush 1437, 3) := by decide +kernel
theorem dX8_init_17 : decode cX8_init 17 = .ok (.newarray .int, 2) := by decide +kernel
theorem dX8_init_19 : decode cX8_init 19 = .ok (.putfield 13, 3) := by decide +kernel
theorem dX8_init_22 : decode cX8_init 22 = .ok (.aload_n 0, 1) := by decide +kernel
theorem dX8_init_23 : decode cX8_init 23 = .ok (.sipush 1437, 3) := by decide +kernel
theorem dX8_init_26 : decode cX8_init 26 = .ok (.newarray .int, 2) := by decide +kernel
theorem dX8_init_28 : decode cX8_init 28 = .ok (.putfield 16, 3) := by decide +kernel
theorem dX8_init_31 : decode cX8_init 31 = .ok (.aload_n 0, 1) := by decide +kernel
theorem dX8_init_32 : decode cX8_init 32 = .ok (.iconst (-1), 1) := by decide +kernel
theorem dX8_init_33 : decode cX8_init 33 = .ok (.putfield 19, 3) := by decide +kernel
theorem dX8_init_36 : decode cX8_init 36 = .ok (.aload_n 0, 1) := by decide +kernel
theorem dX8_init_37 : decode cX8_init 37 = .ok (.bipush 65, 2) := by decide +kernel
theorem dX8_init_39 : decode cX8_init 39 = .ok (.newarray .int, 2) := by decide +kernel
theorem dX8_init_41 : decode cX8_init 41 = .ok (.putfield 23, 3) := by decide +kernel
theorem dX8_init_44 : decode cX8_init 44 = .ok (.aload_n 0, 1) := by decide +kernel
theorem dX8_init_45 : decode cX8_init 45 = .ok (.bipush 96, 2) := by decide +kernel
theorem dX8_init_47 : decode cX8_init 47 = .ok (.newarray .int, 2) := by decide +kernel
theorem dX8_init_49 : decode cX8_init 49 = .ok (.putfield 26, 3) := by decide +kernel
theorem dX8_init_52 : decode cX8_init 52 = .ok (.aload_n 0, 1) := by decide +kernel
theorem dX8_init_53 : decode cX8_init 53 = .ok (.bipush 12, 2) := by decide +kernel
theorem dX8_init_55 : decode cX8_init 55 = .ok (.newarray .char, 2) := by decide +kernel
theorem dX8_init_57 : decode cX8_init 57 = .ok (.dup, 1) := by decide +kernel
theorem dX8_init_58 : decode cX8_init 58 = .ok (.iconst 0, 1) := by decide +kernel
theorem dX8_init_59 : decode cX8_init 59 = .ok (.bipush 115, 2) := by decide +kernel
theorem dX8_init_61 : decode cX8_init 61 = .ok (.castore, 1) := by decide +kernel
theorem dX8_init_62 : decode cX8_init 62 = .ok (.dup, 1) := by decide +kernel
theorem dX8_init_63 : decode cX8_init 63 = .ok (.iconst 1, 1) := by decide +kernel
theorem dX8_init_64 : decode cX8_init 64 = .ok (.bipush 104, 2) := by decide +kernel
theorem dX8_init_66 : decode cX8_init 66 = .ok (.castore, 1) := by decide +kernel
theorem dX8_init_67 : decode cX8_init 67 = .ok (.dup, 1) := by decide +kernel
theorem dX8_init_68 : decode cX8_init 68 = .ok (.iconst 2, 1) := by decide +kernel
theorem dX8_init_69 : decode cX8_init 69 = .ok (.bipush 105, 2) := by decide +kernel
theorem dX8_init_71 : decode cX8_init 71 = .ok (.castore, 1) := by decide +kernel
theorem dX8_init_72 : decode cX8_init 72 = .ok (.dup, 1) := by decide +kernel
theorem dX8_init_73 : decode cX8_init 73 = .ok (.iconst 3, 1) := by decide +kernel
theorem dX8_init_74 : decode cX8_init 74 = .ok (.bipush 110, 2) := by decide +kernel
theorem dX8_init_76 : decode cX8_init 76 = .ok (.castore, 1) := by decide +kernel
theorem dX8_init_77 : decode cX8_init 77 = .ok (.dup, 1) := by decide +kernel
theorem dX8_init_78 : decode cX8_init 78 = .ok (.iconst 4, 1) := by decide +kernel
theorem dX8_init_79 : decode cX8_init 79 = .ok (.bipush 101, 2) := by decide +kernel
theorem dX8_init_81 : decode cX8_init 81 = .ok (.castore, 1) := by decide +kernel
theorem dX8_init_82 : decode cX8_init 82 = .ok (.dup, 1) := by decide +kernel
theorem dX8_init_83 : decode cX8_init 83 = .ok (.iconst 5, 1) := by decide +kernel
theorem dX8_init_84 : decode cX8_init 84 = .ok (.bipush 102, 2) := by decide +kernel
theorem dX8_init_86 : decode cX8_init 86 = .ok (.castore, 1) := by decide +kernel
theorem dX8_init_87 : decode cX8_init 87 = .ok (.dup, 1) := by decide +kernel
theorem dX8_init_88 : decode cX8_init 88 = .ok (.bipush 6, 2) := by decide +kernel
theorem dX8_init_90 : decode cX8_init 90 = .ok (.bipush 101, 2) := by decide +kernel
theorem dX8_init_92 : decode cX8_init 92 = .ok (.castore, 1) := by decide +kernel
theorem dX8_init_93 : decode cX8_init 93 = .ok (.dup, 1) := by decide +kernel
theorem dX8_init_94 : decode cX8_init 94 = .ok (.bipush 7, 2) := by decide +kernel
theorem dX8_init_96 : decode cX8_init 96 = .ok (.bipush 101, 2) := by decide +kernel
theorem dX8_init_98 : decode cX8_init 98 = .ok (.castore, 1) := by decide +kernel
theorem dX8_init_99 : decode cX8_init 99 = .ok (.dup, 1) := by decide +kernel
theorem dX8_init_100 : decode cX8_init 100 = .ok (.bipush 8, 2) := by decide +kernel
theorem dX8_init_102 : decode cX8_init 102 = .ok (.bipush 102, 2) := by decide +kernel
theorem dX8_init_104 : decode cX8_init 104 = .ok (.castore, 1) := by decide +kernel
theorem dX8_init_105 : decode cX8_init 105 = .ok (.dup, 1) := by decide +kernel
theorem dX8_init_106 : decode cX8_init 106 = .ok (.bipush 9, 2) := by decide +kernel
theorem dX8_init_108 : decode cX8_init 108 = .ok (.bipush 105, 2) := by decide +kernel
theorem dX8_init_110 : decode cX8_init 110 = .ok (.castore, 1) := by decide +kernel
theorem dX8_init_111 : decode cX8_init 111 = .ok (.dup, 1) := by decide +kernel
theorem dX8_init_112 : decode cX8_init 112 = .ok (.bipush 10, 2) := by decide +kernel
theorem dX8_init_114 : decode cX8_init 114 = .ok (.bipush 110, 2) := by decide +kernel
theorem dX8_init_116 : decode cX8_init 116 = .ok (.castore, 1) := by decide +kernel
theorem dX8_init_117 : decode cX8_init 117 = .ok (.dup, 1) := by decide +kernel
theorem dX8_init_118 : decode cX8_init 118 = .ok (.bipush 11, 2) := by decide +kernel
theorem dX8_init_120 : decode cX8_init 120 = .ok (.bipush 101, 2) := by decide +kernel
theorem dX8_init_122 : decode cX8_init 122 = .ok (.castore, 1) := by decide +kernel
theorem dX8_init_123 : decode cX8_init 123 = .ok (.putfield 29, 3) := by decide +kernel
theorem dX8_init_126 : decode cX8_init 126 = .ok (.aload_n 0, 1) := by decide +kernel
theorem dX8_init_127 : decode cX8_init 127 = .ok (.iconst 4, 1) := by decide +kernel
theorem dX8_init_128 : decode cX8_init 128 = .ok (.newarray .int, 2) := by decide +kernel
theorem dX8_init_130 : decode cX8_init 130 = .ok (.dup, 1) := by decide +kernel
theorem dX8_init_131 : decode cX8_init 131 = .ok (.iconst 0, 1) := by decide +kernel
theorem dX8_init_132 : decode cX8_init 132 = .ok (.iconst 0, 1) := by decide +kernel
theorem dX8_init_133 : decode cX8_init 133 = .ok (.iastore, 1) := by decide +kernel
theorem dX8_init_134 : decode cX8_init 134 = .ok (.dup, 1) := by decide +kernel
theorem dX8_init_135 : decode cX8_init 135 = .ok (.iconst 1, 1) := by decide +kernel
theorem dX8_init_136 : decode cX8_init 136 = .ok (.iconst 5, 1) := by decide +kernel
theorem dX8_init_137 : decode cX8_init 137 = .ok (.iastore, 1) := by decide +kernel
theorem dX8_init_138 : decode cX8_init 138 = .ok (.dup, 1) := by decide +kernel
theorem dX8_init_139 : decode cX8_init 139 = .ok (.iconst 2, 1) := by decide +kernel
theorem dX8_init_140 : decode cX8_init 140 = .ok (.bipush 8, 2) := by decide +kernel
theorem dX8_init_142 : decode cX8_init 142 = .ok (.iastore, 1) := by decide +kernel
theorem dX8_init_143 : decode cX8_init 143 = .ok (.dup, 1) := by decide +kernel
theorem dX8_init_144 : decode cX8_init 144 = .ok (.iconst 3, 1) := by decide +kernel
theorem dX8_init_145 : decode cX8_init 145 = .ok (.bipush 12, 2) := by decide +kernel
theorem dX8_init_147 : decode cX8_init 147 = .ok (.iastore, 1) := by decide +kernel
theorem dX8_init_148 : decode cX8_init 148 = .ok (.putfield 33, 3) := by decide +kernel
theorem dX8_init_151 : decode cX8_init 151 = .ok (.aload_n 0, 1) := by decide +kernel
theorem dX8_init_152 : decode cX8_init 152 = .ok (.bipush 96, 2) := by decide +kernel
theorem dX8_init_154 : decode cX8_init 154 = .ok (.newarray .int, 2) := by decide +kernel
theorem dX8_init_156 : decode cX8_init 156 = .ok (.putfield 36, 3) := by decide +kernel
theorem dX8_init_159 : decode cX8_init 159 = .ok (.aload_n 0, 1) := by decide +kernel
theorem dX8_init_160 : decode cX8_init 160 = .ok (.bipush 96, 2) := by decide +kernel
theorem dX8_init_162 : decode cX8_init 162 = .ok (.newarray .int, 2) := by decide +kernel
theorem dX8_init_164 : decode cX8_init 164 = .ok (.putfield 39, 3) := by decide +kernel
theorem dX8_init_167 : decode cX8_init 167 = .ok (.aload_n 0, 1) := by decide +kernel
theorem dX8_init_168 : decode cX8_init 168 = .ok (.bipush 10, 2) := by decide +kernel
theorem dX8_init_170 : decode cX8_init 170 = .ok (.newarray .boolean, 2) := by decide +kernel
theorem dX8_init_172 : decode cX8_init 172 = .ok (.putfield 42, 3) := by decide +kernel
theorem dX8_init_175 : decode cX8_init 175 = .ok (.aload_n 0, 1) := by decide +kernel
theorem dX8_init_176 : decode cX8_init 176 = .ok (.bipush 96, 2) := by decide +kernel
theorem dX8_init_178 : decode cX8_init 178 = .ok (.newarray .int, 2) := by decide +kernel
theorem dX8_init_180 : decode cX8_init 180 = .ok (.putfield 46, 3) := by decide +kernel
theorem dX8_init_183 : decode cX8_init 183 = .ok (.aload_n 0, 1) := by decide +kernel
theorem dX8_init_184 : decode cX8_init 184 = .ok (.iconst 4, 1) := by decide +kernel
theorem dX8_init_185 : decode cX8_init 185 = .ok (.newarray .int, 2) := by decide +kernel
theorem dX8_init_187 : decode cX8_init 187 = .ok (.putfield 49, 3) := by decide +kernel
theorem dX8_init_190 : decode cX8_init 190 = .ok (.aload_n 0, 1) := by decide +kernel
theorem dX8_init_191 : decode cX8_init 191 = .ok (.iconst 4, 1) := by decide +kernel
theorem dX8_init_192 : decode cX8_init 192 = .ok (.newarray .int, 2) := by decide +kernel
theorem dX8_init_194 : decode cX8_init 194 = .ok (.dup, 1) := by decide +kernel
theorem dX8_init_195 : decode cX8_init 195 = .ok (.iconst 0, 1) := by decide +kernel
theorem dX8_init_196 : decode cX8_init 196 = .ok (.iconst (-1), 1) := by decide +kernel
theorem dX8_init_197 : decode cX8_init 197 = .ok (.iastore, 1) := by decide +kernel
theorem dX8_init_198 : decode cX8_init 198 = .ok (.dup, 1) := by decide +kernel
theorem dX8_init_199 : decode cX8_init 199 = .ok (.iconst 1, 1) := by decide +kernel
theorem dX8_init_200 : decode cX8_init 200 = .ok (.iconst (-1), 1) := by decide +kernel
theorem dX8_init_201 : decode cX8_init 201 = .ok (.iastore, 1) := by decide +kernel
theorem dX8_init_202 : decode cX8_init 202 = .ok (.dup, 1) := by decide +kernel
theorem dX8_init_203 : decode cX8_init 203 = .ok (.iconst 2, 1) := by decide +kernel
theorem dX8_init_204 : decode cX8_init 204 = .ok (.iconst (-1), 1) := by decide +kernel
theorem dX8_init_205 : decode cX8_init 205 = .ok (.iastore, 1) := by decide +kernel
theorem dX8_init_206 : decode cX8_init 206 = .ok (.dup, 1) := by decide +kernel
theorem dX8_init_207 : decode cX8_init 207 = .ok (.iconst 3, 1) := by decide +kernel
theorem dX8_init_208 : decode cX8_init 208 = .ok (.iconst (-1), 1) := by decide +kernel
theorem dX8_init_209 : decode cX8_init 209 = .ok (.iastore, 1) := by decide +kernel
theorem dX8_init_210 : decode cX8_init 210 = .ok (.putfield 52, 3) := by decide +kernel
theorem dX8_init_213 : decode cX8_init 213 = .ok (.aload_n 0, 1) := by decide +kernel
theorem dX8_init_214 : decode cX8_init 214 = .ok (.iconst 4, 1) := by decide +kernel
theorem dX8_init_215 : decode cX8_init 215 = .ok (.newarray .int, 2) := by decide +kernel
theorem dX8_init_217 : decode cX8_init 217 = .ok (.putfield 55, 3) := by decide +kernel
theorem dX8_init_220 : decode cX8_init 220 = .ok (.aload_n 0, 1) := by decide +kernel
theorem dX8_init_221 : decode cX8_init 221 = .ok (.bipush 96, 2) := by decide +kernel
theorem dX8_init_223 : decode cX8_init 223 = .ok (.newarray .int, 2) := by decide +kernel
theorem dX8_init_225 : decode cX8_init 225 = .ok (.putfield 58, 3) := by decide +kernel
theorem dX8_init_228 : decode cX8_init 228 = .ok (.aload_n 0, 1) := by decide +kernel
theorem dX8_init_229 : decode cX8_init 229 = .ok (.iconst 5, 1) := by decide +kernel
theorem dX8_init_230 : decode cX8_init 230 = .ok (.newarray .int, 2) := by decide +kernel
theorem dX8_init_232 : decode cX8_init 232 = .ok (.putfield 61, 3) := by decide +kernel
theorem dX8_init_235 : decode cX8_init 235 = .ok (.aload_n 0, 1) := by decide +kernel
theorem dX8_init_236 : decode cX8_init 236 = .ok (.iconst 5, 1) := by decide +kernel
theorem dX8_init_237 : decode cX8_init 237 = .ok (.newarray .int, 2) := by decide +kernel
theorem dX8_init_239 : decode cX8_init 239 = .ok (.putfield 64, 3) := by decide +kernel
theorem dX8_init_242 : decode cX8_init 242 = .ok (.aload_n 0, 1) := by decide +kernel
theorem dX8_init_243 : decode cX8_init 243 = .ok (.iconst 5, 1) := by decide +kernel
theorem dX8_init_244 : decode cX8_init 244 = .ok (.newarray .int, 2) := by decide +kernel
theorem dX8_init_246 : decode cX8_init 246 = .ok (.putfield 67, 3) := by decide +kernel
theorem dX8_init_249 : decode cX8_init 249 = .ok (.aload_n 0, 1) := by decide +kernel
theorem dX8_init_250 : decode cX8_init 250 = .ok (.bipush 120, 2) := by decide +kernel
theorem dX8_init_252 : decode cX8_init 252 = .ok (.newarray .int, 2) := by decide +kernel
theorem dX8_init_254 : decode cX8_init 254 = .ok (.putfield 70, 3) := by decide +kernel
theorem dX8_init_257 : decode cX8_init 257 = .ok (.aload_n 0, 1) := by decide +kernel
theorem dX8_init_258 : decode cX8_init 258 = .ok (.bipush 24, 2) := by decide +kernel
theorem dX8_init_260 : decode cX8_init 260 = .ok (.newarray .int, 2) := by decide +kernel
theorem dX8_init_262 : decode cX8_init 262 = .ok (.putfield 73, 3) := by decide +kernel
theorem dX8_init_265 : decode cX8_init 265 = .ok (.aload_n 0, 1) := by decide +kernel
theorem dX8_init_266 : decode cX8_init 266 = .ok (.bipush 60, 2) := by decide +kernel
theorem dX8_init_268 : decode cX8_init 268 = .ok (.newarray .int, 2) := by decide +kernel
theorem dX8_init_270 : decode cX8_init 270 = .ok (.putfield 76, 3) := by decide +kernel
theorem dX8_init_273 : decode cX8_init 273 = .ok (.aload_n 0, 1) := by decide +kernel
theorem dX8_init_274 : decode cX8_init 274 = .ok (.getfield 9, 3) := by decide +kernel
theorem dX8_init_277 : decode cX8_init 277 = .ok (.iconst 0, 1) := by decide +kernel
theorem dX8_init_278 : decode cX8_init 278 = .ok (.iconst 1, 1) := by decide +kernel
theorem dX8_init_279 : decode cX8_init 279 = .ok (.iastore, 1) := by decide +kernel
theorem dX8_init_280 : decode cX8_init 280 = .ok (.aload_n 0, 1) := by decide +kernel
theorem dX8_init_281 : decode cX8_init 281 = .ok (.getfield 9, 3) := by decide +kernel
theorem dX8_init_284 : decode cX8_init 284 = .ok (.iconst 4, 1) := by decide +kernel
theorem dX8_init_285 : decode cX8_init 285 = .ok (.bipush 20, 2) := by decide +kernel
theorem dX8_init_287 : decode cX8_init 287 = .ok (.iastore, 1) := by decide +kernel
theorem dX8_init_288 : decode cX8_init 288 = .ok (.return_, 1) := by decide +kernel
theorem dX8_in_0 : decode cX8_in 0 = .ok (.iload_n 0, 1) := by decide +kernel
theorem dX8_in_1 : decode cX8_in 1 = .ok (.iload_n 1, 1) := by decide +kernel
theorem dX8_in_2 : decode cX8_in 2 = .ok (.if_icmp .lt 12, 3) := by decide +kernel
theorem dX8_in_5 : decode cX8_in 5 = .ok (.iload_n 0, 1) := by decide +kernel
theorem dX8_in_6 : decode cX8_in 6 = .ok (.iload_n 2, 1) := by decide +kernel
theorem dX8_in_7 : decode cX8_in 7 = .ok (.if_icmp .gt 7, 3) := by decide +kernel
theorem dX8_in_10 : decode cX8_in 10 = .ok (.iconst 1, 1) := by decide +kernel
theorem dX8_in_11 : decode cX8_in 11 = .ok (.goto 4, 3) := by decide +kernel
theorem dX8_in_14 : decode cX8_in 14 = .ok (.iconst 0, 1) := by decide +kernel
theorem dX8_in_15 : decode cX8_in 15 = .ok (.ireturn, 1) := by decide +kernel
theorem dX8_within_0 : decode cX8_within 0 = .ok (.iload_n 0, 1) := by decide +kernel
theorem dX8_within_1 : decode cX8_within 1 = .ok (.iload_n 1, 1) := by decide +kernel
theorem dX8_within_2 : decode cX8_within 2 = .ok (.if_icmp .ge 7, 3) := by decide +kernel
theorem dX8_within_5 : decode cX8_within 5 = .ok (.iload_n 1, 1) := by decide +kernel
theorem dX8_within_6 : decode cX8_within 6 = .ok (.goto 13, 3) := by decide +kernel
theorem dX8_within_9 : decode cX8_within 9 = .ok (.iload_n 0, 1) := by decide +kernel
theorem dX8_within_10 : decode cX8_within 10 = .ok (.iload_n 2, 1) := by decide +kernel
theorem dX8_within_11 : decode cX8_within 11 = .ok (.if_icmp .le 7, 3) := by decide +kernel
theorem dX8_within_14 : decode cX8_within 14 = .ok (.iload_n 2, 1) := by decide +kernel
theorem dX8_within_15 : decode cX8_within 15 = .ok (.goto 4, 3) := by decide +kernel
theorem dX8_within_18 : decode cX8_within 18 = .ok (.iload_n 0, 1) := by decide +kernel
theorem dX8_within_19 : decode cX8_within 19 = .ok (.ireturn, 1) := by decide +kernel
theorem dX8_copyAll_0 : decode cX8_copyAll 0 = .ok (.iconst 0, 1) := by decide +kernel
theorem dX8_copyAll_1 : decode cX8_copyAll 1 = .ok (.istore_n 2, 1) := by decide +kernel
theorem dX8_copyAll_2 : decode cX8_copyAll 2 = .ok (.iload_n 2, 1) := by decide +kernel
theorem dX8_copyAll_3 : decode cX8_copyAll 3 = .ok (.sipush 1437, 3) := by decide +kernel
theorem dX8_copyAll_6 : decode cX8_copyAll 6 = .ok (.if_icmp .ge 15, 3) := by decide +kernel
theorem dX8_copyAll_9 : decode cX8_copyAll 9 = .ok (.aload_n 1, 1) := by decide +kernel
theorem dX8_copyAll_10 : decode cX8_copyAll 10 = .ok (.iload_n 2, 1) := by decide +kernel
theorem dX8_copyAll_11 : decode cX8_copyAll 11 = .ok (.aload_n 0, 1) := by decide +kernel
theorem dX8_copyAll_12 : decode cX8_copyAll 12 = .ok (.iload_n 2, 1) := by decide +kernel
theorem dX8_copyAll_13 : decode cX8_copyAll 13 = .ok (.iaload, 1) := by decide +kernel
theorem dX8_copyAll_14 : decode cX8_copyAll 14 = .ok (.iastore, 1) := by decide +kernel
theorem dX8_copyAll_15 : decode cX8_copyAll 15 = .ok (.iinc 2 1, 3) := by decide +kernel
theorem dX8_copyAll_18 : decode cX8_copyAll 18 = .ok (.goto (-16), 3) := by decide +kernel
theorem dX8_copyAll_21 : decode cX8_copyAll 21 = .ok (.return_, 1) := by decide +kernel
theorem dX8_told0_0 : decode cX8_told0 0 = .ok (.iload_n 0, 1) := by decide +kernel
theorem dX8_told0_1 : decode cX8_told0 1 = .ok (.ifCond .ge 8, 3) := by decide +kernel
theorem dX8_told0_4 : decode cX8_told0 4 = .ok (.ldc 79, 2) := by decide +kernel
theorem dX8_told0_6 : decode cX8_told0 6 = .ok (.goto 4, 3) := by decide +kernel
theorem dX8_told0_9 : decode cX8_told0 9 = .ok (.iload_n 0, 1) := by decide +kernel
theorem dX8_told0_10 : decode cX8_told0 10 = .ok (.ireturn, 1) := by decide +kernel
theorem dX8_isBoy_0 : decode cX8_isBoy 0 = .ok (.iload_n 1, 1) := by decide +kernel
theorem dX8_isBoy_1 : decode cX8_isBoy 1 = .ok (.iconst 0, 1) := by decide +kernel
theorem dX8_isBoy_2 : decode cX8_isBoy 2 = .ok (.aload_n 0, 1) := by decide +kernel
theorem dX8_isBoy_3 : decode cX8_isBoy 3 = .ok (.getfield 9, 3) := by decide +kernel
theorem dX8_isBoy_6 : decode cX8_isBoy 6 = .ok (.iconst 1, 1) := by decide +kernel
theorem dX8_isBoy_7 : decode cX8_isBoy 7 = .ok (.iaload, 1) := by decide +kernel
theorem dX8_isBoy_8 : decode cX8_isBoy 8 = .ok (.iconst 1, 1) := by decide +kernel
theorem dX8_isBoy_9 : decode cX8_isBoy 9 = .ok (.isub, 1) := by decide +kernel
theorem dX8_isBoy_10 : decode cX8_isBoy 10 = .ok (.invokestatic 80, 3) := by decide +kernel
theorem dX8_isBoy_13 : decode cX8_isBoy 13 = .ok (.ireturn, 1) := by decide +kernel
theorem dX8_of_0 : decode cX8_of 0 = .ok (.aload_n 0, 1) := by decide +kernel
theorem dX8_of_1 : decode cX8_of 1 = .ok (.getfield 9, 3) := by decide +kernel
theorem dX8_of_4 : decode cX8_of 4 = .ok (.bipush 9, 2) := by decide +kernel
theorem dX8_of_6 : decode cX8_of 6 = .ok (.bipush 7, 2) := by decide +kernel
theorem dX8_of_8 : decode cX8_of 8 = .ok (.iload_n 1, 1) := by decide +kernel
theorem dX8_of_9 : decode cX8_of 9 = .ok (.imul, 1) := by decide +kernel
theorem dX8_of_10 : decode cX8_of 10 = .ok (.iadd, 1) := by decide +kernel
theorem dX8_of_11 : decode cX8_of 11 = .ok (.iload_n 2, 1) := by decide +kernel
theorem dX8_of_12 : decode cX8_of 12 = .ok (.iadd, 1) := by decide +kernel
theorem dX8_of_13 : decode cX8_of 13 = .ok (.iaload, 1) := by decide +kernel
theorem dX8_of_14 : decode cX8_of 14 = .ok (.ireturn, 1) := by decide +kernel
theorem dX8_put_0 : decode cX8_put 0 = .ok (.aload_n 0, 1) := by decide +kernel
theorem dX8_put_1 : decode cX8_put 1 = .ok (.getfield 9, 3) := by decide +kernel
theorem dX8_put_4 : decode cX8_put 4 = .ok (.bipush 9, 2) := by decide +kernel
theorem dX8_put_6 : decode cX8_put 6 = .ok (.bipush 7, 2) := by decide +kernel
theorem dX8_put_8 : decode cX8_put 8 = .ok (.iload_n 1, 1) := by decide +kernel
theorem dX8_put_9 : decode cX8_put 9 = .ok (.imul, 1) := by decide +kernel
theorem dX8_put_10 : decode cX8_put 10 = .ok (.iadd, 1) := by decide +kernel
theorem dX8_put_11 : decode cX8_put 11 = .ok (.iload_n 2, 1) := by decide +kernel
theorem dX8_put_12 : decode cX8_put 12 = .ok (.iadd, 1) := by decide +kernel
theorem dX8_put_13 : decode cX8_put 13 = .ok (.iload_n 3, 1) := by decide +kernel
theorem dX8_put_14 : decode cX8_put 14 = .ok (.iastore, 1) := by decide +kernel
theorem dX8_put_15 : decode cX8_put 15 = .ok (.return_, 1) := by decide +kernel
theorem dX8_becomes_0 : decode cX8_becomes 0 = .ok (.aload_n 0, 1) := by decide +kernel
theorem dX8_becomes_1 : decode cX8_becomes 1 = .ok (.getfield 9, 3) := by decide +kernel
theorem dX8_becomes_4 : decode cX8_becomes 4 = .ok (.iload_n 1, 1) := by decide +kernel
theorem dX8_becomes_5 : decode cX8_becomes 5 = .ok (.iaload, 1) := by decide +kernel
theorem dX8_becomes_6 : decode cX8_becomes 6 = .ok (.istore_n 3, 1) := by decide +kernel
theorem dX8_becomes_7 : decode cX8_becomes 7 = .ok (.aload_n 0, 1) := by decide +kernel
theorem dX8_becomes_8 : decode cX8_becomes 8 = .ok (.getfield 9, 3) := by decide +kernel
theorem dX8_becomes_11 : decode cX8_becomes 11 = .ok (.iload_n 1, 1) := by decide +kernel
theorem dX8_becomes_12 : decode cX8_becomes 12 = .ok (.iload_n 2, 1) := by decide +kernel
theorem dX8_becomes_13 : decode cX8_becomes 13 = .ok (.iastore, 1) := by decide +kernel
theorem dX8_becomes_14 : decode cX8_becomes 14 = .ok (.iload_n 3, 1) := by decide +kernel
theorem dX8_becomes_15 : decode cX8_becomes 15 = .ok (.ireturn, 1) := by decide +kernel
theorem dX8_comes_0 : decode cX8_comes 0 = .ok (.aload_n 0, 1) := by decide +kernel
theorem dX8_comes_1 : decode cX8_comes 1 = .ok (.getfield 9, 3) := by decide +kernel
theorem dX8_comes_4 : decode cX8_comes 4 = .ok (.iconst 1, 1) := by decide +kernel
theorem dX8_comes_5 : decode cX8_comes 5 = .ok (.iaload, 1) := by decide +kernel
theorem dX8_comes_6 : decode cX8_comes 6 = .ok (.istore 5, 2) := by decide +kernel
theorem dX8_comes_8 : decode cX8_comes 8 = .ok (.aload_n 0, 1) := by decide +kernel
theorem dX8_comes_9 : decode cX8_comes 9 = .ok (.iload 5, 2) := by decide +kernel
theorem dX8_comes_11 : decode cX8_comes 11 = .ok (.iconst 0, 1) := by decide +kernel
theorem dX8_comes_12 : decode cX8_comes 12 = .ok (.iload_n 1, 1) := by decide +kernel
theorem dX8_comes_13 : decode cX8_comes 13 = .ok (.invokevirtual 84, 3) := by decide +kernel
theorem dX8_comes_16 : decode cX8_comes 16 = .ok (.aload_n 0, 1) := by decide +kernel
theorem dX8_comes_17 : decode cX8_comes 17 = .ok (.iload 5, 2) := by decide +kernel
theorem dX8_comes_19 : decode cX8_comes 19 = .ok (.iconst 1, 1) := by decide +kernel
theorem dX8_comes_20 : decode cX8_comes 20 = .ok (.iload_n 2, 1) := by decide +kernel
theorem dX8_comes_21 : decode cX8_comes 21 = .ok (.invokevirtual 84, 3) := by decide +kernel
theorem dX8_comes_24 : decode cX8_comes 24 = .ok (.aload_n 0, 1) := by decide +kernel
theorem dX8_comes_25 : decode cX8_comes 25 = .ok (.iload 5, 2) := by decide +kernel
theorem dX8_comes_27 : decode cX8_comes 27 = .ok (.iconst 2, 1) := by decide +kernel
theorem dX8_comes_28 : decode cX8_comes 28 = .ok (.iload_n 3, 1) := by decide +kernel
theorem dX8_comes_29 : decode cX8_comes 29 = .ok (.invokevirtual 84, 3) := by decide +kernel
theorem dX8_comes_32 : decode cX8_comes 32 = .ok (.aload_n 0, 1) := by decide +kernel
theorem dX8_comes_33 : decode cX8_comes 33 = .ok (.iload 5, 2) := by decide +kernel
theorem dX8_comes_35 : decode cX8_comes 35 = .ok (.iconst 3, 1) := by decide +kernel
theorem dX8_comes_36 : decode cX8_comes 36 = .ok (.iload 4, 2) := by decide +kernel
theorem dX8_comes_38 : decode cX8_comes 38 = .ok (.invokevirtual 84, 3) := by decide +kernel
theorem dX8_comes_41 : decode cX8_comes 41 = .ok (.aload_n 0, 1) := by decide +kernel
theorem dX8_comes_42 : decode cX8_comes 42 = .ok (.iload 5, 2) := by decide +kernel
theorem dX8_comes_44 : decode cX8_comes 44 = .ok (.iconst 4, 1) := by decide +kernel
theorem dX8_comes_45 : decode cX8_comes 45 = .ok (.iconst 0, 1) := by decide +kernel
theorem dX8_comes_46 : decode cX8_comes 46 = .ok (.invokevirtual 84, 3) := by decide +kernel
theorem dX8_comes_49 : decode cX8_comes 49 = .ok (.aload_n 0, 1) := by decide +kernel
theorem dX8_comes_50 : decode cX8_comes 50 = .ok (.iload 5, 2) := by decide +kernel
theorem dX8_comes_52 : decode cX8_comes 52 = .ok (.iconst 5, 1) := by decide +kernel
theorem dX8_comes_53 : decode cX8_comes 53 = .ok (.iconst 0, 1) := by decide +kernel
theorem dX8_comes_54 : decode cX8_comes 54 = .ok (.invokevirtual 84, 3) := by decide +kernel
theorem dX8_comes_57 : decode cX8_comes 57 = .ok (.aload_n 0, 1) := by decide +kernel
theorem dX8_comes_58 : decode cX8_comes 58 = .ok (.iload 5, 2) := by decide +kernel
theorem dX8_comes_60 : decode cX8_comes 60 = .ok (.bipush 6, 2) := by decide +kernel
theorem dX8_comes_62 : decode cX8_comes 62 = .ok (.iconst 0, 1) := by decide +kernel
theorem dX8_comes_63 : decode cX8_comes 63 = .ok (.invokevirtual 84, 3) := by decide +kernel
theorem dX8_comes_66 : decode cX8_comes 66 = .ok (.aload_n 0, 1) := by decide +kernel
theorem dX8_comes_67 : decode cX8_comes 67 = .ok (.getfield 9, 3) := by decide +kernel
theorem dX8_comes_70 : decode cX8_comes 70 = .ok (.iconst 1, 1) := by decide +kernel
theorem dX8_comes_71 : decode cX8_comes 71 = .ok (.dup2, 1) := by decide +kernel
theorem dX8_comes_72 : decode cX8_comes 72 = .ok (.iaload, 1) := by decide +kernel
theorem dX8_comes_73 : decode cX8_comes 73 = .ok (.iconst 1, 1) := by decide +kernel
theorem dX8_comes_74 : decode cX8_comes 74 = .ok (.iadd, 1) := by decide +kernel
theorem dX8_comes_75 : decode cX8_comes 75 = .ok (.iastore, 1) := by decide +kernel
theorem dX8_comes_76 : decode cX8_comes 76 = .ok (.iload 5, 2) := by decide +kernel
theorem dX8_comes_78 : decode cX8_comes 78 = .ok (.ireturn, 1) := by decide +kernel
theorem dX8_isOf_0 : decode cX8_isOf 0 = .ok (.iload_n 1, 1) := by decide +kernel
theorem dX8_isOf_1 : decode cX8_isOf 1 = .ok (.iload_n 0, 1) := by decide +kernel
theorem dX8_isOf_2 : decode cX8_isOf 2 = .ok (.iconst 1, 1) := by decide +kernel
theorem dX8_isOf_3 : decode cX8_isOf 3 = .ok (.if_icmp .ne 7, 3) := by decide +kernel
theorem dX8_isOf_6 : decode cX8_isOf 6 = .ok (.iconst 0, 1) := by decide +kernel
theorem dX8_isOf_7 : decode cX8_isOf 7 = .ok (.goto 4, 3) := by decide +kernel
theorem dX8_isOf_10 : decode cX8_isOf 10 = .ok (.iconst 1, 1) := by decide +kernel
theorem dX8_isOf_11 : decode cX8_isOf 11 = .ok (.iload_n 0, 1) := by decide +kernel
theorem dX8_isOf_12 : decode cX8_isOf 12 = .ok (.iconst 1, 1) := by decide +kernel
theorem dX8_isOf_13 : decode cX8_isOf 13 = .ok (.if_icmp .ne 8, 3) := by decide +kernel
theorem dX8_isOf_16 : decode cX8_isOf 16 = .ok (.bipush 9, 2) := by decide +kernel
theorem dX8_isOf_18 : decode cX8_isOf 18 = .ok (.goto 15, 3) := by decide +kernel
theorem dX8_isOf_21 : decode cX8_isOf 21 = .ok (.iload_n 0, 1) := by decide +kernel
theorem dX8_isOf_22 : decode cX8_isOf 22 = .ok (.iconst 2, 1) := by decide +kernel
theorem dX8_isOf_23 : decode cX8_isOf 23 = .ok (.if_icmp .ne 8, 3) := by decide +kernel
theorem dX8_isOf_26 : decode cX8_isOf 26 = .ok (.bipush 99, 2) := by decide +kernel
theorem dX8_isOf_28 : decode cX8_isOf 28 = .ok (.goto 5, 3) := by decide +kernel
theorem dX8_isOf_31 : decode cX8_isOf 31 = .ok (.bipush 20, 2) := by decide +kernel
theorem dX8_isOf_33 : decode cX8_isOf 33 = .ok (.invokestatic 80, 3) := by decide +kernel
theorem dX8_isOf_36 : decode cX8_isOf 36 = .ok (.ireturn, 1) := by decide +kernel
theorem dX8_boy_0 : decode cX8_boy 0 = .ok (.iload_n 1, 1) := by decide +kernel
theorem dX8_boy_1 : decode cX8_boy 1 = .ok (.iconst 0, 1) := by decide +kernel
theorem dX8_boy_2 : decode cX8_boy 2 = .ok (.iconst 5, 1) := by decide +kernel
theorem dX8_boy_3 : decode cX8_boy 3 = .ok (.invokestatic 80, 3) := by decide +kernel
theorem dX8_boy_6 : decode cX8_boy 6 = .ok (.ifCond .eq 28, 3) := by decide +kernel
theorem dX8_boy_9 : decode cX8_boy 9 = .ok (.iconst 1, 1) := by decide +kernel
theorem dX8_boy_10 : decode cX8_boy 10 = .ok (.iload_n 2, 1) := by decide +kernel
theorem dX8_boy_11 : decode cX8_boy 11 = .ok (.invokestatic 88, 3) := by decide +kernel
theorem dX8_boy_14 : decode cX8_boy 14 = .ok (.ifCond .eq 20, 3) := by decide +kernel
theorem dX8_boy_17 : decode cX8_boy 17 = .ok (.iconst 2, 1) := by decide +kernel
theorem dX8_boy_18 : decode cX8_boy 18 = .ok (.iload_n 3, 1) := by decide +kernel
theorem dX8_boy_19 : decode cX8_boy 19 = .ok (.invokestatic 88, 3) := by decide +kernel
theorem dX8_boy_22 : decode cX8_boy 22 = .ok (.ifCond .eq 12, 3) := by decide +kernel
theorem dX8_boy_25 : decode cX8_boy 25 = .ok (.iconst 3, 1) := by decide +kernel
theorem dX8_boy_26 : decode cX8_boy 26 = .ok (.iload 4, 2) := by decide +kernel
theorem dX8_boy_28 : decode cX8_boy 28 = .ok (.invokestatic 88, 3) := by decide +kernel
theorem dX8_boy_31 : decode cX8_boy 31 = .ok (.ifCond .ne 6, 3) := by decide +kernel
theorem dX8_boy_34 : decode cX8_boy 34 = .ok (.ldc 92, 2) := by decide +kernel
theorem dX8_boy_36 : decode cX8_boy 36 = .ok (.ireturn, 1) := by decide +kernel
theorem dX8_boy_37 : decode cX8_boy 37 = .ok (.aload_n 0, 1) := by decide +kernel
theorem dX8_boy_38 : decode cX8_boy 38 = .ok (.getfield 9, 3) := by decide +kernel
theorem dX8_boy_41 : decode cX8_boy 41 = .ok (.iconst 1, 1) := by decide +kernel
theorem dX8_boy_42 : decode cX8_boy 42 = .ok (.iaload, 1) := by decide +kernel
theorem dX8_boy_43 : decode cX8_boy 43 = .ok (.bipush 8, 2) := by decide +kernel
theorem dX8_boy_45 : decode cX8_boy 45 = .ok (.if_icmp .ne 8, 3) := by decide +kernel
theorem dX8_boy_48 : decode cX8_boy 48 = .ok (.ldc 93, 2) := by decide +kernel
theorem dX8_boy_50 : decode cX8_boy 50 = .ok (.goto 12, 3) := by decide +kernel
theorem dX8_boy_53 : decode cX8_boy 53 = .ok (.aload_n 0, 1) := by decide +kernel
theorem dX8_boy_54 : decode cX8_boy 54 = .ok (.iload_n 1, 1) := by decide +kernel
theorem dX8_boy_55 : decode cX8_boy 55 = .ok (.iload_n 2, 1) := by decide +kernel
theorem dX8_boy_56 : decode cX8_boy 56 = .ok (.iload_n 3, 1) := by decide +kernel
theorem dX8_boy_57 : decode cX8_boy 57 = .ok (.iload 4, 2) := by decide +kernel
theorem dX8_boy_59 : decode cX8_boy 59 = .ok (.invokevirtual 94, 3) := by decide +kernel
theorem dX8_boy_62 : decode cX8_boy 62 = .ok (.ireturn, 1) := by decide +kernel
theorem dX8_plainOf_0 : decode cX8_plainOf 0 = .ok (.aload_n 0, 1) := by decide +kernel
theorem dX8_plainOf_1 : decode cX8_plainOf 1 = .ok (.iconst 0, 1) := by decide +kernel
theorem dX8_plainOf_2 : decode cX8_plainOf 2 = .ok (.invokevirtual 98, 3) := by decide +kernel
theorem dX8_plainOf_5 : decode cX8_plainOf 5 = .ok (.istore 4, 2) := by decide +kernel
theorem dX8_plainOf_7 : decode cX8_plainOf 7 = .ok (.aload_n 0, 1) := by decide +kernel
theorem dX8_plainOf_8 : decode cX8_plainOf 8 = .ok (.getfield 49, 3) := by decide +kernel
theorem dX8_plainOf_11 : decode cX8_plainOf 11 = .ok (.iconst 0, 1) := by decide +kernel
theorem dX8_plainOf_12 : decode cX8_plainOf 12 = .ok (.iload_n 2, 1) := by decide +kernel
theorem dX8_plainOf_13 : decode cX8_plainOf 13 = .ok (.iastore, 1) := by decide +kernel
theorem dX8_plainOf_14 : decode cX8_plainOf 14 = .ok (.aload_n 0, 1) := by decide +kernel
theorem dX8_plainOf_15 : decode cX8_plainOf 15 = .ok (.getfield 49, 3) := by decide +kernel
theorem dX8_plainOf_18 : decode cX8_plainOf 18 = .ok (.iconst 1, 1) := by decide +kernel
theorem dX8_plainOf_19 : decode cX8_plainOf 19 = .ok (.iload_n 3, 1) := by decide +kernel
theorem dX8_plainOf_20 : decode cX8_plainOf 20 = .ok (.iastore, 1) := by decide +kernel
theorem dX8_plainOf_21 : decode cX8_plainOf 21 = .ok (.aload_n 0, 1) := by decide +kernel
theorem dX8_plainOf_22 : decode cX8_plainOf 22 = .ok (.getfield 49, 3) := by decide +kernel
theorem dX8_plainOf_25 : decode cX8_plainOf 25 = .ok (.iconst 2, 1) := by decide +kernel
theorem dX8_plainOf_26 : decode cX8_plainOf 26 = .ok (.aload_n 0, 1) := by decide +kernel
theorem dX8_plainOf_27 : decode cX8_plainOf 27 = .ok (.iload_n 1, 1) := by decide +kernel
theorem dX8_plainOf_28 : decode cX8_plainOf 28 = .ok (.iconst 1, 1) := by decide +kernel
theorem dX8_plainOf_29 : decode cX8_plainOf 29 = .ok (.invokevirtual 102, 3) := by decide +kernel
theorem dX8_plainOf_32 : decode cX8_plainOf 32 = .ok (.iastore, 1) := by decide +kernel
theorem dX8_plainOf_33 : decode cX8_plainOf 33 = .ok (.iload 4, 2) := by decide +kernel
theorem dX8_plainOf_35 : decode cX8_plainOf 35 = .ok (.ifCond .ge 19, 3) := by decide +kernel
theorem dX8_plainOf_38 : decode cX8_plainOf 38 = .ok (.bipush 100, 2) := by decide +kernel
theorem dX8_plainOf_40 : decode cX8_plainOf 40 = .ok (.bipush 60, 2) := by decide +kernel
theorem dX8_plainOf_42 : decode cX8_plainOf 42 = .ok (.iconst 1, 1) := by decide +kernel
theorem dX8_plainOf_43 : decode cX8_plainOf 43 = .ok (.iload_n 2, 1) := by decide +kernel
theorem dX8_plainOf_44 : decode cX8_plainOf 44 = .ok (.iadd, 1) := by decide +kernel
theorem dX8_plainOf_45 : decode cX8_plainOf 45 = .ok (.idiv, 1) := by decide +kernel
theorem dX8_plainOf_46 : decode cX8_plainOf 46 = .ok (.isub, 1) := by decide +kernel
theorem dX8_plainOf_47 : decode cX8_plainOf 47 = .ok (.iconst 3, 1) := by decide +kernel
theorem dX8_plainOf_48 : decode cX8_plainOf 48 = .ok (.iload_n 3, 1) := by decide +kernel
theorem dX8_plainOf_49 : decode cX8_plainOf 49 = .ok (.imul, 1) := by decide +kernel
theorem dX8_plainOf_50 : decode cX8_plainOf 50 = .ok (.isub, 1) := by decide +kernel
theorem dX8_plainOf_51 : decode cX8_plainOf 51 = .ok (.goto 9, 3) := by decide +kernel
theorem dX8_plainOf_54 : decode cX8_plainOf 54 = .ok (.aload_n 0, 1) := by decide +kernel
theorem dX8_plainOf_55 : decode cX8_plainOf 55 = .ok (.iload 4, 2) := by decide +kernel
theorem dX8_plainOf_57 : decode cX8_plainOf 57 = .ok (.invokevirtual 106, 3) := by decide +kernel
theorem dX8_plainOf_60 : decode cX8_plainOf 60 = .ok (.iconst 0, 1) := by decide +kernel
theorem dX8_plainOf_61 : decode cX8_plainOf 61 = .ok (.sipush 999, 3) := by decide +kernel
theorem dX8_plainOf_64 : decode cX8_plainOf 64 = .ok (.invokestatic 109, 3) := by decide +kernel
theorem dX8_plainOf_67 : decode cX8_plainOf 67 = .ok (.ireturn, 1) := by decide +kernel
theorem dX8_shineOf_0 : decode cX8_shineOf 0 = .ok (.aload_n 0, 1) := by decide +kernel
theorem dX8_shineOf_1 : decode cX8_shineOf 1 = .ok (.iload_n 1, 1) := by decide +kernel
theorem dX8_shineOf_2 : decode cX8_shineOf 2 = .ok (.iconst 0, 1) := by decide +kernel
theorem dX8_shineOf_3 : decode cX8_shineOf 3 = .ok (.invokevirtual 102, 3) := by decide +kernel
theorem dX8_shineOf_6 : decode cX8_shineOf 6 = .ok (.tableswitch 112 1 5 #[34, 51, 62, 81, 104], 34) := by decide +kernel
theorem dX8_shineOf_40 : decode cX8_shineOf 40 = .ok (.aload_n 0, 1) := by decide +kernel
theorem dX8_shineOf_41 : decode cX8_shineOf 41 = .ok (.iload_n 1, 1) := by decide +kernel
theorem dX8_shineOf_42 : decode cX8_shineOf 42 = .ok (.iload_n 2, 1) := by decide +kernel
theorem dX8_shineOf_43 : decode cX8_shineOf 43 = .ok (.iload_n 3, 1) := by decide +kernel
theorem dX8_shineOf_44 : decode cX8_shineOf 44 = .ok (.invokevirtual 113, 3) := by decide +kernel
theorem dX8_shineOf_47 : decode cX8_shineOf 47 = .ok (.iconst 5, 1) := by decide +kernel
theorem dX8_shineOf_48 : decode cX8_shineOf 48 = .ok (.isub, 1) := by decide +kernel
theorem dX8_shineOf_49 : decode cX8_shineOf 49 = .ok (.iconst 0, 1) := by decide +kernel
theorem dX8_shineOf_50 : decode cX8_shineOf 50 = .ok (.sipush 999, 3) := by decide +kernel
theorem dX8_shineOf_53 : decode cX8_shineOf 53 = .ok (.invokestatic 109, 3) := by decide +kernel
theorem dX8_shineOf_56 : decode cX8_shineOf 56 = .ok (.ireturn, 1) := by decide +kernel
theorem dX8_shineOf_57 : decode cX8_shineOf 57 = .ok (.aload_n 0, 1) := by decide +kernel
theorem dX8_shineOf_58 : decode cX8_shineOf 58 = .ok (.iload_n 1, 1) := by decide +kernel
theorem dX8_shineOf_59 : decode cX8_shineOf 59 = .ok (.iload_n 2, 1) := by decide +kernel
theorem dX8_shineOf_60 : decode cX8_shineOf 60 = .ok (.iload_n 3, 1) := by decide +kernel
theorem dX8_shineOf_61 : decode cX8_shineOf 61 = .ok (.invokevirtual 113, 3) := by decide +kernel
theorem dX8_shineOf_64 : decode cX8_shineOf 64 = .ok (.bipush 10, 2) := by decide +kernel
theorem dX8_shineOf_66 : decode cX8_shineOf 66 = .ok (.iadd, 1) := by decide +kernel
theorem dX8_shineOf_67 : decode cX8_shineOf 67 = .ok (.ireturn, 1) := by decide +kernel
theorem dX8_shineOf_68 : decode cX8_shineOf 68 = .ok (.aload_n 0, 1) := by decide +kernel
theorem dX8_shineOf_69 : decode cX8_shineOf 69 = .ok (.iload_n 1, 1) := by decide +kernel
theorem dX8_shineOf_70 : decode cX8_shineOf 70 = .ok (.iconst 2, 1) := by decide +kernel
theorem dX8_shineOf_71 : decode cX8_shineOf 71 = .ok (.iload_n 2, 1) := by decide +kernel
theorem dX8_shineOf_72 : decode cX8_shineOf 72 = .ok (.imul, 1) := by decide +kernel
theorem dX8_shineOf_73 : decode cX8_shineOf 73 = .ok (.iload_n 3, 1) := by decide +kernel
theorem dX8_shineOf_74 : decode cX8_shineOf 74 = .ok (.invokevirtual 113, 3) := by decide +kernel
theorem dX8_shineOf_77 : decode cX8_shineOf 77 = .ok (.iconst 5, 1) := by decide +kernel
theorem dX8_shineOf_78 : decode cX8_shineOf 78 = .ok (.isub, 1) := by decide +kernel
theorem dX8_shineOf_79 : decode cX8_shineOf 79 = .ok (.iconst 0, 1) := by decide +kernel
theorem dX8_shineOf_80 : decode cX8_shineOf 80 = .ok (.sipush 999, 3) := by decide +kernel
theorem dX8_shineOf_83 : decode cX8_shineOf 83 = .ok (.invokestatic 109, 3) := by decide +kernel
theorem dX8_shineOf_86 : decode cX8_shineOf 86 = .ok (.ireturn, 1) := by decide +kernel
theorem dX8_shineOf_87 : decode cX8_shineOf 87 = .ok (.aload_n 0, 1) := by decide +kernel
theorem dX8_shineOf_88 : decode cX8_shineOf 88 = .ok (.iload_n 1, 1) := by decide +kernel
theorem dX8_shineOf_89 : decode cX8_shineOf 89 = .ok (.iload_n 2, 1) := by decide +kernel
theorem dX8_shineOf_90 : decode cX8_shineOf 90 = .ok (.iload_n 3, 1) := by decide +kernel
theorem dX8_shineOf_91 : decode cX8_shineOf 91 = .ok (.invokevirtual 113, 3) := by decide +kernel
theorem dX8_shineOf_94 : decode cX8_shineOf 94 = .ok (.bipush 10, 2) := by decide +kernel
theorem dX8_shineOf_96 : decode cX8_shineOf 96 = .ok (.iadd, 1) := by decide +kernel
theorem dX8_shineOf_97 : decode cX8_shineOf 97 = .ok (.iload_n 2, 1) := by decide +kernel
theorem dX8_shineOf_98 : decode cX8_shineOf 98 = .ok (.bipush 12, 2) := by decide +kernel
theorem dX8_shineOf_100 : decode cX8_shineOf 100 = .ok (.if_icmp .le 7, 3) := by decide +kernel
theorem dX8_shineOf_103 : decode cX8_shineOf 103 = .ok (.iconst 2, 1) := by decide +kernel
theorem dX8_shineOf_104 : decode cX8_shineOf 104 = .ok (.goto 4, 3) := by decide +kernel
theorem dX8_shineOf_107 : decode cX8_shineOf 107 = .ok (.iconst 1, 1) := by decide +kernel
theorem dX8_shineOf_108 : decode cX8_shineOf 108 = .ok (.idiv, 1) := by decide +kernel
theorem dX8_shineOf_109 : decode cX8_shineOf 109 = .ok (.ireturn, 1) := by decide +kernel
theorem dX8_shineOf_110 : decode cX8_shineOf 110 = .ok (.aload_n 0, 1) := by decide +kernel
theorem dX8_shineOf_111 : decode cX8_shineOf 111 = .ok (.iload_n 1, 1) := by decide +kernel
theorem dX8_shineOf_112 : decode cX8_shineOf 112 = .ok (.iload_n 2, 1) := by decide +kernel
theorem dX8_shineOf_113 : decode cX8_shineOf 113 = .ok (.iconst 0, 1) := by decide +kernel
theorem dX8_shineOf_114 : decode cX8_shineOf 114 = .ok (.invokevirtual 113, 3) := by decide +kernel
theorem dX8_shineOf_117 : decode cX8_shineOf 117 = .ok (.ireturn, 1) := by decide +kernel
theorem dX8_shineOf_118 : decode cX8_shineOf 118 = .ok (.aload_n 0, 1) := by decide +kernel
theorem dX8_shineOf_119 : decode cX8_shineOf 119 = .ok (.iload_n 1, 1) := by decide +kernel
theorem dX8_shineOf_120 : decode cX8_shineOf 120 = .ok (.iload_n 2, 1) := by decide +kernel
theorem dX8_shineOf_121 : decode cX8_shineOf 121 = .ok (.iload_n 3, 1) := by decide +kernel
theorem dX8_shineOf_122 : decode cX8_shineOf 122 = .ok (.invokevirtual 113, 3) := by decide +kernel
theorem dX8_shineOf_125 : decode cX8_shineOf 125 = .ok (.ireturn, 1) := by decide +kernel
theorem dX8_takesOf_0 : decode cX8_takesOf 0 = .ok (.aload_n 0, 1) := by decide +kernel
theorem dX8_takesOf_1 : decode cX8_takesOf 1 = .ok (.iload_n 1, 1) := by decide +kernel
theorem dX8_takesOf_2 : decode cX8_takesOf 2 = .ok (.iconst 3, 1) := by decide +kernel
theorem dX8_takesOf_3 : decode cX8_takesOf 3 = .ok (.invokevirtual 102, 3) := by decide +kernel
theorem dX8_takesOf_6 : decode cX8_takesOf 6 = .ok (.istore_n 2, 1) := by decide +kernel
theorem dX8_takesOf_7 : decode cX8_takesOf 7 = .ok (.aload_n 0, 1) := by decide +kernel
theorem dX8_takesOf_8 : decode cX8_takesOf 8 = .ok (.iload_n 1, 1) := by decide +kernel
theorem dX8_takesOf_9 : decode cX8_takesOf 9 = .ok (.iconst 0, 1) := by decide +kernel
theorem dX8_takesOf_10 : decode cX8_takesOf 10 = .ok (.invokevirtual 102, 3) := by decide +kernel
theorem dX8_takesOf_13 : decode cX8_takesOf 13 = .ok (.tableswitch 50 1 4 #[31, 37, 43, 37], 31) := by decide +kernel
theorem dX8_takesOf_44 : decode cX8_takesOf 44 = .ok (.iconst 1, 1) := by decide +kernel
theorem dX8_takesOf_45 : decode cX8_takesOf 45 = .ok (.iload_n 2, 1) := by decide +kernel
theorem dX8_takesOf_46 : decode cX8_takesOf 46 = .ok (.iconst 4, 1) := by decide +kernel
theorem dX8_takesOf_47 : decode cX8_takesOf 47 = .ok (.idiv, 1) := by decide +kernel
theorem dX8_takesOf_48 : decode cX8_takesOf 48 = .ok (.iadd, 1) := by decide +kernel
theorem dX8_takesOf_49 : decode cX8_takesOf 49 = .ok (.ireturn, 1) := by decide +kernel
theorem dX8_takesOf_50 : decode cX8_takesOf 50 = .ok (.iconst 3, 1) := by decide +kernel
theorem dX8_takesOf_51 : decode cX8_takesOf 51 = .ok (.iload_n 2, 1) := by decide +kernel
theorem dX8_takesOf_52 : decode cX8_takesOf 52 = .ok (.iconst 2, 1) := by decide +kernel
theorem dX8_takesOf_53 : decode cX8_takesOf 53 = .ok (.idiv, 1) := by decide +kernel
theorem dX8_takesOf_54 : decode cX8_takesOf 54 = .ok (.iadd, 1) := by decide +kernel
theorem dX8_takesOf_55 : decode cX8_takesOf 55 = .ok (.ireturn, 1) := by decide +kernel
theorem dX8_takesOf_56 : decode cX8_takesOf 56 = .ok (.iconst 1, 1) := by decide +kernel
theorem dX8_takesOf_57 : decode cX8_takesOf 57 = .ok (.iload_n 2, 1) := by decide +kernel
theorem dX8_takesOf_58 : decode cX8_takesOf 58 = .ok (.bipush 6, 2) := by decide +kernel
theorem dX8_takesOf_60 : decode cX8_takesOf 60 = .ok (.idiv, 1) := by decide +kernel
theorem dX8_takesOf_61 : decode cX8_takesOf 61 = .ok (.iadd, 1) := by decide +kernel
theorem dX8_takesOf_62 : decode cX8_takesOf 62 = .ok (.ireturn, 1) := by decide +kernel
theorem dX8_takesOf_63 : decode cX8_takesOf 63 = .ok (.iconst 1, 1) := by decide +kernel
theorem dX8_takesOf_64 : decode cX8_takesOf 64 = .ok (.iload_n 2, 1) := by decide +kernel
theorem dX8_takesOf_65 : decode cX8_takesOf 65 = .ok (.iconst 2, 1) := by decide +kernel
theorem dX8_takesOf_66 : decode cX8_takesOf 66 = .ok (.idiv, 1) := by decide +kernel
theorem dX8_takesOf_67 : decode cX8_takesOf 67 = .ok (.iadd, 1) := by decide +kernel
theorem dX8_takesOf_68 : decode cX8_takesOf 68 = .ok (.ireturn, 1) := by decide +kernel
theorem dX8_asksOf_0 : decode cX8_asksOf 0 = .ok (.aload_n 0, 1) := by decide +kernel
theorem dX8_asksOf_1 : decode cX8_asksOf 1 = .ok (.iload_n 1, 1) := by decide +kernel
theorem dX8_asksOf_2 : decode cX8_asksOf 2 = .ok (.iconst 2, 1) := by decide +kernel
theorem dX8_asksOf_3 : decode cX8_asksOf 3 = .ok (.invokevirtual 102, 3) := by decide +kernel
theorem dX8_asksOf_6 : decode cX8_asksOf 6 = .ok (.istore_n 2, 1) := by decide +kernel
theorem dX8_asksOf_7 : decode cX8_asksOf 7 = .ok (.aload_n 0, 1) := by decide +kernel
theorem dX8_asksOf_8 : decode cX8_asksOf 8 = .ok (.iload_n 1, 1) := by decide +kernel
theorem dX8_asksOf_9 : decode cX8_asksOf 9 = .ok (.iconst 0, 1) := by decide +kernel
theorem dX8_asksOf_10 : decode cX8_asksOf 10 = .ok (.invokevirtual 102, 3) := by decide +kernel
theorem dX8_asksOf_13 : decode cX8_asksOf 13 = .ok (.tableswitch 54 2 5 #[31, 54, 35, 41], 31) := by decide +kernel
theorem dX8_asksOf_44 : decode cX8_asksOf 44 = .ok (.iload_n 2, 1) := by decide +kernel
theorem dX8_asksOf_45 : decode cX8_asksOf 45 = .ok (.iconst 3, 1) := by decide +kernel
theorem dX8_asksOf_46 : decode cX8_asksOf 46 = .ok (.iadd, 1) := by decide +kernel
theorem dX8_asksOf_47 : decode cX8_asksOf 47 = .ok (.ireturn, 1) := by decide +kernel
theorem dX8_asksOf_48 : decode cX8_asksOf 48 = .ok (.iconst 2, 1) := by decide +kernel
theorem dX8_asksOf_49 : decode cX8_asksOf 49 = .ok (.iload_n 2, 1) := by decide +kernel
theorem dX8_asksOf_50 : decode cX8_asksOf 50 = .ok (.iconst 3, 1) := by decide +kernel
theorem dX8_asksOf_51 : decode cX8_asksOf 51 = .ok (.iadd, 1) := by decide +kernel
theorem dX8_asksOf_52 : decode cX8_asksOf 52 = .ok (.imul, 1) := by decide +kernel
theorem dX8_asksOf_53 : decode cX8_asksOf 53 = .ok (.ireturn, 1) := by decide +kernel
theorem dX8_asksOf_54 : decode cX8_asksOf 54 = .ok (.iload_n 2, 1) := by decide +kernel
theorem dX8_asksOf_55 : decode cX8_asksOf 55 = .ok (.iconst 3, 1) := by decide +kernel
theorem dX8_asksOf_56 : decode cX8_asksOf 56 = .ok (.if_icmp .ge 7, 3) := by decide +kernel
theorem dX8_asksOf_59 : decode cX8_asksOf 59 = .ok (.iconst 1, 1) := by decide +kernel
theorem dX8_asksOf_60 : decode cX8_asksOf 60 = .ok (.goto 6, 3) := by decide +kernel
theorem dX8_asksOf_63 : decode cX8_asksOf 63 = .ok (.iload_n 2, 1) := by decide +kernel
theorem dX8_asksOf_64 : decode cX8_asksOf 64 = .ok (.iconst 2, 1) := by decide +kernel
theorem dX8_asksOf_65 : decode cX8_asksOf 65 = .ok (.isub, 1) := by decide +kernel
theorem dX8_asksOf_66 : decode cX8_asksOf 66 = .ok (.ireturn, 1) := by decide +kernel
theorem dX8_asksOf_67 : decode cX8_asksOf 67 = .ok (.iload_n 2, 1) := by decide +kernel
theorem dX8_asksOf_68 : decode cX8_asksOf 68 = .ok (.ireturn, 1) := by decide +kernel
theorem dX8_worthOf_0 : decode cX8_worthOf 0 = .ok (.aload_n 0, 1) := by decide +kernel
theorem dX8_worthOf_1 : decode cX8_worthOf 1 = .ok (.iload_n 1, 1) := by decide +kernel
theorem dX8_worthOf_2 : decode cX8_worthOf 2 = .ok (.iconst 2, 1) := by decide +kernel
theorem dX8_worthOf_3 : decode cX8_worthOf 3 = .ok (.invokevirtual 102, 3) := by decide +kernel
theorem dX8_worthOf_6 : decode cX8_worthOf 6 = .ok (.istore_n 2, 1) := by decide +kernel
theorem dX8_worthOf_7 : decode cX8_worthOf 7 = .ok (.aload_n 0, 1) := by decide +kernel
theorem dX8_worthOf_8 : decode cX8_worthOf 8 = .ok (.iload_n 1, 1) := by decide +kernel
theorem dX8_worthOf_9 : decode cX8_worthOf 9 = .ok (.iconst 0, 1) := by decide +kernel
theorem dX8_worthOf_10 : decode cX8_worthOf 10 = .ok (.invokevirtual 102, 3) := by decide +kernel
theorem dX8_worthOf_13 : decode cX8_worthOf 13 = .ok (.tableswitch 59 1 5 #[35, 40, 45, 52, 57], 35) := by decide +kernel
theorem dX8_worthOf_48 : decode cX8_worthOf 48 = .ok (.iload_n 2, 1) := by decide +kernel
theorem dX8_worthOf_49 : decode cX8_worthOf 49 = .ok (.bipush 8, 2) := by decide +kernel
theorem dX8_worthOf_51 : decode cX8_worthOf 51 = .ok (.iadd, 1) := by decide +kernel
theorem dX8_worthOf_52 : decode cX8_worthOf 52 = .ok (.ireturn, 1) := by decide +kernel
theorem dX8_worthOf_53 : decode cX8_worthOf 53 = .ok (.bipush 99, 2) := by decide +kernel
theorem dX8_worthOf_55 : decode cX8_worthOf 55 = .ok (.iload_n 2, 1) := by decide +kernel
theorem dX8_worthOf_56 : decode cX8_worthOf 56 = .ok (.isub, 1) := by decide +kernel
theorem dX8_worthOf_57 : decode cX8_worthOf 57 = .ok (.ireturn, 1) := by decide +kernel
theorem dX8_worthOf_58 : decode cX8_worthOf 58 = .ok (.iconst 2, 1) := by decide +kernel
theorem dX8_worthOf_59 : decode cX8_worthOf 59 = .ok (.iload_n 2, 1) := by decide +kernel
theorem dX8_worthOf_60 : decode cX8_worthOf 60 = .ok (.bipush 8, 2) := by decide +kernel
theorem dX8_worthOf_62 : decode cX8_worthOf 62 = .ok (.iadd, 1) := by decide +kernel
theorem dX8_worthOf_63 : decode cX8_worthOf 63 = .ok (.imul, 1) := by decide +kernel
theorem dX8_worthOf_64 : decode cX8_worthOf 64 = .ok (.ireturn, 1) := by decide +kernel
theorem dX8_worthOf_65 : decode cX8_worthOf 65 = .ok (.bipush 94, 2) := by decide +kernel
theorem dX8_worthOf_67 : decode cX8_worthOf 67 = .ok (.iload_n 2, 1) := by decide +kernel
theorem dX8_worthOf_68 : decode cX8_worthOf 68 = .ok (.isub, 1) := by decide +kernel
theorem dX8_worthOf_69 : decode cX8_worthOf 69 = .ok (.ireturn, 1) := by decide +kernel
theorem dX8_worthOf_70 : decode cX8_worthOf 70 = .ok (.iconst 2, 1) := by decide +kernel
theorem dX8_worthOf_71 : decode cX8_worthOf 71 = .ok (.ireturn, 1) := by decide +kernel
theorem dX8_worthOf_72 : decode cX8_worthOf 72 = .ok (.iload_n 2, 1) := by decide +kernel
theorem dX8_worthOf_73 : decode cX8_worthOf 73 = .ok (.ireturn, 1) := by decide +kernel
theorem dX8_told_0 : decode cX8_told 0 = .ok (.aload_n 0, 1) := by decide +kernel
theorem dX8_told_1 : decode cX8_told 1 = .ok (.iload_n 1, 1) := by decide +kernel
theorem dX8_told_2 : decode cX8_told 2 = .ok (.invokevirtual 116, 3) := by decide +kernel
theorem dX8_told_5 : decode cX8_told 5 = .ok (.ifCond .eq 13, 3) := by decide +kernel
theorem dX8_told_8 : decode cX8_told 8 = .ok (.iload_n 2, 1) := by decide +kernel
theorem dX8_told_9 : decode cX8_told 9 = .ok (.iconst 0, 1) := by decide +kernel
theorem dX8_told_10 : decode cX8_told 10 = .ok (.bipush 9, 2) := by decide +kernel
theorem dX8_told_12 : decode cX8_told 12 = .ok (.invokestatic 80, 3) := by decide +kernel
theorem dX8_told_15 : decode cX8_told 15 = .ok (.ifCond .ne 6, 3) := by decide +kernel
theorem dX8_told_18 : decode cX8_told 18 = .ok (.ldc 92, 2) := by decide +kernel
theorem dX8_told_20 : decode cX8_told 20 = .ok (.ireturn, 1) := by decide +kernel
theorem dX8_told_21 : decode cX8_told 21 = .ok (.iload_n 2, 1) := by decide +kernel
theorem dX8_told_22 : decode cX8_told 22 = .ok (.bipush 7, 2) := by decide +kernel
theorem dX8_told_24 : decode cX8_told 24 = .ok (.if_icmp .ge 12, 3) := by decide +kernel
theorem dX8_told_27 : decode cX8_told 27 = .ok (.aload_n 0, 1) := by decide +kernel
theorem dX8_told_28 : decode cX8_told 28 = .ok (.iload_n 1, 1) := by decide +kernel
theorem dX8_told_29 : decode cX8_told 29 = .ok (.iload_n 2, 1) := by decide +kernel
theorem dX8_told_30 : decode cX8_told 30 = .ok (.invokevirtual 102, 3) := by decide +kernel
theorem dX8_told_33 : decode cX8_told 33 = .ok (.goto 36, 3) := by decide +kernel
theorem dX8_told_36 : decode cX8_told 36 = .ok (.iload_n 2, 1) := by decide +kernel
theorem dX8_told_37 : decode cX8_told 37 = .ok (.bipush 7, 2) := by decide +kernel
theorem dX8_told_39 : decode cX8_told 39 = .ok (.if_icmp .ne 11, 3) := by decide +kernel
theorem dX8_told_42 : decode cX8_told 42 = .ok (.aload_n 0, 1) := by decide +kernel
theorem dX8_told_43 : decode cX8_told 43 = .ok (.iload_n 1, 1) := by decide +kernel
theorem dX8_told_44 : decode cX8_told 44 = .ok (.invokevirtual 120, 3) := by decide +kernel
theorem dX8_told_47 : decode cX8_told 47 = .ok (.goto 22, 3) := by decide +kernel
theorem dX8_told_50 : decode cX8_told 50 = .ok (.iload_n 2, 1) := by decide +kernel
theorem dX8_told_51 : decode cX8_told 51 = .ok (.bipush 8, 2) := by decide +kernel
theorem dX8_told_53 : decode cX8_told 53 = .ok (.if_icmp .ne 11, 3) := by decide +kernel
theorem dX8_told_56 : decode cX8_told 56 = .ok (.aload_n 0, 1) := by decide +kernel
theorem dX8_told_57 : decode cX8_told 57 = .ok (.iload_n 1, 1) := by decide +kernel
theorem dX8_told_58 : decode cX8_told 58 = .ok (.invokevirtual 123, 3) := by decide +kernel
theorem dX8_told_61 : decode cX8_told 61 = .ok (.goto 8, 3) := by decide +kernel
theorem dX8_told_64 : decode cX8_told 64 = .ok (.aload_n 0, 1) := by decide +kernel
theorem dX8_told_65 : decode cX8_told 65 = .ok (.iload_n 1, 1) := by decide +kernel
theorem dX8_told_66 : decode cX8_told 66 = .ok (.invokevirtual 126, 3) := by decide +kernel
theorem dX8_told_69 : decode cX8_told 69 = .ok (.ireturn, 1) := by decide +kernel
theorem dX8_shine_0 : decode cX8_shine 0 = .ok (.aload_n 0, 1) := by decide +kernel
theorem dX8_shine_1 : decode cX8_shine 1 = .ok (.iload_n 1, 1) := by decide +kernel
theorem dX8_shine_2 : decode cX8_shine 2 = .ok (.invokevirtual 116, 3) := by decide +kernel
theorem dX8_shine_5 : decode cX8_shine 5 = .ok (.ifCond .eq 33, 3) := by decide +kernel
theorem dX8_shine_8 : decode cX8_shine 8 = .ok (.iload_n 2, 1) := by decide +kernel
theorem dX8_shine_9 : decode cX8_shine 9 = .ok (.iconst 0, 1) := by decide +kernel
theorem dX8_shine_10 : decode cX8_shine 10 = .ok (.bipush 40, 2) := by decide +kernel
theorem dX8_shine_12 : decode cX8_shine 12 = .ok (.invokestatic 80, 3) := by decide +kernel
theorem dX8_shine_15 : decode cX8_shine 15 = .ok (.ifCond .eq 23, 3) := by decide +kernel
theorem dX8_shine_18 : decode cX8_shine 18 = .ok (.iload_n 3, 1) := by decide +kernel
theorem dX8_shine_19 : decode cX8_shine 19 = .ok (.iconst 0, 1) := by decide +kernel
theorem dX8_shine_20 : decode cX8_shine 20 = .ok (.bipush 9, 2) := by decide +kernel
theorem dX8_shine_22 : decode cX8_shine 22 = .ok (.invokestatic 80, 3) := by decide +kernel
theorem dX8_shine_25 : decode cX8_shine 25 = .ok (.ifCond .eq 13, 3) := by decide +kernel
theorem dX8_shine_28 : decode cX8_shine 28 = .ok (.aload_n 0, 1) := by decide +kernel
theorem dX8_shine_29 : decode cX8_shine 29 = .ok (.iload_n 1, 1) := by decide +kernel
theorem dX8_shine_30 : decode cX8_shine 30 = .ok (.iload_n 2, 1) := by decide +kernel
theorem dX8_shine_31 : decode cX8_shine 31 = .ok (.iload_n 3, 1) := by decide +kernel
theorem dX8_shine_32 : decode cX8_shine 32 = .ok (.invokevirtual 129, 3) := by decide +kernel
theorem dX8_shine_35 : decode cX8_shine 35 = .ok (.goto 5, 3) := by decide +kernel
theorem dX8_shine_38 : decode cX8_shine 38 = .ok (.ldc 92, 2) := by decide +kernel
theorem dX8_shine_40 : decode cX8_shine 40 = .ok (.ireturn, 1) := by decide +kernel
theorem dX8_isUnder_0 : decode cX8_isUnder 0 = .ok (.iload_n 1, 1) := by decide +kernel
theorem dX8_isUnder_1 : decode cX8_isUnder 1 = .ok (.ifCond .eq 28, 3) := by decide +kernel
theorem dX8_isUnder_4 : decode cX8_isUnder 4 = .ok (.iload_n 0, 1) := by decide +kernel
theorem dX8_isUnder_5 : decode cX8_isUnder 5 = .ok (.iload_n 1, 1) := by decide +kernel
theorem dX8_isUnder_6 : decode cX8_isUnder 6 = .ok (.if_icmp .eq 23, 3) := by decide +kernel
theorem dX8_isUnder_9 : decode cX8_isUnder 9 = .ok (.iload_n 1, 1) := by decide +kernel
theorem dX8_isUnder_10 : decode cX8_isUnder 10 = .ok (.iconst 1, 1) := by decide +kernel
theorem dX8_isUnder_11 : decode cX8_isUnder 11 = .ok (.if_icmp .ne 8, 3) := by decide +kernel
theorem dX8_isUnder_14 : decode cX8_isUnder 14 = .ok (.iload_n 0, 1) := by decide +kernel
theorem dX8_isUnder_15 : decode cX8_isUnder 15 = .ok (.iconst 3, 1) := by decide +kernel
theorem dX8_isUnder_16 : decode cX8_isUnder 16 = .ok (.if_icmp .eq 13, 3) := by decide +kernel
theorem dX8_isUnder_19 : decode cX8_isUnder 19 = .ok (.iload_n 1, 1) := by decide +kernel
theorem dX8_isUnder_20 : decode cX8_isUnder 20 = .ok (.iconst 2, 1) := by decide +kernel
theorem dX8_isUnder_21 : decode cX8_isUnder 21 = .ok (.if_icmp .ne 12, 3) := by decide +kernel
theorem dX8_isUnder_24 : decode cX8_isUnder 24 = .ok (.iload_n 0, 1) := by decide +kernel
theorem dX8_isUnder_25 : decode cX8_isUnder 25 = .ok (.iconst 4, 1) := by decide +kernel
theorem dX8_isUnder_26 : decode cX8_isUnder 26 = .ok (.if_icmp .ne 7, 3) := by decide +kernel
theorem dX8_isUnder_29 : decode cX8_isUnder 29 = .ok (.iconst 1, 1) := by decide +kernel
theorem dX8_isUnder_30 : decode cX8_isUnder 30 = .ok (.goto 4, 3) := by decide +kernel
theorem dX8_isUnder_33 : decode cX8_isUnder 33 = .ok (.iconst 0, 1) := by decide +kernel
theorem dX8_isUnder_34 : decode cX8_isUnder 34 = .ok (.ireturn, 1) := by decide +kernel
theorem dX8_as_0 : decode cX8_as 0 = .ok (.aload_n 0, 1) := by decide +kernel
theorem dX8_as_1 : decode cX8_as 1 = .ok (.iload_n 1, 1) := by decide +kernel
theorem dX8_as_2 : decode cX8_as 2 = .ok (.invokevirtual 116, 3) := by decide +kernel
theorem dX8_as_5 : decode cX8_as 5 = .ok (.ifCond .eq 12, 3) := by decide +kernel
theorem dX8_as_8 : decode cX8_as 8 = .ok (.iload_n 2, 1) := by decide +kernel
theorem dX8_as_9 : decode cX8_as 9 = .ok (.iconst 0, 1) := by decide +kernel
theorem dX8_as_10 : decode cX8_as 10 = .ok (.iconst 5, 1) := by decide +kernel
theorem dX8_as_11 : decode cX8_as 11 = .ok (.invokestatic 80, 3) := by decide +kernel
theorem dX8_as_14 : decode cX8_as 14 = .ok (.ifCond .ne 6, 3) := by decide +kernel
theorem dX8_as_17 : decode cX8_as 17 = .ok (.ldc 92, 2) := by decide +kernel
theorem dX8_as_19 : decode cX8_as 19 = .ok (.ireturn, 1) := by decide +kernel
theorem dX8_as_20 : decode cX8_as 20 = .ok (.aload_n 0, 1) := by decide +kernel
theorem dX8_as_21 : decode cX8_as 21 = .ok (.iload_n 1, 1) := by decide +kernel
theorem dX8_as_22 : decode cX8_as 22 = .ok (.iconst 0, 1) := by decide +kernel
theorem dX8_as_23 : decode cX8_as 23 = .ok (.invokevirtual 102, 3) := by decide +kernel
theorem dX8_as_26 : decode cX8_as 26 = .ok (.iload_n 2, 1) := by decide +kernel
theorem dX8_as_27 : decode cX8_as 27 = .ok (.invokestatic 132, 3) := by decide +kernel
theorem dX8_as_30 : decode cX8_as 30 = .ok (.ifCond .eq 12, 3) := by decide +kernel
theorem dX8_as_33 : decode cX8_as 33 = .ok (.aload_n 0, 1) := by decide +kernel
theorem dX8_as_34 : decode cX8_as 34 = .ok (.iload_n 1, 1) := by decide +kernel
theorem dX8_as_35 : decode cX8_as 35 = .ok (.iconst 2, 1) := by decide +kernel
theorem dX8_as_36 : decode cX8_as 36 = .ok (.invokevirtual 102, 3) := by decide +kernel
theorem dX8_as_39 : decode cX8_as 39 = .ok (.goto 5, 3) := by decide +kernel
theorem dX8_as_42 : decode cX8_as 42 = .ok (.ldc 135, 2) := by decide +kernel
theorem dX8_as_44 : decode cX8_as 44 = .ok (.ireturn, 1) := by decide +kernel
theorem dX8_turns_0 : decode cX8_turns 0 = .ok (.aload_n 0, 1) := by decide +kernel
theorem dX8_turns_1 : decode cX8_turns 1 = .ok (.iload_n 1, 1) := by decide +kernel
theorem dX8_turns_2 : decode cX8_turns 2 = .ok (.invokevirtual 116, 3) := by decide +kernel
theorem dX8_turns_5 : decode cX8_turns 5 = .ok (.ifCond .eq 27, 3) := by decide +kernel
theorem dX8_turns_8 : decode cX8_turns 8 = .ok (.iload_n 2, 1) := by decide +kernel
theorem dX8_turns_9 : decode cX8_turns 9 = .ok (.iconst 0, 1) := by decide +kernel
theorem dX8_turns_10 : decode cX8_turns 10 = .ok (.iconst 5, 1) := by decide +kernel
theorem dX8_turns_11 : decode cX8_turns 11 = .ok (.invokestatic 80, 3) := by decide +kernel
theorem dX8_turns_14 : decode cX8_turns 14 = .ok (.ifCond .eq 18, 3) := by decide +kernel
theorem dX8_turns_17 : decode cX8_turns 17 = .ok (.aload_n 0, 1) := by decide +kernel
theorem dX8_turns_18 : decode cX8_turns 18 = .ok (.bipush 9, 2) := by decide +kernel
theorem dX8_turns_20 : decode cX8_turns 20 = .ok (.bipush 7, 2) := by decide +kernel
theorem dX8_turns_22 : decode cX8_turns 22 = .ok (.iload_n 1, 1) := by decide +kernel
theorem dX8_turns_23 : decode cX8_turns 23 = .ok (.imul, 1) := by decide +kernel
theorem dX8_turns_24 : decode cX8_turns 24 = .ok (.iadd, 1) := by decide +kernel
theorem dX8_turns_25 : decode cX8_turns 25 = .ok (.iload_n 2, 1) := by decide +kernel
theorem dX8_turns_26 : decode cX8_turns 26 = .ok (.invokevirtual 136, 3) := by decide +kernel
theorem dX8_turns_29 : decode cX8_turns 29 = .ok (.goto 5, 3) := by decide +kernel
theorem dX8_turns_32 : decode cX8_turns 32 = .ok (.ldc 92, 2) := by decide +kernel
theorem dX8_turns_34 : decode cX8_turns 34 = .ok (.ireturn, 1) := by decide +kernel
theorem dX8_set_0 : decode cX8_set 0 = .ok (.aload_n 0, 1) := by decide +kernel
theorem dX8_set_1 : decode cX8_set 1 = .ok (.iload_n 1, 1) := by decide +kernel
theorem dX8_set_2 : decode cX8_set 2 = .ok (.invokevirtual 116, 3) := by decide +kernel
theorem dX8_set_5 : decode cX8_set 5 = .ok (.ifCond .eq 37, 3) := by decide +kernel
theorem dX8_set_8 : decode cX8_set 8 = .ok (.iload_n 2, 1) := by decide +kernel
theorem dX8_set_9 : decode cX8_set 9 = .ok (.iconst 1, 1) := by decide +kernel
theorem dX8_set_10 : decode cX8_set 10 = .ok (.iconst 3, 1) := by decide +kernel
theorem dX8_set_11 : decode cX8_set 11 = .ok (.invokestatic 80, 3) := by decide +kernel
theorem dX8_set_14 : decode cX8_set 14 = .ok (.ifCond .eq 28, 3) := by decide +kernel
theorem dX8_set_17 : decode cX8_set 17 = .ok (.iload_n 2, 1) := by decide +kernel
theorem dX8_set_18 : decode cX8_set 18 = .ok (.iload_n 3, 1) := by decide +kernel
theorem dX8_set_19 : decode cX8_set 19 = .ok (.invokestatic 88, 3) := by decide +kernel
theorem dX8_set_22 : decode cX8_set 22 = .ok (.ifCond .eq 20, 3) := by decide +kernel
theorem dX8_set_25 : decode cX8_set 25 = .ok (.aload_n 0, 1) := by decide +kernel
theorem dX8_set_26 : decode cX8_set 26 = .ok (.bipush 9, 2) := by decide +kernel
theorem dX8_set_28 : decode cX8_set 28 = .ok (.bipush 7, 2) := by decide +kernel
theorem dX8_set_30 : decode cX8_set 30 = .ok (.iload_n 1, 1) := by decide +kernel
theorem dX8_set_31 : decode cX8_set 31 = .ok (.imul, 1) := by decide +kernel
theorem dX8_set_32 : decode cX8_set 32 = .ok (.iadd, 1) := by decide +kernel
theorem dX8_set_33 : decode cX8_set 33 = .ok (.iload_n 2, 1) := by decide +kernel
theorem dX8_set_34 : decode cX8_set 34 = .ok (.iadd, 1) := by decide +kernel
theorem dX8_set_35 : decode cX8_set 35 = .ok (.iload_n 3, 1) := by decide +kernel
theorem dX8_set_36 : decode cX8_set 36 = .ok (.invokevirtual 136, 3) := by decide +kernel
theorem dX8_set_39 : decode cX8_set 39 = .ok (.goto 5, 3) := by decide +kernel
theorem dX8_set_42 : decode cX8_set 42 = .ok (.ldc 92, 2) := by decide +kernel
theorem dX8_set_44 : decode cX8_set 44 = .ok (.ireturn, 1) := by decide +kernel
theorem dX8_draw_0 : decode cX8_draw 0 = .ok (.aload_n 0, 1) := by decide +kernel
theorem dX8_draw_1 : decode cX8_draw 1 = .ok (.getfield 9, 3) := by decide +kernel
theorem dX8_draw_4 : decode cX8_draw 4 = .ok (.iconst 0, 1) := by decide +kernel
theorem dX8_draw_5 : decode cX8_draw 5 = .ok (.aload_n 0, 1) := by decide +kernel
theorem dX8_draw_6 : decode cX8_draw 6 = .ok (.getfield 9, 3) := by decide +kernel
theorem dX8_draw_9 : decode cX8_draw 9 = .ok (.iconst 0, 1) := by decide +kernel
theorem dX8_draw_10 : decode cX8_draw 10 = .ok (.iaload, 1) := by decide +kernel
theorem dX8_draw_11 : decode cX8_draw 11 = .ok (.ldc 139, 2) := by decide +kernel
theorem dX8_draw_13 : decode cX8_draw 13 = .ok (.imul, 1) := by decide +kernel
theorem dX8_draw_14 : decode cX8_draw 14 = .ok (.sipush 12345, 3) := by decide +kernel
theorem dX8_draw_17 : decode cX8_draw 17 = .ok (.iadd, 1) := by decide +kernel
theorem dX8_draw_18 : decode cX8_draw 18 = .ok (.iastore, 1) := by decide +kernel
theorem dX8_draw_19 : decode cX8_draw 19 = .ok (.aload_n 0, 1) := by decide +kernel
theorem dX8_draw_20 : decode cX8_draw 20 = .ok (.getfield 9, 3) := by decide +kernel
theorem dX8_draw_23 : decode cX8_draw 23 = .ok (.iconst 0, 1) := by decide +kernel
theorem dX8_draw_24 : decode cX8_draw 24 = .ok (.iaload, 1) := by decide +kernel
theorem dX8_draw_25 : decode cX8_draw 25 = .ok (.bipush 8, 2) := by decide +kernel
theorem dX8_draw_27 : decode cX8_draw 27 = .ok (.iushr, 1) := by decide +kernel
theorem dX8_draw_28 : decode cX8_draw 28 = .ok (.ireturn, 1) := by decide +kernel
theorem dX8_deal_0 : decode cX8_deal 0 = .ok (.iload_n 1, 1) := by decide +kernel
theorem dX8_deal_1 : decode cX8_deal 1 = .ok (.iconst 1, 1) := by decide +kernel
theorem dX8_deal_2 : decode cX8_deal 2 = .ok (.bipush 8, 2) := by decide +kernel
theorem dX8_deal_4 : decode cX8_deal 4 = .ok (.invokestatic 80, 3) := by decide +kernel
theorem dX8_deal_7 : decode cX8_deal 7 = .ok (.ifCond .ne 6, 3) := by decide +kernel
theorem dX8_deal_10 : decode cX8_deal 10 = .ok (.ldc 92, 2) := by decide +kernel
theorem dX8_deal_12 : decode cX8_deal 12 = .ok (.ireturn, 1) := by decide +kernel
theorem dX8_deal_13 : decode cX8_deal 13 = .ok (.iconst 0, 1) := by decide +kernel
theorem dX8_deal_14 : decode cX8_deal 14 = .ok (.istore_n 2, 1) := by decide +kernel
theorem dX8_deal_15 : decode cX8_deal 15 = .ok (.iload_n 2, 1) := by decide +kernel
theorem dX8_deal_16 : decode cX8_deal 16 = .ok (.iload_n 1, 1) := by decide +kernel
theorem dX8_deal_17 : decode cX8_deal 17 = .ok (.if_icmp .ge 68, 3) := by decide +kernel
theorem dX8_deal_20 : decode cX8_deal 20 = .ok (.aload_n 0, 1) := by decide +kernel
theorem dX8_deal_21 : decode cX8_deal 21 = .ok (.getfield 9, 3) := by decide +kernel
theorem dX8_deal_24 : decode cX8_deal 24 = .ok (.iconst 1, 1) := by decide +kernel
theorem dX8_deal_25 : decode cX8_deal 25 = .ok (.iaload, 1) := by decide +kernel
theorem dX8_deal_26 : decode cX8_deal 26 = .ok (.bipush 8, 2) := by decide +kernel
theorem dX8_deal_28 : decode cX8_deal 28 = .ok (.if_icmp .ge 57, 3) := by decide +kernel
theorem dX8_deal_31 : decode cX8_deal 31 = .ok (.aload_n 0, 1) := by decide +kernel
theorem dX8_deal_32 : decode cX8_deal 32 = .ok (.invokevirtual 140, 3) := by decide +kernel
theorem dX8_deal_35 : decode cX8_deal 35 = .ok (.bipush 6, 2) := by decide +kernel
theorem dX8_deal_37 : decode cX8_deal 37 = .ok (.irem, 1) := by decide +kernel
theorem dX8_deal_38 : decode cX8_deal 38 = .ok (.istore_n 3, 1) := by decide +kernel
theorem dX8_deal_39 : decode cX8_deal 39 = .ok (.aload_n 0, 1) := by decide +kernel
theorem dX8_deal_40 : decode cX8_deal 40 = .ok (.invokevirtual 140, 3) := by decide +kernel
theorem dX8_deal_43 : decode cX8_deal 43 = .ok (.bipush 10, 2) := by decide +kernel
theorem dX8_deal_45 : decode cX8_deal 45 = .ok (.irem, 1) := by decide +kernel
theorem dX8_deal_46 : decode cX8_deal 46 = .ok (.istore 4, 2) := by decide +kernel
theorem dX8_deal_48 : decode cX8_deal 48 = .ok (.iconst 1, 1) := by decide +kernel
theorem dX8_deal_49 : decode cX8_deal 49 = .ok (.aload_n 0, 1) := by decide +kernel
theorem dX8_deal_50 : decode cX8_deal 50 = .ok (.invokevirtual 140, 3) := by decide +kernel
theorem dX8_deal_53 : decode cX8_deal 53 = .ok (.bipush 20, 2) := by decide +kernel
theorem dX8_deal_55 : decode cX8_deal 55 = .ok (.irem, 1) := by decide +kernel
theorem dX8_deal_56 : decode cX8_deal 56 = .ok (.iadd, 1) := by decide +kernel
theorem dX8_deal_57 : decode cX8_deal 57 = .ok (.istore 5, 2) := by decide +kernel
theorem dX8_deal_59 : decode cX8_deal 59 = .ok (.aload_n 0, 1) := by decide +kernel
theorem dX8_deal_60 : decode cX8_deal 60 = .ok (.iload_n 3, 1) := by decide +kernel
theorem dX8_deal_61 : decode cX8_deal 61 = .ok (.iload 4, 2) := by decide +kernel
theorem dX8_deal_63 : decode cX8_deal 63 = .ok (.iload 5, 2) := by decide +kernel
theorem dX8_deal_65 : decode cX8_deal 65 = .ok (.iconst 1, 1) := by decide +kernel
theorem dX8_deal_66 : decode cX8_deal 66 = .ok (.aload_n 0, 1) := by decide +kernel
theorem dX8_deal_67 : decode cX8_deal 67 = .ok (.invokevirtual 140, 3) := by decide +kernel
theorem dX8_deal_70 : decode cX8_deal 70 = .ok (.bipush 12, 2) := by decide +kernel
theorem dX8_deal_72 : decode cX8_deal 72 = .ok (.irem, 1) := by decide +kernel
theorem dX8_deal_73 : decode cX8_deal 73 = .ok (.iadd, 1) := by decide +kernel
theorem dX8_deal_74 : decode cX8_deal 74 = .ok (.invokevirtual 94, 3) := by decide +kernel
theorem dX8_deal_77 : decode cX8_deal 77 = .ok (.istore 6, 2) := by decide +kernel
theorem dX8_deal_79 : decode cX8_deal 79 = .ok (.iinc 2 1, 3) := by decide +kernel
theorem dX8_deal_82 : decode cX8_deal 82 = .ok (.goto (-67), 3) := by decide +kernel
theorem dX8_deal_85 : decode cX8_deal 85 = .ok (.iload_n 2, 1) := by decide +kernel
theorem dX8_deal_86 : decode cX8_deal 86 = .ok (.ireturn, 1) := by decide +kernel
theorem dX8_seed_0 : decode cX8_seed 0 = .ok (.aload_n 0, 1) := by decide +kernel
theorem dX8_seed_1 : decode cX8_seed 1 = .ok (.iconst 0, 1) := by decide +kernel
theorem dX8_seed_2 : decode cX8_seed 2 = .ok (.iload_n 1, 1) := by decide +kernel
theorem dX8_seed_3 : decode cX8_seed 3 = .ok (.invokevirtual 136, 3) := by decide +kernel
theorem dX8_seed_6 : decode cX8_seed 6 = .ok (.ireturn, 1) := by decide +kernel
theorem dX8_rule_0 : decode cX8_rule 0 = .ok (.iload_n 1, 1) := by decide +kernel
theorem dX8_rule_1 : decode cX8_rule 1 = .ok (.iconst 0, 1) := by decide +kernel
theorem dX8_rule_2 : decode cX8_rule 2 = .ok (.iconst 2, 1) := by decide +kernel
theorem dX8_rule_3 : decode cX8_rule 3 = .ok (.invokestatic 80, 3) := by decide +kernel
theorem dX8_rule_6 : decode cX8_rule 6 = .ok (.ifCond .eq 42, 3) := by decide +kernel
theorem dX8_rule_9 : decode cX8_rule 9 = .ok (.iload_n 2, 1) := by decide +kernel
theorem dX8_rule_10 : decode cX8_rule 10 = .ok (.iconst 0, 1) := by decide +kernel
theorem dX8_rule_11 : decode cX8_rule 11 = .ok (.iload_n 1, 1) := by decide +kernel
theorem dX8_rule_12 : decode cX8_rule 12 = .ok (.ifCond .ne 8, 3) := by decide +kernel
theorem dX8_rule_15 : decode cX8_rule 15 = .ok (.bipush 99, 2) := by decide +kernel
theorem dX8_rule_17 : decode cX8_rule 17 = .ok (.goto 14, 3) := by decide +kernel
theorem dX8_rule_20 : decode cX8_rule 20 = .ok (.iload_n 1, 1) := by decide +kernel
theorem dX8_rule_21 : decode cX8_rule 21 = .ok (.iconst 1, 1) := by decide +kernel
theorem dX8_rule_22 : decode cX8_rule 22 = .ok (.if_icmp .ne 8, 3) := by decide +kernel
theorem dX8_rule_25 : decode cX8_rule 25 = .ok (.bipush 100, 2) := by decide +kernel
theorem dX8_rule_27 : decode cX8_rule 27 = .ok (.goto 4, 3) := by decide +kernel
theorem dX8_rule_30 : decode cX8_rule 30 = .ok (.iconst 1, 1) := by decide +kernel
theorem dX8_rule_31 : decode cX8_rule 31 = .ok (.invokestatic 80, 3) := by decide +kernel
theorem dX8_rule_34 : decode cX8_rule 34 = .ok (.ifCond .eq 14, 3) := by decide +kernel
theorem dX8_rule_37 : decode cX8_rule 37 = .ok (.aload_n 0, 1) := by decide +kernel
theorem dX8_rule_38 : decode cX8_rule 38 = .ok (.iconst 3, 1) := by decide +kernel
theorem dX8_rule_39 : decode cX8_rule 39 = .ok (.iload_n 1, 1) := by decide +kernel
theorem dX8_rule_40 : decode cX8_rule 40 = .ok (.iadd, 1) := by decide +kernel
theorem dX8_rule_41 : decode cX8_rule 41 = .ok (.iload_n 2, 1) := by decide +kernel
theorem dX8_rule_42 : decode cX8_rule 42 = .ok (.invokevirtual 136, 3) := by decide +kernel
theorem dX8_rule_45 : decode cX8_rule 45 = .ok (.goto 5, 3) := by decide +kernel
theorem dX8_rule_48 : decode cX8_rule 48 = .ok (.ldc 92, 2) := by decide +kernel
theorem dX8_rule_50 : decode cX8_rule 50 = .ok (.ireturn, 1) := by decide +kernel
theorem dX8_apart_0 : decode cX8_apart 0 = .ok (.iload_n 0, 1) := by decide +kernel
theorem dX8_apart_1 : decode cX8_apart 1 = .ok (.iload_n 1, 1) := by decide +kernel
theorem dX8_apart_2 : decode cX8_apart 2 = .ok (.if_icmp .ge 9, 3) := by decide +kernel
theorem dX8_apart_5 : decode cX8_apart 5 = .ok (.iload_n 1, 1) := by decide +kernel
theorem dX8_apart_6 : decode cX8_apart 6 = .ok (.iload_n 0, 1) := by decide +kernel
theorem dX8_apart_7 : decode cX8_apart 7 = .ok (.isub, 1) := by decide +kernel
theorem dX8_apart_8 : decode cX8_apart 8 = .ok (.goto 6, 3) := by decide +kernel
theorem dX8_apart_11 : decode cX8_apart 11 = .ok (.iload_n 0, 1) := by decide +kernel
theorem dX8_apart_12 : decode cX8_apart 12 = .ok (.iload_n 1, 1) := by decide +kernel
theorem dX8_apart_13 : decode cX8_apart 13 = .ok (.isub, 1) := by decide +kernel
theorem dX8_apart_14 : decode cX8_apart 14 = .ok (.ireturn, 1) := by decide +kernel
theorem dX8_boyFor_0 : decode cX8_boyFor 0 = .ok (.iconst (-1), 1) := by decide +kernel
theorem dX8_boyFor_1 : decode cX8_boyFor 1 = .ok (.istore_n 3, 1) := by decide +kernel
theorem dX8_boyFor_2 : decode cX8_boyFor 2 = .ok (.iconst 0, 1) := by decide +kernel
theorem dX8_boyFor_3 : decode cX8_boyFor 3 = .ok (.istore 4, 2) := by decide +kernel
theorem dX8_boyFor_5 : decode cX8_boyFor 5 = .ok (.iconst 0, 1) := by decide +kernel
theorem dX8_boyFor_6 : decode cX8_boyFor 6 = .ok (.istore 5, 2) := by decide +kernel
theorem dX8_boyFor_8 : decode cX8_boyFor 8 = .ok (.iload 5, 2) := by decide +kernel
theorem dX8_boyFor_10 : decode cX8_boyFor 10 = .ok (.aload_n 0, 1) := by decide +kernel
theorem dX8_boyFor_11 : decode cX8_boyFor 11 = .ok (.getfield 9, 3) := by decide +kernel
theorem dX8_boyFor_14 : decode cX8_boyFor 14 = .ok (.iconst 1, 1) := by decide +kernel
theorem dX8_boyFor_15 : decode cX8_boyFor 15 = .ok (.iaload, 1) := by decide +kernel
theorem dX8_boyFor_16 : decode cX8_boyFor 16 = .ok (.if_icmp .ge 79, 3) := by decide +kernel
theorem dX8_boyFor_19 : decode cX8_boyFor 19 = .ok (.iload 5, 2) := by decide +kernel
theorem dX8_boyFor_21 : decode cX8_boyFor 21 = .ok (.aload_n 0, 1) := by decide +kernel
theorem dX8_boyFor_22 : decode cX8_boyFor 22 = .ok (.getfield 19, 3) := by decide +kernel
theorem dX8_boyFor_25 : decode cX8_boyFor 25 = .ok (.if_icmp .eq 64, 3) := by decide +kernel
theorem dX8_boyFor_28 : decode cX8_boyFor 28 = .ok (.aload_n 0, 1) := by decide +kernel
theorem dX8_boyFor_29 : decode cX8_boyFor 29 = .ok (.iload 5, 2) := by decide +kernel
theorem dX8_boyFor_31 : decode cX8_boyFor 31 = .ok (.iconst 5, 1) := by decide +kernel
theorem dX8_boyFor_32 : decode cX8_boyFor 32 = .ok (.invokevirtual 102, 3) := by decide +kernel
theorem dX8_boyFor_35 : decode cX8_boyFor 35 = .ok (.ifCond .gt 54, 3) := by decide +kernel
theorem dX8_boyFor_38 : decode cX8_boyFor 38 = .ok (.aload_n 0, 1) := by decide +kernel
theorem dX8_boyFor_39 : decode cX8_boyFor 39 = .ok (.iload 5, 2) := by decide +kernel
theorem dX8_boyFor_41 : decode cX8_boyFor 41 = .ok (.invokevirtual 120, 3) := by decide +kernel
theorem dX8_boyFor_44 : decode cX8_boyFor 44 = .ok (.iload_n 2, 1) := by decide +kernel
theorem dX8_boyFor_45 : decode cX8_boyFor 45 = .ok (.if_icmp .le 6, 3) := by decide +kernel
theorem dX8_boyFor_48 : decode cX8_boyFor 48 = .ok (.goto 41, 3) := by decide +kernel
theorem dX8_boyFor_51 : decode cX8_boyFor 51 = .ok (.aload_n 0, 1) := by decide +kernel
theorem dX8_boyFor_52 : decode cX8_boyFor 52 = .ok (.iload 5, 2) := by decide +kernel
theorem dX8_boyFor_54 : decode cX8_boyFor 54 = .ok (.invokevirtual 123, 3) := by decide +kernel
theorem dX8_boyFor_57 : decode cX8_boyFor 57 = .ok (.aload_n 0, 1) := by decide +kernel
theorem dX8_boyFor_58 : decode cX8_boyFor 58 = .ok (.iload 5, 2) := by decide +kernel
theorem dX8_boyFor_60 : decode cX8_boyFor 60 = .ok (.iconst 1, 1) := by decide +kernel
theorem dX8_boyFor_61 : decode cX8_boyFor 61 = .ok (.invokevirtual 102, 3) := by decide +kernel
theorem dX8_boyFor_64 : decode cX8_boyFor 64 = .ok (.iload_n 1, 1) := by decide +kernel
theorem dX8_boyFor_65 : decode cX8_boyFor 65 = .ok (.invokestatic 144, 3) := by decide +kernel
theorem dX8_boyFor_68 : decode cX8_boyFor 68 = .ok (.iadd, 1) := by decide +kernel
theorem dX8_boyFor_69 : decode cX8_boyFor 69 = .ok (.istore 6, 2) := by decide +kernel
theorem dX8_boyFor_71 : decode cX8_boyFor 71 = .ok (.iload_n 3, 1) := by decide +kernel
theorem dX8_boyFor_72 : decode cX8_boyFor 72 = .ok (.ifCond .lt 10, 3) := by decide +kernel
theorem dX8_boyFor_75 : decode cX8_boyFor 75 = .ok (.iload 6, 2) := by decide +kernel
theorem dX8_boyFor_77 : decode cX8_boyFor 77 = .ok (.iload 4, 2) := by decide +kernel
theorem dX8_boyFor_79 : decode cX8_boyFor 79 = .ok (.if_icmp .ge 10, 3) := by decide +kernel
theorem dX8_boyFor_82 : decode cX8_boyFor 82 = .ok (.iload 5, 2) := by decide +kernel
theorem dX8_boyFor_84 : decode cX8_boyFor 84 = .ok (.istore_n 3, 1) := by decide +kernel
theorem dX8_boyFor_85 : decode cX8_boyFor 85 = .ok (.iload 6, 2) := by decide +kernel
theorem dX8_boyFor_87 : decode cX8_boyFor 87 = .ok (.istore 4, 2) := by decide +kernel
theorem dX8_boyFor_89 : decode cX8_boyFor 89 = .ok (.iinc 5 1, 3) := by decide +kernel
theorem dX8_boyFor_92 : decode cX8_boyFor 92 = .ok (.goto (-84), 3) := by decide +kernel
theorem dX8_boyFor_95 : decode cX8_boyFor 95 = .ok (.iload_n 3, 1) := by decide +kernel
theorem dX8_boyFor_96 : decode cX8_boyFor 96 = .ok (.ireturn, 1) := by decide +kernel
theorem dX8_serves_0 : decode cX8_serves 0 = .ok (.aload_n 0, 1) := by decide +kernel
theorem dX8_serves_1 : decode cX8_serves 1 = .ok (.iload_n 1, 1) := by decide +kernel
theorem dX8_serves_2 : decode cX8_serves 2 = .ok (.aload_n 0, 1) := by decide +kernel
theorem dX8_serves_3 : decode cX8_serves 3 = .ok (.iload_n 1, 1) := by decide +kernel
theorem dX8_serves_4 : decode cX8_serves 4 = .ok (.iconst 3, 1) := by decide +kernel
theorem dX8_serves_5 : decode cX8_serves 5 = .ok (.invokevirtual 102, 3) := by decide +kernel
theorem dX8_serves_8 : decode cX8_serves 8 = .ok (.iload_n 2, 1) := by decide +kernel
theorem dX8_serves_9 : decode cX8_serves 9 = .ok (.invokevirtual 129, 3) := by decide +kernel
theorem dX8_serves_12 : decode cX8_serves 12 = .ok (.istore_n 3, 1) := by decide +kernel
theorem dX8_serves_13 : decode cX8_serves 13 = .ok (.iload_n 3, 1) := by decide +kernel
theorem dX8_serves_14 : decode cX8_serves 14 = .ok (.bipush 30, 2) := by decide +kernel
theorem dX8_serves_16 : decode cX8_serves 16 = .ok (.if_icmp .ge 7, 3) := by decide +kernel
theorem dX8_serves_19 : decode cX8_serves 19 = .ok (.iconst 0, 1) := by decide +kernel
theorem dX8_serves_20 : decode cX8_serves 20 = .ok (.goto 20, 3) := by decide +kernel
theorem dX8_serves_23 : decode cX8_serves 23 = .ok (.aload_n 0, 1) := by decide +kernel
theorem dX8_serves_24 : decode cX8_serves 24 = .ok (.iload_n 1, 1) := by decide +kernel
theorem dX8_serves_25 : decode cX8_serves 25 = .ok (.invokevirtual 123, 3) := by decide +kernel
theorem dX8_serves_28 : decode cX8_serves 28 = .ok (.iload_n 3, 1) := by decide +kernel
theorem dX8_serves_29 : decode cX8_serves 29 = .ok (.bipush 90, 2) := by decide +kernel
theorem dX8_serves_31 : decode cX8_serves 31 = .ok (.if_icmp .ge 7, 3) := by decide +kernel
theorem dX8_serves_34 : decode cX8_serves 34 = .ok (.iconst 0, 1) := by decide +kernel
theorem dX8_serves_35 : decode cX8_serves 35 = .ok (.goto 4, 3) := by decide +kernel
theorem dX8_serves_38 : decode cX8_serves 38 = .ok (.iconst 1, 1) := by decide +kernel
theorem dX8_serves_39 : decode cX8_serves 39 = .ok (.iadd, 1) := by decide +kernel
theorem dX8_serves_40 : decode cX8_serves 40 = .ok (.istore 4, 2) := by decide +kernel
theorem dX8_serves_42 : decode cX8_serves 42 = .ok (.iload 4, 2) := by decide +kernel
theorem dX8_serves_44 : decode cX8_serves 44 = .ok (.aload_n 0, 1) := by decide +kernel
theorem dX8_serves_45 : decode cX8_serves 45 = .ok (.getfield 9, 3) := by decide +kernel
theorem dX8_serves_48 : decode cX8_serves 48 = .ok (.iconst 3, 1) := by decide +kernel
theorem dX8_serves_49 : decode cX8_serves 49 = .ok (.iaload, 1) := by decide +kernel
theorem dX8_serves_50 : decode cX8_serves 50 = .ok (.imul, 1) := by decide +kernel
theorem dX8_serves_51 : decode cX8_serves 51 = .ok (.bipush 100, 2) := by decide +kernel
theorem dX8_serves_53 : decode cX8_serves 53 = .ok (.idiv, 1) := by decide +kernel
theorem dX8_serves_54 : decode cX8_serves 54 = .ok (.istore 5, 2) := by decide +kernel
theorem dX8_serves_56 : decode cX8_serves 56 = .ok (.aload_n 0, 1) := by decide +kernel
theorem dX8_serves_57 : decode cX8_serves 57 = .ok (.iload_n 1, 1) := by decide +kernel
theorem dX8_serves_58 : decode cX8_serves 58 = .ok (.iconst 5, 1) := by decide +kernel
theorem dX8_serves_59 : decode cX8_serves 59 = .ok (.aload_n 0, 1) := by decide +kernel
theorem dX8_serves_60 : decode cX8_serves 60 = .ok (.iload_n 1, 1) := by decide +kernel
theorem dX8_serves_61 : decode cX8_serves 61 = .ok (.invokevirtual 120, 3) := by decide +kernel
theorem dX8_serves_64 : decode cX8_serves 64 = .ok (.invokevirtual 84, 3) := by decide +kernel
theorem dX8_serves_67 : decode cX8_serves 67 = .ok (.aload_n 0, 1) := by decide +kernel
theorem dX8_serves_68 : decode cX8_serves 68 = .ok (.iload_n 1, 1) := by decide +kernel
theorem dX8_serves_69 : decode cX8_serves 69 = .ok (.bipush 6, 2) := by decide +kernel
theorem dX8_serves_71 : decode cX8_serves 71 = .ok (.aload_n 0, 1) := by decide +kernel
theorem dX8_serves_72 : decode cX8_serves 72 = .ok (.iload_n 1, 1) := by decide +kernel
theorem dX8_serves_73 : decode cX8_serves 73 = .ok (.bipush 6, 2) := by decide +kernel
theorem dX8_serves_75 : decode cX8_serves 75 = .ok (.invokevirtual 102, 3) := by decide +kernel
theorem dX8_serves_78 : decode cX8_serves 78 = .ok (.iconst 1, 1) := by decide +kernel
theorem dX8_serves_79 : decode cX8_serves 79 = .ok (.iadd, 1) := by decide +kernel
theorem dX8_serves_80 : decode cX8_serves 80 = .ok (.invokevirtual 84, 3) := by decide +kernel
theorem dX8_serves_83 : decode cX8_serves 83 = .ok (.aload_n 0, 1) := by decide +kernel
theorem dX8_serves_84 : decode cX8_serves 84 = .ok (.iload_n 1, 1) := by decide +kernel
theorem dX8_serves_85 : decode cX8_serves 85 = .ok (.iconst 4, 1) := by decide +kernel
theorem dX8_serves_86 : decode cX8_serves 86 = .ok (.aload_n 0, 1) := by decide +kernel
theorem dX8_serves_87 : decode cX8_serves 87 = .ok (.iload_n 1, 1) := by decide +kernel
theorem dX8_serves_88 : decode cX8_serves 88 = .ok (.iconst 4, 1) := by decide +kernel
theorem dX8_serves_89 : decode cX8_serves 89 = .ok (.invokevirtual 102, 3) := by decide +kernel
theorem dX8_serves_92 : decode cX8_serves 92 = .ok (.iload 4, 2) := by decide +kernel
theorem dX8_serves_94 : decode cX8_serves 94 = .ok (.iadd, 1) := by decide +kernel
theorem dX8_serves_95 : decode cX8_serves 95 = .ok (.iload 5, 2) := by decide +kernel
theorem dX8_serves_97 : decode cX8_serves 97 = .ok (.isub, 1) := by decide +kernel
theorem dX8_serves_98 : decode cX8_serves 98 = .ok (.invokevirtual 84, 3) := by decide +kernel
theorem dX8_serves_101 : decode cX8_serves 101 = .ok (.aload_n 0, 1) := by decide +kernel
theorem dX8_serves_102 : decode cX8_serves 102 = .ok (.getfield 9, 3) := by decide +kernel
theorem dX8_serves_105 : decode cX8_serves 105 = .ok (.bipush 6, 2) := by decide +kernel
theorem dX8_serves_107 : decode cX8_serves 107 = .ok (.dup2, 1) := by decide +kernel
theorem dX8_serves_108 : decode cX8_serves 108 = .ok (.iaload, 1) := by decide +kernel
theorem dX8_serves_109 : decode cX8_serves 109 = .ok (.iload 5, 2) := by decide +kernel
theorem dX8_serves_111 : decode cX8_serves 111 = .ok (.iadd, 1) := by decide +kernel
theorem dX8_serves_112 : decode cX8_serves 112 = .ok (.iastore, 1) := by decide +kernel
theorem dX8_serves_113 : decode cX8_serves 113 = .ok (.return_, 1) := by decide +kernel
theorem dX8_man_0 : decode cX8_man 0 = .ok (.aload_n 0, 1) := by decide +kernel
theorem dX8_man_1 : decode cX8_man 1 = .ok (.invokevirtual 140, 3) := by decide +kernel
theorem dX8_man_4 : decode cX8_man 4 = .ok (.bipush 10, 2) := by decide +kernel
theorem dX8_man_6 : decode cX8_man 6 = .ok (.irem, 1) := by decide +kernel
theorem dX8_man_7 : decode cX8_man 7 = .ok (.istore_n 1, 1) := by decide +kernel
theorem dX8_man_8 : decode cX8_man 8 = .ok (.aload_n 0, 1) := by decide +kernel
theorem dX8_man_9 : decode cX8_man 9 = .ok (.invokevirtual 140, 3) := by decide +kernel
theorem dX8_man_12 : decode cX8_man 12 = .ok (.bipush 10, 2) := by decide +kernel
theorem dX8_man_14 : decode cX8_man 14 = .ok (.irem, 1) := by decide +kernel
theorem dX8_man_15 : decode cX8_man 15 = .ok (.istore_n 2, 1) := by decide +kernel
theorem dX8_man_16 : decode cX8_man 16 = .ok (.iconst 1, 1) := by decide +kernel
theorem dX8_man_17 : decode cX8_man 17 = .ok (.aload_n 0, 1) := by decide +kernel
theorem dX8_man_18 : decode cX8_man 18 = .ok (.invokevirtual 140, 3) := by decide +kernel
theorem dX8_man_21 : decode cX8_man 21 = .ok (.bipush 9, 2) := by decide +kernel
theorem dX8_man_23 : decode cX8_man 23 = .ok (.irem, 1) := by decide +kernel
theorem dX8_man_24 : decode cX8_man 24 = .ok (.iadd, 1) := by decide +kernel
theorem dX8_man_25 : decode cX8_man 25 = .ok (.istore_n 3, 1) := by decide +kernel
theorem dX8_man_26 : decode cX8_man 26 = .ok (.aload_n 0, 1) := by decide +kernel
theorem dX8_man_27 : decode cX8_man 27 = .ok (.iload_n 1, 1) := by decide +kernel
theorem dX8_man_28 : decode cX8_man 28 = .ok (.iload_n 3, 1) := by decide +kernel
theorem dX8_man_29 : decode cX8_man 29 = .ok (.invokevirtual 147, 3) := by decide +kernel
theorem dX8_man_32 : decode cX8_man 32 = .ok (.istore 4, 2) := by decide +kernel
theorem dX8_man_34 : decode cX8_man 34 = .ok (.iload 4, 2) := by decide +kernel
theorem dX8_man_36 : decode cX8_man 36 = .ok (.ifCond .ge 15, 3) := by decide +kernel
theorem dX8_man_39 : decode cX8_man 39 = .ok (.aload_n 0, 1) := by decide +kernel
theorem dX8_man_40 : decode cX8_man 40 = .ok (.getfield 9, 3) := by decide +kernel
theorem dX8_man_43 : decode cX8_man 43 = .ok (.bipush 7, 2) := by decide +kernel
theorem dX8_man_45 : decode cX8_man 45 = .ok (.dup2, 1) := by decide +kernel
theorem dX8_man_46 : decode cX8_man 46 = .ok (.iaload, 1) := by decide +kernel
theorem dX8_man_47 : decode cX8_man 47 = .ok (.iconst 1, 1) := by decide +kernel
theorem dX8_man_48 : decode cX8_man 48 = .ok (.iadd, 1) := by decide +kernel
theorem dX8_man_49 : decode cX8_man 49 = .ok (.iastore, 1) := by decide +kernel
theorem dX8_man_50 : decode cX8_man 50 = .ok (.return_, 1) := by decide +kernel
theorem dX8_man_51 : decode cX8_man 51 = .ok (.aload_n 0, 1) := by decide +kernel
theorem dX8_man_52 : decode cX8_man 52 = .ok (.iload 4, 2) := by decide +kernel
theorem dX8_man_54 : decode cX8_man 54 = .ok (.iload_n 2, 1) := by decide +kernel
theorem dX8_man_55 : decode cX8_man 55 = .ok (.invokevirtual 150, 3) := by decide +kernel
theorem dX8_man_58 : decode cX8_man 58 = .ok (.return_, 1) := by decide +kernel
theorem dX8_minute_0 : decode cX8_minute 0 = .ok (.iconst 0, 1) := by decide +kernel
theorem dX8_minute_1 : decode cX8_minute 1 = .ok (.istore_n 1, 1) := by decide +kernel
theorem dX8_minute_2 : decode cX8_minute 2 = .ok (.iload_n 1, 1) := by decide +kernel
theorem dX8_minute_3 : decode cX8_minute 3 = .ok (.aload_n 0, 1) := by decide +kernel
theorem dX8_minute_4 : decode cX8_minute 4 = .ok (.getfield 9, 3) := by decide +kernel
theorem dX8_minute_7 : decode cX8_minute 7 = .ok (.iconst 1, 1) := by decide +kernel
theorem dX8_minute_8 : decode cX8_minute 8 = .ok (.iaload, 1) := by decide +kernel
theorem dX8_minute_9 : decode cX8_minute 9 = .ok (.if_icmp .ge 29, 3) := by decide +kernel
theorem dX8_minute_12 : decode cX8_minute 12 = .ok (.aload_n 0, 1) := by decide +kernel
theorem dX8_minute_13 : decode cX8_minute 13 = .ok (.iload_n 1, 1) := by decide +kernel
theorem dX8_minute_14 : decode cX8_minute 14 = .ok (.iconst 5, 1) := by decide +kernel
theorem dX8_minute_15 : decode cX8_minute 15 = .ok (.aload_n 0, 1) := by decide +kernel
theorem dX8_minute_16 : decode cX8_minute 16 = .ok (.iload_n 1, 1) := by decide +kernel
theorem dX8_minute_17 : decode cX8_minute 17 = .ok (.iconst 5, 1) := by decide +kernel
theorem dX8_minute_18 : decode cX8_minute 18 = .ok (.invokevirtual 102, 3) := by decide +kernel
theorem dX8_minute_21 : decode cX8_minute 21 = .ok (.iconst 1, 1) := by decide +kernel
theorem dX8_minute_22 : decode cX8_minute 22 = .ok (.isub, 1) := by decide +kernel
theorem dX8_minute_23 : decode cX8_minute 23 = .ok (.iconst 0, 1) := by decide +kernel
theorem dX8_minute_24 : decode cX8_minute 24 = .ok (.bipush 99, 2) := by decide +kernel
theorem dX8_minute_26 : decode cX8_minute 26 = .ok (.invokestatic 109, 3) := by decide +kernel
theorem dX8_minute_29 : decode cX8_minute 29 = .ok (.invokevirtual 84, 3) := by decide +kernel
theorem dX8_minute_32 : decode cX8_minute 32 = .ok (.iinc 1 1, 3) := by decide +kernel
theorem dX8_minute_35 : decode cX8_minute 35 = .ok (.goto (-33), 3) := by decide +kernel
theorem dX8_minute_38 : decode cX8_minute 38 = .ok (.aload_n 0, 1) := by decide +kernel
theorem dX8_minute_39 : decode cX8_minute 39 = .ok (.getfield 9, 3) := by decide +kernel
theorem dX8_minute_42 : decode cX8_minute 42 = .ok (.iconst 5, 1) := by decide +kernel
theorem dX8_minute_43 : decode cX8_minute 43 = .ok (.iaload, 1) := by decide +kernel
theorem dX8_minute_44 : decode cX8_minute 44 = .ok (.istore_n 1, 1) := by decide +kernel
theorem dX8_minute_45 : decode cX8_minute 45 = .ok (.aload_n 0, 1) := by decide +kernel
theorem dX8_minute_46 : decode cX8_minute 46 = .ok (.invokevirtual 140, 3) := by decide +kernel
theorem dX8_minute_49 : decode cX8_minute 49 = .ok (.bipush 100, 2) := by decide +kernel
theorem dX8_minute_51 : decode cX8_minute 51 = .ok (.irem, 1) := by decide +kernel
theorem dX8_minute_52 : decode cX8_minute 52 = .ok (.aload_n 0, 1) := by decide +kernel
theorem dX8_minute_53 : decode cX8_minute 53 = .ok (.getfield 9, 3) := by decide +kernel
theorem dX8_minute_56 : decode cX8_minute 56 = .ok (.iconst 4, 1) := by decide +kernel
theorem dX8_minute_57 : decode cX8_minute 57 = .ok (.iaload, 1) := by decide +kernel
theorem dX8_minute_58 : decode cX8_minute 58 = .ok (.if_icmp .ge 12, 3) := by decide +kernel
theorem dX8_minute_61 : decode cX8_minute 61 = .ok (.aload_n 0, 1) := by decide +kernel
theorem dX8_minute_62 : decode cX8_minute 62 = .ok (.getfield 9, 3) := by decide +kernel
theorem dX8_minute_65 : decode cX8_minute 65 = .ok (.iconst 5, 1) := by decide +kernel
theorem dX8_minute_66 : decode cX8_minute 66 = .ok (.iconst 1, 1) := by decide +kernel
theorem dX8_minute_67 : decode cX8_minute 67 = .ok (.iload_n 1, 1) := by decide +kernel
theorem dX8_minute_68 : decode cX8_minute 68 = .ok (.isub, 1) := by decide +kernel
theorem dX8_minute_69 : decode cX8_minute 69 = .ok (.iastore, 1) := by decide +kernel
theorem dX8_minute_70 : decode cX8_minute 70 = .ok (.aload_n 0, 1) := by decide +kernel
theorem dX8_minute_71 : decode cX8_minute 71 = .ok (.invokevirtual 140, 3) := by decide +kernel
theorem dX8_minute_74 : decode cX8_minute 74 = .ok (.iconst 3, 1) := by decide +kernel
theorem dX8_minute_75 : decode cX8_minute 75 = .ok (.irem, 1) := by decide +kernel
theorem dX8_minute_76 : decode cX8_minute 76 = .ok (.iload_n 1, 1) := by decide +kernel
theorem dX8_minute_77 : decode cX8_minute 77 = .ok (.iconst 1, 1) := by decide +kernel
theorem dX8_minute_78 : decode cX8_minute 78 = .ok (.if_icmp .ne 7, 3) := by decide +kernel
theorem dX8_minute_81 : decode cX8_minute 81 = .ok (.iconst 2, 1) := by decide +kernel
theorem dX8_minute_82 : decode cX8_minute 82 = .ok (.goto 4, 3) := by decide +kernel
theorem dX8_minute_85 : decode cX8_minute 85 = .ok (.iconst 0, 1) := by decide +kernel
theorem dX8_minute_86 : decode cX8_minute 86 = .ok (.iadd, 1) := by decide +kernel
theorem dX8_minute_87 : decode cX8_minute 87 = .ok (.istore_n 2, 1) := by decide +kernel
theorem dX8_minute_88 : decode cX8_minute 88 = .ok (.iconst 0, 1) := by decide +kernel
theorem dX8_minute_89 : decode cX8_minute 89 = .ok (.istore_n 3, 1) := by decide +kernel
theorem dX8_minute_90 : decode cX8_minute 90 = .ok (.iload_n 3, 1) := by decide +kernel
theorem dX8_minute_91 : decode cX8_minute 91 = .ok (.iload_n 2, 1) := by decide +kernel
theorem dX8_minute_92 : decode cX8_minute 92 = .ok (.if_icmp .ge 22, 3) := by decide +kernel
theorem dX8_minute_95 : decode cX8_minute 95 = .ok (.aload_n 0, 1) := by decide +kernel
theorem dX8_minute_96 : decode cX8_minute 96 = .ok (.getfield 9, 3) := by decide +kernel
theorem dX8_minute_99 : decode cX8_minute 99 = .ok (.iconst 5, 1) := by decide +kernel
theorem dX8_minute_100 : decode cX8_minute 100 = .ok (.iaload, 1) := by decide +kernel
theorem dX8_minute_101 : decode cX8_minute 101 = .ok (.ifCond .ne 13, 3) := by decide +kernel
theorem dX8_minute_104 : decode cX8_minute 104 = .ok (.aload_n 0, 1) := by decide +kernel
theorem dX8_minute_105 : decode cX8_minute 105 = .ok (.invokevirtual 154, 3) := by decide +kernel
theorem dX8_minute_108 : decode cX8_minute 108 = .ok (.iinc 3 1, 3) := by decide +kernel
theorem dX8_minute_111 : decode cX8_minute 111 = .ok (.goto (-21), 3) := by decide +kernel
theorem dX8_minute_114 : decode cX8_minute 114 = .ok (.aload_n 0, 1) := by decide +kernel
theorem dX8_minute_115 : decode cX8_minute 115 = .ok (.getfield 9, 3) := by decide +kernel
theorem dX8_minute_118 : decode cX8_minute 118 = .ok (.iconst 2, 1) := by decide +kernel
theorem dX8_minute_119 : decode cX8_minute 119 = .ok (.dup2, 1) := by decide +kernel
theorem dX8_minute_120 : decode cX8_minute 120 = .ok (.iaload, 1) := by decide +kernel
theorem dX8_minute_121 : decode cX8_minute 121 = .ok (.iconst 1, 1) := by decide +kernel
theorem dX8_minute_122 : decode cX8_minute 122 = .ok (.iadd, 1) := by decide +kernel
theorem dX8_minute_123 : decode cX8_minute 123 = .ok (.iastore, 1) := by decide +kernel
theorem dX8_minute_124 : decode cX8_minute 124 = .ok (.return_, 1) := by decide +kernel
theorem dX8_goesOn_0 : decode cX8_goesOn 0 = .ok (.iconst 0, 1) := by decide +kernel
theorem dX8_goesOn_1 : decode cX8_goesOn 1 = .ok (.istore_n 2, 1) := by decide +kernel
theorem dX8_goesOn_2 : decode cX8_goesOn 2 = .ok (.iload_n 2, 1) := by decide +kernel
theorem dX8_goesOn_3 : decode cX8_goesOn 3 = .ok (.iload_n 1, 1) := by decide +kernel
theorem dX8_goesOn_4 : decode cX8_goesOn 4 = .ok (.if_icmp .ge 13, 3) := by decide +kernel
theorem dX8_goesOn_7 : decode cX8_goesOn 7 = .ok (.aload_n 0, 1) := by decide +kernel
theorem dX8_goesOn_8 : decode cX8_goesOn 8 = .ok (.invokevirtual 157, 3) := by decide +kernel
theorem dX8_goesOn_11 : decode cX8_goesOn 11 = .ok (.iinc 2 1, 3) := by decide +kernel
theorem dX8_goesOn_14 : decode cX8_goesOn 14 = .ok (.goto (-12), 3) := by decide +kernel
theorem dX8_goesOn_17 : decode cX8_goesOn 17 = .ok (.return_, 1) := by decide +kernel
theorem dX8_sumOf_0 : decode cX8_sumOf 0 = .ok (.iconst 0, 1) := by decide +kernel
theorem dX8_sumOf_1 : decode cX8_sumOf 1 = .ok (.istore_n 2, 1) := by decide +kernel
theorem dX8_sumOf_2 : decode cX8_sumOf 2 = .ok (.iconst 0, 1) := by decide +kernel
theorem dX8_sumOf_3 : decode cX8_sumOf 3 = .ok (.istore_n 3, 1) := by decide +kernel
theorem dX8_sumOf_4 : decode cX8_sumOf 4 = .ok (.iload_n 3, 1) := by decide +kernel
theorem dX8_sumOf_5 : decode cX8_sumOf 5 = .ok (.aload_n 0, 1) := by decide +kernel
theorem dX8_sumOf_6 : decode cX8_sumOf 6 = .ok (.getfield 9, 3) := by decide +kernel
theorem dX8_sumOf_9 : decode cX8_sumOf 9 = .ok (.iconst 1, 1) := by decide +kernel
theorem dX8_sumOf_10 : decode cX8_sumOf 10 = .ok (.iaload, 1) := by decide +kernel
theorem dX8_sumOf_11 : decode cX8_sumOf 11 = .ok (.if_icmp .ge 18, 3) := by decide +kernel
theorem dX8_sumOf_14 : decode cX8_sumOf 14 = .ok (.iload_n 2, 1) := by decide +kernel
theorem dX8_sumOf_15 : decode cX8_sumOf 15 = .ok (.aload_n 0, 1) := by decide +kernel
theorem dX8_sumOf_16 : decode cX8_sumOf 16 = .ok (.iload_n 3, 1) := by decide +kernel
theorem dX8_sumOf_17 : decode cX8_sumOf 17 = .ok (.iload_n 1, 1) := by decide +kernel
theorem dX8_sumOf_18 : decode cX8_sumOf 18 = .ok (.invokevirtual 102, 3) := by decide +kernel
theorem dX8_sumOf_21 : decode cX8_sumOf 21 = .ok (.iadd, 1) := by decide +kernel
theorem dX8_sumOf_22 : decode cX8_sumOf 22 = .ok (.istore_n 2, 1) := by decide +kernel
theorem dX8_sumOf_23 : decode cX8_sumOf 23 = .ok (.iinc 3 1, 3) := by decide +kernel
theorem dX8_sumOf_26 : decode cX8_sumOf 26 = .ok (.goto (-22), 3) := by decide +kernel
theorem dX8_sumOf_29 : decode cX8_sumOf 29 = .ok (.iload_n 2, 1) := by decide +kernel
theorem dX8_sumOf_30 : decode cX8_sumOf 30 = .ok (.ireturn, 1) := by decide +kernel
theorem dX8_minutes_0 : decode cX8_minutes 0 = .ok (.iload_n 1, 1) := by decide +kernel
theorem dX8_minutes_1 : decode cX8_minutes 1 = .ok (.iconst 1, 1) := by decide +kernel
theorem dX8_minutes_2 : decode cX8_minutes 2 = .ok (.sipush 300, 3) := by decide +kernel
theorem dX8_minutes_5 : decode cX8_minutes 5 = .ok (.invokestatic 80, 3) := by decide +kernel
theorem dX8_minutes_8 : decode cX8_minutes 8 = .ok (.ifCond .ne 6, 3) := by decide +kernel
theorem dX8_minutes_11 : decode cX8_minutes 11 = .ok (.ldc 92, 2) := by decide +kernel
theorem dX8_minutes_13 : decode cX8_minutes 13 = .ok (.ireturn, 1) := by decide +kernel
theorem dX8_minutes_14 : decode cX8_minutes 14 = .ok (.aload_n 0, 1) := by decide +kernel
theorem dX8_minutes_15 : decode cX8_minutes 15 = .ok (.bipush 6, 2) := by decide +kernel
theorem dX8_minutes_17 : decode cX8_minutes 17 = .ok (.invokevirtual 160, 3) := by decide +kernel
theorem dX8_minutes_20 : decode cX8_minutes 20 = .ok (.istore_n 2, 1) := by decide +kernel
theorem dX8_minutes_21 : decode cX8_minutes 21 = .ok (.aload_n 0, 1) := by decide +kernel
theorem dX8_minutes_22 : decode cX8_minutes 22 = .ok (.sipush 9999, 3) := by decide +kernel
theorem dX8_minutes_25 : decode cX8_minutes 25 = .ok (.aload_n 0, 1) := by decide +kernel
theorem dX8_minutes_26 : decode cX8_minutes 26 = .ok (.getfield 9, 3) := by decide +kernel
theorem dX8_minutes_29 : decode cX8_minutes 29 = .ok (.iconst 2, 1) := by decide +kernel
theorem dX8_minutes_30 : decode cX8_minutes 30 = .ok (.iaload, 1) := by decide +kernel
theorem dX8_minutes_31 : decode cX8_minutes 31 = .ok (.isub, 1) := by decide +kernel
theorem dX8_minutes_32 : decode cX8_minutes 32 = .ok (.iconst 0, 1) := by decide +kernel
theorem dX8_minutes_33 : decode cX8_minutes 33 = .ok (.iload_n 1, 1) := by decide +kernel
theorem dX8_minutes_34 : decode cX8_minutes 34 = .ok (.invokestatic 109, 3) := by decide +kernel
theorem dX8_minutes_37 : decode cX8_minutes 37 = .ok (.invokevirtual 163, 3) := by decide +kernel
theorem dX8_minutes_40 : decode cX8_minutes 40 = .ok (.aload_n 0, 1) := by decide +kernel
theorem dX8_minutes_41 : decode cX8_minutes 41 = .ok (.bipush 6, 2) := by decide +kernel
theorem dX8_minutes_43 : decode cX8_minutes 43 = .ok (.invokevirtual 160, 3) := by decide +kernel
theorem dX8_minutes_46 : decode cX8_minutes 46 = .ok (.iload_n 2, 1) := by decide +kernel
theorem dX8_minutes_47 : decode cX8_minutes 47 = .ok (.isub, 1) := by decide +kernel
theorem dX8_minutes_48 : decode cX8_minutes 48 = .ok (.ireturn, 1) := by decide +kernel
theorem dX8_busy_0 : decode cX8_busy 0 = .ok (.iconst 0, 1) := by decide +kernel
theorem dX8_busy_1 : decode cX8_busy 1 = .ok (.istore_n 1, 1) := by decide +kernel
theorem dX8_busy_2 : decode cX8_busy 2 = .ok (.iconst 0, 1) := by decide +kernel
theorem dX8_busy_3 : decode cX8_busy 3 = .ok (.istore_n 2, 1) := by decide +kernel
theorem dX8_busy_4 : decode cX8_busy 4 = .ok (.iload_n 2, 1) := by decide +kernel
theorem dX8_busy_5 : decode cX8_busy 5 = .ok (.aload_n 0, 1) := by decide +kernel
theorem dX8_busy_6 : decode cX8_busy 6 = .ok (.getfield 9, 3) := by decide +kernel
theorem dX8_busy_9 : decode cX8_busy 9 = .ok (.iconst 1, 1) := by decide +kernel
theorem dX8_busy_10 : decode cX8_busy 10 = .ok (.iaload, 1) := by decide +kernel
theorem dX8_busy_11 : decode cX8_busy 11 = .ok (.if_icmp .ge 28, 3) := by decide +kernel
theorem dX8_busy_14 : decode cX8_busy 14 = .ok (.iload_n 1, 1) := by decide +kernel
theorem dX8_busy_15 : decode cX8_busy 15 = .ok (.aload_n 0, 1) := by decide +kernel
theorem dX8_busy_16 : decode cX8_busy 16 = .ok (.iload_n 2, 1) := by decide +kernel
theorem dX8_busy_17 : decode cX8_busy 17 = .ok (.iconst 5, 1) := by decide +kernel
theorem dX8_busy_18 : decode cX8_busy 18 = .ok (.invokevirtual 102, 3) := by decide +kernel
theorem dX8_busy_21 : decode cX8_busy 21 = .ok (.ifCond .le 9, 3) := by decide +kernel
theorem dX8_busy_24 : decode cX8_busy 24 = .ok (.iconst 1, 1) := by decide +kernel
theorem dX8_busy_25 : decode cX8_busy 25 = .ok (.iload_n 2, 1) := by decide +kernel
theorem dX8_busy_26 : decode cX8_busy 26 = .ok (.ishl, 1) := by decide +kernel
theorem dX8_busy_27 : decode cX8_busy 27 = .ok (.goto 4, 3) := by decide +kernel
theorem dX8_busy_30 : decode cX8_busy 30 = .ok (.iconst 0, 1) := by decide +kernel
theorem dX8_busy_31 : decode cX8_busy 31 = .ok (.ior, 1) := by decide +kernel
theorem dX8_busy_32 : decode cX8_busy 32 = .ok (.istore_n 1, 1) := by decide +kernel
theorem dX8_busy_33 : decode cX8_busy 33 = .ok (.iinc 2 1, 3) := by decide +kernel
theorem dX8_busy_36 : decode cX8_busy 36 = .ok (.goto (-32), 3) := by decide +kernel
theorem dX8_busy_39 : decode cX8_busy 39 = .ok (.iload_n 1, 1) := by decide +kernel
theorem dX8_busy_40 : decode cX8_busy 40 = .ok (.ireturn, 1) := by decide +kernel
theorem dX8_street_0 : decode cX8_street 0 = .ok (.iload_n 1, 1) := by decide +kernel
theorem dX8_street_1 : decode cX8_street 1 = .ok (.tableswitch 69 0 4 #[35, 41, 49, 57, 64], 35) := by decide +kernel
theorem dX8_street_36 : decode cX8_street 36 = .ok (.aload_n 0, 1) := by decide +kernel
theorem dX8_street_37 : decode cX8_street 37 = .ok (.iconst 4, 1) := by decide +kernel
theorem dX8_street_38 : decode cX8_street 38 = .ok (.invokevirtual 160, 3) := by decide +kernel
theorem dX8_street_41 : decode cX8_street 41 = .ok (.ireturn, 1) := by decide +kernel
theorem dX8_street_42 : decode cX8_street 42 = .ok (.aload_n 0, 1) := by decide +kernel
theorem dX8_street_43 : decode cX8_street 43 = .ok (.getfield 9, 3) := by decide +kernel
theorem dX8_street_46 : decode cX8_street 46 = .ok (.bipush 6, 2) := by decide +kernel
theorem dX8_street_48 : decode cX8_street 48 = .ok (.iaload, 1) := by decide +kernel
theorem dX8_street_49 : decode cX8_street 49 = .ok (.ireturn, 1) := by decide +kernel
theorem dX8_street_50 : decode cX8_street 50 = .ok (.aload_n 0, 1) := by decide +kernel
theorem dX8_street_51 : decode cX8_street 51 = .ok (.getfield 9, 3) := by decide +kernel
theorem dX8_street_54 : decode cX8_street 54 = .ok (.bipush 7, 2) := by decide +kernel
theorem dX8_street_56 : decode cX8_street 56 = .ok (.iaload, 1) := by decide +kernel
theorem dX8_street_57 : decode cX8_street 57 = .ok (.ireturn, 1) := by decide +kernel
theorem dX8_street_58 : decode cX8_street 58 = .ok (.aload_n 0, 1) := by decide +kernel
theorem dX8_street_59 : decode cX8_street 59 = .ok (.bipush 6, 2) := by decide +kernel
theorem dX8_street_61 : decode cX8_street 61 = .ok (.invokevirtual 160, 3) := by decide +kernel
theorem dX8_street_64 : decode cX8_street 64 = .ok (.ireturn, 1) := by decide +kernel
theorem dX8_street_65 : decode cX8_street 65 = .ok (.aload_n 0, 1) := by decide +kernel
theorem dX8_street_66 : decode cX8_street 66 = .ok (.invokevirtual 167, 3) := by decide +kernel
theorem dX8_street_69 : decode cX8_street 69 = .ok (.ireturn, 1) := by decide +kernel
theorem dX8_street_70 : decode cX8_street 70 = .ok (.ldc 92, 2) := by decide +kernel
theorem dX8_street_72 : decode cX8_street 72 = .ok (.ireturn, 1) := by decide +kernel
theorem dX8_goesTo_0 : decode cX8_goesTo 0 = .ok (.iload_n 1, 1) := by decide +kernel
theorem dX8_goesTo_1 : decode cX8_goesTo 1 = .ok (.iconst 0, 1) := by decide +kernel
theorem dX8_goesTo_2 : decode cX8_goesTo 2 = .ok (.bipush 9, 2) := by decide +kernel
theorem dX8_goesTo_4 : decode cX8_goesTo 4 = .ok (.invokestatic 80, 3) := by decide +kernel
theorem dX8_goesTo_7 : decode cX8_goesTo 7 = .ok (.ifCond .eq 25, 3) := by decide +kernel
theorem dX8_goesTo_10 : decode cX8_goesTo 10 = .ok (.iload_n 2, 1) := by decide +kernel
theorem dX8_goesTo_11 : decode cX8_goesTo 11 = .ok (.iconst 1, 1) := by decide +kernel
theorem dX8_goesTo_12 : decode cX8_goesTo 12 = .ok (.bipush 9, 2) := by decide +kernel
theorem dX8_goesTo_14 : decode cX8_goesTo 14 = .ok (.invokestatic 80, 3) := by decide +kernel
theorem dX8_goesTo_17 : decode cX8_goesTo 17 = .ok (.ifCond .eq 15, 3) := by decide +kernel
theorem dX8_goesTo_20 : decode cX8_goesTo 20 = .ok (.aload_n 0, 1) := by decide +kernel
theorem dX8_goesTo_21 : decode cX8_goesTo 21 = .ok (.iload_n 1, 1) := by decide +kernel
theorem dX8_goesTo_22 : decode cX8_goesTo 22 = .ok (.iload_n 2, 1) := by decide +kernel
theorem dX8_goesTo_23 : decode cX8_goesTo 23 = .ok (.invokevirtual 147, 3) := by decide +kernel
theorem dX8_goesTo_26 : decode cX8_goesTo 26 = .ok (.invokestatic 170, 3) := by decide +kernel
theorem dX8_goesTo_29 : decode cX8_goesTo 29 = .ok (.goto 5, 3) := by decide +kernel
theorem dX8_goesTo_32 : decode cX8_goesTo 32 = .ok (.ldc 92, 2) := by decide +kernel
theorem dX8_goesTo_34 : decode cX8_goesTo 34 = .ok (.ireturn, 1) := by decide +kernel
theorem dX8_thinks_0 : decode cX8_thinks 0 = .ok (.iconst 0, 1) := by decide +kernel
theorem dX8_thinks_1 : decode cX8_thinks 1 = .ok (.istore_n 1, 1) := by decide +kernel
theorem dX8_thinks_2 : decode cX8_thinks 2 = .ok (.iload_n 1, 1) := by decide +kernel
theorem dX8_thinks_3 : decode cX8_thinks 3 = .ok (.bipush 65, 2) := by decide +kernel
theorem dX8_thinks_5 : decode cX8_thinks 5 = .ok (.if_icmp .ge 21, 3) := by decide +kernel
theorem dX8_thinks_8 : decode cX8_thinks 8 = .ok (.aload_n 0, 1) := by decide +kernel
theorem dX8_thinks_9 : decode cX8_thinks 9 = .ok (.getfield 23, 3) := by decide +kernel
theorem dX8_thinks_12 : decode cX8_thinks 12 = .ok (.iload_n 1, 1) := by decide +kernel
theorem dX8_thinks_13 : decode cX8_thinks 13 = .ok (.aload_n 0, 1) := by decide +kernel
theorem dX8_thinks_14 : decode cX8_thinks 14 = .ok (.getfield 9, 3) := by decide +kernel
theorem dX8_thinks_17 : decode cX8_thinks 17 = .ok (.iload_n 1, 1) := by decide +kernel
theorem dX8_thinks_18 : decode cX8_thinks 18 = .ok (.iaload, 1) := by decide +kernel
theorem dX8_thinks_19 : decode cX8_thinks 19 = .ok (.iastore, 1) := by decide +kernel
theorem dX8_thinks_20 : decode cX8_thinks 20 = .ok (.iinc 1 1, 3) := by decide +kernel
theorem dX8_thinks_23 : decode cX8_thinks 23 = .ok (.goto (-21), 3) := by decide +kernel
theorem dX8_thinks_26 : decode cX8_thinks 26 = .ok (.return_, 1) := by decide +kernel
theorem dX8_putsBack_0 : decode cX8_putsBack 0 = .ok (.iconst 0, 1) := by decide +kernel
theorem dX8_putsBack_1 : decode cX8_putsBack 1 = .ok (.istore_n 1, 1) := by decide +kernel
theorem dX8_putsBack_2 : decode cX8_putsBack 2 = .ok (.iload_n 1, 1) := by decide +kernel
theorem dX8_putsBack_3 : decode cX8_putsBack 3 = .ok (.bipush 65, 2) := by decide +kernel
theorem dX8_putsBack_5 : decode cX8_putsBack 5 = .ok (.if_icmp .ge 21, 3) := by decide +kernel
theorem dX8_putsBack_8 : decode cX8_putsBack 8 = .ok (.aload_n 0, 1) := by decide +kernel
theorem dX8_putsBack_9 : decode cX8_putsBack 9 = .ok (.getfield 9, 3) := by decide +kernel
theorem dX8_putsBack_12 : decode cX8_putsBack 12 = .ok (.iload_n 1, 1) := by decide +kernel
theorem dX8_putsBack_13 : decode cX8_putsBack 13 = .ok (.aload_n 0, 1) := by decide +kernel
theorem dX8_putsBack_14 : decode cX8_putsBack 14 = .ok (.getfield 23, 3) := by decide +kernel
theorem dX8_putsBack_17 : decode cX8_putsBack 17 = .ok (.iload_n 1, 1) := by decide +kernel
theorem dX8_putsBack_18 : decode cX8_putsBack 18 = .ok (.iaload, 1) := by decide +kernel
theorem dX8_putsBack_19 : decode cX8_putsBack 19 = .ok (.iastore, 1) := by decide +kernel
theorem dX8_putsBack_20 : decode cX8_putsBack 20 = .ok (.iinc 1 1, 3) := by decide +kernel
theorem dX8_putsBack_23 : decode cX8_putsBack 23 = .ok (.goto (-21), 3) := by decide +kernel
theorem dX8_putsBack_26 : decode cX8_putsBack 26 = .ok (.aload_n 0, 1) := by decide +kernel
theorem dX8_putsBack_27 : decode cX8_putsBack 27 = .ok (.iconst (-1), 1) := by decide +kernel
theorem dX8_putsBack_28 : decode cX8_putsBack 28 = .ok (.putfield 19, 3) := by decide +kernel
theorem dX8_putsBack_31 : decode cX8_putsBack 31 = .ok (.return_, 1) := by decide +kernel
theorem dX8_behind_0 : decode cX8_behind 0 = .ok (.iload_n 1, 1) := by decide +kernel
theorem dX8_behind_1 : decode cX8_behind 1 = .ok (.iconst 0, 1) := by decide +kernel
theorem dX8_behind_2 : decode cX8_behind 2 = .ok (.sipush 300, 3) := by decide +kernel
theorem dX8_behind_5 : decode cX8_behind 5 = .ok (.invokestatic 80, 3) := by decide +kernel
theorem dX8_behind_8 : decode cX8_behind 8 = .ok (.ifCond .eq 22, 3) := by decide +kernel
theorem dX8_behind_11 : decode cX8_behind 11 = .ok (.iload_n 2, 1) := by decide +kernel
theorem dX8_behind_12 : decode cX8_behind 12 = .ok (.ifCond .lt 18, 3) := by decide +kernel
theorem dX8_behind_15 : decode cX8_behind 15 = .ok (.iload_n 2, 1) := by decide +kernel
theorem dX8_behind_16 : decode cX8_behind 16 = .ok (.iconst 2, 1) := by decide +kernel
theorem dX8_behind_17 : decode cX8_behind 17 = .ok (.if_icmp .le 16, 3) := by decide +kernel
theorem dX8_behind_20 : decode cX8_behind 20 = .ok (.aload_n 0, 1) := by decide +kernel
theorem dX8_behind_21 : decode cX8_behind 21 = .ok (.iload_n 2, 1) := by decide +kernel
theorem dX8_behind_22 : decode cX8_behind 22 = .ok (.iconst 3, 1) := by decide +kernel
theorem dX8_behind_23 : decode cX8_behind 23 = .ok (.isub, 1) := by decide +kernel
theorem dX8_behind_24 : decode cX8_behind 24 = .ok (.invokevirtual 116, 3) := by decide +kernel
theorem dX8_behind_27 : decode cX8_behind 27 = .ok (.ifCond .ne 6, 3) := by decide +kernel
theorem dX8_behind_30 : decode cX8_behind 30 = .ok (.ldc 92, 2) := by decide +kernel
theorem dX8_behind_32 : decode cX8_behind 32 = .ok (.ireturn, 1) := by decide +kernel
theorem dX8_behind_33 : decode cX8_behind 33 = .ok (.aload_n 0, 1) := by decide +kernel
theorem dX8_behind_34 : decode cX8_behind 34 = .ok (.invokevirtual 173, 3) := by decide +kernel
theorem dX8_behind_37 : decode cX8_behind 37 = .ok (.aload_n 0, 1) := by decide +kernel
theorem dX8_behind_38 : decode cX8_behind 38 = .ok (.iload_n 1, 1) := by decide +kernel
theorem dX8_behind_39 : decode cX8_behind 39 = .ok (.invokevirtual 163, 3) := by decide +kernel
theorem dX8_behind_42 : decode cX8_behind 42 = .ok (.iload_n 2, 1) := by decide +kernel
theorem dX8_behind_43 : decode cX8_behind 43 = .ok (.iconst 2, 1) := by decide +kernel
theorem dX8_behind_44 : decode cX8_behind 44 = .ok (.if_icmp .le 14, 3) := by decide +kernel
theorem dX8_behind_47 : decode cX8_behind 47 = .ok (.aload_n 0, 1) := by decide +kernel
theorem dX8_behind_48 : decode cX8_behind 48 = .ok (.iload_n 2, 1) := by decide +kernel
theorem dX8_behind_49 : decode cX8_behind 49 = .ok (.iconst 3, 1) := by decide +kernel
theorem dX8_behind_50 : decode cX8_behind 50 = .ok (.isub, 1) := by decide +kernel
theorem dX8_behind_51 : decode cX8_behind 51 = .ok (.iconst 4, 1) := by decide +kernel
theorem dX8_behind_52 : decode cX8_behind 52 = .ok (.invokevirtual 102, 3) := by decide +kernel
theorem dX8_behind_55 : decode cX8_behind 55 = .ok (.goto 8, 3) := by decide +kernel
theorem dX8_behind_58 : decode cX8_behind 58 = .ok (.aload_n 0, 1) := by decide +kernel
theorem dX8_behind_59 : decode cX8_behind 59 = .ok (.iload_n 2, 1) := by decide +kernel
theorem dX8_behind_60 : decode cX8_behind 60 = .ok (.invokevirtual 176, 3) := by decide +kernel
theorem dX8_behind_63 : decode cX8_behind 63 = .ok (.istore_n 3, 1) := by decide +kernel
theorem dX8_behind_64 : decode cX8_behind 64 = .ok (.aload_n 0, 1) := by decide +kernel
theorem dX8_behind_65 : decode cX8_behind 65 = .ok (.invokevirtual 179, 3) := by decide +kernel
theorem dX8_behind_68 : decode cX8_behind 68 = .ok (.iload_n 3, 1) := by decide +kernel
theorem dX8_behind_69 : decode cX8_behind 69 = .ok (.ireturn, 1) := by decide +kernel
theorem dX8_best_0 : decode cX8_best 0 = .ok (.aload_n 0, 1) := by decide +kernel
theorem dX8_best_1 : decode cX8_best 1 = .ok (.iload_n 1, 1) := by decide +kernel
theorem dX8_best_2 : decode cX8_best 2 = .ok (.invokevirtual 116, 3) := by decide +kernel
theorem dX8_best_5 : decode cX8_best 5 = .ok (.ifCond .eq 32, 3) := by decide +kernel
theorem dX8_best_8 : decode cX8_best 8 = .ok (.iload_n 2, 1) := by decide +kernel
theorem dX8_best_9 : decode cX8_best 9 = .ok (.iconst 0, 1) := by decide +kernel
theorem dX8_best_10 : decode cX8_best 10 = .ok (.iconst 2, 1) := by decide +kernel
theorem dX8_best_11 : decode cX8_best 11 = .ok (.invokestatic 80, 3) := by decide +kernel
theorem dX8_best_14 : decode cX8_best 14 = .ok (.ifCond .eq 23, 3) := by decide +kernel
theorem dX8_best_17 : decode cX8_best 17 = .ok (.iload_n 3, 1) := by decide +kernel
theorem dX8_best_18 : decode cX8_best 18 = .ok (.iconst 1, 1) := by decide +kernel
theorem dX8_best_19 : decode cX8_best 19 = .ok (.bipush 60, 2) := by decide +kernel
theorem dX8_best_21 : decode cX8_best 21 = .ok (.invokestatic 80, 3) := by decide +kernel
theorem dX8_best_24 : decode cX8_best 24 = .ok (.ifCond .eq 13, 3) := by decide +kernel
theorem dX8_best_27 : decode cX8_best 27 = .ok (.iload 4, 2) := by decide +kernel
theorem dX8_best_29 : decode cX8_best 29 = .ok (.iconst 0, 1) := by decide +kernel
theorem dX8_best_30 : decode cX8_best 30 = .ok (.iconst 1, 1) := by decide +kernel
theorem dX8_best_31 : decode cX8_best 31 = .ok (.invokestatic 80, 3) := by decide +kernel
theorem dX8_best_34 : decode cX8_best 34 = .ok (.ifCond .ne 6, 3) := by decide +kernel
theorem dX8_best_37 : decode cX8_best 37 = .ok (.ldc 92, 2) := by decide +kernel
theorem dX8_best_39 : decode cX8_best 39 = .ok (.ireturn, 1) := by decide +kernel
theorem dX8_best_40 : decode cX8_best 40 = .ok (.aload_n 0, 1) := by decide +kernel
theorem dX8_best_41 : decode cX8_best 41 = .ok (.invokevirtual 173, 3) := by decide +kernel
theorem dX8_best_44 : decode cX8_best 44 = .ok (.iload_n 2, 1) := by decide +kernel
theorem dX8_best_45 : decode cX8_best 45 = .ok (.ifCond .ne 7, 3) := by decide +kernel
theorem dX8_best_48 : decode cX8_best 48 = .ok (.iconst 3, 1) := by decide +kernel
theorem dX8_best_49 : decode cX8_best 49 = .ok (.goto 13, 3) := by decide +kernel
theorem dX8_best_52 : decode cX8_best 52 = .ok (.iload_n 2, 1) := by decide +kernel
theorem dX8_best_53 : decode cX8_best 53 = .ok (.iconst 1, 1) := by decide +kernel
theorem dX8_best_54 : decode cX8_best 54 = .ok (.if_icmp .ne 7, 3) := by decide +kernel
theorem dX8_best_57 : decode cX8_best 57 = .ok (.iconst 1, 1) := by decide +kernel
theorem dX8_best_58 : decode cX8_best 58 = .ok (.goto 4, 3) := by decide +kernel
theorem dX8_best_61 : decode cX8_best 61 = .ok (.iconst 2, 1) := by decide +kernel
theorem dX8_best_62 : decode cX8_best 62 = .ok (.istore 5, 2) := by decide +kernel
theorem dX8_best_64 : decode cX8_best 64 = .ok (.iload_n 2, 1) := by decide +kernel
theorem dX8_best_65 : decode cX8_best 65 = .ok (.ifCond .ne 8, 3) := by decide +kernel
theorem dX8_best_68 : decode cX8_best 68 = .ok (.bipush 20, 2) := by decide +kernel
theorem dX8_best_70 : decode cX8_best 70 = .ok (.goto 15, 3) := by decide +kernel
theorem dX8_best_73 : decode cX8_best 73 = .ok (.iload_n 2, 1) := by decide +kernel
theorem dX8_best_74 : decode cX8_best 74 = .ok (.iconst 1, 1) := by decide +kernel
theorem dX8_best_75 : decode cX8_best 75 = .ok (.if_icmp .ne 8, 3) := by decide +kernel
theorem dX8_best_78 : decode cX8_best 78 = .ok (.bipush 9, 2) := by decide +kernel
theorem dX8_best_80 : decode cX8_best 80 = .ok (.goto 5, 3) := by decide +kernel
theorem dX8_best_83 : decode cX8_best 83 = .ok (.bipush 40, 2) := by decide +kernel
theorem dX8_best_85 : decode cX8_best 85 = .ok (.istore 6, 2) := by decide +kernel
theorem dX8_best_87 : decode cX8_best 87 = .ok (.iconst (-1), 1) := by decide +kernel
theorem dX8_best_88 : decode cX8_best 88 = .ok (.istore 7, 2) := by decide +kernel
theorem dX8_best_90 : decode cX8_best 90 = .ok (.iconst 0, 1) := by decide +kernel
theorem dX8_best_91 : decode cX8_best 91 = .ok (.istore 8, 2) := by decide +kernel
theorem dX8_best_93 : decode cX8_best 93 = .ok (.iload_n 2, 1) := by decide +kernel
theorem dX8_best_94 : decode cX8_best 94 = .ok (.iconst 1, 1) := by decide +kernel
theorem dX8_best_95 : decode cX8_best 95 = .ok (.if_icmp .ne 7, 3) := by decide +kernel
theorem dX8_best_98 : decode cX8_best 98 = .ok (.iconst 0, 1) := by decide +kernel
theorem dX8_best_99 : decode cX8_best 99 = .ok (.goto 4, 3) := by decide +kernel
theorem dX8_best_102 : decode cX8_best 102 = .ok (.iconst 1, 1) := by decide +kernel
theorem dX8_best_103 : decode cX8_best 103 = .ok (.istore 9, 2) := by decide +kernel
theorem dX8_best_105 : decode cX8_best 105 = .ok (.iload 9, 2) := by decide +kernel
theorem dX8_best_107 : decode cX8_best 107 = .ok (.iload 6, 2) := by decide +kernel
theorem dX8_best_109 : decode cX8_best 109 = .ok (.if_icmp .gt 55, 3) := by decide +kernel
theorem dX8_best_112 : decode cX8_best 112 = .ok (.aload_n 0, 1) := by decide +kernel
theorem dX8_best_113 : decode cX8_best 113 = .ok (.iload_n 1, 1) := by decide +kernel
theorem dX8_best_114 : decode cX8_best 114 = .ok (.iload 5, 2) := by decide +kernel
theorem dX8_best_116 : decode cX8_best 116 = .ok (.iload 9, 2) := by decide +kernel
theorem dX8_best_118 : decode cX8_best 118 = .ok (.invokevirtual 84, 3) := by decide +kernel
theorem dX8_best_121 : decode cX8_best 121 = .ok (.aload_n 0, 1) := by decide +kernel
theorem dX8_best_122 : decode cX8_best 122 = .ok (.iload_n 3, 1) := by decide +kernel
theorem dX8_best_123 : decode cX8_best 123 = .ok (.invokevirtual 163, 3) := by decide +kernel
theorem dX8_best_126 : decode cX8_best 126 = .ok (.aload_n 0, 1) := by decide +kernel
theorem dX8_best_127 : decode cX8_best 127 = .ok (.iload_n 1, 1) := by decide +kernel
theorem dX8_best_128 : decode cX8_best 128 = .ok (.iconst 4, 1) := by decide +kernel
theorem dX8_best_129 : decode cX8_best 129 = .ok (.invokevirtual 102, 3) := by decide +kernel
theorem dX8_best_132 : decode cX8_best 132 = .ok (.istore 10, 2) := by decide +kernel
theorem dX8_best_134 : decode cX8_best 134 = .ok (.aload_n 0, 1) := by decide +kernel
theorem dX8_best_135 : decode cX8_best 135 = .ok (.invokevirtual 179, 3) := by decide +kernel
theorem dX8_best_138 : decode cX8_best 138 = .ok (.iload 7, 2) := by decide +kernel
theorem dX8_best_140 : decode cX8_best 140 = .ok (.ifCond .lt 10, 3) := by decide +kernel
theorem dX8_best_143 : decode cX8_best 143 = .ok (.iload 10, 2) := by decide +kernel
theorem dX8_best_145 : decode cX8_best 145 = .ok (.iload 8, 2) := by decide +kernel
theorem dX8_best_147 : decode cX8_best 147 = .ok (.if_icmp .le 11, 3) := by decide +kernel
theorem dX8_best_150 : decode cX8_best 150 = .ok (.iload 9, 2) := by decide +kernel
theorem dX8_best_152 : decode cX8_best 152 = .ok (.istore 7, 2) := by decide +kernel
theorem dX8_best_154 : decode cX8_best 154 = .ok (.iload 10, 2) := by decide +kernel
theorem dX8_best_156 : decode cX8_best 156 = .ok (.istore 8, 2) := by decide +kernel
theorem dX8_best_158 : decode cX8_best 158 = .ok (.iinc 9 1, 3) := by decide +kernel
theorem dX8_best_161 : decode cX8_best 161 = .ok (.goto (-56), 3) := by decide +kernel
theorem dX8_best_164 : decode cX8_best 164 = .ok (.iload 4, 2) := by decide +kernel
theorem dX8_best_166 : decode cX8_best 166 = .ok (.ifCond .ne 8, 3) := by decide +kernel
theorem dX8_best_169 : decode cX8_best 169 = .ok (.iload 7, 2) := by decide +kernel
theorem dX8_best_171 : decode cX8_best 171 = .ok (.goto 5, 3) := by decide +kernel
theorem dX8_best_174 : decode cX8_best 174 = .ok (.iload 8, 2) := by decide +kernel
theorem dX8_best_176 : decode cX8_best 176 = .ok (.ireturn, 1) := by decide +kernel
theorem dX8_bestShare_0 : decode cX8_bestShare 0 = .ok (.iload_n 1, 1) := by decide +kernel
theorem dX8_bestShare_1 : decode cX8_bestShare 1 = .ok (.iconst 1, 1) := by decide +kernel
theorem dX8_bestShare_2 : decode cX8_bestShare 2 = .ok (.bipush 60, 2) := by decide +kernel
theorem dX8_bestShare_4 : decode cX8_bestShare 4 = .ok (.invokestatic 80, 3) := by decide +kernel
theorem dX8_bestShare_7 : decode cX8_bestShare 7 = .ok (.ifCond .eq 12, 3) := by decide +kernel
theorem dX8_bestShare_10 : decode cX8_bestShare 10 = .ok (.iload_n 2, 1) := by decide +kernel
theorem dX8_bestShare_11 : decode cX8_bestShare 11 = .ok (.iconst 0, 1) := by decide +kernel
theorem dX8_bestShare_12 : decode cX8_bestShare 12 = .ok (.iconst 1, 1) := by decide +kernel
theorem dX8_bestShare_13 : decode cX8_bestShare 13 = .ok (.invokestatic 80, 3) := by decide +kernel
theorem dX8_bestShare_16 : decode cX8_bestShare 16 = .ok (.ifCond .ne 6, 3) := by decide +kernel
theorem dX8_bestShare_19 : decode cX8_bestShare 19 = .ok (.ldc 92, 2) := by decide +kernel
theorem dX8_bestShare_21 : decode cX8_bestShare 21 = .ok (.ireturn, 1) := by decide +kernel
theorem dX8_bestShare_22 : decode cX8_bestShare 22 = .ok (.aload_n 0, 1) := by decide +kernel
theorem dX8_bestShare_23 : decode cX8_bestShare 23 = .ok (.invokevirtual 173, 3) := by decide +kernel
theorem dX8_bestShare_26 : decode cX8_bestShare 26 = .ok (.iconst (-1), 1) := by decide +kernel
theorem dX8_bestShare_27 : decode cX8_bestShare 27 = .ok (.istore_n 3, 1) := by decide +kernel
theorem dX8_bestShare_28 : decode cX8_bestShare 28 = .ok (.iconst 0, 1) := by decide +kernel
theorem dX8_bestShare_29 : decode cX8_bestShare 29 = .ok (.istore 4, 2) := by decide +kernel
theorem dX8_bestShare_31 : decode cX8_bestShare 31 = .ok (.iconst 0, 1) := by decide +kernel
theorem dX8_bestShare_32 : decode cX8_bestShare 32 = .ok (.istore 5, 2) := by decide +kernel
theorem dX8_bestShare_34 : decode cX8_bestShare 34 = .ok (.iload 5, 2) := by decide +kernel
theorem dX8_bestShare_36 : decode cX8_bestShare 36 = .ok (.bipush 100, 2) := by decide +kernel
theorem dX8_bestShare_38 : decode cX8_bestShare 38 = .ok (.if_icmp .ge 53, 3) := by decide +kernel
theorem dX8_bestShare_41 : decode cX8_bestShare 41 = .ok (.aload_n 0, 1) := by decide +kernel
theorem dX8_bestShare_42 : decode cX8_bestShare 42 = .ok (.getfield 9, 3) := by decide +kernel
theorem dX8_bestShare_45 : decode cX8_bestShare 45 = .ok (.iconst 3, 1) := by decide +kernel
theorem dX8_bestShare_46 : decode cX8_bestShare 46 = .ok (.iload 5, 2) := by decide +kernel
theorem dX8_bestShare_48 : decode cX8_bestShare 48 = .ok (.iastore, 1) := by decide +kernel
theorem dX8_bestShare_49 : decode cX8_bestShare 49 = .ok (.aload_n 0, 1) := by decide +kernel
theorem dX8_bestShare_50 : decode cX8_bestShare 50 = .ok (.iload_n 1, 1) := by decide +kernel
theorem dX8_bestShare_51 : decode cX8_bestShare 51 = .ok (.invokevirtual 163, 3) := by decide +kernel
theorem dX8_bestShare_54 : decode cX8_bestShare 54 = .ok (.aload_n 0, 1) := by decide +kernel
theorem dX8_bestShare_55 : decode cX8_bestShare 55 = .ok (.getfield 9, 3) := by decide +kernel
theorem dX8_bestShare_58 : decode cX8_bestShare 58 = .ok (.bipush 6, 2) := by decide +kernel
theorem dX8_bestShare_60 : decode cX8_bestShare 60 = .ok (.iaload, 1) := by decide +kernel
theorem dX8_bestShare_61 : decode cX8_bestShare 61 = .ok (.istore 6, 2) := by decide +kernel
theorem dX8_bestShare_63 : decode cX8_bestShare 63 = .ok (.aload_n 0, 1) := by decide +kernel
theorem dX8_bestShare_64 : decode cX8_bestShare 64 = .ok (.invokevirtual 179, 3) := by decide +kernel
theorem dX8_bestShare_67 : decode cX8_bestShare 67 = .ok (.iload_n 3, 1) := by decide +kernel
theorem dX8_bestShare_68 : decode cX8_bestShare 68 = .ok (.ifCond .lt 10, 3) := by decide +kernel
theorem dX8_bestShare_71 : decode cX8_bestShare 71 = .ok (.iload 6, 2) := by decide +kernel
theorem dX8_bestShare_73 : decode cX8_bestShare 73 = .ok (.iload 4, 2) := by decide +kernel
theorem dX8_bestShare_75 : decode cX8_bestShare 75 = .ok (.if_icmp .le 10, 3) := by decide +kernel
theorem dX8_bestShare_78 : decode cX8_bestShare 78 = .ok (.iload 5, 2) := by decide +kernel
theorem dX8_bestShare_80 : decode cX8_bestShare 80 = .ok (.istore_n 3, 1) := by decide +kernel
theorem dX8_bestShare_81 : decode cX8_bestShare 81 = .ok (.iload 6, 2) := by decide +kernel
theorem dX8_bestShare_83 : decode cX8_bestShare 83 = .ok (.istore 4, 2) := by decide +kernel
theorem dX8_bestShare_85 : decode cX8_bestShare 85 = .ok (.iinc 5 1, 3) := by decide +kernel
theorem dX8_bestShare_88 : decode cX8_bestShare 88 = .ok (.goto (-54), 3) := by decide +kernel
theorem dX8_bestShare_91 : decode cX8_bestShare 91 = .ok (.iload_n 2, 1) := by decide +kernel
theorem dX8_bestShare_92 : decode cX8_bestShare 92 = .ok (.ifCond .ne 7, 3) := by decide +kernel
theorem dX8_bestShare_95 : decode cX8_bestShare 95 = .ok (.iload_n 3, 1) := by decide +kernel
theorem dX8_bestShare_96 : decode cX8_bestShare 96 = .ok (.goto 5, 3) := by decide +kernel
theorem dX8_bestShare_99 : decode cX8_bestShare 99 = .ok (.iload 4, 2) := by decide +kernel
theorem dX8_bestShare_101 : decode cX8_bestShare 101 = .ok (.ireturn, 1) := by decide +kernel
theorem dX8_sentAway_0 : decode cX8_sentAway 0 = .ok (.iload_n 1, 1) := by decide +kernel
theorem dX8_sentAway_1 : decode cX8_sentAway 1 = .ok (.iconst 1, 1) := by decide +kernel
theorem dX8_sentAway_2 : decode cX8_sentAway 2 = .ok (.bipush 60, 2) := by decide +kernel
theorem dX8_sentAway_4 : decode cX8_sentAway 4 = .ok (.invokestatic 80, 3) := by decide +kernel
theorem dX8_sentAway_7 : decode cX8_sentAway 7 = .ok (.ifCond .eq 12, 3) := by decide +kernel
theorem dX8_sentAway_10 : decode cX8_sentAway 10 = .ok (.iload_n 2, 1) := by decide +kernel
theorem dX8_sentAway_11 : decode cX8_sentAway 11 = .ok (.iconst 0, 1) := by decide +kernel
theorem dX8_sentAway_12 : decode cX8_sentAway 12 = .ok (.iconst 1, 1) := by decide +kernel
theorem dX8_sentAway_13 : decode cX8_sentAway 13 = .ok (.invokestatic 80, 3) := by decide +kernel
theorem dX8_sentAway_16 : decode cX8_sentAway 16 = .ok (.ifCond .ne 6, 3) := by decide +kernel
theorem dX8_sentAway_19 : decode cX8_sentAway 19 = .ok (.ldc 92, 2) := by decide +kernel
theorem dX8_sentAway_21 : decode cX8_sentAway 21 = .ok (.ireturn, 1) := by decide +kernel
theorem dX8_sentAway_22 : decode cX8_sentAway 22 = .ok (.aload_n 0, 1) := by decide +kernel
theorem dX8_sentAway_23 : decode cX8_sentAway 23 = .ok (.invokevirtual 173, 3) := by decide +kernel
theorem dX8_sentAway_26 : decode cX8_sentAway 26 = .ok (.iconst (-1), 1) := by decide +kernel
theorem dX8_sentAway_27 : decode cX8_sentAway 27 = .ok (.istore_n 3, 1) := by decide +kernel
theorem dX8_sentAway_28 : decode cX8_sentAway 28 = .ok (.iconst 0, 1) := by decide +kernel
theorem dX8_sentAway_29 : decode cX8_sentAway 29 = .ok (.istore 4, 2) := by decide +kernel
theorem dX8_sentAway_31 : decode cX8_sentAway 31 = .ok (.iconst 0, 1) := by decide +kernel
theorem dX8_sentAway_32 : decode cX8_sentAway 32 = .ok (.istore 5, 2) := by decide +kernel
theorem dX8_sentAway_34 : decode cX8_sentAway 34 = .ok (.iload 5, 2) := by decide +kernel
theorem dX8_sentAway_36 : decode cX8_sentAway 36 = .ok (.aload_n 0, 1) := by decide +kernel
theorem dX8_sentAway_37 : decode cX8_sentAway 37 = .ok (.getfield 9, 3) := by decide +kernel
theorem dX8_sentAway_40 : decode cX8_sentAway 40 = .ok (.iconst 1, 1) := by decide +kernel
theorem dX8_sentAway_41 : decode cX8_sentAway 41 = .ok (.iaload, 1) := by decide +kernel
theorem dX8_sentAway_42 : decode cX8_sentAway 42 = .ok (.if_icmp .ge 49, 3) := by decide +kernel
theorem dX8_sentAway_45 : decode cX8_sentAway 45 = .ok (.aload_n 0, 1) := by decide +kernel
theorem dX8_sentAway_46 : decode cX8_sentAway 46 = .ok (.iload 5, 2) := by decide +kernel
theorem dX8_sentAway_48 : decode cX8_sentAway 48 = .ok (.putfield 19, 3) := by decide +kernel
theorem dX8_sentAway_51 : decode cX8_sentAway 51 = .ok (.aload_n 0, 1) := by decide +kernel
theorem dX8_sentAway_52 : decode cX8_sentAway 52 = .ok (.iload_n 1, 1) := by decide +kernel
theorem dX8_sentAway_53 : decode cX8_sentAway 53 = .ok (.invokevirtual 163, 3) := by decide +kernel
theorem dX8_sentAway_56 : decode cX8_sentAway 56 = .ok (.aload_n 0, 1) := by decide +kernel
theorem dX8_sentAway_57 : decode cX8_sentAway 57 = .ok (.iconst 4, 1) := by decide +kernel
theorem dX8_sentAway_58 : decode cX8_sentAway 58 = .ok (.invokevirtual 160, 3) := by decide +kernel
theorem dX8_sentAway_61 : decode cX8_sentAway 61 = .ok (.istore 6, 2) := by decide +kernel
theorem dX8_sentAway_63 : decode cX8_sentAway 63 = .ok (.aload_n 0, 1) := by decide +kernel
theorem dX8_sentAway_64 : decode cX8_sentAway 64 = .ok (.invokevirtual 179, 3) := by decide +kernel
theorem dX8_sentAway_67 : decode cX8_sentAway 67 = .ok (.iload_n 3, 1) := by decide +kernel
theorem dX8_sentAway_68 : decode cX8_sentAway 68 = .ok (.ifCond .lt 10, 3) := by decide +kernel
theorem dX8_sentAway_71 : decode cX8_sentAway 71 = .ok (.iload 6, 2) := by decide +kernel
theorem dX8_sentAway_73 : decode cX8_sentAway 73 = .ok (.iload 4, 2) := by decide +kernel
theorem dX8_sentAway_75 : decode cX8_sentAway 75 = .ok (.if_icmp .le 10, 3) := by decide +kernel
theorem dX8_sentAway_78 : decode cX8_sentAway 78 = .ok (.iload 5, 2) := by decide +kernel
theorem dX8_sentAway_80 : decode cX8_sentAway 80 = .ok (.istore_n 3, 1) := by decide +kernel
theorem dX8_sentAway_81 : decode cX8_sentAway 81 = .ok (.iload 6, 2) := by decide +kernel
theorem dX8_sentAway_83 : decode cX8_sentAway 83 = .ok (.istore 4, 2) := by decide +kernel
theorem dX8_sentAway_85 : decode cX8_sentAway 85 = .ok (.iinc 5 1, 3) := by decide +kernel
theorem dX8_sentAway_88 : decode cX8_sentAway 88 = .ok (.goto (-54), 3) := by decide +kernel
theorem dX8_sentAway_91 : decode cX8_sentAway 91 = .ok (.iload_n 3, 1) := by decide +kernel
theorem dX8_sentAway_92 : decode cX8_sentAway 92 = .ok (.ifCond .ge 8, 3) := by decide +kernel
theorem dX8_sentAway_95 : decode cX8_sentAway 95 = .ok (.ldc 79, 2) := by decide +kernel
theorem dX8_sentAway_97 : decode cX8_sentAway 97 = .ok (.goto 13, 3) := by decide +kernel
theorem dX8_sentAway_100 : decode cX8_sentAway 100 = .ok (.iload_n 2, 1) := by decide +kernel
theorem dX8_sentAway_101 : decode cX8_sentAway 101 = .ok (.ifCond .ne 7, 3) := by decide +kernel
theorem dX8_sentAway_104 : decode cX8_sentAway 104 = .ok (.iload_n 3, 1) := by decide +kernel
theorem dX8_sentAway_105 : decode cX8_sentAway 105 = .ok (.goto 5, 3) := by decide +kernel
theorem dX8_sentAway_108 : decode cX8_sentAway 108 = .ok (.iload 4, 2) := by decide +kernel
theorem dX8_sentAway_110 : decode cX8_sentAway 110 = .ok (.ireturn, 1) := by decide +kernel
theorem dX8_dry_0 : decode cX8_dry 0 = .ok (.iload_n 1, 1) := by decide +kernel
theorem dX8_dry_1 : decode cX8_dry 1 = .ok (.iconst 1, 1) := by decide +kernel
theorem dX8_dry_2 : decode cX8_dry 2 = .ok (.bipush 60, 2) := by decide +kernel
theorem dX8_dry_4 : decode cX8_dry 4 = .ok (.invokestatic 80, 3) := by decide +kernel
theorem dX8_dry_7 : decode cX8_dry 7 = .ok (.ifCond .ne 6, 3) := by decide +kernel
theorem dX8_dry_10 : decode cX8_dry 10 = .ok (.ldc 92, 2) := by decide +kernel
theorem dX8_dry_12 : decode cX8_dry 12 = .ok (.ireturn, 1) := by decide +kernel
theorem dX8_dry_13 : decode cX8_dry 13 = .ok (.aload_n 0, 1) := by decide +kernel
theorem dX8_dry_14 : decode cX8_dry 14 = .ok (.invokevirtual 173, 3) := by decide +kernel
theorem dX8_dry_17 : decode cX8_dry 17 = .ok (.aload_n 0, 1) := by decide +kernel
theorem dX8_dry_18 : decode cX8_dry 18 = .ok (.iload_n 1, 1) := by decide +kernel
theorem dX8_dry_19 : decode cX8_dry 19 = .ok (.invokevirtual 163, 3) := by decide +kernel
theorem dX8_dry_22 : decode cX8_dry 22 = .ok (.aload_n 0, 1) := by decide +kernel
theorem dX8_dry_23 : decode cX8_dry 23 = .ok (.iconst 4, 1) := by decide +kernel
theorem dX8_dry_24 : decode cX8_dry 24 = .ok (.invokevirtual 160, 3) := by decide +kernel
theorem dX8_dry_27 : decode cX8_dry 27 = .ok (.istore_n 2, 1) := by decide +kernel
theorem dX8_dry_28 : decode cX8_dry 28 = .ok (.aload_n 0, 1) := by decide +kernel
theorem dX8_dry_29 : decode cX8_dry 29 = .ok (.invokevirtual 179, 3) := by decide +kernel
theorem dX8_dry_32 : decode cX8_dry 32 = .ok (.aload_n 0, 1) := by decide +kernel
theorem dX8_dry_33 : decode cX8_dry 33 = .ok (.getfield 9, 3) := by decide +kernel
theorem dX8_dry_36 : decode cX8_dry 36 = .ok (.iconst 5, 1) := by decide +kernel
theorem dX8_dry_37 : decode cX8_dry 37 = .ok (.iconst 0, 1) := by decide +kernel
theorem dX8_dry_38 : decode cX8_dry 38 = .ok (.iastore, 1) := by decide +kernel
theorem dX8_dry_39 : decode cX8_dry 39 = .ok (.aload_n 0, 1) := by decide +kernel
theorem dX8_dry_40 : decode cX8_dry 40 = .ok (.getfield 9, 3) := by decide +kernel
theorem dX8_dry_43 : decode cX8_dry 43 = .ok (.iconst 4, 1) := by decide +kernel
theorem dX8_dry_44 : decode cX8_dry 44 = .ok (.iconst 0, 1) := by decide +kernel
theorem dX8_dry_45 : decode cX8_dry 45 = .ok (.iastore, 1) := by decide +kernel
theorem dX8_dry_46 : decode cX8_dry 46 = .ok (.aload_n 0, 1) := by decide +kernel
theorem dX8_dry_47 : decode cX8_dry 47 = .ok (.iload_n 1, 1) := by decide +kernel
theorem dX8_dry_48 : decode cX8_dry 48 = .ok (.invokevirtual 163, 3) := by decide +kernel
theorem dX8_dry_51 : decode cX8_dry 51 = .ok (.aload_n 0, 1) := by decide +kernel
theorem dX8_dry_52 : decode cX8_dry 52 = .ok (.iconst 4, 1) := by decide +kernel
theorem dX8_dry_53 : decode cX8_dry 53 = .ok (.invokevirtual 160, 3) := by decide +kernel
theorem dX8_dry_56 : decode cX8_dry 56 = .ok (.istore_n 3, 1) := by decide +kernel
theorem dX8_dry_57 : decode cX8_dry 57 = .ok (.aload_n 0, 1) := by decide +kernel
theorem dX8_dry_58 : decode cX8_dry 58 = .ok (.invokevirtual 179, 3) := by decide +kernel
theorem dX8_dry_61 : decode cX8_dry 61 = .ok (.iload_n 3, 1) := by decide +kernel
theorem dX8_dry_62 : decode cX8_dry 62 = .ok (.iload_n 2, 1) := by decide +kernel
theorem dX8_dry_63 : decode cX8_dry 63 = .ok (.isub, 1) := by decide +kernel
theorem dX8_dry_64 : decode cX8_dry 64 = .ok (.ireturn, 1) := by decide +kernel
theorem dX8_offBy_0 : decode cX8_offBy 0 = .ok (.lconst 0, 1) := by decide +kernel
theorem dX8_offBy_1 : decode cX8_offBy 1 = .ok (.lstore_n 3, 1) := by decide +kernel
theorem dX8_offBy_2 : decode cX8_offBy 2 = .ok (.iconst 0, 1) := by decide +kernel
theorem dX8_offBy_3 : decode cX8_offBy 3 = .ok (.istore 5, 2) := by decide +kernel
theorem dX8_offBy_5 : decode cX8_offBy 5 = .ok (.iload 5, 2) := by decide +kernel
theorem dX8_offBy_7 : decode cX8_offBy 7 = .ok (.aload_n 0, 1) := by decide +kernel
theorem dX8_offBy_8 : decode cX8_offBy 8 = .ok (.getfield 55, 3) := by decide +kernel
theorem dX8_offBy_11 : decode cX8_offBy 11 = .ok (.iload_n 1, 1) := by decide +kernel
theorem dX8_offBy_12 : decode cX8_offBy 12 = .ok (.iaload, 1) := by decide +kernel
theorem dX8_offBy_13 : decode cX8_offBy 13 = .ok (.if_icmp .ge 67, 3) := by decide +kernel
theorem dX8_offBy_16 : decode cX8_offBy 16 = .ok (.aload_n 0, 1) := by decide +kernel
theorem dX8_offBy_17 : decode cX8_offBy 17 = .ok (.getfield 58, 3) := by decide +kernel
theorem dX8_offBy_20 : decode cX8_offBy 20 = .ok (.bipush 24, 2) := by decide +kernel
theorem dX8_offBy_22 : decode cX8_offBy 22 = .ok (.iload_n 1, 1) := by decide +kernel
theorem dX8_offBy_23 : decode cX8_offBy 23 = .ok (.imul, 1) := by decide +kernel
theorem dX8_offBy_24 : decode cX8_offBy 24 = .ok (.iload 5, 2) := by decide +kernel
theorem dX8_offBy_26 : decode cX8_offBy 26 = .ok (.iadd, 1) := by decide +kernel
theorem dX8_offBy_27 : decode cX8_offBy 27 = .ok (.iaload, 1) := by decide +kernel
theorem dX8_offBy_28 : decode cX8_offBy 28 = .ok (.istore 6, 2) := by decide +kernel
theorem dX8_offBy_30 : decode cX8_offBy 30 = .ok (.iload 6, 2) := by decide +kernel
theorem dX8_offBy_32 : decode cX8_offBy 32 = .ok (.i2l, 1) := by decide +kernel
theorem dX8_offBy_33 : decode cX8_offBy 33 = .ok (.aload_n 0, 1) := by decide +kernel
theorem dX8_offBy_34 : decode cX8_offBy 34 = .ok (.iload_n 2, 1) := by decide +kernel
theorem dX8_offBy_35 : decode cX8_offBy 35 = .ok (.iload 5, 2) := by decide +kernel
theorem dX8_offBy_37 : decode cX8_offBy 37 = .ok (.iconst 0, 1) := by decide +kernel
theorem dX8_offBy_38 : decode cX8_offBy 38 = .ok (.invokevirtual 129, 3) := by decide +kernel
theorem dX8_offBy_41 : decode cX8_offBy 41 = .ok (.i2l, 1) := by decide +kernel
theorem dX8_offBy_42 : decode cX8_offBy 42 = .ok (.lsub, 1) := by decide +kernel
theorem dX8_offBy_43 : decode cX8_offBy 43 = .ok (.lstore 7, 2) := by decide +kernel
theorem dX8_offBy_45 : decode cX8_offBy 45 = .ok (.lload_n 3, 1) := by decide +kernel
theorem dX8_offBy_46 : decode cX8_offBy 46 = .ok (.iload 6, 2) := by decide +kernel
theorem dX8_offBy_48 : decode cX8_offBy 48 = .ok (.ldc 79, 2) := by decide +kernel
theorem dX8_offBy_50 : decode cX8_offBy 50 = .ok (.if_icmp .ne 7, 3) := by decide +kernel
theorem dX8_offBy_53 : decode cX8_offBy 53 = .ok (.lconst 0, 1) := by decide +kernel
theorem dX8_offBy_54 : decode cX8_offBy 54 = .ok (.goto 18, 3) := by decide +kernel
theorem dX8_offBy_57 : decode cX8_offBy 57 = .ok (.lload 7, 2) := by decide +kernel
theorem dX8_offBy_59 : decode cX8_offBy 59 = .ok (.lconst 0, 1) := by decide +kernel
theorem dX8_offBy_60 : decode cX8_offBy 60 = .ok (.lcmp, 1) := by decide +kernel
theorem dX8_offBy_61 : decode cX8_offBy 61 = .ok (.ifCond .ge 9, 3) := by decide +kernel
theorem dX8_offBy_64 : decode cX8_offBy 64 = .ok (.lload 7, 2) := by decide +kernel
theorem dX8_offBy_66 : decode cX8_offBy 66 = .ok (.lneg, 1) := by decide +kernel
theorem dX8_offBy_67 : decode cX8_offBy 67 = .ok (.goto 5, 3) := by decide +kernel
theorem dX8_offBy_70 : decode cX8_offBy 70 = .ok (.lload 7, 2) := by decide +kernel
theorem dX8_offBy_72 : decode cX8_offBy 72 = .ok (.ladd, 1) := by decide +kernel
theorem dX8_offBy_73 : decode cX8_offBy 73 = .ok (.lstore_n 3, 1) := by decide +kernel
theorem dX8_offBy_74 : decode cX8_offBy 74 = .ok (.iinc 5 1, 3) := by decide +kernel
theorem dX8_offBy_77 : decode cX8_offBy 77 = .ok (.goto (-72), 3) := by decide +kernel
theorem dX8_offBy_80 : decode cX8_offBy 80 = .ok (.lload_n 3, 1) := by decide +kernel
theorem dX8_offBy_81 : decode cX8_offBy 81 = .ok (.lreturn, 1) := by decide +kernel
theorem dX8_shone_0 : decode cX8_shone 0 = .ok (.iload_n 1, 1) := by decide +kernel
theorem dX8_shone_1 : decode cX8_shone 1 = .ok (.invokestatic 182, 3) := by decide +kernel
theorem dX8_shone_4 : decode cX8_shone 4 = .ok (.ifCond .eq 12, 3) := by decide +kernel
theorem dX8_shone_7 : decode cX8_shone 7 = .ok (.iload_n 2, 1) := by decide +kernel
theorem dX8_shone_8 : decode cX8_shone 8 = .ok (.iconst 0, 1) := by decide +kernel
theorem dX8_shone_9 : decode cX8_shone 9 = .ok (.iconst 1, 1) := by decide +kernel
theorem dX8_shone_10 : decode cX8_shone 10 = .ok (.invokestatic 80, 3) := by decide +kernel
theorem dX8_shone_13 : decode cX8_shone 13 = .ok (.ifCond .ne 6, 3) := by decide +kernel
theorem dX8_shone_16 : decode cX8_shone 16 = .ok (.ldc 92, 2) := by decide +kernel
theorem dX8_shone_18 : decode cX8_shone 18 = .ok (.ireturn, 1) := by decide +kernel
theorem dX8_shone_19 : decode cX8_shone 19 = .ok (.aload_n 0, 1) := by decide +kernel
theorem dX8_shone_20 : decode cX8_shone 20 = .ok (.getfield 52, 3) := by decide +kernel
theorem dX8_shone_23 : decode cX8_shone 23 = .ok (.iload_n 1, 1) := by decide +kernel
theorem dX8_shone_24 : decode cX8_shone 24 = .ok (.iaload, 1) := by decide +kernel
theorem dX8_shone_25 : decode cX8_shone 25 = .ok (.ifCond .ge 6, 3) := by decide +kernel
theorem dX8_shone_28 : decode cX8_shone 28 = .ok (.ldc 185, 2) := by decide +kernel
theorem dX8_shone_30 : decode cX8_shone 30 = .ok (.ireturn, 1) := by decide +kernel
theorem dX8_shone_31 : decode cX8_shone 31 = .ok (.iconst (-1), 1) := by decide +kernel
theorem dX8_shone_32 : decode cX8_shone 32 = .ok (.istore_n 3, 1) := by decide +kernel
theorem dX8_shone_33 : decode cX8_shone 33 = .ok (.lconst 0, 1) := by decide +kernel
theorem dX8_shone_34 : decode cX8_shone 34 = .ok (.lstore 4, 2) := by decide +kernel
theorem dX8_shone_36 : decode cX8_shone 36 = .ok (.iconst 0, 1) := by decide +kernel
theorem dX8_shone_37 : decode cX8_shone 37 = .ok (.istore 6, 2) := by decide +kernel
theorem dX8_shone_39 : decode cX8_shone 39 = .ok (.iload 6, 2) := by decide +kernel
theorem dX8_shone_41 : decode cX8_shone 41 = .ok (.aload_n 0, 1) := by decide +kernel
theorem dX8_shone_42 : decode cX8_shone 42 = .ok (.getfield 9, 3) := by decide +kernel
theorem dX8_shone_45 : decode cX8_shone 45 = .ok (.iconst 1, 1) := by decide +kernel
theorem dX8_shone_46 : decode cX8_shone 46 = .ok (.iaload, 1) := by decide +kernel
theorem dX8_shone_47 : decode cX8_shone 47 = .ok (.if_icmp .ge 37, 3) := by decide +kernel
theorem dX8_shone_50 : decode cX8_shone 50 = .ok (.aload_n 0, 1) := by decide +kernel
theorem dX8_shone_51 : decode cX8_shone 51 = .ok (.iload_n 1, 1) := by decide +kernel
theorem dX8_shone_52 : decode cX8_shone 52 = .ok (.iload 6, 2) := by decide +kernel
theorem dX8_shone_54 : decode cX8_shone 54 = .ok (.invokevirtual 186, 3) := by decide +kernel
theorem dX8_shone_57 : decode cX8_shone 57 = .ok (.lstore 7, 2) := by decide +kernel
theorem dX8_shone_59 : decode cX8_shone 59 = .ok (.iload_n 3, 1) := by decide +kernel
theorem dX8_shone_60 : decode cX8_shone 60 = .ok (.ifCond .lt 11, 3) := by decide +kernel
theorem dX8_shone_63 : decode cX8_shone 63 = .ok (.lload 7, 2) := by decide +kernel
theorem dX8_shone_65 : decode cX8_shone 65 = .ok (.lload 4, 2) := by decide +kernel
theorem dX8_shone_67 : decode cX8_shone 67 = .ok (.lcmp, 1) := by decide +kernel
theorem dX8_shone_68 : decode cX8_shone 68 = .ok (.ifCond .ge 10, 3) := by decide +kernel
theorem dX8_shone_71 : decode cX8_shone 71 = .ok (.iload 6, 2) := by decide +kernel
theorem dX8_shone_73 : decode cX8_shone 73 = .ok (.istore_n 3, 1) := by decide +kernel
theorem dX8_shone_74 : decode cX8_shone 74 = .ok (.lload 7, 2) := by decide +kernel
theorem dX8_shone_76 : decode cX8_shone 76 = .ok (.lstore 4, 2) := by decide +kernel
theorem dX8_shone_78 : decode cX8_shone 78 = .ok (.iinc 6 1, 3) := by decide +kernel
theorem dX8_shone_81 : decode cX8_shone 81 = .ok (.goto (-42), 3) := by decide +kernel
theorem dX8_shone_84 : decode cX8_shone 84 = .ok (.iload_n 3, 1) := by decide +kernel
theorem dX8_shone_85 : decode cX8_shone 85 = .ok (.ifCond .ge 8, 3) := by decide +kernel
theorem dX8_shone_88 : decode cX8_shone 88 = .ok (.ldc 79, 2) := by decide +kernel
theorem dX8_shone_90 : decode cX8_shone 90 = .ok (.goto 14, 3) := by decide +kernel
theorem dX8_shone_93 : decode cX8_shone 93 = .ok (.iload_n 2, 1) := by decide +kernel
theorem dX8_shone_94 : decode cX8_shone 94 = .ok (.ifCond .ne 7, 3) := by decide +kernel
theorem dX8_shone_97 : decode cX8_shone 97 = .ok (.iload_n 3, 1) := by decide +kernel
theorem dX8_shone_98 : decode cX8_shone 98 = .ok (.goto 6, 3) := by decide +kernel
theorem dX8_shone_101 : decode cX8_shone 101 = .ok (.lload 4, 2) := by decide +kernel
theorem dX8_shone_103 : decode cX8_shone 103 = .ok (.l2i, 1) := by decide +kernel
theorem dX8_shone_104 : decode cX8_shone 104 = .ok (.ireturn, 1) := by decide +kernel
theorem dX8_fee_0 : decode cX8_fee 0 = .ok (.aload_n 0, 1) := by decide +kernel
theorem dX8_fee_1 : decode cX8_fee 1 = .ok (.iconst 1, 1) := by decide +kernel
theorem dX8_fee_2 : decode cX8_fee 2 = .ok (.invokevirtual 98, 3) := by decide +kernel
theorem dX8_fee_5 : decode cX8_fee 5 = .ok (.istore_n 1, 1) := by decide +kernel
theorem dX8_fee_6 : decode cX8_fee 6 = .ok (.aload_n 0, 1) := by decide +kernel
theorem dX8_fee_7 : decode cX8_fee 7 = .ok (.getfield 49, 3) := by decide +kernel
theorem dX8_fee_10 : decode cX8_fee 10 = .ok (.iconst 0, 1) := by decide +kernel
theorem dX8_fee_11 : decode cX8_fee 11 = .ok (.aload_n 0, 1) := by decide +kernel
theorem dX8_fee_12 : decode cX8_fee 12 = .ok (.getfield 9, 3) := by decide +kernel
theorem dX8_fee_15 : decode cX8_fee 15 = .ok (.bipush 7, 2) := by decide +kernel
theorem dX8_fee_17 : decode cX8_fee 17 = .ok (.iaload, 1) := by decide +kernel
theorem dX8_fee_18 : decode cX8_fee 18 = .ok (.iastore, 1) := by decide +kernel
theorem dX8_fee_19 : decode cX8_fee 19 = .ok (.aload_n 0, 1) := by decide +kernel
theorem dX8_fee_20 : decode cX8_fee 20 = .ok (.getfield 49, 3) := by decide +kernel
theorem dX8_fee_23 : decode cX8_fee 23 = .ok (.iconst 1, 1) := by decide +kernel
theorem dX8_fee_24 : decode cX8_fee 24 = .ok (.aload_n 0, 1) := by decide +kernel
theorem dX8_fee_25 : decode cX8_fee 25 = .ok (.getfield 9, 3) := by decide +kernel
theorem dX8_fee_28 : decode cX8_fee 28 = .ok (.bipush 6, 2) := by decide +kernel
theorem dX8_fee_30 : decode cX8_fee 30 = .ok (.iaload, 1) := by decide +kernel
theorem dX8_fee_31 : decode cX8_fee 31 = .ok (.iastore, 1) := by decide +kernel
theorem dX8_fee_32 : decode cX8_fee 32 = .ok (.iload_n 1, 1) := by decide +kernel
theorem dX8_fee_33 : decode cX8_fee 33 = .ok (.ifCond .ge 13, 3) := by decide +kernel
theorem dX8_fee_36 : decode cX8_fee 36 = .ok (.aload_n 0, 1) := by decide +kernel
theorem dX8_fee_37 : decode cX8_fee 37 = .ok (.getfield 9, 3) := by decide +kernel
theorem dX8_fee_40 : decode cX8_fee 40 = .ok (.bipush 7, 2) := by decide +kernel
theorem dX8_fee_42 : decode cX8_fee 42 = .ok (.iaload, 1) := by decide +kernel
theorem dX8_fee_43 : decode cX8_fee 43 = .ok (.goto 8, 3) := by decide +kernel
theorem dX8_fee_46 : decode cX8_fee 46 = .ok (.aload_n 0, 1) := by decide +kernel
theorem dX8_fee_47 : decode cX8_fee 47 = .ok (.iload_n 1, 1) := by decide +kernel
theorem dX8_fee_48 : decode cX8_fee 48 = .ok (.invokevirtual 106, 3) := by decide +kernel
theorem dX8_fee_51 : decode cX8_fee 51 = .ok (.ireturn, 1) := by decide +kernel
theorem dX8_fine_0 : decode cX8_fine 0 = .ok (.aload_n 0, 1) := by decide +kernel
theorem dX8_fine_1 : decode cX8_fine 1 = .ok (.iload_n 1, 1) := by decide +kernel
theorem dX8_fine_2 : decode cX8_fine 2 = .ok (.invokevirtual 116, 3) := by decide +kernel
theorem dX8_fine_5 : decode cX8_fine 5 = .ok (.ifCond .ne 6, 3) := by decide +kernel
theorem dX8_fine_8 : decode cX8_fine 8 = .ok (.ldc 92, 2) := by decide +kernel
theorem dX8_fine_10 : decode cX8_fine 10 = .ok (.ireturn, 1) := by decide +kernel
theorem dX8_fine_11 : decode cX8_fine 11 = .ok (.aload_n 0, 1) := by decide +kernel
theorem dX8_fine_12 : decode cX8_fine 12 = .ok (.iconst 2, 1) := by decide +kernel
theorem dX8_fine_13 : decode cX8_fine 13 = .ok (.invokevirtual 98, 3) := by decide +kernel
theorem dX8_fine_16 : decode cX8_fine 16 = .ok (.istore_n 2, 1) := by decide +kernel
theorem dX8_fine_17 : decode cX8_fine 17 = .ok (.aload_n 0, 1) := by decide +kernel
theorem dX8_fine_18 : decode cX8_fine 18 = .ok (.getfield 49, 3) := by decide +kernel
theorem dX8_fine_21 : decode cX8_fine 21 = .ok (.iconst 0, 1) := by decide +kernel
theorem dX8_fine_22 : decode cX8_fine 22 = .ok (.aload_n 0, 1) := by decide +kernel
theorem dX8_fine_23 : decode cX8_fine 23 = .ok (.iload_n 1, 1) := by decide +kernel
theorem dX8_fine_24 : decode cX8_fine 24 = .ok (.iconst 4, 1) := by decide +kernel
theorem dX8_fine_25 : decode cX8_fine 25 = .ok (.invokevirtual 102, 3) := by decide +kernel
theorem dX8_fine_28 : decode cX8_fine 28 = .ok (.iastore, 1) := by decide +kernel
theorem dX8_fine_29 : decode cX8_fine 29 = .ok (.aload_n 0, 1) := by decide +kernel
theorem dX8_fine_30 : decode cX8_fine 30 = .ok (.getfield 49, 3) := by decide +kernel
theorem dX8_fine_33 : decode cX8_fine 33 = .ok (.iconst 1, 1) := by decide +kernel
theorem dX8_fine_34 : decode cX8_fine 34 = .ok (.aload_n 0, 1) := by decide +kernel
theorem dX8_fine_35 : decode cX8_fine 35 = .ok (.iload_n 1, 1) := by decide +kernel
theorem dX8_fine_36 : decode cX8_fine 36 = .ok (.bipush 6, 2) := by decide +kernel
theorem dX8_fine_38 : decode cX8_fine 38 = .ok (.invokevirtual 102, 3) := by decide +kernel
theorem dX8_fine_41 : decode cX8_fine 41 = .ok (.iastore, 1) := by decide +kernel
theorem dX8_fine_42 : decode cX8_fine 42 = .ok (.iload_n 2, 1) := by decide +kernel
theorem dX8_fine_43 : decode cX8_fine 43 = .ok (.ifCond .ge 12, 3) := by decide +kernel
theorem dX8_fine_46 : decode cX8_fine 46 = .ok (.aload_n 0, 1) := by decide +kernel
theorem dX8_fine_47 : decode cX8_fine 47 = .ok (.iload_n 1, 1) := by decide +kernel
theorem dX8_fine_48 : decode cX8_fine 48 = .ok (.iconst 4, 1) := by decide +kernel
theorem dX8_fine_49 : decode cX8_fine 49 = .ok (.invokevirtual 102, 3) := by decide +kernel
theorem dX8_fine_52 : decode cX8_fine 52 = .ok (.goto 8, 3) := by decide +kernel
theorem dX8_fine_55 : decode cX8_fine 55 = .ok (.aload_n 0, 1) := by decide +kernel
theorem dX8_fine_56 : decode cX8_fine 56 = .ok (.iload_n 2, 1) := by decide +kernel
theorem dX8_fine_57 : decode cX8_fine 57 = .ok (.invokevirtual 106, 3) := by decide +kernel
theorem dX8_fine_60 : decode cX8_fine 60 = .ok (.ireturn, 1) := by decide +kernel
theorem dX8_feed_0 : decode cX8_feed 0 = .ok (.aload_n 0, 1) := by decide +kernel
theorem dX8_feed_1 : decode cX8_feed 1 = .ok (.getfield 190, 3) := by decide +kernel
theorem dX8_feed_4 : decode cX8_feed 4 = .ok (.bipush 12, 2) := by decide +kernel
theorem dX8_feed_6 : decode cX8_feed 6 = .ok (.iadd, 1) := by decide +kernel
theorem dX8_feed_7 : decode cX8_feed 7 = .ok (.bipush 96, 2) := by decide +kernel
theorem dX8_feed_9 : decode cX8_feed 9 = .ok (.if_icmp .le 6, 3) := by decide +kernel
theorem dX8_feed_12 : decode cX8_feed 12 = .ok (.ldc 93, 2) := by decide +kernel
theorem dX8_feed_14 : decode cX8_feed 14 = .ok (.ireturn, 1) := by decide +kernel
theorem dX8_feed_15 : decode cX8_feed 15 = .ok (.iconst 0, 1) := by decide +kernel
theorem dX8_feed_16 : decode cX8_feed 16 = .ok (.istore 4, 2) := by decide +kernel
theorem dX8_feed_18 : decode cX8_feed 18 = .ok (.iload 4, 2) := by decide +kernel
theorem dX8_feed_20 : decode cX8_feed 20 = .ok (.bipush 12, 2) := by decide +kernel
theorem dX8_feed_22 : decode cX8_feed 22 = .ok (.if_icmp .ge 62, 3) := by decide +kernel
theorem dX8_feed_25 : decode cX8_feed 25 = .ok (.iload 4, 2) := by decide +kernel
theorem dX8_feed_27 : decode cX8_feed 27 = .ok (.iconst 4, 1) := by decide +kernel
theorem dX8_feed_28 : decode cX8_feed 28 = .ok (.if_icmp .ge 7, 3) := by decide +kernel
theorem dX8_feed_31 : decode cX8_feed 31 = .ok (.iload_n 1, 1) := by decide +kernel
theorem dX8_feed_32 : decode cX8_feed 32 = .ok (.goto 15, 3) := by decide +kernel
theorem dX8_feed_35 : decode cX8_feed 35 = .ok (.iload 4, 2) := by decide +kernel
theorem dX8_feed_37 : decode cX8_feed 37 = .ok (.bipush 8, 2) := by decide +kernel
theorem dX8_feed_39 : decode cX8_feed 39 = .ok (.if_icmp .ge 7, 3) := by decide +kernel
theorem dX8_feed_42 : decode cX8_feed 42 = .ok (.iload_n 2, 1) := by decide +kernel
theorem dX8_feed_43 : decode cX8_feed 43 = .ok (.goto 4, 3) := by decide +kernel
theorem dX8_feed_46 : decode cX8_feed 46 = .ok (.iload_n 3, 1) := by decide +kernel
theorem dX8_feed_47 : decode cX8_feed 47 = .ok (.istore 5, 2) := by decide +kernel
theorem dX8_feed_49 : decode cX8_feed 49 = .ok (.aload_n 0, 1) := by decide +kernel
theorem dX8_feed_50 : decode cX8_feed 50 = .ok (.getfield 26, 3) := by decide +kernel
theorem dX8_feed_53 : decode cX8_feed 53 = .ok (.aload_n 0, 1) := by decide +kernel
theorem dX8_feed_54 : decode cX8_feed 54 = .ok (.getfield 190, 3) := by decide +kernel
theorem dX8_feed_57 : decode cX8_feed 57 = .ok (.iload 4, 2) := by decide +kernel
theorem dX8_feed_59 : decode cX8_feed 59 = .ok (.iadd, 1) := by decide +kernel
theorem dX8_feed_60 : decode cX8_feed 60 = .ok (.iload 5, 2) := by decide +kernel
theorem dX8_feed_62 : decode cX8_feed 62 = .ok (.bipush 24, 2) := by decide +kernel
theorem dX8_feed_64 : decode cX8_feed 64 = .ok (.bipush 8, 2) := by decide +kernel
theorem dX8_feed_66 : decode cX8_feed 66 = .ok (.iload 4, 2) := by decide +kernel
theorem dX8_feed_68 : decode cX8_feed 68 = .ok (.iconst 4, 1) := by decide +kernel
theorem dX8_feed_69 : decode cX8_feed 69 = .ok (.irem, 1) := by decide +kernel
theorem dX8_feed_70 : decode cX8_feed 70 = .ok (.imul, 1) := by decide +kernel
theorem dX8_feed_71 : decode cX8_feed 71 = .ok (.isub, 1) := by decide +kernel
theorem dX8_feed_72 : decode cX8_feed 72 = .ok (.ishr, 1) := by decide +kernel
theorem dX8_feed_73 : decode cX8_feed 73 = .ok (.sipush 255, 3) := by decide +kernel
theorem dX8_feed_76 : decode cX8_feed 76 = .ok (.iand, 1) := by decide +kernel
theorem dX8_feed_77 : decode cX8_feed 77 = .ok (.iastore, 1) := by decide +kernel
theorem dX8_feed_78 : decode cX8_feed 78 = .ok (.iinc 4 1, 3) := by decide +kernel
theorem dX8_feed_81 : decode cX8_feed 81 = .ok (.goto (-63), 3) := by decide +kernel
theorem dX8_feed_84 : decode cX8_feed 84 = .ok (.aload_n 0, 1) := by decide +kernel
theorem dX8_feed_85 : decode cX8_feed 85 = .ok (.dup, 1) := by decide +kernel
theorem dX8_feed_86 : decode cX8_feed 86 = .ok (.getfield 190, 3) := by decide +kernel
theorem dX8_feed_89 : decode cX8_feed 89 = .ok (.bipush 12, 2) := by decide +kernel
theorem dX8_feed_91 : decode cX8_feed 91 = .ok (.iadd, 1) := by decide +kernel
theorem dX8_feed_92 : decode cX8_feed 92 = .ok (.putfield 190, 3) := by decide +kernel
theorem dX8_feed_95 : decode cX8_feed 95 = .ok (.aload_n 0, 1) := by decide +kernel
theorem dX8_feed_96 : decode cX8_feed 96 = .ok (.getfield 190, 3) := by decide +kernel
theorem dX8_feed_99 : decode cX8_feed 99 = .ok (.ireturn, 1) := by decide +kernel
theorem dX8_trim_0 : decode cX8_trim 0 = .ok (.iload_n 1, 1) := by decide +kernel
theorem dX8_trim_1 : decode cX8_trim 1 = .ok (.iconst 0, 1) := by decide +kernel
theorem dX8_trim_2 : decode cX8_trim 2 = .ok (.aload_n 0, 1) := by decide +kernel
theorem dX8_trim_3 : decode cX8_trim 3 = .ok (.getfield 190, 3) := by decide +kernel
theorem dX8_trim_6 : decode cX8_trim 6 = .ok (.invokestatic 80, 3) := by decide +kernel
theorem dX8_trim_9 : decode cX8_trim 9 = .ok (.ifCond .ne 6, 3) := by decide +kernel
theorem dX8_trim_12 : decode cX8_trim 12 = .ok (.ldc 92, 2) := by decide +kernel
theorem dX8_trim_14 : decode cX8_trim 14 = .ok (.ireturn, 1) := by decide +kernel
theorem dX8_trim_15 : decode cX8_trim 15 = .ok (.aload_n 0, 1) := by decide +kernel
theorem dX8_trim_16 : decode cX8_trim 16 = .ok (.iload_n 1, 1) := by decide +kernel
theorem dX8_trim_17 : decode cX8_trim 17 = .ok (.putfield 190, 3) := by decide +kernel
theorem dX8_trim_20 : decode cX8_trim 20 = .ok (.iload_n 1, 1) := by decide +kernel
theorem dX8_trim_21 : decode cX8_trim 21 = .ok (.ireturn, 1) := by decide +kernel
theorem dX8_isLetter_0 : decode cX8_isLetter 0 = .ok (.iload_n 1, 1) := by decide +kernel
theorem dX8_isLetter_1 : decode cX8_isLetter 1 = .ok (.aload_n 0, 1) := by decide +kernel
theorem dX8_isLetter_2 : decode cX8_isLetter 2 = .ok (.getfield 190, 3) := by decide +kernel
theorem dX8_isLetter_5 : decode cX8_isLetter 5 = .ok (.if_icmp .ge 29, 3) := by decide +kernel
theorem dX8_isLetter_8 : decode cX8_isLetter 8 = .ok (.aload_n 0, 1) := by decide +kernel
theorem dX8_isLetter_9 : decode cX8_isLetter 9 = .ok (.getfield 26, 3) := by decide +kernel
theorem dX8_isLetter_12 : decode cX8_isLetter 12 = .ok (.iload_n 1, 1) := by decide +kernel
theorem dX8_isLetter_13 : decode cX8_isLetter 13 = .ok (.iaload, 1) := by decide +kernel
theorem dX8_isLetter_14 : decode cX8_isLetter 14 = .ok (.bipush 97, 2) := by decide +kernel
theorem dX8_isLetter_16 : decode cX8_isLetter 16 = .ok (.if_icmp .lt 18, 3) := by decide +kernel
theorem dX8_isLetter_19 : decode cX8_isLetter 19 = .ok (.aload_n 0, 1) := by decide +kernel
theorem dX8_isLetter_20 : decode cX8_isLetter 20 = .ok (.getfield 26, 3) := by decide +kernel
theorem dX8_isLetter_23 : decode cX8_isLetter 23 = .ok (.iload_n 1, 1) := by decide +kernel
theorem dX8_isLetter_24 : decode cX8_isLetter 24 = .ok (.iaload, 1) := by decide +kernel
theorem dX8_isLetter_25 : decode cX8_isLetter 25 = .ok (.bipush 122, 2) := by decide +kernel
theorem dX8_isLetter_27 : decode cX8_isLetter 27 = .ok (.if_icmp .gt 7, 3) := by decide +kernel
theorem dX8_isLetter_30 : decode cX8_isLetter 30 = .ok (.iconst 1, 1) := by decide +kernel
theorem dX8_isLetter_31 : decode cX8_isLetter 31 = .ok (.goto 4, 3) := by decide +kernel
theorem dX8_isLetter_34 : decode cX8_isLetter 34 = .ok (.iconst 0, 1) := by decide +kernel
theorem dX8_isLetter_35 : decode cX8_isLetter 35 = .ok (.ireturn, 1) := by decide +kernel
theorem dX8_isFigure_0 : decode cX8_isFigure 0 = .ok (.iload_n 1, 1) := by decide +kernel
theorem dX8_isFigure_1 : decode cX8_isFigure 1 = .ok (.aload_n 0, 1) := by decide +kernel
theorem dX8_isFigure_2 : decode cX8_isFigure 2 = .ok (.getfield 190, 3) := by decide +kernel
theorem dX8_isFigure_5 : decode cX8_isFigure 5 = .ok (.if_icmp .ge 29, 3) := by decide +kernel
theorem dX8_isFigure_8 : decode cX8_isFigure 8 = .ok (.aload_n 0, 1) := by decide +kernel
theorem dX8_isFigure_9 : decode cX8_isFigure 9 = .ok (.getfield 26, 3) := by decide +kernel
theorem dX8_isFigure_12 : decode cX8_isFigure 12 = .ok (.iload_n 1, 1) := by decide +kernel
theorem dX8_isFigure_13 : decode cX8_isFigure 13 = .ok (.iaload, 1) := by decide +kernel
theorem dX8_isFigure_14 : decode cX8_isFigure 14 = .ok (.bipush 48, 2) := by decide +kernel
theorem dX8_isFigure_16 : decode cX8_isFigure 16 = .ok (.if_icmp .lt 18, 3) := by decide +kernel
theorem dX8_isFigure_19 : decode cX8_isFigure 19 = .ok (.aload_n 0, 1) := by decide +kernel
theorem dX8_isFigure_20 : decode cX8_isFigure 20 = .ok (.getfield 26, 3) := by decide +kernel
theorem dX8_isFigure_23 : decode cX8_isFigure 23 = .ok (.iload_n 1, 1) := by decide +kernel
theorem dX8_isFigure_24 : decode cX8_isFigure 24 = .ok (.iaload, 1) := by decide +kernel
theorem dX8_isFigure_25 : decode cX8_isFigure 25 = .ok (.bipush 57, 2) := by decide +kernel
theorem dX8_isFigure_27 : decode cX8_isFigure 27 = .ok (.if_icmp .gt 7, 3) := by decide +kernel
theorem dX8_isFigure_30 : decode cX8_isFigure 30 = .ok (.iconst 1, 1) := by decide +kernel
theorem dX8_isFigure_31 : decode cX8_isFigure 31 = .ok (.goto 4, 3) := by decide +kernel
theorem dX8_isFigure_34 : decode cX8_isFigure 34 = .ok (.iconst 0, 1) := by decide +kernel
theorem dX8_isFigure_35 : decode cX8_isFigure 35 = .ok (.ireturn, 1) := by decide +kernel
theorem dX8_go_0 : decode cX8_go 0 = .ok (.aload_n 0, 1) := by decide +kernel
theorem dX8_go_1 : decode cX8_go 1 = .ok (.getfield 193, 3) := by decide +kernel
theorem dX8_go_4 : decode cX8_go 4 = .ok (.aload_n 0, 1) := by decide +kernel
theorem dX8_go_5 : decode cX8_go 5 = .ok (.getfield 190, 3) := by decide +kernel
theorem dX8_go_8 : decode cX8_go 8 = .ok (.if_icmp .ge 30, 3) := by decide +kernel
theorem dX8_go_11 : decode cX8_go 11 = .ok (.aload_n 0, 1) := by decide +kernel
theorem dX8_go_12 : decode cX8_go 12 = .ok (.getfield 26, 3) := by decide +kernel
theorem dX8_go_15 : decode cX8_go 15 = .ok (.aload_n 0, 1) := by decide +kernel
theorem dX8_go_16 : decode cX8_go 16 = .ok (.getfield 193, 3) := by decide +kernel
theorem dX8_go_19 : decode cX8_go 19 = .ok (.iaload, 1) := by decide +kernel
theorem dX8_go_20 : decode cX8_go 20 = .ok (.bipush 32, 2) := by decide +kernel
theorem dX8_go_22 : decode cX8_go 22 = .ok (.if_icmp .ne 16, 3) := by decide +kernel
theorem dX8_go_25 : decode cX8_go 25 = .ok (.aload_n 0, 1) := by decide +kernel
theorem dX8_go_26 : decode cX8_go 26 = .ok (.dup, 1) := by decide +kernel
theorem dX8_go_27 : decode cX8_go 27 = .ok (.getfield 193, 3) := by decide +kernel
theorem dX8_go_30 : decode cX8_go 30 = .ok (.iconst 1, 1) := by decide +kernel
theorem dX8_go_31 : decode cX8_go 31 = .ok (.iadd, 1) := by decide +kernel
theorem dX8_go_32 : decode cX8_go 32 = .ok (.putfield 193, 3) := by decide +kernel
theorem dX8_go_35 : decode cX8_go 35 = .ok (.goto (-35), 3) := by decide +kernel
theorem dX8_go_38 : decode cX8_go 38 = .ok (.aload_n 0, 1) := by decide +kernel
theorem dX8_go_39 : decode cX8_go 39 = .ok (.aload_n 0, 1) := by decide +kernel
theorem dX8_go_40 : decode cX8_go 40 = .ok (.getfield 193, 3) := by decide +kernel
theorem dX8_go_43 : decode cX8_go 43 = .ok (.putfield 196, 3) := by decide +kernel
theorem dX8_go_46 : decode cX8_go 46 = .ok (.aload_n 0, 1) := by decide +kernel
theorem dX8_go_47 : decode cX8_go 47 = .ok (.getfield 196, 3) := by decide +kernel
theorem dX8_go_50 : decode cX8_go 50 = .ok (.aload_n 0, 1) := by decide +kernel
theorem dX8_go_51 : decode cX8_go 51 = .ok (.getfield 199, 3) := by decide +kernel
theorem dX8_go_54 : decode cX8_go 54 = .ok (.if_icmp .ne 7, 3) := by decide +kernel
theorem dX8_go_57 : decode cX8_go 57 = .ok (.iconst 1, 1) := by decide +kernel
theorem dX8_go_58 : decode cX8_go 58 = .ok (.goto 4, 3) := by decide +kernel
theorem dX8_go_61 : decode cX8_go 61 = .ok (.iconst 0, 1) := by decide +kernel
theorem dX8_go_62 : decode cX8_go 62 = .ok (.istore_n 1, 1) := by decide +kernel
theorem dX8_go_63 : decode cX8_go 63 = .ok (.aload_n 0, 1) := by decide +kernel
theorem dX8_go_64 : decode cX8_go 64 = .ok (.getfield 196, 3) := by decide +kernel
theorem dX8_go_67 : decode cX8_go 67 = .ok (.aload_n 0, 1) := by decide +kernel
theorem dX8_go_68 : decode cX8_go 68 = .ok (.getfield 190, 3) := by decide +kernel
theorem dX8_go_71 : decode cX8_go 71 = .ok (.if_icmp .ne 11, 3) := by decide +kernel
theorem dX8_go_74 : decode cX8_go 74 = .ok (.aload_n 0, 1) := by decide +kernel
theorem dX8_go_75 : decode cX8_go 75 = .ok (.iconst 0, 1) := by decide +kernel
theorem dX8_go_76 : decode cX8_go 76 = .ok (.putfield 202, 3) := by decide +kernel
theorem dX8_go_79 : decode cX8_go 79 = .ok (.goto 224, 3) := by decide +kernel
theorem dX8_go_82 : decode cX8_go 82 = .ok (.aload_n 0, 1) := by decide +kernel
theorem dX8_go_83 : decode cX8_go 83 = .ok (.aload_n 0, 1) := by decide +kernel
theorem dX8_go_84 : decode cX8_go 84 = .ok (.getfield 196, 3) := by decide +kernel
theorem dX8_go_87 : decode cX8_go 87 = .ok (.invokevirtual 205, 3) := by decide +kernel
theorem dX8_go_90 : decode cX8_go 90 = .ok (.ifCond .eq 64, 3) := by decide +kernel
theorem dX8_go_93 : decode cX8_go 93 = .ok (.aload_n 0, 1) := by decide +kernel
theorem dX8_go_94 : decode cX8_go 94 = .ok (.aload_n 0, 1) := by decide +kernel
theorem dX8_go_95 : decode cX8_go 95 = .ok (.getfield 193, 3) := by decide +kernel
theorem dX8_go_98 : decode cX8_go 98 = .ok (.invokevirtual 205, 3) := by decide +kernel
theorem dX8_go_101 : decode cX8_go 101 = .ok (.ifCond .eq 16, 3) := by decide +kernel
theorem dX8_go_104 : decode cX8_go 104 = .ok (.aload_n 0, 1) := by decide +kernel
theorem dX8_go_105 : decode cX8_go 105 = .ok (.dup, 1) := by decide +kernel
theorem dX8_go_106 : decode cX8_go 106 = .ok (.getfield 193, 3) := by decide +kernel
theorem dX8_go_109 : decode cX8_go 109 = .ok (.iconst 1, 1) := by decide +kernel
theorem dX8_go_110 : decode cX8_go 110 = .ok (.iadd, 1) := by decide +kernel
theorem dX8_go_111 : decode cX8_go 111 = .ok (.putfield 193, 3) := by decide +kernel
theorem dX8_go_114 : decode cX8_go 114 = .ok (.goto (-21), 3) := by decide +kernel
theorem dX8_go_117 : decode cX8_go 117 = .ok (.aload_n 0, 1) := by decide +kernel
theorem dX8_go_118 : decode cX8_go 118 = .ok (.iload_n 1, 1) := by decide +kernel
theorem dX8_go_119 : decode cX8_go 119 = .ok (.ifCond .eq 7, 3) := by decide +kernel
theorem dX8_go_122 : decode cX8_go 122 = .ok (.iconst 4, 1) := by decide +kernel
theorem dX8_go_123 : decode cX8_go 123 = .ok (.goto 4, 3) := by decide +kernel
theorem dX8_go_126 : decode cX8_go 126 = .ok (.iconst 1, 1) := by decide +kernel
theorem dX8_go_127 : decode cX8_go 127 = .ok (.putfield 202, 3) := by decide +kernel
theorem dX8_go_130 : decode cX8_go 130 = .ok (.aload_n 0, 1) := by decide +kernel
theorem dX8_go_131 : decode cX8_go 131 = .ok (.aload_n 0, 1) := by decide +kernel
theorem dX8_go_132 : decode cX8_go 132 = .ok (.getfield 26, 3) := by decide +kernel
theorem dX8_go_135 : decode cX8_go 135 = .ok (.aload_n 0, 1) := by decide +kernel
theorem dX8_go_136 : decode cX8_go 136 = .ok (.getfield 196, 3) := by decide +kernel
theorem dX8_go_139 : decode cX8_go 139 = .ok (.iaload, 1) := by decide +kernel
theorem dX8_go_140 : decode cX8_go 140 = .ok (.putfield 208, 3) := by decide +kernel
theorem dX8_go_143 : decode cX8_go 143 = .ok (.aload_n 0, 1) := by decide +kernel
theorem dX8_go_144 : decode cX8_go 144 = .ok (.aload_n 0, 1) := by decide +kernel
theorem dX8_go_145 : decode cX8_go 145 = .ok (.getfield 193, 3) := by decide +kernel
theorem dX8_go_148 : decode cX8_go 148 = .ok (.putfield 199, 3) := by decide +kernel
theorem dX8_go_151 : decode cX8_go 151 = .ok (.goto 152, 3) := by decide +kernel
theorem dX8_go_154 : decode cX8_go 154 = .ok (.aload_n 0, 1) := by decide +kernel
theorem dX8_go_155 : decode cX8_go 155 = .ok (.aload_n 0, 1) := by decide +kernel
theorem dX8_go_156 : decode cX8_go 156 = .ok (.getfield 196, 3) := by decide +kernel
theorem dX8_go_159 : decode cX8_go 159 = .ok (.invokevirtual 211, 3) := by decide +kernel
theorem dX8_go_162 : decode cX8_go 162 = .ok (.ifCond .eq 113, 3) := by decide +kernel
theorem dX8_go_165 : decode cX8_go 165 = .ok (.aload_n 0, 1) := by decide +kernel
theorem dX8_go_166 : decode cX8_go 166 = .ok (.iconst 0, 1) := by decide +kernel
theorem dX8_go_167 : decode cX8_go 167 = .ok (.putfield 208, 3) := by decide +kernel
theorem dX8_go_170 : decode cX8_go 170 = .ok (.aload_n 0, 1) := by decide +kernel
theorem dX8_go_171 : decode cX8_go 171 = .ok (.aload_n 0, 1) := by decide +kernel
theorem dX8_go_172 : decode cX8_go 172 = .ok (.getfield 193, 3) := by decide +kernel
theorem dX8_go_175 : decode cX8_go 175 = .ok (.invokevirtual 211, 3) := by decide +kernel
theorem dX8_go_178 : decode cX8_go 178 = .ok (.ifCond .eq 60, 3) := by decide +kernel
theorem dX8_go_181 : decode cX8_go 181 = .ok (.aload_n 0, 1) := by decide +kernel
theorem dX8_go_182 : decode cX8_go 182 = .ok (.aload_n 0, 1) := by decide +kernel
theorem dX8_go_183 : decode cX8_go 183 = .ok (.getfield 193, 3) := by decide +kernel
theorem dX8_go_186 : decode cX8_go 186 = .ok (.aload_n 0, 1) := by decide +kernel
theorem dX8_go_187 : decode cX8_go 187 = .ok (.getfield 196, 3) := by decide +kernel
theorem dX8_go_190 : decode cX8_go 190 = .ok (.isub, 1) := by decide +kernel
theorem dX8_go_191 : decode cX8_go 191 = .ok (.iconst 4, 1) := by decide +kernel
theorem dX8_go_192 : decode cX8_go 192 = .ok (.if_icmp .ge 26, 3) := by decide +kernel
theorem dX8_go_195 : decode cX8_go 195 = .ok (.bipush 10, 2) := by decide +kernel
theorem dX8_go_197 : decode cX8_go 197 = .ok (.aload_n 0, 1) := by decide +kernel
theorem dX8_go_198 : decode cX8_go 198 = .ok (.getfield 208, 3) := by decide +kernel
theorem dX8_go_201 : decode cX8_go 201 = .ok (.imul, 1) := by decide +kernel
theorem dX8_go_202 : decode cX8_go 202 = .ok (.aload_n 0, 1) := by decide +kernel
theorem dX8_go_203 : decode cX8_go 203 = .ok (.getfield 26, 3) := by decide +kernel
theorem dX8_go_206 : decode cX8_go 206 = .ok (.aload_n 0, 1) := by decide +kernel
theorem dX8_go_207 : decode cX8_go 207 = .ok (.getfield 193, 3) := by decide +kernel
theorem dX8_go_210 : decode cX8_go 210 = .ok (.iaload, 1) := by decide +kernel
theorem dX8_go_211 : decode cX8_go 211 = .ok (.iadd, 1) := by decide +kernel
theorem dX8_go_212 : decode cX8_go 212 = .ok (.bipush 48, 2) := by decide +kernel
theorem dX8_go_214 : decode cX8_go 214 = .ok (.isub, 1) := by decide +kernel
theorem dX8_go_215 : decode cX8_go 215 = .ok (.goto 7, 3) := by decide +kernel
theorem dX8_go_218 : decode cX8_go 218 = .ok (.aload_n 0, 1) := by decide +kernel
theorem dX8_go_219 : decode cX8_go 219 = .ok (.getfield 208, 3) := by decide +kernel
theorem dX8_go_222 : decode cX8_go 222 = .ok (.putfield 208, 3) := by decide +kernel
theorem dX8_go_225 : decode cX8_go 225 = .ok (.aload_n 0, 1) := by decide +kernel
theorem dX8_go_226 : decode cX8_go 226 = .ok (.dup, 1) := by decide +kernel
theorem dX8_go_227 : decode cX8_go 227 = .ok (.getfield 193, 3) := by decide +kernel
theorem dX8_go_230 : decode cX8_go 230 = .ok (.iconst 1, 1) := by decide +kernel
theorem dX8_go_231 : decode cX8_go 231 = .ok (.iadd, 1) := by decide +kernel
theorem dX8_go_232 : decode cX8_go 232 = .ok (.putfield 193, 3) := by decide +kernel
theorem dX8_go_235 : decode cX8_go 235 = .ok (.goto (-65), 3) := by decide +kernel
theorem dX8_go_238 : decode cX8_go 238 = .ok (.aload_n 0, 1) := by decide +kernel
theorem dX8_go_239 : decode cX8_go 239 = .ok (.iload_n 1, 1) := by decide +kernel
theorem dX8_go_240 : decode cX8_go 240 = .ok (.ifCond .ne 16, 3) := by decide +kernel
theorem dX8_go_243 : decode cX8_go 243 = .ok (.aload_n 0, 1) := by decide +kernel
theorem dX8_go_244 : decode cX8_go 244 = .ok (.getfield 193, 3) := by decide +kernel
theorem dX8_go_247 : decode cX8_go 247 = .ok (.aload_n 0, 1) := by decide +kernel
theorem dX8_go_248 : decode cX8_go 248 = .ok (.getfield 196, 3) := by decide +kernel
theorem dX8_go_251 : decode cX8_go 251 = .ok (.isub, 1) := by decide +kernel
theorem dX8_go_252 : decode cX8_go 252 = .ok (.iconst 4, 1) := by decide +kernel
theorem dX8_go_253 : decode cX8_go 253 = .ok (.if_icmp .le 7, 3) := by decide +kernel
theorem dX8_go_256 : decode cX8_go 256 = .ok (.iconst 4, 1) := by decide +kernel
theorem dX8_go_257 : decode cX8_go 257 = .ok (.goto 4, 3) := by decide +kernel
theorem dX8_go_260 : decode cX8_go 260 = .ok (.iconst 2, 1) := by decide +kernel
theorem dX8_go_261 : decode cX8_go 261 = .ok (.putfield 202, 3) := by decide +kernel
theorem dX8_go_264 : decode cX8_go 264 = .ok (.aload_n 0, 1) := by decide +kernel
theorem dX8_go_265 : decode cX8_go 265 = .ok (.aload_n 0, 1) := by decide +kernel
theorem dX8_go_266 : decode cX8_go 266 = .ok (.getfield 193, 3) := by decide +kernel
theorem dX8_go_269 : decode cX8_go 269 = .ok (.putfield 199, 3) := by decide +kernel
theorem dX8_go_272 : decode cX8_go 272 = .ok (.goto 31, 3) := by decide +kernel
theorem dX8_go_275 : decode cX8_go 275 = .ok (.aload_n 0, 1) := by decide +kernel
theorem dX8_go_276 : decode cX8_go 276 = .ok (.iconst 3, 1) := by decide +kernel
theorem dX8_go_277 : decode cX8_go 277 = .ok (.putfield 202, 3) := by decide +kernel
theorem dX8_go_280 : decode cX8_go 280 = .ok (.aload_n 0, 1) := by decide +kernel
theorem dX8_go_281 : decode cX8_go 281 = .ok (.aload_n 0, 1) := by decide +kernel
theorem dX8_go_282 : decode cX8_go 282 = .ok (.getfield 26, 3) := by decide +kernel
theorem dX8_go_285 : decode cX8_go 285 = .ok (.aload_n 0, 1) := by decide +kernel
theorem dX8_go_286 : decode cX8_go 286 = .ok (.getfield 196, 3) := by decide +kernel
theorem dX8_go_289 : decode cX8_go 289 = .ok (.iaload, 1) := by decide +kernel
theorem dX8_go_290 : decode cX8_go 290 = .ok (.putfield 208, 3) := by decide +kernel
theorem dX8_go_293 : decode cX8_go 293 = .ok (.aload_n 0, 1) := by decide +kernel
theorem dX8_go_294 : decode cX8_go 294 = .ok (.dup, 1) := by decide +kernel
theorem dX8_go_295 : decode cX8_go 295 = .ok (.getfield 193, 3) := by decide +kernel
theorem dX8_go_298 : decode cX8_go 298 = .ok (.iconst 1, 1) := by decide +kernel
theorem dX8_go_299 : decode cX8_go 299 = .ok (.iadd, 1) := by decide +kernel
theorem dX8_go_300 : decode cX8_go 300 = .ok (.putfield 193, 3) := by decide +kernel
theorem dX8_go_303 : decode cX8_go 303 = .ok (.return_, 1) := by decide +kernel
theorem dX8_takesKey_0 : decode cX8_takesKey 0 = .ok (.aload_n 0, 1) := by decide +kernel
theorem dX8_takesKey_1 : decode cX8_takesKey 1 = .ok (.getfield 202, 3) := by decide +kernel
theorem dX8_takesKey_4 : decode cX8_takesKey 4 = .ok (.iconst 1, 1) := by decide +kernel
theorem dX8_takesKey_5 : decode cX8_takesKey 5 = .ok (.if_icmp .eq 5, 3) := by decide +kernel
theorem dX8_takesKey_8 : decode cX8_takesKey 8 = .ok (.iconst 0, 1) := by decide +kernel
theorem dX8_takesKey_9 : decode cX8_takesKey 9 = .ok (.ireturn, 1) := by decide +kernel
theorem dX8_takesKey_10 : decode cX8_takesKey 10 = .ok (.iconst 0, 1) := by decide +kernel
theorem dX8_takesKey_11 : decode cX8_takesKey 11 = .ok (.istore_n 1, 1) := by decide +kernel
theorem dX8_takesKey_12 : decode cX8_takesKey 12 = .ok (.iload_n 1, 1) := by decide +kernel
theorem dX8_takesKey_13 : decode cX8_takesKey 13 = .ok (.iconst 3, 1) := by decide +kernel
theorem dX8_takesKey_14 : decode cX8_takesKey 14 = .ok (.if_icmp .ge 113, 3) := by decide +kernel
theorem dX8_takesKey_17 : decode cX8_takesKey 17 = .ok (.aload_n 0, 1) := by decide +kernel
theorem dX8_takesKey_18 : decode cX8_takesKey 18 = .ok (.getfield 33, 3) := by decide +kernel
theorem dX8_takesKey_21 : decode cX8_takesKey 21 = .ok (.iload_n 1, 1) := by decide +kernel
theorem dX8_takesKey_22 : decode cX8_takesKey 22 = .ok (.iconst 1, 1) := by decide +kernel
theorem dX8_takesKey_23 : decode cX8_takesKey 23 = .ok (.iadd, 1) := by decide +kernel
theorem dX8_takesKey_24 : decode cX8_takesKey 24 = .ok (.iaload, 1) := by decide +kernel
theorem dX8_takesKey_25 : decode cX8_takesKey 25 = .ok (.aload_n 0, 1) := by decide +kernel
theorem dX8_takesKey_26 : decode cX8_takesKey 26 = .ok (.getfield 33, 3) := by decide +kernel
theorem dX8_takesKey_29 : decode cX8_takesKey 29 = .ok (.iload_n 1, 1) := by decide +kernel
theorem dX8_takesKey_30 : decode cX8_takesKey 30 = .ok (.iaload, 1) := by decide +kernel
theorem dX8_takesKey_31 : decode cX8_takesKey 31 = .ok (.isub, 1) := by decide +kernel
theorem dX8_takesKey_32 : decode cX8_takesKey 32 = .ok (.istore_n 2, 1) := by decide +kernel
theorem dX8_takesKey_33 : decode cX8_takesKey 33 = .ok (.iload_n 2, 1) := by decide +kernel
theorem dX8_takesKey_34 : decode cX8_takesKey 34 = .ok (.aload_n 0, 1) := by decide +kernel
theorem dX8_takesKey_35 : decode cX8_takesKey 35 = .ok (.getfield 193, 3) := by decide +kernel
theorem dX8_takesKey_38 : decode cX8_takesKey 38 = .ok (.aload_n 0, 1) := by decide +kernel
theorem dX8_takesKey_39 : decode cX8_takesKey 39 = .ok (.getfield 196, 3) := by decide +kernel
theorem dX8_takesKey_42 : decode cX8_takesKey 42 = .ok (.isub, 1) := by decide +kernel
theorem dX8_takesKey_43 : decode cX8_takesKey 43 = .ok (.if_icmp .ne 7, 3) := by decide +kernel
theorem dX8_takesKey_46 : decode cX8_takesKey 46 = .ok (.iconst 1, 1) := by decide +kernel
theorem dX8_takesKey_47 : decode cX8_takesKey 47 = .ok (.goto 4, 3) := by decide +kernel
theorem dX8_takesKey_50 : decode cX8_takesKey 50 = .ok (.iconst 0, 1) := by decide +kernel
theorem dX8_takesKey_51 : decode cX8_takesKey 51 = .ok (.istore_n 3, 1) := by decide +kernel
theorem dX8_takesKey_52 : decode cX8_takesKey 52 = .ok (.iconst 0, 1) := by decide +kernel
theorem dX8_takesKey_53 : decode cX8_takesKey 53 = .ok (.istore 4, 2) := by decide +kernel
theorem dX8_takesKey_55 : decode cX8_takesKey 55 = .ok (.iload 4, 2) := by decide +kernel
theorem dX8_takesKey_57 : decode cX8_takesKey 57 = .ok (.iload_n 2, 1) := by decide +kernel
theorem dX8_takesKey_58 : decode cX8_takesKey 58 = .ok (.if_icmp .ge 48, 3) := by decide +kernel
theorem dX8_takesKey_61 : decode cX8_takesKey 61 = .ok (.iload_n 3, 1) := by decide +kernel
theorem dX8_takesKey_62 : decode cX8_takesKey 62 = .ok (.ifCond .eq 44, 3) := by decide +kernel
theorem dX8_takesKey_65 : decode cX8_takesKey 65 = .ok (.aload_n 0, 1) := by decide +kernel
theorem dX8_takesKey_66 : decode cX8_takesKey 66 = .ok (.getfield 26, 3) := by decide +kernel
theorem dX8_takesKey_69 : decode cX8_takesKey 69 = .ok (.aload_n 0, 1) := by decide +kernel
theorem dX8_takesKey_70 : decode cX8_takesKey 70 = .ok (.getfield 196, 3) := by decide +kernel
theorem dX8_takesKey_73 : decode cX8_takesKey 73 = .ok (.iload 4, 2) := by decide +kernel
theorem dX8_takesKey_75 : decode cX8_takesKey 75 = .ok (.iadd, 1) := by decide +kernel
theorem dX8_takesKey_76 : decode cX8_takesKey 76 = .ok (.iaload, 1) := by decide +kernel
theorem dX8_takesKey_77 : decode cX8_takesKey 77 = .ok (.aload_n 0, 1) := by decide +kernel
theorem dX8_takesKey_78 : decode cX8_takesKey 78 = .ok (.getfield 29, 3) := by decide +kernel
theorem dX8_takesKey_81 : decode cX8_takesKey 81 = .ok (.aload_n 0, 1) := by decide +kernel
theorem dX8_takesKey_82 : decode cX8_takesKey 82 = .ok (.getfield 33, 3) := by decide +kernel
theorem dX8_takesKey_85 : decode cX8_takesKey 85 = .ok (.iload_n 1, 1) := by decide +kernel
theorem dX8_takesKey_86 : decode cX8_takesKey 86 = .ok (.iaload, 1) := by decide +kernel
theorem dX8_takesKey_87 : decode cX8_takesKey 87 = .ok (.iload 4, 2) := by decide +kernel
theorem dX8_takesKey_89 : decode cX8_takesKey 89 = .ok (.iadd, 1) := by decide +kernel
theorem dX8_takesKey_90 : decode cX8_takesKey 90 = .ok (.caload, 1) := by decide +kernel
theorem dX8_takesKey_91 : decode cX8_takesKey 91 = .ok (.if_icmp .ne 7, 3) := by decide +kernel
theorem dX8_takesKey_94 : decode cX8_takesKey 94 = .ok (.iconst 1, 1) := by decide +kernel
theorem dX8_takesKey_95 : decode cX8_takesKey 95 = .ok (.goto 4, 3) := by decide +kernel
theorem dX8_takesKey_98 : decode cX8_takesKey 98 = .ok (.iconst 0, 1) := by decide +kernel
theorem dX8_takesKey_99 : decode cX8_takesKey 99 = .ok (.istore_n 3, 1) := by decide +kernel
theorem dX8_takesKey_100 : decode cX8_takesKey 100 = .ok (.iinc 4 1, 3) := by decide +kernel
theorem dX8_takesKey_103 : decode cX8_takesKey 103 = .ok (.goto (-48), 3) := by decide +kernel
theorem dX8_takesKey_106 : decode cX8_takesKey 106 = .ok (.iload_n 3, 1) := by decide +kernel
theorem dX8_takesKey_107 : decode cX8_takesKey 107 = .ok (.ifCond .eq 14, 3) := by decide +kernel
theorem dX8_takesKey_110 : decode cX8_takesKey 110 = .ok (.aload_n 0, 1) := by decide +kernel
theorem dX8_takesKey_111 : decode cX8_takesKey 111 = .ok (.iload_n 1, 1) := by decide +kernel
theorem dX8_takesKey_112 : decode cX8_takesKey 112 = .ok (.putfield 214, 3) := by decide +kernel
theorem dX8_takesKey_115 : decode cX8_takesKey 115 = .ok (.aload_n 0, 1) := by decide +kernel
theorem dX8_takesKey_116 : decode cX8_takesKey 116 = .ok (.invokevirtual 217, 3) := by decide +kernel
theorem dX8_takesKey_119 : decode cX8_takesKey 119 = .ok (.iconst 1, 1) := by decide +kernel
theorem dX8_takesKey_120 : decode cX8_takesKey 120 = .ok (.ireturn, 1) := by decide +kernel
theorem dX8_takesKey_121 : decode cX8_takesKey 121 = .ok (.iinc 1 1, 3) := by decide +kernel
theorem dX8_takesKey_124 : decode cX8_takesKey 124 = .ok (.goto (-112), 3) := by decide +kernel
theorem dX8_takesKey_127 : decode cX8_takesKey 127 = .ok (.iconst 0, 1) := by decide +kernel
theorem dX8_takesKey_128 : decode cX8_takesKey 128 = .ok (.ireturn, 1) := by decide +kernel
theorem dX8_nameOf_0 : decode cX8_nameOf 0 = .ok (.aload_n 0, 1) := by decide +kernel
theorem dX8_nameOf_1 : decode cX8_nameOf 1 = .ok (.getfield 214, 3) := by decide +kernel
theorem dX8_nameOf_4 : decode cX8_nameOf 4 = .ok (.lookupswitch 82 #[(0, 28), (1, 60)], 28) := by decide +kernel
theorem dX8_nameOf_32 : decode cX8_nameOf 32 = .ok (.iload_n 1, 1) := by decide +kernel
theorem dX8_nameOf_33 : decode cX8_nameOf 33 = .ok (.bipush 114, 2) := by decide +kernel
theorem dX8_nameOf_35 : decode cX8_nameOf 35 = .ok (.if_icmp .ne 7, 3) := by decide +kernel
theorem dX8_nameOf_38 : decode cX8_nameOf 38 = .ok (.iconst 0, 1) := by decide +kernel
theorem dX8_nameOf_39 : decode cX8_nameOf 39 = .ok (.goto 24, 3) := by decide +kernel
theorem dX8_nameOf_42 : decode cX8_nameOf 42 = .ok (.iload_n 1, 1) := by decide +kernel
theorem dX8_nameOf_43 : decode cX8_nameOf 43 = .ok (.bipush 100, 2) := by decide +kernel
theorem dX8_nameOf_45 : decode cX8_nameOf 45 = .ok (.if_icmp .ne 7, 3) := by decide +kernel
theorem dX8_nameOf_48 : decode cX8_nameOf 48 = .ok (.iconst 1, 1) := by decide +kernel
theorem dX8_nameOf_49 : decode cX8_nameOf 49 = .ok (.goto 14, 3) := by decide +kernel
theorem dX8_nameOf_52 : decode cX8_nameOf 52 = .ok (.iload_n 1, 1) := by decide +kernel
theorem dX8_nameOf_53 : decode cX8_nameOf 53 = .ok (.bipush 112, 2) := by decide +kernel
theorem dX8_nameOf_55 : decode cX8_nameOf 55 = .ok (.if_icmp .ne 7, 3) := by decide +kernel
theorem dX8_nameOf_58 : decode cX8_nameOf 58 = .ok (.iconst 2, 1) := by decide +kernel
theorem dX8_nameOf_59 : decode cX8_nameOf 59 = .ok (.goto 4, 3) := by decide +kernel
theorem dX8_nameOf_62 : decode cX8_nameOf 62 = .ok (.iconst (-1), 1) := by decide +kernel
theorem dX8_nameOf_63 : decode cX8_nameOf 63 = .ok (.ireturn, 1) := by decide +kernel
theorem dX8_nameOf_64 : decode cX8_nameOf 64 = .ok (.iload_n 1, 1) := by decide +kernel
theorem dX8_nameOf_65 : decode cX8_nameOf 65 = .ok (.bipush 108, 2) := by decide +kernel
theorem dX8_nameOf_67 : decode cX8_nameOf 67 = .ok (.if_icmp .ne 7, 3) := by decide +kernel
theorem dX8_nameOf_70 : decode cX8_nameOf 70 = .ok (.iconst 0, 1) := by decide +kernel
theorem dX8_nameOf_71 : decode cX8_nameOf 71 = .ok (.goto 14, 3) := by decide +kernel
theorem dX8_nameOf_74 : decode cX8_nameOf 74 = .ok (.iload_n 1, 1) := by decide +kernel
theorem dX8_nameOf_75 : decode cX8_nameOf 75 = .ok (.bipush 115, 2) := by decide +kernel
theorem dX8_nameOf_77 : decode cX8_nameOf 77 = .ok (.if_icmp .ne 7, 3) := by decide +kernel
theorem dX8_nameOf_80 : decode cX8_nameOf 80 = .ok (.iconst 1, 1) := by decide +kernel
theorem dX8_nameOf_81 : decode cX8_nameOf 81 = .ok (.goto 4, 3) := by decide +kernel
theorem dX8_nameOf_84 : decode cX8_nameOf 84 = .ok (.iconst (-1), 1) := by decide +kernel
theorem dX8_nameOf_85 : decode cX8_nameOf 85 = .ok (.ireturn, 1) := by decide +kernel
theorem dX8_nameOf_86 : decode cX8_nameOf 86 = .ok (.iload_n 1, 1) := by decide +kernel
theorem dX8_nameOf_87 : decode cX8_nameOf 87 = .ok (.bipush 112, 2) := by decide +kernel
theorem dX8_nameOf_89 : decode cX8_nameOf 89 = .ok (.if_icmp .ne 7, 3) := by decide +kernel
theorem dX8_nameOf_92 : decode cX8_nameOf 92 = .ok (.iconst 0, 1) := by decide +kernel
theorem dX8_nameOf_93 : decode cX8_nameOf 93 = .ok (.goto 14, 3) := by decide +kernel
theorem dX8_nameOf_96 : decode cX8_nameOf 96 = .ok (.iload_n 1, 1) := by decide +kernel
theorem dX8_nameOf_97 : decode cX8_nameOf 97 = .ok (.bipush 100, 2) := by decide +kernel
theorem dX8_nameOf_99 : decode cX8_nameOf 99 = .ok (.if_icmp .ne 7, 3) := by decide +kernel
theorem dX8_nameOf_102 : decode cX8_nameOf 102 = .ok (.iconst 1, 1) := by decide +kernel
theorem dX8_nameOf_103 : decode cX8_nameOf 103 = .ok (.goto 4, 3) := by decide +kernel
theorem dX8_nameOf_106 : decode cX8_nameOf 106 = .ok (.iconst (-1), 1) := by decide +kernel
theorem dX8_nameOf_107 : decode cX8_nameOf 107 = .ok (.ireturn, 1) := by decide +kernel
theorem dX8_rank_0 : decode cX8_rank 0 = .ok (.iload_n 0, 1) := by decide +kernel
theorem dX8_rank_1 : decode cX8_rank 1 = .ok (.iconst (-1), 1) := by decide +kernel
theorem dX8_rank_2 : decode cX8_rank 2 = .ok (.if_icmp .ne 7, 3) := by decide +kernel
theorem dX8_rank_5 : decode cX8_rank 5 = .ok (.iconst 1, 1) := by decide +kernel
theorem dX8_rank_6 : decode cX8_rank 6 = .ok (.goto 45, 3) := by decide +kernel
theorem dX8_rank_9 : decode cX8_rank 9 = .ok (.iload_n 0, 1) := by decide +kernel
theorem dX8_rank_10 : decode cX8_rank 10 = .ok (.bipush (-2), 2) := by decide +kernel
theorem dX8_rank_12 : decode cX8_rank 12 = .ok (.if_icmp .ne 7, 3) := by decide +kernel
theorem dX8_rank_15 : decode cX8_rank 15 = .ok (.iconst 2, 1) := by decide +kernel
theorem dX8_rank_16 : decode cX8_rank 16 = .ok (.goto 35, 3) := by decide +kernel
theorem dX8_rank_19 : decode cX8_rank 19 = .ok (.iload_n 0, 1) := by decide +kernel
theorem dX8_rank_20 : decode cX8_rank 20 = .ok (.bipush (-5), 2) := by decide +kernel
theorem dX8_rank_22 : decode cX8_rank 22 = .ok (.if_icmp .lt 7, 3) := by decide +kernel
theorem dX8_rank_25 : decode cX8_rank 25 = .ok (.iconst 3, 1) := by decide +kernel
theorem dX8_rank_26 : decode cX8_rank 26 = .ok (.goto 25, 3) := by decide +kernel
theorem dX8_rank_29 : decode cX8_rank 29 = .ok (.iload_n 0, 1) := by decide +kernel
theorem dX8_rank_30 : decode cX8_rank 30 = .ok (.bipush (-7), 2) := by decide +kernel
theorem dX8_rank_32 : decode cX8_rank 32 = .ok (.if_icmp .lt 7, 3) := by decide +kernel
theorem dX8_rank_35 : decode cX8_rank 35 = .ok (.iconst 4, 1) := by decide +kernel
theorem dX8_rank_36 : decode cX8_rank 36 = .ok (.goto 15, 3) := by decide +kernel
theorem dX8_rank_39 : decode cX8_rank 39 = .ok (.iload_n 0, 1) := by decide +kernel
theorem dX8_rank_40 : decode cX8_rank 40 = .ok (.bipush (-9), 2) := by decide +kernel
theorem dX8_rank_42 : decode cX8_rank 42 = .ok (.if_icmp .lt 7, 3) := by decide +kernel
theorem dX8_rank_45 : decode cX8_rank 45 = .ok (.iconst 5, 1) := by decide +kernel
theorem dX8_rank_46 : decode cX8_rank 46 = .ok (.goto 5, 3) := by decide +kernel
theorem dX8_rank_49 : decode cX8_rank 49 = .ok (.bipush 6, 2) := by decide +kernel
theorem dX8_rank_51 : decode cX8_rank 51 = .ok (.ireturn, 1) := by decide +kernel
theorem dX8_settle_0 : decode cX8_settle 0 = .ok (.aload_n 0, 1) := by decide +kernel
theorem dX8_settle_1 : decode cX8_settle 1 = .ok (.getfield 220, 3) := by decide +kernel
theorem dX8_settle_4 : decode cX8_settle 4 = .ok (.ifCond .le 78, 3) := by decide +kernel
theorem dX8_settle_7 : decode cX8_settle 7 = .ok (.aload_n 0, 1) := by decide +kernel
theorem dX8_settle_8 : decode cX8_settle 8 = .ok (.getfield 39, 3) := by decide +kernel
theorem dX8_settle_11 : decode cX8_settle 11 = .ok (.aload_n 0, 1) := by decide +kernel
theorem dX8_settle_12 : decode cX8_settle 12 = .ok (.getfield 220, 3) := by decide +kernel
theorem dX8_settle_15 : decode cX8_settle 15 = .ok (.iconst 1, 1) := by decide +kernel
theorem dX8_settle_16 : decode cX8_settle 16 = .ok (.isub, 1) := by decide +kernel
theorem dX8_settle_17 : decode cX8_settle 17 = .ok (.iaload, 1) := by decide +kernel
theorem dX8_settle_18 : decode cX8_settle 18 = .ok (.bipush (-11), 2) := by decide +kernel
theorem dX8_settle_20 : decode cX8_settle 20 = .ok (.if_icmp .eq 62, 3) := by decide +kernel
theorem dX8_settle_23 : decode cX8_settle 23 = .ok (.aload_n 0, 1) := by decide +kernel
theorem dX8_settle_24 : decode cX8_settle 24 = .ok (.getfield 39, 3) := by decide +kernel
end
section
theorem dX8_settle_27 : decode cX8_settle 27 = .ok (.aload_n 0, 1) := by decide +kernel
theorem dX8_settle_28 : decode cX8_settle 28 = .ok (.getfield 220, 3) := by decide +kernel
theorem dX8_settle_31 : decode cX8_settle 31 = .ok (.iconst 1, 1) := by decide +kernel
theorem dX8_settle_32 : decode cX8_settle 32 = .ok (.isub, 1) := by decide +kernel
theorem dX8_settle_33 : decode cX8_settle 33 = .ok (.iaload, 1) := by decide +kernel
theorem dX8_settle_34 : decode cX8_settle 34 = .ok (.invokestatic 223, 3) := by decide +kernel
theorem dX8_settle_37 : decode cX8_settle 37 = .ok (.iload_n 1, 1) := by decide +kernel
theorem dX8_settle_38 : decode cX8_settle 38 = .ok (.if_icmp .lt 44, 3) := by decide +kernel
theorem dX8_settle_41 : decode cX8_settle 41 = .ok (.aload_n 0, 1) := by decide +kernel
theorem dX8_settle_42 : decode cX8_settle 42 = .ok (.dup, 1) := by decide +kernel
theorem dX8_settle_43 : decode cX8_settle 43 = .ok (.getfield 220, 3) := by decide +kernel
theorem dX8_settle_46 : decode cX8_settle 46 = .ok (.iconst 1, 1) := by decide +kernel
theorem dX8_settle_47 : decode cX8_settle 47 = .ok (.isub, 1) := by decide +kernel
theorem dX8_settle_48 : decode cX8_settle 48 = .ok (.putfield 220, 3) := by decide +kernel
theorem dX8_settle_51 : decode cX8_settle 51 = .ok (.aload_n 0, 1) := by decide +kernel
theorem dX8_settle_52 : decode cX8_settle 52 = .ok (.getfield 36, 3) := by decide +kernel
theorem dX8_settle_55 : decode cX8_settle 55 = .ok (.aload_n 0, 1) := by decide +kernel
theorem dX8_settle_56 : decode cX8_settle 56 = .ok (.getfield 226, 3) := by decide +kernel
theorem dX8_settle_59 : decode cX8_settle 59 = .ok (.aload_n 0, 1) := by decide +kernel
theorem dX8_settle_60 : decode cX8_settle 60 = .ok (.getfield 39, 3) := by decide +kernel
theorem dX8_settle_63 : decode cX8_settle 63 = .ok (.aload_n 0, 1) := by decide +kernel
theorem dX8_settle_64 : decode cX8_settle 64 = .ok (.getfield 220, 3) := by decide +kernel
theorem dX8_settle_67 : decode cX8_settle 67 = .ok (.iaload, 1) := by decide +kernel
theorem dX8_settle_68 : decode cX8_settle 68 = .ok (.iastore, 1) := by decide +kernel
theorem dX8_settle_69 : decode cX8_settle 69 = .ok (.aload_n 0, 1) := by decide +kernel
theorem dX8_settle_70 : decode cX8_settle 70 = .ok (.dup, 1) := by decide +kernel
theorem dX8_settle_71 : decode cX8_settle 71 = .ok (.getfield 226, 3) := by decide +kernel
theorem dX8_settle_74 : decode cX8_settle 74 = .ok (.iconst 1, 1) := by decide +kernel
theorem dX8_settle_75 : decode cX8_settle 75 = .ok (.iadd, 1) := by decide +kernel
theorem dX8_settle_76 : decode cX8_settle 76 = .ok (.putfield 226, 3) := by decide +kernel
theorem dX8_settle_79 : decode cX8_settle 79 = .ok (.goto (-79), 3) := by decide +kernel
theorem dX8_settle_82 : decode cX8_settle 82 = .ok (.return_, 1) := by decide +kernel
theorem dX8_signHere_0 : decode cX8_signHere 0 = .ok (.aload_n 0, 1) := by decide +kernel
theorem dX8_signHere_1 : decode cX8_signHere 1 = .ok (.getfield 202, 3) := by decide +kernel
theorem dX8_signHere_4 : decode cX8_signHere 4 = .ok (.iconst 3, 1) := by decide +kernel
theorem dX8_signHere_5 : decode cX8_signHere 5 = .ok (.if_icmp .eq 5, 3) := by decide +kernel
theorem dX8_signHere_8 : decode cX8_signHere 8 = .ok (.iconst 0, 1) := by decide +kernel
theorem dX8_signHere_9 : decode cX8_signHere 9 = .ok (.ireturn, 1) := by decide +kernel
theorem dX8_signHere_10 : decode cX8_signHere 10 = .ok (.aload_n 0, 1) := by decide +kernel
theorem dX8_signHere_11 : decode cX8_signHere 11 = .ok (.getfield 208, 3) := by decide +kernel
theorem dX8_signHere_14 : decode cX8_signHere 14 = .ok (.lookupswitch 108 #[(38, 84), (42, 102), (43, 96), (45, 99), (47, 105), (60, 87), (61, 90), (62, 93), (124, 82)], 82) := by decide +kernel
theorem dX8_signHere_96 : decode cX8_signHere 96 = .ok (.iconst (-1), 1) := by decide +kernel
theorem dX8_signHere_97 : decode cX8_signHere 97 = .ok (.ireturn, 1) := by decide +kernel
theorem dX8_signHere_98 : decode cX8_signHere 98 = .ok (.bipush (-2), 2) := by decide +kernel
theorem dX8_signHere_100 : decode cX8_signHere 100 = .ok (.ireturn, 1) := by decide +kernel
theorem dX8_signHere_101 : decode cX8_signHere 101 = .ok (.bipush (-3), 2) := by decide +kernel
theorem dX8_signHere_103 : decode cX8_signHere 103 = .ok (.ireturn, 1) := by decide +kernel
theorem dX8_signHere_104 : decode cX8_signHere 104 = .ok (.bipush (-4), 2) := by decide +kernel
theorem dX8_signHere_106 : decode cX8_signHere 106 = .ok (.ireturn, 1) := by decide +kernel
theorem dX8_signHere_107 : decode cX8_signHere 107 = .ok (.bipush (-5), 2) := by decide +kernel
theorem dX8_signHere_109 : decode cX8_signHere 109 = .ok (.ireturn, 1) := by decide +kernel
theorem dX8_signHere_110 : decode cX8_signHere 110 = .ok (.bipush (-6), 2) := by decide +kernel
theorem dX8_signHere_112 : decode cX8_signHere 112 = .ok (.ireturn, 1) := by decide +kernel
theorem dX8_signHere_113 : decode cX8_signHere 113 = .ok (.bipush (-7), 2) := by decide +kernel
theorem dX8_signHere_115 : decode cX8_signHere 115 = .ok (.ireturn, 1) := by decide +kernel
theorem dX8_signHere_116 : decode cX8_signHere 116 = .ok (.bipush (-8), 2) := by decide +kernel
theorem dX8_signHere_118 : decode cX8_signHere 118 = .ok (.ireturn, 1) := by decide +kernel
theorem dX8_signHere_119 : decode cX8_signHere 119 = .ok (.bipush (-9), 2) := by decide +kernel
theorem dX8_signHere_121 : decode cX8_signHere 121 = .ok (.ireturn, 1) := by decide +kernel
theorem dX8_signHere_122 : decode cX8_signHere 122 = .ok (.iconst 0, 1) := by decide +kernel
theorem dX8_signHere_123 : decode cX8_signHere 123 = .ok (.ireturn, 1) := by decide +kernel
theorem dX8_takesPart_0 : decode cX8_takesPart 0 = .ok (.aload_n 0, 1) := by decide +kernel
theorem dX8_takesPart_1 : decode cX8_takesPart 1 = .ok (.getfield 202, 3) := by decide +kernel
theorem dX8_takesPart_4 : decode cX8_takesPart 4 = .ok (.iconst 1, 1) := by decide +kernel
theorem dX8_takesPart_5 : decode cX8_takesPart 5 = .ok (.if_icmp .ne 31, 3) := by decide +kernel
theorem dX8_takesPart_8 : decode cX8_takesPart 8 = .ok (.aload_n 0, 1) := by decide +kernel
theorem dX8_takesPart_9 : decode cX8_takesPart 9 = .ok (.getfield 193, 3) := by decide +kernel
theorem dX8_takesPart_12 : decode cX8_takesPart 12 = .ok (.aload_n 0, 1) := by decide +kernel
theorem dX8_takesPart_13 : decode cX8_takesPart 13 = .ok (.getfield 196, 3) := by decide +kernel
theorem dX8_takesPart_16 : decode cX8_takesPart 16 = .ok (.isub, 1) := by decide +kernel
theorem dX8_takesPart_17 : decode cX8_takesPart 17 = .ok (.iconst 1, 1) := by decide +kernel
theorem dX8_takesPart_18 : decode cX8_takesPart 18 = .ok (.if_icmp .ne 18, 3) := by decide +kernel
theorem dX8_takesPart_21 : decode cX8_takesPart 21 = .ok (.aload_n 0, 1) := by decide +kernel
theorem dX8_takesPart_22 : decode cX8_takesPart 22 = .ok (.aload_n 0, 1) := by decide +kernel
theorem dX8_takesPart_23 : decode cX8_takesPart 23 = .ok (.getfield 208, 3) := by decide +kernel
theorem dX8_takesPart_26 : decode cX8_takesPart 26 = .ok (.invokevirtual 229, 3) := by decide +kernel
theorem dX8_takesPart_29 : decode cX8_takesPart 29 = .ok (.ifCond .lt 7, 3) := by decide +kernel
theorem dX8_takesPart_32 : decode cX8_takesPart 32 = .ok (.iconst 1, 1) := by decide +kernel
theorem dX8_takesPart_33 : decode cX8_takesPart 33 = .ok (.goto 4, 3) := by decide +kernel
theorem dX8_takesPart_36 : decode cX8_takesPart 36 = .ok (.iconst 0, 1) := by decide +kernel
theorem dX8_takesPart_37 : decode cX8_takesPart 37 = .ok (.istore_n 1, 1) := by decide +kernel
theorem dX8_takesPart_38 : decode cX8_takesPart 38 = .ok (.aload_n 0, 1) := by decide +kernel
theorem dX8_takesPart_39 : decode cX8_takesPart 39 = .ok (.getfield 202, 3) := by decide +kernel
theorem dX8_takesPart_42 : decode cX8_takesPart 42 = .ok (.iconst 2, 1) := by decide +kernel
theorem dX8_takesPart_43 : decode cX8_takesPart 43 = .ok (.if_icmp .eq 9, 3) := by decide +kernel
theorem dX8_takesPart_46 : decode cX8_takesPart 46 = .ok (.iload_n 1, 1) := by decide +kernel
theorem dX8_takesPart_47 : decode cX8_takesPart 47 = .ok (.ifCond .ne 5, 3) := by decide +kernel
theorem dX8_takesPart_50 : decode cX8_takesPart 50 = .ok (.iconst 0, 1) := by decide +kernel
theorem dX8_takesPart_51 : decode cX8_takesPart 51 = .ok (.ireturn, 1) := by decide +kernel
theorem dX8_takesPart_52 : decode cX8_takesPart 52 = .ok (.aload_n 0, 1) := by decide +kernel
theorem dX8_takesPart_53 : decode cX8_takesPart 53 = .ok (.getfield 36, 3) := by decide +kernel
theorem dX8_takesPart_56 : decode cX8_takesPart 56 = .ok (.aload_n 0, 1) := by decide +kernel
theorem dX8_takesPart_57 : decode cX8_takesPart 57 = .ok (.getfield 226, 3) := by decide +kernel
theorem dX8_takesPart_60 : decode cX8_takesPart 60 = .ok (.aload_n 0, 1) := by decide +kernel
theorem dX8_takesPart_61 : decode cX8_takesPart 61 = .ok (.getfield 202, 3) := by decide +kernel
theorem dX8_takesPart_64 : decode cX8_takesPart 64 = .ok (.iconst 2, 1) := by decide +kernel
theorem dX8_takesPart_65 : decode cX8_takesPart 65 = .ok (.if_icmp .ne 10, 3) := by decide +kernel
theorem dX8_takesPart_68 : decode cX8_takesPart 68 = .ok (.aload_n 0, 1) := by decide +kernel
theorem dX8_takesPart_69 : decode cX8_takesPart 69 = .ok (.getfield 208, 3) := by decide +kernel
theorem dX8_takesPart_72 : decode cX8_takesPart 72 = .ok (.goto 15, 3) := by decide +kernel
theorem dX8_takesPart_75 : decode cX8_takesPart 75 = .ok (.sipush 10000, 3) := by decide +kernel
theorem dX8_takesPart_78 : decode cX8_takesPart 78 = .ok (.aload_n 0, 1) := by decide +kernel
theorem dX8_takesPart_79 : decode cX8_takesPart 79 = .ok (.aload_n 0, 1) := by decide +kernel
theorem dX8_takesPart_80 : decode cX8_takesPart 80 = .ok (.getfield 208, 3) := by decide +kernel
theorem dX8_takesPart_83 : decode cX8_takesPart 83 = .ok (.invokevirtual 229, 3) := by decide +kernel
theorem dX8_takesPart_86 : decode cX8_takesPart 86 = .ok (.iadd, 1) := by decide +kernel
theorem dX8_takesPart_87 : decode cX8_takesPart 87 = .ok (.iastore, 1) := by decide +kernel
theorem dX8_takesPart_88 : decode cX8_takesPart 88 = .ok (.aload_n 0, 1) := by decide +kernel
theorem dX8_takesPart_89 : decode cX8_takesPart 89 = .ok (.dup, 1) := by decide +kernel
theorem dX8_takesPart_90 : decode cX8_takesPart 90 = .ok (.getfield 226, 3) := by decide +kernel
theorem dX8_takesPart_93 : decode cX8_takesPart 93 = .ok (.iconst 1, 1) := by decide +kernel
theorem dX8_takesPart_94 : decode cX8_takesPart 94 = .ok (.iadd, 1) := by decide +kernel
theorem dX8_takesPart_95 : decode cX8_takesPart 95 = .ok (.putfield 226, 3) := by decide +kernel
theorem dX8_takesPart_98 : decode cX8_takesPart 98 = .ok (.aload_n 0, 1) := by decide +kernel
theorem dX8_takesPart_99 : decode cX8_takesPart 99 = .ok (.dup, 1) := by decide +kernel
theorem dX8_takesPart_100 : decode cX8_takesPart 100 = .ok (.getfield 232, 3) := by decide +kernel
theorem dX8_takesPart_103 : decode cX8_takesPart 103 = .ok (.iconst 1, 1) := by decide +kernel
theorem dX8_takesPart_104 : decode cX8_takesPart 104 = .ok (.iadd, 1) := by decide +kernel
theorem dX8_takesPart_105 : decode cX8_takesPart 105 = .ok (.putfield 232, 3) := by decide +kernel
theorem dX8_takesPart_108 : decode cX8_takesPart 108 = .ok (.aload_n 0, 1) := by decide +kernel
theorem dX8_takesPart_109 : decode cX8_takesPart 109 = .ok (.bipush 6, 2) := by decide +kernel
theorem dX8_takesPart_111 : decode cX8_takesPart 111 = .ok (.invokevirtual 235, 3) := by decide +kernel
theorem dX8_takesPart_114 : decode cX8_takesPart 114 = .ok (.aload_n 0, 1) := by decide +kernel
theorem dX8_takesPart_115 : decode cX8_takesPart 115 = .ok (.invokevirtual 217, 3) := by decide +kernel
theorem dX8_takesPart_118 : decode cX8_takesPart 118 = .ok (.iconst 1, 1) := by decide +kernel
theorem dX8_takesPart_119 : decode cX8_takesPart 119 = .ok (.ireturn, 1) := by decide +kernel
theorem dX8_takesE_0 : decode cX8_takesE 0 = .ok (.iconst 0, 1) := by decide +kernel
theorem dX8_takesE_1 : decode cX8_takesE 1 = .ok (.istore_n 1, 1) := by decide +kernel
theorem dX8_takesE_2 : decode cX8_takesE 2 = .ok (.iconst 0, 1) := by decide +kernel
theorem dX8_takesE_3 : decode cX8_takesE 3 = .ok (.istore_n 2, 1) := by decide +kernel
theorem dX8_takesE_4 : decode cX8_takesE 4 = .ok (.iconst 1, 1) := by decide +kernel
theorem dX8_takesE_5 : decode cX8_takesE 5 = .ok (.istore_n 3, 1) := by decide +kernel
theorem dX8_takesE_6 : decode cX8_takesE 6 = .ok (.aload_n 0, 1) := by decide +kernel
theorem dX8_takesE_7 : decode cX8_takesE 7 = .ok (.iconst 0, 1) := by decide +kernel
theorem dX8_takesE_8 : decode cX8_takesE 8 = .ok (.putfield 226, 3) := by decide +kernel
theorem dX8_takesE_11 : decode cX8_takesE 11 = .ok (.aload_n 0, 1) := by decide +kernel
theorem dX8_takesE_12 : decode cX8_takesE 12 = .ok (.iconst 0, 1) := by decide +kernel
theorem dX8_takesE_13 : decode cX8_takesE 13 = .ok (.putfield 232, 3) := by decide +kernel
theorem dX8_takesE_16 : decode cX8_takesE 16 = .ok (.aload_n 0, 1) := by decide +kernel
theorem dX8_takesE_17 : decode cX8_takesE 17 = .ok (.iconst 0, 1) := by decide +kernel
theorem dX8_takesE_18 : decode cX8_takesE 18 = .ok (.putfield 220, 3) := by decide +kernel
theorem dX8_takesE_21 : decode cX8_takesE 21 = .ok (.aload_n 0, 1) := by decide +kernel
theorem dX8_takesE_22 : decode cX8_takesE 22 = .ok (.getfield 42, 3) := by decide +kernel
theorem dX8_takesE_25 : decode cX8_takesE 25 = .ok (.iconst 0, 1) := by decide +kernel
theorem dX8_takesE_26 : decode cX8_takesE 26 = .ok (.iconst 0, 1) := by decide +kernel
theorem dX8_takesE_27 : decode cX8_takesE 27 = .ok (.bastore, 1) := by decide +kernel
theorem dX8_takesE_28 : decode cX8_takesE 28 = .ok (.iload_n 3, 1) := by decide +kernel
theorem dX8_takesE_29 : decode cX8_takesE 29 = .ok (.ifCond .ne 10, 3) := by decide +kernel
theorem dX8_takesE_32 : decode cX8_takesE 32 = .ok (.aload_n 0, 1) := by decide +kernel
theorem dX8_takesE_33 : decode cX8_takesE 33 = .ok (.getfield 202, 3) := by decide +kernel
theorem dX8_takesE_36 : decode cX8_takesE 36 = .ok (.ifCond .eq 309, 3) := by decide +kernel
theorem dX8_takesE_39 : decode cX8_takesE 39 = .ok (.iload_n 3, 1) := by decide +kernel
theorem dX8_takesE_40 : decode cX8_takesE 40 = .ok (.ifCond .eq 140, 3) := by decide +kernel
theorem dX8_takesE_43 : decode cX8_takesE 43 = .ok (.aload_n 0, 1) := by decide +kernel
theorem dX8_takesE_44 : decode cX8_takesE 44 = .ok (.getfield 202, 3) := by decide +kernel
theorem dX8_takesE_47 : decode cX8_takesE 47 = .ok (.iconst 3, 1) := by decide +kernel
theorem dX8_takesE_48 : decode cX8_takesE 48 = .ok (.if_icmp .ne 49, 3) := by decide +kernel
theorem dX8_takesE_51 : decode cX8_takesE 51 = .ok (.aload_n 0, 1) := by decide +kernel
theorem dX8_takesE_52 : decode cX8_takesE 52 = .ok (.getfield 208, 3) := by decide +kernel
theorem dX8_takesE_55 : decode cX8_takesE 55 = .ok (.bipush 33, 2) := by decide +kernel
theorem dX8_takesE_57 : decode cX8_takesE 57 = .ok (.if_icmp .ne 40, 3) := by decide +kernel
theorem dX8_takesE_60 : decode cX8_takesE 60 = .ok (.iload_n 2, 1) := by decide +kernel
theorem dX8_takesE_61 : decode cX8_takesE 61 = .ok (.bipush 8, 2) := by decide +kernel
theorem dX8_takesE_63 : decode cX8_takesE 63 = .ok (.if_icmp .ge 34, 3) := by decide +kernel
theorem dX8_takesE_66 : decode cX8_takesE 66 = .ok (.aload_n 0, 1) := by decide +kernel
theorem dX8_takesE_67 : decode cX8_takesE 67 = .ok (.getfield 39, 3) := by decide +kernel
theorem dX8_takesE_70 : decode cX8_takesE 70 = .ok (.aload_n 0, 1) := by decide +kernel
theorem dX8_takesE_71 : decode cX8_takesE 71 = .ok (.getfield 220, 3) := by decide +kernel
theorem dX8_takesE_74 : decode cX8_takesE 74 = .ok (.bipush (-10), 2) := by decide +kernel
theorem dX8_takesE_76 : decode cX8_takesE 76 = .ok (.iastore, 1) := by decide +kernel
theorem dX8_takesE_77 : decode cX8_takesE 77 = .ok (.aload_n 0, 1) := by decide +kernel
theorem dX8_takesE_78 : decode cX8_takesE 78 = .ok (.dup, 1) := by decide +kernel
theorem dX8_takesE_79 : decode cX8_takesE 79 = .ok (.getfield 220, 3) := by decide +kernel
theorem dX8_takesE_82 : decode cX8_takesE 82 = .ok (.iconst 1, 1) := by decide +kernel
theorem dX8_takesE_83 : decode cX8_takesE 83 = .ok (.iadd, 1) := by decide +kernel
theorem dX8_takesE_84 : decode cX8_takesE 84 = .ok (.putfield 220, 3) := by decide +kernel
theorem dX8_takesE_87 : decode cX8_takesE 87 = .ok (.iinc 2 1, 3) := by decide +kernel
theorem dX8_takesE_90 : decode cX8_takesE 90 = .ok (.aload_n 0, 1) := by decide +kernel
theorem dX8_takesE_91 : decode cX8_takesE 91 = .ok (.invokevirtual 217, 3) := by decide +kernel
theorem dX8_takesE_94 : decode cX8_takesE 94 = .ok (.goto 78, 3) := by decide +kernel
theorem dX8_takesE_97 : decode cX8_takesE 97 = .ok (.aload_n 0, 1) := by decide +kernel
theorem dX8_takesE_98 : decode cX8_takesE 98 = .ok (.getfield 202, 3) := by decide +kernel
theorem dX8_takesE_101 : decode cX8_takesE 101 = .ok (.iconst 3, 1) := by decide +kernel
theorem dX8_takesE_102 : decode cX8_takesE 102 = .ok (.if_icmp .ne 56, 3) := by decide +kernel
theorem dX8_takesE_105 : decode cX8_takesE 105 = .ok (.aload_n 0, 1) := by decide +kernel
theorem dX8_takesE_106 : decode cX8_takesE 106 = .ok (.getfield 208, 3) := by decide +kernel
theorem dX8_takesE_109 : decode cX8_takesE 109 = .ok (.bipush 40, 2) := by decide +kernel
theorem dX8_takesE_111 : decode cX8_takesE 111 = .ok (.if_icmp .ne 47, 3) := by decide +kernel
theorem dX8_takesE_114 : decode cX8_takesE 114 = .ok (.iload_n 1, 1) := by decide +kernel
theorem dX8_takesE_115 : decode cX8_takesE 115 = .ok (.bipush 8, 2) := by decide +kernel
theorem dX8_takesE_117 : decode cX8_takesE 117 = .ok (.if_icmp .ge 41, 3) := by decide +kernel
theorem dX8_takesE_120 : decode cX8_takesE 120 = .ok (.aload_n 0, 1) := by decide +kernel
theorem dX8_takesE_121 : decode cX8_takesE 121 = .ok (.getfield 39, 3) := by decide +kernel
theorem dX8_takesE_124 : decode cX8_takesE 124 = .ok (.aload_n 0, 1) := by decide +kernel
theorem dX8_takesE_125 : decode cX8_takesE 125 = .ok (.getfield 220, 3) := by decide +kernel
theorem dX8_takesE_128 : decode cX8_takesE 128 = .ok (.bipush (-11), 2) := by decide +kernel
theorem dX8_takesE_130 : decode cX8_takesE 130 = .ok (.iastore, 1) := by decide +kernel
theorem dX8_takesE_131 : decode cX8_takesE 131 = .ok (.aload_n 0, 1) := by decide +kernel
theorem dX8_takesE_132 : decode cX8_takesE 132 = .ok (.dup, 1) := by decide +kernel
theorem dX8_takesE_133 : decode cX8_takesE 133 = .ok (.getfield 220, 3) := by decide +kernel
theorem dX8_takesE_136 : decode cX8_takesE 136 = .ok (.iconst 1, 1) := by decide +kernel
theorem dX8_takesE_137 : decode cX8_takesE 137 = .ok (.iadd, 1) := by decide +kernel
theorem dX8_takesE_138 : decode cX8_takesE 138 = .ok (.putfield 220, 3) := by decide +kernel
theorem dX8_takesE_141 : decode cX8_takesE 141 = .ok (.iinc 1 1, 3) := by decide +kernel
theorem dX8_takesE_144 : decode cX8_takesE 144 = .ok (.aload_n 0, 1) := by decide +kernel
theorem dX8_takesE_145 : decode cX8_takesE 145 = .ok (.getfield 42, 3) := by decide +kernel
theorem dX8_takesE_148 : decode cX8_takesE 148 = .ok (.iload_n 1, 1) := by decide +kernel
theorem dX8_takesE_149 : decode cX8_takesE 149 = .ok (.iconst 0, 1) := by decide +kernel
theorem dX8_takesE_150 : decode cX8_takesE 150 = .ok (.bastore, 1) := by decide +kernel
theorem dX8_takesE_151 : decode cX8_takesE 151 = .ok (.aload_n 0, 1) := by decide +kernel
theorem dX8_takesE_152 : decode cX8_takesE 152 = .ok (.invokevirtual 217, 3) := by decide +kernel
theorem dX8_takesE_155 : decode cX8_takesE 155 = .ok (.goto 17, 3) := by decide +kernel
theorem dX8_takesE_158 : decode cX8_takesE 158 = .ok (.aload_n 0, 1) := by decide +kernel
theorem dX8_takesE_159 : decode cX8_takesE 159 = .ok (.invokevirtual 238, 3) := by decide +kernel
theorem dX8_takesE_162 : decode cX8_takesE 162 = .ok (.ifCond .eq 8, 3) := by decide +kernel
theorem dX8_takesE_165 : decode cX8_takesE 165 = .ok (.iconst 0, 1) := by decide +kernel
theorem dX8_takesE_166 : decode cX8_takesE 166 = .ok (.istore_n 3, 1) := by decide +kernel
theorem dX8_takesE_167 : decode cX8_takesE 167 = .ok (.goto 5, 3) := by decide +kernel
theorem dX8_takesE_170 : decode cX8_takesE 170 = .ok (.iconst 0, 1) := by decide +kernel
theorem dX8_takesE_171 : decode cX8_takesE 171 = .ok (.ireturn, 1) := by decide +kernel
theorem dX8_takesE_172 : decode cX8_takesE 172 = .ok (.aload_n 0, 1) := by decide +kernel
theorem dX8_takesE_173 : decode cX8_takesE 173 = .ok (.invokevirtual 242, 3) := by decide +kernel
theorem dX8_takesE_176 : decode cX8_takesE 176 = .ok (.istore_n 2, 1) := by decide +kernel
theorem dX8_takesE_177 : decode cX8_takesE 177 = .ok (.goto (-149), 3) := by decide +kernel
theorem dX8_takesE_180 : decode cX8_takesE 180 = .ok (.aload_n 0, 1) := by decide +kernel
theorem dX8_takesE_181 : decode cX8_takesE 181 = .ok (.getfield 202, 3) := by decide +kernel
theorem dX8_takesE_184 : decode cX8_takesE 184 = .ok (.iconst 3, 1) := by decide +kernel
theorem dX8_takesE_185 : decode cX8_takesE 185 = .ok (.if_icmp .ne 52, 3) := by decide +kernel
theorem dX8_takesE_188 : decode cX8_takesE 188 = .ok (.aload_n 0, 1) := by decide +kernel
theorem dX8_takesE_189 : decode cX8_takesE 189 = .ok (.getfield 208, 3) := by decide +kernel
theorem dX8_takesE_192 : decode cX8_takesE 192 = .ok (.bipush 41, 2) := by decide +kernel
theorem dX8_takesE_194 : decode cX8_takesE 194 = .ok (.if_icmp .ne 43, 3) := by decide +kernel
theorem dX8_takesE_197 : decode cX8_takesE 197 = .ok (.iload_n 1, 1) := by decide +kernel
theorem dX8_takesE_198 : decode cX8_takesE 198 = .ok (.ifCond .le 39, 3) := by decide +kernel
theorem dX8_takesE_201 : decode cX8_takesE 201 = .ok (.aload_n 0, 1) := by decide +kernel
theorem dX8_takesE_202 : decode cX8_takesE 202 = .ok (.iconst 0, 1) := by decide +kernel
theorem dX8_takesE_203 : decode cX8_takesE 203 = .ok (.invokevirtual 235, 3) := by decide +kernel
theorem dX8_takesE_206 : decode cX8_takesE 206 = .ok (.aload_n 0, 1) := by decide +kernel
theorem dX8_takesE_207 : decode cX8_takesE 207 = .ok (.dup, 1) := by decide +kernel
theorem dX8_takesE_208 : decode cX8_takesE 208 = .ok (.getfield 220, 3) := by decide +kernel
theorem dX8_takesE_211 : decode cX8_takesE 211 = .ok (.iconst 1, 1) := by decide +kernel
theorem dX8_takesE_212 : decode cX8_takesE 212 = .ok (.isub, 1) := by decide +kernel
theorem dX8_takesE_213 : decode cX8_takesE 213 = .ok (.putfield 220, 3) := by decide +kernel
theorem dX8_takesE_216 : decode cX8_takesE 216 = .ok (.iinc 1 (-1), 3) := by decide +kernel
theorem dX8_takesE_219 : decode cX8_takesE 219 = .ok (.aload_n 0, 1) := by decide +kernel
theorem dX8_takesE_220 : decode cX8_takesE 220 = .ok (.bipush 6, 2) := by decide +kernel
theorem dX8_takesE_222 : decode cX8_takesE 222 = .ok (.invokevirtual 235, 3) := by decide +kernel
theorem dX8_takesE_225 : decode cX8_takesE 225 = .ok (.aload_n 0, 1) := by decide +kernel
theorem dX8_takesE_226 : decode cX8_takesE 226 = .ok (.invokevirtual 242, 3) := by decide +kernel
theorem dX8_takesE_229 : decode cX8_takesE 229 = .ok (.istore_n 2, 1) := by decide +kernel
theorem dX8_takesE_230 : decode cX8_takesE 230 = .ok (.aload_n 0, 1) := by decide +kernel
theorem dX8_takesE_231 : decode cX8_takesE 231 = .ok (.invokevirtual 217, 3) := by decide +kernel
theorem dX8_takesE_234 : decode cX8_takesE 234 = .ok (.goto (-206), 3) := by decide +kernel
theorem dX8_takesE_237 : decode cX8_takesE 237 = .ok (.aload_n 0, 1) := by decide +kernel
theorem dX8_takesE_238 : decode cX8_takesE 238 = .ok (.invokevirtual 245, 3) := by decide +kernel
theorem dX8_takesE_241 : decode cX8_takesE 241 = .ok (.istore 4, 2) := by decide +kernel
theorem dX8_takesE_243 : decode cX8_takesE 243 = .ok (.iload 4, 2) := by decide +kernel
theorem dX8_takesE_245 : decode cX8_takesE 245 = .ok (.ifCond .eq 21, 3) := by decide +kernel
theorem dX8_takesE_248 : decode cX8_takesE 248 = .ok (.iload 4, 2) := by decide +kernel
theorem dX8_takesE_250 : decode cX8_takesE 250 = .ok (.invokestatic 223, 3) := by decide +kernel
theorem dX8_takesE_253 : decode cX8_takesE 253 = .ok (.iconst 3, 1) := by decide +kernel
theorem dX8_takesE_254 : decode cX8_takesE 254 = .ok (.if_icmp .ne 14, 3) := by decide +kernel
theorem dX8_takesE_257 : decode cX8_takesE 257 = .ok (.aload_n 0, 1) := by decide +kernel
theorem dX8_takesE_258 : decode cX8_takesE 258 = .ok (.getfield 42, 3) := by decide +kernel
theorem dX8_takesE_261 : decode cX8_takesE 261 = .ok (.iload_n 1, 1) := by decide +kernel
theorem dX8_takesE_262 : decode cX8_takesE 262 = .ok (.baload, 1) := by decide +kernel
theorem dX8_takesE_263 : decode cX8_takesE 263 = .ok (.ifCond .eq 5, 3) := by decide +kernel
theorem dX8_takesE_266 : decode cX8_takesE 266 = .ok (.iconst 0, 1) := by decide +kernel
theorem dX8_takesE_267 : decode cX8_takesE 267 = .ok (.ireturn, 1) := by decide +kernel
theorem dX8_takesE_268 : decode cX8_takesE 268 = .ok (.aload_n 0, 1) := by decide +kernel
theorem dX8_takesE_269 : decode cX8_takesE 269 = .ok (.getfield 42, 3) := by decide +kernel
theorem dX8_takesE_272 : decode cX8_takesE 272 = .ok (.iload_n 1, 1) := by decide +kernel
theorem dX8_takesE_273 : decode cX8_takesE 273 = .ok (.iload 4, 2) := by decide +kernel
theorem dX8_takesE_275 : decode cX8_takesE 275 = .ok (.invokestatic 223, 3) := by decide +kernel
theorem dX8_takesE_278 : decode cX8_takesE 278 = .ok (.iconst 3, 1) := by decide +kernel
theorem dX8_takesE_279 : decode cX8_takesE 279 = .ok (.if_icmp .eq 21, 3) := by decide +kernel
theorem dX8_takesE_282 : decode cX8_takesE 282 = .ok (.iload 4, 2) := by decide +kernel
theorem dX8_takesE_284 : decode cX8_takesE 284 = .ok (.invokestatic 223, 3) := by decide +kernel
theorem dX8_takesE_287 : decode cX8_takesE 287 = .ok (.iconst 3, 1) := by decide +kernel
theorem dX8_takesE_288 : decode cX8_takesE 288 = .ok (.if_icmp .le 16, 3) := by decide +kernel
theorem dX8_takesE_291 : decode cX8_takesE 291 = .ok (.aload_n 0, 1) := by decide +kernel
theorem dX8_takesE_292 : decode cX8_takesE 292 = .ok (.getfield 42, 3) := by decide +kernel
theorem dX8_takesE_295 : decode cX8_takesE 295 = .ok (.iload_n 1, 1) := by decide +kernel
theorem dX8_takesE_296 : decode cX8_takesE 296 = .ok (.baload, 1) := by decide +kernel
theorem dX8_takesE_297 : decode cX8_takesE 297 = .ok (.ifCond .eq 7, 3) := by decide +kernel
theorem dX8_takesE_300 : decode cX8_takesE 300 = .ok (.iconst 1, 1) := by decide +kernel
theorem dX8_takesE_301 : decode cX8_takesE 301 = .ok (.goto 4, 3) := by decide +kernel
theorem dX8_takesE_304 : decode cX8_takesE 304 = .ok (.iconst 0, 1) := by decide +kernel
theorem dX8_takesE_305 : decode cX8_takesE 305 = .ok (.bastore, 1) := by decide +kernel
theorem dX8_takesE_306 : decode cX8_takesE 306 = .ok (.aload_n 0, 1) := by decide +kernel
theorem dX8_takesE_307 : decode cX8_takesE 307 = .ok (.iload 4, 2) := by decide +kernel
theorem dX8_takesE_309 : decode cX8_takesE 309 = .ok (.invokestatic 223, 3) := by decide +kernel
theorem dX8_takesE_312 : decode cX8_takesE 312 = .ok (.invokevirtual 235, 3) := by decide +kernel
theorem dX8_takesE_315 : decode cX8_takesE 315 = .ok (.aload_n 0, 1) := by decide +kernel
theorem dX8_takesE_316 : decode cX8_takesE 316 = .ok (.getfield 39, 3) := by decide +kernel
theorem dX8_takesE_319 : decode cX8_takesE 319 = .ok (.aload_n 0, 1) := by decide +kernel
theorem dX8_takesE_320 : decode cX8_takesE 320 = .ok (.getfield 220, 3) := by decide +kernel
theorem dX8_takesE_323 : decode cX8_takesE 323 = .ok (.iload 4, 2) := by decide +kernel
theorem dX8_takesE_325 : decode cX8_takesE 325 = .ok (.iastore, 1) := by decide +kernel
theorem dX8_takesE_326 : decode cX8_takesE 326 = .ok (.aload_n 0, 1) := by decide +kernel
theorem dX8_takesE_327 : decode cX8_takesE 327 = .ok (.dup, 1) := by decide +kernel
theorem dX8_takesE_328 : decode cX8_takesE 328 = .ok (.getfield 220, 3) := by decide +kernel
theorem dX8_takesE_331 : decode cX8_takesE 331 = .ok (.iconst 1, 1) := by decide +kernel
theorem dX8_takesE_332 : decode cX8_takesE 332 = .ok (.iadd, 1) := by decide +kernel
theorem dX8_takesE_333 : decode cX8_takesE 333 = .ok (.putfield 220, 3) := by decide +kernel
theorem dX8_takesE_336 : decode cX8_takesE 336 = .ok (.iconst 1, 1) := by decide +kernel
theorem dX8_takesE_337 : decode cX8_takesE 337 = .ok (.istore_n 3, 1) := by decide +kernel
theorem dX8_takesE_338 : decode cX8_takesE 338 = .ok (.aload_n 0, 1) := by decide +kernel
theorem dX8_takesE_339 : decode cX8_takesE 339 = .ok (.invokevirtual 217, 3) := by decide +kernel
theorem dX8_takesE_342 : decode cX8_takesE 342 = .ok (.goto (-314), 3) := by decide +kernel
theorem dX8_takesE_345 : decode cX8_takesE 345 = .ok (.aload_n 0, 1) := by decide +kernel
theorem dX8_takesE_346 : decode cX8_takesE 346 = .ok (.iconst 0, 1) := by decide +kernel
theorem dX8_takesE_347 : decode cX8_takesE 347 = .ok (.invokevirtual 235, 3) := by decide +kernel
theorem dX8_takesE_350 : decode cX8_takesE 350 = .ok (.iload_n 1, 1) := by decide +kernel
theorem dX8_takesE_351 : decode cX8_takesE 351 = .ok (.ifCond .ne 7, 3) := by decide +kernel
theorem dX8_takesE_354 : decode cX8_takesE 354 = .ok (.iconst 1, 1) := by decide +kernel
theorem dX8_takesE_355 : decode cX8_takesE 355 = .ok (.goto 4, 3) := by decide +kernel
theorem dX8_takesE_358 : decode cX8_takesE 358 = .ok (.iconst 0, 1) := by decide +kernel
theorem dX8_takesE_359 : decode cX8_takesE 359 = .ok (.ireturn, 1) := by decide +kernel
theorem dX8_notsOpen_0 : decode cX8_notsOpen 0 = .ok (.iconst 0, 1) := by decide +kernel
theorem dX8_notsOpen_1 : decode cX8_notsOpen 1 = .ok (.istore_n 1, 1) := by decide +kernel
theorem dX8_notsOpen_2 : decode cX8_notsOpen 2 = .ok (.iconst 0, 1) := by decide +kernel
theorem dX8_notsOpen_3 : decode cX8_notsOpen 3 = .ok (.istore_n 2, 1) := by decide +kernel
theorem dX8_notsOpen_4 : decode cX8_notsOpen 4 = .ok (.iload_n 2, 1) := by decide +kernel
theorem dX8_notsOpen_5 : decode cX8_notsOpen 5 = .ok (.aload_n 0, 1) := by decide +kernel
theorem dX8_notsOpen_6 : decode cX8_notsOpen 6 = .ok (.getfield 220, 3) := by decide +kernel
theorem dX8_notsOpen_9 : decode cX8_notsOpen 9 = .ok (.if_icmp .ge 28, 3) := by decide +kernel
theorem dX8_notsOpen_12 : decode cX8_notsOpen 12 = .ok (.iload_n 1, 1) := by decide +kernel
theorem dX8_notsOpen_13 : decode cX8_notsOpen 13 = .ok (.aload_n 0, 1) := by decide +kernel
theorem dX8_notsOpen_14 : decode cX8_notsOpen 14 = .ok (.getfield 39, 3) := by decide +kernel
theorem dX8_notsOpen_17 : decode cX8_notsOpen 17 = .ok (.iload_n 2, 1) := by decide +kernel
theorem dX8_notsOpen_18 : decode cX8_notsOpen 18 = .ok (.iaload, 1) := by decide +kernel
theorem dX8_notsOpen_19 : decode cX8_notsOpen 19 = .ok (.bipush (-10), 2) := by decide +kernel
theorem dX8_notsOpen_21 : decode cX8_notsOpen 21 = .ok (.if_icmp .ne 7, 3) := by decide +kernel
theorem dX8_notsOpen_24 : decode cX8_notsOpen 24 = .ok (.iconst 1, 1) := by decide +kernel
theorem dX8_notsOpen_25 : decode cX8_notsOpen 25 = .ok (.goto 4, 3) := by decide +kernel
theorem dX8_notsOpen_28 : decode cX8_notsOpen 28 = .ok (.iconst 0, 1) := by decide +kernel
theorem dX8_notsOpen_29 : decode cX8_notsOpen 29 = .ok (.iadd, 1) := by decide +kernel
theorem dX8_notsOpen_30 : decode cX8_notsOpen 30 = .ok (.istore_n 1, 1) := by decide +kernel
theorem dX8_notsOpen_31 : decode cX8_notsOpen 31 = .ok (.iinc 2 1, 3) := by decide +kernel
theorem dX8_notsOpen_34 : decode cX8_notsOpen 34 = .ok (.goto (-30), 3) := by decide +kernel
theorem dX8_notsOpen_37 : decode cX8_notsOpen 37 = .ok (.iload_n 1, 1) := by decide +kernel
theorem dX8_notsOpen_38 : decode cX8_notsOpen 38 = .ok (.ireturn, 1) := by decide +kernel
theorem dX8_text_0 : decode cX8_text 0 = .ok (.aload_n 0, 1) := by decide +kernel
theorem dX8_text_1 : decode cX8_text 1 = .ok (.iconst 0, 1) := by decide +kernel
theorem dX8_text_2 : decode cX8_text 2 = .ok (.putfield 193, 3) := by decide +kernel
theorem dX8_text_5 : decode cX8_text 5 = .ok (.aload_n 0, 1) := by decide +kernel
theorem dX8_text_6 : decode cX8_text 6 = .ok (.iconst (-1), 1) := by decide +kernel
theorem dX8_text_7 : decode cX8_text 7 = .ok (.putfield 199, 3) := by decide +kernel
theorem dX8_text_10 : decode cX8_text 10 = .ok (.aload_n 0, 1) := by decide +kernel
theorem dX8_text_11 : decode cX8_text 11 = .ok (.invokevirtual 217, 3) := by decide +kernel
theorem dX8_text_14 : decode cX8_text 14 = .ok (.aload_n 0, 1) := by decide +kernel
theorem dX8_text_15 : decode cX8_text 15 = .ok (.invokevirtual 248, 3) := by decide +kernel
theorem dX8_text_18 : decode cX8_text 18 = .ok (.ifCond .eq 14, 3) := by decide +kernel
theorem dX8_text_21 : decode cX8_text 21 = .ok (.aload_n 0, 1) := by decide +kernel
theorem dX8_text_22 : decode cX8_text 22 = .ok (.invokevirtual 251, 3) := by decide +kernel
theorem dX8_text_25 : decode cX8_text 25 = .ok (.ifCond .eq 7, 3) := by decide +kernel
theorem dX8_text_28 : decode cX8_text 28 = .ok (.iconst 1, 1) := by decide +kernel
theorem dX8_text_29 : decode cX8_text 29 = .ok (.goto 4, 3) := by decide +kernel
theorem dX8_text_32 : decode cX8_text 32 = .ok (.iconst 0, 1) := by decide +kernel
theorem dX8_text_33 : decode cX8_text 33 = .ok (.istore_n 1, 1) := by decide +kernel
theorem dX8_text_34 : decode cX8_text 34 = .ok (.aload_n 0, 1) := by decide +kernel
theorem dX8_text_35 : decode cX8_text 35 = .ok (.iconst 0, 1) := by decide +kernel
theorem dX8_text_36 : decode cX8_text 36 = .ok (.putfield 190, 3) := by decide +kernel
theorem dX8_text_39 : decode cX8_text 39 = .ok (.iload_n 1, 1) := by decide +kernel
theorem dX8_text_40 : decode cX8_text 40 = .ok (.ifCond .ne 11, 3) := by decide +kernel
theorem dX8_text_43 : decode cX8_text 43 = .ok (.bipush (-100), 2) := by decide +kernel
theorem dX8_text_45 : decode cX8_text 45 = .ok (.aload_n 0, 1) := by decide +kernel
theorem dX8_text_46 : decode cX8_text 46 = .ok (.getfield 196, 3) := by decide +kernel
theorem dX8_text_49 : decode cX8_text 49 = .ok (.isub, 1) := by decide +kernel
theorem dX8_text_50 : decode cX8_text 50 = .ok (.ireturn, 1) := by decide +kernel
theorem dX8_text_51 : decode cX8_text 51 = .ok (.aload_n 0, 1) := by decide +kernel
theorem dX8_text_52 : decode cX8_text 52 = .ok (.getfield 9, 3) := by decide +kernel
theorem dX8_text_55 : decode cX8_text 55 = .ok (.bipush 8, 2) := by decide +kernel
theorem dX8_text_57 : decode cX8_text 57 = .ok (.iaload, 1) := by decide +kernel
theorem dX8_text_58 : decode cX8_text 58 = .ok (.bipush 14, 2) := by decide +kernel
theorem dX8_text_60 : decode cX8_text 60 = .ok (.if_icmp .ne 6, 3) := by decide +kernel
theorem dX8_text_63 : decode cX8_text 63 = .ok (.ldc 93, 2) := by decide +kernel
theorem dX8_text_65 : decode cX8_text 65 = .ok (.ireturn, 1) := by decide +kernel
theorem dX8_text_66 : decode cX8_text 66 = .ok (.aload_n 0, 1) := by decide +kernel
theorem dX8_text_67 : decode cX8_text 67 = .ok (.getfield 9, 3) := by decide +kernel
theorem dX8_text_70 : decode cX8_text 70 = .ok (.bipush 8, 2) := by decide +kernel
theorem dX8_text_72 : decode cX8_text 72 = .ok (.iaload, 1) := by decide +kernel
theorem dX8_text_73 : decode cX8_text 73 = .ok (.istore_n 2, 1) := by decide +kernel
theorem dX8_text_74 : decode cX8_text 74 = .ok (.aload_n 0, 1) := by decide +kernel
theorem dX8_text_75 : decode cX8_text 75 = .ok (.getfield 9, 3) := by decide +kernel
theorem dX8_text_78 : decode cX8_text 78 = .ok (.bipush 65, 2) := by decide +kernel
theorem dX8_text_80 : decode cX8_text 80 = .ok (.iconst 2, 1) := by decide +kernel
theorem dX8_text_81 : decode cX8_text 81 = .ok (.iload_n 2, 1) := by decide +kernel
theorem dX8_text_82 : decode cX8_text 82 = .ok (.imul, 1) := by decide +kernel
theorem dX8_text_83 : decode cX8_text 83 = .ok (.iadd, 1) := by decide +kernel
theorem dX8_text_84 : decode cX8_text 84 = .ok (.sipush 1000, 3) := by decide +kernel
theorem dX8_text_87 : decode cX8_text 87 = .ok (.aload_n 0, 1) := by decide +kernel
theorem dX8_text_88 : decode cX8_text 88 = .ok (.getfield 214, 3) := by decide +kernel
theorem dX8_text_91 : decode cX8_text 91 = .ok (.imul, 1) := by decide +kernel
theorem dX8_text_92 : decode cX8_text 92 = .ok (.aload_n 0, 1) := by decide +kernel
theorem dX8_text_93 : decode cX8_text 93 = .ok (.getfield 226, 3) := by decide +kernel
theorem dX8_text_96 : decode cX8_text 96 = .ok (.iadd, 1) := by decide +kernel
theorem dX8_text_97 : decode cX8_text 97 = .ok (.iastore, 1) := by decide +kernel
theorem dX8_text_98 : decode cX8_text 98 = .ok (.aload_n 0, 1) := by decide +kernel
theorem dX8_text_99 : decode cX8_text 99 = .ok (.getfield 9, 3) := by decide +kernel
theorem dX8_text_102 : decode cX8_text 102 = .ok (.bipush 65, 2) := by decide +kernel
theorem dX8_text_104 : decode cX8_text 104 = .ok (.iconst 2, 1) := by decide +kernel
theorem dX8_text_105 : decode cX8_text 105 = .ok (.iload_n 2, 1) := by decide +kernel
theorem dX8_text_106 : decode cX8_text 106 = .ok (.imul, 1) := by decide +kernel
theorem dX8_text_107 : decode cX8_text 107 = .ok (.iadd, 1) := by decide +kernel
theorem dX8_text_108 : decode cX8_text 108 = .ok (.iconst 1, 1) := by decide +kernel
theorem dX8_text_109 : decode cX8_text 109 = .ok (.iadd, 1) := by decide +kernel
theorem dX8_text_110 : decode cX8_text 110 = .ok (.aload_n 0, 1) := by decide +kernel
theorem dX8_text_111 : decode cX8_text 111 = .ok (.getfield 232, 3) := by decide +kernel
theorem dX8_text_114 : decode cX8_text 114 = .ok (.iastore, 1) := by decide +kernel
theorem dX8_text_115 : decode cX8_text 115 = .ok (.iconst 0, 1) := by decide +kernel
theorem dX8_text_116 : decode cX8_text 116 = .ok (.istore_n 3, 1) := by decide +kernel
theorem dX8_text_117 : decode cX8_text 117 = .ok (.iload_n 3, 1) := by decide +kernel
theorem dX8_text_118 : decode cX8_text 118 = .ok (.aload_n 0, 1) := by decide +kernel
theorem dX8_text_119 : decode cX8_text 119 = .ok (.getfield 226, 3) := by decide +kernel
theorem dX8_text_122 : decode cX8_text 122 = .ok (.if_icmp .ge 29, 3) := by decide +kernel
theorem dX8_text_125 : decode cX8_text 125 = .ok (.aload_n 0, 1) := by decide +kernel
theorem dX8_text_126 : decode cX8_text 126 = .ok (.getfield 9, 3) := by decide +kernel
theorem dX8_text_129 : decode cX8_text 129 = .ok (.bipush 93, 2) := by decide +kernel
theorem dX8_text_131 : decode cX8_text 131 = .ok (.bipush 96, 2) := by decide +kernel
theorem dX8_text_133 : decode cX8_text 133 = .ok (.iload_n 2, 1) := by decide +kernel
theorem dX8_text_134 : decode cX8_text 134 = .ok (.imul, 1) := by decide +kernel
theorem dX8_text_135 : decode cX8_text 135 = .ok (.iadd, 1) := by decide +kernel
theorem dX8_text_136 : decode cX8_text 136 = .ok (.iload_n 3, 1) := by decide +kernel
theorem dX8_text_137 : decode cX8_text 137 = .ok (.iadd, 1) := by decide +kernel
theorem dX8_text_138 : decode cX8_text 138 = .ok (.aload_n 0, 1) := by decide +kernel
theorem dX8_text_139 : decode cX8_text 139 = .ok (.getfield 36, 3) := by decide +kernel
theorem dX8_text_142 : decode cX8_text 142 = .ok (.iload_n 3, 1) := by decide +kernel
theorem dX8_text_143 : decode cX8_text 143 = .ok (.iaload, 1) := by decide +kernel
theorem dX8_text_144 : decode cX8_text 144 = .ok (.iastore, 1) := by decide +kernel
theorem dX8_text_145 : decode cX8_text 145 = .ok (.iinc 3 1, 3) := by decide +kernel
theorem dX8_text_148 : decode cX8_text 148 = .ok (.goto (-31), 3) := by decide +kernel
theorem dX8_text_151 : decode cX8_text 151 = .ok (.aload_n 0, 1) := by decide +kernel
theorem dX8_text_152 : decode cX8_text 152 = .ok (.getfield 9, 3) := by decide +kernel
theorem dX8_text_155 : decode cX8_text 155 = .ok (.bipush 8, 2) := by decide +kernel
theorem dX8_text_157 : decode cX8_text 157 = .ok (.dup2, 1) := by decide +kernel
theorem dX8_text_158 : decode cX8_text 158 = .ok (.iaload, 1) := by decide +kernel
theorem dX8_text_159 : decode cX8_text 159 = .ok (.iconst 1, 1) := by decide +kernel
theorem dX8_text_160 : decode cX8_text 160 = .ok (.iadd, 1) := by decide +kernel
theorem dX8_text_161 : decode cX8_text 161 = .ok (.iastore, 1) := by decide +kernel
theorem dX8_text_162 : decode cX8_text 162 = .ok (.iload_n 2, 1) := by decide +kernel
theorem dX8_text_163 : decode cX8_text 163 = .ok (.ireturn, 1) := by decide +kernel
theorem dX8_textTold_0 : decode cX8_textTold 0 = .ok (.iload_n 1, 1) := by decide +kernel
theorem dX8_textTold_1 : decode cX8_textTold 1 = .ok (.iconst 0, 1) := by decide +kernel
theorem dX8_textTold_2 : decode cX8_textTold 2 = .ok (.aload_n 0, 1) := by decide +kernel
theorem dX8_textTold_3 : decode cX8_textTold 3 = .ok (.getfield 9, 3) := by decide +kernel
theorem dX8_textTold_6 : decode cX8_textTold 6 = .ok (.bipush 8, 2) := by decide +kernel
theorem dX8_textTold_8 : decode cX8_textTold 8 = .ok (.iaload, 1) := by decide +kernel
theorem dX8_textTold_9 : decode cX8_textTold 9 = .ok (.iconst 1, 1) := by decide +kernel
theorem dX8_textTold_10 : decode cX8_textTold 10 = .ok (.isub, 1) := by decide +kernel
theorem dX8_textTold_11 : decode cX8_textTold 11 = .ok (.invokestatic 80, 3) := by decide +kernel
theorem dX8_textTold_14 : decode cX8_textTold 14 = .ok (.ifCond .eq 12, 3) := by decide +kernel
theorem dX8_textTold_17 : decode cX8_textTold 17 = .ok (.iload_n 2, 1) := by decide +kernel
theorem dX8_textTold_18 : decode cX8_textTold 18 = .ok (.iconst 0, 1) := by decide +kernel
theorem dX8_textTold_19 : decode cX8_textTold 19 = .ok (.iconst 1, 1) := by decide +kernel
theorem dX8_textTold_20 : decode cX8_textTold 20 = .ok (.invokestatic 80, 3) := by decide +kernel
theorem dX8_textTold_23 : decode cX8_textTold 23 = .ok (.ifCond .ne 6, 3) := by decide +kernel
theorem dX8_textTold_26 : decode cX8_textTold 26 = .ok (.ldc 92, 2) := by decide +kernel
theorem dX8_textTold_28 : decode cX8_textTold 28 = .ok (.ireturn, 1) := by decide +kernel
theorem dX8_textTold_29 : decode cX8_textTold 29 = .ok (.iload_n 2, 1) := by decide +kernel
theorem dX8_textTold_30 : decode cX8_textTold 30 = .ok (.ifCond .ne 21, 3) := by decide +kernel
theorem dX8_textTold_33 : decode cX8_textTold 33 = .ok (.aload_n 0, 1) := by decide +kernel
theorem dX8_textTold_34 : decode cX8_textTold 34 = .ok (.getfield 9, 3) := by decide +kernel
theorem dX8_textTold_37 : decode cX8_textTold 37 = .ok (.bipush 65, 2) := by decide +kernel
theorem dX8_textTold_39 : decode cX8_textTold 39 = .ok (.iconst 2, 1) := by decide +kernel
theorem dX8_textTold_40 : decode cX8_textTold 40 = .ok (.iload_n 1, 1) := by decide +kernel
theorem dX8_textTold_41 : decode cX8_textTold 41 = .ok (.imul, 1) := by decide +kernel
theorem dX8_textTold_42 : decode cX8_textTold 42 = .ok (.iadd, 1) := by decide +kernel
theorem dX8_textTold_43 : decode cX8_textTold 43 = .ok (.iaload, 1) := by decide +kernel
theorem dX8_textTold_44 : decode cX8_textTold 44 = .ok (.sipush 1000, 3) := by decide +kernel
theorem dX8_textTold_47 : decode cX8_textTold 47 = .ok (.idiv, 1) := by decide +kernel
theorem dX8_textTold_48 : decode cX8_textTold 48 = .ok (.goto 16, 3) := by decide +kernel
theorem dX8_textTold_51 : decode cX8_textTold 51 = .ok (.aload_n 0, 1) := by decide +kernel
theorem dX8_textTold_52 : decode cX8_textTold 52 = .ok (.getfield 9, 3) := by decide +kernel
theorem dX8_textTold_55 : decode cX8_textTold 55 = .ok (.bipush 65, 2) := by decide +kernel
theorem dX8_textTold_57 : decode cX8_textTold 57 = .ok (.iconst 2, 1) := by decide +kernel
theorem dX8_textTold_58 : decode cX8_textTold 58 = .ok (.iload_n 1, 1) := by decide +kernel
theorem dX8_textTold_59 : decode cX8_textTold 59 = .ok (.imul, 1) := by decide +kernel
theorem dX8_textTold_60 : decode cX8_textTold 60 = .ok (.iadd, 1) := by decide +kernel
theorem dX8_textTold_61 : decode cX8_textTold 61 = .ok (.iconst 1, 1) := by decide +kernel
theorem dX8_textTold_62 : decode cX8_textTold 62 = .ok (.iadd, 1) := by decide +kernel
theorem dX8_textTold_63 : decode cX8_textTold 63 = .ok (.iaload, 1) := by decide +kernel
theorem dX8_textTold_64 : decode cX8_textTold 64 = .ok (.ireturn, 1) := by decide +kernel
theorem dX8_counts_0 : decode cX8_counts 0 = .ok (.aload_n 0, 1) := by decide +kernel
theorem dX8_counts_1 : decode cX8_counts 1 = .ok (.getfield 9, 3) := by decide +kernel
theorem dX8_counts_4 : decode cX8_counts 4 = .ok (.bipush 8, 2) := by decide +kernel
theorem dX8_counts_6 : decode cX8_counts 6 = .ok (.iaload, 1) := by decide +kernel
theorem dX8_counts_7 : decode cX8_counts 7 = .ok (.iconst 1, 1) := by decide +kernel
theorem dX8_counts_8 : decode cX8_counts 8 = .ok (.isub, 1) := by decide +kernel
theorem dX8_counts_9 : decode cX8_counts 9 = .ok (.istore_n 2, 1) := by decide +kernel
theorem dX8_counts_10 : decode cX8_counts 10 = .ok (.iload_n 2, 1) := by decide +kernel
theorem dX8_counts_11 : decode cX8_counts 11 = .ok (.ifCond .lt 30, 3) := by decide +kernel
theorem dX8_counts_14 : decode cX8_counts 14 = .ok (.aload_n 0, 1) := by decide +kernel
theorem dX8_counts_15 : decode cX8_counts 15 = .ok (.getfield 9, 3) := by decide +kernel
theorem dX8_counts_18 : decode cX8_counts 18 = .ok (.bipush 65, 2) := by decide +kernel
theorem dX8_counts_20 : decode cX8_counts 20 = .ok (.iconst 2, 1) := by decide +kernel
theorem dX8_counts_21 : decode cX8_counts 21 = .ok (.iload_n 2, 1) := by decide +kernel
theorem dX8_counts_22 : decode cX8_counts 22 = .ok (.imul, 1) := by decide +kernel
theorem dX8_counts_23 : decode cX8_counts 23 = .ok (.iadd, 1) := by decide +kernel
theorem dX8_counts_24 : decode cX8_counts 24 = .ok (.iaload, 1) := by decide +kernel
theorem dX8_counts_25 : decode cX8_counts 25 = .ok (.sipush 1000, 3) := by decide +kernel
theorem dX8_counts_28 : decode cX8_counts 28 = .ok (.idiv, 1) := by decide +kernel
theorem dX8_counts_29 : decode cX8_counts 29 = .ok (.iload_n 1, 1) := by decide +kernel
theorem dX8_counts_30 : decode cX8_counts 30 = .ok (.if_icmp .ne 5, 3) := by decide +kernel
theorem dX8_counts_33 : decode cX8_counts 33 = .ok (.iload_n 2, 1) := by decide +kernel
theorem dX8_counts_34 : decode cX8_counts 34 = .ok (.ireturn, 1) := by decide +kernel
theorem dX8_counts_35 : decode cX8_counts 35 = .ok (.iinc 2 (-1), 3) := by decide +kernel
theorem dX8_counts_38 : decode cX8_counts 38 = .ok (.goto (-28), 3) := by decide +kernel
theorem dX8_counts_41 : decode cX8_counts 41 = .ok (.iconst (-1), 1) := by decide +kernel
theorem dX8_counts_42 : decode cX8_counts 42 = .ok (.ireturn, 1) := by decide +kernel
theorem dX8_why_0 : decode cX8_why 0 = .ok (.iload_n 1, 1) := by decide +kernel
theorem dX8_why_1 : decode cX8_why 1 = .ok (.iconst 0, 1) := by decide +kernel
theorem dX8_why_2 : decode cX8_why 2 = .ok (.iconst 2, 1) := by decide +kernel
theorem dX8_why_3 : decode cX8_why 3 = .ok (.invokestatic 80, 3) := by decide +kernel
theorem dX8_why_6 : decode cX8_why 6 = .ok (.ifCond .ne 6, 3) := by decide +kernel
theorem dX8_why_9 : decode cX8_why 9 = .ok (.ldc 92, 2) := by decide +kernel
theorem dX8_why_11 : decode cX8_why 11 = .ok (.ireturn, 1) := by decide +kernel
theorem dX8_why_12 : decode cX8_why 12 = .ok (.aload_n 0, 1) := by decide +kernel
theorem dX8_why_13 : decode cX8_why 13 = .ok (.iload_n 1, 1) := by decide +kernel
theorem dX8_why_14 : decode cX8_why 14 = .ok (.invokevirtual 98, 3) := by decide +kernel
theorem dX8_why_17 : decode cX8_why 17 = .ok (.istore_n 2, 1) := by decide +kernel
theorem dX8_why_18 : decode cX8_why 18 = .ok (.iload_n 2, 1) := by decide +kernel
theorem dX8_why_19 : decode cX8_why 19 = .ok (.ifCond .ge 8, 3) := by decide +kernel
theorem dX8_why_22 : decode cX8_why 22 = .ok (.ldc 79, 2) := by decide +kernel
theorem dX8_why_24 : decode cX8_why 24 = .ok (.goto 4, 3) := by decide +kernel
theorem dX8_why_27 : decode cX8_why 27 = .ok (.iload_n 2, 1) := by decide +kernel
theorem dX8_why_28 : decode cX8_why 28 = .ok (.ireturn, 1) := by decide +kernel
theorem dX8_two_0 : decode cX8_two 0 = .ok (.iload_n 0, 1) := by decide +kernel
theorem dX8_two_1 : decode cX8_two 1 = .ok (.tableswitch 120 (-8) (-1) #[116, 112, 108, 97, 86, 75, 61, 47], 47) := by decide +kernel
theorem dX8_two_48 : decode cX8_two 48 = .ok (.iload_n 1, 1) := by decide +kernel
theorem dX8_two_49 : decode cX8_two 49 = .ok (.ifCond .ne 7, 3) := by decide +kernel
theorem dX8_two_52 : decode cX8_two 52 = .ok (.iload_n 2, 1) := by decide +kernel
theorem dX8_two_53 : decode cX8_two 53 = .ok (.ifCond .eq 7, 3) := by decide +kernel
theorem dX8_two_56 : decode cX8_two 56 = .ok (.iconst 1, 1) := by decide +kernel
theorem dX8_two_57 : decode cX8_two 57 = .ok (.goto 4, 3) := by decide +kernel
theorem dX8_two_60 : decode cX8_two 60 = .ok (.iconst 0, 1) := by decide +kernel
theorem dX8_two_61 : decode cX8_two 61 = .ok (.ireturn, 1) := by decide +kernel
theorem dX8_two_62 : decode cX8_two 62 = .ok (.iload_n 1, 1) := by decide +kernel
theorem dX8_two_63 : decode cX8_two 63 = .ok (.ifCond .eq 11, 3) := by decide +kernel
theorem dX8_two_66 : decode cX8_two 66 = .ok (.iload_n 2, 1) := by decide +kernel
theorem dX8_two_67 : decode cX8_two 67 = .ok (.ifCond .eq 7, 3) := by decide +kernel
theorem dX8_two_70 : decode cX8_two 70 = .ok (.iconst 1, 1) := by decide +kernel
theorem dX8_two_71 : decode cX8_two 71 = .ok (.goto 4, 3) := by decide +kernel
theorem dX8_two_74 : decode cX8_two 74 = .ok (.iconst 0, 1) := by decide +kernel
theorem dX8_two_75 : decode cX8_two 75 = .ok (.ireturn, 1) := by decide +kernel
theorem dX8_two_76 : decode cX8_two 76 = .ok (.iload_n 1, 1) := by decide +kernel
theorem dX8_two_77 : decode cX8_two 77 = .ok (.iload_n 2, 1) := by decide +kernel
theorem dX8_two_78 : decode cX8_two 78 = .ok (.if_icmp .ge 7, 3) := by decide +kernel
theorem dX8_two_81 : decode cX8_two 81 = .ok (.iconst 1, 1) := by decide +kernel
theorem dX8_two_82 : decode cX8_two 82 = .ok (.goto 4, 3) := by decide +kernel
theorem dX8_two_85 : decode cX8_two 85 = .ok (.iconst 0, 1) := by decide +kernel
theorem dX8_two_86 : decode cX8_two 86 = .ok (.ireturn, 1) := by decide +kernel
theorem dX8_two_87 : decode cX8_two 87 = .ok (.iload_n 1, 1) := by decide +kernel
theorem dX8_two_88 : decode cX8_two 88 = .ok (.iload_n 2, 1) := by decide +kernel
theorem dX8_two_89 : decode cX8_two 89 = .ok (.if_icmp .ne 7, 3) := by decide +kernel
theorem dX8_two_92 : decode cX8_two 92 = .ok (.iconst 1, 1) := by decide +kernel
theorem dX8_two_93 : decode cX8_two 93 = .ok (.goto 4, 3) := by decide +kernel
theorem dX8_two_96 : decode cX8_two 96 = .ok (.iconst 0, 1) := by decide +kernel
theorem dX8_two_97 : decode cX8_two 97 = .ok (.ireturn, 1) := by decide +kernel
theorem dX8_two_98 : decode cX8_two 98 = .ok (.iload_n 1, 1) := by decide +kernel
theorem dX8_two_99 : decode cX8_two 99 = .ok (.iload_n 2, 1) := by decide +kernel
theorem dX8_two_100 : decode cX8_two 100 = .ok (.if_icmp .le 7, 3) := by decide +kernel
theorem dX8_two_103 : decode cX8_two 103 = .ok (.iconst 1, 1) := by decide +kernel
theorem dX8_two_104 : decode cX8_two 104 = .ok (.goto 4, 3) := by decide +kernel
theorem dX8_two_107 : decode cX8_two 107 = .ok (.iconst 0, 1) := by decide +kernel
theorem dX8_two_108 : decode cX8_two 108 = .ok (.ireturn, 1) := by decide +kernel
theorem dX8_two_109 : decode cX8_two 109 = .ok (.iload_n 1, 1) := by decide +kernel
theorem dX8_two_110 : decode cX8_two 110 = .ok (.iload_n 2, 1) := by decide +kernel
theorem dX8_two_111 : decode cX8_two 111 = .ok (.iadd, 1) := by decide +kernel
theorem dX8_two_112 : decode cX8_two 112 = .ok (.ireturn, 1) := by decide +kernel
theorem dX8_two_113 : decode cX8_two 113 = .ok (.iload_n 1, 1) := by decide +kernel
theorem dX8_two_114 : decode cX8_two 114 = .ok (.iload_n 2, 1) := by decide +kernel
theorem dX8_two_115 : decode cX8_two 115 = .ok (.isub, 1) := by decide +kernel
theorem dX8_two_116 : decode cX8_two 116 = .ok (.ireturn, 1) := by decide +kernel
theorem dX8_two_117 : decode cX8_two 117 = .ok (.iload_n 1, 1) := by decide +kernel
theorem dX8_two_118 : decode cX8_two 118 = .ok (.iload_n 2, 1) := by decide +kernel
theorem dX8_two_119 : decode cX8_two 119 = .ok (.imul, 1) := by decide +kernel
theorem dX8_two_120 : decode cX8_two 120 = .ok (.ireturn, 1) := by decide +kernel
theorem dX8_two_121 : decode cX8_two 121 = .ok (.iload_n 2, 1) := by decide +kernel
theorem dX8_two_122 : decode cX8_two 122 = .ok (.ifCond .ne 7, 3) := by decide +kernel
theorem dX8_two_125 : decode cX8_two 125 = .ok (.iconst 0, 1) := by decide +kernel
theorem dX8_two_126 : decode cX8_two 126 = .ok (.goto 6, 3) := by decide +kernel
theorem dX8_two_129 : decode cX8_two 129 = .ok (.iload_n 1, 1) := by decide +kernel
theorem dX8_two_130 : decode cX8_two 130 = .ok (.iload_n 2, 1) := by decide +kernel
theorem dX8_two_131 : decode cX8_two 131 = .ok (.idiv, 1) := by decide +kernel
theorem dX8_two_132 : decode cX8_two 132 = .ok (.ireturn, 1) := by decide +kernel
theorem dX8_worksOut_0 : decode cX8_worksOut 0 = .ok (.iconst 0, 1) := by decide +kernel
theorem dX8_worksOut_1 : decode cX8_worksOut 1 = .ok (.istore_n 2, 1) := by decide +kernel
theorem dX8_worksOut_2 : decode cX8_worksOut 2 = .ok (.aload_n 0, 1) := by decide +kernel
theorem dX8_worksOut_3 : decode cX8_worksOut 3 = .ok (.getfield 9, 3) := by decide +kernel
theorem dX8_worksOut_6 : decode cX8_worksOut 6 = .ok (.bipush 65, 2) := by decide +kernel
theorem dX8_worksOut_8 : decode cX8_worksOut 8 = .ok (.iconst 2, 1) := by decide +kernel
theorem dX8_worksOut_9 : decode cX8_worksOut 9 = .ok (.iload_n 1, 1) := by decide +kernel
theorem dX8_worksOut_10 : decode cX8_worksOut 10 = .ok (.imul, 1) := by decide +kernel
theorem dX8_worksOut_11 : decode cX8_worksOut 11 = .ok (.iadd, 1) := by decide +kernel
theorem dX8_worksOut_12 : decode cX8_worksOut 12 = .ok (.iaload, 1) := by decide +kernel
theorem dX8_worksOut_13 : decode cX8_worksOut 13 = .ok (.sipush 1000, 3) := by decide +kernel
theorem dX8_worksOut_16 : decode cX8_worksOut 16 = .ok (.irem, 1) := by decide +kernel
theorem dX8_worksOut_17 : decode cX8_worksOut 17 = .ok (.istore_n 3, 1) := by decide +kernel
theorem dX8_worksOut_18 : decode cX8_worksOut 18 = .ok (.iconst 0, 1) := by decide +kernel
theorem dX8_worksOut_19 : decode cX8_worksOut 19 = .ok (.istore 4, 2) := by decide +kernel
theorem dX8_worksOut_21 : decode cX8_worksOut 21 = .ok (.iload 4, 2) := by decide +kernel
theorem dX8_worksOut_23 : decode cX8_worksOut 23 = .ok (.iload_n 3, 1) := by decide +kernel
theorem dX8_worksOut_24 : decode cX8_worksOut 24 = .ok (.if_icmp .ge 131, 3) := by decide +kernel
theorem dX8_worksOut_27 : decode cX8_worksOut 27 = .ok (.aload_n 0, 1) := by decide +kernel
theorem dX8_worksOut_28 : decode cX8_worksOut 28 = .ok (.getfield 9, 3) := by decide +kernel
theorem dX8_worksOut_31 : decode cX8_worksOut 31 = .ok (.bipush 93, 2) := by decide +kernel
theorem dX8_worksOut_33 : decode cX8_worksOut 33 = .ok (.bipush 96, 2) := by decide +kernel
theorem dX8_worksOut_35 : decode cX8_worksOut 35 = .ok (.iload_n 1, 1) := by decide +kernel
theorem dX8_worksOut_36 : decode cX8_worksOut 36 = .ok (.imul, 1) := by decide +kernel
theorem dX8_worksOut_37 : decode cX8_worksOut 37 = .ok (.iadd, 1) := by decide +kernel
theorem dX8_worksOut_38 : decode cX8_worksOut 38 = .ok (.iload 4, 2) := by decide +kernel
theorem dX8_worksOut_40 : decode cX8_worksOut 40 = .ok (.iadd, 1) := by decide +kernel
theorem dX8_worksOut_41 : decode cX8_worksOut 41 = .ok (.iaload, 1) := by decide +kernel
theorem dX8_worksOut_42 : decode cX8_worksOut 42 = .ok (.istore 5, 2) := by decide +kernel
theorem dX8_worksOut_44 : decode cX8_worksOut 44 = .ok (.iload 5, 2) := by decide +kernel
theorem dX8_worksOut_46 : decode cX8_worksOut 46 = .ok (.ifCond .lt 39, 3) := by decide +kernel
theorem dX8_worksOut_49 : decode cX8_worksOut 49 = .ok (.aload_n 0, 1) := by decide +kernel
theorem dX8_worksOut_50 : decode cX8_worksOut 50 = .ok (.getfield 46, 3) := by decide +kernel
theorem dX8_worksOut_53 : decode cX8_worksOut 53 = .ok (.iload_n 2, 1) := by decide +kernel
theorem dX8_worksOut_54 : decode cX8_worksOut 54 = .ok (.iload 5, 2) := by decide +kernel
theorem dX8_worksOut_56 : decode cX8_worksOut 56 = .ok (.sipush 10000, 3) := by decide +kernel
theorem dX8_worksOut_59 : decode cX8_worksOut 59 = .ok (.if_icmp .ge 8, 3) := by decide +kernel
theorem dX8_worksOut_62 : decode cX8_worksOut 62 = .ok (.iload 5, 2) := by decide +kernel
theorem dX8_worksOut_64 : decode cX8_worksOut 64 = .ok (.goto 14, 3) := by decide +kernel
theorem dX8_worksOut_67 : decode cX8_worksOut 67 = .ok (.aload_n 0, 1) := by decide +kernel
theorem dX8_worksOut_68 : decode cX8_worksOut 68 = .ok (.getfield 49, 3) := by decide +kernel
theorem dX8_worksOut_71 : decode cX8_worksOut 71 = .ok (.iload 5, 2) := by decide +kernel
theorem dX8_worksOut_73 : decode cX8_worksOut 73 = .ok (.sipush 10000, 3) := by decide +kernel
theorem dX8_worksOut_76 : decode cX8_worksOut 76 = .ok (.isub, 1) := by decide +kernel
theorem dX8_worksOut_77 : decode cX8_worksOut 77 = .ok (.iaload, 1) := by decide +kernel
theorem dX8_worksOut_78 : decode cX8_worksOut 78 = .ok (.iastore, 1) := by decide +kernel
theorem dX8_worksOut_79 : decode cX8_worksOut 79 = .ok (.iinc 2 1, 3) := by decide +kernel
theorem dX8_worksOut_82 : decode cX8_worksOut 82 = .ok (.goto 67, 3) := by decide +kernel
theorem dX8_worksOut_85 : decode cX8_worksOut 85 = .ok (.iload 5, 2) := by decide +kernel
theorem dX8_worksOut_87 : decode cX8_worksOut 87 = .ok (.bipush (-10), 2) := by decide +kernel
theorem dX8_worksOut_89 : decode cX8_worksOut 89 = .ok (.if_icmp .ne 30, 3) := by decide +kernel
theorem dX8_worksOut_92 : decode cX8_worksOut 92 = .ok (.aload_n 0, 1) := by decide +kernel
theorem dX8_worksOut_93 : decode cX8_worksOut 93 = .ok (.getfield 46, 3) := by decide +kernel
theorem dX8_worksOut_96 : decode cX8_worksOut 96 = .ok (.iload_n 2, 1) := by decide +kernel
theorem dX8_worksOut_97 : decode cX8_worksOut 97 = .ok (.iconst 1, 1) := by decide +kernel
theorem dX8_worksOut_98 : decode cX8_worksOut 98 = .ok (.isub, 1) := by decide +kernel
theorem dX8_worksOut_99 : decode cX8_worksOut 99 = .ok (.aload_n 0, 1) := by decide +kernel
theorem dX8_worksOut_100 : decode cX8_worksOut 100 = .ok (.getfield 46, 3) := by decide +kernel
theorem dX8_worksOut_103 : decode cX8_worksOut 103 = .ok (.iload_n 2, 1) := by decide +kernel
theorem dX8_worksOut_104 : decode cX8_worksOut 104 = .ok (.iconst 1, 1) := by decide +kernel
theorem dX8_worksOut_105 : decode cX8_worksOut 105 = .ok (.isub, 1) := by decide +kernel
theorem dX8_worksOut_106 : decode cX8_worksOut 106 = .ok (.iaload, 1) := by decide +kernel
theorem dX8_worksOut_107 : decode cX8_worksOut 107 = .ok (.ifCond .ne 7, 3) := by decide +kernel
theorem dX8_worksOut_110 : decode cX8_worksOut 110 = .ok (.iconst 1, 1) := by decide +kernel
theorem dX8_worksOut_111 : decode cX8_worksOut 111 = .ok (.goto 4, 3) := by decide +kernel
theorem dX8_worksOut_114 : decode cX8_worksOut 114 = .ok (.iconst 0, 1) := by decide +kernel
theorem dX8_worksOut_115 : decode cX8_worksOut 115 = .ok (.iastore, 1) := by decide +kernel
theorem dX8_worksOut_116 : decode cX8_worksOut 116 = .ok (.goto 33, 3) := by decide +kernel
theorem dX8_worksOut_119 : decode cX8_worksOut 119 = .ok (.iinc 2 (-1), 3) := by decide +kernel
theorem dX8_worksOut_122 : decode cX8_worksOut 122 = .ok (.aload_n 0, 1) := by decide +kernel
theorem dX8_worksOut_123 : decode cX8_worksOut 123 = .ok (.getfield 46, 3) := by decide +kernel
theorem dX8_worksOut_126 : decode cX8_worksOut 126 = .ok (.iload_n 2, 1) := by decide +kernel
theorem dX8_worksOut_127 : decode cX8_worksOut 127 = .ok (.iconst 1, 1) := by decide +kernel
theorem dX8_worksOut_128 : decode cX8_worksOut 128 = .ok (.isub, 1) := by decide +kernel
theorem dX8_worksOut_129 : decode cX8_worksOut 129 = .ok (.iload 5, 2) := by decide +kernel
theorem dX8_worksOut_131 : decode cX8_worksOut 131 = .ok (.aload_n 0, 1) := by decide +kernel
theorem dX8_worksOut_132 : decode cX8_worksOut 132 = .ok (.getfield 46, 3) := by decide +kernel
theorem dX8_worksOut_135 : decode cX8_worksOut 135 = .ok (.iload_n 2, 1) := by decide +kernel
theorem dX8_worksOut_136 : decode cX8_worksOut 136 = .ok (.iconst 1, 1) := by decide +kernel
theorem dX8_worksOut_137 : decode cX8_worksOut 137 = .ok (.isub, 1) := by decide +kernel
theorem dX8_worksOut_138 : decode cX8_worksOut 138 = .ok (.iaload, 1) := by decide +kernel
theorem dX8_worksOut_139 : decode cX8_worksOut 139 = .ok (.aload_n 0, 1) := by decide +kernel
theorem dX8_worksOut_140 : decode cX8_worksOut 140 = .ok (.getfield 46, 3) := by decide +kernel
theorem dX8_worksOut_143 : decode cX8_worksOut 143 = .ok (.iload_n 2, 1) := by decide +kernel
theorem dX8_worksOut_144 : decode cX8_worksOut 144 = .ok (.iaload, 1) := by decide +kernel
theorem dX8_worksOut_145 : decode cX8_worksOut 145 = .ok (.invokestatic 254, 3) := by decide +kernel
theorem dX8_worksOut_148 : decode cX8_worksOut 148 = .ok (.iastore, 1) := by decide +kernel
theorem dX8_worksOut_149 : decode cX8_worksOut 149 = .ok (.iinc 4 1, 3) := by decide +kernel
theorem dX8_worksOut_152 : decode cX8_worksOut 152 = .ok (.goto (-131), 3) := by decide +kernel
theorem dX8_worksOut_155 : decode cX8_worksOut 155 = .ok (.aload_n 0, 1) := by decide +kernel
theorem dX8_worksOut_156 : decode cX8_worksOut 156 = .ok (.getfield 46, 3) := by decide +kernel
theorem dX8_worksOut_159 : decode cX8_worksOut 159 = .ok (.iconst 0, 1) := by decide +kernel
theorem dX8_worksOut_160 : decode cX8_worksOut 160 = .ok (.iaload, 1) := by decide +kernel
theorem dX8_worksOut_161 : decode cX8_worksOut 161 = .ok (.ireturn, 1) := by decide +kernel
theorem dX8_isSheet_0 : decode cX8_isSheet 0 = .ok (.iload_n 0, 1) := by decide +kernel
theorem dX8_isSheet_1 : decode cX8_isSheet 1 = .ok (.iconst 0, 1) := by decide +kernel
theorem dX8_isSheet_2 : decode cX8_isSheet 2 = .ok (.iconst 3, 1) := by decide +kernel
theorem dX8_isSheet_3 : decode cX8_isSheet 3 = .ok (.invokestatic 80, 3) := by decide +kernel
theorem dX8_isSheet_6 : decode cX8_isSheet 6 = .ok (.ireturn, 1) := by decide +kernel
theorem dX8_isSlot_0 : decode cX8_isSlot 0 = .ok (.iload_n 0, 1) := by decide +kernel
theorem dX8_isSlot_1 : decode cX8_isSlot 1 = .ok (.iconst 0, 1) := by decide +kernel
theorem dX8_isSlot_2 : decode cX8_isSlot 2 = .ok (.iconst 4, 1) := by decide +kernel
theorem dX8_isSlot_3 : decode cX8_isSlot 3 = .ok (.invokestatic 80, 3) := by decide +kernel
theorem dX8_isSlot_6 : decode cX8_isSlot 6 = .ok (.ireturn, 1) := by decide +kernel
theorem dX8_sheet_0 : decode cX8_sheet 0 = .ok (.iload_n 1, 1) := by decide +kernel
theorem dX8_sheet_1 : decode cX8_sheet 1 = .ok (.invokestatic 182, 3) := by decide +kernel
theorem dX8_sheet_4 : decode cX8_sheet 4 = .ok (.ifCond .eq 22, 3) := by decide +kernel
theorem dX8_sheet_7 : decode cX8_sheet 7 = .ok (.iload_n 2, 1) := by decide +kernel
theorem dX8_sheet_8 : decode cX8_sheet 8 = .ok (.iconst (-1), 1) := by decide +kernel
theorem dX8_sheet_9 : decode cX8_sheet 9 = .ok (.iconst 1, 1) := by decide +kernel
theorem dX8_sheet_10 : decode cX8_sheet 10 = .ok (.invokestatic 80, 3) := by decide +kernel
theorem dX8_sheet_13 : decode cX8_sheet 13 = .ok (.ifCond .eq 13, 3) := by decide +kernel
theorem dX8_sheet_16 : decode cX8_sheet 16 = .ok (.iload_n 2, 1) := by decide +kernel
theorem dX8_sheet_17 : decode cX8_sheet 17 = .ok (.ifCond .lt 12, 3) := by decide +kernel
theorem dX8_sheet_20 : decode cX8_sheet 20 = .ok (.iload_n 3, 1) := by decide +kernel
theorem dX8_sheet_21 : decode cX8_sheet 21 = .ok (.bipush 24, 2) := by decide +kernel
theorem dX8_sheet_23 : decode cX8_sheet 23 = .ok (.if_icmp .le 6, 3) := by decide +kernel
theorem dX8_sheet_26 : decode cX8_sheet 26 = .ok (.ldc 92, 2) := by decide +kernel
theorem dX8_sheet_28 : decode cX8_sheet 28 = .ok (.ireturn, 1) := by decide +kernel
theorem dX8_sheet_29 : decode cX8_sheet 29 = .ok (.iload_n 2, 1) := by decide +kernel
theorem dX8_sheet_30 : decode cX8_sheet 30 = .ok (.ifCond .lt 11, 3) := by decide +kernel
theorem dX8_sheet_33 : decode cX8_sheet 33 = .ok (.iload_n 3, 1) := by decide +kernel
theorem dX8_sheet_34 : decode cX8_sheet 34 = .ok (.ifCond .ge 7, 3) := by decide +kernel
theorem dX8_sheet_37 : decode cX8_sheet 37 = .ok (.ldc_w 257, 3) := by decide +kernel
theorem dX8_sheet_40 : decode cX8_sheet 40 = .ok (.ireturn, 1) := by decide +kernel
theorem dX8_sheet_41 : decode cX8_sheet 41 = .ok (.aload_n 0, 1) := by decide +kernel
theorem dX8_sheet_42 : decode cX8_sheet 42 = .ok (.getfield 52, 3) := by decide +kernel
theorem dX8_sheet_45 : decode cX8_sheet 45 = .ok (.iload_n 1, 1) := by decide +kernel
theorem dX8_sheet_46 : decode cX8_sheet 46 = .ok (.iload_n 2, 1) := by decide +kernel
theorem dX8_sheet_47 : decode cX8_sheet 47 = .ok (.iastore, 1) := by decide +kernel
theorem dX8_sheet_48 : decode cX8_sheet 48 = .ok (.aload_n 0, 1) := by decide +kernel
theorem dX8_sheet_49 : decode cX8_sheet 49 = .ok (.getfield 55, 3) := by decide +kernel
theorem dX8_sheet_52 : decode cX8_sheet 52 = .ok (.iload_n 1, 1) := by decide +kernel
theorem dX8_sheet_53 : decode cX8_sheet 53 = .ok (.iload_n 2, 1) := by decide +kernel
theorem dX8_sheet_54 : decode cX8_sheet 54 = .ok (.ifCond .ge 7, 3) := by decide +kernel
theorem dX8_sheet_57 : decode cX8_sheet 57 = .ok (.iconst 0, 1) := by decide +kernel
theorem dX8_sheet_58 : decode cX8_sheet 58 = .ok (.goto 4, 3) := by decide +kernel
theorem dX8_sheet_61 : decode cX8_sheet 61 = .ok (.iload_n 3, 1) := by decide +kernel
theorem dX8_sheet_62 : decode cX8_sheet 62 = .ok (.iastore, 1) := by decide +kernel
theorem dX8_sheet_63 : decode cX8_sheet 63 = .ok (.iconst 0, 1) := by decide +kernel
theorem dX8_sheet_64 : decode cX8_sheet 64 = .ok (.istore 4, 2) := by decide +kernel
theorem dX8_sheet_66 : decode cX8_sheet 66 = .ok (.iload 4, 2) := by decide +kernel
theorem dX8_sheet_68 : decode cX8_sheet 68 = .ok (.bipush 24, 2) := by decide +kernel
theorem dX8_sheet_70 : decode cX8_sheet 70 = .ok (.if_icmp .ge 22, 3) := by decide +kernel
theorem dX8_sheet_73 : decode cX8_sheet 73 = .ok (.aload_n 0, 1) := by decide +kernel
theorem dX8_sheet_74 : decode cX8_sheet 74 = .ok (.getfield 58, 3) := by decide +kernel
theorem dX8_sheet_77 : decode cX8_sheet 77 = .ok (.bipush 24, 2) := by decide +kernel
theorem dX8_sheet_79 : decode cX8_sheet 79 = .ok (.iload_n 1, 1) := by decide +kernel
theorem dX8_sheet_80 : decode cX8_sheet 80 = .ok (.imul, 1) := by decide +kernel
theorem dX8_sheet_81 : decode cX8_sheet 81 = .ok (.iload 4, 2) := by decide +kernel
theorem dX8_sheet_83 : decode cX8_sheet 83 = .ok (.iadd, 1) := by decide +kernel
theorem dX8_sheet_84 : decode cX8_sheet 84 = .ok (.iconst 0, 1) := by decide +kernel
theorem dX8_sheet_85 : decode cX8_sheet 85 = .ok (.iastore, 1) := by decide +kernel
theorem dX8_sheet_86 : decode cX8_sheet 86 = .ok (.iinc 4 1, 3) := by decide +kernel
theorem dX8_sheet_89 : decode cX8_sheet 89 = .ok (.goto (-23), 3) := by decide +kernel
theorem dX8_sheet_92 : decode cX8_sheet 92 = .ok (.aload_n 0, 1) := by decide +kernel
theorem dX8_sheet_93 : decode cX8_sheet 93 = .ok (.getfield 55, 3) := by decide +kernel
theorem dX8_sheet_96 : decode cX8_sheet 96 = .ok (.iload_n 1, 1) := by decide +kernel
theorem dX8_sheet_97 : decode cX8_sheet 97 = .ok (.iaload, 1) := by decide +kernel
theorem dX8_sheet_98 : decode cX8_sheet 98 = .ok (.ireturn, 1) := by decide +kernel
theorem dX8_mark_0 : decode cX8_mark 0 = .ok (.iload_n 1, 1) := by decide +kernel
theorem dX8_mark_1 : decode cX8_mark 1 = .ok (.invokestatic 182, 3) := by decide +kernel
theorem dX8_mark_4 : decode cX8_mark 4 = .ok (.ifCond .ne 6, 3) := by decide +kernel
theorem dX8_mark_7 : decode cX8_mark 7 = .ok (.ldc 92, 2) := by decide +kernel
theorem dX8_mark_9 : decode cX8_mark 9 = .ok (.ireturn, 1) := by decide +kernel
theorem dX8_mark_10 : decode cX8_mark 10 = .ok (.aload_n 0, 1) := by decide +kernel
theorem dX8_mark_11 : decode cX8_mark 11 = .ok (.getfield 52, 3) := by decide +kernel
theorem dX8_mark_14 : decode cX8_mark 14 = .ok (.iload_n 1, 1) := by decide +kernel
theorem dX8_mark_15 : decode cX8_mark 15 = .ok (.iaload, 1) := by decide +kernel
theorem dX8_mark_16 : decode cX8_mark 16 = .ok (.ifCond .ge 6, 3) := by decide +kernel
theorem dX8_mark_19 : decode cX8_mark 19 = .ok (.ldc 185, 2) := by decide +kernel
theorem dX8_mark_21 : decode cX8_mark 21 = .ok (.ireturn, 1) := by decide +kernel
theorem dX8_mark_22 : decode cX8_mark 22 = .ok (.iload_n 2, 1) := by decide +kernel
theorem dX8_mark_23 : decode cX8_mark 23 = .ok (.iconst 0, 1) := by decide +kernel
theorem dX8_mark_24 : decode cX8_mark 24 = .ok (.aload_n 0, 1) := by decide +kernel
theorem dX8_mark_25 : decode cX8_mark 25 = .ok (.getfield 55, 3) := by decide +kernel
theorem dX8_mark_28 : decode cX8_mark 28 = .ok (.iload_n 1, 1) := by decide +kernel
theorem dX8_mark_29 : decode cX8_mark 29 = .ok (.iaload, 1) := by decide +kernel
theorem dX8_mark_30 : decode cX8_mark 30 = .ok (.iconst 1, 1) := by decide +kernel
theorem dX8_mark_31 : decode cX8_mark 31 = .ok (.isub, 1) := by decide +kernel
theorem dX8_mark_32 : decode cX8_mark 32 = .ok (.invokestatic 80, 3) := by decide +kernel
theorem dX8_mark_35 : decode cX8_mark 35 = .ok (.ifCond .ne 7, 3) := by decide +kernel
theorem dX8_mark_38 : decode cX8_mark 38 = .ok (.ldc_w 258, 3) := by decide +kernel
theorem dX8_mark_41 : decode cX8_mark 41 = .ok (.ireturn, 1) := by decide +kernel
theorem dX8_mark_42 : decode cX8_mark 42 = .ok (.aload_n 0, 1) := by decide +kernel
theorem dX8_mark_43 : decode cX8_mark 43 = .ok (.getfield 52, 3) := by decide +kernel
theorem dX8_mark_46 : decode cX8_mark 46 = .ok (.iload_n 1, 1) := by decide +kernel
theorem dX8_mark_47 : decode cX8_mark 47 = .ok (.iaload, 1) := by decide +kernel
theorem dX8_mark_48 : decode cX8_mark 48 = .ok (.ifCond .ne 12, 3) := by decide +kernel
theorem dX8_mark_51 : decode cX8_mark 51 = .ok (.iload_n 3, 1) := by decide +kernel
theorem dX8_mark_52 : decode cX8_mark 52 = .ok (.ldc 79, 2) := by decide +kernel
theorem dX8_mark_54 : decode cX8_mark 54 = .ok (.if_icmp .ne 6, 3) := by decide +kernel
theorem dX8_mark_57 : decode cX8_mark 57 = .ok (.ldc 135, 2) := by decide +kernel
theorem dX8_mark_59 : decode cX8_mark 59 = .ok (.ireturn, 1) := by decide +kernel
theorem dX8_mark_60 : decode cX8_mark 60 = .ok (.aload_n 0, 1) := by decide +kernel
theorem dX8_mark_61 : decode cX8_mark 61 = .ok (.getfield 52, 3) := by decide +kernel
theorem dX8_mark_64 : decode cX8_mark 64 = .ok (.iload_n 1, 1) := by decide +kernel
theorem dX8_mark_65 : decode cX8_mark 65 = .ok (.iaload, 1) := by decide +kernel
theorem dX8_mark_66 : decode cX8_mark 66 = .ok (.iconst 1, 1) := by decide +kernel
theorem dX8_mark_67 : decode cX8_mark 67 = .ok (.if_icmp .ne 25, 3) := by decide +kernel
theorem dX8_mark_70 : decode cX8_mark 70 = .ok (.iload_n 3, 1) := by decide +kernel
theorem dX8_mark_71 : decode cX8_mark 71 = .ok (.ldc 79, 2) := by decide +kernel
theorem dX8_mark_73 : decode cX8_mark 73 = .ok (.if_icmp .eq 19, 3) := by decide +kernel
theorem dX8_mark_76 : decode cX8_mark 76 = .ok (.iload_n 3, 1) := by decide +kernel
theorem dX8_mark_77 : decode cX8_mark 77 = .ok (.ldc_w 259, 3) := by decide +kernel
theorem dX8_mark_80 : decode cX8_mark 80 = .ok (.ldc_w 260, 3) := by decide +kernel
theorem dX8_mark_83 : decode cX8_mark 83 = .ok (.invokestatic 80, 3) := by decide +kernel
theorem dX8_mark_86 : decode cX8_mark 86 = .ok (.ifCond .ne 6, 3) := by decide +kernel
theorem dX8_mark_89 : decode cX8_mark 89 = .ok (.ldc 92, 2) := by decide +kernel
theorem dX8_mark_91 : decode cX8_mark 91 = .ok (.ireturn, 1) := by decide +kernel
theorem dX8_mark_92 : decode cX8_mark 92 = .ok (.aload_n 0, 1) := by decide +kernel
theorem dX8_mark_93 : decode cX8_mark 93 = .ok (.getfield 58, 3) := by decide +kernel
theorem dX8_mark_96 : decode cX8_mark 96 = .ok (.bipush 24, 2) := by decide +kernel
theorem dX8_mark_98 : decode cX8_mark 98 = .ok (.iload_n 1, 1) := by decide +kernel
theorem dX8_mark_99 : decode cX8_mark 99 = .ok (.imul, 1) := by decide +kernel
theorem dX8_mark_100 : decode cX8_mark 100 = .ok (.iload_n 2, 1) := by decide +kernel
theorem dX8_mark_101 : decode cX8_mark 101 = .ok (.iadd, 1) := by decide +kernel
theorem dX8_mark_102 : decode cX8_mark 102 = .ok (.aload_n 0, 1) := by decide +kernel
theorem dX8_mark_103 : decode cX8_mark 103 = .ok (.getfield 52, 3) := by decide +kernel
theorem dX8_mark_106 : decode cX8_mark 106 = .ok (.iload_n 1, 1) := by decide +kernel
theorem dX8_mark_107 : decode cX8_mark 107 = .ok (.iaload, 1) := by decide +kernel
theorem dX8_mark_108 : decode cX8_mark 108 = .ok (.ifCond .ne 8, 3) := by decide +kernel
theorem dX8_mark_111 : decode cX8_mark 111 = .ok (.iload_n 3, 1) := by decide +kernel
theorem dX8_mark_112 : decode cX8_mark 112 = .ok (.i2s, 1) := by decide +kernel
theorem dX8_mark_113 : decode cX8_mark 113 = .ok (.goto 4, 3) := by decide +kernel
theorem dX8_mark_116 : decode cX8_mark 116 = .ok (.iload_n 3, 1) := by decide +kernel
theorem dX8_mark_117 : decode cX8_mark 117 = .ok (.iastore, 1) := by decide +kernel
theorem dX8_mark_118 : decode cX8_mark 118 = .ok (.iconst 1, 1) := by decide +kernel
theorem dX8_mark_119 : decode cX8_mark 119 = .ok (.ireturn, 1) := by decide +kernel
theorem dX8_pour_0 : decode cX8_pour 0 = .ok (.iload_n 1, 1) := by decide +kernel
theorem dX8_pour_1 : decode cX8_pour 1 = .ok (.invokestatic 182, 3) := by decide +kernel
theorem dX8_pour_4 : decode cX8_pour 4 = .ok (.ifCond .ne 6, 3) := by decide +kernel
theorem dX8_pour_7 : decode cX8_pour 7 = .ok (.ldc 92, 2) := by decide +kernel
theorem dX8_pour_9 : decode cX8_pour 9 = .ok (.ireturn, 1) := by decide +kernel
theorem dX8_pour_10 : decode cX8_pour 10 = .ok (.aload_n 0, 1) := by decide +kernel
theorem dX8_pour_11 : decode cX8_pour 11 = .ok (.getfield 52, 3) := by decide +kernel
theorem dX8_pour_14 : decode cX8_pour 14 = .ok (.iload_n 1, 1) := by decide +kernel
theorem dX8_pour_15 : decode cX8_pour 15 = .ok (.iaload, 1) := by decide +kernel
theorem dX8_pour_16 : decode cX8_pour 16 = .ok (.ifCond .ge 6, 3) := by decide +kernel
theorem dX8_pour_19 : decode cX8_pour 19 = .ok (.ldc 185, 2) := by decide +kernel
theorem dX8_pour_21 : decode cX8_pour 21 = .ok (.ireturn, 1) := by decide +kernel
theorem dX8_pour_22 : decode cX8_pour 22 = .ok (.iconst 0, 1) := by decide +kernel
theorem dX8_pour_23 : decode cX8_pour 23 = .ok (.istore_n 2, 1) := by decide +kernel
theorem dX8_pour_24 : decode cX8_pour 24 = .ok (.iconst 0, 1) := by decide +kernel
theorem dX8_pour_25 : decode cX8_pour 25 = .ok (.istore_n 3, 1) := by decide +kernel
theorem dX8_pour_26 : decode cX8_pour 26 = .ok (.iload_n 3, 1) := by decide +kernel
theorem dX8_pour_27 : decode cX8_pour 27 = .ok (.aload_n 0, 1) := by decide +kernel
theorem dX8_pour_28 : decode cX8_pour 28 = .ok (.getfield 55, 3) := by decide +kernel
theorem dX8_pour_31 : decode cX8_pour 31 = .ok (.iload_n 1, 1) := by decide +kernel
theorem dX8_pour_32 : decode cX8_pour 32 = .ok (.iaload, 1) := by decide +kernel
theorem dX8_pour_33 : decode cX8_pour 33 = .ok (.if_icmp .ge 86, 3) := by decide +kernel
theorem dX8_pour_36 : decode cX8_pour 36 = .ok (.iload_n 3, 1) := by decide +kernel
theorem dX8_pour_37 : decode cX8_pour 37 = .ok (.aload_n 0, 1) := by decide +kernel
theorem dX8_pour_38 : decode cX8_pour 38 = .ok (.getfield 9, 3) := by decide +kernel
theorem dX8_pour_41 : decode cX8_pour 41 = .ok (.iconst 1, 1) := by decide +kernel
theorem dX8_pour_42 : decode cX8_pour 42 = .ok (.iaload, 1) := by decide +kernel
theorem dX8_pour_43 : decode cX8_pour 43 = .ok (.if_icmp .ge 76, 3) := by decide +kernel
theorem dX8_pour_46 : decode cX8_pour 46 = .ok (.aload_n 0, 1) := by decide +kernel
theorem dX8_pour_47 : decode cX8_pour 47 = .ok (.getfield 58, 3) := by decide +kernel
theorem dX8_pour_50 : decode cX8_pour 50 = .ok (.bipush 24, 2) := by decide +kernel
theorem dX8_pour_52 : decode cX8_pour 52 = .ok (.iload_n 1, 1) := by decide +kernel
theorem dX8_pour_53 : decode cX8_pour 53 = .ok (.imul, 1) := by decide +kernel
theorem dX8_pour_54 : decode cX8_pour 54 = .ok (.iload_n 3, 1) := by decide +kernel
theorem dX8_pour_55 : decode cX8_pour 55 = .ok (.iadd, 1) := by decide +kernel
theorem dX8_pour_56 : decode cX8_pour 56 = .ok (.iaload, 1) := by decide +kernel
theorem dX8_pour_57 : decode cX8_pour 57 = .ok (.istore 4, 2) := by decide +kernel
theorem dX8_pour_59 : decode cX8_pour 59 = .ok (.iload 4, 2) := by decide +kernel
theorem dX8_pour_61 : decode cX8_pour 61 = .ok (.ldc 79, 2) := by decide +kernel
theorem dX8_pour_63 : decode cX8_pour 63 = .ok (.if_icmp .ne 12, 3) := by decide +kernel
theorem dX8_pour_66 : decode cX8_pour 66 = .ok (.aload_n 0, 1) := by decide +kernel
theorem dX8_pour_67 : decode cX8_pour 67 = .ok (.iload_n 3, 1) := by decide +kernel
theorem dX8_pour_68 : decode cX8_pour 68 = .ok (.iconst 2, 1) := by decide +kernel
theorem dX8_pour_69 : decode cX8_pour 69 = .ok (.invokevirtual 102, 3) := by decide +kernel
theorem dX8_pour_72 : decode cX8_pour 72 = .ok (.goto 11, 3) := by decide +kernel
theorem dX8_pour_75 : decode cX8_pour 75 = .ok (.iload 4, 2) := by decide +kernel
theorem dX8_pour_77 : decode cX8_pour 77 = .ok (.iconst 1, 1) := by decide +kernel
theorem dX8_pour_78 : decode cX8_pour 78 = .ok (.bipush 99, 2) := by decide +kernel
theorem dX8_pour_80 : decode cX8_pour 80 = .ok (.invokestatic 109, 3) := by decide +kernel
theorem dX8_pour_83 : decode cX8_pour 83 = .ok (.istore 5, 2) := by decide +kernel
theorem dX8_pour_85 : decode cX8_pour 85 = .ok (.iload_n 2, 1) := by decide +kernel
theorem dX8_pour_86 : decode cX8_pour 86 = .ok (.aload_n 0, 1) := by decide +kernel
theorem dX8_pour_87 : decode cX8_pour 87 = .ok (.bipush 9, 2) := by decide +kernel
theorem dX8_pour_89 : decode cX8_pour 89 = .ok (.bipush 7, 2) := by decide +kernel
theorem dX8_pour_91 : decode cX8_pour 91 = .ok (.iload_n 3, 1) := by decide +kernel
theorem dX8_pour_92 : decode cX8_pour 92 = .ok (.imul, 1) := by decide +kernel
theorem dX8_pour_93 : decode cX8_pour 93 = .ok (.iadd, 1) := by decide +kernel
theorem dX8_pour_94 : decode cX8_pour 94 = .ok (.iconst 2, 1) := by decide +kernel
theorem dX8_pour_95 : decode cX8_pour 95 = .ok (.iadd, 1) := by decide +kernel
theorem dX8_pour_96 : decode cX8_pour 96 = .ok (.iload 5, 2) := by decide +kernel
theorem dX8_pour_98 : decode cX8_pour 98 = .ok (.invokevirtual 136, 3) := by decide +kernel
theorem dX8_pour_101 : decode cX8_pour 101 = .ok (.iload 5, 2) := by decide +kernel
theorem dX8_pour_103 : decode cX8_pour 103 = .ok (.if_icmp .ne 7, 3) := by decide +kernel
theorem dX8_pour_106 : decode cX8_pour 106 = .ok (.iconst 0, 1) := by decide +kernel
theorem dX8_pour_107 : decode cX8_pour 107 = .ok (.goto 4, 3) := by decide +kernel
theorem dX8_pour_110 : decode cX8_pour 110 = .ok (.iconst 1, 1) := by decide +kernel
theorem dX8_pour_111 : decode cX8_pour 111 = .ok (.iadd, 1) := by decide +kernel
theorem dX8_pour_112 : decode cX8_pour 112 = .ok (.istore_n 2, 1) := by decide +kernel
theorem dX8_pour_113 : decode cX8_pour 113 = .ok (.iinc 3 1, 3) := by decide +kernel
theorem dX8_pour_116 : decode cX8_pour 116 = .ok (.goto (-90), 3) := by decide +kernel
theorem dX8_pour_119 : decode cX8_pour 119 = .ok (.iload_n 2, 1) := by decide +kernel
theorem dX8_pour_120 : decode cX8_pour 120 = .ok (.ireturn, 1) := by decide +kernel
theorem dX8_reads_0 : decode cX8_reads 0 = .ok (.iload_n 1, 1) := by decide +kernel
theorem dX8_reads_1 : decode cX8_reads 1 = .ok (.invokestatic 182, 3) := by decide +kernel
theorem dX8_reads_4 : decode cX8_reads 4 = .ok (.ifCond .ne 6, 3) := by decide +kernel
theorem dX8_reads_7 : decode cX8_reads 7 = .ok (.ldc 92, 2) := by decide +kernel
theorem dX8_reads_9 : decode cX8_reads 9 = .ok (.ireturn, 1) := by decide +kernel
theorem dX8_reads_10 : decode cX8_reads 10 = .ok (.aload_n 0, 1) := by decide +kernel
theorem dX8_reads_11 : decode cX8_reads 11 = .ok (.getfield 52, 3) := by decide +kernel
theorem dX8_reads_14 : decode cX8_reads 14 = .ok (.iload_n 1, 1) := by decide +kernel
theorem dX8_reads_15 : decode cX8_reads 15 = .ok (.iaload, 1) := by decide +kernel
theorem dX8_reads_16 : decode cX8_reads 16 = .ok (.ifCond .ge 6, 3) := by decide +kernel
theorem dX8_reads_19 : decode cX8_reads 19 = .ok (.ldc 185, 2) := by decide +kernel
theorem dX8_reads_21 : decode cX8_reads 21 = .ok (.ireturn, 1) := by decide +kernel
theorem dX8_reads_22 : decode cX8_reads 22 = .ok (.iconst 0, 1) := by decide +kernel
theorem dX8_reads_23 : decode cX8_reads 23 = .ok (.istore_n 2, 1) := by decide +kernel
theorem dX8_reads_24 : decode cX8_reads 24 = .ok (.iload_n 2, 1) := by decide +kernel
theorem dX8_reads_25 : decode cX8_reads 25 = .ok (.aload_n 0, 1) := by decide +kernel
theorem dX8_reads_26 : decode cX8_reads 26 = .ok (.getfield 55, 3) := by decide +kernel
theorem dX8_reads_29 : decode cX8_reads 29 = .ok (.iload_n 1, 1) := by decide +kernel
theorem dX8_reads_30 : decode cX8_reads 30 = .ok (.iaload, 1) := by decide +kernel
theorem dX8_reads_31 : decode cX8_reads 31 = .ok (.if_icmp .ge 47, 3) := by decide +kernel
theorem dX8_reads_34 : decode cX8_reads 34 = .ok (.aload_n 0, 1) := by decide +kernel
theorem dX8_reads_35 : decode cX8_reads 35 = .ok (.getfield 58, 3) := by decide +kernel
theorem dX8_reads_38 : decode cX8_reads 38 = .ok (.bipush 24, 2) := by decide +kernel
theorem dX8_reads_40 : decode cX8_reads 40 = .ok (.iload_n 1, 1) := by decide +kernel
theorem dX8_reads_41 : decode cX8_reads 41 = .ok (.imul, 1) := by decide +kernel
theorem dX8_reads_42 : decode cX8_reads 42 = .ok (.iload_n 2, 1) := by decide +kernel
theorem dX8_reads_43 : decode cX8_reads 43 = .ok (.iadd, 1) := by decide +kernel
theorem dX8_reads_44 : decode cX8_reads 44 = .ok (.iaload, 1) := by decide +kernel
theorem dX8_reads_45 : decode cX8_reads 45 = .ok (.istore_n 3, 1) := by decide +kernel
theorem dX8_reads_46 : decode cX8_reads 46 = .ok (.iload_n 3, 1) := by decide +kernel
theorem dX8_reads_47 : decode cX8_reads 47 = .ok (.ldc 79, 2) := by decide +kernel
theorem dX8_reads_49 : decode cX8_reads 49 = .ok (.if_icmp .eq 23, 3) := by decide +kernel
theorem dX8_reads_52 : decode cX8_reads 52 = .ok (.aload_n 0, 1) := by decide +kernel
theorem dX8_reads_53 : decode cX8_reads 53 = .ok (.iload_n 2, 1) := by decide +kernel
theorem dX8_reads_54 : decode cX8_reads 54 = .ok (.invokevirtual 116, 3) := by decide +kernel
theorem dX8_reads_57 : decode cX8_reads 57 = .ok (.ifCond .eq 13, 3) := by decide +kernel
theorem dX8_reads_60 : decode cX8_reads 60 = .ok (.iload_n 3, 1) := by decide +kernel
theorem dX8_reads_61 : decode cX8_reads 61 = .ok (.aload_n 0, 1) := by decide +kernel
theorem dX8_reads_62 : decode cX8_reads 62 = .ok (.iload_n 2, 1) := by decide +kernel
theorem dX8_reads_63 : decode cX8_reads 63 = .ok (.iconst 4, 1) := by decide +kernel
theorem dX8_reads_64 : decode cX8_reads 64 = .ok (.invokevirtual 102, 3) := by decide +kernel
theorem dX8_reads_67 : decode cX8_reads 67 = .ok (.if_icmp .eq 5, 3) := by decide +kernel
theorem dX8_reads_70 : decode cX8_reads 70 = .ok (.iload_n 2, 1) := by decide +kernel
theorem dX8_reads_71 : decode cX8_reads 71 = .ok (.ireturn, 1) := by decide +kernel
theorem dX8_reads_72 : decode cX8_reads 72 = .ok (.iinc 2 1, 3) := by decide +kernel
theorem dX8_reads_75 : decode cX8_reads 75 = .ok (.goto (-51), 3) := by decide +kernel
theorem dX8_reads_78 : decode cX8_reads 78 = .ok (.ldc 79, 2) := by decide +kernel
theorem dX8_reads_80 : decode cX8_reads 80 = .ok (.ireturn, 1) := by decide +kernel
theorem dX8_copy_0 : decode cX8_copy 0 = .ok (.iload_n 1, 1) := by decide +kernel
theorem dX8_copy_1 : decode cX8_copy 1 = .ok (.invokestatic 182, 3) := by decide +kernel
theorem dX8_copy_4 : decode cX8_copy 4 = .ok (.ifCond .eq 10, 3) := by decide +kernel
theorem dX8_copy_7 : decode cX8_copy 7 = .ok (.iload_n 3, 1) := by decide +kernel
theorem dX8_copy_8 : decode cX8_copy 8 = .ok (.invokestatic 182, 3) := by decide +kernel
theorem dX8_copy_11 : decode cX8_copy 11 = .ok (.ifCond .ne 6, 3) := by decide +kernel
theorem dX8_copy_14 : decode cX8_copy 14 = .ok (.ldc 92, 2) := by decide +kernel
theorem dX8_copy_16 : decode cX8_copy 16 = .ok (.ireturn, 1) := by decide +kernel
theorem dX8_copy_17 : decode cX8_copy 17 = .ok (.aload_n 0, 1) := by decide +kernel
theorem dX8_copy_18 : decode cX8_copy 18 = .ok (.getfield 52, 3) := by decide +kernel
theorem dX8_copy_21 : decode cX8_copy 21 = .ok (.iload_n 1, 1) := by decide +kernel
theorem dX8_copy_22 : decode cX8_copy 22 = .ok (.iaload, 1) := by decide +kernel
theorem dX8_copy_23 : decode cX8_copy 23 = .ok (.ifCond .lt 12, 3) := by decide +kernel
theorem dX8_copy_26 : decode cX8_copy 26 = .ok (.aload_n 0, 1) := by decide +kernel
theorem dX8_copy_27 : decode cX8_copy 27 = .ok (.getfield 52, 3) := by decide +kernel
theorem dX8_copy_30 : decode cX8_copy 30 = .ok (.iload_n 3, 1) := by decide +kernel
theorem dX8_copy_31 : decode cX8_copy 31 = .ok (.iaload, 1) := by decide +kernel
theorem dX8_copy_32 : decode cX8_copy 32 = .ok (.ifCond .ge 6, 3) := by decide +kernel
theorem dX8_copy_35 : decode cX8_copy 35 = .ok (.ldc 185, 2) := by decide +kernel
theorem dX8_copy_37 : decode cX8_copy 37 = .ok (.ireturn, 1) := by decide +kernel
theorem dX8_copy_38 : decode cX8_copy 38 = .ok (.aload_n 0, 1) := by decide +kernel
theorem dX8_copy_39 : decode cX8_copy 39 = .ok (.getfield 52, 3) := by decide +kernel
theorem dX8_copy_42 : decode cX8_copy 42 = .ok (.iload_n 1, 1) := by decide +kernel
theorem dX8_copy_43 : decode cX8_copy 43 = .ok (.iaload, 1) := by decide +kernel
theorem dX8_copy_44 : decode cX8_copy 44 = .ok (.aload_n 0, 1) := by decide +kernel
theorem dX8_copy_45 : decode cX8_copy 45 = .ok (.getfield 52, 3) := by decide +kernel
theorem dX8_copy_48 : decode cX8_copy 48 = .ok (.iload_n 3, 1) := by decide +kernel
theorem dX8_copy_49 : decode cX8_copy 49 = .ok (.iaload, 1) := by decide +kernel
theorem dX8_copy_50 : decode cX8_copy 50 = .ok (.if_icmp .eq 6, 3) := by decide +kernel
theorem dX8_copy_53 : decode cX8_copy 53 = .ok (.ldc 135, 2) := by decide +kernel
theorem dX8_copy_55 : decode cX8_copy 55 = .ok (.ireturn, 1) := by decide +kernel
theorem dX8_copy_56 : decode cX8_copy 56 = .ok (.iload_n 2, 1) := by decide +kernel
theorem dX8_copy_57 : decode cX8_copy 57 = .ok (.ifCond .lt 40, 3) := by decide +kernel
theorem dX8_copy_60 : decode cX8_copy 60 = .ok (.iload 4, 2) := by decide +kernel
theorem dX8_copy_62 : decode cX8_copy 62 = .ok (.ifCond .lt 35, 3) := by decide +kernel
theorem dX8_copy_65 : decode cX8_copy 65 = .ok (.iload 5, 2) := by decide +kernel
theorem dX8_copy_67 : decode cX8_copy 67 = .ok (.ifCond .lt 30, 3) := by decide +kernel
theorem dX8_copy_70 : decode cX8_copy 70 = .ok (.iload_n 2, 1) := by decide +kernel
theorem dX8_copy_71 : decode cX8_copy 71 = .ok (.aload_n 0, 1) := by decide +kernel
theorem dX8_copy_72 : decode cX8_copy 72 = .ok (.getfield 55, 3) := by decide +kernel
theorem dX8_copy_75 : decode cX8_copy 75 = .ok (.iload_n 1, 1) := by decide +kernel
theorem dX8_copy_76 : decode cX8_copy 76 = .ok (.iaload, 1) := by decide +kernel
theorem dX8_copy_77 : decode cX8_copy 77 = .ok (.iload 5, 2) := by decide +kernel
theorem dX8_copy_79 : decode cX8_copy 79 = .ok (.isub, 1) := by decide +kernel
theorem dX8_copy_80 : decode cX8_copy 80 = .ok (.if_icmp .gt 17, 3) := by decide +kernel
theorem dX8_copy_83 : decode cX8_copy 83 = .ok (.iload 4, 2) := by decide +kernel
theorem dX8_copy_85 : decode cX8_copy 85 = .ok (.aload_n 0, 1) := by decide +kernel
theorem dX8_copy_86 : decode cX8_copy 86 = .ok (.getfield 55, 3) := by decide +kernel
theorem dX8_copy_89 : decode cX8_copy 89 = .ok (.iload_n 3, 1) := by decide +kernel
theorem dX8_copy_90 : decode cX8_copy 90 = .ok (.iaload, 1) := by decide +kernel
theorem dX8_copy_91 : decode cX8_copy 91 = .ok (.iload 5, 2) := by decide +kernel
theorem dX8_copy_93 : decode cX8_copy 93 = .ok (.isub, 1) := by decide +kernel
theorem dX8_copy_94 : decode cX8_copy 94 = .ok (.if_icmp .le 7, 3) := by decide +kernel
theorem dX8_copy_97 : decode cX8_copy 97 = .ok (.ldc_w 258, 3) := by decide +kernel
theorem dX8_copy_100 : decode cX8_copy 100 = .ok (.ireturn, 1) := by decide +kernel
theorem dX8_copy_101 : decode cX8_copy 101 = .ok (.iconst 0, 1) := by decide +kernel
theorem dX8_copy_102 : decode cX8_copy 102 = .ok (.istore 6, 2) := by decide +kernel
theorem dX8_copy_104 : decode cX8_copy 104 = .ok (.iload 6, 2) := by decide +kernel
theorem dX8_copy_106 : decode cX8_copy 106 = .ok (.iload 5, 2) := by decide +kernel
theorem dX8_copy_108 : decode cX8_copy 108 = .ok (.if_icmp .ge 30, 3) := by decide +kernel
theorem dX8_copy_111 : decode cX8_copy 111 = .ok (.aload_n 0, 1) := by decide +kernel
theorem dX8_copy_112 : decode cX8_copy 112 = .ok (.getfield 73, 3) := by decide +kernel
theorem dX8_copy_115 : decode cX8_copy 115 = .ok (.iload 6, 2) := by decide +kernel
theorem dX8_copy_117 : decode cX8_copy 117 = .ok (.aload_n 0, 1) := by decide +kernel
theorem dX8_copy_118 : decode cX8_copy 118 = .ok (.getfield 58, 3) := by decide +kernel
theorem dX8_copy_121 : decode cX8_copy 121 = .ok (.bipush 24, 2) := by decide +kernel
theorem dX8_copy_123 : decode cX8_copy 123 = .ok (.iload_n 1, 1) := by decide +kernel
theorem dX8_copy_124 : decode cX8_copy 124 = .ok (.imul, 1) := by decide +kernel
theorem dX8_copy_125 : decode cX8_copy 125 = .ok (.iload_n 2, 1) := by decide +kernel
theorem dX8_copy_126 : decode cX8_copy 126 = .ok (.iadd, 1) := by decide +kernel
theorem dX8_copy_127 : decode cX8_copy 127 = .ok (.iload 6, 2) := by decide +kernel
theorem dX8_copy_129 : decode cX8_copy 129 = .ok (.iadd, 1) := by decide +kernel
theorem dX8_copy_130 : decode cX8_copy 130 = .ok (.iaload, 1) := by decide +kernel
theorem dX8_copy_131 : decode cX8_copy 131 = .ok (.iastore, 1) := by decide +kernel
theorem dX8_copy_132 : decode cX8_copy 132 = .ok (.iinc 6 1, 3) := by decide +kernel
theorem dX8_copy_135 : decode cX8_copy 135 = .ok (.goto (-31), 3) := by decide +kernel
theorem dX8_copy_138 : decode cX8_copy 138 = .ok (.iconst 0, 1) := by decide +kernel
theorem dX8_copy_139 : decode cX8_copy 139 = .ok (.istore 6, 2) := by decide +kernel
theorem dX8_copy_141 : decode cX8_copy 141 = .ok (.iload 6, 2) := by decide +kernel
theorem dX8_copy_143 : decode cX8_copy 143 = .ok (.iload 5, 2) := by decide +kernel
theorem dX8_copy_145 : decode cX8_copy 145 = .ok (.if_icmp .ge 31, 3) := by decide +kernel
theorem dX8_copy_148 : decode cX8_copy 148 = .ok (.aload_n 0, 1) := by decide +kernel
theorem dX8_copy_149 : decode cX8_copy 149 = .ok (.getfield 58, 3) := by decide +kernel
theorem dX8_copy_152 : decode cX8_copy 152 = .ok (.bipush 24, 2) := by decide +kernel
theorem dX8_copy_154 : decode cX8_copy 154 = .ok (.iload_n 3, 1) := by decide +kernel
theorem dX8_copy_155 : decode cX8_copy 155 = .ok (.imul, 1) := by decide +kernel
theorem dX8_copy_156 : decode cX8_copy 156 = .ok (.iload 4, 2) := by decide +kernel
theorem dX8_copy_158 : decode cX8_copy 158 = .ok (.iadd, 1) := by decide +kernel
theorem dX8_copy_159 : decode cX8_copy 159 = .ok (.iload 6, 2) := by decide +kernel
theorem dX8_copy_161 : decode cX8_copy 161 = .ok (.iadd, 1) := by decide +kernel
theorem dX8_copy_162 : decode cX8_copy 162 = .ok (.aload_n 0, 1) := by decide +kernel
theorem dX8_copy_163 : decode cX8_copy 163 = .ok (.getfield 73, 3) := by decide +kernel
theorem dX8_copy_166 : decode cX8_copy 166 = .ok (.iload 6, 2) := by decide +kernel
theorem dX8_copy_168 : decode cX8_copy 168 = .ok (.iaload, 1) := by decide +kernel
theorem dX8_copy_169 : decode cX8_copy 169 = .ok (.iastore, 1) := by decide +kernel
theorem dX8_copy_170 : decode cX8_copy 170 = .ok (.iinc 6 1, 3) := by decide +kernel
theorem dX8_copy_173 : decode cX8_copy 173 = .ok (.goto (-32), 3) := by decide +kernel
theorem dX8_copy_176 : decode cX8_copy 176 = .ok (.iload 5, 2) := by decide +kernel
theorem dX8_copy_178 : decode cX8_copy 178 = .ok (.ireturn, 1) := by decide +kernel
theorem dX8_lay_0 : decode cX8_lay 0 = .ok (.iload_n 1, 1) := by decide +kernel
theorem dX8_lay_1 : decode cX8_lay 1 = .ok (.invokestatic 261, 3) := by decide +kernel
theorem dX8_lay_4 : decode cX8_lay 4 = .ok (.ifCond .eq 37, 3) := by decide +kernel
theorem dX8_lay_7 : decode cX8_lay 7 = .ok (.iload_n 2, 1) := by decide +kernel
theorem dX8_lay_8 : decode cX8_lay 8 = .ok (.iconst 0, 1) := by decide +kernel
theorem dX8_lay_9 : decode cX8_lay 9 = .ok (.iconst 3, 1) := by decide +kernel
theorem dX8_lay_10 : decode cX8_lay 10 = .ok (.invokestatic 80, 3) := by decide +kernel
theorem dX8_lay_13 : decode cX8_lay 13 = .ok (.ifCond .eq 28, 3) := by decide +kernel
theorem dX8_lay_16 : decode cX8_lay 16 = .ok (.iload_n 2, 1) := by decide +kernel
theorem dX8_lay_17 : decode cX8_lay 17 = .ok (.iconst 1, 1) := by decide +kernel
theorem dX8_lay_18 : decode cX8_lay 18 = .ok (.if_icmp .ne 11, 3) := by decide +kernel
theorem dX8_lay_21 : decode cX8_lay 21 = .ok (.aload_n 0, 1) := by decide +kernel
theorem dX8_lay_22 : decode cX8_lay 22 = .ok (.iload_n 3, 1) := by decide +kernel
theorem dX8_lay_23 : decode cX8_lay 23 = .ok (.invokevirtual 116, 3) := by decide +kernel
theorem dX8_lay_26 : decode cX8_lay 26 = .ok (.ifCond .eq 15, 3) := by decide +kernel
theorem dX8_lay_29 : decode cX8_lay 29 = .ok (.iload_n 2, 1) := by decide +kernel
theorem dX8_lay_30 : decode cX8_lay 30 = .ok (.iconst 2, 1) := by decide +kernel
theorem dX8_lay_31 : decode cX8_lay 31 = .ok (.if_icmp .ne 13, 3) := by decide +kernel
theorem dX8_lay_34 : decode cX8_lay 34 = .ok (.iload_n 3, 1) := by decide +kernel
theorem dX8_lay_35 : decode cX8_lay 35 = .ok (.invokestatic 182, 3) := by decide +kernel
theorem dX8_lay_38 : decode cX8_lay 38 = .ok (.ifCond .ne 6, 3) := by decide +kernel
theorem dX8_lay_41 : decode cX8_lay 41 = .ok (.ldc 92, 2) := by decide +kernel
theorem dX8_lay_43 : decode cX8_lay 43 = .ok (.ireturn, 1) := by decide +kernel
theorem dX8_lay_44 : decode cX8_lay 44 = .ok (.iload_n 2, 1) := by decide +kernel
theorem dX8_lay_45 : decode cX8_lay 45 = .ok (.iconst 2, 1) := by decide +kernel
theorem dX8_lay_46 : decode cX8_lay 46 = .ok (.if_icmp .ne 15, 3) := by decide +kernel
theorem dX8_lay_49 : decode cX8_lay 49 = .ok (.aload_n 0, 1) := by decide +kernel
theorem dX8_lay_50 : decode cX8_lay 50 = .ok (.getfield 52, 3) := by decide +kernel
theorem dX8_lay_53 : decode cX8_lay 53 = .ok (.iload_n 3, 1) := by decide +kernel
theorem dX8_lay_54 : decode cX8_lay 54 = .ok (.iaload, 1) := by decide +kernel
theorem dX8_lay_55 : decode cX8_lay 55 = .ok (.ifCond .ge 6, 3) := by decide +kernel
theorem dX8_lay_58 : decode cX8_lay 58 = .ok (.ldc 185, 2) := by decide +kernel
theorem dX8_lay_60 : decode cX8_lay 60 = .ok (.ireturn, 1) := by decide +kernel
theorem dX8_lay_61 : decode cX8_lay 61 = .ok (.aload_n 0, 1) := by decide +kernel
theorem dX8_lay_62 : decode cX8_lay 62 = .ok (.getfield 61, 3) := by decide +kernel
theorem dX8_lay_65 : decode cX8_lay 65 = .ok (.iload_n 1, 1) := by decide +kernel
theorem dX8_lay_66 : decode cX8_lay 66 = .ok (.iaload, 1) := by decide +kernel
theorem dX8_lay_67 : decode cX8_lay 67 = .ok (.istore 4, 2) := by decide +kernel
theorem dX8_lay_69 : decode cX8_lay 69 = .ok (.aload_n 0, 1) := by decide +kernel
theorem dX8_lay_70 : decode cX8_lay 70 = .ok (.getfield 61, 3) := by decide +kernel
theorem dX8_lay_73 : decode cX8_lay 73 = .ok (.iload_n 1, 1) := by decide +kernel
theorem dX8_lay_74 : decode cX8_lay 74 = .ok (.iload_n 2, 1) := by decide +kernel
theorem dX8_lay_75 : decode cX8_lay 75 = .ok (.iastore, 1) := by decide +kernel
theorem dX8_lay_76 : decode cX8_lay 76 = .ok (.aload_n 0, 1) := by decide +kernel
theorem dX8_lay_77 : decode cX8_lay 77 = .ok (.getfield 64, 3) := by decide +kernel
theorem dX8_lay_80 : decode cX8_lay 80 = .ok (.iload_n 1, 1) := by decide +kernel
theorem dX8_lay_81 : decode cX8_lay 81 = .ok (.iload_n 2, 1) := by decide +kernel
theorem dX8_lay_82 : decode cX8_lay 82 = .ok (.iconst 1, 1) := by decide +kernel
theorem dX8_lay_83 : decode cX8_lay 83 = .ok (.if_icmp .ne 12, 3) := by decide +kernel
theorem dX8_lay_86 : decode cX8_lay 86 = .ok (.aload_n 0, 1) := by decide +kernel
theorem dX8_lay_87 : decode cX8_lay 87 = .ok (.iload_n 3, 1) := by decide +kernel
theorem dX8_lay_88 : decode cX8_lay 88 = .ok (.iconst 0, 1) := by decide +kernel
theorem dX8_lay_89 : decode cX8_lay 89 = .ok (.invokevirtual 102, 3) := by decide +kernel
theorem dX8_lay_92 : decode cX8_lay 92 = .ok (.goto 18, 3) := by decide +kernel
theorem dX8_lay_95 : decode cX8_lay 95 = .ok (.iload_n 2, 1) := by decide +kernel
theorem dX8_lay_96 : decode cX8_lay 96 = .ok (.iconst 2, 1) := by decide +kernel
theorem dX8_lay_97 : decode cX8_lay 97 = .ok (.if_icmp .ne 12, 3) := by decide +kernel
theorem dX8_lay_100 : decode cX8_lay 100 = .ok (.aload_n 0, 1) := by decide +kernel
theorem dX8_lay_101 : decode cX8_lay 101 = .ok (.getfield 55, 3) := by decide +kernel
theorem dX8_lay_104 : decode cX8_lay 104 = .ok (.iload_n 3, 1) := by decide +kernel
theorem dX8_lay_105 : decode cX8_lay 105 = .ok (.iaload, 1) := by decide +kernel
theorem dX8_lay_106 : decode cX8_lay 106 = .ok (.goto 4, 3) := by decide +kernel
theorem dX8_lay_109 : decode cX8_lay 109 = .ok (.iload_n 3, 1) := by decide +kernel
theorem dX8_lay_110 : decode cX8_lay 110 = .ok (.iastore, 1) := by decide +kernel
theorem dX8_lay_111 : decode cX8_lay 111 = .ok (.aload_n 0, 1) := by decide +kernel
theorem dX8_lay_112 : decode cX8_lay 112 = .ok (.getfield 67, 3) := by decide +kernel
theorem dX8_lay_115 : decode cX8_lay 115 = .ok (.iload_n 1, 1) := by decide +kernel
theorem dX8_lay_116 : decode cX8_lay 116 = .ok (.iload_n 2, 1) := by decide +kernel
theorem dX8_lay_117 : decode cX8_lay 117 = .ok (.iconst 1, 1) := by decide +kernel
theorem dX8_lay_118 : decode cX8_lay 118 = .ok (.if_icmp .ne 11, 3) := by decide +kernel
theorem dX8_lay_121 : decode cX8_lay 121 = .ok (.aload_n 0, 1) := by decide +kernel
theorem dX8_lay_122 : decode cX8_lay 122 = .ok (.iload_n 3, 1) := by decide +kernel
theorem dX8_lay_123 : decode cX8_lay 123 = .ok (.invokevirtual 126, 3) := by decide +kernel
theorem dX8_lay_126 : decode cX8_lay 126 = .ok (.goto 4, 3) := by decide +kernel
theorem dX8_lay_129 : decode cX8_lay 129 = .ok (.iconst 0, 1) := by decide +kernel
theorem dX8_lay_130 : decode cX8_lay 130 = .ok (.iastore, 1) := by decide +kernel
theorem dX8_lay_131 : decode cX8_lay 131 = .ok (.iconst 0, 1) := by decide +kernel
theorem dX8_lay_132 : decode cX8_lay 132 = .ok (.istore 5, 2) := by decide +kernel
theorem dX8_lay_134 : decode cX8_lay 134 = .ok (.iload 5, 2) := by decide +kernel
theorem dX8_lay_136 : decode cX8_lay 136 = .ok (.bipush 24, 2) := by decide +kernel
theorem dX8_lay_138 : decode cX8_lay 138 = .ok (.if_icmp .ge 38, 3) := by decide +kernel
theorem dX8_lay_141 : decode cX8_lay 141 = .ok (.iload_n 2, 1) := by decide +kernel
theorem dX8_lay_142 : decode cX8_lay 142 = .ok (.iconst 2, 1) := by decide +kernel
theorem dX8_lay_143 : decode cX8_lay 143 = .ok (.if_icmp .ne 33, 3) := by decide +kernel
theorem dX8_lay_146 : decode cX8_lay 146 = .ok (.aload_n 0, 1) := by decide +kernel
theorem dX8_lay_147 : decode cX8_lay 147 = .ok (.getfield 70, 3) := by decide +kernel
theorem dX8_lay_150 : decode cX8_lay 150 = .ok (.bipush 24, 2) := by decide +kernel
theorem dX8_lay_152 : decode cX8_lay 152 = .ok (.iload_n 1, 1) := by decide +kernel
theorem dX8_lay_153 : decode cX8_lay 153 = .ok (.imul, 1) := by decide +kernel
theorem dX8_lay_154 : decode cX8_lay 154 = .ok (.iload 5, 2) := by decide +kernel
theorem dX8_lay_156 : decode cX8_lay 156 = .ok (.iadd, 1) := by decide +kernel
theorem dX8_lay_157 : decode cX8_lay 157 = .ok (.aload_n 0, 1) := by decide +kernel
theorem dX8_lay_158 : decode cX8_lay 158 = .ok (.getfield 58, 3) := by decide +kernel
theorem dX8_lay_161 : decode cX8_lay 161 = .ok (.bipush 24, 2) := by decide +kernel
theorem dX8_lay_163 : decode cX8_lay 163 = .ok (.iload_n 3, 1) := by decide +kernel
theorem dX8_lay_164 : decode cX8_lay 164 = .ok (.imul, 1) := by decide +kernel
theorem dX8_lay_165 : decode cX8_lay 165 = .ok (.iload 5, 2) := by decide +kernel
theorem dX8_lay_167 : decode cX8_lay 167 = .ok (.iadd, 1) := by decide +kernel
theorem dX8_lay_168 : decode cX8_lay 168 = .ok (.iaload, 1) := by decide +kernel
theorem dX8_lay_169 : decode cX8_lay 169 = .ok (.iastore, 1) := by decide +kernel
theorem dX8_lay_170 : decode cX8_lay 170 = .ok (.iinc 5 1, 3) := by decide +kernel
theorem dX8_lay_173 : decode cX8_lay 173 = .ok (.goto (-39), 3) := by decide +kernel
theorem dX8_lay_176 : decode cX8_lay 176 = .ok (.iload 4, 2) := by decide +kernel
theorem dX8_lay_178 : decode cX8_lay 178 = .ok (.ireturn, 1) := by decide +kernel
theorem dX8_ask_0 : decode cX8_ask 0 = .ok (.iload_n 1, 1) := by decide +kernel
theorem dX8_ask_1 : decode cX8_ask 1 = .ok (.invokestatic 261, 3) := by decide +kernel
theorem dX8_ask_4 : decode cX8_ask 4 = .ok (.ifCond .eq 12, 3) := by decide +kernel
theorem dX8_ask_7 : decode cX8_ask 7 = .ok (.iload_n 2, 1) := by decide +kernel
theorem dX8_ask_8 : decode cX8_ask 8 = .ok (.iconst 0, 1) := by decide +kernel
theorem dX8_ask_9 : decode cX8_ask 9 = .ok (.iconst 5, 1) := by decide +kernel
theorem dX8_ask_10 : decode cX8_ask 10 = .ok (.invokestatic 80, 3) := by decide +kernel
theorem dX8_ask_13 : decode cX8_ask 13 = .ok (.ifCond .ne 6, 3) := by decide +kernel
theorem dX8_ask_16 : decode cX8_ask 16 = .ok (.ldc 92, 2) := by decide +kernel
theorem dX8_ask_18 : decode cX8_ask 18 = .ok (.ireturn, 1) := by decide +kernel
theorem dX8_ask_19 : decode cX8_ask 19 = .ok (.aload_n 0, 1) := by decide +kernel
theorem dX8_ask_20 : decode cX8_ask 20 = .ok (.getfield 61, 3) := by decide +kernel
theorem dX8_ask_23 : decode cX8_ask 23 = .ok (.iload_n 1, 1) := by decide +kernel
theorem dX8_ask_24 : decode cX8_ask 24 = .ok (.iaload, 1) := by decide +kernel
theorem dX8_ask_25 : decode cX8_ask 25 = .ok (.ifCond .ne 6, 3) := by decide +kernel
theorem dX8_ask_28 : decode cX8_ask 28 = .ok (.ldc 185, 2) := by decide +kernel
theorem dX8_ask_30 : decode cX8_ask 30 = .ok (.ireturn, 1) := by decide +kernel
theorem dX8_ask_31 : decode cX8_ask 31 = .ok (.aload_n 0, 1) := by decide +kernel
theorem dX8_ask_32 : decode cX8_ask 32 = .ok (.getfield 61, 3) := by decide +kernel
theorem dX8_ask_35 : decode cX8_ask 35 = .ok (.iload_n 1, 1) := by decide +kernel
theorem dX8_ask_36 : decode cX8_ask 36 = .ok (.iaload, 1) := by decide +kernel
theorem dX8_ask_37 : decode cX8_ask 37 = .ok (.iconst 1, 1) := by decide +kernel
theorem dX8_ask_38 : decode cX8_ask 38 = .ok (.if_icmp .ne 25, 3) := by decide +kernel
theorem dX8_ask_41 : decode cX8_ask 41 = .ok (.aload_n 0, 1) := by decide +kernel
theorem dX8_ask_42 : decode cX8_ask 42 = .ok (.getfield 64, 3) := by decide +kernel
theorem dX8_ask_45 : decode cX8_ask 45 = .ok (.iload_n 1, 1) := by decide +kernel
theorem dX8_ask_46 : decode cX8_ask 46 = .ok (.iaload, 1) := by decide +kernel
theorem dX8_ask_47 : decode cX8_ask 47 = .ok (.iload_n 2, 1) := by decide +kernel
theorem dX8_ask_48 : decode cX8_ask 48 = .ok (.invokestatic 132, 3) := by decide +kernel
theorem dX8_ask_51 : decode cX8_ask 51 = .ok (.ifCond .eq 12, 3) := by decide +kernel
theorem dX8_ask_54 : decode cX8_ask 54 = .ok (.aload_n 0, 1) := by decide +kernel
theorem dX8_ask_55 : decode cX8_ask 55 = .ok (.getfield 67, 3) := by decide +kernel
theorem dX8_ask_58 : decode cX8_ask 58 = .ok (.iload_n 1, 1) := by decide +kernel
theorem dX8_ask_59 : decode cX8_ask 59 = .ok (.iaload, 1) := by decide +kernel
theorem dX8_ask_60 : decode cX8_ask 60 = .ok (.goto 5, 3) := by decide +kernel
theorem dX8_ask_63 : decode cX8_ask 63 = .ok (.ldc 135, 2) := by decide +kernel
theorem dX8_ask_65 : decode cX8_ask 65 = .ok (.ireturn, 1) := by decide +kernel
theorem dX8_item_0 : decode cX8_item 0 = .ok (.iload_n 1, 1) := by decide +kernel
theorem dX8_item_1 : decode cX8_item 1 = .ok (.invokestatic 261, 3) := by decide +kernel
theorem dX8_item_4 : decode cX8_item 4 = .ok (.ifCond .ne 6, 3) := by decide +kernel
theorem dX8_item_7 : decode cX8_item 7 = .ok (.ldc 92, 2) := by decide +kernel
theorem dX8_item_9 : decode cX8_item 9 = .ok (.ireturn, 1) := by decide +kernel
theorem dX8_item_10 : decode cX8_item 10 = .ok (.aload_n 0, 1) := by decide +kernel
theorem dX8_item_11 : decode cX8_item 11 = .ok (.getfield 61, 3) := by decide +kernel
theorem dX8_item_14 : decode cX8_item 14 = .ok (.iload_n 1, 1) := by decide +kernel
theorem dX8_item_15 : decode cX8_item 15 = .ok (.iaload, 1) := by decide +kernel
theorem dX8_item_16 : decode cX8_item 16 = .ok (.ifCond .ne 6, 3) := by decide +kernel
theorem dX8_item_19 : decode cX8_item 19 = .ok (.ldc 185, 2) := by decide +kernel
theorem dX8_item_21 : decode cX8_item 21 = .ok (.ireturn, 1) := by decide +kernel
theorem dX8_item_22 : decode cX8_item 22 = .ok (.aload_n 0, 1) := by decide +kernel
theorem dX8_item_23 : decode cX8_item 23 = .ok (.getfield 61, 3) := by decide +kernel
theorem dX8_item_26 : decode cX8_item 26 = .ok (.iload_n 1, 1) := by decide +kernel
theorem dX8_item_27 : decode cX8_item 27 = .ok (.iaload, 1) := by decide +kernel
theorem dX8_item_28 : decode cX8_item 28 = .ok (.iconst 2, 1) := by decide +kernel
theorem dX8_item_29 : decode cX8_item 29 = .ok (.if_icmp .eq 6, 3) := by decide +kernel
theorem dX8_item_32 : decode cX8_item 32 = .ok (.ldc 135, 2) := by decide +kernel
theorem dX8_item_34 : decode cX8_item 34 = .ok (.ireturn, 1) := by decide +kernel
theorem dX8_item_35 : decode cX8_item 35 = .ok (.iload_n 2, 1) := by decide +kernel
theorem dX8_item_36 : decode cX8_item 36 = .ok (.iconst 0, 1) := by decide +kernel
theorem dX8_item_37 : decode cX8_item 37 = .ok (.aload_n 0, 1) := by decide +kernel
theorem dX8_item_38 : decode cX8_item 38 = .ok (.getfield 64, 3) := by decide +kernel
theorem dX8_item_41 : decode cX8_item 41 = .ok (.iload_n 1, 1) := by decide +kernel
theorem dX8_item_42 : decode cX8_item 42 = .ok (.iaload, 1) := by decide +kernel
theorem dX8_item_43 : decode cX8_item 43 = .ok (.iconst 1, 1) := by decide +kernel
theorem dX8_item_44 : decode cX8_item 44 = .ok (.isub, 1) := by decide +kernel
theorem dX8_item_45 : decode cX8_item 45 = .ok (.invokestatic 80, 3) := by decide +kernel
theorem dX8_item_48 : decode cX8_item 48 = .ok (.ifCond .ne 7, 3) := by decide +kernel
theorem dX8_item_51 : decode cX8_item 51 = .ok (.ldc_w 258, 3) := by decide +kernel
theorem dX8_item_54 : decode cX8_item 54 = .ok (.ireturn, 1) := by decide +kernel
theorem dX8_item_55 : decode cX8_item 55 = .ok (.aload_n 0, 1) := by decide +kernel
theorem dX8_item_56 : decode cX8_item 56 = .ok (.getfield 70, 3) := by decide +kernel
theorem dX8_item_59 : decode cX8_item 59 = .ok (.bipush 24, 2) := by decide +kernel
theorem dX8_item_61 : decode cX8_item 61 = .ok (.iload_n 1, 1) := by decide +kernel
theorem dX8_item_62 : decode cX8_item 62 = .ok (.imul, 1) := by decide +kernel
theorem dX8_item_63 : decode cX8_item 63 = .ok (.iload_n 2, 1) := by decide +kernel
theorem dX8_item_64 : decode cX8_item 64 = .ok (.iadd, 1) := by decide +kernel
theorem dX8_item_65 : decode cX8_item 65 = .ok (.iaload, 1) := by decide +kernel
theorem dX8_item_66 : decode cX8_item 66 = .ok (.istore_n 3, 1) := by decide +kernel
theorem dX8_item_67 : decode cX8_item 67 = .ok (.iload_n 3, 1) := by decide +kernel
theorem dX8_item_68 : decode cX8_item 68 = .ok (.ldc 79, 2) := by decide +kernel
theorem dX8_item_70 : decode cX8_item 70 = .ok (.if_icmp .ne 8, 3) := by decide +kernel
theorem dX8_item_73 : decode cX8_item 73 = .ok (.ldc 135, 2) := by decide +kernel
theorem dX8_item_75 : decode cX8_item 75 = .ok (.goto 4, 3) := by decide +kernel
theorem dX8_item_78 : decode cX8_item 78 = .ok (.iload_n 3, 1) := by decide +kernel
theorem dX8_item_79 : decode cX8_item 79 = .ok (.ireturn, 1) := by decide +kernel
theorem dX8_rest_0 : decode cX8_rest 0 = .ok (.iload_n 1, 1) := by decide +kernel
theorem dX8_rest_1 : decode cX8_rest 1 = .ok (.invokestatic 261, 3) := by decide +kernel
theorem dX8_rest_4 : decode cX8_rest 4 = .ok (.ifCond .ne 6, 3) := by decide +kernel
theorem dX8_rest_7 : decode cX8_rest 7 = .ok (.ldc 92, 2) := by decide +kernel
theorem dX8_rest_9 : decode cX8_rest 9 = .ok (.ireturn, 1) := by decide +kernel
theorem dX8_rest_10 : decode cX8_rest 10 = .ok (.aload_n 0, 1) := by decide +kernel
theorem dX8_rest_11 : decode cX8_rest 11 = .ok (.getfield 61, 3) := by decide +kernel
theorem dX8_rest_14 : decode cX8_rest 14 = .ok (.iload_n 1, 1) := by decide +kernel
theorem dX8_rest_15 : decode cX8_rest 15 = .ok (.iaload, 1) := by decide +kernel
theorem dX8_rest_16 : decode cX8_rest 16 = .ok (.ifCond .ne 6, 3) := by decide +kernel
theorem dX8_rest_19 : decode cX8_rest 19 = .ok (.ldc 185, 2) := by decide +kernel
theorem dX8_rest_21 : decode cX8_rest 21 = .ok (.ireturn, 1) := by decide +kernel
theorem dX8_rest_22 : decode cX8_rest 22 = .ok (.aload_n 0, 1) := by decide +kernel
theorem dX8_rest_23 : decode cX8_rest 23 = .ok (.getfield 61, 3) := by decide +kernel
theorem dX8_rest_26 : decode cX8_rest 26 = .ok (.iload_n 1, 1) := by decide +kernel
theorem dX8_rest_27 : decode cX8_rest 27 = .ok (.iaload, 1) := by decide +kernel
theorem dX8_rest_28 : decode cX8_rest 28 = .ok (.iconst 3, 1) := by decide +kernel
theorem dX8_rest_29 : decode cX8_rest 29 = .ok (.if_icmp .eq 6, 3) := by decide +kernel
theorem dX8_rest_32 : decode cX8_rest 32 = .ok (.ldc 135, 2) := by decide +kernel
theorem dX8_rest_34 : decode cX8_rest 34 = .ok (.ireturn, 1) := by decide +kernel
theorem dX8_rest_35 : decode cX8_rest 35 = .ok (.iload_n 2, 1) := by decide +kernel
theorem dX8_rest_36 : decode cX8_rest 36 = .ok (.ifCond .ne 9, 3) := by decide +kernel
theorem dX8_rest_39 : decode cX8_rest 39 = .ok (.ldc_w 264, 3) := by decide +kernel
theorem dX8_rest_42 : decode cX8_rest 42 = .ok (.goto 20, 3) := by decide +kernel
theorem dX8_rest_45 : decode cX8_rest 45 = .ok (.iload_n 2, 1) := by decide +kernel
theorem dX8_rest_46 : decode cX8_rest 46 = .ok (.iconst (-1), 1) := by decide +kernel
theorem dX8_rest_47 : decode cX8_rest 47 = .ok (.if_icmp .ne 7, 3) := by decide +kernel
theorem dX8_rest_50 : decode cX8_rest 50 = .ok (.iconst 0, 1) := by decide +kernel
theorem dX8_rest_51 : decode cX8_rest 51 = .ok (.goto 11, 3) := by decide +kernel
theorem dX8_rest_54 : decode cX8_rest 54 = .ok (.aload_n 0, 1) := by decide +kernel
theorem dX8_rest_55 : decode cX8_rest 55 = .ok (.getfield 64, 3) := by decide +kernel
theorem dX8_rest_58 : decode cX8_rest 58 = .ok (.iload_n 1, 1) := by decide +kernel
theorem dX8_rest_59 : decode cX8_rest 59 = .ok (.iaload, 1) := by decide +kernel
theorem dX8_rest_60 : decode cX8_rest 60 = .ok (.iload_n 2, 1) := by decide +kernel
theorem dX8_rest_61 : decode cX8_rest 61 = .ok (.irem, 1) := by decide +kernel
theorem dX8_rest_62 : decode cX8_rest 62 = .ok (.ireturn, 1) := by decide +kernel
theorem dX8_tell_0 : decode cX8_tell 0 = .ok (.aload_n 0, 1) := by decide +kernel
theorem dX8_tell_1 : decode cX8_tell 1 = .ok (.getfield 265, 3) := by decide +kernel
theorem dX8_tell_4 : decode cX8_tell 4 = .ok (.bipush 60, 2) := by decide +kernel
theorem dX8_tell_6 : decode cX8_tell 6 = .ok (.if_icmp .ne 6, 3) := by decide +kernel
theorem dX8_tell_9 : decode cX8_tell 9 = .ok (.ldc 93, 2) := by decide +kernel
theorem dX8_tell_11 : decode cX8_tell 11 = .ok (.ireturn, 1) := by decide +kernel
theorem dX8_tell_12 : decode cX8_tell 12 = .ok (.aload_n 0, 1) := by decide +kernel
theorem dX8_tell_13 : decode cX8_tell 13 = .ok (.getfield 76, 3) := by decide +kernel
theorem dX8_tell_16 : decode cX8_tell 16 = .ok (.aload_n 0, 1) := by decide +kernel
theorem dX8_tell_17 : decode cX8_tell 17 = .ok (.getfield 265, 3) := by decide +kernel
theorem dX8_tell_20 : decode cX8_tell 20 = .ok (.iload_n 1, 1) := by decide +kernel
theorem dX8_tell_21 : decode cX8_tell 21 = .ok (.iastore, 1) := by decide +kernel
theorem dX8_tell_22 : decode cX8_tell 22 = .ok (.aload_n 0, 1) := by decide +kernel
theorem dX8_tell_23 : decode cX8_tell 23 = .ok (.dup, 1) := by decide +kernel
theorem dX8_tell_24 : decode cX8_tell 24 = .ok (.getfield 265, 3) := by decide +kernel
theorem dX8_tell_27 : decode cX8_tell 27 = .ok (.iconst 1, 1) := by decide +kernel
theorem dX8_tell_28 : decode cX8_tell 28 = .ok (.iadd, 1) := by decide +kernel
theorem dX8_tell_29 : decode cX8_tell 29 = .ok (.putfield 265, 3) := by decide +kernel
theorem dX8_tell_32 : decode cX8_tell 32 = .ok (.aload_n 0, 1) := by decide +kernel
theorem dX8_tell_33 : decode cX8_tell 33 = .ok (.getfield 265, 3) := by decide +kernel
theorem dX8_tell_36 : decode cX8_tell 36 = .ok (.ireturn, 1) := by decide +kernel
theorem dX8_check_0 : decode cX8_check 0 = .ok (.aload_n 0, 1) := by decide +kernel
theorem dX8_check_1 : decode cX8_check 1 = .ok (.getfield 265, 3) := by decide +kernel
theorem dX8_check_4 : decode cX8_check 4 = .ok (.istore_n 2, 1) := by decide +kernel
theorem dX8_check_5 : decode cX8_check 5 = .ok (.aload_n 0, 1) := by decide +kernel
theorem dX8_check_6 : decode cX8_check 6 = .ok (.iconst 0, 1) := by decide +kernel
theorem dX8_check_7 : decode cX8_check 7 = .ok (.putfield 265, 3) := by decide +kernel
theorem dX8_check_10 : decode cX8_check 10 = .ok (.iload_n 1, 1) := by decide +kernel
theorem dX8_check_11 : decode cX8_check 11 = .ok (.iconst 1, 1) := by decide +kernel
theorem dX8_check_12 : decode cX8_check 12 = .ok (.bipush 30, 2) := by decide +kernel
theorem dX8_check_14 : decode cX8_check 14 = .ok (.invokestatic 80, 3) := by decide +kernel
theorem dX8_check_17 : decode cX8_check 17 = .ok (.ifCond .ne 6, 3) := by decide +kernel
theorem dX8_check_20 : decode cX8_check 20 = .ok (.ldc 92, 2) := by decide +kernel
theorem dX8_check_22 : decode cX8_check 22 = .ok (.ireturn, 1) := by decide +kernel
theorem dX8_check_23 : decode cX8_check 23 = .ok (.aload_n 0, 1) := by decide +kernel
theorem dX8_check_24 : decode cX8_check 24 = .ok (.getfield 268, 3) := by decide +kernel
theorem dX8_check_27 : decode cX8_check 27 = .ok (.ifCond .ne 7, 3) := by decide +kernel
theorem dX8_check_30 : decode cX8_check 30 = .ok (.ldc_w 264, 3) := by decide +kernel
theorem dX8_check_33 : decode cX8_check 33 = .ok (.ireturn, 1) := by decide +kernel
theorem dX8_check_34 : decode cX8_check 34 = .ok (.aload_n 0, 1) := by decide +kernel
theorem dX8_check_35 : decode cX8_check 35 = .ok (.getfield 9, 3) := by decide +kernel
theorem dX8_check_38 : decode cX8_check 38 = .ok (.aload_n 0, 1) := by decide +kernel
theorem dX8_check_39 : decode cX8_check 39 = .ok (.getfield 16, 3) := by decide +kernel
theorem dX8_check_42 : decode cX8_check 42 = .ok (.invokestatic 272, 3) := by decide +kernel
theorem dX8_check_45 : decode cX8_check 45 = .ok (.aload_n 0, 1) := by decide +kernel
theorem dX8_check_46 : decode cX8_check 46 = .ok (.getfield 13, 3) := by decide +kernel
theorem dX8_check_49 : decode cX8_check 49 = .ok (.aload_n 0, 1) := by decide +kernel
theorem dX8_check_50 : decode cX8_check 50 = .ok (.getfield 9, 3) := by decide +kernel
theorem dX8_check_53 : decode cX8_check 53 = .ok (.invokestatic 272, 3) := by decide +kernel
theorem dX8_check_56 : decode cX8_check 56 = .ok (.iconst 2, 1) := by decide +kernel
theorem dX8_check_57 : decode cX8_check 57 = .ok (.sipush 9999, 3) := by decide +kernel
theorem dX8_check_60 : decode cX8_check 60 = .ok (.aload_n 0, 1) := by decide +kernel
theorem dX8_check_61 : decode cX8_check 61 = .ok (.getfield 9, 3) := by decide +kernel
theorem dX8_check_64 : decode cX8_check 64 = .ok (.iconst 2, 1) := by decide +kernel
theorem dX8_check_65 : decode cX8_check 65 = .ok (.iaload, 1) := by decide +kernel
theorem dX8_check_66 : decode cX8_check 66 = .ok (.isub, 1) := by decide +kernel
theorem dX8_check_67 : decode cX8_check 67 = .ok (.iconst 0, 1) := by decide +kernel
theorem dX8_check_68 : decode cX8_check 68 = .ok (.iload_n 1, 1) := by decide +kernel
theorem dX8_check_69 : decode cX8_check 69 = .ok (.invokestatic 109, 3) := by decide +kernel
theorem dX8_check_72 : decode cX8_check 72 = .ok (.imul, 1) := by decide +kernel
theorem dX8_check_73 : decode cX8_check 73 = .ok (.istore_n 3, 1) := by decide +kernel
theorem dX8_check_74 : decode cX8_check 74 = .ok (.iconst 0, 1) := by decide +kernel
theorem dX8_check_75 : decode cX8_check 75 = .ok (.istore 4, 2) := by decide +kernel
theorem dX8_check_77 : decode cX8_check 77 = .ok (.iconst 0, 1) := by decide +kernel
theorem dX8_check_78 : decode cX8_check 78 = .ok (.istore 5, 2) := by decide +kernel
theorem dX8_check_80 : decode cX8_check 80 = .ok (.iconst 2, 1) := by decide +kernel
theorem dX8_check_81 : decode cX8_check 81 = .ok (.iload 5, 2) := by decide +kernel
theorem dX8_check_83 : decode cX8_check 83 = .ok (.imul, 1) := by decide +kernel
theorem dX8_check_84 : decode cX8_check 84 = .ok (.iload_n 3, 1) := by decide +kernel
theorem dX8_check_85 : decode cX8_check 85 = .ok (.if_icmp .ge 97, 3) := by decide +kernel
theorem dX8_check_88 : decode cX8_check 88 = .ok (.iload 4, 2) := by decide +kernel
theorem dX8_check_90 : decode cX8_check 90 = .ok (.iconst 2, 1) := by decide +kernel
theorem dX8_check_91 : decode cX8_check 91 = .ok (.iload 5, 2) := by decide +kernel
theorem dX8_check_93 : decode cX8_check 93 = .ok (.imul, 1) := by decide +kernel
theorem dX8_check_94 : decode cX8_check 94 = .ok (.if_icmp .ne 88, 3) := by decide +kernel
theorem dX8_check_97 : decode cX8_check 97 = .ok (.aload_n 0, 1) := by decide +kernel
theorem dX8_check_98 : decode cX8_check 98 = .ok (.invokevirtual 157, 3) := by decide +kernel
theorem dX8_check_101 : decode cX8_check 101 = .ok (.iload 4, 2) := by decide +kernel
theorem dX8_check_103 : decode cX8_check 103 = .ok (.iload 4, 2) := by decide +kernel
theorem dX8_check_105 : decode cX8_check 105 = .ok (.iload_n 2, 1) := by decide +kernel
theorem dX8_check_106 : decode cX8_check 106 = .ok (.if_icmp .ge 22, 3) := by decide +kernel
theorem dX8_check_109 : decode cX8_check 109 = .ok (.aload_n 0, 1) := by decide +kernel
theorem dX8_check_110 : decode cX8_check 110 = .ok (.getfield 76, 3) := by decide +kernel
theorem dX8_check_113 : decode cX8_check 113 = .ok (.iload 4, 2) := by decide +kernel
theorem dX8_check_115 : decode cX8_check 115 = .ok (.iaload, 1) := by decide +kernel
theorem dX8_check_116 : decode cX8_check 116 = .ok (.aload_n 0, 1) := by decide +kernel
theorem dX8_check_117 : decode cX8_check 117 = .ok (.iconst 4, 1) := by decide +kernel
theorem dX8_check_118 : decode cX8_check 118 = .ok (.invokevirtual 160, 3) := by decide +kernel
theorem dX8_check_121 : decode cX8_check 121 = .ok (.if_icmp .ne 7, 3) := by decide +kernel
theorem dX8_check_124 : decode cX8_check 124 = .ok (.iconst 1, 1) := by decide +kernel
theorem dX8_check_125 : decode cX8_check 125 = .ok (.goto 4, 3) := by decide +kernel
theorem dX8_check_128 : decode cX8_check 128 = .ok (.iconst 0, 1) := by decide +kernel
theorem dX8_check_129 : decode cX8_check 129 = .ok (.iadd, 1) := by decide +kernel
theorem dX8_check_130 : decode cX8_check 130 = .ok (.istore 4, 2) := by decide +kernel
theorem dX8_check_132 : decode cX8_check 132 = .ok (.iload 4, 2) := by decide +kernel
theorem dX8_check_134 : decode cX8_check 134 = .ok (.iload 4, 2) := by decide +kernel
theorem dX8_check_136 : decode cX8_check 136 = .ok (.iconst 2, 1) := by decide +kernel
theorem dX8_check_137 : decode cX8_check 137 = .ok (.iload 5, 2) := by decide +kernel
theorem dX8_check_139 : decode cX8_check 139 = .ok (.imul, 1) := by decide +kernel
theorem dX8_check_140 : decode cX8_check 140 = .ok (.iconst 1, 1) := by decide +kernel
theorem dX8_check_141 : decode cX8_check 141 = .ok (.iadd, 1) := by decide +kernel
theorem dX8_check_142 : decode cX8_check 142 = .ok (.if_icmp .ne 30, 3) := by decide +kernel
theorem dX8_check_145 : decode cX8_check 145 = .ok (.iload 4, 2) := by decide +kernel
theorem dX8_check_147 : decode cX8_check 147 = .ok (.iload_n 2, 1) := by decide +kernel
theorem dX8_check_148 : decode cX8_check 148 = .ok (.if_icmp .ge 24, 3) := by decide +kernel
theorem dX8_check_151 : decode cX8_check 151 = .ok (.aload_n 0, 1) := by decide +kernel
theorem dX8_check_152 : decode cX8_check 152 = .ok (.getfield 76, 3) := by decide +kernel
theorem dX8_check_155 : decode cX8_check 155 = .ok (.iload 4, 2) := by decide +kernel
theorem dX8_check_157 : decode cX8_check 157 = .ok (.iaload, 1) := by decide +kernel
theorem dX8_check_158 : decode cX8_check 158 = .ok (.aload_n 0, 1) := by decide +kernel
theorem dX8_check_159 : decode cX8_check 159 = .ok (.getfield 9, 3) := by decide +kernel
theorem dX8_check_162 : decode cX8_check 162 = .ok (.bipush 7, 2) := by decide +kernel
theorem dX8_check_164 : decode cX8_check 164 = .ok (.iaload, 1) := by decide +kernel
theorem dX8_check_165 : decode cX8_check 165 = .ok (.if_icmp .ne 7, 3) := by decide +kernel
theorem dX8_check_168 : decode cX8_check 168 = .ok (.iconst 1, 1) := by decide +kernel
theorem dX8_check_169 : decode cX8_check 169 = .ok (.goto 4, 3) := by decide +kernel
theorem dX8_check_172 : decode cX8_check 172 = .ok (.iconst 0, 1) := by decide +kernel
theorem dX8_check_173 : decode cX8_check 173 = .ok (.iadd, 1) := by decide +kernel
theorem dX8_check_174 : decode cX8_check 174 = .ok (.istore 4, 2) := by decide +kernel
theorem dX8_check_176 : decode cX8_check 176 = .ok (.iinc 5 1, 3) := by decide +kernel
theorem dX8_check_179 : decode cX8_check 179 = .ok (.goto (-99), 3) := by decide +kernel
theorem dX8_check_182 : decode cX8_check 182 = .ok (.aload_n 0, 1) := by decide +kernel
theorem dX8_check_183 : decode cX8_check 183 = .ok (.getfield 16, 3) := by decide +kernel
theorem dX8_check_186 : decode cX8_check 186 = .ok (.aload_n 0, 1) := by decide +kernel
theorem dX8_check_187 : decode cX8_check 187 = .ok (.getfield 9, 3) := by decide +kernel
theorem dX8_check_190 : decode cX8_check 190 = .ok (.invokestatic 272, 3) := by decide +kernel
theorem dX8_check_193 : decode cX8_check 193 = .ok (.iload 4, 2) := by decide +kernel
theorem dX8_check_195 : decode cX8_check 195 = .ok (.iload_n 2, 1) := by decide +kernel
theorem dX8_check_196 : decode cX8_check 196 = .ok (.if_icmp .ne 13, 3) := by decide +kernel
theorem dX8_check_199 : decode cX8_check 199 = .ok (.iload 4, 2) := by decide +kernel
theorem dX8_check_201 : decode cX8_check 201 = .ok (.iload_n 3, 1) := by decide +kernel
theorem dX8_check_202 : decode cX8_check 202 = .ok (.if_icmp .ne 7, 3) := by decide +kernel
theorem dX8_check_205 : decode cX8_check 205 = .ok (.iconst 0, 1) := by decide +kernel
theorem dX8_check_206 : decode cX8_check 206 = .ok (.goto 7, 3) := by decide +kernel
theorem dX8_check_209 : decode cX8_check 209 = .ok (.iconst 1, 1) := by decide +kernel
theorem dX8_check_210 : decode cX8_check 210 = .ok (.iload 4, 2) := by decide +kernel
theorem dX8_check_212 : decode cX8_check 212 = .ok (.iadd, 1) := by decide +kernel
theorem dX8_check_213 : decode cX8_check 213 = .ok (.ireturn, 1) := by decide +kernel
theorem dX8_keep_0 : decode cX8_keep 0 = .ok (.aload_n 0, 1) := by decide +kernel
theorem dX8_keep_1 : decode cX8_keep 1 = .ok (.getfield 9, 3) := by decide +kernel
theorem dX8_keep_4 : decode cX8_keep 4 = .ok (.aload_n 0, 1) := by decide +kernel
theorem dX8_keep_5 : decode cX8_keep 5 = .ok (.getfield 13, 3) := by decide +kernel
theorem dX8_keep_8 : decode cX8_keep 8 = .ok (.invokestatic 272, 3) := by decide +kernel
theorem dX8_keep_11 : decode cX8_keep 11 = .ok (.aload_n 0, 1) := by decide +kernel
theorem dX8_keep_12 : decode cX8_keep 12 = .ok (.iconst 1, 1) := by decide +kernel
theorem dX8_keep_13 : decode cX8_keep 13 = .ok (.putfield 268, 3) := by decide +kernel
theorem dX8_keep_16 : decode cX8_keep 16 = .ok (.aload_n 0, 1) := by decide +kernel
theorem dX8_keep_17 : decode cX8_keep 17 = .ok (.getfield 9, 3) := by decide +kernel
theorem dX8_keep_20 : decode cX8_keep 20 = .ok (.iconst 1, 1) := by decide +kernel
theorem dX8_keep_21 : decode cX8_keep 21 = .ok (.iaload, 1) := by decide +kernel
theorem dX8_keep_22 : decode cX8_keep 22 = .ok (.ireturn, 1) := by decide +kernel
theorem dX8_back_0 : decode cX8_back 0 = .ok (.aload_n 0, 1) := by decide +kernel
theorem dX8_back_1 : decode cX8_back 1 = .ok (.getfield 268, 3) := by decide +kernel
theorem dX8_back_4 : decode cX8_back 4 = .ok (.ifCond .ne 7, 3) := by decide +kernel
theorem dX8_back_7 : decode cX8_back 7 = .ok (.ldc_w 264, 3) := by decide +kernel
theorem dX8_back_10 : decode cX8_back 10 = .ok (.ireturn, 1) := by decide +kernel
theorem dX8_back_11 : decode cX8_back 11 = .ok (.aload_n 0, 1) := by decide +kernel
theorem dX8_back_12 : decode cX8_back 12 = .ok (.getfield 13, 3) := by decide +kernel
theorem dX8_back_15 : decode cX8_back 15 = .ok (.aload_n 0, 1) := by decide +kernel
theorem dX8_back_16 : decode cX8_back 16 = .ok (.getfield 9, 3) := by decide +kernel
theorem dX8_back_19 : decode cX8_back 19 = .ok (.invokestatic 272, 3) := by decide +kernel
theorem dX8_back_22 : decode cX8_back 22 = .ok (.aload_n 0, 1) := by decide +kernel
theorem dX8_back_23 : decode cX8_back 23 = .ok (.getfield 9, 3) := by decide +kernel
theorem dX8_back_26 : decode cX8_back 26 = .ok (.iconst 1, 1) := by decide +kernel
theorem dX8_back_27 : decode cX8_back 27 = .ok (.iaload, 1) := by decide +kernel
theorem dX8_back_28 : decode cX8_back 28 = .ok (.ireturn, 1) := by decide +kernel
theorem dX8_count_0 : decode cX8_count 0 = .ok (.iload_n 1, 1) := by decide +kernel
theorem dX8_count_1 : decode cX8_count 1 = .ok (.tableswitch 99 0 8 #[51, 58, 65, 65, 65, 74, 82, 87, 92], 51) := by decide +kernel
theorem dX8_count_52 : decode cX8_count 52 = .ok (.aload_n 0, 1) := by decide +kernel
theorem dX8_count_53 : decode cX8_count 53 = .ok (.getfield 9, 3) := by decide +kernel
theorem dX8_count_56 : decode cX8_count 56 = .ok (.iconst 1, 1) := by decide +kernel
theorem dX8_count_57 : decode cX8_count 57 = .ok (.iaload, 1) := by decide +kernel
theorem dX8_count_58 : decode cX8_count 58 = .ok (.ireturn, 1) := by decide +kernel
theorem dX8_count_59 : decode cX8_count 59 = .ok (.aload_n 0, 1) := by decide +kernel
theorem dX8_count_60 : decode cX8_count 60 = .ok (.getfield 9, 3) := by decide +kernel
theorem dX8_count_63 : decode cX8_count 63 = .ok (.iconst 2, 1) := by decide +kernel
theorem dX8_count_64 : decode cX8_count 64 = .ok (.iaload, 1) := by decide +kernel
theorem dX8_count_65 : decode cX8_count 65 = .ok (.ireturn, 1) := by decide +kernel
theorem dX8_count_66 : decode cX8_count 66 = .ok (.aload_n 0, 1) := by decide +kernel
theorem dX8_count_67 : decode cX8_count 67 = .ok (.getfield 9, 3) := by decide +kernel
theorem dX8_count_70 : decode cX8_count 70 = .ok (.iconst 1, 1) := by decide +kernel
theorem dX8_count_71 : decode cX8_count 71 = .ok (.iload_n 1, 1) := by decide +kernel
theorem dX8_count_72 : decode cX8_count 72 = .ok (.iadd, 1) := by decide +kernel
theorem dX8_count_73 : decode cX8_count 73 = .ok (.iaload, 1) := by decide +kernel
theorem dX8_count_74 : decode cX8_count 74 = .ok (.ireturn, 1) := by decide +kernel
theorem dX8_count_75 : decode cX8_count 75 = .ok (.aload_n 0, 1) := by decide +kernel
theorem dX8_count_76 : decode cX8_count 76 = .ok (.getfield 9, 3) := by decide +kernel
theorem dX8_count_79 : decode cX8_count 79 = .ok (.bipush 8, 2) := by decide +kernel
theorem dX8_count_81 : decode cX8_count 81 = .ok (.iaload, 1) := by decide +kernel
theorem dX8_count_82 : decode cX8_count 82 = .ok (.ireturn, 1) := by decide +kernel
theorem dX8_count_83 : decode cX8_count 83 = .ok (.aload_n 0, 1) := by decide +kernel
theorem dX8_count_84 : decode cX8_count 84 = .ok (.getfield 265, 3) := by decide +kernel
theorem dX8_count_87 : decode cX8_count 87 = .ok (.ireturn, 1) := by decide +kernel
theorem dX8_count_88 : decode cX8_count 88 = .ok (.aload_n 0, 1) := by decide +kernel
theorem dX8_count_89 : decode cX8_count 89 = .ok (.getfield 190, 3) := by decide +kernel
theorem dX8_count_92 : decode cX8_count 92 = .ok (.ireturn, 1) := by decide +kernel
theorem dX8_count_93 : decode cX8_count 93 = .ok (.aload_n 0, 1) := by decide +kernel
theorem dX8_count_94 : decode cX8_count 94 = .ok (.getfield 9, 3) := by decide +kernel
theorem dX8_count_97 : decode cX8_count 97 = .ok (.iconst 0, 1) := by decide +kernel
theorem dX8_count_98 : decode cX8_count 98 = .ok (.iaload, 1) := by decide +kernel
theorem dX8_count_99 : decode cX8_count 99 = .ok (.ireturn, 1) := by decide +kernel
theorem dX8_count_100 : decode cX8_count 100 = .ok (.ldc 92, 2) := by decide +kernel
theorem dX8_count_102 : decode cX8_count 102 = .ok (.ireturn, 1) := by decide +kernel
theorem dJ11_isValidCodePoint_9a6ad_0 : decode cJ11_isValidCodePoint_9a6ad 0 = .ok (.iload_n 0, 1) := by decide +kernel
theorem dJ11_isValidCodePoint_9a6ad_1 : decode cJ11_isValidCodePoint_9a6ad 1 = .ok (.bipush 16, 2) := by decide +kernel
theorem dJ11_isValidCodePoint_9a6ad_3 : decode cJ11_isValidCodePoint_9a6ad 3 = .ok (.iushr, 1) := by decide +kernel
theorem dJ11_isValidCodePoint_9a6ad_4 : decode cJ11_isValidCodePoint_9a6ad 4 = .ok (.istore_n 1, 1) := by decide +kernel
theorem dJ11_isValidCodePoint_9a6ad_5 : decode cJ11_isValidCodePoint_9a6ad 5 = .ok (.iload_n 1, 1) := by decide +kernel
theorem dJ11_isValidCodePoint_9a6ad_6 : decode cJ11_isValidCodePoint_9a6ad 6 = .ok (.bipush 17, 2) := by decide +kernel
theorem dJ11_isValidCodePoint_9a6ad_8 : decode cJ11_isValidCodePoint_9a6ad 8 = .ok (.if_icmp .ge 7, 3) := by decide +kernel
theorem dJ11_isValidCodePoint_9a6ad_11 : decode cJ11_isValidCodePoint_9a6ad 11 = .ok (.iconst 1, 1) := by decide +kernel
theorem dJ11_isValidCodePoint_9a6ad_12 : decode cJ11_isValidCodePoint_9a6ad 12 = .ok (.goto 4, 3) := by decide +kernel
theorem dJ11_isValidCodePoint_9a6ad_15 : decode cJ11_isValidCodePoint_9a6ad 15 = .ok (.iconst 0, 1) := by decide +kernel
theorem dJ11_isValidCodePoint_9a6ad_16 : decode cJ11_isValidCodePoint_9a6ad 16 = .ok (.ireturn, 1) := by decide +kernel
theorem dJ11_highSurrogate_5068e_0 : decode cJ11_highSurrogate_5068e 0 = .ok (.iload_n 0, 1) := by decide +kernel
theorem dJ11_highSurrogate_5068e_1 : decode cJ11_highSurrogate_5068e 1 = .ok (.bipush 10, 2) := by decide +kernel
theorem dJ11_highSurrogate_5068e_3 : decode cJ11_highSurrogate_5068e 3 = .ok (.iushr, 1) := by decide +kernel
theorem dJ11_highSurrogate_5068e_4 : decode cJ11_highSurrogate_5068e 4 = .ok (.ldc 110, 2) := by decide +kernel
theorem dJ11_highSurrogate_5068e_6 : decode cJ11_highSurrogate_5068e 6 = .ok (.iadd, 1) := by decide +kernel
theorem dJ11_highSurrogate_5068e_7 : decode cJ11_highSurrogate_5068e 7 = .ok (.i2c, 1) := by decide +kernel
theorem dJ11_highSurrogate_5068e_8 : decode cJ11_highSurrogate_5068e 8 = .ok (.ireturn, 1) := by decide +kernel
theorem dJ11_lowSurrogate_5068e_0 : decode cJ11_lowSurrogate_5068e 0 = .ok (.iload_n 0, 1) := by decide +kernel
theorem dJ11_lowSurrogate_5068e_1 : decode cJ11_lowSurrogate_5068e 1 = .ok (.sipush 1023, 3) := by decide +kernel
theorem dJ11_lowSurrogate_5068e_4 : decode cJ11_lowSurrogate_5068e 4 = .ok (.iand, 1) := by decide +kernel
theorem dJ11_lowSurrogate_5068e_5 : decode cJ11_lowSurrogate_5068e 5 = .ok (.ldc 76, 2) := by decide +kernel
theorem dJ11_lowSurrogate_5068e_7 : decode cJ11_lowSurrogate_5068e 7 = .ok (.iadd, 1) := by decide +kernel
theorem dJ11_lowSurrogate_5068e_8 : decode cJ11_lowSurrogate_5068e 8 = .ok (.i2c, 1) := by decide +kernel
theorem dJ11_lowSurrogate_5068e_9 : decode cJ11_lowSurrogate_5068e 9 = .ok (.ireturn, 1) := by decide +kernel
theorem dJ9_abs_0f7a4_0 : decode cJ9_abs_0f7a4 0 = .ok (.iload_n 0, 1) := by decide +kernel
theorem dJ9_abs_0f7a4_1 : decode cJ9_abs_0f7a4 1 = .ok (.ifCond .ge 8, 3) := by decide +kernel
theorem dJ9_abs_0f7a4_4 : decode cJ9_abs_0f7a4 4 = .ok (.iload_n 0, 1) := by decide +kernel
theorem dJ9_abs_0f7a4_5 : decode cJ9_abs_0f7a4 5 = .ok (.ineg, 1) := by decide +kernel
theorem dJ9_abs_0f7a4_6 : decode cJ9_abs_0f7a4 6 = .ok (.goto 4, 3) := by decide +kernel
theorem dJ9_abs_0f7a4_9 : decode cJ9_abs_0f7a4 9 = .ok (.iload_n 0, 1) := by decide +kernel
theorem dJ9_abs_0f7a4_10 : decode cJ9_abs_0f7a4 10 = .ok (.ireturn, 1) := by decide +kernel
theorem dJ9_max_7cf53_0 : decode cJ9_max_7cf53 0 = .ok (.iload_n 0, 1) := by decide +kernel
theorem dJ9_max_7cf53_1 : decode cJ9_max_7cf53 1 = .ok (.iload_n 1, 1) := by decide +kernel
theorem dJ9_max_7cf53_2 : decode cJ9_max_7cf53 2 = .ok (.if_icmp .lt 7, 3) := by decide +kernel
theorem dJ9_max_7cf53_5 : decode cJ9_max_7cf53 5 = .ok (.iload_n 0, 1) := by decide +kernel
theorem dJ9_max_7cf53_6 : decode cJ9_max_7cf53 6 = .ok (.goto 4, 3) := by decide +kernel
theorem dJ9_max_7cf53_9 : decode cJ9_max_7cf53 9 = .ok (.iload_n 1, 1) := by decide +kernel
theorem dJ9_max_7cf53_10 : decode cJ9_max_7cf53 10 = .ok (.ireturn, 1) := by decide +kernel
theorem dJ9_min_7cf53_0 : decode cJ9_min_7cf53 0 = .ok (.iload_n 0, 1) := by decide +kernel
theorem dJ9_min_7cf53_1 : decode cJ9_min_7cf53 1 = .ok (.iload_n 1, 1) := by decide +kernel
theorem dJ9_min_7cf53_2 : decode cJ9_min_7cf53 2 = .ok (.if_icmp .gt 7, 3) := by decide +kernel
theorem dJ9_min_7cf53_5 : decode cJ9_min_7cf53 5 = .ok (.iload_n 0, 1) := by decide +kernel
theorem dJ9_min_7cf53_6 : decode cJ9_min_7cf53 6 = .ok (.goto 4, 3) := by decide +kernel
theorem dJ9_min_7cf53_9 : decode cJ9_min_7cf53 9 = .ok (.iload_n 1, 1) := by decide +kernel
theorem dJ9_min_7cf53_10 : decode cJ9_min_7cf53 10 = .ok (.ireturn, 1) := by decide +kernel
theorem dJ0_length_8abf5_0 : decode cJ0_length_8abf5 0 = .ok (.aload_n 0, 1) := by decide +kernel
theorem dJ0_length_8abf5_1 : decode cJ0_length_8abf5 1 = .ok (.getfield 9, 3) := by decide +kernel
theorem dJ0_length_8abf5_4 : decode cJ0_length_8abf5 4 = .ok (.arraylength, 1) := by decide +kernel
theorem dJ0_length_8abf5_5 : decode cJ0_length_8abf5 5 = .ok (.aload_n 0, 1) := by decide +kernel
theorem dJ0_length_8abf5_6 : decode cJ0_length_8abf5 6 = .ok (.invokevirtual 335, 3) := by decide +kernel
theorem dJ0_length_8abf5_9 : decode cJ0_length_8abf5 9 = .ok (.ishr, 1) := by decide +kernel
theorem dJ0_length_8abf5_10 : decode cJ0_length_8abf5 10 = .ok (.ireturn, 1) := by decide +kernel
theorem dJ0_charAt_5068e_0 : decode cJ0_charAt_5068e 0 = .ok (.aload_n 0, 1) := by decide +kernel
theorem dJ0_charAt_5068e_1 : decode cJ0_charAt_5068e 1 = .ok (.invokevirtual 492, 3) := by decide +kernel
theorem dJ0_charAt_5068e_4 : decode cJ0_charAt_5068e 4 = .ok (.ifCond .eq 12, 3) := by decide +kernel
theorem dJ0_charAt_5068e_7 : decode cJ0_charAt_5068e 7 = .ok (.aload_n 0, 1) := by decide +kernel
theorem dJ0_charAt_5068e_8 : decode cJ0_charAt_5068e 8 = .ok (.getfield 9, 3) := by decide +kernel
theorem dJ0_charAt_5068e_11 : decode cJ0_charAt_5068e 11 = .ok (.iload_n 1, 1) := by decide +kernel
theorem dJ0_charAt_5068e_12 : decode cJ0_charAt_5068e 12 = .ok (.invokestatic 495, 3) := by decide +kernel
theorem dJ0_charAt_5068e_15 : decode cJ0_charAt_5068e 15 = .ok (.ireturn, 1) := by decide +kernel
theorem dJ0_charAt_5068e_16 : decode cJ0_charAt_5068e 16 = .ok (.aload_n 0, 1) := by decide +kernel
theorem dJ0_charAt_5068e_17 : decode cJ0_charAt_5068e 17 = .ok (.getfield 9, 3) := by decide +kernel
theorem dJ0_charAt_5068e_20 : decode cJ0_charAt_5068e 20 = .ok (.iload_n 1, 1) := by decide +kernel
theorem dJ0_charAt_5068e_21 : decode cJ0_charAt_5068e 21 = .ok (.invokestatic 498, 3) := by decide +kernel
theorem dJ0_charAt_5068e_24 : decode cJ0_charAt_5068e 24 = .ok (.ireturn, 1) := by decide +kernel
theorem dJ0_indexOf_0f7a4_0 : decode cJ0_indexOf_0f7a4 0 = .ok (.aload_n 0, 1) := by decide +kernel
theorem dJ0_indexOf_0f7a4_1 : decode cJ0_indexOf_0f7a4 1 = .ok (.iload_n 1, 1) := by decide +kernel
theorem dJ0_indexOf_0f7a4_2 : decode cJ0_indexOf_0f7a4 2 = .ok (.iconst 0, 1) := by decide +kernel
theorem dJ0_indexOf_0f7a4_3 : decode cJ0_indexOf_0f7a4 3 = .ok (.invokevirtual 633, 3) := by decide +kernel
theorem dJ0_indexOf_0f7a4_6 : decode cJ0_indexOf_0f7a4 6 = .ok (.ireturn, 1) := by decide +kernel
theorem dJ0_indexOf_7cf53_0 : decode cJ0_indexOf_7cf53 0 = .ok (.aload_n 0, 1) := by decide +kernel
theorem dJ0_indexOf_7cf53_1 : decode cJ0_indexOf_7cf53 1 = .ok (.invokevirtual 492, 3) := by decide +kernel
theorem dJ0_indexOf_7cf53_4 : decode cJ0_indexOf_7cf53 4 = .ok (.ifCond .eq 19, 3) := by decide +kernel
theorem dJ0_indexOf_7cf53_7 : decode cJ0_indexOf_7cf53 7 = .ok (.aload_n 0, 1) := by decide +kernel
theorem dJ0_indexOf_7cf53_8 : decode cJ0_indexOf_7cf53 8 = .ok (.getfield 9, 3) := by decide +kernel
theorem dJ0_indexOf_7cf53_11 : decode cJ0_indexOf_7cf53 11 = .ok (.iload_n 1, 1) := by decide +kernel
theorem dJ0_indexOf_7cf53_12 : decode cJ0_indexOf_7cf53 12 = .ok (.iload_n 2, 1) := by decide +kernel
theorem dJ0_indexOf_7cf53_13 : decode cJ0_indexOf_7cf53 13 = .ok (.aload_n 0, 1) := by decide +kernel
theorem dJ0_indexOf_7cf53_14 : decode cJ0_indexOf_7cf53 14 = .ok (.invokevirtual 505, 3) := by decide +kernel
theorem dJ0_indexOf_7cf53_17 : decode cJ0_indexOf_7cf53 17 = .ok (.invokestatic 637, 3) := by decide +kernel
theorem dJ0_indexOf_7cf53_20 : decode cJ0_indexOf_7cf53 20 = .ok (.goto 16, 3) := by decide +kernel
theorem dJ0_indexOf_7cf53_23 : decode cJ0_indexOf_7cf53 23 = .ok (.aload_n 0, 1) := by decide +kernel
theorem dJ0_indexOf_7cf53_24 : decode cJ0_indexOf_7cf53 24 = .ok (.getfield 9, 3) := by decide +kernel
theorem dJ0_indexOf_7cf53_27 : decode cJ0_indexOf_7cf53 27 = .ok (.iload_n 1, 1) := by decide +kernel
theorem dJ0_indexOf_7cf53_28 : decode cJ0_indexOf_7cf53 28 = .ok (.iload_n 2, 1) := by decide +kernel
theorem dJ0_indexOf_7cf53_29 : decode cJ0_indexOf_7cf53 29 = .ok (.aload_n 0, 1) := by decide +kernel
theorem dJ0_indexOf_7cf53_30 : decode cJ0_indexOf_7cf53 30 = .ok (.invokevirtual 505, 3) := by decide +kernel
theorem dJ0_indexOf_7cf53_33 : decode cJ0_indexOf_7cf53 33 = .ok (.invokestatic 640, 3) := by decide +kernel
theorem dJ0_indexOf_7cf53_36 : decode cJ0_indexOf_7cf53 36 = .ok (.ireturn, 1) := by decide +kernel
theorem dJ0_coder_7d493_0 : decode cJ0_coder_7d493 0 = .ok (.getstatic 38, 3) := by decide +kernel
theorem dJ0_coder_7d493_3 : decode cJ0_coder_7d493 3 = .ok (.ifCond .eq 10, 3) := by decide +kernel
theorem dJ0_coder_7d493_6 : decode cJ0_coder_7d493 6 = .ok (.aload_n 0, 1) := by decide +kernel
theorem dJ0_coder_7d493_7 : decode cJ0_coder_7d493 7 = .ok (.getfield 15, 3) := by decide +kernel
theorem dJ0_coder_7d493_10 : decode cJ0_coder_7d493 10 = .ok (.goto 4, 3) := by decide +kernel
theorem dJ0_coder_7d493_13 : decode cJ0_coder_7d493 13 = .ok (.iconst 1, 1) := by decide +kernel
theorem dJ0_coder_7d493_14 : decode cJ0_coder_7d493 14 = .ok (.ireturn, 1) := by decide +kernel
theorem dJ0_isLatin1_aae02_0 : decode cJ0_isLatin1_aae02 0 = .ok (.getstatic 38, 3) := by decide +kernel
theorem dJ0_isLatin1_aae02_3 : decode cJ0_isLatin1_aae02 3 = .ok (.ifCond .eq 14, 3) := by decide +kernel
theorem dJ0_isLatin1_aae02_6 : decode cJ0_isLatin1_aae02 6 = .ok (.aload_n 0, 1) := by decide +kernel
theorem dJ0_isLatin1_aae02_7 : decode cJ0_isLatin1_aae02 7 = .ok (.getfield 15, 3) := by decide +kernel
theorem dJ0_isLatin1_aae02_10 : decode cJ0_isLatin1_aae02 10 = .ok (.ifCond .ne 7, 3) := by decide +kernel
theorem dJ0_isLatin1_aae02_13 : decode cJ0_isLatin1_aae02 13 = .ok (.iconst 1, 1) := by decide +kernel
theorem dJ0_isLatin1_aae02_14 : decode cJ0_isLatin1_aae02 14 = .ok (.goto 4, 3) := by decide +kernel
theorem dJ0_isLatin1_aae02_17 : decode cJ0_isLatin1_aae02 17 = .ok (.iconst 0, 1) := by decide +kernel
theorem dJ0_isLatin1_aae02_18 : decode cJ0_isLatin1_aae02 18 = .ok (.ireturn, 1) := by decide +kernel
theorem dJ0_checkIndex_df160_0 : decode cJ0_checkIndex_df160 0 = .ok (.iload_n 0, 1) := by decide +kernel
theorem dJ0_checkIndex_df160_1 : decode cJ0_checkIndex_df160 1 = .ok (.iload_n 1, 1) := by decide +kernel
theorem dJ0_checkIndex_df160_2 : decode cJ0_checkIndex_df160 2 = .ok (.getstatic 1053, 3) := by decide +kernel
theorem dJ0_checkIndex_df160_5 : decode cJ0_checkIndex_df160 5 = .ok (.invokestatic 1059, 3) := by decide +kernel
theorem dJ0_checkIndex_df160_8 : decode cJ0_checkIndex_df160 8 = .ok (.pop, 1) := by decide +kernel
theorem dJ0_checkIndex_df160_9 : decode cJ0_checkIndex_df160 9 = .ok (.return_, 1) := by decide +kernel
theorem dJ0_checkBoundsBeginEnd_23922_0 : decode cJ0_checkBoundsBeginEnd_23922 0 = .ok (.iload_n 0, 1) := by decide +kernel
theorem dJ0_checkBoundsBeginEnd_23922_1 : decode cJ0_checkBoundsBeginEnd_23922 1 = .ok (.iload_n 1, 1) := by decide +kernel
theorem dJ0_checkBoundsBeginEnd_23922_2 : decode cJ0_checkBoundsBeginEnd_23922 2 = .ok (.iload_n 2, 1) := by decide +kernel
theorem dJ0_checkBoundsBeginEnd_23922_3 : decode cJ0_checkBoundsBeginEnd_23922 3 = .ok (.getstatic 1053, 3) := by decide +kernel
theorem dJ0_checkBoundsBeginEnd_23922_6 : decode cJ0_checkBoundsBeginEnd_23922 6 = .ok (.invokestatic 1062, 3) := by decide +kernel
theorem dJ0_checkBoundsBeginEnd_23922_9 : decode cJ0_checkBoundsBeginEnd_23922 9 = .ok (.pop, 1) := by decide +kernel
theorem dJ0_checkBoundsBeginEnd_23922_10 : decode cJ0_checkBoundsBeginEnd_23922 10 = .ok (.return_, 1) := by decide +kernel
theorem dJ1_charAt_3b067_0 : decode cJ1_charAt_3b067 0 = .ok (.iload_n 1, 1) := by decide +kernel
theorem dJ1_charAt_3b067_1 : decode cJ1_charAt_3b067 1 = .ok (.aload_n 0, 1) := by decide +kernel
theorem dJ1_charAt_3b067_2 : decode cJ1_charAt_3b067 2 = .ok (.arraylength, 1) := by decide +kernel
theorem dJ1_charAt_3b067_3 : decode cJ1_charAt_3b067 3 = .ok (.invokestatic 9, 3) := by decide +kernel
theorem dJ1_charAt_3b067_6 : decode cJ1_charAt_3b067 6 = .ok (.aload_n 0, 1) := by decide +kernel
theorem dJ1_charAt_3b067_7 : decode cJ1_charAt_3b067 7 = .ok (.iload_n 1, 1) := by decide +kernel
theorem dJ1_charAt_3b067_8 : decode cJ1_charAt_3b067 8 = .ok (.baload, 1) := by decide +kernel
theorem dJ1_charAt_3b067_9 : decode cJ1_charAt_3b067 9 = .ok (.sipush 255, 3) := by decide +kernel
theorem dJ1_charAt_3b067_12 : decode cJ1_charAt_3b067 12 = .ok (.iand, 1) := by decide +kernel
theorem dJ1_charAt_3b067_13 : decode cJ1_charAt_3b067 13 = .ok (.i2c, 1) := by decide +kernel
theorem dJ1_charAt_3b067_14 : decode cJ1_charAt_3b067 14 = .ok (.ireturn, 1) := by decide +kernel
theorem dJ1_canEncode_9a6ad_0 : decode cJ1_canEncode_9a6ad 0 = .ok (.iload_n 0, 1) := by decide +kernel
theorem dJ1_canEncode_9a6ad_1 : decode cJ1_canEncode_9a6ad 1 = .ok (.ifCond .lt 14, 3) := by decide +kernel
theorem dJ1_canEncode_9a6ad_4 : decode cJ1_canEncode_9a6ad 4 = .ok (.iload_n 0, 1) := by decide +kernel
theorem dJ1_canEncode_9a6ad_5 : decode cJ1_canEncode_9a6ad 5 = .ok (.sipush 255, 3) := by decide +kernel
theorem dJ1_canEncode_9a6ad_8 : decode cJ1_canEncode_9a6ad 8 = .ok (.if_icmp .gt 7, 3) := by decide +kernel
theorem dJ1_canEncode_9a6ad_11 : decode cJ1_canEncode_9a6ad 11 = .ok (.iconst 1, 1) := by decide +kernel
theorem dJ1_canEncode_9a6ad_12 : decode cJ1_canEncode_9a6ad 12 = .ok (.goto 4, 3) := by decide +kernel
theorem dJ1_canEncode_9a6ad_15 : decode cJ1_canEncode_9a6ad 15 = .ok (.iconst 0, 1) := by decide +kernel
theorem dJ1_canEncode_9a6ad_16 : decode cJ1_canEncode_9a6ad 16 = .ok (.ireturn, 1) := by decide +kernel
theorem dJ1_indexOf_4cfef_0 : decode cJ1_indexOf_4cfef 0 = .ok (.iload_n 1, 1) := by decide +kernel
theorem dJ1_indexOf_4cfef_1 : decode cJ1_indexOf_4cfef 1 = .ok (.invokestatic 88, 3) := by decide +kernel
theorem dJ1_indexOf_4cfef_4 : decode cJ1_indexOf_4cfef 4 = .ok (.ifCond .ne 5, 3) := by decide +kernel
theorem dJ1_indexOf_4cfef_7 : decode cJ1_indexOf_4cfef 7 = .ok (.iconst (-1), 1) := by decide +kernel
theorem dJ1_indexOf_4cfef_8 : decode cJ1_indexOf_4cfef 8 = .ok (.ireturn, 1) := by decide +kernel
theorem dJ1_indexOf_4cfef_9 : decode cJ1_indexOf_4cfef 9 = .ok (.iload_n 2, 1) := by decide +kernel
theorem dJ1_indexOf_4cfef_10 : decode cJ1_indexOf_4cfef 10 = .ok (.iconst 0, 1) := by decide +kernel
theorem dJ1_indexOf_4cfef_11 : decode cJ1_indexOf_4cfef 11 = .ok (.invokestatic 92, 3) := by decide +kernel
theorem dJ1_indexOf_4cfef_14 : decode cJ1_indexOf_4cfef 14 = .ok (.istore_n 2, 1) := by decide +kernel
theorem dJ1_indexOf_4cfef_15 : decode cJ1_indexOf_4cfef 15 = .ok (.iload_n 3, 1) := by decide +kernel
theorem dJ1_indexOf_4cfef_16 : decode cJ1_indexOf_4cfef 16 = .ok (.aload_n 0, 1) := by decide +kernel
theorem dJ1_indexOf_4cfef_17 : decode cJ1_indexOf_4cfef 17 = .ok (.arraylength, 1) := by decide +kernel
theorem dJ1_indexOf_4cfef_18 : decode cJ1_indexOf_4cfef 18 = .ok (.invokestatic 38, 3) := by decide +kernel
theorem dJ1_indexOf_4cfef_21 : decode cJ1_indexOf_4cfef 21 = .ok (.istore_n 3, 1) := by decide +kernel
theorem dJ1_indexOf_4cfef_22 : decode cJ1_indexOf_4cfef 22 = .ok (.iload_n 2, 1) := by decide +kernel
theorem dJ1_indexOf_4cfef_23 : decode cJ1_indexOf_4cfef 23 = .ok (.iload_n 3, 1) := by decide +kernel
theorem dJ1_indexOf_4cfef_24 : decode cJ1_indexOf_4cfef 24 = .ok (.if_icmp .lt 5, 3) := by decide +kernel
theorem dJ1_indexOf_4cfef_27 : decode cJ1_indexOf_4cfef 27 = .ok (.iconst (-1), 1) := by decide +kernel
theorem dJ1_indexOf_4cfef_28 : decode cJ1_indexOf_4cfef 28 = .ok (.ireturn, 1) := by decide +kernel
theorem dJ1_indexOf_4cfef_29 : decode cJ1_indexOf_4cfef 29 = .ok (.aload_n 0, 1) := by decide +kernel
theorem dJ1_indexOf_4cfef_30 : decode cJ1_indexOf_4cfef 30 = .ok (.iload_n 1, 1) := by decide +kernel
theorem dJ1_indexOf_4cfef_31 : decode cJ1_indexOf_4cfef 31 = .ok (.iload_n 2, 1) := by decide +kernel
theorem dJ1_indexOf_4cfef_32 : decode cJ1_indexOf_4cfef 32 = .ok (.iload_n 3, 1) := by decide +kernel
theorem dJ1_indexOf_4cfef_33 : decode cJ1_indexOf_4cfef 33 = .ok (.invokestatic 95, 3) := by decide +kernel
theorem dJ1_indexOf_4cfef_36 : decode cJ1_indexOf_4cfef 36 = .ok (.ireturn, 1) := by decide +kernel
theorem dJ1_indexOfChar_4cfef_0 : decode cJ1_indexOfChar_4cfef 0 = .ok (.iload_n 1, 1) := by decide +kernel
theorem dJ1_indexOfChar_4cfef_1 : decode cJ1_indexOfChar_4cfef 1 = .ok (.i2b, 1) := by decide +kernel
theorem dJ1_indexOfChar_4cfef_2 : decode cJ1_indexOfChar_4cfef 2 = .ok (.istore 4, 2) := by decide +kernel
theorem dJ1_indexOfChar_4cfef_4 : decode cJ1_indexOfChar_4cfef 4 = .ok (.iload_n 2, 1) := by decide +kernel
theorem dJ1_indexOfChar_4cfef_5 : decode cJ1_indexOfChar_4cfef 5 = .ok (.istore 5, 2) := by decide +kernel
theorem dJ1_indexOfChar_4cfef_7 : decode cJ1_indexOfChar_4cfef 7 = .ok (.iload 5, 2) := by decide +kernel
theorem dJ1_indexOfChar_4cfef_9 : decode cJ1_indexOfChar_4cfef 9 = .ok (.iload_n 3, 1) := by decide +kernel
theorem dJ1_indexOfChar_4cfef_10 : decode cJ1_indexOfChar_4cfef 10 = .ok (.if_icmp .ge 21, 3) := by decide +kernel
theorem dJ1_indexOfChar_4cfef_13 : decode cJ1_indexOfChar_4cfef 13 = .ok (.aload_n 0, 1) := by decide +kernel
theorem dJ1_indexOfChar_4cfef_14 : decode cJ1_indexOfChar_4cfef 14 = .ok (.iload 5, 2) := by decide +kernel
theorem dJ1_indexOfChar_4cfef_16 : decode cJ1_indexOfChar_4cfef 16 = .ok (.baload, 1) := by decide +kernel
theorem dJ1_indexOfChar_4cfef_17 : decode cJ1_indexOfChar_4cfef 17 = .ok (.iload 4, 2) := by decide +kernel
theorem dJ1_indexOfChar_4cfef_19 : decode cJ1_indexOfChar_4cfef 19 = .ok (.if_icmp .ne 6, 3) := by decide +kernel
theorem dJ1_indexOfChar_4cfef_22 : decode cJ1_indexOfChar_4cfef 22 = .ok (.iload 5, 2) := by decide +kernel
theorem dJ1_indexOfChar_4cfef_24 : decode cJ1_indexOfChar_4cfef 24 = .ok (.ireturn, 1) := by decide +kernel
theorem dJ1_indexOfChar_4cfef_25 : decode cJ1_indexOfChar_4cfef 25 = .ok (.iinc 5 1, 3) := by decide +kernel
theorem dJ1_indexOfChar_4cfef_28 : decode cJ1_indexOfChar_4cfef 28 = .ok (.goto (-21), 3) := by decide +kernel
theorem dJ1_indexOfChar_4cfef_31 : decode cJ1_indexOfChar_4cfef 31 = .ok (.iconst (-1), 1) := by decide +kernel
theorem dJ1_indexOfChar_4cfef_32 : decode cJ1_indexOfChar_4cfef 32 = .ok (.ireturn, 1) := by decide +kernel
theorem dJ2_getChar_3b067_0 : decode cJ2_getChar_3b067 0 = .ok (.getstatic 44, 3) := by decide +kernel
theorem dJ2_getChar_3b067_3 : decode cJ2_getChar_3b067 3 = .ok (.ifCond .ne 25, 3) := by decide +kernel
theorem dJ2_getChar_3b067_6 : decode cJ2_getChar_3b067 6 = .ok (.iload_n 1, 1) := by decide +kernel
theorem dJ2_getChar_3b067_7 : decode cJ2_getChar_3b067 7 = .ok (.ifCond .lt 11, 3) := by decide +kernel
theorem dJ2_getChar_3b067_10 : decode cJ2_getChar_3b067 10 = .ok (.iload_n 1, 1) := by decide +kernel
theorem dJ2_getChar_3b067_11 : decode cJ2_getChar_3b067 11 = .ok (.aload_n 0, 1) := by decide +kernel
theorem dJ2_getChar_3b067_12 : decode cJ2_getChar_3b067 12 = .ok (.invokestatic 48, 3) := by decide +kernel
theorem dJ2_getChar_3b067_15 : decode cJ2_getChar_3b067 15 = .ok (.if_icmp .lt 13, 3) := by decide +kernel
theorem dJ2_getChar_3b067_18 : decode cJ2_getChar_3b067 18 = .ok (.new 52, 3) := by decide +kernel
theorem dJ2_getChar_3b067_21 : decode cJ2_getChar_3b067 21 = .ok (.dup, 1) := by decide +kernel
theorem dJ2_getChar_3b067_22 : decode cJ2_getChar_3b067 22 = .ok (.ldc 54, 2) := by decide +kernel
theorem dJ2_getChar_3b067_24 : decode cJ2_getChar_3b067 24 = .ok (.invokespecial 56, 3) := by decide +kernel
theorem dJ2_getChar_3b067_27 : decode cJ2_getChar_3b067 27 = .ok (.athrow, 1) := by decide +kernel
theorem dJ2_getChar_3b067_28 : decode cJ2_getChar_3b067 28 = .ok (.iload_n 1, 1) := by decide +kernel
theorem dJ2_getChar_3b067_29 : decode cJ2_getChar_3b067 29 = .ok (.iconst 1, 1) := by decide +kernel
theorem dJ2_getChar_3b067_30 : decode cJ2_getChar_3b067 30 = .ok (.ishl, 1) := by decide +kernel
theorem dJ2_getChar_3b067_31 : decode cJ2_getChar_3b067 31 = .ok (.istore_n 1, 1) := by decide +kernel
theorem dJ2_getChar_3b067_32 : decode cJ2_getChar_3b067 32 = .ok (.aload_n 0, 1) := by decide +kernel
theorem dJ2_getChar_3b067_33 : decode cJ2_getChar_3b067 33 = .ok (.iload_n 1, 1) := by decide +kernel
theorem dJ2_getChar_3b067_34 : decode cJ2_getChar_3b067 34 = .ok (.iinc 1 1, 3) := by decide +kernel
theorem dJ2_getChar_3b067_37 : decode cJ2_getChar_3b067 37 = .ok (.baload, 1) := by decide +kernel
theorem dJ2_getChar_3b067_38 : decode cJ2_getChar_3b067 38 = .ok (.sipush 255, 3) := by decide +kernel
theorem dJ2_getChar_3b067_41 : decode cJ2_getChar_3b067 41 = .ok (.iand, 1) := by decide +kernel
theorem dJ2_getChar_3b067_42 : decode cJ2_getChar_3b067 42 = .ok (.getstatic 59, 3) := by decide +kernel
theorem dJ2_getChar_3b067_45 : decode cJ2_getChar_3b067 45 = .ok (.ishl, 1) := by decide +kernel
theorem dJ2_getChar_3b067_46 : decode cJ2_getChar_3b067 46 = .ok (.aload_n 0, 1) := by decide +kernel
theorem dJ2_getChar_3b067_47 : decode cJ2_getChar_3b067 47 = .ok (.iload_n 1, 1) := by decide +kernel
theorem dJ2_getChar_3b067_48 : decode cJ2_getChar_3b067 48 = .ok (.baload, 1) := by decide +kernel
theorem dJ2_getChar_3b067_49 : decode cJ2_getChar_3b067 49 = .ok (.sipush 255, 3) := by decide +kernel
theorem dJ2_getChar_3b067_52 : decode cJ2_getChar_3b067 52 = .ok (.iand, 1) := by decide +kernel
theorem dJ2_getChar_3b067_53 : decode cJ2_getChar_3b067 53 = .ok (.getstatic 63, 3) := by decide +kernel
theorem dJ2_getChar_3b067_56 : decode cJ2_getChar_3b067 56 = .ok (.ishl, 1) := by decide +kernel
theorem dJ2_getChar_3b067_57 : decode cJ2_getChar_3b067 57 = .ok (.ior, 1) := by decide +kernel
theorem dJ2_getChar_3b067_58 : decode cJ2_getChar_3b067 58 = .ok (.i2c, 1) := by decide +kernel
theorem dJ2_getChar_3b067_59 : decode cJ2_getChar_3b067 59 = .ok (.ireturn, 1) := by decide +kernel
theorem dJ2_length_9d52b_0 : decode cJ2_length_9d52b 0 = .ok (.aload_n 0, 1) := by decide +kernel
theorem dJ2_length_9d52b_1 : decode cJ2_length_9d52b 1 = .ok (.arraylength, 1) := by decide +kernel
theorem dJ2_length_9d52b_2 : decode cJ2_length_9d52b 2 = .ok (.iconst 1, 1) := by decide +kernel
theorem dJ2_length_9d52b_3 : decode cJ2_length_9d52b 3 = .ok (.ishr, 1) := by decide +kernel
theorem dJ2_length_9d52b_4 : decode cJ2_length_9d52b 4 = .ok (.ireturn, 1) := by decide +kernel
theorem dJ2_indexOf_4cfef_0 : decode cJ2_indexOf_4cfef 0 = .ok (.iload_n 2, 1) := by decide +kernel
theorem dJ2_indexOf_4cfef_1 : decode cJ2_indexOf_4cfef 1 = .ok (.iconst 0, 1) := by decide +kernel
theorem dJ2_indexOf_4cfef_2 : decode cJ2_indexOf_4cfef 2 = .ok (.invokestatic 224, 3) := by decide +kernel
theorem dJ2_indexOf_4cfef_5 : decode cJ2_indexOf_4cfef 5 = .ok (.istore_n 2, 1) := by decide +kernel
theorem dJ2_indexOf_4cfef_6 : decode cJ2_indexOf_4cfef 6 = .ok (.iload_n 3, 1) := by decide +kernel
theorem dJ2_indexOf_4cfef_7 : decode cJ2_indexOf_4cfef 7 = .ok (.aload_n 0, 1) := by decide +kernel
theorem dJ2_indexOf_4cfef_8 : decode cJ2_indexOf_4cfef 8 = .ok (.arraylength, 1) := by decide +kernel
theorem dJ2_indexOf_4cfef_9 : decode cJ2_indexOf_4cfef 9 = .ok (.iconst 1, 1) := by decide +kernel
theorem dJ2_indexOf_4cfef_10 : decode cJ2_indexOf_4cfef 10 = .ok (.ishr, 1) := by decide +kernel
theorem dJ2_indexOf_4cfef_11 : decode cJ2_indexOf_4cfef 11 = .ok (.invokestatic 183, 3) := by decide +kernel
theorem dJ2_indexOf_4cfef_14 : decode cJ2_indexOf_4cfef 14 = .ok (.istore_n 3, 1) := by decide +kernel
theorem dJ2_indexOf_4cfef_15 : decode cJ2_indexOf_4cfef 15 = .ok (.iload_n 2, 1) := by decide +kernel
theorem dJ2_indexOf_4cfef_16 : decode cJ2_indexOf_4cfef 16 = .ok (.iload_n 3, 1) := by decide +kernel
theorem dJ2_indexOf_4cfef_17 : decode cJ2_indexOf_4cfef 17 = .ok (.if_icmp .lt 5, 3) := by decide +kernel
theorem dJ2_indexOf_4cfef_20 : decode cJ2_indexOf_4cfef 20 = .ok (.iconst (-1), 1) := by decide +kernel
theorem dJ2_indexOf_4cfef_21 : decode cJ2_indexOf_4cfef 21 = .ok (.ireturn, 1) := by decide +kernel
theorem dJ2_indexOf_4cfef_22 : decode cJ2_indexOf_4cfef 22 = .ok (.iload_n 1, 1) := by decide +kernel
theorem dJ2_indexOf_4cfef_23 : decode cJ2_indexOf_4cfef 23 = .ok (.ldc 227, 2) := by decide +kernel
theorem dJ2_indexOf_4cfef_25 : decode cJ2_indexOf_4cfef 25 = .ok (.if_icmp .ge 11, 3) := by decide +kernel
theorem dJ2_indexOf_4cfef_28 : decode cJ2_indexOf_4cfef 28 = .ok (.aload_n 0, 1) := by decide +kernel
theorem dJ2_indexOf_4cfef_29 : decode cJ2_indexOf_4cfef 29 = .ok (.iload_n 1, 1) := by decide +kernel
theorem dJ2_indexOf_4cfef_30 : decode cJ2_indexOf_4cfef 30 = .ok (.iload_n 2, 1) := by decide +kernel
theorem dJ2_indexOf_4cfef_31 : decode cJ2_indexOf_4cfef 31 = .ok (.iload_n 3, 1) := by decide +kernel
theorem dJ2_indexOf_4cfef_32 : decode cJ2_indexOf_4cfef 32 = .ok (.invokestatic 228, 3) := by decide +kernel
theorem dJ2_indexOf_4cfef_35 : decode cJ2_indexOf_4cfef 35 = .ok (.ireturn, 1) := by decide +kernel
theorem dJ2_indexOf_4cfef_36 : decode cJ2_indexOf_4cfef 36 = .ok (.aload_n 0, 1) := by decide +kernel
theorem dJ2_indexOf_4cfef_37 : decode cJ2_indexOf_4cfef 37 = .ok (.iload_n 1, 1) := by decide +kernel
theorem dJ2_indexOf_4cfef_38 : decode cJ2_indexOf_4cfef 38 = .ok (.iload_n 2, 1) := by decide +kernel
theorem dJ2_indexOf_4cfef_39 : decode cJ2_indexOf_4cfef 39 = .ok (.iload_n 3, 1) := by decide +kernel
theorem dJ2_indexOf_4cfef_40 : decode cJ2_indexOf_4cfef 40 = .ok (.invokestatic 232, 3) := by decide +kernel
theorem dJ2_indexOf_4cfef_43 : decode cJ2_indexOf_4cfef 43 = .ok (.ireturn, 1) := by decide +kernel
theorem dJ2_indexOfChar_4cfef_0 : decode cJ2_indexOfChar_4cfef 0 = .ok (.iload_n 2, 1) := by decide +kernel
theorem dJ2_indexOfChar_4cfef_1 : decode cJ2_indexOfChar_4cfef 1 = .ok (.iload_n 3, 1) := by decide +kernel
theorem dJ2_indexOfChar_4cfef_2 : decode cJ2_indexOfChar_4cfef 2 = .ok (.aload_n 0, 1) := by decide +kernel
theorem dJ2_indexOfChar_4cfef_3 : decode cJ2_indexOfChar_4cfef 3 = .ok (.invokestatic 96, 3) := by decide +kernel
theorem dJ2_indexOfChar_4cfef_6 : decode cJ2_indexOfChar_4cfef 6 = .ok (.aload_n 0, 1) := by decide +kernel
theorem dJ2_indexOfChar_4cfef_7 : decode cJ2_indexOfChar_4cfef 7 = .ok (.iload_n 1, 1) := by decide +kernel
theorem dJ2_indexOfChar_4cfef_8 : decode cJ2_indexOfChar_4cfef 8 = .ok (.iload_n 2, 1) := by decide +kernel
theorem dJ2_indexOfChar_4cfef_9 : decode cJ2_indexOfChar_4cfef 9 = .ok (.iload_n 3, 1) := by decide +kernel
theorem dJ2_indexOfChar_4cfef_10 : decode cJ2_indexOfChar_4cfef 10 = .ok (.invokestatic 244, 3) := by decide +kernel
theorem dJ2_indexOfChar_4cfef_13 : decode cJ2_indexOfChar_4cfef 13 = .ok (.ireturn, 1) := by decide +kernel
theorem dJ2_indexOfCharUnsafe_4cfef_0 : decode cJ2_indexOfCharUnsafe_4cfef 0 = .ok (.iload_n 2, 1) := by decide +kernel
theorem dJ2_indexOfCharUnsafe_4cfef_1 : decode cJ2_indexOfCharUnsafe_4cfef 1 = .ok (.istore 4, 2) := by decide +kernel
theorem dJ2_indexOfCharUnsafe_4cfef_3 : decode cJ2_indexOfCharUnsafe_4cfef 3 = .ok (.iload 4, 2) := by decide +kernel
theorem dJ2_indexOfCharUnsafe_4cfef_5 : decode cJ2_indexOfCharUnsafe_4cfef 5 = .ok (.iload_n 3, 1) := by decide +kernel
theorem dJ2_indexOfCharUnsafe_4cfef_6 : decode cJ2_indexOfCharUnsafe_4cfef 6 = .ok (.if_icmp .ge 22, 3) := by decide +kernel
theorem dJ2_indexOfCharUnsafe_4cfef_9 : decode cJ2_indexOfCharUnsafe_4cfef 9 = .ok (.aload_n 0, 1) := by decide +kernel
theorem dJ2_indexOfCharUnsafe_4cfef_10 : decode cJ2_indexOfCharUnsafe_4cfef 10 = .ok (.iload 4, 2) := by decide +kernel
theorem dJ2_indexOfCharUnsafe_4cfef_12 : decode cJ2_indexOfCharUnsafe_4cfef 12 = .ok (.invokestatic 71, 3) := by decide +kernel
theorem dJ2_indexOfCharUnsafe_4cfef_15 : decode cJ2_indexOfCharUnsafe_4cfef 15 = .ok (.iload_n 1, 1) := by decide +kernel
theorem dJ2_indexOfCharUnsafe_4cfef_16 : decode cJ2_indexOfCharUnsafe_4cfef 16 = .ok (.if_icmp .ne 6, 3) := by decide +kernel
theorem dJ2_indexOfCharUnsafe_4cfef_19 : decode cJ2_indexOfCharUnsafe_4cfef 19 = .ok (.iload 4, 2) := by decide +kernel
theorem dJ2_indexOfCharUnsafe_4cfef_21 : decode cJ2_indexOfCharUnsafe_4cfef 21 = .ok (.ireturn, 1) := by decide +kernel
theorem dJ2_indexOfCharUnsafe_4cfef_22 : decode cJ2_indexOfCharUnsafe_4cfef 22 = .ok (.iinc 4 1, 3) := by decide +kernel
theorem dJ2_indexOfCharUnsafe_4cfef_25 : decode cJ2_indexOfCharUnsafe_4cfef 25 = .ok (.goto (-22), 3) := by decide +kernel
theorem dJ2_indexOfCharUnsafe_4cfef_28 : decode cJ2_indexOfCharUnsafe_4cfef 28 = .ok (.iconst (-1), 1) := by decide +kernel
theorem dJ2_indexOfCharUnsafe_4cfef_29 : decode cJ2_indexOfCharUnsafe_4cfef 29 = .ok (.ireturn, 1) := by decide +kernel
theorem dJ2_indexOfSupplementary_4cfef_0 : decode cJ2_indexOfSupplementary_4cfef 0 = .ok (.iload_n 1, 1) := by decide +kernel
theorem dJ2_indexOfSupplementary_4cfef_1 : decode cJ2_indexOfSupplementary_4cfef 1 = .ok (.invokestatic 164, 3) := by decide +kernel
theorem dJ2_indexOfSupplementary_4cfef_4 : decode cJ2_indexOfSupplementary_4cfef 4 = .ok (.ifCond .eq 65, 3) := by decide +kernel
theorem dJ2_indexOfSupplementary_4cfef_7 : decode cJ2_indexOfSupplementary_4cfef 7 = .ok (.iload_n 1, 1) := by decide +kernel
theorem dJ2_indexOfSupplementary_4cfef_8 : decode cJ2_indexOfSupplementary_4cfef 8 = .ok (.invokestatic 157, 3) := by decide +kernel
theorem dJ2_indexOfSupplementary_4cfef_11 : decode cJ2_indexOfSupplementary_4cfef 11 = .ok (.istore 4, 2) := by decide +kernel
theorem dJ2_indexOfSupplementary_4cfef_13 : decode cJ2_indexOfSupplementary_4cfef 13 = .ok (.iload_n 1, 1) := by decide +kernel
theorem dJ2_indexOfSupplementary_4cfef_14 : decode cJ2_indexOfSupplementary_4cfef 14 = .ok (.invokestatic 161, 3) := by decide +kernel
theorem dJ2_indexOfSupplementary_4cfef_17 : decode cJ2_indexOfSupplementary_4cfef 17 = .ok (.istore 5, 2) := by decide +kernel
theorem dJ2_indexOfSupplementary_4cfef_19 : decode cJ2_indexOfSupplementary_4cfef 19 = .ok (.iload_n 2, 1) := by decide +kernel
theorem dJ2_indexOfSupplementary_4cfef_20 : decode cJ2_indexOfSupplementary_4cfef 20 = .ok (.iload_n 3, 1) := by decide +kernel
theorem dJ2_indexOfSupplementary_4cfef_21 : decode cJ2_indexOfSupplementary_4cfef 21 = .ok (.aload_n 0, 1) := by decide +kernel
theorem dJ2_indexOfSupplementary_4cfef_22 : decode cJ2_indexOfSupplementary_4cfef 22 = .ok (.invokestatic 96, 3) := by decide +kernel
theorem dJ2_indexOfSupplementary_4cfef_25 : decode cJ2_indexOfSupplementary_4cfef 25 = .ok (.iload_n 2, 1) := by decide +kernel
theorem dJ2_indexOfSupplementary_4cfef_26 : decode cJ2_indexOfSupplementary_4cfef 26 = .ok (.istore 6, 2) := by decide +kernel
theorem dJ2_indexOfSupplementary_4cfef_28 : decode cJ2_indexOfSupplementary_4cfef 28 = .ok (.iload 6, 2) := by decide +kernel
theorem dJ2_indexOfSupplementary_4cfef_30 : decode cJ2_indexOfSupplementary_4cfef 30 = .ok (.iload_n 3, 1) := by decide +kernel
theorem dJ2_indexOfSupplementary_4cfef_31 : decode cJ2_indexOfSupplementary_4cfef 31 = .ok (.iconst 1, 1) := by decide +kernel
theorem dJ2_indexOfSupplementary_4cfef_32 : decode cJ2_indexOfSupplementary_4cfef 32 = .ok (.isub, 1) := by decide +kernel
theorem dJ2_indexOfSupplementary_4cfef_33 : decode cJ2_indexOfSupplementary_4cfef 33 = .ok (.if_icmp .ge 36, 3) := by decide +kernel
theorem dJ2_indexOfSupplementary_4cfef_36 : decode cJ2_indexOfSupplementary_4cfef 36 = .ok (.aload_n 0, 1) := by decide +kernel
theorem dJ2_indexOfSupplementary_4cfef_37 : decode cJ2_indexOfSupplementary_4cfef 37 = .ok (.iload 6, 2) := by decide +kernel
theorem dJ2_indexOfSupplementary_4cfef_39 : decode cJ2_indexOfSupplementary_4cfef 39 = .ok (.invokestatic 71, 3) := by decide +kernel
theorem dJ2_indexOfSupplementary_4cfef_42 : decode cJ2_indexOfSupplementary_4cfef 42 = .ok (.iload 4, 2) := by decide +kernel
theorem dJ2_indexOfSupplementary_4cfef_44 : decode cJ2_indexOfSupplementary_4cfef 44 = .ok (.if_icmp .ne 19, 3) := by decide +kernel
theorem dJ2_indexOfSupplementary_4cfef_47 : decode cJ2_indexOfSupplementary_4cfef 47 = .ok (.aload_n 0, 1) := by decide +kernel
theorem dJ2_indexOfSupplementary_4cfef_48 : decode cJ2_indexOfSupplementary_4cfef 48 = .ok (.iload 6, 2) := by decide +kernel
theorem dJ2_indexOfSupplementary_4cfef_50 : decode cJ2_indexOfSupplementary_4cfef 50 = .ok (.iconst 1, 1) := by decide +kernel
theorem dJ2_indexOfSupplementary_4cfef_51 : decode cJ2_indexOfSupplementary_4cfef 51 = .ok (.iadd, 1) := by decide +kernel
theorem dJ2_indexOfSupplementary_4cfef_52 : decode cJ2_indexOfSupplementary_4cfef 52 = .ok (.invokestatic 71, 3) := by decide +kernel
theorem dJ2_indexOfSupplementary_4cfef_55 : decode cJ2_indexOfSupplementary_4cfef 55 = .ok (.iload 5, 2) := by decide +kernel
theorem dJ2_indexOfSupplementary_4cfef_57 : decode cJ2_indexOfSupplementary_4cfef 57 = .ok (.if_icmp .ne 6, 3) := by decide +kernel
theorem dJ2_indexOfSupplementary_4cfef_60 : decode cJ2_indexOfSupplementary_4cfef 60 = .ok (.iload 6, 2) := by decide +kernel
theorem dJ2_indexOfSupplementary_4cfef_62 : decode cJ2_indexOfSupplementary_4cfef 62 = .ok (.ireturn, 1) := by decide +kernel
theorem dJ2_indexOfSupplementary_4cfef_63 : decode cJ2_indexOfSupplementary_4cfef 63 = .ok (.iinc 6 1, 3) := by decide +kernel
theorem dJ2_indexOfSupplementary_4cfef_66 : decode cJ2_indexOfSupplementary_4cfef 66 = .ok (.goto (-38), 3) := by decide +kernel
theorem dJ2_indexOfSupplementary_4cfef_69 : decode cJ2_indexOfSupplementary_4cfef 69 = .ok (.iconst (-1), 1) := by decide +kernel
theorem dJ2_indexOfSupplementary_4cfef_70 : decode cJ2_indexOfSupplementary_4cfef 70 = .ok (.ireturn, 1) := by decide +kernel
theorem dJ2_charAt_3b067_0 : decode cJ2_charAt_3b067 0 = .ok (.iload_n 1, 1) := by decide +kernel
theorem dJ2_charAt_3b067_1 : decode cJ2_charAt_3b067 1 = .ok (.aload_n 0, 1) := by decide +kernel
theorem dJ2_charAt_3b067_2 : decode cJ2_charAt_3b067 2 = .ok (.invokestatic 67, 3) := by decide +kernel
theorem dJ2_charAt_3b067_5 : decode cJ2_charAt_3b067 5 = .ok (.aload_n 0, 1) := by decide +kernel
theorem dJ2_charAt_3b067_6 : decode cJ2_charAt_3b067 6 = .ok (.iload_n 1, 1) := by decide +kernel
theorem dJ2_charAt_3b067_7 : decode cJ2_charAt_3b067 7 = .ok (.invokestatic 71, 3) := by decide +kernel
theorem dJ2_charAt_3b067_10 : decode cJ2_charAt_3b067 10 = .ok (.ireturn, 1) := by decide +kernel
theorem dJ2_checkIndex_2214a_0 : decode cJ2_checkIndex_2214a 0 = .ok (.iload_n 0, 1) := by decide +kernel
theorem dJ2_checkIndex_2214a_1 : decode cJ2_checkIndex_2214a 1 = .ok (.aload_n 1, 1) := by decide +kernel
theorem dJ2_checkIndex_2214a_2 : decode cJ2_checkIndex_2214a 2 = .ok (.invokestatic 48, 3) := by decide +kernel
theorem dJ2_checkIndex_2214a_5 : decode cJ2_checkIndex_2214a 5 = .ok (.invokestatic 414, 3) := by decide +kernel
theorem dJ2_checkIndex_2214a_8 : decode cJ2_checkIndex_2214a 8 = .ok (.return_, 1) := by decide +kernel
theorem dJ2_checkBoundsBeginEnd_d044e_0 : decode cJ2_checkBoundsBeginEnd_d044e 0 = .ok (.iload_n 0, 1) := by decide +kernel
theorem dJ2_checkBoundsBeginEnd_d044e_1 : decode cJ2_checkBoundsBeginEnd_d044e 1 = .ok (.iload_n 1, 1) := by decide +kernel
theorem dJ2_checkBoundsBeginEnd_d044e_2 : decode cJ2_checkBoundsBeginEnd_d044e 2 = .ok (.aload_n 2, 1) := by decide +kernel
theorem dJ2_checkBoundsBeginEnd_d044e_3 : decode cJ2_checkBoundsBeginEnd_d044e 3 = .ok (.invokestatic 48, 3) := by decide +kernel
theorem dJ2_checkBoundsBeginEnd_d044e_6 : decode cJ2_checkBoundsBeginEnd_d044e 6 = .ok (.invokestatic 241, 3) := by decide +kernel
theorem dJ2_checkBoundsBeginEnd_d044e_9 : decode cJ2_checkBoundsBeginEnd_d044e 9 = .ok (.return_, 1) := by decide +kernel
theorem dJ3_checkIndex_8e157_0 : decode cJ3_checkIndex_8e157 0 = .ok (.iload_n 0, 1) := by decide +kernel
theorem dJ3_checkIndex_8e157_1 : decode cJ3_checkIndex_8e157 1 = .ok (.ifCond .lt 8, 3) := by decide +kernel
theorem dJ3_checkIndex_8e157_4 : decode cJ3_checkIndex_8e157 4 = .ok (.iload_n 0, 1) := by decide +kernel
theorem dJ3_checkIndex_8e157_5 : decode cJ3_checkIndex_8e157 5 = .ok (.iload_n 1, 1) := by decide +kernel
theorem dJ3_checkIndex_8e157_6 : decode cJ3_checkIndex_8e157 6 = .ok (.if_icmp .lt 10, 3) := by decide +kernel
theorem dJ3_checkIndex_8e157_9 : decode cJ3_checkIndex_8e157 9 = .ok (.aload_n 2, 1) := by decide +kernel
theorem dJ3_checkIndex_8e157_10 : decode cJ3_checkIndex_8e157 10 = .ok (.iload_n 0, 1) := by decide +kernel
theorem dJ3_checkIndex_8e157_11 : decode cJ3_checkIndex_8e157 11 = .ok (.iload_n 1, 1) := by decide +kernel
theorem dJ3_checkIndex_8e157_12 : decode cJ3_checkIndex_8e157 12 = .ok (.invokestatic 95, 3) := by decide +kernel
theorem dJ3_checkIndex_8e157_15 : decode cJ3_checkIndex_8e157 15 = .ok (.athrow, 1) := by decide +kernel
theorem dJ3_checkIndex_8e157_16 : decode cJ3_checkIndex_8e157 16 = .ok (.iload_n 0, 1) := by decide +kernel
theorem dJ3_checkIndex_8e157_17 : decode cJ3_checkIndex_8e157 17 = .ok (.ireturn, 1) := by decide +kernel
theorem dJ3_checkFromToIndex_8c36e_0 : decode cJ3_checkFromToIndex_8c36e 0 = .ok (.iload_n 0, 1) := by decide +kernel
theorem dJ3_checkFromToIndex_8c36e_1 : decode cJ3_checkFromToIndex_8c36e 1 = .ok (.ifCond .lt 13, 3) := by decide +kernel
theorem dJ3_checkFromToIndex_8c36e_4 : decode cJ3_checkFromToIndex_8c36e 4 = .ok (.iload_n 0, 1) := by decide +kernel
theorem dJ3_checkFromToIndex_8c36e_5 : decode cJ3_checkFromToIndex_8c36e 5 = .ok (.iload_n 1, 1) := by decide +kernel
theorem dJ3_checkFromToIndex_8c36e_6 : decode cJ3_checkFromToIndex_8c36e 6 = .ok (.if_icmp .gt 8, 3) := by decide +kernel
theorem dJ3_checkFromToIndex_8c36e_9 : decode cJ3_checkFromToIndex_8c36e 9 = .ok (.iload_n 1, 1) := by decide +kernel
theorem dJ3_checkFromToIndex_8c36e_10 : decode cJ3_checkFromToIndex_8c36e 10 = .ok (.iload_n 2, 1) := by decide +kernel
theorem dJ3_checkFromToIndex_8c36e_11 : decode cJ3_checkFromToIndex_8c36e 11 = .ok (.if_icmp .le 11, 3) := by decide +kernel
theorem dJ3_checkFromToIndex_8c36e_14 : decode cJ3_checkFromToIndex_8c36e 14 = .ok (.aload_n 3, 1) := by decide +kernel
theorem dJ3_checkFromToIndex_8c36e_15 : decode cJ3_checkFromToIndex_8c36e 15 = .ok (.iload_n 0, 1) := by decide +kernel
theorem dJ3_checkFromToIndex_8c36e_16 : decode cJ3_checkFromToIndex_8c36e 16 = .ok (.iload_n 1, 1) := by decide +kernel
theorem dJ3_checkFromToIndex_8c36e_17 : decode cJ3_checkFromToIndex_8c36e 17 = .ok (.iload_n 2, 1) := by decide +kernel
theorem dJ3_checkFromToIndex_8c36e_18 : decode cJ3_checkFromToIndex_8c36e 18 = .ok (.invokestatic 99, 3) := by decide +kernel
theorem dJ3_checkFromToIndex_8c36e_21 : decode cJ3_checkFromToIndex_8c36e 21 = .ok (.athrow, 1) := by decide +kernel
theorem dJ3_checkFromToIndex_8c36e_22 : decode cJ3_checkFromToIndex_8c36e 22 = .ok (.iload_n 0, 1) := by decide +kernel
theorem dJ3_checkFromToIndex_8c36e_23 : decode cJ3_checkFromToIndex_8c36e 23 = .ok (.ireturn, 1) := by decide +kernel
theorem dL_law_0 : decode cL_law 0 = .ok (.new 7, 3) := by decide +kernel
theorem dL_law_3 : decode cL_law 3 = .ok (.dup, 1) := by decide +kernel
theorem dL_law_4 : decode cL_law 4 = .ok (.invokespecial 9, 3) := by decide +kernel
theorem dL_law_7 : decode cL_law 7 = .ok (.astore_n 1, 1) := by decide +kernel
theorem dL_law_8 : decode cL_law 8 = .ok (.new 10, 3) := by decide +kernel
theorem dL_law_11 : decode cL_law 11 = .ok (.dup, 1) := by decide +kernel
theorem dL_law_12 : decode cL_law 12 = .ok (.invokespecial 12, 3) := by decide +kernel
theorem dL_law_15 : decode cL_law 15 = .ok (.astore_n 2, 1) := by decide +kernel
theorem dL_law_16 : decode cL_law 16 = .ok (.iconst 0, 1) := by decide +kernel
theorem dL_law_17 : decode cL_law 17 = .ok (.istore_n 3, 1) := by decide +kernel
theorem dL_law_18 : decode cL_law 18 = .ok (.iload_n 3, 1) := by decide +kernel
theorem dL_law_19 : decode cL_law 19 = .ok (.aload_n 0, 1) := by decide +kernel
theorem dL_law_20 : decode cL_law 20 = .ok (.arraylength, 1) := by decide +kernel
theorem dL_law_21 : decode cL_law 21 = .ok (.bipush 6, 2) := by decide +kernel
theorem dL_law_23 : decode cL_law 23 = .ok (.isub, 1) := by decide +kernel
theorem dL_law_24 : decode cL_law 24 = .ok (.if_icmp .gt 1393, 3) := by decide +kernel
theorem dL_law_27 : decode cL_law 27 = .ok (.aload_n 0, 1) := by decide +kernel
theorem dL_law_28 : decode cL_law 28 = .ok (.iload_n 3, 1) := by decide +kernel
theorem dL_law_29 : decode cL_law 29 = .ok (.iaload, 1) := by decide +kernel
theorem dL_law_30 : decode cL_law 30 = .ok (.bipush 63, 2) := by decide +kernel
theorem dL_law_32 : decode cL_law 32 = .ok (.iand, 1) := by decide +kernel
theorem dL_law_33 : decode cL_law 33 = .ok (.tableswitch 1378 0 38 #[171, 224, 257, 300, 333, 366, 409, 432, 455, 488, 511, 534, 567, 600, 653, 686, 719, 742, 775, 788, 811, 854, 877, 890, 923, 946, 989, 1032, 1055, 1078, 1141, 1184, 1217, 1250, 1283, 1306, 1329, 1342, 1355], 171) := by decide +kernel
theorem dL_law_204 : decode cL_law 204 = .ok (.aload_n 1, 1) := by decide +kernel
theorem dL_law_205 : decode cL_law 205 = .ok (.aload_n 0, 1) := by decide +kernel
theorem dL_law_206 : decode cL_law 206 = .ok (.iload_n 3, 1) := by decide +kernel
theorem dL_law_207 : decode cL_law 207 = .ok (.iconst 1, 1) := by decide +kernel
theorem dL_law_208 : decode cL_law 208 = .ok (.iadd, 1) := by decide +kernel
theorem dL_law_209 : decode cL_law 209 = .ok (.iaload, 1) := by decide +kernel
theorem dL_law_210 : decode cL_law 210 = .ok (.aload_n 0, 1) := by decide +kernel
theorem dL_law_211 : decode cL_law 211 = .ok (.iload_n 3, 1) := by decide +kernel
theorem dL_law_212 : decode cL_law 212 = .ok (.iconst 2, 1) := by decide +kernel
theorem dL_law_213 : decode cL_law 213 = .ok (.iadd, 1) := by decide +kernel
theorem dL_law_214 : decode cL_law 214 = .ok (.iaload, 1) := by decide +kernel
theorem dL_law_215 : decode cL_law 215 = .ok (.aload_n 0, 1) := by decide +kernel
theorem dL_law_216 : decode cL_law 216 = .ok (.iload_n 3, 1) := by decide +kernel
theorem dL_law_217 : decode cL_law 217 = .ok (.iconst 3, 1) := by decide +kernel
theorem dL_law_218 : decode cL_law 218 = .ok (.iadd, 1) := by decide +kernel
theorem dL_law_219 : decode cL_law 219 = .ok (.iaload, 1) := by decide +kernel
theorem dL_law_220 : decode cL_law 220 = .ok (.aload_n 0, 1) := by decide +kernel
theorem dL_law_221 : decode cL_law 221 = .ok (.iload_n 3, 1) := by decide +kernel
theorem dL_law_222 : decode cL_law 222 = .ok (.iconst 4, 1) := by decide +kernel
theorem dL_law_223 : decode cL_law 223 = .ok (.iadd, 1) := by decide +kernel
theorem dL_law_224 : decode cL_law 224 = .ok (.iaload, 1) := by decide +kernel
theorem dL_law_225 : decode cL_law 225 = .ok (.invokevirtual 13, 3) := by decide +kernel
theorem dL_law_228 : decode cL_law 228 = .ok (.aload_n 2, 1) := by decide +kernel
theorem dL_law_229 : decode cL_law 229 = .ok (.aload_n 0, 1) := by decide +kernel
theorem dL_law_230 : decode cL_law 230 = .ok (.iload_n 3, 1) := by decide +kernel
theorem dL_law_231 : decode cL_law 231 = .ok (.iconst 1, 1) := by decide +kernel
theorem dL_law_232 : decode cL_law 232 = .ok (.iadd, 1) := by decide +kernel
theorem dL_law_233 : decode cL_law 233 = .ok (.iaload, 1) := by decide +kernel
theorem dL_law_234 : decode cL_law 234 = .ok (.aload_n 0, 1) := by decide +kernel
theorem dL_law_235 : decode cL_law 235 = .ok (.iload_n 3, 1) := by decide +kernel
theorem dL_law_236 : decode cL_law 236 = .ok (.iconst 2, 1) := by decide +kernel
theorem dL_law_237 : decode cL_law 237 = .ok (.iadd, 1) := by decide +kernel
theorem dL_law_238 : decode cL_law 238 = .ok (.iaload, 1) := by decide +kernel
theorem dL_law_239 : decode cL_law 239 = .ok (.aload_n 0, 1) := by decide +kernel
theorem dL_law_240 : decode cL_law 240 = .ok (.iload_n 3, 1) := by decide +kernel
theorem dL_law_241 : decode cL_law 241 = .ok (.iconst 3, 1) := by decide +kernel
theorem dL_law_242 : decode cL_law 242 = .ok (.iadd, 1) := by decide +kernel
theorem dL_law_243 : decode cL_law 243 = .ok (.iaload, 1) := by decide +kernel
theorem dL_law_244 : decode cL_law 244 = .ok (.aload_n 0, 1) := by decide +kernel
theorem dL_law_245 : decode cL_law 245 = .ok (.iload_n 3, 1) := by decide +kernel
theorem dL_law_246 : decode cL_law 246 = .ok (.iconst 4, 1) := by decide +kernel
theorem dL_law_247 : decode cL_law 247 = .ok (.iadd, 1) := by decide +kernel
theorem dL_law_248 : decode cL_law 248 = .ok (.iaload, 1) := by decide +kernel
theorem dL_law_249 : decode cL_law 249 = .ok (.invokevirtual 17, 3) := by decide +kernel
theorem dL_law_252 : decode cL_law 252 = .ok (.if_icmp .eq 1159, 3) := by decide +kernel
theorem dL_law_255 : decode cL_law 255 = .ok (.iconst 0, 1) := by decide +kernel
theorem dL_law_256 : decode cL_law 256 = .ok (.ireturn, 1) := by decide +kernel
theorem dL_law_257 : decode cL_law 257 = .ok (.aload_n 1, 1) := by decide +kernel
theorem dL_law_258 : decode cL_law 258 = .ok (.aload_n 0, 1) := by decide +kernel
theorem dL_law_259 : decode cL_law 259 = .ok (.iload_n 3, 1) := by decide +kernel
theorem dL_law_260 : decode cL_law 260 = .ok (.iconst 1, 1) := by decide +kernel
theorem dL_law_261 : decode cL_law 261 = .ok (.iadd, 1) := by decide +kernel
theorem dL_law_262 : decode cL_law 262 = .ok (.iaload, 1) := by decide +kernel
theorem dL_law_263 : decode cL_law 263 = .ok (.aload_n 0, 1) := by decide +kernel
theorem dL_law_264 : decode cL_law 264 = .ok (.iload_n 3, 1) := by decide +kernel
theorem dL_law_265 : decode cL_law 265 = .ok (.iconst 2, 1) := by decide +kernel
theorem dL_law_266 : decode cL_law 266 = .ok (.iadd, 1) := by decide +kernel
theorem dL_law_267 : decode cL_law 267 = .ok (.iaload, 1) := by decide +kernel
theorem dL_law_268 : decode cL_law 268 = .ok (.invokevirtual 18, 3) := by decide +kernel
theorem dL_law_271 : decode cL_law 271 = .ok (.aload_n 2, 1) := by decide +kernel
theorem dL_law_272 : decode cL_law 272 = .ok (.aload_n 0, 1) := by decide +kernel
theorem dL_law_273 : decode cL_law 273 = .ok (.iload_n 3, 1) := by decide +kernel
theorem dL_law_274 : decode cL_law 274 = .ok (.iconst 1, 1) := by decide +kernel
theorem dL_law_275 : decode cL_law 275 = .ok (.iadd, 1) := by decide +kernel
theorem dL_law_276 : decode cL_law 276 = .ok (.iaload, 1) := by decide +kernel
theorem dL_law_277 : decode cL_law 277 = .ok (.aload_n 0, 1) := by decide +kernel
theorem dL_law_278 : decode cL_law 278 = .ok (.iload_n 3, 1) := by decide +kernel
theorem dL_law_279 : decode cL_law 279 = .ok (.iconst 2, 1) := by decide +kernel
theorem dL_law_280 : decode cL_law 280 = .ok (.iadd, 1) := by decide +kernel
theorem dL_law_281 : decode cL_law 281 = .ok (.iaload, 1) := by decide +kernel
theorem dL_law_282 : decode cL_law 282 = .ok (.invokevirtual 22, 3) := by decide +kernel
theorem dL_law_285 : decode cL_law 285 = .ok (.if_icmp .eq 1126, 3) := by decide +kernel
theorem dL_law_288 : decode cL_law 288 = .ok (.iconst 0, 1) := by decide +kernel
theorem dL_law_289 : decode cL_law 289 = .ok (.ireturn, 1) := by decide +kernel
theorem dL_law_290 : decode cL_law 290 = .ok (.aload_n 1, 1) := by decide +kernel
theorem dL_law_291 : decode cL_law 291 = .ok (.aload_n 0, 1) := by decide +kernel
theorem dL_law_292 : decode cL_law 292 = .ok (.iload_n 3, 1) := by decide +kernel
theorem dL_law_293 : decode cL_law 293 = .ok (.iconst 1, 1) := by decide +kernel
theorem dL_law_294 : decode cL_law 294 = .ok (.iadd, 1) := by decide +kernel
theorem dL_law_295 : decode cL_law 295 = .ok (.iaload, 1) := by decide +kernel
theorem dL_law_296 : decode cL_law 296 = .ok (.aload_n 0, 1) := by decide +kernel
theorem dL_law_297 : decode cL_law 297 = .ok (.iload_n 3, 1) := by decide +kernel
theorem dL_law_298 : decode cL_law 298 = .ok (.iconst 2, 1) := by decide +kernel
theorem dL_law_299 : decode cL_law 299 = .ok (.iadd, 1) := by decide +kernel
theorem dL_law_300 : decode cL_law 300 = .ok (.iaload, 1) := by decide +kernel
theorem dL_law_301 : decode cL_law 301 = .ok (.aload_n 0, 1) := by decide +kernel
theorem dL_law_302 : decode cL_law 302 = .ok (.iload_n 3, 1) := by decide +kernel
theorem dL_law_303 : decode cL_law 303 = .ok (.iconst 3, 1) := by decide +kernel
theorem dL_law_304 : decode cL_law 304 = .ok (.iadd, 1) := by decide +kernel
theorem dL_law_305 : decode cL_law 305 = .ok (.iaload, 1) := by decide +kernel
theorem dL_law_306 : decode cL_law 306 = .ok (.invokevirtual 23, 3) := by decide +kernel
theorem dL_law_309 : decode cL_law 309 = .ok (.aload_n 2, 1) := by decide +kernel
theorem dL_law_310 : decode cL_law 310 = .ok (.aload_n 0, 1) := by decide +kernel
theorem dL_law_311 : decode cL_law 311 = .ok (.iload_n 3, 1) := by decide +kernel
theorem dL_law_312 : decode cL_law 312 = .ok (.iconst 1, 1) := by decide +kernel
theorem dL_law_313 : decode cL_law 313 = .ok (.iadd, 1) := by decide +kernel
theorem dL_law_314 : decode cL_law 314 = .ok (.iaload, 1) := by decide +kernel
theorem dL_law_315 : decode cL_law 315 = .ok (.aload_n 0, 1) := by decide +kernel
theorem dL_law_316 : decode cL_law 316 = .ok (.iload_n 3, 1) := by decide +kernel
theorem dL_law_317 : decode cL_law 317 = .ok (.iconst 2, 1) := by decide +kernel
theorem dL_law_318 : decode cL_law 318 = .ok (.iadd, 1) := by decide +kernel
theorem dL_law_319 : decode cL_law 319 = .ok (.iaload, 1) := by decide +kernel
theorem dL_law_320 : decode cL_law 320 = .ok (.aload_n 0, 1) := by decide +kernel
theorem dL_law_321 : decode cL_law 321 = .ok (.iload_n 3, 1) := by decide +kernel
theorem dL_law_322 : decode cL_law 322 = .ok (.iconst 3, 1) := by decide +kernel
theorem dL_law_323 : decode cL_law 323 = .ok (.iadd, 1) := by decide +kernel
theorem dL_law_324 : decode cL_law 324 = .ok (.iaload, 1) := by decide +kernel
theorem dL_law_325 : decode cL_law 325 = .ok (.invokevirtual 27, 3) := by decide +kernel
theorem dL_law_328 : decode cL_law 328 = .ok (.if_icmp .eq 1083, 3) := by decide +kernel
theorem dL_law_331 : decode cL_law 331 = .ok (.iconst 0, 1) := by decide +kernel
theorem dL_law_332 : decode cL_law 332 = .ok (.ireturn, 1) := by decide +kernel
theorem dL_law_333 : decode cL_law 333 = .ok (.aload_n 1, 1) := by decide +kernel
theorem dL_law_334 : decode cL_law 334 = .ok (.aload_n 0, 1) := by decide +kernel
theorem dL_law_335 : decode cL_law 335 = .ok (.iload_n 3, 1) := by decide +kernel
theorem dL_law_336 : decode cL_law 336 = .ok (.iconst 1, 1) := by decide +kernel
theorem dL_law_337 : decode cL_law 337 = .ok (.iadd, 1) := by decide +kernel
theorem dL_law_338 : decode cL_law 338 = .ok (.iaload, 1) := by decide +kernel
theorem dL_law_339 : decode cL_law 339 = .ok (.aload_n 0, 1) := by decide +kernel
theorem dL_law_340 : decode cL_law 340 = .ok (.iload_n 3, 1) := by decide +kernel
theorem dL_law_341 : decode cL_law 341 = .ok (.iconst 2, 1) := by decide +kernel
theorem dL_law_342 : decode cL_law 342 = .ok (.iadd, 1) := by decide +kernel
theorem dL_law_343 : decode cL_law 343 = .ok (.iaload, 1) := by decide +kernel
theorem dL_law_344 : decode cL_law 344 = .ok (.invokevirtual 28, 3) := by decide +kernel
theorem dL_law_347 : decode cL_law 347 = .ok (.aload_n 2, 1) := by decide +kernel
theorem dL_law_348 : decode cL_law 348 = .ok (.aload_n 0, 1) := by decide +kernel
theorem dL_law_349 : decode cL_law 349 = .ok (.iload_n 3, 1) := by decide +kernel
theorem dL_law_350 : decode cL_law 350 = .ok (.iconst 1, 1) := by decide +kernel
theorem dL_law_351 : decode cL_law 351 = .ok (.iadd, 1) := by decide +kernel
theorem dL_law_352 : decode cL_law 352 = .ok (.iaload, 1) := by decide +kernel
theorem dL_law_353 : decode cL_law 353 = .ok (.aload_n 0, 1) := by decide +kernel
theorem dL_law_354 : decode cL_law 354 = .ok (.iload_n 3, 1) := by decide +kernel
theorem dL_law_355 : decode cL_law 355 = .ok (.iconst 2, 1) := by decide +kernel
theorem dL_law_356 : decode cL_law 356 = .ok (.iadd, 1) := by decide +kernel
theorem dL_law_357 : decode cL_law 357 = .ok (.iaload, 1) := by decide +kernel
theorem dL_law_358 : decode cL_law 358 = .ok (.invokevirtual 31, 3) := by decide +kernel
theorem dL_law_361 : decode cL_law 361 = .ok (.if_icmp .eq 1050, 3) := by decide +kernel
theorem dL_law_364 : decode cL_law 364 = .ok (.iconst 0, 1) := by decide +kernel
theorem dL_law_365 : decode cL_law 365 = .ok (.ireturn, 1) := by decide +kernel
theorem dL_law_366 : decode cL_law 366 = .ok (.aload_n 1, 1) := by decide +kernel
theorem dL_law_367 : decode cL_law 367 = .ok (.aload_n 0, 1) := by decide +kernel
theorem dL_law_368 : decode cL_law 368 = .ok (.iload_n 3, 1) := by decide +kernel
theorem dL_law_369 : decode cL_law 369 = .ok (.iconst 1, 1) := by decide +kernel
theorem dL_law_370 : decode cL_law 370 = .ok (.iadd, 1) := by decide +kernel
theorem dL_law_371 : decode cL_law 371 = .ok (.iaload, 1) := by decide +kernel
theorem dL_law_372 : decode cL_law 372 = .ok (.aload_n 0, 1) := by decide +kernel
theorem dL_law_373 : decode cL_law 373 = .ok (.iload_n 3, 1) := by decide +kernel
theorem dL_law_374 : decode cL_law 374 = .ok (.iconst 2, 1) := by decide +kernel
theorem dL_law_375 : decode cL_law 375 = .ok (.iadd, 1) := by decide +kernel
theorem dL_law_376 : decode cL_law 376 = .ok (.iaload, 1) := by decide +kernel
theorem dL_law_377 : decode cL_law 377 = .ok (.invokevirtual 32, 3) := by decide +kernel
theorem dL_law_380 : decode cL_law 380 = .ok (.aload_n 2, 1) := by decide +kernel
theorem dL_law_381 : decode cL_law 381 = .ok (.aload_n 0, 1) := by decide +kernel
theorem dL_law_382 : decode cL_law 382 = .ok (.iload_n 3, 1) := by decide +kernel
theorem dL_law_383 : decode cL_law 383 = .ok (.iconst 1, 1) := by decide +kernel
theorem dL_law_384 : decode cL_law 384 = .ok (.iadd, 1) := by decide +kernel
theorem dL_law_385 : decode cL_law 385 = .ok (.iaload, 1) := by decide +kernel
theorem dL_law_386 : decode cL_law 386 = .ok (.aload_n 0, 1) := by decide +kernel
theorem dL_law_387 : decode cL_law 387 = .ok (.iload_n 3, 1) := by decide +kernel
theorem dL_law_388 : decode cL_law 388 = .ok (.iconst 2, 1) := by decide +kernel
theorem dL_law_389 : decode cL_law 389 = .ok (.iadd, 1) := by decide +kernel
theorem dL_law_390 : decode cL_law 390 = .ok (.iaload, 1) := by decide +kernel
theorem dL_law_391 : decode cL_law 391 = .ok (.invokevirtual 35, 3) := by decide +kernel
theorem dL_law_394 : decode cL_law 394 = .ok (.if_icmp .eq 1017, 3) := by decide +kernel
theorem dL_law_397 : decode cL_law 397 = .ok (.iconst 0, 1) := by decide +kernel
theorem dL_law_398 : decode cL_law 398 = .ok (.ireturn, 1) := by decide +kernel
theorem dL_law_399 : decode cL_law 399 = .ok (.aload_n 1, 1) := by decide +kernel
theorem dL_law_400 : decode cL_law 400 = .ok (.aload_n 0, 1) := by decide +kernel
theorem dL_law_401 : decode cL_law 401 = .ok (.iload_n 3, 1) := by decide +kernel
theorem dL_law_402 : decode cL_law 402 = .ok (.iconst 1, 1) := by decide +kernel
theorem dL_law_403 : decode cL_law 403 = .ok (.iadd, 1) := by decide +kernel
theorem dL_law_404 : decode cL_law 404 = .ok (.iaload, 1) := by decide +kernel
theorem dL_law_405 : decode cL_law 405 = .ok (.aload_n 0, 1) := by decide +kernel
theorem dL_law_406 : decode cL_law 406 = .ok (.iload_n 3, 1) := by decide +kernel
theorem dL_law_407 : decode cL_law 407 = .ok (.iconst 2, 1) := by decide +kernel
theorem dL_law_408 : decode cL_law 408 = .ok (.iadd, 1) := by decide +kernel
theorem dL_law_409 : decode cL_law 409 = .ok (.iaload, 1) := by decide +kernel
theorem dL_law_410 : decode cL_law 410 = .ok (.aload_n 0, 1) := by decide +kernel
theorem dL_law_411 : decode cL_law 411 = .ok (.iload_n 3, 1) := by decide +kernel
theorem dL_law_412 : decode cL_law 412 = .ok (.iconst 3, 1) := by decide +kernel
theorem dL_law_413 : decode cL_law 413 = .ok (.iadd, 1) := by decide +kernel
theorem dL_law_414 : decode cL_law 414 = .ok (.iaload, 1) := by decide +kernel
theorem dL_law_415 : decode cL_law 415 = .ok (.invokevirtual 36, 3) := by decide +kernel
theorem dL_law_418 : decode cL_law 418 = .ok (.aload_n 2, 1) := by decide +kernel
theorem dL_law_419 : decode cL_law 419 = .ok (.aload_n 0, 1) := by decide +kernel
theorem dL_law_420 : decode cL_law 420 = .ok (.iload_n 3, 1) := by decide +kernel
theorem dL_law_421 : decode cL_law 421 = .ok (.iconst 1, 1) := by decide +kernel
theorem dL_law_422 : decode cL_law 422 = .ok (.iadd, 1) := by decide +kernel
theorem dL_law_423 : decode cL_law 423 = .ok (.iaload, 1) := by decide +kernel
theorem dL_law_424 : decode cL_law 424 = .ok (.aload_n 0, 1) := by decide +kernel
theorem dL_law_425 : decode cL_law 425 = .ok (.iload_n 3, 1) := by decide +kernel
theorem dL_law_426 : decode cL_law 426 = .ok (.iconst 2, 1) := by decide +kernel
theorem dL_law_427 : decode cL_law 427 = .ok (.iadd, 1) := by decide +kernel
theorem dL_law_428 : decode cL_law 428 = .ok (.iaload, 1) := by decide +kernel
theorem dL_law_429 : decode cL_law 429 = .ok (.aload_n 0, 1) := by decide +kernel
theorem dL_law_430 : decode cL_law 430 = .ok (.iload_n 3, 1) := by decide +kernel
theorem dL_law_431 : decode cL_law 431 = .ok (.iconst 3, 1) := by decide +kernel
theorem dL_law_432 : decode cL_law 432 = .ok (.iadd, 1) := by decide +kernel
theorem dL_law_433 : decode cL_law 433 = .ok (.iaload, 1) := by decide +kernel
theorem dL_law_434 : decode cL_law 434 = .ok (.invokevirtual 39, 3) := by decide +kernel
theorem dL_law_437 : decode cL_law 437 = .ok (.if_icmp .eq 974, 3) := by decide +kernel
theorem dL_law_440 : decode cL_law 440 = .ok (.iconst 0, 1) := by decide +kernel
theorem dL_law_441 : decode cL_law 441 = .ok (.ireturn, 1) := by decide +kernel
theorem dL_law_442 : decode cL_law 442 = .ok (.aload_n 1, 1) := by decide +kernel
theorem dL_law_443 : decode cL_law 443 = .ok (.aload_n 0, 1) := by decide +kernel
theorem dL_law_444 : decode cL_law 444 = .ok (.iload_n 3, 1) := by decide +kernel
theorem dL_law_445 : decode cL_law 445 = .ok (.iconst 1, 1) := by decide +kernel
theorem dL_law_446 : decode cL_law 446 = .ok (.iadd, 1) := by decide +kernel
theorem dL_law_447 : decode cL_law 447 = .ok (.iaload, 1) := by decide +kernel
theorem dL_law_448 : decode cL_law 448 = .ok (.invokevirtual 40, 3) := by decide +kernel
theorem dL_law_451 : decode cL_law 451 = .ok (.aload_n 2, 1) := by decide +kernel
theorem dL_law_452 : decode cL_law 452 = .ok (.aload_n 0, 1) := by decide +kernel
theorem dL_law_453 : decode cL_law 453 = .ok (.iload_n 3, 1) := by decide +kernel
theorem dL_law_454 : decode cL_law 454 = .ok (.iconst 1, 1) := by decide +kernel
theorem dL_law_455 : decode cL_law 455 = .ok (.iadd, 1) := by decide +kernel
theorem dL_law_456 : decode cL_law 456 = .ok (.iaload, 1) := by decide +kernel
theorem dL_law_457 : decode cL_law 457 = .ok (.invokevirtual 44, 3) := by decide +kernel
theorem dL_law_460 : decode cL_law 460 = .ok (.if_icmp .eq 951, 3) := by decide +kernel
theorem dL_law_463 : decode cL_law 463 = .ok (.iconst 0, 1) := by decide +kernel
theorem dL_law_464 : decode cL_law 464 = .ok (.ireturn, 1) := by decide +kernel
theorem dL_law_465 : decode cL_law 465 = .ok (.aload_n 1, 1) := by decide +kernel
theorem dL_law_466 : decode cL_law 466 = .ok (.aload_n 0, 1) := by decide +kernel
theorem dL_law_467 : decode cL_law 467 = .ok (.iload_n 3, 1) := by decide +kernel
theorem dL_law_468 : decode cL_law 468 = .ok (.iconst 1, 1) := by decide +kernel
theorem dL_law_469 : decode cL_law 469 = .ok (.iadd, 1) := by decide +kernel
theorem dL_law_470 : decode cL_law 470 = .ok (.iaload, 1) := by decide +kernel
theorem dL_law_471 : decode cL_law 471 = .ok (.invokevirtual 45, 3) := by decide +kernel
theorem dL_law_474 : decode cL_law 474 = .ok (.aload_n 2, 1) := by decide +kernel
theorem dL_law_475 : decode cL_law 475 = .ok (.aload_n 0, 1) := by decide +kernel
theorem dL_law_476 : decode cL_law 476 = .ok (.iload_n 3, 1) := by decide +kernel
theorem dL_law_477 : decode cL_law 477 = .ok (.iconst 1, 1) := by decide +kernel
theorem dL_law_478 : decode cL_law 478 = .ok (.iadd, 1) := by decide +kernel
theorem dL_law_479 : decode cL_law 479 = .ok (.iaload, 1) := by decide +kernel
theorem dL_law_480 : decode cL_law 480 = .ok (.invokevirtual 48, 3) := by decide +kernel
theorem dL_law_483 : decode cL_law 483 = .ok (.if_icmp .eq 928, 3) := by decide +kernel
theorem dL_law_486 : decode cL_law 486 = .ok (.iconst 0, 1) := by decide +kernel
theorem dL_law_487 : decode cL_law 487 = .ok (.ireturn, 1) := by decide +kernel
theorem dL_law_488 : decode cL_law 488 = .ok (.aload_n 1, 1) := by decide +kernel
theorem dL_law_489 : decode cL_law 489 = .ok (.aload_n 0, 1) := by decide +kernel
theorem dL_law_490 : decode cL_law 490 = .ok (.iload_n 3, 1) := by decide +kernel
theorem dL_law_491 : decode cL_law 491 = .ok (.iconst 1, 1) := by decide +kernel
theorem dL_law_492 : decode cL_law 492 = .ok (.iadd, 1) := by decide +kernel
theorem dL_law_493 : decode cL_law 493 = .ok (.iaload, 1) := by decide +kernel
theorem dL_law_494 : decode cL_law 494 = .ok (.aload_n 0, 1) := by decide +kernel
theorem dL_law_495 : decode cL_law 495 = .ok (.iload_n 3, 1) := by decide +kernel
theorem dL_law_496 : decode cL_law 496 = .ok (.iconst 2, 1) := by decide +kernel
theorem dL_law_497 : decode cL_law 497 = .ok (.iadd, 1) := by decide +kernel
theorem dL_law_498 : decode cL_law 498 = .ok (.iaload, 1) := by decide +kernel
theorem dL_law_499 : decode cL_law 499 = .ok (.invokevirtual 49, 3) := by decide +kernel
theorem dL_law_502 : decode cL_law 502 = .ok (.aload_n 2, 1) := by decide +kernel
theorem dL_law_503 : decode cL_law 503 = .ok (.aload_n 0, 1) := by decide +kernel
theorem dL_law_504 : decode cL_law 504 = .ok (.iload_n 3, 1) := by decide +kernel
theorem dL_law_505 : decode cL_law 505 = .ok (.iconst 1, 1) := by decide +kernel
theorem dL_law_506 : decode cL_law 506 = .ok (.iadd, 1) := by decide +kernel
theorem dL_law_507 : decode cL_law 507 = .ok (.iaload, 1) := by decide +kernel
theorem dL_law_508 : decode cL_law 508 = .ok (.aload_n 0, 1) := by decide +kernel
theorem dL_law_509 : decode cL_law 509 = .ok (.iload_n 3, 1) := by decide +kernel
theorem dL_law_510 : decode cL_law 510 = .ok (.iconst 2, 1) := by decide +kernel
theorem dL_law_511 : decode cL_law 511 = .ok (.iadd, 1) := by decide +kernel
theorem dL_law_512 : decode cL_law 512 = .ok (.iaload, 1) := by decide +kernel
theorem dL_law_513 : decode cL_law 513 = .ok (.invokevirtual 52, 3) := by decide +kernel
theorem dL_law_516 : decode cL_law 516 = .ok (.if_icmp .eq 895, 3) := by decide +kernel
theorem dL_law_519 : decode cL_law 519 = .ok (.iconst 0, 1) := by decide +kernel
theorem dL_law_520 : decode cL_law 520 = .ok (.ireturn, 1) := by decide +kernel
theorem dL_law_521 : decode cL_law 521 = .ok (.aload_n 1, 1) := by decide +kernel
theorem dL_law_522 : decode cL_law 522 = .ok (.aload_n 0, 1) := by decide +kernel
theorem dL_law_523 : decode cL_law 523 = .ok (.iload_n 3, 1) := by decide +kernel
theorem dL_law_524 : decode cL_law 524 = .ok (.iconst 1, 1) := by decide +kernel
theorem dL_law_525 : decode cL_law 525 = .ok (.iadd, 1) := by decide +kernel
theorem dL_law_526 : decode cL_law 526 = .ok (.iaload, 1) := by decide +kernel
theorem dL_law_527 : decode cL_law 527 = .ok (.invokevirtual 53, 3) := by decide +kernel
theorem dL_law_530 : decode cL_law 530 = .ok (.aload_n 2, 1) := by decide +kernel
theorem dL_law_531 : decode cL_law 531 = .ok (.aload_n 0, 1) := by decide +kernel
theorem dL_law_532 : decode cL_law 532 = .ok (.iload_n 3, 1) := by decide +kernel
theorem dL_law_533 : decode cL_law 533 = .ok (.iconst 1, 1) := by decide +kernel
theorem dL_law_534 : decode cL_law 534 = .ok (.iadd, 1) := by decide +kernel
theorem dL_law_535 : decode cL_law 535 = .ok (.iaload, 1) := by decide +kernel
theorem dL_law_536 : decode cL_law 536 = .ok (.invokevirtual 56, 3) := by decide +kernel
theorem dL_law_539 : decode cL_law 539 = .ok (.if_icmp .eq 872, 3) := by decide +kernel
theorem dL_law_542 : decode cL_law 542 = .ok (.iconst 0, 1) := by decide +kernel
theorem dL_law_543 : decode cL_law 543 = .ok (.ireturn, 1) := by decide +kernel
theorem dL_law_544 : decode cL_law 544 = .ok (.aload_n 1, 1) := by decide +kernel
theorem dL_law_545 : decode cL_law 545 = .ok (.aload_n 0, 1) := by decide +kernel
theorem dL_law_546 : decode cL_law 546 = .ok (.iload_n 3, 1) := by decide +kernel
theorem dL_law_547 : decode cL_law 547 = .ok (.iconst 1, 1) := by decide +kernel
theorem dL_law_548 : decode cL_law 548 = .ok (.iadd, 1) := by decide +kernel
theorem dL_law_549 : decode cL_law 549 = .ok (.iaload, 1) := by decide +kernel
theorem dL_law_550 : decode cL_law 550 = .ok (.invokevirtual 57, 3) := by decide +kernel
theorem dL_law_553 : decode cL_law 553 = .ok (.aload_n 2, 1) := by decide +kernel
theorem dL_law_554 : decode cL_law 554 = .ok (.aload_n 0, 1) := by decide +kernel
theorem dL_law_555 : decode cL_law 555 = .ok (.iload_n 3, 1) := by decide +kernel
theorem dL_law_556 : decode cL_law 556 = .ok (.iconst 1, 1) := by decide +kernel
theorem dL_law_557 : decode cL_law 557 = .ok (.iadd, 1) := by decide +kernel
theorem dL_law_558 : decode cL_law 558 = .ok (.iaload, 1) := by decide +kernel
theorem dL_law_559 : decode cL_law 559 = .ok (.invokevirtual 60, 3) := by decide +kernel
theorem dL_law_562 : decode cL_law 562 = .ok (.if_icmp .eq 849, 3) := by decide +kernel
theorem dL_law_565 : decode cL_law 565 = .ok (.iconst 0, 1) := by decide +kernel
theorem dL_law_566 : decode cL_law 566 = .ok (.ireturn, 1) := by decide +kernel
theorem dL_law_567 : decode cL_law 567 = .ok (.aload_n 1, 1) := by decide +kernel
theorem dL_law_568 : decode cL_law 568 = .ok (.aload_n 0, 1) := by decide +kernel
theorem dL_law_569 : decode cL_law 569 = .ok (.iload_n 3, 1) := by decide +kernel
theorem dL_law_570 : decode cL_law 570 = .ok (.iconst 1, 1) := by decide +kernel
theorem dL_law_571 : decode cL_law 571 = .ok (.iadd, 1) := by decide +kernel
theorem dL_law_572 : decode cL_law 572 = .ok (.iaload, 1) := by decide +kernel
theorem dL_law_573 : decode cL_law 573 = .ok (.aload_n 0, 1) := by decide +kernel
theorem dL_law_574 : decode cL_law 574 = .ok (.iload_n 3, 1) := by decide +kernel
theorem dL_law_575 : decode cL_law 575 = .ok (.iconst 2, 1) := by decide +kernel
theorem dL_law_576 : decode cL_law 576 = .ok (.iadd, 1) := by decide +kernel
theorem dL_law_577 : decode cL_law 577 = .ok (.iaload, 1) := by decide +kernel
theorem dL_law_578 : decode cL_law 578 = .ok (.invokevirtual 61, 3) := by decide +kernel
theorem dL_law_581 : decode cL_law 581 = .ok (.aload_n 2, 1) := by decide +kernel
theorem dL_law_582 : decode cL_law 582 = .ok (.aload_n 0, 1) := by decide +kernel
theorem dL_law_583 : decode cL_law 583 = .ok (.iload_n 3, 1) := by decide +kernel
theorem dL_law_584 : decode cL_law 584 = .ok (.iconst 1, 1) := by decide +kernel
theorem dL_law_585 : decode cL_law 585 = .ok (.iadd, 1) := by decide +kernel
theorem dL_law_586 : decode cL_law 586 = .ok (.iaload, 1) := by decide +kernel
theorem dL_law_587 : decode cL_law 587 = .ok (.aload_n 0, 1) := by decide +kernel
theorem dL_law_588 : decode cL_law 588 = .ok (.iload_n 3, 1) := by decide +kernel
theorem dL_law_589 : decode cL_law 589 = .ok (.iconst 2, 1) := by decide +kernel
theorem dL_law_590 : decode cL_law 590 = .ok (.iadd, 1) := by decide +kernel
theorem dL_law_591 : decode cL_law 591 = .ok (.iaload, 1) := by decide +kernel
theorem dL_law_592 : decode cL_law 592 = .ok (.invokevirtual 64, 3) := by decide +kernel
theorem dL_law_595 : decode cL_law 595 = .ok (.if_icmp .eq 816, 3) := by decide +kernel
theorem dL_law_598 : decode cL_law 598 = .ok (.iconst 0, 1) := by decide +kernel
theorem dL_law_599 : decode cL_law 599 = .ok (.ireturn, 1) := by decide +kernel
theorem dL_law_600 : decode cL_law 600 = .ok (.aload_n 1, 1) := by decide +kernel
theorem dL_law_601 : decode cL_law 601 = .ok (.aload_n 0, 1) := by decide +kernel
theorem dL_law_602 : decode cL_law 602 = .ok (.iload_n 3, 1) := by decide +kernel
theorem dL_law_603 : decode cL_law 603 = .ok (.iconst 1, 1) := by decide +kernel
theorem dL_law_604 : decode cL_law 604 = .ok (.iadd, 1) := by decide +kernel
theorem dL_law_605 : decode cL_law 605 = .ok (.iaload, 1) := by decide +kernel
theorem dL_law_606 : decode cL_law 606 = .ok (.aload_n 0, 1) := by decide +kernel
theorem dL_law_607 : decode cL_law 607 = .ok (.iload_n 3, 1) := by decide +kernel
theorem dL_law_608 : decode cL_law 608 = .ok (.iconst 2, 1) := by decide +kernel
theorem dL_law_609 : decode cL_law 609 = .ok (.iadd, 1) := by decide +kernel
theorem dL_law_610 : decode cL_law 610 = .ok (.iaload, 1) := by decide +kernel
theorem dL_law_611 : decode cL_law 611 = .ok (.invokevirtual 65, 3) := by decide +kernel
theorem dL_law_614 : decode cL_law 614 = .ok (.aload_n 2, 1) := by decide +kernel
theorem dL_law_615 : decode cL_law 615 = .ok (.aload_n 0, 1) := by decide +kernel
theorem dL_law_616 : decode cL_law 616 = .ok (.iload_n 3, 1) := by decide +kernel
theorem dL_law_617 : decode cL_law 617 = .ok (.iconst 1, 1) := by decide +kernel
theorem dL_law_618 : decode cL_law 618 = .ok (.iadd, 1) := by decide +kernel
theorem dL_law_619 : decode cL_law 619 = .ok (.iaload, 1) := by decide +kernel
theorem dL_law_620 : decode cL_law 620 = .ok (.aload_n 0, 1) := by decide +kernel
theorem dL_law_621 : decode cL_law 621 = .ok (.iload_n 3, 1) := by decide +kernel
theorem dL_law_622 : decode cL_law 622 = .ok (.iconst 2, 1) := by decide +kernel
theorem dL_law_623 : decode cL_law 623 = .ok (.iadd, 1) := by decide +kernel
theorem dL_law_624 : decode cL_law 624 = .ok (.iaload, 1) := by decide +kernel
theorem dL_law_625 : decode cL_law 625 = .ok (.invokevirtual 68, 3) := by decide +kernel
theorem dL_law_628 : decode cL_law 628 = .ok (.if_icmp .eq 783, 3) := by decide +kernel
theorem dL_law_631 : decode cL_law 631 = .ok (.iconst 0, 1) := by decide +kernel
theorem dL_law_632 : decode cL_law 632 = .ok (.ireturn, 1) := by decide +kernel
theorem dL_law_633 : decode cL_law 633 = .ok (.aload_n 1, 1) := by decide +kernel
theorem dL_law_634 : decode cL_law 634 = .ok (.aload_n 0, 1) := by decide +kernel
theorem dL_law_635 : decode cL_law 635 = .ok (.iload_n 3, 1) := by decide +kernel
theorem dL_law_636 : decode cL_law 636 = .ok (.iconst 1, 1) := by decide +kernel
theorem dL_law_637 : decode cL_law 637 = .ok (.iadd, 1) := by decide +kernel
theorem dL_law_638 : decode cL_law 638 = .ok (.iaload, 1) := by decide +kernel
theorem dL_law_639 : decode cL_law 639 = .ok (.aload_n 0, 1) := by decide +kernel
theorem dL_law_640 : decode cL_law 640 = .ok (.iload_n 3, 1) := by decide +kernel
theorem dL_law_641 : decode cL_law 641 = .ok (.iconst 2, 1) := by decide +kernel
theorem dL_law_642 : decode cL_law 642 = .ok (.iadd, 1) := by decide +kernel
theorem dL_law_643 : decode cL_law 643 = .ok (.iaload, 1) := by decide +kernel
theorem dL_law_644 : decode cL_law 644 = .ok (.aload_n 0, 1) := by decide +kernel
theorem dL_law_645 : decode cL_law 645 = .ok (.iload_n 3, 1) := by decide +kernel
theorem dL_law_646 : decode cL_law 646 = .ok (.iconst 3, 1) := by decide +kernel
theorem dL_law_647 : decode cL_law 647 = .ok (.iadd, 1) := by decide +kernel
theorem dL_law_648 : decode cL_law 648 = .ok (.iaload, 1) := by decide +kernel
theorem dL_law_649 : decode cL_law 649 = .ok (.aload_n 0, 1) := by decide +kernel
theorem dL_law_650 : decode cL_law 650 = .ok (.iload_n 3, 1) := by decide +kernel
theorem dL_law_651 : decode cL_law 651 = .ok (.iconst 4, 1) := by decide +kernel
theorem dL_law_652 : decode cL_law 652 = .ok (.iadd, 1) := by decide +kernel
theorem dL_law_653 : decode cL_law 653 = .ok (.iaload, 1) := by decide +kernel
theorem dL_law_654 : decode cL_law 654 = .ok (.invokevirtual 69, 3) := by decide +kernel
theorem dL_law_657 : decode cL_law 657 = .ok (.aload_n 2, 1) := by decide +kernel
theorem dL_law_658 : decode cL_law 658 = .ok (.aload_n 0, 1) := by decide +kernel
theorem dL_law_659 : decode cL_law 659 = .ok (.iload_n 3, 1) := by decide +kernel
theorem dL_law_660 : decode cL_law 660 = .ok (.iconst 1, 1) := by decide +kernel
theorem dL_law_661 : decode cL_law 661 = .ok (.iadd, 1) := by decide +kernel
theorem dL_law_662 : decode cL_law 662 = .ok (.iaload, 1) := by decide +kernel
theorem dL_law_663 : decode cL_law 663 = .ok (.aload_n 0, 1) := by decide +kernel
theorem dL_law_664 : decode cL_law 664 = .ok (.iload_n 3, 1) := by decide +kernel
theorem dL_law_665 : decode cL_law 665 = .ok (.iconst 2, 1) := by decide +kernel
theorem dL_law_666 : decode cL_law 666 = .ok (.iadd, 1) := by decide +kernel
theorem dL_law_667 : decode cL_law 667 = .ok (.iaload, 1) := by decide +kernel
theorem dL_law_668 : decode cL_law 668 = .ok (.aload_n 0, 1) := by decide +kernel
theorem dL_law_669 : decode cL_law 669 = .ok (.iload_n 3, 1) := by decide +kernel
theorem dL_law_670 : decode cL_law 670 = .ok (.iconst 3, 1) := by decide +kernel
theorem dL_law_671 : decode cL_law 671 = .ok (.iadd, 1) := by decide +kernel
theorem dL_law_672 : decode cL_law 672 = .ok (.iaload, 1) := by decide +kernel
theorem dL_law_673 : decode cL_law 673 = .ok (.aload_n 0, 1) := by decide +kernel
theorem dL_law_674 : decode cL_law 674 = .ok (.iload_n 3, 1) := by decide +kernel
theorem dL_law_675 : decode cL_law 675 = .ok (.iconst 4, 1) := by decide +kernel
theorem dL_law_676 : decode cL_law 676 = .ok (.iadd, 1) := by decide +kernel
theorem dL_law_677 : decode cL_law 677 = .ok (.iaload, 1) := by decide +kernel
theorem dL_law_678 : decode cL_law 678 = .ok (.invokevirtual 72, 3) := by decide +kernel
theorem dL_law_681 : decode cL_law 681 = .ok (.if_icmp .eq 730, 3) := by decide +kernel
theorem dL_law_684 : decode cL_law 684 = .ok (.iconst 0, 1) := by decide +kernel
theorem dL_law_685 : decode cL_law 685 = .ok (.ireturn, 1) := by decide +kernel
theorem dL_law_686 : decode cL_law 686 = .ok (.aload_n 1, 1) := by decide +kernel
theorem dL_law_687 : decode cL_law 687 = .ok (.aload_n 0, 1) := by decide +kernel
theorem dL_law_688 : decode cL_law 688 = .ok (.iload_n 3, 1) := by decide +kernel
theorem dL_law_689 : decode cL_law 689 = .ok (.iconst 1, 1) := by decide +kernel
theorem dL_law_690 : decode cL_law 690 = .ok (.iadd, 1) := by decide +kernel
theorem dL_law_691 : decode cL_law 691 = .ok (.iaload, 1) := by decide +kernel
theorem dL_law_692 : decode cL_law 692 = .ok (.aload_n 0, 1) := by decide +kernel
theorem dL_law_693 : decode cL_law 693 = .ok (.iload_n 3, 1) := by decide +kernel
theorem dL_law_694 : decode cL_law 694 = .ok (.iconst 2, 1) := by decide +kernel
theorem dL_law_695 : decode cL_law 695 = .ok (.iadd, 1) := by decide +kernel
theorem dL_law_696 : decode cL_law 696 = .ok (.iaload, 1) := by decide +kernel
theorem dL_law_697 : decode cL_law 697 = .ok (.invokevirtual 73, 3) := by decide +kernel
theorem dL_law_700 : decode cL_law 700 = .ok (.aload_n 2, 1) := by decide +kernel
theorem dL_law_701 : decode cL_law 701 = .ok (.aload_n 0, 1) := by decide +kernel
theorem dL_law_702 : decode cL_law 702 = .ok (.iload_n 3, 1) := by decide +kernel
theorem dL_law_703 : decode cL_law 703 = .ok (.iconst 1, 1) := by decide +kernel
theorem dL_law_704 : decode cL_law 704 = .ok (.iadd, 1) := by decide +kernel
theorem dL_law_705 : decode cL_law 705 = .ok (.iaload, 1) := by decide +kernel
theorem dL_law_706 : decode cL_law 706 = .ok (.aload_n 0, 1) := by decide +kernel
theorem dL_law_707 : decode cL_law 707 = .ok (.iload_n 3, 1) := by decide +kernel
theorem dL_law_708 : decode cL_law 708 = .ok (.iconst 2, 1) := by decide +kernel
theorem dL_law_709 : decode cL_law 709 = .ok (.iadd, 1) := by decide +kernel
theorem dL_law_710 : decode cL_law 710 = .ok (.iaload, 1) := by decide +kernel
theorem dL_law_711 : decode cL_law 711 = .ok (.invokevirtual 76, 3) := by decide +kernel
theorem dL_law_714 : decode cL_law 714 = .ok (.if_icmp .eq 697, 3) := by decide +kernel
theorem dL_law_717 : decode cL_law 717 = .ok (.iconst 0, 1) := by decide +kernel
theorem dL_law_718 : decode cL_law 718 = .ok (.ireturn, 1) := by decide +kernel
theorem dL_law_719 : decode cL_law 719 = .ok (.aload_n 1, 1) := by decide +kernel
theorem dL_law_720 : decode cL_law 720 = .ok (.aload_n 0, 1) := by decide +kernel
theorem dL_law_721 : decode cL_law 721 = .ok (.iload_n 3, 1) := by decide +kernel
theorem dL_law_722 : decode cL_law 722 = .ok (.iconst 1, 1) := by decide +kernel
theorem dL_law_723 : decode cL_law 723 = .ok (.iadd, 1) := by decide +kernel
theorem dL_law_724 : decode cL_law 724 = .ok (.iaload, 1) := by decide +kernel
theorem dL_law_725 : decode cL_law 725 = .ok (.aload_n 0, 1) := by decide +kernel
theorem dL_law_726 : decode cL_law 726 = .ok (.iload_n 3, 1) := by decide +kernel
theorem dL_law_727 : decode cL_law 727 = .ok (.iconst 2, 1) := by decide +kernel
theorem dL_law_728 : decode cL_law 728 = .ok (.iadd, 1) := by decide +kernel
theorem dL_law_729 : decode cL_law 729 = .ok (.iaload, 1) := by decide +kernel
theorem dL_law_730 : decode cL_law 730 = .ok (.invokevirtual 77, 3) := by decide +kernel
theorem dL_law_733 : decode cL_law 733 = .ok (.aload_n 2, 1) := by decide +kernel
theorem dL_law_734 : decode cL_law 734 = .ok (.aload_n 0, 1) := by decide +kernel
theorem dL_law_735 : decode cL_law 735 = .ok (.iload_n 3, 1) := by decide +kernel
theorem dL_law_736 : decode cL_law 736 = .ok (.iconst 1, 1) := by decide +kernel
theorem dL_law_737 : decode cL_law 737 = .ok (.iadd, 1) := by decide +kernel
theorem dL_law_738 : decode cL_law 738 = .ok (.iaload, 1) := by decide +kernel
theorem dL_law_739 : decode cL_law 739 = .ok (.aload_n 0, 1) := by decide +kernel
theorem dL_law_740 : decode cL_law 740 = .ok (.iload_n 3, 1) := by decide +kernel
theorem dL_law_741 : decode cL_law 741 = .ok (.iconst 2, 1) := by decide +kernel
theorem dL_law_742 : decode cL_law 742 = .ok (.iadd, 1) := by decide +kernel
theorem dL_law_743 : decode cL_law 743 = .ok (.iaload, 1) := by decide +kernel
theorem dL_law_744 : decode cL_law 744 = .ok (.invokevirtual 80, 3) := by decide +kernel
theorem dL_law_747 : decode cL_law 747 = .ok (.if_icmp .eq 664, 3) := by decide +kernel
theorem dL_law_750 : decode cL_law 750 = .ok (.iconst 0, 1) := by decide +kernel
theorem dL_law_751 : decode cL_law 751 = .ok (.ireturn, 1) := by decide +kernel
theorem dL_law_752 : decode cL_law 752 = .ok (.aload_n 1, 1) := by decide +kernel
theorem dL_law_753 : decode cL_law 753 = .ok (.aload_n 0, 1) := by decide +kernel
theorem dL_law_754 : decode cL_law 754 = .ok (.iload_n 3, 1) := by decide +kernel
theorem dL_law_755 : decode cL_law 755 = .ok (.iconst 1, 1) := by decide +kernel
theorem dL_law_756 : decode cL_law 756 = .ok (.iadd, 1) := by decide +kernel
theorem dL_law_757 : decode cL_law 757 = .ok (.iaload, 1) := by decide +kernel
theorem dL_law_758 : decode cL_law 758 = .ok (.invokevirtual 81, 3) := by decide +kernel
theorem dL_law_761 : decode cL_law 761 = .ok (.aload_n 2, 1) := by decide +kernel
theorem dL_law_762 : decode cL_law 762 = .ok (.aload_n 0, 1) := by decide +kernel
theorem dL_law_763 : decode cL_law 763 = .ok (.iload_n 3, 1) := by decide +kernel
theorem dL_law_764 : decode cL_law 764 = .ok (.iconst 1, 1) := by decide +kernel
theorem dL_law_765 : decode cL_law 765 = .ok (.iadd, 1) := by decide +kernel
theorem dL_law_766 : decode cL_law 766 = .ok (.iaload, 1) := by decide +kernel
theorem dL_law_767 : decode cL_law 767 = .ok (.invokevirtual 84, 3) := by decide +kernel
theorem dL_law_770 : decode cL_law 770 = .ok (.if_icmp .eq 641, 3) := by decide +kernel
theorem dL_law_773 : decode cL_law 773 = .ok (.iconst 0, 1) := by decide +kernel
theorem dL_law_774 : decode cL_law 774 = .ok (.ireturn, 1) := by decide +kernel
theorem dL_law_775 : decode cL_law 775 = .ok (.aload_n 1, 1) := by decide +kernel
theorem dL_law_776 : decode cL_law 776 = .ok (.aload_n 0, 1) := by decide +kernel
theorem dL_law_777 : decode cL_law 777 = .ok (.iload_n 3, 1) := by decide +kernel
theorem dL_law_778 : decode cL_law 778 = .ok (.iconst 1, 1) := by decide +kernel
theorem dL_law_779 : decode cL_law 779 = .ok (.iadd, 1) := by decide +kernel
theorem dL_law_780 : decode cL_law 780 = .ok (.iaload, 1) := by decide +kernel
theorem dL_law_781 : decode cL_law 781 = .ok (.aload_n 0, 1) := by decide +kernel
theorem dL_law_782 : decode cL_law 782 = .ok (.iload_n 3, 1) := by decide +kernel
theorem dL_law_783 : decode cL_law 783 = .ok (.iconst 2, 1) := by decide +kernel
theorem dL_law_784 : decode cL_law 784 = .ok (.iadd, 1) := by decide +kernel
theorem dL_law_785 : decode cL_law 785 = .ok (.iaload, 1) := by decide +kernel
theorem dL_law_786 : decode cL_law 786 = .ok (.invokevirtual 85, 3) := by decide +kernel
theorem dL_law_789 : decode cL_law 789 = .ok (.aload_n 2, 1) := by decide +kernel
theorem dL_law_790 : decode cL_law 790 = .ok (.aload_n 0, 1) := by decide +kernel
theorem dL_law_791 : decode cL_law 791 = .ok (.iload_n 3, 1) := by decide +kernel
theorem dL_law_792 : decode cL_law 792 = .ok (.iconst 1, 1) := by decide +kernel
theorem dL_law_793 : decode cL_law 793 = .ok (.iadd, 1) := by decide +kernel
theorem dL_law_794 : decode cL_law 794 = .ok (.iaload, 1) := by decide +kernel
theorem dL_law_795 : decode cL_law 795 = .ok (.aload_n 0, 1) := by decide +kernel
theorem dL_law_796 : decode cL_law 796 = .ok (.iload_n 3, 1) := by decide +kernel
theorem dL_law_797 : decode cL_law 797 = .ok (.iconst 2, 1) := by decide +kernel
theorem dL_law_798 : decode cL_law 798 = .ok (.iadd, 1) := by decide +kernel
theorem dL_law_799 : decode cL_law 799 = .ok (.iaload, 1) := by decide +kernel
theorem dL_law_800 : decode cL_law 800 = .ok (.invokevirtual 88, 3) := by decide +kernel
theorem dL_law_803 : decode cL_law 803 = .ok (.if_icmp .eq 608, 3) := by decide +kernel
theorem dL_law_806 : decode cL_law 806 = .ok (.iconst 0, 1) := by decide +kernel
theorem dL_law_807 : decode cL_law 807 = .ok (.ireturn, 1) := by decide +kernel
theorem dL_law_808 : decode cL_law 808 = .ok (.aload_n 1, 1) := by decide +kernel
theorem dL_law_809 : decode cL_law 809 = .ok (.invokevirtual 89, 3) := by decide +kernel
theorem dL_law_812 : decode cL_law 812 = .ok (.aload_n 2, 1) := by decide +kernel
theorem dL_law_813 : decode cL_law 813 = .ok (.invokevirtual 93, 3) := by decide +kernel
theorem dL_law_816 : decode cL_law 816 = .ok (.if_icmp .eq 595, 3) := by decide +kernel
theorem dL_law_819 : decode cL_law 819 = .ok (.iconst 0, 1) := by decide +kernel
theorem dL_law_820 : decode cL_law 820 = .ok (.ireturn, 1) := by decide +kernel
theorem dL_law_821 : decode cL_law 821 = .ok (.aload_n 1, 1) := by decide +kernel
theorem dL_law_822 : decode cL_law 822 = .ok (.aload_n 0, 1) := by decide +kernel
theorem dL_law_823 : decode cL_law 823 = .ok (.iload_n 3, 1) := by decide +kernel
theorem dL_law_824 : decode cL_law 824 = .ok (.iconst 1, 1) := by decide +kernel
theorem dL_law_825 : decode cL_law 825 = .ok (.iadd, 1) := by decide +kernel
theorem dL_law_826 : decode cL_law 826 = .ok (.iaload, 1) := by decide +kernel
theorem dL_law_827 : decode cL_law 827 = .ok (.invokevirtual 94, 3) := by decide +kernel
theorem dL_law_830 : decode cL_law 830 = .ok (.aload_n 2, 1) := by decide +kernel
theorem dL_law_831 : decode cL_law 831 = .ok (.aload_n 0, 1) := by decide +kernel
theorem dL_law_832 : decode cL_law 832 = .ok (.iload_n 3, 1) := by decide +kernel
theorem dL_law_833 : decode cL_law 833 = .ok (.iconst 1, 1) := by decide +kernel
theorem dL_law_834 : decode cL_law 834 = .ok (.iadd, 1) := by decide +kernel
theorem dL_law_835 : decode cL_law 835 = .ok (.iaload, 1) := by decide +kernel
theorem dL_law_836 : decode cL_law 836 = .ok (.invokevirtual 97, 3) := by decide +kernel
theorem dL_law_839 : decode cL_law 839 = .ok (.if_icmp .eq 572, 3) := by decide +kernel
theorem dL_law_842 : decode cL_law 842 = .ok (.iconst 0, 1) := by decide +kernel
theorem dL_law_843 : decode cL_law 843 = .ok (.ireturn, 1) := by decide +kernel
theorem dL_law_844 : decode cL_law 844 = .ok (.aload_n 1, 1) := by decide +kernel
theorem dL_law_845 : decode cL_law 845 = .ok (.aload_n 0, 1) := by decide +kernel
theorem dL_law_846 : decode cL_law 846 = .ok (.iload_n 3, 1) := by decide +kernel
theorem dL_law_847 : decode cL_law 847 = .ok (.iconst 1, 1) := by decide +kernel
theorem dL_law_848 : decode cL_law 848 = .ok (.iadd, 1) := by decide +kernel
theorem dL_law_849 : decode cL_law 849 = .ok (.iaload, 1) := by decide +kernel
theorem dL_law_850 : decode cL_law 850 = .ok (.aload_n 0, 1) := by decide +kernel
theorem dL_law_851 : decode cL_law 851 = .ok (.iload_n 3, 1) := by decide +kernel
theorem dL_law_852 : decode cL_law 852 = .ok (.iconst 2, 1) := by decide +kernel
theorem dL_law_853 : decode cL_law 853 = .ok (.iadd, 1) := by decide +kernel
theorem dL_law_854 : decode cL_law 854 = .ok (.iaload, 1) := by decide +kernel
theorem dL_law_855 : decode cL_law 855 = .ok (.aload_n 0, 1) := by decide +kernel
theorem dL_law_856 : decode cL_law 856 = .ok (.iload_n 3, 1) := by decide +kernel
theorem dL_law_857 : decode cL_law 857 = .ok (.iconst 3, 1) := by decide +kernel
theorem dL_law_858 : decode cL_law 858 = .ok (.iadd, 1) := by decide +kernel
theorem dL_law_859 : decode cL_law 859 = .ok (.iaload, 1) := by decide +kernel
theorem dL_law_860 : decode cL_law 860 = .ok (.invokevirtual 98, 3) := by decide +kernel
theorem dL_law_863 : decode cL_law 863 = .ok (.aload_n 2, 1) := by decide +kernel
theorem dL_law_864 : decode cL_law 864 = .ok (.aload_n 0, 1) := by decide +kernel
theorem dL_law_865 : decode cL_law 865 = .ok (.iload_n 3, 1) := by decide +kernel
theorem dL_law_866 : decode cL_law 866 = .ok (.iconst 1, 1) := by decide +kernel
theorem dL_law_867 : decode cL_law 867 = .ok (.iadd, 1) := by decide +kernel
theorem dL_law_868 : decode cL_law 868 = .ok (.iaload, 1) := by decide +kernel
theorem dL_law_869 : decode cL_law 869 = .ok (.aload_n 0, 1) := by decide +kernel
theorem dL_law_870 : decode cL_law 870 = .ok (.iload_n 3, 1) := by decide +kernel
theorem dL_law_871 : decode cL_law 871 = .ok (.iconst 2, 1) := by decide +kernel
theorem dL_law_872 : decode cL_law 872 = .ok (.iadd, 1) := by decide +kernel
theorem dL_law_873 : decode cL_law 873 = .ok (.iaload, 1) := by decide +kernel
theorem dL_law_874 : decode cL_law 874 = .ok (.aload_n 0, 1) := by decide +kernel
theorem dL_law_875 : decode cL_law 875 = .ok (.iload_n 3, 1) := by decide +kernel
theorem dL_law_876 : decode cL_law 876 = .ok (.iconst 3, 1) := by decide +kernel
theorem dL_law_877 : decode cL_law 877 = .ok (.iadd, 1) := by decide +kernel
theorem dL_law_878 : decode cL_law 878 = .ok (.iaload, 1) := by decide +kernel
theorem dL_law_879 : decode cL_law 879 = .ok (.invokevirtual 101, 3) := by decide +kernel
theorem dL_law_882 : decode cL_law 882 = .ok (.if_icmp .eq 529, 3) := by decide +kernel
theorem dL_law_885 : decode cL_law 885 = .ok (.iconst 0, 1) := by decide +kernel
theorem dL_law_886 : decode cL_law 886 = .ok (.ireturn, 1) := by decide +kernel
theorem dL_law_887 : decode cL_law 887 = .ok (.aload_n 1, 1) := by decide +kernel
theorem dL_law_888 : decode cL_law 888 = .ok (.aload_n 0, 1) := by decide +kernel
theorem dL_law_889 : decode cL_law 889 = .ok (.iload_n 3, 1) := by decide +kernel
theorem dL_law_890 : decode cL_law 890 = .ok (.iconst 1, 1) := by decide +kernel
theorem dL_law_891 : decode cL_law 891 = .ok (.iadd, 1) := by decide +kernel
theorem dL_law_892 : decode cL_law 892 = .ok (.iaload, 1) := by decide +kernel
theorem dL_law_893 : decode cL_law 893 = .ok (.invokevirtual 102, 3) := by decide +kernel
theorem dL_law_896 : decode cL_law 896 = .ok (.aload_n 2, 1) := by decide +kernel
theorem dL_law_897 : decode cL_law 897 = .ok (.aload_n 0, 1) := by decide +kernel
theorem dL_law_898 : decode cL_law 898 = .ok (.iload_n 3, 1) := by decide +kernel
theorem dL_law_899 : decode cL_law 899 = .ok (.iconst 1, 1) := by decide +kernel
theorem dL_law_900 : decode cL_law 900 = .ok (.iadd, 1) := by decide +kernel
theorem dL_law_901 : decode cL_law 901 = .ok (.iaload, 1) := by decide +kernel
theorem dL_law_902 : decode cL_law 902 = .ok (.invokevirtual 105, 3) := by decide +kernel
theorem dL_law_905 : decode cL_law 905 = .ok (.if_icmp .eq 506, 3) := by decide +kernel
theorem dL_law_908 : decode cL_law 908 = .ok (.iconst 0, 1) := by decide +kernel
theorem dL_law_909 : decode cL_law 909 = .ok (.ireturn, 1) := by decide +kernel
theorem dL_law_910 : decode cL_law 910 = .ok (.aload_n 1, 1) := by decide +kernel
theorem dL_law_911 : decode cL_law 911 = .ok (.invokevirtual 106, 3) := by decide +kernel
theorem dL_law_914 : decode cL_law 914 = .ok (.aload_n 2, 1) := by decide +kernel
theorem dL_law_915 : decode cL_law 915 = .ok (.invokevirtual 109, 3) := by decide +kernel
theorem dL_law_918 : decode cL_law 918 = .ok (.if_icmp .eq 493, 3) := by decide +kernel
theorem dL_law_921 : decode cL_law 921 = .ok (.iconst 0, 1) := by decide +kernel
theorem dL_law_922 : decode cL_law 922 = .ok (.ireturn, 1) := by decide +kernel
theorem dL_law_923 : decode cL_law 923 = .ok (.aload_n 1, 1) := by decide +kernel
theorem dL_law_924 : decode cL_law 924 = .ok (.aload_n 0, 1) := by decide +kernel
theorem dL_law_925 : decode cL_law 925 = .ok (.iload_n 3, 1) := by decide +kernel
theorem dL_law_926 : decode cL_law 926 = .ok (.iconst 1, 1) := by decide +kernel
theorem dL_law_927 : decode cL_law 927 = .ok (.iadd, 1) := by decide +kernel
theorem dL_law_928 : decode cL_law 928 = .ok (.iaload, 1) := by decide +kernel
theorem dL_law_929 : decode cL_law 929 = .ok (.aload_n 0, 1) := by decide +kernel
theorem dL_law_930 : decode cL_law 930 = .ok (.iload_n 3, 1) := by decide +kernel
theorem dL_law_931 : decode cL_law 931 = .ok (.iconst 2, 1) := by decide +kernel
theorem dL_law_932 : decode cL_law 932 = .ok (.iadd, 1) := by decide +kernel
theorem dL_law_933 : decode cL_law 933 = .ok (.iaload, 1) := by decide +kernel
theorem dL_law_934 : decode cL_law 934 = .ok (.invokevirtual 110, 3) := by decide +kernel
theorem dL_law_937 : decode cL_law 937 = .ok (.aload_n 2, 1) := by decide +kernel
theorem dL_law_938 : decode cL_law 938 = .ok (.aload_n 0, 1) := by decide +kernel
theorem dL_law_939 : decode cL_law 939 = .ok (.iload_n 3, 1) := by decide +kernel
theorem dL_law_940 : decode cL_law 940 = .ok (.iconst 1, 1) := by decide +kernel
theorem dL_law_941 : decode cL_law 941 = .ok (.iadd, 1) := by decide +kernel
theorem dL_law_942 : decode cL_law 942 = .ok (.iaload, 1) := by decide +kernel
theorem dL_law_943 : decode cL_law 943 = .ok (.aload_n 0, 1) := by decide +kernel
theorem dL_law_944 : decode cL_law 944 = .ok (.iload_n 3, 1) := by decide +kernel
theorem dL_law_945 : decode cL_law 945 = .ok (.iconst 2, 1) := by decide +kernel
theorem dL_law_946 : decode cL_law 946 = .ok (.iadd, 1) := by decide +kernel
theorem dL_law_947 : decode cL_law 947 = .ok (.iaload, 1) := by decide +kernel
theorem dL_law_948 : decode cL_law 948 = .ok (.invokevirtual 113, 3) := by decide +kernel
theorem dL_law_951 : decode cL_law 951 = .ok (.if_icmp .eq 460, 3) := by decide +kernel
theorem dL_law_954 : decode cL_law 954 = .ok (.iconst 0, 1) := by decide +kernel
theorem dL_law_955 : decode cL_law 955 = .ok (.ireturn, 1) := by decide +kernel
theorem dL_law_956 : decode cL_law 956 = .ok (.aload_n 1, 1) := by decide +kernel
theorem dL_law_957 : decode cL_law 957 = .ok (.aload_n 0, 1) := by decide +kernel
theorem dL_law_958 : decode cL_law 958 = .ok (.iload_n 3, 1) := by decide +kernel
theorem dL_law_959 : decode cL_law 959 = .ok (.iconst 1, 1) := by decide +kernel
theorem dL_law_960 : decode cL_law 960 = .ok (.iadd, 1) := by decide +kernel
theorem dL_law_961 : decode cL_law 961 = .ok (.iaload, 1) := by decide +kernel
theorem dL_law_962 : decode cL_law 962 = .ok (.invokevirtual 114, 3) := by decide +kernel
theorem dL_law_965 : decode cL_law 965 = .ok (.aload_n 2, 1) := by decide +kernel
theorem dL_law_966 : decode cL_law 966 = .ok (.aload_n 0, 1) := by decide +kernel
theorem dL_law_967 : decode cL_law 967 = .ok (.iload_n 3, 1) := by decide +kernel
theorem dL_law_968 : decode cL_law 968 = .ok (.iconst 1, 1) := by decide +kernel
theorem dL_law_969 : decode cL_law 969 = .ok (.iadd, 1) := by decide +kernel
theorem dL_law_970 : decode cL_law 970 = .ok (.iaload, 1) := by decide +kernel
theorem dL_law_971 : decode cL_law 971 = .ok (.invokevirtual 117, 3) := by decide +kernel
theorem dL_law_974 : decode cL_law 974 = .ok (.if_icmp .eq 437, 3) := by decide +kernel
theorem dL_law_977 : decode cL_law 977 = .ok (.iconst 0, 1) := by decide +kernel
theorem dL_law_978 : decode cL_law 978 = .ok (.ireturn, 1) := by decide +kernel
theorem dL_law_979 : decode cL_law 979 = .ok (.aload_n 1, 1) := by decide +kernel
theorem dL_law_980 : decode cL_law 980 = .ok (.aload_n 0, 1) := by decide +kernel
theorem dL_law_981 : decode cL_law 981 = .ok (.iload_n 3, 1) := by decide +kernel
theorem dL_law_982 : decode cL_law 982 = .ok (.iconst 1, 1) := by decide +kernel
theorem dL_law_983 : decode cL_law 983 = .ok (.iadd, 1) := by decide +kernel
theorem dL_law_984 : decode cL_law 984 = .ok (.iaload, 1) := by decide +kernel
theorem dL_law_985 : decode cL_law 985 = .ok (.aload_n 0, 1) := by decide +kernel
theorem dL_law_986 : decode cL_law 986 = .ok (.iload_n 3, 1) := by decide +kernel
theorem dL_law_987 : decode cL_law 987 = .ok (.iconst 2, 1) := by decide +kernel
theorem dL_law_988 : decode cL_law 988 = .ok (.iadd, 1) := by decide +kernel
theorem dL_law_989 : decode cL_law 989 = .ok (.iaload, 1) := by decide +kernel
theorem dL_law_990 : decode cL_law 990 = .ok (.aload_n 0, 1) := by decide +kernel
theorem dL_law_991 : decode cL_law 991 = .ok (.iload_n 3, 1) := by decide +kernel
theorem dL_law_992 : decode cL_law 992 = .ok (.iconst 3, 1) := by decide +kernel
theorem dL_law_993 : decode cL_law 993 = .ok (.iadd, 1) := by decide +kernel
theorem dL_law_994 : decode cL_law 994 = .ok (.iaload, 1) := by decide +kernel
theorem dL_law_995 : decode cL_law 995 = .ok (.invokevirtual 118, 3) := by decide +kernel
theorem dL_law_998 : decode cL_law 998 = .ok (.aload_n 2, 1) := by decide +kernel
theorem dL_law_999 : decode cL_law 999 = .ok (.aload_n 0, 1) := by decide +kernel
theorem dL_law_1000 : decode cL_law 1000 = .ok (.iload_n 3, 1) := by decide +kernel
theorem dL_law_1001 : decode cL_law 1001 = .ok (.iconst 1, 1) := by decide +kernel
theorem dL_law_1002 : decode cL_law 1002 = .ok (.iadd, 1) := by decide +kernel
theorem dL_law_1003 : decode cL_law 1003 = .ok (.iaload, 1) := by decide +kernel
theorem dL_law_1004 : decode cL_law 1004 = .ok (.aload_n 0, 1) := by decide +kernel
theorem dL_law_1005 : decode cL_law 1005 = .ok (.iload_n 3, 1) := by decide +kernel
theorem dL_law_1006 : decode cL_law 1006 = .ok (.iconst 2, 1) := by decide +kernel
theorem dL_law_1007 : decode cL_law 1007 = .ok (.iadd, 1) := by decide +kernel
theorem dL_law_1008 : decode cL_law 1008 = .ok (.iaload, 1) := by decide +kernel
theorem dL_law_1009 : decode cL_law 1009 = .ok (.aload_n 0, 1) := by decide +kernel
theorem dL_law_1010 : decode cL_law 1010 = .ok (.iload_n 3, 1) := by decide +kernel
theorem dL_law_1011 : decode cL_law 1011 = .ok (.iconst 3, 1) := by decide +kernel
theorem dL_law_1012 : decode cL_law 1012 = .ok (.iadd, 1) := by decide +kernel
theorem dL_law_1013 : decode cL_law 1013 = .ok (.iaload, 1) := by decide +kernel
theorem dL_law_1014 : decode cL_law 1014 = .ok (.invokevirtual 121, 3) := by decide +kernel
theorem dL_law_1017 : decode cL_law 1017 = .ok (.if_icmp .eq 394, 3) := by decide +kernel
theorem dL_law_1020 : decode cL_law 1020 = .ok (.iconst 0, 1) := by decide +kernel
theorem dL_law_1021 : decode cL_law 1021 = .ok (.ireturn, 1) := by decide +kernel
theorem dL_law_1022 : decode cL_law 1022 = .ok (.aload_n 1, 1) := by decide +kernel
theorem dL_law_1023 : decode cL_law 1023 = .ok (.aload_n 0, 1) := by decide +kernel
theorem dL_law_1024 : decode cL_law 1024 = .ok (.iload_n 3, 1) := by decide +kernel
theorem dL_law_1025 : decode cL_law 1025 = .ok (.iconst 1, 1) := by decide +kernel
theorem dL_law_1026 : decode cL_law 1026 = .ok (.iadd, 1) := by decide +kernel
theorem dL_law_1027 : decode cL_law 1027 = .ok (.iaload, 1) := by decide +kernel
theorem dL_law_1028 : decode cL_law 1028 = .ok (.aload_n 0, 1) := by decide +kernel
theorem dL_law_1029 : decode cL_law 1029 = .ok (.iload_n 3, 1) := by decide +kernel
theorem dL_law_1030 : decode cL_law 1030 = .ok (.iconst 2, 1) := by decide +kernel
theorem dL_law_1031 : decode cL_law 1031 = .ok (.iadd, 1) := by decide +kernel
theorem dL_law_1032 : decode cL_law 1032 = .ok (.iaload, 1) := by decide +kernel
theorem dL_law_1033 : decode cL_law 1033 = .ok (.aload_n 0, 1) := by decide +kernel
theorem dL_law_1034 : decode cL_law 1034 = .ok (.iload_n 3, 1) := by decide +kernel
theorem dL_law_1035 : decode cL_law 1035 = .ok (.iconst 3, 1) := by decide +kernel
theorem dL_law_1036 : decode cL_law 1036 = .ok (.iadd, 1) := by decide +kernel
theorem dL_law_1037 : decode cL_law 1037 = .ok (.iaload, 1) := by decide +kernel
theorem dL_law_1038 : decode cL_law 1038 = .ok (.invokevirtual 122, 3) := by decide +kernel
theorem dL_law_1041 : decode cL_law 1041 = .ok (.aload_n 2, 1) := by decide +kernel
theorem dL_law_1042 : decode cL_law 1042 = .ok (.aload_n 0, 1) := by decide +kernel
theorem dL_law_1043 : decode cL_law 1043 = .ok (.iload_n 3, 1) := by decide +kernel
theorem dL_law_1044 : decode cL_law 1044 = .ok (.iconst 1, 1) := by decide +kernel
theorem dL_law_1045 : decode cL_law 1045 = .ok (.iadd, 1) := by decide +kernel
theorem dL_law_1046 : decode cL_law 1046 = .ok (.iaload, 1) := by decide +kernel
theorem dL_law_1047 : decode cL_law 1047 = .ok (.aload_n 0, 1) := by decide +kernel
theorem dL_law_1048 : decode cL_law 1048 = .ok (.iload_n 3, 1) := by decide +kernel
theorem dL_law_1049 : decode cL_law 1049 = .ok (.iconst 2, 1) := by decide +kernel
theorem dL_law_1050 : decode cL_law 1050 = .ok (.iadd, 1) := by decide +kernel
theorem dL_law_1051 : decode cL_law 1051 = .ok (.iaload, 1) := by decide +kernel
theorem dL_law_1052 : decode cL_law 1052 = .ok (.aload_n 0, 1) := by decide +kernel
theorem dL_law_1053 : decode cL_law 1053 = .ok (.iload_n 3, 1) := by decide +kernel
theorem dL_law_1054 : decode cL_law 1054 = .ok (.iconst 3, 1) := by decide +kernel
theorem dL_law_1055 : decode cL_law 1055 = .ok (.iadd, 1) := by decide +kernel
theorem dL_law_1056 : decode cL_law 1056 = .ok (.iaload, 1) := by decide +kernel
theorem dL_law_1057 : decode cL_law 1057 = .ok (.invokevirtual 125, 3) := by decide +kernel
theorem dL_law_1060 : decode cL_law 1060 = .ok (.if_icmp .eq 351, 3) := by decide +kernel
theorem dL_law_1063 : decode cL_law 1063 = .ok (.iconst 0, 1) := by decide +kernel
theorem dL_law_1064 : decode cL_law 1064 = .ok (.ireturn, 1) := by decide +kernel
theorem dL_law_1065 : decode cL_law 1065 = .ok (.aload_n 1, 1) := by decide +kernel
theorem dL_law_1066 : decode cL_law 1066 = .ok (.aload_n 0, 1) := by decide +kernel
theorem dL_law_1067 : decode cL_law 1067 = .ok (.iload_n 3, 1) := by decide +kernel
theorem dL_law_1068 : decode cL_law 1068 = .ok (.iconst 1, 1) := by decide +kernel
theorem dL_law_1069 : decode cL_law 1069 = .ok (.iadd, 1) := by decide +kernel
theorem dL_law_1070 : decode cL_law 1070 = .ok (.iaload, 1) := by decide +kernel
theorem dL_law_1071 : decode cL_law 1071 = .ok (.invokevirtual 126, 3) := by decide +kernel
theorem dL_law_1074 : decode cL_law 1074 = .ok (.aload_n 2, 1) := by decide +kernel
theorem dL_law_1075 : decode cL_law 1075 = .ok (.aload_n 0, 1) := by decide +kernel
theorem dL_law_1076 : decode cL_law 1076 = .ok (.iload_n 3, 1) := by decide +kernel
theorem dL_law_1077 : decode cL_law 1077 = .ok (.iconst 1, 1) := by decide +kernel
theorem dL_law_1078 : decode cL_law 1078 = .ok (.iadd, 1) := by decide +kernel
theorem dL_law_1079 : decode cL_law 1079 = .ok (.iaload, 1) := by decide +kernel
theorem dL_law_1080 : decode cL_law 1080 = .ok (.invokevirtual 129, 3) := by decide +kernel
theorem dL_law_1083 : decode cL_law 1083 = .ok (.if_icmp .eq 328, 3) := by decide +kernel
theorem dL_law_1086 : decode cL_law 1086 = .ok (.iconst 0, 1) := by decide +kernel
theorem dL_law_1087 : decode cL_law 1087 = .ok (.ireturn, 1) := by decide +kernel
theorem dL_law_1088 : decode cL_law 1088 = .ok (.aload_n 1, 1) := by decide +kernel
theorem dL_law_1089 : decode cL_law 1089 = .ok (.aload_n 0, 1) := by decide +kernel
theorem dL_law_1090 : decode cL_law 1090 = .ok (.iload_n 3, 1) := by decide +kernel
theorem dL_law_1091 : decode cL_law 1091 = .ok (.iconst 1, 1) := by decide +kernel
theorem dL_law_1092 : decode cL_law 1092 = .ok (.iadd, 1) := by decide +kernel
theorem dL_law_1093 : decode cL_law 1093 = .ok (.iaload, 1) := by decide +kernel
theorem dL_law_1094 : decode cL_law 1094 = .ok (.invokevirtual 130, 3) := by decide +kernel
theorem dL_law_1097 : decode cL_law 1097 = .ok (.aload_n 2, 1) := by decide +kernel
theorem dL_law_1098 : decode cL_law 1098 = .ok (.aload_n 0, 1) := by decide +kernel
theorem dL_law_1099 : decode cL_law 1099 = .ok (.iload_n 3, 1) := by decide +kernel
theorem dL_law_1100 : decode cL_law 1100 = .ok (.iconst 1, 1) := by decide +kernel
theorem dL_law_1101 : decode cL_law 1101 = .ok (.iadd, 1) := by decide +kernel
theorem dL_law_1102 : decode cL_law 1102 = .ok (.iaload, 1) := by decide +kernel
theorem dL_law_1103 : decode cL_law 1103 = .ok (.invokevirtual 133, 3) := by decide +kernel
theorem dL_law_1106 : decode cL_law 1106 = .ok (.if_icmp .eq 305, 3) := by decide +kernel
theorem dL_law_1109 : decode cL_law 1109 = .ok (.iconst 0, 1) := by decide +kernel
theorem dL_law_1110 : decode cL_law 1110 = .ok (.ireturn, 1) := by decide +kernel
theorem dL_law_1111 : decode cL_law 1111 = .ok (.aload_n 1, 1) := by decide +kernel
theorem dL_law_1112 : decode cL_law 1112 = .ok (.aload_n 0, 1) := by decide +kernel
theorem dL_law_1113 : decode cL_law 1113 = .ok (.iload_n 3, 1) := by decide +kernel
theorem dL_law_1114 : decode cL_law 1114 = .ok (.iconst 1, 1) := by decide +kernel
theorem dL_law_1115 : decode cL_law 1115 = .ok (.iadd, 1) := by decide +kernel
theorem dL_law_1116 : decode cL_law 1116 = .ok (.iaload, 1) := by decide +kernel
theorem dL_law_1117 : decode cL_law 1117 = .ok (.aload_n 0, 1) := by decide +kernel
theorem dL_law_1118 : decode cL_law 1118 = .ok (.iload_n 3, 1) := by decide +kernel
theorem dL_law_1119 : decode cL_law 1119 = .ok (.iconst 2, 1) := by decide +kernel
theorem dL_law_1120 : decode cL_law 1120 = .ok (.iadd, 1) := by decide +kernel
theorem dL_law_1121 : decode cL_law 1121 = .ok (.iaload, 1) := by decide +kernel
theorem dL_law_1122 : decode cL_law 1122 = .ok (.aload_n 0, 1) := by decide +kernel
theorem dL_law_1123 : decode cL_law 1123 = .ok (.iload_n 3, 1) := by decide +kernel
theorem dL_law_1124 : decode cL_law 1124 = .ok (.iconst 3, 1) := by decide +kernel
theorem dL_law_1125 : decode cL_law 1125 = .ok (.iadd, 1) := by decide +kernel
theorem dL_law_1126 : decode cL_law 1126 = .ok (.iaload, 1) := by decide +kernel
theorem dL_law_1127 : decode cL_law 1127 = .ok (.aload_n 0, 1) := by decide +kernel
theorem dL_law_1128 : decode cL_law 1128 = .ok (.iload_n 3, 1) := by decide +kernel
theorem dL_law_1129 : decode cL_law 1129 = .ok (.iconst 4, 1) := by decide +kernel
theorem dL_law_1130 : decode cL_law 1130 = .ok (.iadd, 1) := by decide +kernel
theorem dL_law_1131 : decode cL_law 1131 = .ok (.iaload, 1) := by decide +kernel
theorem dL_law_1132 : decode cL_law 1132 = .ok (.aload_n 0, 1) := by decide +kernel
theorem dL_law_1133 : decode cL_law 1133 = .ok (.iload_n 3, 1) := by decide +kernel
theorem dL_law_1134 : decode cL_law 1134 = .ok (.iconst 5, 1) := by decide +kernel
theorem dL_law_1135 : decode cL_law 1135 = .ok (.iadd, 1) := by decide +kernel
theorem dL_law_1136 : decode cL_law 1136 = .ok (.iaload, 1) := by decide +kernel
theorem dL_law_1137 : decode cL_law 1137 = .ok (.invokevirtual 134, 3) := by decide +kernel
theorem dL_law_1140 : decode cL_law 1140 = .ok (.aload_n 2, 1) := by decide +kernel
theorem dL_law_1141 : decode cL_law 1141 = .ok (.aload_n 0, 1) := by decide +kernel
theorem dL_law_1142 : decode cL_law 1142 = .ok (.iload_n 3, 1) := by decide +kernel
theorem dL_law_1143 : decode cL_law 1143 = .ok (.iconst 1, 1) := by decide +kernel
theorem dL_law_1144 : decode cL_law 1144 = .ok (.iadd, 1) := by decide +kernel
theorem dL_law_1145 : decode cL_law 1145 = .ok (.iaload, 1) := by decide +kernel
theorem dL_law_1146 : decode cL_law 1146 = .ok (.aload_n 0, 1) := by decide +kernel
theorem dL_law_1147 : decode cL_law 1147 = .ok (.iload_n 3, 1) := by decide +kernel
theorem dL_law_1148 : decode cL_law 1148 = .ok (.iconst 2, 1) := by decide +kernel
theorem dL_law_1149 : decode cL_law 1149 = .ok (.iadd, 1) := by decide +kernel
theorem dL_law_1150 : decode cL_law 1150 = .ok (.iaload, 1) := by decide +kernel
theorem dL_law_1151 : decode cL_law 1151 = .ok (.aload_n 0, 1) := by decide +kernel
theorem dL_law_1152 : decode cL_law 1152 = .ok (.iload_n 3, 1) := by decide +kernel
theorem dL_law_1153 : decode cL_law 1153 = .ok (.iconst 3, 1) := by decide +kernel
theorem dL_law_1154 : decode cL_law 1154 = .ok (.iadd, 1) := by decide +kernel
theorem dL_law_1155 : decode cL_law 1155 = .ok (.iaload, 1) := by decide +kernel
theorem dL_law_1156 : decode cL_law 1156 = .ok (.aload_n 0, 1) := by decide +kernel
theorem dL_law_1157 : decode cL_law 1157 = .ok (.iload_n 3, 1) := by decide +kernel
theorem dL_law_1158 : decode cL_law 1158 = .ok (.iconst 4, 1) := by decide +kernel
theorem dL_law_1159 : decode cL_law 1159 = .ok (.iadd, 1) := by decide +kernel
theorem dL_law_1160 : decode cL_law 1160 = .ok (.iaload, 1) := by decide +kernel
theorem dL_law_1161 : decode cL_law 1161 = .ok (.aload_n 0, 1) := by decide +kernel
theorem dL_law_1162 : decode cL_law 1162 = .ok (.iload_n 3, 1) := by decide +kernel
theorem dL_law_1163 : decode cL_law 1163 = .ok (.iconst 5, 1) := by decide +kernel
theorem dL_law_1164 : decode cL_law 1164 = .ok (.iadd, 1) := by decide +kernel
theorem dL_law_1165 : decode cL_law 1165 = .ok (.iaload, 1) := by decide +kernel
theorem dL_law_1166 : decode cL_law 1166 = .ok (.invokevirtual 138, 3) := by decide +kernel
theorem dL_law_1169 : decode cL_law 1169 = .ok (.if_icmp .eq 242, 3) := by decide +kernel
theorem dL_law_1172 : decode cL_law 1172 = .ok (.iconst 0, 1) := by decide +kernel
theorem dL_law_1173 : decode cL_law 1173 = .ok (.ireturn, 1) := by decide +kernel
theorem dL_law_1174 : decode cL_law 1174 = .ok (.aload_n 1, 1) := by decide +kernel
theorem dL_law_1175 : decode cL_law 1175 = .ok (.aload_n 0, 1) := by decide +kernel
theorem dL_law_1176 : decode cL_law 1176 = .ok (.iload_n 3, 1) := by decide +kernel
theorem dL_law_1177 : decode cL_law 1177 = .ok (.iconst 1, 1) := by decide +kernel
theorem dL_law_1178 : decode cL_law 1178 = .ok (.iadd, 1) := by decide +kernel
theorem dL_law_1179 : decode cL_law 1179 = .ok (.iaload, 1) := by decide +kernel
theorem dL_law_1180 : decode cL_law 1180 = .ok (.aload_n 0, 1) := by decide +kernel
theorem dL_law_1181 : decode cL_law 1181 = .ok (.iload_n 3, 1) := by decide +kernel
theorem dL_law_1182 : decode cL_law 1182 = .ok (.iconst 2, 1) := by decide +kernel
theorem dL_law_1183 : decode cL_law 1183 = .ok (.iadd, 1) := by decide +kernel
theorem dL_law_1184 : decode cL_law 1184 = .ok (.iaload, 1) := by decide +kernel
theorem dL_law_1185 : decode cL_law 1185 = .ok (.aload_n 0, 1) := by decide +kernel
theorem dL_law_1186 : decode cL_law 1186 = .ok (.iload_n 3, 1) := by decide +kernel
theorem dL_law_1187 : decode cL_law 1187 = .ok (.iconst 3, 1) := by decide +kernel
theorem dL_law_1188 : decode cL_law 1188 = .ok (.iadd, 1) := by decide +kernel
theorem dL_law_1189 : decode cL_law 1189 = .ok (.iaload, 1) := by decide +kernel
theorem dL_law_1190 : decode cL_law 1190 = .ok (.invokevirtual 139, 3) := by decide +kernel
theorem dL_law_1193 : decode cL_law 1193 = .ok (.aload_n 2, 1) := by decide +kernel
theorem dL_law_1194 : decode cL_law 1194 = .ok (.aload_n 0, 1) := by decide +kernel
theorem dL_law_1195 : decode cL_law 1195 = .ok (.iload_n 3, 1) := by decide +kernel
theorem dL_law_1196 : decode cL_law 1196 = .ok (.iconst 1, 1) := by decide +kernel
theorem dL_law_1197 : decode cL_law 1197 = .ok (.iadd, 1) := by decide +kernel
theorem dL_law_1198 : decode cL_law 1198 = .ok (.iaload, 1) := by decide +kernel
theorem dL_law_1199 : decode cL_law 1199 = .ok (.aload_n 0, 1) := by decide +kernel
theorem dL_law_1200 : decode cL_law 1200 = .ok (.iload_n 3, 1) := by decide +kernel
theorem dL_law_1201 : decode cL_law 1201 = .ok (.iconst 2, 1) := by decide +kernel
theorem dL_law_1202 : decode cL_law 1202 = .ok (.iadd, 1) := by decide +kernel
theorem dL_law_1203 : decode cL_law 1203 = .ok (.iaload, 1) := by decide +kernel
theorem dL_law_1204 : decode cL_law 1204 = .ok (.aload_n 0, 1) := by decide +kernel
theorem dL_law_1205 : decode cL_law 1205 = .ok (.iload_n 3, 1) := by decide +kernel
theorem dL_law_1206 : decode cL_law 1206 = .ok (.iconst 3, 1) := by decide +kernel
theorem dL_law_1207 : decode cL_law 1207 = .ok (.iadd, 1) := by decide +kernel
theorem dL_law_1208 : decode cL_law 1208 = .ok (.iaload, 1) := by decide +kernel
theorem dL_law_1209 : decode cL_law 1209 = .ok (.invokevirtual 142, 3) := by decide +kernel
theorem dL_law_1212 : decode cL_law 1212 = .ok (.if_icmp .eq 199, 3) := by decide +kernel
theorem dL_law_1215 : decode cL_law 1215 = .ok (.iconst 0, 1) := by decide +kernel
theorem dL_law_1216 : decode cL_law 1216 = .ok (.ireturn, 1) := by decide +kernel
theorem dL_law_1217 : decode cL_law 1217 = .ok (.aload_n 1, 1) := by decide +kernel
theorem dL_law_1218 : decode cL_law 1218 = .ok (.aload_n 0, 1) := by decide +kernel
theorem dL_law_1219 : decode cL_law 1219 = .ok (.iload_n 3, 1) := by decide +kernel
theorem dL_law_1220 : decode cL_law 1220 = .ok (.iconst 1, 1) := by decide +kernel
theorem dL_law_1221 : decode cL_law 1221 = .ok (.iadd, 1) := by decide +kernel
theorem dL_law_1222 : decode cL_law 1222 = .ok (.iaload, 1) := by decide +kernel
theorem dL_law_1223 : decode cL_law 1223 = .ok (.aload_n 0, 1) := by decide +kernel
theorem dL_law_1224 : decode cL_law 1224 = .ok (.iload_n 3, 1) := by decide +kernel
theorem dL_law_1225 : decode cL_law 1225 = .ok (.iconst 2, 1) := by decide +kernel
theorem dL_law_1226 : decode cL_law 1226 = .ok (.iadd, 1) := by decide +kernel
theorem dL_law_1227 : decode cL_law 1227 = .ok (.iaload, 1) := by decide +kernel
theorem dL_law_1228 : decode cL_law 1228 = .ok (.invokevirtual 143, 3) := by decide +kernel
theorem dL_law_1231 : decode cL_law 1231 = .ok (.aload_n 2, 1) := by decide +kernel
theorem dL_law_1232 : decode cL_law 1232 = .ok (.aload_n 0, 1) := by decide +kernel
theorem dL_law_1233 : decode cL_law 1233 = .ok (.iload_n 3, 1) := by decide +kernel
theorem dL_law_1234 : decode cL_law 1234 = .ok (.iconst 1, 1) := by decide +kernel
theorem dL_law_1235 : decode cL_law 1235 = .ok (.iadd, 1) := by decide +kernel
theorem dL_law_1236 : decode cL_law 1236 = .ok (.iaload, 1) := by decide +kernel
theorem dL_law_1237 : decode cL_law 1237 = .ok (.aload_n 0, 1) := by decide +kernel
theorem dL_law_1238 : decode cL_law 1238 = .ok (.iload_n 3, 1) := by decide +kernel
theorem dL_law_1239 : decode cL_law 1239 = .ok (.iconst 2, 1) := by decide +kernel
theorem dL_law_1240 : decode cL_law 1240 = .ok (.iadd, 1) := by decide +kernel
theorem dL_law_1241 : decode cL_law 1241 = .ok (.iaload, 1) := by decide +kernel
theorem dL_law_1242 : decode cL_law 1242 = .ok (.invokevirtual 146, 3) := by decide +kernel
theorem dL_law_1245 : decode cL_law 1245 = .ok (.if_icmp .eq 166, 3) := by decide +kernel
theorem dL_law_1248 : decode cL_law 1248 = .ok (.iconst 0, 1) := by decide +kernel
theorem dL_law_1249 : decode cL_law 1249 = .ok (.ireturn, 1) := by decide +kernel
theorem dL_law_1250 : decode cL_law 1250 = .ok (.aload_n 1, 1) := by decide +kernel
theorem dL_law_1251 : decode cL_law 1251 = .ok (.aload_n 0, 1) := by decide +kernel
theorem dL_law_1252 : decode cL_law 1252 = .ok (.iload_n 3, 1) := by decide +kernel
theorem dL_law_1253 : decode cL_law 1253 = .ok (.iconst 1, 1) := by decide +kernel
theorem dL_law_1254 : decode cL_law 1254 = .ok (.iadd, 1) := by decide +kernel
theorem dL_law_1255 : decode cL_law 1255 = .ok (.iaload, 1) := by decide +kernel
theorem dL_law_1256 : decode cL_law 1256 = .ok (.aload_n 0, 1) := by decide +kernel
theorem dL_law_1257 : decode cL_law 1257 = .ok (.iload_n 3, 1) := by decide +kernel
theorem dL_law_1258 : decode cL_law 1258 = .ok (.iconst 2, 1) := by decide +kernel
theorem dL_law_1259 : decode cL_law 1259 = .ok (.iadd, 1) := by decide +kernel
theorem dL_law_1260 : decode cL_law 1260 = .ok (.iaload, 1) := by decide +kernel
theorem dL_law_1261 : decode cL_law 1261 = .ok (.invokevirtual 147, 3) := by decide +kernel
theorem dL_law_1264 : decode cL_law 1264 = .ok (.aload_n 2, 1) := by decide +kernel
theorem dL_law_1265 : decode cL_law 1265 = .ok (.aload_n 0, 1) := by decide +kernel
theorem dL_law_1266 : decode cL_law 1266 = .ok (.iload_n 3, 1) := by decide +kernel
theorem dL_law_1267 : decode cL_law 1267 = .ok (.iconst 1, 1) := by decide +kernel
theorem dL_law_1268 : decode cL_law 1268 = .ok (.iadd, 1) := by decide +kernel
theorem dL_law_1269 : decode cL_law 1269 = .ok (.iaload, 1) := by decide +kernel
theorem dL_law_1270 : decode cL_law 1270 = .ok (.aload_n 0, 1) := by decide +kernel
theorem dL_law_1271 : decode cL_law 1271 = .ok (.iload_n 3, 1) := by decide +kernel
theorem dL_law_1272 : decode cL_law 1272 = .ok (.iconst 2, 1) := by decide +kernel
theorem dL_law_1273 : decode cL_law 1273 = .ok (.iadd, 1) := by decide +kernel
theorem dL_law_1274 : decode cL_law 1274 = .ok (.iaload, 1) := by decide +kernel
theorem dL_law_1275 : decode cL_law 1275 = .ok (.invokevirtual 150, 3) := by decide +kernel
theorem dL_law_1278 : decode cL_law 1278 = .ok (.if_icmp .eq 133, 3) := by decide +kernel
theorem dL_law_1281 : decode cL_law 1281 = .ok (.iconst 0, 1) := by decide +kernel
theorem dL_law_1282 : decode cL_law 1282 = .ok (.ireturn, 1) := by decide +kernel
theorem dL_law_1283 : decode cL_law 1283 = .ok (.aload_n 1, 1) := by decide +kernel
theorem dL_law_1284 : decode cL_law 1284 = .ok (.aload_n 0, 1) := by decide +kernel
theorem dL_law_1285 : decode cL_law 1285 = .ok (.iload_n 3, 1) := by decide +kernel
theorem dL_law_1286 : decode cL_law 1286 = .ok (.iconst 1, 1) := by decide +kernel
theorem dL_law_1287 : decode cL_law 1287 = .ok (.iadd, 1) := by decide +kernel
theorem dL_law_1288 : decode cL_law 1288 = .ok (.iaload, 1) := by decide +kernel
theorem dL_law_1289 : decode cL_law 1289 = .ok (.aload_n 0, 1) := by decide +kernel
theorem dL_law_1290 : decode cL_law 1290 = .ok (.iload_n 3, 1) := by decide +kernel
theorem dL_law_1291 : decode cL_law 1291 = .ok (.iconst 2, 1) := by decide +kernel
theorem dL_law_1292 : decode cL_law 1292 = .ok (.iadd, 1) := by decide +kernel
theorem dL_law_1293 : decode cL_law 1293 = .ok (.iaload, 1) := by decide +kernel
theorem dL_law_1294 : decode cL_law 1294 = .ok (.invokevirtual 151, 3) := by decide +kernel
theorem dL_law_1297 : decode cL_law 1297 = .ok (.aload_n 2, 1) := by decide +kernel
theorem dL_law_1298 : decode cL_law 1298 = .ok (.aload_n 0, 1) := by decide +kernel
theorem dL_law_1299 : decode cL_law 1299 = .ok (.iload_n 3, 1) := by decide +kernel
theorem dL_law_1300 : decode cL_law 1300 = .ok (.iconst 1, 1) := by decide +kernel
theorem dL_law_1301 : decode cL_law 1301 = .ok (.iadd, 1) := by decide +kernel
theorem dL_law_1302 : decode cL_law 1302 = .ok (.iaload, 1) := by decide +kernel
theorem dL_law_1303 : decode cL_law 1303 = .ok (.aload_n 0, 1) := by decide +kernel
theorem dL_law_1304 : decode cL_law 1304 = .ok (.iload_n 3, 1) := by decide +kernel
theorem dL_law_1305 : decode cL_law 1305 = .ok (.iconst 2, 1) := by decide +kernel
theorem dL_law_1306 : decode cL_law 1306 = .ok (.iadd, 1) := by decide +kernel
theorem dL_law_1307 : decode cL_law 1307 = .ok (.iaload, 1) := by decide +kernel
theorem dL_law_1308 : decode cL_law 1308 = .ok (.invokevirtual 154, 3) := by decide +kernel
theorem dL_law_1311 : decode cL_law 1311 = .ok (.if_icmp .eq 100, 3) := by decide +kernel
theorem dL_law_1314 : decode cL_law 1314 = .ok (.iconst 0, 1) := by decide +kernel
theorem dL_law_1315 : decode cL_law 1315 = .ok (.ireturn, 1) := by decide +kernel
theorem dL_law_1316 : decode cL_law 1316 = .ok (.aload_n 1, 1) := by decide +kernel
theorem dL_law_1317 : decode cL_law 1317 = .ok (.aload_n 0, 1) := by decide +kernel
theorem dL_law_1318 : decode cL_law 1318 = .ok (.iload_n 3, 1) := by decide +kernel
theorem dL_law_1319 : decode cL_law 1319 = .ok (.iconst 1, 1) := by decide +kernel
theorem dL_law_1320 : decode cL_law 1320 = .ok (.iadd, 1) := by decide +kernel
theorem dL_law_1321 : decode cL_law 1321 = .ok (.iaload, 1) := by decide +kernel
theorem dL_law_1322 : decode cL_law 1322 = .ok (.invokevirtual 155, 3) := by decide +kernel
theorem dL_law_1325 : decode cL_law 1325 = .ok (.aload_n 2, 1) := by decide +kernel
theorem dL_law_1326 : decode cL_law 1326 = .ok (.aload_n 0, 1) := by decide +kernel
theorem dL_law_1327 : decode cL_law 1327 = .ok (.iload_n 3, 1) := by decide +kernel
theorem dL_law_1328 : decode cL_law 1328 = .ok (.iconst 1, 1) := by decide +kernel
theorem dL_law_1329 : decode cL_law 1329 = .ok (.iadd, 1) := by decide +kernel
theorem dL_law_1330 : decode cL_law 1330 = .ok (.iaload, 1) := by decide +kernel
theorem dL_law_1331 : decode cL_law 1331 = .ok (.invokevirtual 158, 3) := by decide +kernel
theorem dL_law_1334 : decode cL_law 1334 = .ok (.if_icmp .eq 77, 3) := by decide +kernel
theorem dL_law_1337 : decode cL_law 1337 = .ok (.iconst 0, 1) := by decide +kernel
theorem dL_law_1338 : decode cL_law 1338 = .ok (.ireturn, 1) := by decide +kernel
theorem dL_law_1339 : decode cL_law 1339 = .ok (.aload_n 1, 1) := by decide +kernel
theorem dL_law_1340 : decode cL_law 1340 = .ok (.aload_n 0, 1) := by decide +kernel
theorem dL_law_1341 : decode cL_law 1341 = .ok (.iload_n 3, 1) := by decide +kernel
theorem dL_law_1342 : decode cL_law 1342 = .ok (.iconst 1, 1) := by decide +kernel
theorem dL_law_1343 : decode cL_law 1343 = .ok (.iadd, 1) := by decide +kernel
theorem dL_law_1344 : decode cL_law 1344 = .ok (.iaload, 1) := by decide +kernel
theorem dL_law_1345 : decode cL_law 1345 = .ok (.invokevirtual 159, 3) := by decide +kernel
theorem dL_law_1348 : decode cL_law 1348 = .ok (.aload_n 2, 1) := by decide +kernel
theorem dL_law_1349 : decode cL_law 1349 = .ok (.aload_n 0, 1) := by decide +kernel
theorem dL_law_1350 : decode cL_law 1350 = .ok (.iload_n 3, 1) := by decide +kernel
theorem dL_law_1351 : decode cL_law 1351 = .ok (.iconst 1, 1) := by decide +kernel
theorem dL_law_1352 : decode cL_law 1352 = .ok (.iadd, 1) := by decide +kernel
theorem dL_law_1353 : decode cL_law 1353 = .ok (.iaload, 1) := by decide +kernel
theorem dL_law_1354 : decode cL_law 1354 = .ok (.invokevirtual 162, 3) := by decide +kernel
theorem dL_law_1357 : decode cL_law 1357 = .ok (.if_icmp .eq 54, 3) := by decide +kernel
theorem dL_law_1360 : decode cL_law 1360 = .ok (.iconst 0, 1) := by decide +kernel
theorem dL_law_1361 : decode cL_law 1361 = .ok (.ireturn, 1) := by decide +kernel
theorem dL_law_1362 : decode cL_law 1362 = .ok (.aload_n 1, 1) := by decide +kernel
theorem dL_law_1363 : decode cL_law 1363 = .ok (.invokevirtual 163, 3) := by decide +kernel
theorem dL_law_1366 : decode cL_law 1366 = .ok (.aload_n 2, 1) := by decide +kernel
theorem dL_law_1367 : decode cL_law 1367 = .ok (.invokevirtual 166, 3) := by decide +kernel
theorem dL_law_1370 : decode cL_law 1370 = .ok (.if_icmp .eq 41, 3) := by decide +kernel
theorem dL_law_1373 : decode cL_law 1373 = .ok (.iconst 0, 1) := by decide +kernel
theorem dL_law_1374 : decode cL_law 1374 = .ok (.ireturn, 1) := by decide +kernel
theorem dL_law_1375 : decode cL_law 1375 = .ok (.aload_n 1, 1) := by decide +kernel
theorem dL_law_1376 : decode cL_law 1376 = .ok (.invokevirtual 167, 3) := by decide +kernel
theorem dL_law_1379 : decode cL_law 1379 = .ok (.aload_n 2, 1) := by decide +kernel
theorem dL_law_1380 : decode cL_law 1380 = .ok (.invokevirtual 170, 3) := by decide +kernel
theorem dL_law_1383 : decode cL_law 1383 = .ok (.if_icmp .eq 28, 3) := by decide +kernel
theorem dL_law_1386 : decode cL_law 1386 = .ok (.iconst 0, 1) := by decide +kernel
theorem dL_law_1387 : decode cL_law 1387 = .ok (.ireturn, 1) := by decide +kernel
theorem dL_law_1388 : decode cL_law 1388 = .ok (.aload_n 1, 1) := by decide +kernel
theorem dL_law_1389 : decode cL_law 1389 = .ok (.aload_n 0, 1) := by decide +kernel
theorem dL_law_1390 : decode cL_law 1390 = .ok (.iload_n 3, 1) := by decide +kernel
theorem dL_law_1391 : decode cL_law 1391 = .ok (.iconst 1, 1) := by decide +kernel
theorem dL_law_1392 : decode cL_law 1392 = .ok (.iadd, 1) := by decide +kernel
theorem dL_law_1393 : decode cL_law 1393 = .ok (.iaload, 1) := by decide +kernel
theorem dL_law_1394 : decode cL_law 1394 = .ok (.invokevirtual 171, 3) := by decide +kernel
theorem dL_law_1397 : decode cL_law 1397 = .ok (.aload_n 2, 1) := by decide +kernel
theorem dL_law_1398 : decode cL_law 1398 = .ok (.aload_n 0, 1) := by decide +kernel
theorem dL_law_1399 : decode cL_law 1399 = .ok (.iload_n 3, 1) := by decide +kernel
theorem dL_law_1400 : decode cL_law 1400 = .ok (.iconst 1, 1) := by decide +kernel
theorem dL_law_1401 : decode cL_law 1401 = .ok (.iadd, 1) := by decide +kernel
theorem dL_law_1402 : decode cL_law 1402 = .ok (.iaload, 1) := by decide +kernel
theorem dL_law_1403 : decode cL_law 1403 = .ok (.invokevirtual 174, 3) := by decide +kernel
theorem dL_law_1406 : decode cL_law 1406 = .ok (.if_icmp .eq 5, 3) := by decide +kernel
theorem dL_law_1409 : decode cL_law 1409 = .ok (.iconst 0, 1) := by decide +kernel
theorem dL_law_1410 : decode cL_law 1410 = .ok (.ireturn, 1) := by decide +kernel
theorem dL_law_1411 : decode cL_law 1411 = .ok (.iinc 3 6, 3) := by decide +kernel
theorem dL_law_1414 : decode cL_law 1414 = .ok (.goto (-1396), 3) := by decide +kernel
theorem dL_law_1417 : decode cL_law 1417 = .ok (.iconst 1, 1) := by decide +kernel
theorem dL_law_1418 : decode cL_law 1418 = .ok (.ireturn, 1) := by decide +kernel
end
section
abbrev XS : Type := Nat → Nat → Int32
abbrev GT : Type := Nat × Heap × va_G × (Nat → ClassId) × (Nat → Nat)
def wr (x : XS) (i k : Nat) (v : Int32) : XS := fun j => if j = i then upd (x i) k v else x j
def tgL : List Nat := [6, 15, 4, 9, 3, 12, 16, 0, 0, 0, 0, 0, 0, 0, 0, 3, 12, 16, 0, 0, 0, 0, 0, 0, 0, 0, 3, 12, 16, 0, 0, 0, 0, 0, 0, 0, 0, 13, 14, 8, 8, 5, 8, 5, 8, 5, 8, 5, 8, 5, 8, 5, 8, 5, 8, 5, 8, 5, 8, 5, 8, 5, 8, 5, 8, 5, 8, 5, 8, 5, 8, 1, 8, 1, 8, 1, 8, 1, 8, 2, 0, 1, 8, 2, 0, 1, 8, 2, 0, 1, 8, 2, 0, 1, 8, 2, 0, 1, 8, 7, 8, 8, 8, 8, 8, 10, 8, 8, 8, 11, 8, 8, 8, 8, 8, 8, 8, 8, 8, 8, 8]
def lnL : List Nat := [0, 15, 0, 96, 0, 8, 3, 0, 0, 0, 0, 0, 0, 0, 0, 0, 8, 3, 0, 0, 0, 0, 0, 0, 0, 0, 0, 8, 3, 0, 0, 0, 0, 0, 0, 0, 0, 4, 5, 60, 96, 0, 96, 0, 96, 0, 96, 0, 96, 0, 96, 0, 96, 0, 96, 0, 96, 0, 96, 0, 96, 0, 96, 0, 96, 0, 96, 0, 96, 0, 96, 0, 24, 0, 24, 0, 24, 0, 24, 0, 0, 0, 24, 0, 0, 0, 24, 0, 0, 0, 24, 0, 0, 0, 24, 0, 0, 0, 24, 0, 1437, 1437, 1437, 65, 96, 12, 4, 96, 96, 10, 96, 4, 4, 4, 96, 5, 5, 5, 120, 24, 60]
def tg (i : Nat) : Nat := tgL.getD i 99
def ln (i : Nat) : Nat := lnL.getD i 0
def rf (T a k : Nat) : Option Nat := match T with
  | 1 => match k with | 2 => some (a + 1) | _ => none
  | 2 => match k with | 2 => some (a + 1) | 3 => some (a + 2) | _ => none
  | 3 => match k with | 0 => some (a + 1) | 1 => some (a + 2) | _ => none
  | 4 => match k with | 1 => some (a + 1) | _ => none
  | 5 => match k with | 4 => some (a + 1) | 5 => some 40 | _ => none
  | 6 => match k with | 0 => some 1 | 1 => some 2 | 2 => some 4 | 3 => some 15 | 4 => some 26 | 5 => some 37 | 6 => some 38 | 7 => some 39 | _ => none
  | 7 => match k with | 0 => some 100 | 1 => some 101 | 2 => some 102 | 5 => some 103 | 6 => some 104 | 14 => some 105 | 15 => some 106 | 16 => some 107 | 19 => some 108 | 21 => some 109 | 22 => some 110 | 23 => some 111 | 24 => some 112 | 25 => some 113 | 26 => some 114 | 27 => some 115 | 28 => some 116 | 29 => some 117 | 30 => some 118 | 31 => some 119 | 32 => some 120 | _ => none
  | 12 => some (a + 2 + k)
  | 13 => some (71 + 2 * k)
  | 14 => some (79 + 4 * k)
  | 15 => some (41 + 2 * k)
  | _ => none
def nf (T : Nat) : Nat := match T with
  | 0 => 7 | 1 => 3 | 2 => 4 | 3 => 12 | 4 => 6 | 5 => 6 | 6 => 10 | _ => 34
def lwv (b : Nat) (v : Int32) : Value := if v = 0 then .null else .ref (b + v.toNatClampNeg)
def vw (b : Nat) (x : XS) (a k : Nat) : Value := if tg a = 16 then lwv b (x a k) else match rf (tg a) a k with
  | some j => .ref (b + j)
  | none => .int (x a k)
def cOK (G : GT) (x : XS) (a : Nat) (H : Heap) : Prop := if tg a < 8 then t_OB (G.1 + a) (G.2.2.1.1 (tg a)) (nf (tg a)) (G.2.2.1.2 (tg a)) H (vw G.1 x a) else H[G.1 + a]? = some (arrV (G.2.2.2.1 (tg a)) (ln a) (vw G.1 x a))
def RP (G : GT) (x : XS) (H : Heap) : Prop := H.size = G.1 + 121 ∧ (∀ q : Nat, q < G.1 → H[q]? = G.2.1[q]?) ∧ ∀ a : Nat, a < 121 → cOK G x a H
def SR (G : GT) (x : XS) (H : Heap) (locs : List Loc) : Prop := RP G x H ∧ ∀ q ∈ locs, G.1 ≤ q.base
abbrev tysG (G : GT) : List (ClassId × FieldType) := [(G.2.2.2.1 8, .int), (G.2.2.2.1 9, .byte), (G.2.2.2.1 10, .char), (G.2.2.2.1 11, .boolean), (G.2.2.2.1 12, .object "ShoeCorner$Boy"), (G.2.2.2.1 13, .object "ShoeCorner$Sheet"), (G.2.2.2.1 14, .object "ShoeCorner$Slot"), (G.2.2.2.1 15, .object "ShoeCorner$Text"), (G.2.2.2.1 16, .object "ShoeCorner$Text")]
def AB (G : GT) : Nat → Prop := fun q => G.1 ≤ q
abbrev slen : List Nat := [5, 3, 4, 3, 2, 2]
abbrev sbyt : List (List Int32) := [[115, 104, 105, 110, 101], [102, 101, 101], [102, 105, 110, 101], [114, 100, 112], [108, 115], [112, 100]]
abbrev sAbove : List Int32 := [-1, 0, 0, 1, 2, 0]
/-- what lies below the law's start: the static table of kinds, the texts' constants, what the library's classes hold -/
def EK (G : GT) (U : State) : Prop := va_Z "ShoeCorner$Kinds" "ABOVE" "[I" (.ref (G.2.2.2.2 0)) (AB G) U G.2.1 ∧ va_T .int (G.2.2.2.2 0) 6 (fun j => .int (sAbove.getD j 0)) (AB G) U G.2.1 ∧ vk_S 6 slen sbyt (fun i => G.2.2.2.2 (1 + i)) (fun i => G.2.2.2.2 (7 + i)) (AB G) U G.2.1 ∧ (vk_R "ShoeCorner$Tape" 48 "shine" (G.2.2.2.2 1) U ∧ vk_R "ShoeCorner$Tape" 54 "fee" (G.2.2.2.2 2) U ∧ vk_R "ShoeCorner$Tape" 56 "fine" (G.2.2.2.2 3) U ∧ vk_R "ShoeCorner$Text" 45 "rdp" (G.2.2.2.2 4) U ∧ vk_R "ShoeCorner$Text" 47 "ls" (G.2.2.2.2 5) U ∧ vk_R "ShoeCorner$Text" 49 "pd" (G.2.2.2.2 6) U) ∧ va_Z "java/lang/String" "COMPACT_STRINGS" "Z" (.int 1) (AB G) U G.2.1 ∧ va_Zq "jdk/internal/util/Preconditions" "SIOOBE_FORMATTER" "Ljava/util/function/BiFunction;" (AB G) U G.2.1
def GK (G : GT) (U : State) : Prop := va_K G.2.2.1 vwCl (tysG G) U ∧ EK G U ∧ G.2.1.size = G.1
theorem EK.warm {G : GT} {u U : State} (hW : u.WarmedH U.vm) (h : EK G u) : EK G U := ⟨h.1.moved hW.alike, h.2.1.moved hW.alike, h.2.2.1.moved hW.alike, ⟨h.2.2.2.1.1.warm hW, h.2.2.2.1.2.1.warm hW, h.2.2.2.1.2.2.1.warm hW, h.2.2.2.1.2.2.2.1.warm hW, h.2.2.2.1.2.2.2.2.1.warm hW, h.2.2.2.1.2.2.2.2.2.warm hW⟩, h.2.2.2.2.1.moved hW.alike, h.2.2.2.2.2.moved hW.alike⟩
theorem EK.same {G : GT} {u U : State} (hv : U.vm = u.vm) (h : EK G u) : EK G U := by
  have ha : u.vm.Alike U.vm := by rw [hv]; exact Vm.Alike.refl _
  exact ⟨h.1.moved ha, h.2.1.moved ha, h.2.2.1.moved ha, ⟨h.2.2.2.1.1.same hv, h.2.2.2.1.2.1.same hv, h.2.2.2.1.2.2.1.same hv, h.2.2.2.1.2.2.2.1.same hv, h.2.2.2.1.2.2.2.2.1.same hv, h.2.2.2.1.2.2.2.2.2.same hv⟩, h.2.2.2.2.1.moved ha, h.2.2.2.2.2.moved ha⟩
theorem GK.warm {G : GT} {u U : State} (hW : u.WarmedH U.vm) (h : GK G u) : GK G U := ⟨va_K.moved hW.alike h.1, h.2.1.warm hW, h.2.2⟩
theorem GK.same {G : GT} {u U : State} (hv : U.vm = u.vm) (h : GK G u) : GK G U := ⟨va_K.moved (by rw [hv]; exact Vm.Alike.refl _) h.1, h.2.1.same hv, h.2.2⟩
/-- the tables' words that any method may rest on -/
def gT : List Cond := lw_tbl.filter goodWord
theorem gtw {w : Cond} (i : Nat) (h : tables_1[i]? = some w) (hg : goodWord w = true) : w ∈ gT := List.mem_filter.mpr ⟨tw i h, hg⟩
theorem gts {w : Cond} (i : Nat) (h : (k2_sels lw_privs)[i]? = some w) (hg : goodWord w = true) : w ∈ gT := List.mem_filter.mpr ⟨List.mem_append_left _ (List.mem_of_getElem? h), hg⟩
theorem inG {ws : List Cond} (h : ∀ w ∈ ws, w ∈ lw_tbl) (hg : ws.all goodWord = true) : ∀ w ∈ ws, w ∈ gT := fun w hw => List.mem_filter.mpr ⟨h w hw, List.all_eq_true.mp hg w hw⟩
def CX (G : GT) (p : Program) (s : State) (m : MethodId) (args : Array Value) (meth : Method) (c : Code) (cc : ByteArray) (nL : Nat) (ret : Option FieldType) (own : String) : Prop :=
  p.tables.exec = Jvm.exec ∧ c.code = cc ∧ c.maxLocals = nL ∧ meth.sig.returnType = ret ∧ meth.locks = false ∧ s.vm.findClass own = some m.cls ∧ (∀ w ∈ gT, w.before args s = true) ∧ GK G s
theorem tg_lt {a T : Nat} (h : tg a = T) (hT : T < 99) : a < 121 := by
  by_cases hl : a < 121
  · exact hl
  · exfalso
    have : tgL.length ≤ a := by show 121 ≤ a; omega
    have e : tg a = 99 := by unfold tg; rw [List.getD_eq_getElem?_getD, List.getElem?_eq_none this]; rfl
    omega
theorem RP.obj {G : GT} {x : XS} {H : Heap} (h : RP G x H) {a T : Nat} (ht : tg a = T) (hT : T < 8) : t_OB (G.1 + a) (G.2.2.1.1 T) (nf T) (G.2.2.1.2 T) H (vw G.1 x a) := by
  have h1 := h.2.2 a (tg_lt ht (by omega))
  unfold cOK at h1
  rw [ht, if_pos hT] at h1
  exact h1
theorem RP.arr {G : GT} {x : XS} {H : Heap} (h : RP G x H) {a T : Nat} (ht : tg a = T) (hT : 8 ≤ T) (hT2 : T < 99) : H[G.1 + a]? = some (arrV (G.2.2.2.1 T) (ln a) (vw G.1 x a)) := by
  have h1 := h.2.2 a (tg_lt ht hT2)
  unfold cOK at h1
  rw [ht, if_neg (by omega)] at h1
  exact h1
theorem vwI {b : Nat} {x : XS} {a k T : Nat} (ht : tg a = T) (h16 : T ≠ 16) (hr : rf T a k = none) : vw b x a k = .int (x a k) := by
  unfold vw
  rw [ht, if_neg h16, hr]
theorem vwR {b : Nat} {x : XS} {a k T j : Nat} (ht : tg a = T) (h16 : T ≠ 16) (hr : rf T a k = some j) : vw b x a k = .ref (b + j) := by
  unfold vw
  rw [ht, if_neg h16, hr]
theorem vwL {b : Nat} {x : XS} {a k : Nat} (ht : tg a = 16) : vw b x a k = lwv b (x a k) := by
  unfold vw
  rw [if_pos ht]
theorem wr_ne {x : XS} {i k j : Nat} {v : Int32} (h : j ≠ i) : wr x i k v j = x j := by
  unfold wr
  rw [if_neg h]
theorem wr_self {x : XS} {i k : Nat} {v : Int32} : wr x i k v i = upd (x i) k v := by
  unfold wr
  rw [if_pos rfl]
theorem vw_congr {b : Nat} {x y : XS} {a : Nat} (h : x a = y a) : vw b x a = vw b y a := by
  funext k
  unfold vw
  rw [h]
theorem cOK.kept {G : GT} {x y : XS} {a : Nat} {H H1 : Heap} (h : cOK G x a H) (hx : x a = y a) (hH : H1[G.1 + a]? = H[G.1 + a]?) : cOK G y a H1 := by
  unfold cOK at h ⊢
  rw [← vw_congr hx]
  by_cases ht : tg a < 8
  · rw [if_pos ht] at h ⊢
    exact h.kept hH
  · rw [if_neg ht] at h ⊢
    rw [hH]; exact h
theorem SR.put {G : GT} {x y : XS} {H H1 : Heap} {locs : List Loc} {a : Nat} (h : SR G x H locs) (hx : ∀ j, j ≠ a → x j = y j) (hc : cOK G y a H1) (z : H1.size = H.size) (oq : ∀ q : Nat, q ≠ G.1 + a → H1[q]? = H[q]?) (k : Nat) : SR G y H1 (locs ++ [⟨G.1 + a, k⟩]) := by
  refine ⟨⟨by rw [z]; exact h.1.1, fun q hq => by rw [oq q (by omega)]; exact h.1.2.1 q hq, fun j hj => ?_⟩, fun q hq => ?_⟩
  · by_cases e : j = a
    · subst e; exact hc
    · exact (h.1.2.2 j hj).kept (hx j e) (oq _ (by omega))
  · rcases List.mem_append.mp hq with h1 | h1
    · exact h.2 q h1
    · rw [List.mem_singleton.mp h1]; exact Nat.le_add_right _ _
abbrev ix (i : Int32) : Nat := i.toNatClampNeg
def inb (i : Int32) (n : Nat) : Bool := decide (¬ (i < 0 ∨ n ≤ i.toNatClampNeg))
def gd {α : Type} (c : Bool) (k : Option α) : Option α := if c then k else none
theorem gd_out {α : Type} {c : Bool} {k : Option α} {r : α} (h : gd c k = some r) : c = true ∧ k = some r := by
  cases c with
  | true => exact ⟨rfl, h⟩
  | false => exact absurd h (by intro q; cases q)
def st_ {α β : Type} (a : α) (k : α → β) : β := k a
theorem st_out {α β : Type} {a : α} {k : α → β} {r : β} (h : st_ a k = r) : ∃ y, y = a ∧ k y = r := ⟨a, rfl, h⟩
def bd {α β : Type} (o : Option (α × XS)) (k : α → XS → Option β) : Option β := match o with
  | some q => k q.1 q.2
  | none => none
theorem bd_out {α β : Type} {o : Option (α × XS)} {k : α → XS → Option β} {r : β} (h : bd o k = some r) : ∃ v y, o = some (v, y) ∧ k v y = some r := by
  cases o with
  | none => exact absurd h (by intro q; cases q)
  | some q => exact ⟨q.1, q.2, rfl, h⟩
theorem if_p {α : Type} {c : Prop} [Decidable c] {a b : α} {r : α} (hc : c) (h : (if c then a else b) = r) : a = r := by rw [if_pos hc] at h; exact h
theorem if_n {α : Type} {c : Prop} [Decidable c] {a b : α} {r : α} (hc : ¬ c) (h : (if c then a else b) = r) : b = r := by rw [if_neg hc] at h; exact h
section RW
variable {p : Program} {l : Launch} {e : Env} {R : Room} {s : State} {m : MethodId} {args : Array Value} {below : List Frame} {meth : Method} {c : Code} {H : Heap} {locs : List Loc} {cells slots : Nat} {Q : State → Prop} {cc : ByteArray} {nL : Nat} {ret : Option FieldType} {own : String} {G : GT} {x : XS} {pc : Nat} {ls : Array Slot} {rest : List Value} {a : Nat}
theorem gV (C : CX G p s m args meth c cc nL ret own) (hS : SR G x H locs) {T : Nat} (ht : tg a = T) {Cn : String} {Tb : u_T} {N : Nat} (hc : vwCl[T]? = some (Cn, Tb, N)) (hN : N = nf T) (hin : ∀ w ∈ u_ws Cn Tb N, w ∈ gT) (k : Nat) (hk : k < N) {index : Nat} {ref nm ds : String} (hT3 : ((Tb k).1, (Tb k).2.1, (Tb k).2.2.1) = (ref, nm, ds)) (hlink : Cond.fieldLink own index ref nm ds ∈ gT) {v : Value} (hv : vw G.1 x a k = v) (hdg : decode cc pc = .ok (.getfield index, 3))
    (kk : W p l e R s m args below meth c H locs cells slots Q (F0 m (pc + 3) ls (v :: rest))) : W p l e R s m args below meth c H locs cells slots Q (F0 m pc ls (.ref (G.1 + a) :: rest)) := by
  obtain ⟨hx, hb, -, -, -, hown, hw, hK, -⟩ := C
  obtain ⟨cell, q1, q2, q3, q4⟩ := hS.1.obj ht (List.getElem?_eq_some_iff.mp hc).1
  obtain ⟨hSl, hfc, kC, hkC, hkind⟩ := hK.1 T _ hc
  obtain ⟨cf, kf, fi, f, hi, hsl⟩ := hSl k hk
  have e1 : (Tb k).1 = ref := congrArg (fun z => z.1) hT3
  have e2 : (Tb k).2.1 = nm := congrArg (fun z => z.2.1) hT3
  have e3 : (Tb k).2.2.1 = ds := congrArg (fun z => z.2.2) hT3
  have hst := (u_facts hfc hkC (u_lays hw hin hk) hi).1
  refine W.getf hx hb hown (hw _ hlink) (by rw [← e1, ← e2, ← e3]; exact hi) hst q1 (by rw [q3]; exact fun h => by cases h) (v := v) ?_ rfl rfl hdg kk
  rw [hsl, q4 k (by omega), hv]
theorem vw_upd {b : Nat} {v : Int32} {k T : Nat} (ht : tg a = T) (h16 : T ≠ 16) (hr : rf T a k = none) : updV (vw b x a) k (.int v) = vw b (wr x a k v) a := by
  funext j
  by_cases hjk : j = k
  · subst hjk
    rw [vwI ht h16 hr, wr_self]
    simp [updV, upd]
  · simp only [updV, if_neg hjk]
    unfold vw
    rw [wr_self]
    simp [upd, hjk]
theorem pV (C : CX G p s m args meth c cc nL ret own) (hS : SR G x H locs) {T : Nat} (ht : tg a = T) {Cn : String} {Tb : u_T} {N : Nat} (hc : vwCl[T]? = some (Cn, Tb, N)) (hN : N = nf T) (hin : ∀ w ∈ u_ws Cn Tb N, w ∈ gT) (ty0 : Nat → FieldType) (hty : ∀ k, k < N → parseFieldDescriptor (Tb k).2.2.1 = some (ty0 k)) (hnm : ∀ a, a < N → ∀ b, b < N → a ≠ b → (Tb a).2.1 ≠ (Tb b).2.1) (k : Nat) (hk : k < N) {index : Nat} {ref nm ds : String} (hT3 : Tb k = (ref, nm, ds, false)) (hlink : Cond.fieldLink own index ref nm ds ∈ gT) {ty : FieldType} {v : Int32} (hd : ty0 k = ty) (hn : narrow ty (.int v) = .int v) (hfit : fits ty (.int v) = true) (hr : rf T a k = none) {y : XS} (hy : y = wr x a k v) (hdg : decode cc pc = .ok (.putfield index, 3))
    (kk : ∀ (H1 : Heap) (locs1 : List Loc), SR G y H1 locs1 → W p l e R s m args below meth c H1 locs1 cells slots Q (F0 m (pc + 3) ls rest)) : W p l e R s m args below meth c H locs cells slots Q (F0 m pc ls (.int v :: .ref (G.1 + a) :: rest)) := by
  subst hy
  obtain ⟨hx, hb, -, -, -, hown, hw, hK, -⟩ := C
  have hT8 : T < 8 := (List.getElem?_eq_some_iff.mp hc).1
  have hap := va_apart (own := own) hw hin ty0 hty hnm hK hc
  obtain ⟨cell, q1, q2, q3, q4⟩ := hS.1.obj ht hT8
  obtain ⟨hSl, hfc, kC, hkC, hkind⟩ := hK.1 T _ hc
  obtain ⟨cf, kf, fi, f, hi, hsl⟩ := hSl k hk
  have e1 : (Tb k).1 = ref := congrArg (fun z => z.1) hT3
  have e2 : (Tb k).2.1 = nm := congrArg (fun z => z.2.1) hT3
  have e3 : (Tb k).2.2.1 = ds := congrArg (fun z => z.2.2.1) hT3
  have e4 : (Tb k).2.2.2 = false := congrArg (fun z => z.2.2.2) hT3
  have hlay := hw _ (hin _ (u_in_lay hk))
  unfold u_lay at hlay
  rw [if_neg (by rw [e4]; decide)] at hlay
  have hst := (u_facts hfc hkC (u_lays hw hin hk) hi).1
  have h6 := u_store hfc hkC hkind hlay hi (by rw [hty k hk, hd]) hn hfit
  refine W.putK hx hb (f := f) ⟨hown, hw _ hlink, ⟨_, _, _, by rw [← e1, ← e2, ← e3]; exact hi⟩, hst⟩ (by rw [q2]; exact h6) q1 q3 (by rw [hsl]; exact k2_hasslot (q4 k (by omega))) rfl rfl hdg fun H' d1 d2 d3 => ?_
  rw [hsl] at d1 ⊢
  refine kk H' _ (hS.put (a := a) (fun j hj => (wr_ne hj).symm) ?_ d2 d3 _)
  unfold cOK
  rw [ht, if_pos hT8]
  refine t_OB.to (V := updV (vw G.1 x a) k (.int v)) ⟨_, d1, q2, q3, t_set q4 (fun x y hx hy => hap x y (by omega) (by omega)) (by omega) _⟩ (fun j _ => ?_)
  exact congrFun (vw_upd ht (by omega) hr) j
theorem alI (C : CX G p s m args meth c cc nL ret own) (hS : SR G x H locs) (ht : tg a = 8) {n : Nat} (hn : ln a = n) {i : Int32} (hi : inb i n = true) (hdg : decode cc pc = .ok (.iaload, 1))
    (kk : W p l e R s m args below meth c H locs cells slots Q (F0 m (pc + 1) ls (.int (x a (ix i)) :: rest))) : W p l e R s m args below meth c H locs cells slots Q (F0 m pc ls (.int i :: .ref (G.1 + a) :: rest)) := by
  obtain ⟨hx, hb, -, -, -, hown, hw, hK, -⟩ := C
  have hin := of_decide_eq_true hi
  have hlt : i.toNatClampNeg < n := Nat.not_le.mp fun q => hin (Or.inr q)
  have hc := hS.1.arr ht (by omega) (by omega)
  rw [hn] at hc
  exact W.iald (v := .int (x a (ix i))) hx hb hc ((hK.2 0 _ rfl).1 n _) (fun q => by cases q) (by rw [arrV_size]; exact hin) (by rw [arrV_read _ _ hlt, vwI ht (by omega) rfl]) rfl rfl hdg kk
theorem alB (C : CX G p s m args meth c cc nL ret own) (hS : SR G x H locs) (ht : tg a = 9) {n : Nat} (hn : ln a = n) {i : Int32} (hi : inb i n = true) (hdg : decode cc pc = .ok (.baload, 1))
    (kk : W p l e R s m args below meth c H locs cells slots Q (F0 m (pc + 1) ls (.int (x a (ix i)) :: rest))) : W p l e R s m args below meth c H locs cells slots Q (F0 m pc ls (.int i :: .ref (G.1 + a) :: rest)) := by
  obtain ⟨hx, hb, -, -, -, hown, hw, hK, -⟩ := C
  have hin := of_decide_eq_true hi
  have hlt : i.toNatClampNeg < n := Nat.not_le.mp fun q => hin (Or.inr q)
  have hc := hS.1.arr ht (by omega) (by omega)
  rw [hn] at hc
  exact W.bald (v := .int (x a (ix i))) hx hb hc ((hK.2 1 _ rfl).1 n _) (fun q => by cases q) (by rw [arrV_size]; exact hin) (by rw [arrV_read _ _ hlt, vwI ht (by omega) rfl]) rfl rfl hdg kk
theorem alC (C : CX G p s m args meth c cc nL ret own) (hS : SR G x H locs) (ht : tg a = 10) {n : Nat} (hn : ln a = n) {i : Int32} (hi : inb i n = true) (hdg : decode cc pc = .ok (.caload, 1))
    (kk : W p l e R s m args below meth c H locs cells slots Q (F0 m (pc + 1) ls (.int (x a (ix i)) :: rest))) : W p l e R s m args below meth c H locs cells slots Q (F0 m pc ls (.int i :: .ref (G.1 + a) :: rest)) := by
  obtain ⟨hx, hb, -, -, -, hown, hw, hK, -⟩ := C
  have hin := of_decide_eq_true hi
  have hlt : i.toNatClampNeg < n := Nat.not_le.mp fun q => hin (Or.inr q)
  have hc := hS.1.arr ht (by omega) (by omega)
  rw [hn] at hc
  exact W.cald (v := .int (x a (ix i))) hx hb hc ((hK.2 2 _ rfl).1 n _) (fun q => by cases q) (by rw [arrV_size]; exact hin) (by rw [arrV_read _ _ hlt, vwI ht (by omega) rfl]) rfl rfl hdg kk
theorem alZ (C : CX G p s m args meth c cc nL ret own) (hS : SR G x H locs) (ht : tg a = 11) {n : Nat} (hn : ln a = n) {i : Int32} (hi : inb i n = true) (hdg : decode cc pc = .ok (.baload, 1))
    (kk : W p l e R s m args below meth c H locs cells slots Q (F0 m (pc + 1) ls (.int (x a (ix i)) :: rest))) : W p l e R s m args below meth c H locs cells slots Q (F0 m pc ls (.int i :: .ref (G.1 + a) :: rest)) := by
  obtain ⟨hx, hb, -, -, -, hown, hw, hK, -⟩ := C
  have hin := of_decide_eq_true hi
  have hlt : i.toNatClampNeg < n := Nat.not_le.mp fun q => hin (Or.inr q)
  have hc := hS.1.arr ht (by omega) (by omega)
  rw [hn] at hc
  exact W.zald (v := .int (x a (ix i))) hx hb hc ((hK.2 3 _ rfl).1 n _) (fun q => by cases q) (by rw [arrV_size]; exact hin) (by rw [arrV_read _ _ hlt, vwI ht (by omega) rfl]) rfl rfl hdg kk
/-- a row of references: t0 its place in tysG -/
theorem alV (C : CX G p s m args meth c cc nL ret own) (hS : SR G x H locs) {T : Nat} (ht : tg a = T) (hT : 8 ≤ T) (hT2 : T < 99) {cn : String} (t0 : Nat) (h0 : (tysG G)[t0]? = some (G.2.2.2.1 T, .object cn)) {n : Nat} (hn : ln a = n) {i : Int32} (hi : inb i n = true) {v : Value} (hv : vw G.1 x a (ix i) = v) (hdg : decode cc pc = .ok (.aaload, 1))
    (kk : W p l e R s m args below meth c H locs cells slots Q (F0 m (pc + 1) ls (v :: rest))) : W p l e R s m args below meth c H locs cells slots Q (F0 m pc ls (.int i :: .ref (G.1 + a) :: rest)) := by
  obtain ⟨hx, hb, -, -, -, hown, hw, hK, -⟩ := C
  have hin := of_decide_eq_true hi
  have hlt : i.toNatClampNeg < n := Nat.not_le.mp fun q => hin (Or.inr q)
  have hc := hS.1.arr ht hT hT2
  rw [hn] at hc
  exact W.aald (v := v) (ty := .object cn) hx hb hc ((hK.2 t0 _ h0).1 n _) rfl (fun q => by cases q) (by rw [arrV_size]; exact hin) (by rw [arrV_read _ _ hlt, hv]) rfl rfl hdg kk
theorem cOK_arr {T : Nat} (ht : tg a = T) (hT : 8 ≤ T) {y : XS} {n : Nat} (hn : ln a = n) (h : H[G.1 + a]? = some (arrV (G.2.2.2.1 T) n (vw G.1 y a))) : cOK G y a H := by
  unfold cOK
  rw [ht, if_neg (by omega), hn]
  exact h
theorem asI (C : CX G p s m args meth c cc nL ret own) (hS : SR G x H locs) (ht : tg a = 8) {n : Nat} (hn : ln a = n) {i v : Int32} (hi : inb i n = true) {y : XS} (hy : y = wr x a (ix i) v) (hdg : decode cc pc = .ok (.iastore, 1))
    (kk : ∀ (H1 : Heap) (locs1 : List Loc), SR G y H1 locs1 → W p l e R s m args below meth c H1 locs1 cells slots Q (F0 m (pc + 1) ls rest)) : W p l e R s m args below meth c H locs cells slots Q (F0 m pc ls (.int v :: .int i :: .ref (G.1 + a) :: rest)) := by
  subst hy
  obtain ⟨hx, hb, -, -, -, hown, hw, hK, -⟩ := C
  have hin := of_decide_eq_true hi
  have hc := hS.1.arr ht (by omega) (by omega)
  rw [hn] at hc
  refine W.iast hx hb hc ((hK.2 0 _ rfl).1 n _) (fun q => by cases q) (by rw [arrV_size]; exact hin) rfl rfl hdg fun H1 d1 d2 d3 => ?_
  refine kk H1 _ (hS.put (a := a) (fun j hj => (wr_ne hj).symm) (cOK_arr ht (by omega) hn ?_) d2 d3 _)
  rw [d1, arrV_store, vw_upd ht (by omega) rfl]
theorem asB (C : CX G p s m args meth c cc nL ret own) (hS : SR G x H locs) (ht : tg a = 9) {n : Nat} (hn : ln a = n) {i v : Int32} (hi : inb i n = true) {y : XS} (hy : y = wr x a (ix i) v.toInt8.toInt32) (hdg : decode cc pc = .ok (.bastore, 1))
    (kk : ∀ (H1 : Heap) (locs1 : List Loc), SR G y H1 locs1 → W p l e R s m args below meth c H1 locs1 cells slots Q (F0 m (pc + 1) ls rest)) : W p l e R s m args below meth c H locs cells slots Q (F0 m pc ls (.int v :: .int i :: .ref (G.1 + a) :: rest)) := by
  subst hy
  obtain ⟨hx, hb, -, -, -, hown, hw, hK, -⟩ := C
  have hin := of_decide_eq_true hi
  have hc := hS.1.arr ht (by omega) (by omega)
  rw [hn] at hc
  refine W.bast hx hb hc ((hK.2 1 _ rfl).1 n _) (fun q => by cases q) (by rw [arrV_size]; exact hin) rfl rfl hdg fun H1 d1 d2 d3 => ?_
  refine kk H1 _ (hS.put (a := a) (fun j hj => (wr_ne hj).symm) (cOK_arr ht (by omega) hn ?_) d2 d3 _)
  rw [d1, arrV_store]
  exact congrArg (fun z => some (arrV _ _ z)) (vw_upd (v := v.toInt8.toInt32) ht (by omega) rfl)
theorem asZ (C : CX G p s m args meth c cc nL ret own) (hS : SR G x H locs) (ht : tg a = 11) {n : Nat} (hn : ln a = n) {i v : Int32} (hi : inb i n = true) {y : XS} (hy : y = wr x a (ix i) (vp_nar .boolean v)) (hdg : decode cc pc = .ok (.bastore, 1))
    (kk : ∀ (H1 : Heap) (locs1 : List Loc), SR G y H1 locs1 → W p l e R s m args below meth c H1 locs1 cells slots Q (F0 m (pc + 1) ls rest)) : W p l e R s m args below meth c H locs cells slots Q (F0 m pc ls (.int v :: .int i :: .ref (G.1 + a) :: rest)) := by
  subst hy
  obtain ⟨hx, hb, -, -, -, hown, hw, hK, -⟩ := C
  have hin := of_decide_eq_true hi
  have hc := hS.1.arr ht (by omega) (by omega)
  rw [hn] at hc
  refine W.zast hx hb hc ((hK.2 3 _ rfl).1 n _) (fun q => by cases q) (by rw [arrV_size]; exact hin) rfl rfl hdg fun H1 d1 d2 d3 => ?_
  refine kk H1 _ (hS.put (a := a) (fun j hj => (wr_ne hj).symm) (cOK_arr ht (by omega) hn ?_) d2 d3 _)
  rw [d1, arrV_store]
  exact congrArg (fun z => some (arrV _ _ z)) (vw_upd (v := vp_nar .boolean v) ht (by omega) rfl)
theorem alN (C : CX G p s m args meth c cc nL ret own) (hS : SR G x H locs) {T : Nat} (ht : tg a = T) (hT : 8 ≤ T) (hT2 : T < 99) {ty : FieldType} (t0 : Nat) (h0 : (tysG G)[t0]? = some (G.2.2.2.1 T, ty)) {n : Nat} (hn : ln a = n) {v : Int32} (hv : Int32.ofNat n = v) (hdg : decode cc pc = .ok (.arraylength, 1))
    (kk : W p l e R s m args below meth c H locs cells slots Q (F0 m (pc + 1) ls (.int v :: rest))) : W p l e R s m args below meth c H locs cells slots Q (F0 m pc ls (.ref (G.1 + a) :: rest)) := by
  obtain ⟨hx, hb, -, -, -, hown, hw, hK, -⟩ := C
  have hc := hS.1.arr ht hT hT2
  rw [hn] at hc
  exact W.alen hx hb hc ((hK.2 t0 _ h0).1 n _) (by rw [arrV_size]; exact hv) rfl rfl hdg kk
def lawok (v : Int32) : Bool := decide (v = 0) || (tg (ix v) == 5)
theorem vw_updL {b : Nat} {v : Int32} {k : Nat} (ht : tg a = 16) : updV (vw b x a) k (lwv b v) = vw b (wr x a k v) a := by
  funext j
  by_cases hjk : j = k
  · subst hjk
    rw [vwL ht, wr_self]
    simp [updV, upd]
  · simp only [updV, if_neg hjk]
    unfold vw
    rw [wr_self]
    simp [upd, hjk]
theorem asL (C : CX G p s m args meth c cc nL ret own) (hS : SR G x H locs) (ht : tg a = 16) {n : Nat} (hn : ln a = n) {i v : Int32} (hi : inb i n = true) (hv : lawok v = true) {y : XS} (hy : y = wr x a (ix i) v) (hdg : decode cc pc = .ok (.aastore, 1))
    (kk : ∀ (H1 : Heap) (locs1 : List Loc), SR G y H1 locs1 → W p l e R s m args below meth c H1 locs1 cells slots Q (F0 m (pc + 1) ls rest)) : W p l e R s m args below meth c H locs cells slots Q (F0 m pc ls (lwv G.1 v :: .int i :: .ref (G.1 + a) :: rest)) := by
  subst hy
  obtain ⟨hx, hb, -, -, -, hown, hw, hK, -⟩ := C
  have hin := of_decide_eq_true hi
  have hlt : i.toNatClampNeg < n := Nat.not_le.mp fun q => hin (Or.inr q)
  have hc := hS.1.arr ht (by omega) (by omega)
  rw [hn] at hc
  by_cases h0 : v = 0
  · subst h0
    have ev : lwv G.1 0 = .null := by simp [lwv]
    rw [ev]
    refine va_WaastN (C := "ShoeCorner$Text") hx hb hc ((hK.2 8 _ rfl).1 n _) (fun q => by cases q) (by rw [arrV_size]; exact hin) rfl rfl hdg fun H1 d1 d2 d3 => ?_
    refine kk H1 _ (hS.put (a := a) (fun j hj => (wr_ne hj).symm) (cOK_arr ht (by omega) hn ?_) d2 d3 _)
    rw [d1, arrV_store, ← ev, vw_updL ht]
  · have ev : lwv G.1 v = .ref (G.1 + ix v) := by simp [lwv, h0]
    have htv : tg (ix v) = 5 := by
      unfold lawok at hv
      simpa [h0] using hv
    obtain ⟨cellV, g1, g2, g3, -⟩ := hS.1.obj htv (by omega)
    have hcls := (hK.1 5 _ rfl).2
    obtain ⟨kA, comp, k1, k2, k3, -⟩ := (hK.2 8 _ rfl).2
    have hcomp : comp = G.2.2.1.1 5 := Option.some.inj (k3.symm.trans hcls.1)
    subst hcomp
    obtain ⟨kC, hkC, -⟩ := hcls.2
    rw [ev]
    refine W.aast hx hb hc (fun q h => by cases h) (fun h => by cases h) k1 k2 rfl hkC ⟨fun q => hin (Or.inl q), by rw [arrV_size]; exact hlt⟩ g1 (fun q h => by rw [g3] at h; cases h) (by rw [g2]; exact hkC) (by rw [g2]; exact va_assign hcls) rfl rfl hdg fun H1 d1 d2 d3 => ?_
    refine kk H1 _ (hS.put (a := a) (fun j hj => (wr_ne hj).symm) (cOK_arr ht (by omega) hn ?_) d2 d3 _)
    rw [d1, arrV_store, ← ev, vw_updL ht]
end RW
end
section
def QC (G : GT) (o : Option Value) (y : XS) : Array Value → State → Outcome → State → Prop := fun _ _ oc t => oc = .returned o ∧ RP G y t.heap
def PCn (G : GT) (av : List Value) (x : XS) : Array Value → State → Prop := va_Pc av (fun U => GK G U ∧ RP G x U.heap)
def Ct (G : GT) (l : Launch) (y : MethodName) (cd : Cond) (rm : Room) (av : List Value) (x : XS) (o : Option Value) (z : XS) : Prop := Met l y (cd :: gT) rm (PCn G av x) (QC G o z) 0 0 (AB G)
theorem Ct.of {G : GT} {l : Launch} {y : MethodName} {cc : ByteArray} {maxL : Nat} {ret : Option FieldType} {rm : Room} {av : List Value} {x z : XS} {o : Option Value} (hy : plainName y.cls = true) (hlen : (lg_sl av).length ≤ maxL)
    (body : ∀ (p : Program) (e : Env) (s : State) (m : MethodId) (args : Array Value) (below : List Frame) (meth : Method) (c : Code), CX G p s m args meth c cc maxL ret y.cls → ∀ ls : Array Slot, lv_has ls maxL (lv_args 0 av) → SR G x s.heap [] →
      W p l e rm s m args below meth c s.heap [] 0 0 (MQ below (QC G o z) args s 0 0 (AB G)) (F0 m 0 ls [])) : Ct G l y (.code y cc maxL ret) rm av x o z := by
  refine Met.ofW (cc := cc) (maxL := maxL) (ret := ret) hy rfl ?_
  intro p e s m args below meth c s₁ B hml hv
  obtain ⟨rfl, hK, hR⟩ := hv
  have hts := atoms_spec (ws := Cond.code y cc maxL ret :: gT) B.pre
  have hown : s.vm.findClass y.cls = some m.cls := findClass_of_methodNamed B.named
  rw [lg_entry_eq]
  exact body p e s m _ below meth c ⟨B.exec, B.bytes, hml, B.returns, B.notSynchronized, hown, fun w h => hts w (List.mem_cons_of_mem _ h), hK⟩ _ (lv_entry av hlen) ⟨hR, fun q h => by cases h⟩
theorem PCn.blind {G : GT} {av : List Value} {x : XS} : FrameBlind (PCn G av x) := fun a U g mk q => by
  obtain ⟨q0, q1, q2⟩ := q
  exact ⟨q0, GK.same rfl q1, q2⟩
theorem good_all {cd : Cond} (h : cd ∈ gT) : GoodIn gT (cd :: gT) := fun w hw => by
  have hm : w ∈ gT := by
    rcases List.mem_cons.mp hw with rfl | h1
    · exact h
    · exact h1
  exact ⟨hm, good_of_word ((List.mem_filter.mp hm).2)⟩
section RC
variable {p : Program} {l : Launch} {e : Env} {R : Room} {s : State} {m : MethodId} {args : Array Value} {below : List Frame} {meth : Method} {c : Code} {H : Heap} {locs : List Loc} {cells slots : Nat} {Q : State → Prop} {cc : ByteArray} {nL : Nat} {ret : Option FieldType} {own : String} {G : GT} {x z : XS} {pc : Nat} {ls : Array Slot} {rest st0 : List Value} {a : Nat}
theorem rcK {o : Option Value} {av : Array Value} (hr : va_Run p l e R s m args below meth c H locs cells slots 0 0 (F0 m pc ls st0) rest (QC G o z av) (AB G)) (hS : SR G x H locs)
    (kk : ∀ (H1 : Heap) (locs1 : List Loc), SR G z H1 locs1 → W p l e R s m args below meth c H1 locs1 cells slots Q (F0 m (pc + 3) ls (o.toList ++ rest))) : W p l e R s m args below meth c H locs cells slots Q (F0 m pc ls st0) := by
  intro T hT X
  obtain ⟨v, st₀, t, T', L, h0, X', hL, e1, e2, ⟨hv, hR⟩, st⟩ := hr T hT X
  cases hv
  obtain ⟨t2, a1, b1⟩ := kk T'.heap (locs ++ L) ⟨by rw [e1]; exact hR, fun q hq => by
      rcases List.mem_append.mp hq with h | h
      · exact hS.2 q h
      · exact hL q h⟩ T' rfl X'
  exact ⟨t2, st t2 a1, b1⟩
theorem rcV (C : CX G p s m args meth c cc nL ret own) (hS : SR G x H locs) {T : Nat} (ht : tg a = T) {Cn : String} {Tb : u_T} {N : Nat} (hc : vwCl[T]? = some (Cn, Tb, N)) {y : MethodName} {bytes : ByteArray} {maxL : Nat} {rt : Option FieldType} {rm : Room} {As : List Value} {o : Option Value} (hM : Ct G l y (.code y bytes maxL rt) rm (.ref (G.1 + a) :: As) x o z)
    {index n : Nat} (hyc : y.cls = Cn) (hlink : Cond.methodLink own index y ∈ gT) (hinst : Cond.instanceMethod y ∈ gT) (hsel : Cond.selects Cn y y ∈ gT) (hini : Cond.initialized y.cls ∈ gT) (hcode : Cond.code y bytes maxL rt ∈ gT)
    (hd : y.cls ≠ "java/lang/invoke/MethodHandle" ∧ y.cls ≠ "java/lang/invoke/VarHandle" ∧ (parseMethodDescriptor y.desc).map (fun d => d.parameters.length) = some n) (hR0 : rm.cells = 0 ∧ rm.slots = 0) (hR : rm.frames + 1 ≤ R.frames ∧ 8 + (maxL + 11) + rm.locals ≤ R.locals) (hsz : ls.size = nL) (hn : As.length = n) (hst : st0 = As.reverse ++ .ref (G.1 + a) :: rest) (hW : (rest.map fun v => v.category).sum ≤ 8) (hf : cells ≤ R.cells ∧ slots ≤ R.slots) (hdg : decode cc pc = .ok (.invokevirtual index, 3))
    (kk : ∀ (H1 : Heap) (locs1 : List Loc), SR G z H1 locs1 → W p l e R s m args below meth c H1 locs1 cells slots Q (F0 m (pc + 3) ls (o.toList ++ rest))) : W p l e R s m args below meth c H locs cells slots Q (F0 m pc ls st0) := by
  obtain ⟨hx, hb, hml, -, -, hown, hw, hK⟩ := C
  subst hst
  obtain ⟨cell, q1, q2, q3, -⟩ := hS.1.obj ht (List.getElem?_eq_some_iff.mp hc).1
  have hfc := (hK.1.1 T _ hc).2.1
  refine rcK (va_runV (C := Cn) (As := As) (rest := rest) ⟨hx, hb, hml, hown, hw⟩ hM ⟨callB_of n hw (good_all hcode) rfl hR0.1 hR0.2 (hw _ hini) (hw _ hlink) hd hR, hw _ hinst, hw _ hsel⟩ ⟨PCn.blind, ⟨cell, q1, by rw [q3]; rfl, by rw [q2]; exact hfc⟩, fun U hU hWm => ⟨rfl, GK.warm hWm hK, by rw [hU]; exact hS.1⟩⟩ rfl hn hsz rfl (lv_room hW) hdg hf) hS kk
theorem rcS (C : CX G p s m args meth c cc nL ret own) (hS : SR G x H locs) {y : MethodName} {bytes : ByteArray} {maxL : Nat} {rt : Option FieldType} {rm : Room} {As : List Value} {o : Option Value} (hM : Ct G l y (.code y bytes maxL rt) rm As x o z)
    {index n : Nat} (hlink : Cond.methodLink own index y ∈ gT) (hstat : Cond.static y ∈ gT) (hini : Cond.initialized y.cls ∈ gT) (hcode : Cond.code y bytes maxL rt ∈ gT)
    (hd : y.cls ≠ "java/lang/invoke/MethodHandle" ∧ y.cls ≠ "java/lang/invoke/VarHandle" ∧ (parseMethodDescriptor y.desc).map (fun d => d.parameters.length) = some n) (hR0 : rm.cells = 0 ∧ rm.slots = 0) (hR : rm.frames + 1 ≤ R.frames ∧ 8 + (maxL + 11) + rm.locals ≤ R.locals) (hsz : ls.size = nL) (hn : As.length = n) (hst : st0 = As.reverse ++ rest) (hW : (rest.map fun v => v.category).sum ≤ 8) (hf : cells ≤ R.cells ∧ slots ≤ R.slots) (hdg : decode cc pc = .ok (.invokestatic index, 3))
    (kk : ∀ (H1 : Heap) (locs1 : List Loc), SR G z H1 locs1 → W p l e R s m args below meth c H1 locs1 cells slots Q (F0 m (pc + 3) ls (o.toList ++ rest))) : W p l e R s m args below meth c H locs cells slots Q (F0 m pc ls st0) := by
  obtain ⟨hx, hb, hml, -, -, hown, hw, hK⟩ := C
  subst hst
  refine rcK (va_runS (As := As) (rest := rest) ⟨hx, hb, hml, hown, hw⟩ hM ⟨callB_of n hw (good_all hcode) rfl hR0.1 hR0.2 (hw _ hini) (hw _ hlink) hd hR, hw _ hstat⟩ ⟨PCn.blind, fun U hU hWm => ⟨rfl, GK.warm hWm hK, by rw [hU]; exact hS.1⟩⟩ rfl hn hsz rfl (lv_room hW) hdg hf) hS kk
theorem rtI (C : CX G p s m args meth c cc nL (some .int) own) (hS : SR G x H locs) {v r : Int32} (hf : some (v, x) = some (r, z)) (hdg : decode cc pc = .ok (.ireturn, 1)) : W p l e R s m args below meth c H locs cells slots (MQ below (QC G (some (.int r)) z) args s cells slots (AB G)) (F0 m pc ls [.int v]) := by
  cases hf
  obtain ⟨hx, hb, -, hr, hlocks, -⟩ := C
  exact W.iret hx hb hr (fun t ht _ => ⟨rfl, by rw [ht]; exact hS.1⟩) hS.2 hdg hlocks
theorem rtZ (C : CX G p s m args meth c cc nL (some .boolean) own) (hS : SR G x H locs) {v r : Int32} (hn : narrow .boolean (.int v) = .int v) (hf : some (v, x) = some (r, z)) (hdg : decode cc pc = .ok (.ireturn, 1)) : W p l e R s m args below meth c H locs cells slots (MQ below (QC G (some (.int r)) z) args s cells slots (AB G)) (F0 m pc ls [.int v]) := by
  cases hf
  obtain ⟨hx, hb, -, hr, hlocks, -⟩ := C
  exact W.zret hx hb hr hn (fun t ht _ => ⟨rfl, by rw [ht]; exact hS.1⟩) hS.2 hdg hlocks
theorem rtV (C : CX G p s m args meth c cc nL none own) (hS : SR G x H locs) {r : Unit} (hf : some ((), x) = some (r, z)) (hdg : decode cc pc = .ok (.return_, 1)) : W p l e R s m args below meth c H locs cells slots (MQ below (QC G none z) args s cells slots (AB G)) (F0 m pc ls []) := by
  cases hf
  obtain ⟨hx, hb, -, hr, hlocks, -⟩ := C
  exact W.vret hx hb hr (fun t ht _ => ⟨rfl, by rw [ht]; exact hS.1⟩) hS.2 hdg hlocks
theorem rtJ (C : CX G p s m args meth c cc nL (some .long) own) (hS : SR G x H locs) {v r : Int64} (hf : some (v, x) = some (r, z)) (hdg : decode cc pc = .ok (.lreturn, 1)) : W p l e R s m args below meth c H locs cells slots (MQ below (QC G (some (.long r)) z) args s cells slots (AB G)) (F0 m pc ls [.long v]) := by
  cases hf
  obtain ⟨hx, hb, -, hr, hlocks, -⟩ := C
  exact W.lret hx hb hr (fun t ht _ => ⟨rfl, by rw [ht]; exact hS.1⟩) hS.2 hdg hlocks
theorem lwv_or (b : Nat) (v : Int32) : lwv b v = .null ∨ ∃ a, lwv b v = .ref a := by
  unfold lwv
  split
  · exact Or.inl rfl
  · exact Or.inr ⟨_, rfl⟩
theorem rtL (C : CX G p s m args meth c cc nL (some (.object "ShoeCorner$Text")) own) (hS : SR G x H locs) {v r : Int32} (hf : some (v, x) = some (r, z)) (hdg : decode cc pc = .ok (.areturn, 1)) : W p l e R s m args below meth c H locs cells slots (MQ below (QC G (some (lwv G.1 r)) z) args s cells slots (AB G)) (F0 m pc ls [lwv G.1 v]) := by
  cases hf
  obtain ⟨hx, hb, -, hr, hlocks, -⟩ := C
  exact W.aret hx hb hr (Or.inl ⟨_, rfl⟩) (lwv_or _ _) (fun t ht _ => ⟨rfl, by rw [ht]; exact hS.1⟩) hS.2 hdg hlocks
theorem topI {v y : Int32} (h : y = v) (k : W p l e R s m args below meth c H locs cells slots Q (F0 m pc ls (.int y :: rest))) : W p l e R s m args below meth c H locs cells slots Q (F0 m pc ls (.int v :: rest)) := h ▸ k
theorem topJ {v y : Int64} (h : y = v) (k : W p l e R s m args below meth c H locs cells slots Q (F0 m pc ls (.long y :: rest))) : W p l e R s m args below meth c H locs cells slots Q (F0 m pc ls (.long v :: rest)) := h ▸ k
theorem tswI (hx : p.tables.exec = Jvm.exec) (hb : c.code = cc) {dflt lo hi : Int} {offs : Array Int} {len : Nat} {v : Int32} {k : Int32} {off : Int} {tgt : Nat} (hdg : decode cc pc = .ok (.tableswitch dflt lo hi offs, len)) (hv : v = k) (h1 : decide (¬ k.toInt < lo ∧ ¬ hi < k.toInt) = true) (ho : offs[(k.toInt - lo).toNat]? = some off) (ht : (pc : Int) + off = (tgt : Int))
    (kk : W p l e R s m args below meth c H locs cells slots Q (F0 m tgt ls rest)) : W p l e R s m args below meth c H locs cells slots Q (F0 m pc ls (.int v :: rest)) := by
  subst hv
  have h2 := of_decide_eq_true h1
  exact lv_tableIn hx hb hdg h2.1 h2.2 ho ht kk
theorem lswI (hx : p.tables.exec = Jvm.exec) (hb : c.code = cc) {dflt : Int} {ps : Array (Int × Int)} {len : Nat} {v : Int32} {k : Int32} {off : Int} {tgt : Nat} (hdg : decode cc pc = .ok (.lookupswitch dflt ps, len)) (hp : (ps.toList.zip (ps.toList.drop 1)).all (fun (a, next) => a.1 < next.1) = true) (hv : v = k) (ho : Op.lookupswitch.offset ps.toList dflt k.toInt = off) (ht : (pc : Int) + off = (tgt : Int))
    (kk : W p l e R s m args below meth c H locs cells slots Q (F0 m tgt ls rest)) : W p l e R s m args below meth c H locs cells slots Q (F0 m pc ls (.int v :: rest)) := by
  subst hv
  exact lv_lookup hx hb hdg hp ho ht kk
theorem nullL (hx : p.tables.exec = Jvm.exec) (hb : c.code = cc) {v : Int32} {off : Int} {tgt : Nat} (hdg : decode cc pc = .ok (.ifnull off, 3)) (ht : (pc : Int) + off = (tgt : Int))
    (kt : v = 0 → W p l e R s m args below meth c H locs cells slots Q (F0 m tgt ls rest)) (kf : ¬ v = 0 → W p l e R s m args below meth c H locs cells slots Q (F0 m (pc + 3) ls rest)) : W p l e R s m args below meth c H locs cells slots Q (F0 m pc ls (lwv G.1 v :: rest)) := by
  by_cases h : v = 0
  · have e1 : lwv G.1 v = .null := by simp [lwv, h]
    rw [e1]
    exact lv_ifnullN hx hb hdg ht (kt h)
  · have e1 : lwv G.1 v = .ref (G.1 + ix v) := by simp [lwv, h]
    rw [e1]
    exact lv_ifnull hx hb hdg (kf h)
theorem nnulL (hx : p.tables.exec = Jvm.exec) (hb : c.code = cc) {v : Int32} {off : Int} {tgt : Nat} (hdg : decode cc pc = .ok (.ifnonnull off, 3)) (ht : (pc : Int) + off = (tgt : Int))
    (kt : ¬ v = 0 → W p l e R s m args below meth c H locs cells slots Q (F0 m tgt ls rest)) (kf : v = 0 → W p l e R s m args below meth c H locs cells slots Q (F0 m (pc + 3) ls rest)) : W p l e R s m args below meth c H locs cells slots Q (F0 m pc ls (lwv G.1 v :: rest)) := by
  by_cases h : v = 0
  · have e1 : lwv G.1 v = .null := by simp [lwv, h]
    rw [e1]
    exact lv_ifnonnullN hx hb hdg (kf h)
  · have e1 : lwv G.1 v = .ref (G.1 + ix v) := by simp [lwv, h]
    rw [e1]
    exact lv_ifnonnull hx hb hdg ht (kt h)
end RC
end
section
def isB (v : Int32) : Bool := decide (v = 0 ∨ v = 1)
theorem isB_n {v : Int32} (h : isB v = true) : narrow .boolean (.int v) = .int v := by
  rcases of_decide_eq_true h with rfl | rfl <;> rfl
theorem isB_f {v : Int32} (h : isB v = true) : fits .boolean (.int v) = true := by
  rcases of_decide_eq_true h with rfl | rfl <;> rfl
theorem giX0 : ∀ w ∈ wsX00, w ∈ gT := inG inX0 (by decide +kernel)
theorem giX2 : ∀ w ∈ wsX20, w ∈ gT := inG inX2 (by decide +kernel)
theorem giX3 : ∀ w ∈ wsX30, w ∈ gT := inG inX3 (by decide +kernel)
theorem giX4 : ∀ w ∈ wsX40, w ∈ gT := inG inX4 (by decide +kernel)
theorem giX5 : ∀ w ∈ wsX50, w ∈ gT := inG inX5 (by decide +kernel)
theorem giX6 : ∀ w ∈ wsX60, w ∈ gT := inG inX6 (by decide +kernel)
theorem giX7 : ∀ w ∈ wsX70, w ∈ gT := inG inX7 (by decide +kernel)
theorem giX8 : ∀ w ∈ wsX80, w ∈ gT := inG inX8 (by decide +kernel)
theorem ly_all : ∀ a, a < 121 → (tg a = 3 → tg (a + 1) = 12 ∧ tg (a + 2) = 16) ∧ (tg a = 12 → ln a = 8 ∧ ∀ i, i < 8 → tg (a + 2 + i) = 0) ∧ (tg a = 16 → ln a = 3) ∧ (tg a = 1 → tg (a + 1) = 8 ∧ ln (a + 1) = 24) ∧ (tg a = 2 → tg (a + 1) = 0 ∧ tg (a + 2) = 1) ∧ (tg a = 5 → tg (a + 1) = 8 ∧ ln (a + 1) = 96) := by decide +kernel
theorem st_b {a : Nat} (h : tg a = 3) : tg (a + 1) = 12 := ((ly_all a (tg_lt h (by decide))).1 h).1
theorem st_l {a : Nat} (h : tg a = 3) : tg (a + 2) = 16 := ((ly_all a (tg_lt h (by decide))).1 h).2
theorem ln12 {a : Nat} (h : tg a = 12) : ln a = 8 := ((ly_all a (tg_lt h (by decide))).2.1 h).1
theorem inb_lt {i : Int32} {n : Nat} (g : inb i n = true) : ix i < n := Nat.not_le.mp fun q => (of_decide_eq_true g) (Or.inr q)
theorem el12 {a : Nat} {i : Int32} (h : tg a = 12) (g : inb i 8 = true) : tg (a + 2 + ix i) = 0 := ((ly_all a (tg_lt h (by decide))).2.1 h).2 _ (inb_lt g)
theorem ln16 {a : Nat} (h : tg a = 16) : ln a = 3 := (ly_all a (tg_lt h (by decide))).2.2.1 h
theorem sh_p {a : Nat} (h : tg a = 1) : tg (a + 1) = 8 := ((ly_all a (tg_lt h (by decide))).2.2.2.1 h).1
theorem sh_n {a : Nat} (h : tg a = 1) : ln (a + 1) = 24 := ((ly_all a (tg_lt h (by decide))).2.2.2.1 h).2
theorem sl_b {a : Nat} (h : tg a = 2) : tg (a + 1) = 0 := ((ly_all a (tg_lt h (by decide))).2.2.2.2.1 h).1
theorem sl_s {a : Nat} (h : tg a = 2) : tg (a + 2) = 1 := ((ly_all a (tg_lt h (by decide))).2.2.2.2.1 h).2
theorem tx_i {a : Nat} (h : tg a = 5) : tg (a + 1) = 8 := ((ly_all a (tg_lt h (by decide))).2.2.2.2.2 h).1
theorem tx_n {a : Nat} (h : tg a = 5) : ln (a + 1) = 96 := ((ly_all a (tg_lt h (by decide))).2.2.2.2.2 h).2
theorem el13_all : ∀ i, i < 4 → tg (71 + 2 * i) = 1 := by decide +kernel
theorem el14_all : ∀ i, i < 5 → tg (79 + 4 * i) = 2 := by decide +kernel
theorem el15_all : ∀ i, i < 15 → tg (41 + 2 * i) = 5 := by decide +kernel
theorem el13 {i : Int32} (g : inb i 4 = true) : tg (71 + 2 * ix i) = 1 := el13_all _ (inb_lt g)
theorem el14 {i : Int32} (g : inb i 5 = true) : tg (79 + 4 * ix i) = 2 := el14_all _ (inb_lt g)
theorem el15 {i : Int32} (g : inb i 15 = true) : tg (41 + 2 * ix i) = 5 := el15_all _ (inb_lt g)
theorem lwv_ref {b : Nat} {v : Int32} (h : ¬ v = 0) : lwv b v = .ref (b + ix v) := by simp [lwv, h]
theorem lwv_cat (b : Nat) (v : Int32) : (lwv b v).category = 1 := by
  rcases lwv_or b v with h | ⟨a, h⟩ <;> rw [h] <;> rfl
theorem tg_pos {a : Nat} (h : tg a = 5) : a ≠ 0 := by
  rintro rfl
  exact absurd h (by decide)
theorem lwv_nI {b t : Nat} (h : tg t = 5) : lwv b (nI t) = .ref (b + t) := by
  have h1 := tg_lt h (by decide)
  have h2 := tg_pos h
  rw [lwv_ref (nI_ne0 (by omega) (by omega))]
  rw [show ix (nI t) = t from nI_clamp (by omega)]
theorem lawok_nI {t : Nat} (h : tg t = 5) : lawok (nI t) = true := by
  have h1 := tg_lt h (by decide)
  unfold lawok
  rw [show ix (nI t) = t from nI_clamp (by omega), h]
  simp
section RM
variable {p : Program} {l : Launch} {e : Env} {R : Room} {s : State} {m : MethodId} {args : Array Value} {below : List Frame} {meth : Method} {c : Code} {H : Heap} {locs : List Loc} {cells slots : Nat} {Q : State → Prop} {cc : ByteArray} {nL : Nat} {ret : Option FieldType} {own : String} {G : GT} {x z : XS} {pc : Nat} {ls : Array Slot} {rest st0 : List Value} {a : Nat}
theorem ldL_n (hx : p.tables.exec = Jvm.exec) (hb : c.code = cc) {k : Fin 4} {i : Nat} {b : Nat} {v : Int32} (hdg : decode cc pc = .ok (.aload_n k, 1)) (hi : (k : Nat) = i) (hl : ls[i]? = some (.val (lwv b v)))
    (kk : W p l e R s m args below meth c H locs cells slots Q (F0 m (pc + 1) ls (lwv b v :: rest))) : W p l e R s m args below meth c H locs cells slots Q (F0 m pc ls rest) := by
  rcases lwv_or b v with h | ⟨q, h⟩ <;> rw [h] at hl kk
  · exact lv_aload_nN hx hb hdg hi hl kk
  · exact lv_aload_n hx hb hdg hi hl kk
theorem ldL (hx : p.tables.exec = Jvm.exec) (hb : c.code = cc) {i : Nat} {b : Nat} {v : Int32} (hdg : decode cc pc = .ok (.aload i, 2)) (hl : ls[i]? = some (.val (lwv b v)))
    (kk : W p l e R s m args below meth c H locs cells slots Q (F0 m (pc + 2) ls (lwv b v :: rest))) : W p l e R s m args below meth c H locs cells slots Q (F0 m pc ls rest) := by
  rcases lwv_or b v with h | ⟨q, h⟩ <;> rw [h] at hl kk
  · exact lv_aloadN hx hb hdg hl kk
  · exact lv_aload hx hb hdg hl kk
theorem stL_n (hx : p.tables.exec = Jvm.exec) (hb : c.code = cc) {k : Fin 4} {i : Nat} {b : Nat} {v : Int32} {lv lv' : List (Nat × Value)} (hdg : decode cc pc = .ok (.astore_n k, 1)) (hi : (k : Nat) = i) (h : lv_has ls nL lv) (hn : i < nL) (hl : (i, lwv b v) :: lv.filter (fun q => !(q.1 == i) && !(q.1 + 1 == i && q.2.category == 2)) = lv')
    (kk : ∀ ls' : Array Slot, lv_has ls' nL lv' → W p l e R s m args below meth c H locs cells slots Q (F0 m (pc + 1) ls' rest)) : W p l e R s m args below meth c H locs cells slots Q (F0 m pc ls (lwv b v :: rest)) := by
  rcases lwv_or b v with q | ⟨q0, q⟩ <;> rw [q] at hl ⊢
  · exact lv_astore_nN hx hb hdg hi h hn hl kk
  · exact lv_astore_n hx hb hdg hi h hn hl kk
theorem stL (hx : p.tables.exec = Jvm.exec) (hb : c.code = cc) {i : Nat} {b : Nat} {v : Int32} {lv lv' : List (Nat × Value)} (hdg : decode cc pc = .ok (.astore i, 2)) (h : lv_has ls nL lv) (hn : i < nL) (hl : (i, lwv b v) :: lv.filter (fun q => !(q.1 == i) && !(q.1 + 1 == i && q.2.category == 2)) = lv')
    (kk : ∀ ls' : Array Slot, lv_has ls' nL lv' → W p l e R s m args below meth c H locs cells slots Q (F0 m (pc + 2) ls' rest)) : W p l e R s m args below meth c H locs cells slots Q (F0 m pc ls (lwv b v :: rest)) := by
  rcases lwv_or b v with q | ⟨q0, q⟩ <;> rw [q] at hl ⊢
  · exact lv_astoreN hx hb hdg h hn hl kk
  · exact lv_astore hx hb hdg h hn hl kk
theorem asT (C : CX G p s m args meth c cc nL ret own) (hS : SR G x H locs) (ht : tg a = 16) {i : Int32} (hi : inb i 3 = true) {t : Nat} (htt : tg t = 5) {y : XS} (hy : y = wr x a (ix i) (nI t)) (hdg : decode cc pc = .ok (.aastore, 1))
    (kk : ∀ (H1 : Heap) (locs1 : List Loc), SR G y H1 locs1 → W p l e R s m args below meth c H1 locs1 cells slots Q (F0 m (pc + 1) ls rest)) : W p l e R s m args below meth c H locs cells slots Q (F0 m pc ls (.ref (G.1 + t) :: .int i :: .ref (G.1 + a) :: rest)) := by
  rw [← lwv_nI htt]
  exact asL C hS ht (ln16 ht) hi (lawok_nI htt) hy hdg kk
theorem SR.old (C : CX G p s m args meth c cc nL ret own) (hS : SR G x H locs) : ∀ q : Nat, q < G.2.1.size → ¬ AB G q → H[q]? = G.2.1[q]? := fun q hq _ => hS.1.2.1 q (by rw [← C.2.2.2.2.2.2.2.2.2]; exact hq)
theorem gsA (C : CX G p s m args meth c cc nL ret own) (hS : SR G x H locs) {index : Nat} (hlink : Cond.fieldLink own index "ShoeCorner$Kinds" "ABOVE" "[I" ∈ gT) (hdg : decode cc pc = .ok (.getstatic index, 3))
    (kk : W p l e R s m args below meth c H locs cells slots Q (F0 m (pc + 3) ls (.ref (G.2.2.2.2 0) :: rest))) : W p l e R s m args below meth c H locs cells slots Q (F0 m pc ls rest) := by
  have ho := SR.old C hS
  obtain ⟨hx, hb, -, -, -, hown, hw, hK, hE, -⟩ := C
  obtain ⟨cf, kf, fi, f, q, cell, h1, h2, h3, h4, h5, h6, h7, h8⟩ := hE.1.kept ho
  exact W.gets hx hb hown (hw _ hlink) h1 h2 h3 h4 h5 (fun e => by rw [e] at h6; cases h6) h7 rfl hdg kk
theorem alA (C : CX G p s m args meth c cc nL ret own) (hS : SR G x H locs) {i : Int32} (hi : inb i 6 = true) (hdg : decode cc pc = .ok (.iaload, 1))
    (kk : W p l e R s m args below meth c H locs cells slots Q (F0 m (pc + 1) ls (.int (sAbove.getD (ix i) 0) :: rest))) : W p l e R s m args below meth c H locs cells slots Q (F0 m pc ls (.int i :: .ref (G.2.2.2.2 0) :: rest)) := by
  have ho := SR.old C hS
  obtain ⟨hx, hb, -, -, -, hown, hw, hK, hE, -⟩ := C
  obtain ⟨cell, h1, h2, h3, h4, h5, h6, h7⟩ := hE.2.1.kept ho
  have hin := of_decide_eq_true hi
  have hlt := inb_lt hi
  exact W.iald (v := .int (sAbove.getD (ix i) 0)) hx hb h1 h2 h3 (fun q => by
    rcases q with q | q
    · exact hin (Or.inl q)
    · exact Nat.lt_irrefl _ (Nat.lt_of_lt_of_le hlt (Nat.le_trans h4 q))) (h6 _ hlt) rfl rfl hdg kk
theorem anA (C : CX G p s m args meth c cc nL ret own) (hS : SR G x H locs) (hdg : decode cc pc = .ok (.arraylength, 1))
    (kk : W p l e R s m args below meth c H locs cells slots Q (F0 m (pc + 1) ls (.int 6 :: rest))) : W p l e R s m args below meth c H locs cells slots Q (F0 m pc ls (.ref (G.2.2.2.2 0) :: rest)) := by
  have ho := SR.old C hS
  obtain ⟨hx, hb, -, -, -, hown, hw, hK, hE, -⟩ := C
  obtain ⟨cell, h1, h2, h3, h4, h5, h6, h7⟩ := hE.2.1.kept ho
  exact W.alen hx hb h1 h2 (by rw [h5]; rfl) rfl rfl hdg kk
/-- System.arraycopy of int rows: places sp .. of a0 come to places dp .. of a -/
def cpx (x : XS) (a0 a sp dp n : Nat) : XS := fun j => if j = a then va_cpy (x a0) (x a) sp dp n else x j
def cpok (sp dp n : Int32) (n0 n1 : Nat) : Bool := decide (¬ sp < 0 ∧ ¬ dp < 0 ∧ ¬ n < 0 ∧ ix sp + ix n ≤ n0 ∧ ix dp + ix n ≤ n1)
theorem acp (C : CX G p s m args meth c cc nL ret own) (hS : SR G x H locs) {a0 n0 n1 : Nat} (ht0 : tg a0 = 8) (hn0 : ln a0 = n0) (ht : tg a = 8) (hn1 : ln a = n1) {sp dp n : Int32} (hok : cpok sp dp n n0 n1 = true) {index : Nat} (hlink : Cond.methodLink own index arraycopyName ∈ gT) (hnat : Cond.native arraycopyName ∈ gT) (hstat : Cond.static arraycopyName ∈ gT) (hini : Cond.initialized "java/lang/System" ∈ gT)
    {y : XS} (hy : y = cpx x a0 a (ix sp) (ix dp) (ix n)) (hsz : ls.size = nL) (hframes : 1 ≤ R.frames) (hlocals : (rest.map fun v => v.category).sum + (nativeFrameWords "java/lang/System" "arraycopy" 5 + 11) ≤ R.locals) (hdg : decode cc pc = .ok (.invokestatic index, 3))
    (kk : ∀ (H1 : Heap) (locs1 : List Loc), SR G y H1 locs1 → W p l e R s m args below meth c H1 locs1 cells slots Q (F0 m (pc + 3) ls rest)) : W p l e R s m args below meth c H locs cells slots Q (F0 m pc ls (.int n :: .int dp :: .ref (G.1 + a) :: .int sp :: .ref (G.1 + a0) :: rest)) := by
  subst hy
  obtain ⟨hx, hb, hml, -, -, hown, hw, hK, -⟩ := C
  obtain ⟨h1, h2, h3, h4, h5⟩ := of_decide_eq_true hok
  have e0 : vw G.1 x a0 = fun j => .int (x a0 j) := funext fun k => vwI ht0 (by omega) rfl
  have e1 : vw G.1 x a = fun j => .int (x a j) := funext fun k => vwI ht (by omega) rfl
  have c0 := hS.1.arr ht0 (by omega) (by omega)
  have c1 := hS.1.arr ht (by omega) (by omega)
  rw [hn0, e0] at c0
  rw [hn1, e1] at c1
  have nn : ∀ z : Int32, ¬ z < 0 → z.toInt = (z.toNatClampNeg : Int) := by
    intro z hz
    have hz0 : (0 : Int) ≤ z.toInt := by
      have := Int32.not_lt.mp hz
      simpa using Int32.le_iff_toInt_le.mp this
    show z.toInt = ((z.toInt.toNat : Nat) : Int)
    omega
  intro T hT X
  obtain ⟨-, k0, hk0, cm0, hkk0⟩ := (hK.2 0 _ rfl).1 n0 (fun j => .int (x a0 j))
  obtain ⟨-, k1, hk1, cm1, hkk1⟩ := (hK.2 0 _ rfl).1 n1 (fun j => .int (x a j))
  obtain ⟨vm', X', step⟩ := X.arraycopy hx hown (hw _ hlink) (hw _ hnat) (hw _ hstat) (hw _ hini) (src := G.1 + a0) (dst := G.1 + a) (cs := arrV (G.2.2.2.1 8) n0 (fun j => .int (x a0 j))) (cd := arrV (G.2.2.2.1 8) n1 (fun j => .int (x a j))) (srcPos := sp) (destPos := dp) (n := n) (by rw [hT]; exact c0) (by rw [hT]; exact c1)
    (fun _ h => by cases h) (fun _ h => by cases h) (fun h => by cases h) (fun h => by cases h) hk0 hk1 hkk0 hkk1 (by simp [refKind]) h1 h2 h3
    (by rw [nn sp h1, nn n h3]; show ¬ _ > ((arrV _ n0 _).slots.size : Int); rw [arrV_size]; have := h4; unfold ix at this; omega)
    (by rw [nn dp h2, nn n h3]; show ¬ _ > ((arrV _ n1 _).slots.size : Int); rw [arrV_size]; have := h5; unfold ix at this; omega)
    (fun vm₁ _ i hi => by
      have e : (arrV (G.2.2.2.1 8) n0 (fun j => Value.int (x a0 j))).slots.getD (sp.toNatClampNeg + i) .null = .int (x a0 (sp.toNatClampNeg + i)) := by
        rw [Array.getD_eq_getD_getElem?, arrV_read _ _ (by have := h4; unfold ix at this; omega)]
        rfl
      refine ⟨?_, ?_⟩
      · rw [e]; rfl
      · rw [e]; exact trivial)
    (g := F0 m pc ls (.int n :: .int dp :: .ref (G.1 + a) :: .int sp :: .ref (G.1 + a0) :: rest)) rfl (by rw [hml, ← hsz]) (rest := rest) rfl (by rw [hb]; exact hdg) hframes (by show 2 * 0 + _ + _ ≤ _; omega)
  have e2 : copied (arrV (G.2.2.2.1 8) n0 (fun j => .int (x a0 j))) (arrV (G.2.2.2.1 8) n1 (fun j => .int (x a j))) sp dp n = arrV (G.2.2.2.1 8) n1 (fun j => .int (va_cpy (x a0) (x a) (ix sp) (ix dp) (ix n) j)) := va_copied (fun z => .int z) _ _ (x a0) (x a) h4
  rw [e2] at X' step
  have hl : G.1 + a < H.size := (Array.getElem?_eq_some_iff.mp c1).1
  generalize hcl : arrV (G.2.2.2.1 8) n1 (fun j => Value.int (va_cpy (x a0) (x a) (ix sp) (ix dp) (ix n) j)) = cl at X' step
  have hheap : ((T.setVm vm').setCell (G.1 + a) cl).heap = H.setIfInBounds (G.1 + a) cl := by rw [← hT]; rfl
  have oq : ∀ q : Nat, q ≠ G.1 + a → (H.setIfInBounds (G.1 + a) cl)[q]? = H[q]? := fun q hq => by simp [Array.getElem?_setIfInBounds, Ne.symm hq]
  have hne : ∀ j, j ≠ a → x j = cpx x a0 a (ix sp) (ix dp) (ix n) j := fun j hj => by unfold cpx; rw [if_neg hj]
  have hput := hS.put (y := cpx x a0 a (ix sp) (ix dp) (ix n)) (a := a) hne (H1 := H.setIfInBounds (G.1 + a) cl) (cOK_arr ht (by omega) hn1 (by
      have e3 : vw G.1 (cpx x a0 a (ix sp) (ix dp) (ix n)) a = fun j => .int (va_cpy (x a0) (x a) (ix sp) (ix dp) (ix n) j) := funext fun k => by
        rw [vwI ht (by omega) rfl]
        unfold cpx
        rw [if_pos rfl]
      rw [e3, hcl]
      simp [Array.getElem?_setIfInBounds, hl])) (by simp) oq 0
  obtain ⟨t, a1, b1⟩ := kk _ _ ⟨hput.1, fun q hq => by
      rcases List.mem_append.mp hq with h | h
      · exact hS.2 q h
      · obtain ⟨z, -, hz⟩ := List.mem_map.mp h
        rw [← hz]
        exact Nat.le_add_right _ _⟩ _ hheap X'
  exact ⟨t, step t a1, b1⟩
end RM
end
