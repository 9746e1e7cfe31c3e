/-! PART A of kit/laws/SKELETON.whole.lean.txt, then the tables of this program, printed by wip/gen/gen03.py -/
-- ===== PART A: goes FIRST, ahead of the names: the tables' words, and 'selects' of the private methods out of them =====
/-- a private method of a class that the tables say can be made, by its rows of tables_1 -/
def lw_okq (q : MethodName × Nat) : Prop := (q.1.cls ≠ "java/lang/invoke/MethodHandle" ∧ q.1.cls ≠ "java/lang/invoke/VarHandle") ∧ Cond.instantiable q.1.cls q.2 ∈ tables_1 ∧ Cond.privateMethod q.1 ∈ tables_1 ∧ Cond.instanceMethod q.1 ∈ tables_1
theorem lw_p0 : lw_okq (⟨"SyntaxRows$Reader", "behindPair", "(ILjava/lang/String;)I"⟩, 10) := ⟨⟨by decide +kernel, by decide +kernel⟩, List.mem_of_getElem? (i := 100) (by decide +kernel), List.mem_of_getElem? (i := 238) (by decide +kernel), List.mem_of_getElem? (i := 239) (by decide +kernel)⟩
theorem lw_p1 : lw_okq (⟨"SyntaxRows$Reader", "readObject", "(II)V"⟩, 10) := ⟨⟨by decide +kernel, by decide +kernel⟩, List.mem_of_getElem? (i := 100) (by decide +kernel), List.mem_of_getElem? (i := 369) (by decide +kernel), List.mem_of_getElem? (i := 370) (by decide +kernel)⟩
theorem lw_p2 : lw_okq (⟨"SyntaxRows$ObjectRows", "setEntry", "(III)V"⟩, 2) := ⟨⟨by decide +kernel, by decide +kernel⟩, List.mem_of_getElem? (i := 87) (by decide +kernel), List.mem_of_getElem? (i := 378) (by decide +kernel), List.mem_of_getElem? (i := 379) (by decide +kernel)⟩
theorem lw_p3 : lw_okq (⟨"SyntaxRows$Reader", "readValue", "(I)I"⟩, 10) := ⟨⟨by decide +kernel, by decide +kernel⟩, List.mem_of_getElem? (i := 100) (by decide +kernel), List.mem_of_getElem? (i := 394) (by decide +kernel), List.mem_of_getElem? (i := 395) (by decide +kernel)⟩
theorem lw_p4 : lw_okq (⟨"SyntaxRows$Reader", "fail", "(II)I"⟩, 10) := ⟨⟨by decide +kernel, by decide +kernel⟩, List.mem_of_getElem? (i := 100) (by decide +kernel), List.mem_of_getElem? (i := 399) (by decide +kernel), List.mem_of_getElem? (i := 400) (by decide +kernel)⟩
theorem lw_p5 : lw_okq (⟨"SyntaxRows$Reader", "readDictionary", "(II)I"⟩, 10) := ⟨⟨by decide +kernel, by decide +kernel⟩, List.mem_of_getElem? (i := 100) (by decide +kernel), List.mem_of_getElem? (i := 411) (by decide +kernel), List.mem_of_getElem? (i := 412) (by decide +kernel)⟩
theorem lw_p6 : lw_okq (⟨"SyntaxRows$Reader", "beginKey", "()I"⟩, 10) := ⟨⟨by decide +kernel, by decide +kernel⟩, List.mem_of_getElem? (i := 100) (by decide +kernel), List.mem_of_getElem? (i := 425) (by decide +kernel), List.mem_of_getElem? (i := 426) (by decide +kernel)⟩
theorem lw_p7 : lw_okq (⟨"SyntaxRows$Reader", "readName", "(I)I"⟩, 10) := ⟨⟨by decide +kernel, by decide +kernel⟩, List.mem_of_getElem? (i := 100) (by decide +kernel), List.mem_of_getElem? (i := 429) (by decide +kernel), List.mem_of_getElem? (i := 430) (by decide +kernel)⟩
theorem lw_p8 : lw_okq (⟨"SyntaxRows$Reader", "putByte", "(IIII)Z"⟩, 10) := ⟨⟨by decide +kernel, by decide +kernel⟩, List.mem_of_getElem? (i := 100) (by decide +kernel), List.mem_of_getElem? (i := 441) (by decide +kernel), List.mem_of_getElem? (i := 442) (by decide +kernel)⟩
theorem lw_p9 : lw_okq (⟨"SyntaxRows$Values", "sameBytes", "(II)Z"⟩, 12) := ⟨⟨by decide +kernel, by decide +kernel⟩, List.mem_of_getElem? (i := 42) (by decide +kernel), List.mem_of_getElem? (i := 461) (by decide +kernel), List.mem_of_getElem? (i := 462) (by decide +kernel)⟩
theorem lw_p10 : lw_okq (⟨"SyntaxRows$Reader", "enter", "(IIII)V"⟩, 10) := ⟨⟨by decide +kernel, by decide +kernel⟩, List.mem_of_getElem? (i := 100) (by decide +kernel), List.mem_of_getElem? (i := 474) (by decide +kernel), List.mem_of_getElem? (i := 475) (by decide +kernel)⟩
theorem lw_p11 : lw_okq (⟨"SyntaxRows$Values", "chain", "(II)V"⟩, 12) := ⟨⟨by decide +kernel, by decide +kernel⟩, List.mem_of_getElem? (i := 42) (by decide +kernel), List.mem_of_getElem? (i := 486) (by decide +kernel), List.mem_of_getElem? (i := 487) (by decide +kernel)⟩
theorem lw_p12 : lw_okq (⟨"SyntaxRows$Reader", "readArray", "(II)I"⟩, 10) := ⟨⟨by decide +kernel, by decide +kernel⟩, List.mem_of_getElem? (i := 100) (by decide +kernel), List.mem_of_getElem? (i := 498) (by decide +kernel), List.mem_of_getElem? (i := 499) (by decide +kernel)⟩
theorem lw_p13 : lw_okq (⟨"SyntaxRows$Reader", "readString", "(I)I"⟩, 10) := ⟨⟨by decide +kernel, by decide +kernel⟩, List.mem_of_getElem? (i := 100) (by decide +kernel), List.mem_of_getElem? (i := 506) (by decide +kernel), List.mem_of_getElem? (i := 507) (by decide +kernel)⟩
theorem lw_p14 : lw_okq (⟨"SyntaxRows$Reader", "readEscape", "()I"⟩, 10) := ⟨⟨by decide +kernel, by decide +kernel⟩, List.mem_of_getElem? (i := 100) (by decide +kernel), List.mem_of_getElem? (i := 510) (by decide +kernel), List.mem_of_getElem? (i := 511) (by decide +kernel)⟩
theorem lw_p15 : lw_okq (⟨"SyntaxRows$Reader", "readOctal", "()I"⟩, 10) := ⟨⟨by decide +kernel, by decide +kernel⟩, List.mem_of_getElem? (i := 100) (by decide +kernel), List.mem_of_getElem? (i := 519) (by decide +kernel), List.mem_of_getElem? (i := 520) (by decide +kernel)⟩
def lw_privs_1 : List (MethodName × Nat) := [(⟨"SyntaxRows$Reader", "behindPair", "(ILjava/lang/String;)I"⟩, 10), (⟨"SyntaxRows$Reader", "readObject", "(II)V"⟩, 10), (⟨"SyntaxRows$ObjectRows", "setEntry", "(III)V"⟩, 2), (⟨"SyntaxRows$Reader", "readValue", "(I)I"⟩, 10), (⟨"SyntaxRows$Reader", "fail", "(II)I"⟩, 10), (⟨"SyntaxRows$Reader", "readDictionary", "(II)I"⟩, 10), (⟨"SyntaxRows$Reader", "beginKey", "()I"⟩, 10), (⟨"SyntaxRows$Reader", "readName", "(I)I"⟩, 10), (⟨"SyntaxRows$Reader", "putByte", "(IIII)Z"⟩, 10), (⟨"SyntaxRows$Values", "sameBytes", "(II)Z"⟩, 12), (⟨"SyntaxRows$Reader", "enter", "(IIII)V"⟩, 10), (⟨"SyntaxRows$Values", "chain", "(II)V"⟩, 12), (⟨"SyntaxRows$Reader", "readArray", "(II)I"⟩, 10), (⟨"SyntaxRows$Reader", "readString", "(I)I"⟩, 10), (⟨"SyntaxRows$Reader", "readEscape", "()I"⟩, 10), (⟨"SyntaxRows$Reader", "readOctal", "()I"⟩, 10)]
theorem lw_r1 : ∀ q ∈ lw_privs_1, lw_okq q := List.forall_mem_cons.mpr ⟨lw_p0, List.forall_mem_cons.mpr ⟨lw_p1, List.forall_mem_cons.mpr ⟨lw_p2, List.forall_mem_cons.mpr ⟨lw_p3, List.forall_mem_cons.mpr ⟨lw_p4, List.forall_mem_cons.mpr ⟨lw_p5, List.forall_mem_cons.mpr ⟨lw_p6, List.forall_mem_cons.mpr ⟨lw_p7, List.forall_mem_cons.mpr ⟨lw_p8, List.forall_mem_cons.mpr ⟨lw_p9, List.forall_mem_cons.mpr ⟨lw_p10, List.forall_mem_cons.mpr ⟨lw_p11, List.forall_mem_cons.mpr ⟨lw_p12, List.forall_mem_cons.mpr ⟨lw_p13, List.forall_mem_cons.mpr ⟨lw_p14, List.forall_mem_cons.mpr ⟨lw_p15, fun _ h => absurd h List.not_mem_nil⟩⟩⟩⟩⟩⟩⟩⟩⟩⟩⟩⟩⟩⟩⟩⟩
theorem lw_p16 : lw_okq (⟨"SyntaxRows$Reader", "readFigureString", "(I)I"⟩, 10) := ⟨⟨by decide +kernel, by decide +kernel⟩, List.mem_of_getElem? (i := 100) (by decide +kernel), List.mem_of_getElem? (i := 523) (by decide +kernel), List.mem_of_getElem? (i := 524) (by decide +kernel)⟩
theorem lw_p17 : lw_okq (⟨"SyntaxRows$Reader", "endFigureString", "(III)I"⟩, 10) := ⟨⟨by decide +kernel, by decide +kernel⟩, List.mem_of_getElem? (i := 100) (by decide +kernel), List.mem_of_getElem? (i := 527) (by decide +kernel), List.mem_of_getElem? (i := 528) (by decide +kernel)⟩
theorem lw_p18 : lw_okq (⟨"SyntaxRows$Reader", "readWord", "(I)I"⟩, 10) := ⟨⟨by decide +kernel, by decide +kernel⟩, List.mem_of_getElem? (i := 100) (by decide +kernel), List.mem_of_getElem? (i := 532) (by decide +kernel), List.mem_of_getElem? (i := 533) (by decide +kernel)⟩
theorem lw_p19 : lw_okq (⟨"SyntaxRows$Reader", "readNumber", "(III)I"⟩, 10) := ⟨⟨by decide +kernel, by decide +kernel⟩, List.mem_of_getElem? (i := 100) (by decide +kernel), List.mem_of_getElem? (i := 541) (by decide +kernel), List.mem_of_getElem? (i := 542) (by decide +kernel)⟩
theorem lw_p20 : lw_okq (⟨"SyntaxRows$Reader", "readStreamOf", "(I)I"⟩, 10) := ⟨⟨by decide +kernel, by decide +kernel⟩, List.mem_of_getElem? (i := 100) (by decide +kernel), List.mem_of_getElem? (i := 548) (by decide +kernel), List.mem_of_getElem? (i := 549) (by decide +kernel)⟩
theorem lw_p21 : lw_okq (⟨"SyntaxRows$Reader", "behindStreamLine", "(I)I"⟩, 10) := ⟨⟨by decide +kernel, by decide +kernel⟩, List.mem_of_getElem? (i := 100) (by decide +kernel), List.mem_of_getElem? (i := 553) (by decide +kernel), List.mem_of_getElem? (i := 554) (by decide +kernel)⟩
theorem lw_p22 : lw_okq (⟨"SyntaxRows$Reader", "lengthTold", "(I)I"⟩, 10) := ⟨⟨by decide +kernel, by decide +kernel⟩, List.mem_of_getElem? (i := 100) (by decide +kernel), List.mem_of_getElem? (i := 557) (by decide +kernel), List.mem_of_getElem? (i := 558) (by decide +kernel)⟩
theorem lw_p23 : lw_okq (⟨"SyntaxRows$Values", "isSpelled", "(ILjava/lang/String;)Z"⟩, 12) := ⟨⟨by decide +kernel, by decide +kernel⟩, List.mem_of_getElem? (i := 42) (by decide +kernel), List.mem_of_getElem? (i := 566) (by decide +kernel), List.mem_of_getElem? (i := 567) (by decide +kernel)⟩
theorem lw_p24 : lw_okq (⟨"SyntaxRows$Reader", "behindEndstream", "(I)I"⟩, 10) := ⟨⟨by decide +kernel, by decide +kernel⟩, List.mem_of_getElem? (i := 100) (by decide +kernel), List.mem_of_getElem? (i := 592) (by decide +kernel), List.mem_of_getElem? (i := 593) (by decide +kernel)⟩
theorem lw_p25 : lw_okq (⟨"SyntaxRows$Reader", "beforeLineEnd", "(II)I"⟩, 10) := ⟨⟨by decide +kernel, by decide +kernel⟩, List.mem_of_getElem? (i := 100) (by decide +kernel), List.mem_of_getElem? (i := 601) (by decide +kernel), List.mem_of_getElem? (i := 602) (by decide +kernel)⟩
theorem lw_p26 : lw_okq (⟨"SyntaxRows$Reader", "copyStream", "(IIII)Z"⟩, 10) := ⟨⟨by decide +kernel, by decide +kernel⟩, List.mem_of_getElem? (i := 100) (by decide +kernel), List.mem_of_getElem? (i := 605) (by decide +kernel), List.mem_of_getElem? (i := 606) (by decide +kernel)⟩
theorem lw_p27 : lw_okq (⟨"SyntaxRows$Reader", "readEnd", "()Z"⟩, 10) := ⟨⟨by decide +kernel, by decide +kernel⟩, List.mem_of_getElem? (i := 100) (by decide +kernel), List.mem_of_getElem? (i := 609) (by decide +kernel), List.mem_of_getElem? (i := 610) (by decide +kernel)⟩
theorem lw_p28 : lw_okq (⟨"SyntaxRows$Reader", "behindNextEnd", "(I)I"⟩, 10) := ⟨⟨by decide +kernel, by decide +kernel⟩, List.mem_of_getElem? (i := 100) (by decide +kernel), List.mem_of_getElem? (i := 614) (by decide +kernel), List.mem_of_getElem? (i := 615) (by decide +kernel)⟩
theorem lw_p29 : lw_okq (⟨"java/lang/Throwable", "fillInStackTrace", "(I)Ljava/lang/Throwable;"⟩, 6) := ⟨⟨by decide +kernel, by decide +kernel⟩, List.mem_of_getElem? (i := 696) (by decide +kernel), List.mem_of_getElem? (i := 694) (by decide +kernel), List.mem_of_getElem? (i := 695) (by decide +kernel)⟩
theorem lw_p30 : lw_okq (⟨"SyntaxRows$Writer", "goOver", "(IZ)V"⟩, 8) := ⟨⟨by decide +kernel, by decide +kernel⟩, List.mem_of_getElem? (i := 137) (by decide +kernel), List.mem_of_getElem? (i := 817) (by decide +kernel), List.mem_of_getElem? (i := 818) (by decide +kernel)⟩
theorem lw_p31 : lw_okq (⟨"SyntaxRows$Writer", "putValue", "(II)V"⟩, 8) := ⟨⟨by decide +kernel, by decide +kernel⟩, List.mem_of_getElem? (i := 137) (by decide +kernel), List.mem_of_getElem? (i := 821) (by decide +kernel), List.mem_of_getElem? (i := 822) (by decide +kernel)⟩
def lw_privs_2 : List (MethodName × Nat) := [(⟨"SyntaxRows$Reader", "readFigureString", "(I)I"⟩, 10), (⟨"SyntaxRows$Reader", "endFigureString", "(III)I"⟩, 10), (⟨"SyntaxRows$Reader", "readWord", "(I)I"⟩, 10), (⟨"SyntaxRows$Reader", "readNumber", "(III)I"⟩, 10), (⟨"SyntaxRows$Reader", "readStreamOf", "(I)I"⟩, 10), (⟨"SyntaxRows$Reader", "behindStreamLine", "(I)I"⟩, 10), (⟨"SyntaxRows$Reader", "lengthTold", "(I)I"⟩, 10), (⟨"SyntaxRows$Values", "isSpelled", "(ILjava/lang/String;)Z"⟩, 12), (⟨"SyntaxRows$Reader", "behindEndstream", "(I)I"⟩, 10), (⟨"SyntaxRows$Reader", "beforeLineEnd", "(II)I"⟩, 10), (⟨"SyntaxRows$Reader", "copyStream", "(IIII)Z"⟩, 10), (⟨"SyntaxRows$Reader", "readEnd", "()Z"⟩, 10), (⟨"SyntaxRows$Reader", "behindNextEnd", "(I)I"⟩, 10), (⟨"java/lang/Throwable", "fillInStackTrace", "(I)Ljava/lang/Throwable;"⟩, 6), (⟨"SyntaxRows$Writer", "goOver", "(IZ)V"⟩, 8), (⟨"SyntaxRows$Writer", "putValue", "(II)V"⟩, 8)]
theorem lw_r2 : ∀ q ∈ lw_privs_2, lw_okq q := List.forall_mem_cons.mpr ⟨lw_p16, List.forall_mem_cons.mpr ⟨lw_p17, List.forall_mem_cons.mpr ⟨lw_p18, List.forall_mem_cons.mpr ⟨lw_p19, List.forall_mem_cons.mpr ⟨lw_p20, List.forall_mem_cons.mpr ⟨lw_p21, List.forall_mem_cons.mpr ⟨lw_p22, List.forall_mem_cons.mpr ⟨lw_p23, List.forall_mem_cons.mpr ⟨lw_p24, List.forall_mem_cons.mpr ⟨lw_p25, List.forall_mem_cons.mpr ⟨lw_p26, List.forall_mem_cons.mpr ⟨lw_p27, List.forall_mem_cons.mpr ⟨lw_p28, List.forall_mem_cons.mpr ⟨lw_p29, List.forall_mem_cons.mpr ⟨lw_p30, List.forall_mem_cons.mpr ⟨lw_p31, fun _ h => absurd h List.not_mem_nil⟩⟩⟩⟩⟩⟩⟩⟩⟩⟩⟩⟩⟩⟩⟩⟩
theorem lw_p32 : lw_okq (⟨"SyntaxRows$Writer", "putMark", "(ILjava/lang/String;)V"⟩, 8) := ⟨⟨by decide +kernel, by decide +kernel⟩, List.mem_of_getElem? (i := 137) (by decide +kernel), List.mem_of_getElem? (i := 829) (by decide +kernel), List.mem_of_getElem? (i := 830) (by decide +kernel)⟩
theorem lw_p33 : lw_okq (⟨"SyntaxRows$Writer", "putGap", "(I)V"⟩, 8) := ⟨⟨by decide +kernel, by decide +kernel⟩, List.mem_of_getElem? (i := 137) (by decide +kernel), List.mem_of_getElem? (i := 833) (by decide +kernel), List.mem_of_getElem? (i := 834) (by decide +kernel)⟩
theorem lw_p34 : lw_okq (⟨"SyntaxRows$Writer", "putByte", "(I)V"⟩, 8) := ⟨⟨by decide +kernel, by decide +kernel⟩, List.mem_of_getElem? (i := 137) (by decide +kernel), List.mem_of_getElem? (i := 837) (by decide +kernel), List.mem_of_getElem? (i := 838) (by decide +kernel)⟩
theorem lw_p35 : lw_okq (⟨"SyntaxRows$Writer", "putText", "(Ljava/lang/String;)V"⟩, 8) := ⟨⟨by decide +kernel, by decide +kernel⟩, List.mem_of_getElem? (i := 137) (by decide +kernel), List.mem_of_getElem? (i := 841) (by decide +kernel), List.mem_of_getElem? (i := 842) (by decide +kernel)⟩
theorem lw_p36 : lw_okq (⟨"SyntaxRows$Writer", "putWhole", "(J)V"⟩, 8) := ⟨⟨by decide +kernel, by decide +kernel⟩, List.mem_of_getElem? (i := 137) (by decide +kernel), List.mem_of_getElem? (i := 847) (by decide +kernel), List.mem_of_getElem? (i := 848) (by decide +kernel)⟩
theorem lw_p37 : lw_okq (⟨"SyntaxRows$Writer", "putFigures", "(J)V"⟩, 8) := ⟨⟨by decide +kernel, by decide +kernel⟩, List.mem_of_getElem? (i := 137) (by decide +kernel), List.mem_of_getElem? (i := 854) (by decide +kernel), List.mem_of_getElem? (i := 855) (by decide +kernel)⟩
theorem lw_p38 : lw_okq (⟨"SyntaxRows$Writer", "putReal", "(J)V"⟩, 8) := ⟨⟨by decide +kernel, by decide +kernel⟩, List.mem_of_getElem? (i := 137) (by decide +kernel), List.mem_of_getElem? (i := 860) (by decide +kernel), List.mem_of_getElem? (i := 861) (by decide +kernel)⟩
theorem lw_p39 : lw_okq (⟨"SyntaxRows$Writer", "putName", "(I)V"⟩, 8) := ⟨⟨by decide +kernel, by decide +kernel⟩, List.mem_of_getElem? (i := 137) (by decide +kernel), List.mem_of_getElem? (i := 866) (by decide +kernel), List.mem_of_getElem? (i := 867) (by decide +kernel)⟩
theorem lw_p40 : lw_okq (⟨"SyntaxRows$Writer", "putFigures16", "(I)V"⟩, 8) := ⟨⟨by decide +kernel, by decide +kernel⟩, List.mem_of_getElem? (i := 137) (by decide +kernel), List.mem_of_getElem? (i := 873) (by decide +kernel), List.mem_of_getElem? (i := 874) (by decide +kernel)⟩
theorem lw_p41 : lw_okq (⟨"SyntaxRows$Writer", "putString", "(I)V"⟩, 8) := ⟨⟨by decide +kernel, by decide +kernel⟩, List.mem_of_getElem? (i := 137) (by decide +kernel), List.mem_of_getElem? (i := 878) (by decide +kernel), List.mem_of_getElem? (i := 879) (by decide +kernel)⟩
theorem lw_p42 : lw_okq (⟨"SyntaxRows$Writer", "putArray", "(II)V"⟩, 8) := ⟨⟨by decide +kernel, by decide +kernel⟩, List.mem_of_getElem? (i := 137) (by decide +kernel), List.mem_of_getElem? (i := 883) (by decide +kernel), List.mem_of_getElem? (i := 884) (by decide +kernel)⟩
theorem lw_p43 : lw_okq (⟨"SyntaxRows$Writer", "putDictionary", "(III)V"⟩, 8) := ⟨⟨by decide +kernel, by decide +kernel⟩, List.mem_of_getElem? (i := 137) (by decide +kernel), List.mem_of_getElem? (i := 892) (by decide +kernel), List.mem_of_getElem? (i := 893) (by decide +kernel)⟩
theorem lw_p44 : lw_okq (⟨"SyntaxRows$Writer", "putReference", "(J)V"⟩, 8) := ⟨⟨by decide +kernel, by decide +kernel⟩, List.mem_of_getElem? (i := 137) (by decide +kernel), List.mem_of_getElem? (i := 902) (by decide +kernel), List.mem_of_getElem? (i := 903) (by decide +kernel)⟩
theorem lw_p45 : lw_okq (⟨"SyntaxRows$Writer", "putStreamBytes", "(I)V"⟩, 8) := ⟨⟨by decide +kernel, by decide +kernel⟩, List.mem_of_getElem? (i := 137) (by decide +kernel), List.mem_of_getElem? (i := 908) (by decide +kernel), List.mem_of_getElem? (i := 909) (by decide +kernel)⟩
theorem lw_p46 : lw_okq (⟨"SyntaxRows$Writer", "putHead", "(I)V"⟩, 8) := ⟨⟨by decide +kernel, by decide +kernel⟩, List.mem_of_getElem? (i := 137) (by decide +kernel), List.mem_of_getElem? (i := 917) (by decide +kernel), List.mem_of_getElem? (i := 918) (by decide +kernel)⟩
theorem lw_p47 : lw_okq (⟨"SyntaxRowsModel", "behindWhite", "(I)I"⟩, 35) := ⟨⟨by decide +kernel, by decide +kernel⟩, List.mem_of_getElem? (i := 938) (by decide +kernel), List.mem_of_getElem? (i := 1067) (by decide +kernel), List.mem_of_getElem? (i := 1068) (by decide +kernel)⟩
def lw_privs_3 : List (MethodName × Nat) := [(⟨"SyntaxRows$Writer", "putMark", "(ILjava/lang/String;)V"⟩, 8), (⟨"SyntaxRows$Writer", "putGap", "(I)V"⟩, 8), (⟨"SyntaxRows$Writer", "putByte", "(I)V"⟩, 8), (⟨"SyntaxRows$Writer", "putText", "(Ljava/lang/String;)V"⟩, 8), (⟨"SyntaxRows$Writer", "putWhole", "(J)V"⟩, 8), (⟨"SyntaxRows$Writer", "putFigures", "(J)V"⟩, 8), (⟨"SyntaxRows$Writer", "putReal", "(J)V"⟩, 8), (⟨"SyntaxRows$Writer", "putName", "(I)V"⟩, 8), (⟨"SyntaxRows$Writer", "putFigures16", "(I)V"⟩, 8), (⟨"SyntaxRows$Writer", "putString", "(I)V"⟩, 8), (⟨"SyntaxRows$Writer", "putArray", "(II)V"⟩, 8), (⟨"SyntaxRows$Writer", "putDictionary", "(III)V"⟩, 8), (⟨"SyntaxRows$Writer", "putReference", "(J)V"⟩, 8), (⟨"SyntaxRows$Writer", "putStreamBytes", "(I)V"⟩, 8), (⟨"SyntaxRows$Writer", "putHead", "(I)V"⟩, 8), (⟨"SyntaxRowsModel", "behindWhite", "(I)I"⟩, 35)]
theorem lw_r3 : ∀ q ∈ lw_privs_3, lw_okq q := List.forall_mem_cons.mpr ⟨lw_p32, List.forall_mem_cons.mpr ⟨lw_p33, List.forall_mem_cons.mpr ⟨lw_p34, List.forall_mem_cons.mpr ⟨lw_p35, List.forall_mem_cons.mpr ⟨lw_p36, List.forall_mem_cons.mpr ⟨lw_p37, List.forall_mem_cons.mpr ⟨lw_p38, List.forall_mem_cons.mpr ⟨lw_p39, List.forall_mem_cons.mpr ⟨lw_p40, List.forall_mem_cons.mpr ⟨lw_p41, List.forall_mem_cons.mpr ⟨lw_p42, List.forall_mem_cons.mpr ⟨lw_p43, List.forall_mem_cons.mpr ⟨lw_p44, List.forall_mem_cons.mpr ⟨lw_p45, List.forall_mem_cons.mpr ⟨lw_p46, List.forall_mem_cons.mpr ⟨lw_p47, fun _ h => absurd h List.not_mem_nil⟩⟩⟩⟩⟩⟩⟩⟩⟩⟩⟩⟩⟩⟩⟩⟩
theorem lw_p48 : lw_okq (⟨"SyntaxRowsModel", "byteAt", "(I)I"⟩, 35) := ⟨⟨by decide +kernel, by decide +kernel⟩, List.mem_of_getElem? (i := 938) (by decide +kernel), List.mem_of_getElem? (i := 1071) (by decide +kernel), List.mem_of_getElem? (i := 1072) (by decide +kernel)⟩
theorem lw_p49 : lw_okq (⟨"SyntaxRowsModel", "thirdWord", "(I)I"⟩, 35) := ⟨⟨by decide +kernel, by decide +kernel⟩, List.mem_of_getElem? (i := 938) (by decide +kernel), List.mem_of_getElem? (i := 1078) (by decide +kernel), List.mem_of_getElem? (i := 1079) (by decide +kernel)⟩
theorem lw_p50 : lw_okq (⟨"SyntaxRowsModel", "isFigures", "(I)Z"⟩, 35) := ⟨⟨by decide +kernel, by decide +kernel⟩, List.mem_of_getElem? (i := 938) (by decide +kernel), List.mem_of_getElem? (i := 1082) (by decide +kernel), List.mem_of_getElem? (i := 1083) (by decide +kernel)⟩
theorem lw_p51 : lw_okq (⟨"SyntaxRowsModel", "behindWord", "(I)I"⟩, 35) := ⟨⟨by decide +kernel, by decide +kernel⟩, List.mem_of_getElem? (i := 938) (by decide +kernel), List.mem_of_getElem? (i := 1086) (by decide +kernel), List.mem_of_getElem? (i := 1087) (by decide +kernel)⟩
theorem lw_p52 : lw_okq (⟨"SyntaxRowsModel", "isWord", "(II)Z"⟩, 35) := ⟨⟨by decide +kernel, by decide +kernel⟩, List.mem_of_getElem? (i := 938) (by decide +kernel), List.mem_of_getElem? (i := 1099) (by decide +kernel), List.mem_of_getElem? (i := 1100) (by decide +kernel)⟩
theorem lw_p53 : lw_okq (⟨"SyntaxRowsModel", "spells", "(II)Z"⟩, 35) := ⟨⟨by decide +kernel, by decide +kernel⟩, List.mem_of_getElem? (i := 938) (by decide +kernel), List.mem_of_getElem? (i := 1103) (by decide +kernel), List.mem_of_getElem? (i := 1104) (by decide +kernel)⟩
theorem lw_p54 : lw_okq (⟨"SyntaxRowsModel", "readObject", "(I)V"⟩, 35) := ⟨⟨by decide +kernel, by decide +kernel⟩, List.mem_of_getElem? (i := 938) (by decide +kernel), List.mem_of_getElem? (i := 1122) (by decide +kernel), List.mem_of_getElem? (i := 1123) (by decide +kernel)⟩
theorem lw_p55 : lw_okq (⟨"SyntaxRowsModel", "figuresAt", "(I)J"⟩, 35) := ⟨⟨by decide +kernel, by decide +kernel⟩, List.mem_of_getElem? (i := 938) (by decide +kernel), List.mem_of_getElem? (i := 1126) (by decide +kernel), List.mem_of_getElem? (i := 1127) (by decide +kernel)⟩
theorem lw_p56 : lw_okq (⟨"SyntaxRowsModel", "readValue", "()I"⟩, 35) := ⟨⟨by decide +kernel, by decide +kernel⟩, List.mem_of_getElem? (i := 938) (by decide +kernel), List.mem_of_getElem? (i := 1132) (by decide +kernel), List.mem_of_getElem? (i := 1133) (by decide +kernel)⟩
theorem lw_p57 : lw_okq (⟨"SyntaxRowsModel", "step", "()I"⟩, 35) := ⟨⟨by decide +kernel, by decide +kernel⟩, List.mem_of_getElem? (i := 938) (by decide +kernel), List.mem_of_getElem? (i := 1136) (by decide +kernel), List.mem_of_getElem? (i := 1137) (by decide +kernel)⟩
theorem lw_p58 : lw_okq (⟨"SyntaxRowsModel", "fails", "(II)Z"⟩, 35) := ⟨⟨by decide +kernel, by decide +kernel⟩, List.mem_of_getElem? (i := 938) (by decide +kernel), List.mem_of_getElem? (i := 1140) (by decide +kernel), List.mem_of_getElem? (i := 1141) (by decide +kernel)⟩
theorem lw_p59 : lw_okq (⟨"SyntaxRowsModel", "readName", "()Z"⟩, 35) := ⟨⟨by decide +kernel, by decide +kernel⟩, List.mem_of_getElem? (i := 938) (by decide +kernel), List.mem_of_getElem? (i := 1144) (by decide +kernel), List.mem_of_getElem? (i := 1145) (by decide +kernel)⟩
theorem lw_p60 : lw_okq (⟨"SyntaxRowsModel", "begins", "(II)Z"⟩, 35) := ⟨⟨by decide +kernel, by decide +kernel⟩, List.mem_of_getElem? (i := 938) (by decide +kernel), List.mem_of_getElem? (i := 1148) (by decide +kernel), List.mem_of_getElem? (i := 1149) (by decide +kernel)⟩
theorem lw_p61 : lw_okq (⟨"SyntaxRowsModel", "gets", "(III)Z"⟩, 35) := ⟨⟨by decide +kernel, by decide +kernel⟩, List.mem_of_getElem? (i := 938) (by decide +kernel), List.mem_of_getElem? (i := 1155) (by decide +kernel), List.mem_of_getElem? (i := 1156) (by decide +kernel)⟩
theorem lw_p62 : lw_okq (⟨"SyntaxRowsModel", "keepBytes", "(II)Z"⟩, 35) := ⟨⟨by decide +kernel, by decide +kernel⟩, List.mem_of_getElem? (i := 938) (by decide +kernel), List.mem_of_getElem? (i := 1159) (by decide +kernel), List.mem_of_getElem? (i := 1160) (by decide +kernel)⟩
theorem lw_p63 : lw_okq (⟨"SyntaxRowsModel", "opens", "(II)Z"⟩, 35) := ⟨⟨by decide +kernel, by decide +kernel⟩, List.mem_of_getElem? (i := 938) (by decide +kernel), List.mem_of_getElem? (i := 1163) (by decide +kernel), List.mem_of_getElem? (i := 1164) (by decide +kernel)⟩
def lw_privs_4 : List (MethodName × Nat) := [(⟨"SyntaxRowsModel", "byteAt", "(I)I"⟩, 35), (⟨"SyntaxRowsModel", "thirdWord", "(I)I"⟩, 35), (⟨"SyntaxRowsModel", "isFigures", "(I)Z"⟩, 35), (⟨"SyntaxRowsModel", "behindWord", "(I)I"⟩, 35), (⟨"SyntaxRowsModel", "isWord", "(II)Z"⟩, 35), (⟨"SyntaxRowsModel", "spells", "(II)Z"⟩, 35), (⟨"SyntaxRowsModel", "readObject", "(I)V"⟩, 35), (⟨"SyntaxRowsModel", "figuresAt", "(I)J"⟩, 35), (⟨"SyntaxRowsModel", "readValue", "()I"⟩, 35), (⟨"SyntaxRowsModel", "step", "()I"⟩, 35), (⟨"SyntaxRowsModel", "fails", "(II)Z"⟩, 35), (⟨"SyntaxRowsModel", "readName", "()Z"⟩, 35), (⟨"SyntaxRowsModel", "begins", "(II)Z"⟩, 35), (⟨"SyntaxRowsModel", "gets", "(III)Z"⟩, 35), (⟨"SyntaxRowsModel", "keepBytes", "(II)Z"⟩, 35), (⟨"SyntaxRowsModel", "opens", "(II)Z"⟩, 35)]
theorem lw_r4 : ∀ q ∈ lw_privs_4, lw_okq q := List.forall_mem_cons.mpr ⟨lw_p48, List.forall_mem_cons.mpr ⟨lw_p49, List.forall_mem_cons.mpr ⟨lw_p50, List.forall_mem_cons.mpr ⟨lw_p51, List.forall_mem_cons.mpr ⟨lw_p52, List.forall_mem_cons.mpr ⟨lw_p53, List.forall_mem_cons.mpr ⟨lw_p54, List.forall_mem_cons.mpr ⟨lw_p55, List.forall_mem_cons.mpr ⟨lw_p56, List.forall_mem_cons.mpr ⟨lw_p57, List.forall_mem_cons.mpr ⟨lw_p58, List.forall_mem_cons.mpr ⟨lw_p59, List.forall_mem_cons.mpr ⟨lw_p60, List.forall_mem_cons.mpr ⟨lw_p61, List.forall_mem_cons.mpr ⟨lw_p62, List.forall_mem_cons.mpr ⟨lw_p63, fun _ h => absurd h List.not_mem_nil⟩⟩⟩⟩⟩⟩⟩⟩⟩⟩⟩⟩⟩⟩⟩⟩
theorem lw_p64 : lw_okq (⟨"SyntaxRowsModel", "readAngled", "()Z"⟩, 35) := ⟨⟨by decide +kernel, by decide +kernel⟩, List.mem_of_getElem? (i := 938) (by decide +kernel), List.mem_of_getElem? (i := 1167) (by decide +kernel), List.mem_of_getElem? (i := 1168) (by decide +kernel)⟩
theorem lw_p65 : lw_okq (⟨"SyntaxRowsModel", "readRound", "()Z"⟩, 35) := ⟨⟨by decide +kernel, by decide +kernel⟩, List.mem_of_getElem? (i := 938) (by decide +kernel), List.mem_of_getElem? (i := 1171) (by decide +kernel), List.mem_of_getElem? (i := 1172) (by decide +kernel)⟩
theorem lw_p66 : lw_okq (⟨"SyntaxRowsModel", "escaped", "()I"⟩, 35) := ⟨⟨by decide +kernel, by decide +kernel⟩, List.mem_of_getElem? (i := 938) (by decide +kernel), List.mem_of_getElem? (i := 1175) (by decide +kernel), List.mem_of_getElem? (i := 1176) (by decide +kernel)⟩
theorem lw_p67 : lw_okq (⟨"SyntaxRowsModel", "behindLineEnd", "(I)I"⟩, 35) := ⟨⟨by decide +kernel, by decide +kernel⟩, List.mem_of_getElem? (i := 938) (by decide +kernel), List.mem_of_getElem? (i := 1179) (by decide +kernel), List.mem_of_getElem? (i := 1180) (by decide +kernel)⟩
theorem lw_p68 : lw_okq (⟨"SyntaxRowsModel", "readWord", "()Z"⟩, 35) := ⟨⟨by decide +kernel, by decide +kernel⟩, List.mem_of_getElem? (i := 938) (by decide +kernel), List.mem_of_getElem? (i := 1183) (by decide +kernel), List.mem_of_getElem? (i := 1184) (by decide +kernel)⟩
theorem lw_p69 : lw_okq (⟨"SyntaxRowsModel", "asNumber", "(II)I"⟩, 35) := ⟨⟨by decide +kernel, by decide +kernel⟩, List.mem_of_getElem? (i := 938) (by decide +kernel), List.mem_of_getElem? (i := 1187) (by decide +kernel), List.mem_of_getElem? (i := 1188) (by decide +kernel)⟩
theorem lw_p70 : lw_okq (⟨"SyntaxRowsModel", "deliver", "(I)Z"⟩, 35) := ⟨⟨by decide +kernel, by decide +kernel⟩, List.mem_of_getElem? (i := 938) (by decide +kernel), List.mem_of_getElem? (i := 1192) (by decide +kernel), List.mem_of_getElem? (i := 1193) (by decide +kernel)⟩
theorem lw_p71 : lw_okq (⟨"SyntaxRowsModel", "append", "(II)V"⟩, 35) := ⟨⟨by decide +kernel, by decide +kernel⟩, List.mem_of_getElem? (i := 938) (by decide +kernel), List.mem_of_getElem? (i := 1196) (by decide +kernel), List.mem_of_getElem? (i := 1197) (by decide +kernel)⟩
theorem lw_p72 : lw_okq (⟨"SyntaxRowsModel", "enter", "(III)V"⟩, 35) := ⟨⟨by decide +kernel, by decide +kernel⟩, List.mem_of_getElem? (i := 938) (by decide +kernel), List.mem_of_getElem? (i := 1200) (by decide +kernel), List.mem_of_getElem? (i := 1201) (by decide +kernel)⟩
theorem lw_p73 : lw_okq (⟨"SyntaxRowsModel", "areSame", "(II)Z"⟩, 35) := ⟨⟨by decide +kernel, by decide +kernel⟩, List.mem_of_getElem? (i := 938) (by decide +kernel), List.mem_of_getElem? (i := 1204) (by decide +kernel), List.mem_of_getElem? (i := 1205) (by decide +kernel)⟩
theorem lw_p74 : lw_okq (⟨"SyntaxRowsModel", "readStream", "(I)I"⟩, 35) := ⟨⟨by decide +kernel, by decide +kernel⟩, List.mem_of_getElem? (i := 938) (by decide +kernel), List.mem_of_getElem? (i := 1208) (by decide +kernel), List.mem_of_getElem? (i := 1209) (by decide +kernel)⟩
theorem lw_p75 : lw_okq (⟨"SyntaxRowsModel", "toldLength", "(I)J"⟩, 35) := ⟨⟨by decide +kernel, by decide +kernel⟩, List.mem_of_getElem? (i := 938) (by decide +kernel), List.mem_of_getElem? (i := 1212) (by decide +kernel), List.mem_of_getElem? (i := 1213) (by decide +kernel)⟩
theorem lw_p76 : lw_okq (⟨"SyntaxRowsModel", "lengthOf", "(I)I"⟩, 35) := ⟨⟨by decide +kernel, by decide +kernel⟩, List.mem_of_getElem? (i := 938) (by decide +kernel), List.mem_of_getElem? (i := 1216) (by decide +kernel), List.mem_of_getElem? (i := 1217) (by decide +kernel)⟩
theorem lw_p77 : lw_okq (⟨"SyntaxRowsModel", "isLength", "(I)Z"⟩, 35) := ⟨⟨by decide +kernel, by decide +kernel⟩, List.mem_of_getElem? (i := 938) (by decide +kernel), List.mem_of_getElem? (i := 1220) (by decide +kernel), List.mem_of_getElem? (i := 1221) (by decide +kernel)⟩
theorem lw_p78 : lw_okq (⟨"SyntaxRowsModel", "findObject", "(JJ)I"⟩, 35) := ⟨⟨by decide +kernel, by decide +kernel⟩, List.mem_of_getElem? (i := 938) (by decide +kernel), List.mem_of_getElem? (i := 1225) (by decide +kernel), List.mem_of_getElem? (i := 1226) (by decide +kernel)⟩
theorem lw_p79 : lw_okq (⟨"SyntaxRowsModel", "isValue", "(I)Z"⟩, 35) := ⟨⟨by decide +kernel, by decide +kernel⟩, List.mem_of_getElem? (i := 938) (by decide +kernel), List.mem_of_getElem? (i := 1241) (by decide +kernel), List.mem_of_getElem? (i := 1242) (by decide +kernel)⟩
def lw_privs_5 : List (MethodName × Nat) := [(⟨"SyntaxRowsModel", "readAngled", "()Z"⟩, 35), (⟨"SyntaxRowsModel", "readRound", "()Z"⟩, 35), (⟨"SyntaxRowsModel", "escaped", "()I"⟩, 35), (⟨"SyntaxRowsModel", "behindLineEnd", "(I)I"⟩, 35), (⟨"SyntaxRowsModel", "readWord", "()Z"⟩, 35), (⟨"SyntaxRowsModel", "asNumber", "(II)I"⟩, 35), (⟨"SyntaxRowsModel", "deliver", "(I)Z"⟩, 35), (⟨"SyntaxRowsModel", "append", "(II)V"⟩, 35), (⟨"SyntaxRowsModel", "enter", "(III)V"⟩, 35), (⟨"SyntaxRowsModel", "areSame", "(II)Z"⟩, 35), (⟨"SyntaxRowsModel", "readStream", "(I)I"⟩, 35), (⟨"SyntaxRowsModel", "toldLength", "(I)J"⟩, 35), (⟨"SyntaxRowsModel", "lengthOf", "(I)I"⟩, 35), (⟨"SyntaxRowsModel", "isLength", "(I)Z"⟩, 35), (⟨"SyntaxRowsModel", "findObject", "(JJ)I"⟩, 35), (⟨"SyntaxRowsModel", "isValue", "(I)Z"⟩, 35)]
theorem lw_r5 : ∀ q ∈ lw_privs_5, lw_okq q := List.forall_mem_cons.mpr ⟨lw_p64, List.forall_mem_cons.mpr ⟨lw_p65, List.forall_mem_cons.mpr ⟨lw_p66, List.forall_mem_cons.mpr ⟨lw_p67, List.forall_mem_cons.mpr ⟨lw_p68, List.forall_mem_cons.mpr ⟨lw_p69, List.forall_mem_cons.mpr ⟨lw_p70, List.forall_mem_cons.mpr ⟨lw_p71, List.forall_mem_cons.mpr ⟨lw_p72, List.forall_mem_cons.mpr ⟨lw_p73, List.forall_mem_cons.mpr ⟨lw_p74, List.forall_mem_cons.mpr ⟨lw_p75, List.forall_mem_cons.mpr ⟨lw_p76, List.forall_mem_cons.mpr ⟨lw_p77, List.forall_mem_cons.mpr ⟨lw_p78, List.forall_mem_cons.mpr ⟨lw_p79, fun _ h => absurd h List.not_mem_nil⟩⟩⟩⟩⟩⟩⟩⟩⟩⟩⟩⟩⟩⟩⟩⟩
theorem lw_p80 : lw_okq (⟨"SyntaxRowsModel", "putWhole", "(I)V"⟩, 35) := ⟨⟨by decide +kernel, by decide +kernel⟩, List.mem_of_getElem? (i := 938) (by decide +kernel), List.mem_of_getElem? (i := 1265) (by decide +kernel), List.mem_of_getElem? (i := 1266) (by decide +kernel)⟩
theorem lw_p81 : lw_okq (⟨"SyntaxRowsModel", "putValue", "(II)V"⟩, 35) := ⟨⟨by decide +kernel, by decide +kernel⟩, List.mem_of_getElem? (i := 938) (by decide +kernel), List.mem_of_getElem? (i := 1269) (by decide +kernel), List.mem_of_getElem? (i := 1270) (by decide +kernel)⟩
theorem lw_p82 : lw_okq (⟨"SyntaxRowsModel", "putScalar", "(I)V"⟩, 35) := ⟨⟨by decide +kernel, by decide +kernel⟩, List.mem_of_getElem? (i := 938) (by decide +kernel), List.mem_of_getElem? (i := 1273) (by decide +kernel), List.mem_of_getElem? (i := 1274) (by decide +kernel)⟩
theorem lw_p83 : lw_okq (⟨"SyntaxRowsModel", "part", "(I)V"⟩, 35) := ⟨⟨by decide +kernel, by decide +kernel⟩, List.mem_of_getElem? (i := 938) (by decide +kernel), List.mem_of_getElem? (i := 1277) (by decide +kernel), List.mem_of_getElem? (i := 1278) (by decide +kernel)⟩
theorem lw_p84 : lw_okq (⟨"SyntaxRowsModel", "put", "(I)V"⟩, 35) := ⟨⟨by decide +kernel, by decide +kernel⟩, List.mem_of_getElem? (i := 938) (by decide +kernel), List.mem_of_getElem? (i := 1281) (by decide +kernel), List.mem_of_getElem? (i := 1282) (by decide +kernel)⟩
theorem lw_p85 : lw_okq (⟨"SyntaxRowsModel", "putWord", "(I)V"⟩, 35) := ⟨⟨by decide +kernel, by decide +kernel⟩, List.mem_of_getElem? (i := 938) (by decide +kernel), List.mem_of_getElem? (i := 1285) (by decide +kernel), List.mem_of_getElem? (i := 1286) (by decide +kernel)⟩
theorem lw_p86 : lw_okq (⟨"SyntaxRowsModel", "putNumber", "(J)V"⟩, 35) := ⟨⟨by decide +kernel, by decide +kernel⟩, List.mem_of_getElem? (i := 938) (by decide +kernel), List.mem_of_getElem? (i := 1289) (by decide +kernel), List.mem_of_getElem? (i := 1290) (by decide +kernel)⟩
theorem lw_p87 : lw_okq (⟨"SyntaxRowsModel", "putReal", "(J)V"⟩, 35) := ⟨⟨by decide +kernel, by decide +kernel⟩, List.mem_of_getElem? (i := 938) (by decide +kernel), List.mem_of_getElem? (i := 1294) (by decide +kernel), List.mem_of_getElem? (i := 1295) (by decide +kernel)⟩
theorem lw_p88 : lw_okq (⟨"SyntaxRowsModel", "putName", "(I)V"⟩, 35) := ⟨⟨by decide +kernel, by decide +kernel⟩, List.mem_of_getElem? (i := 938) (by decide +kernel), List.mem_of_getElem? (i := 1300) (by decide +kernel), List.mem_of_getElem? (i := 1301) (by decide +kernel)⟩
theorem lw_p89 : lw_okq (⟨"SyntaxRowsModel", "putHex", "(I)V"⟩, 35) := ⟨⟨by decide +kernel, by decide +kernel⟩, List.mem_of_getElem? (i := 938) (by decide +kernel), List.mem_of_getElem? (i := 1304) (by decide +kernel), List.mem_of_getElem? (i := 1305) (by decide +kernel)⟩
theorem lw_p90 : lw_okq (⟨"SyntaxRowsModel", "putString", "(I)V"⟩, 35) := ⟨⟨by decide +kernel, by decide +kernel⟩, List.mem_of_getElem? (i := 938) (by decide +kernel), List.mem_of_getElem? (i := 1308) (by decide +kernel), List.mem_of_getElem? (i := 1309) (by decide +kernel)⟩
theorem lw_p91 : lw_okq (⟨"SyntaxRowsModel", "opensOut", "(I)V"⟩, 35) := ⟨⟨by decide +kernel, by decide +kernel⟩, List.mem_of_getElem? (i := 938) (by decide +kernel), List.mem_of_getElem? (i := 1312) (by decide +kernel), List.mem_of_getElem? (i := 1313) (by decide +kernel)⟩
theorem lw_p92 : lw_okq (⟨"SyntaxRowsModel", "closesOut", "(I)V"⟩, 35) := ⟨⟨by decide +kernel, by decide +kernel⟩, List.mem_of_getElem? (i := 938) (by decide +kernel), List.mem_of_getElem? (i := 1316) (by decide +kernel), List.mem_of_getElem? (i := 1317) (by decide +kernel)⟩
theorem lw_p93 : lw_okq (⟨"SyntaxRowsModel", "putLength", "(I)V"⟩, 35) := ⟨⟨by decide +kernel, by decide +kernel⟩, List.mem_of_getElem? (i := 938) (by decide +kernel), List.mem_of_getElem? (i := 1320) (by decide +kernel), List.mem_of_getElem? (i := 1321) (by decide +kernel)⟩
theorem lw_p94 : lw_okq (⟨"SyntaxRowsModel", "keyOfLength", "(I)I"⟩, 35) := ⟨⟨by decide +kernel, by decide +kernel⟩, List.mem_of_getElem? (i := 938) (by decide +kernel), List.mem_of_getElem? (i := 1324) (by decide +kernel), List.mem_of_getElem? (i := 1325) (by decide +kernel)⟩
theorem lw_p95 : lw_okq (⟨"SyntaxRowsModel", "putObject", "(I)V"⟩, 35) := ⟨⟨by decide +kernel, by decide +kernel⟩, List.mem_of_getElem? (i := 938) (by decide +kernel), List.mem_of_getElem? (i := 1328) (by decide +kernel), List.mem_of_getElem? (i := 1329) (by decide +kernel)⟩
def lw_privs_6 : List (MethodName × Nat) := [(⟨"SyntaxRowsModel", "putWhole", "(I)V"⟩, 35), (⟨"SyntaxRowsModel", "putValue", "(II)V"⟩, 35), (⟨"SyntaxRowsModel", "putScalar", "(I)V"⟩, 35), (⟨"SyntaxRowsModel", "part", "(I)V"⟩, 35), (⟨"SyntaxRowsModel", "put", "(I)V"⟩, 35), (⟨"SyntaxRowsModel", "putWord", "(I)V"⟩, 35), (⟨"SyntaxRowsModel", "putNumber", "(J)V"⟩, 35), (⟨"SyntaxRowsModel", "putReal", "(J)V"⟩, 35), (⟨"SyntaxRowsModel", "putName", "(I)V"⟩, 35), (⟨"SyntaxRowsModel", "putHex", "(I)V"⟩, 35), (⟨"SyntaxRowsModel", "putString", "(I)V"⟩, 35), (⟨"SyntaxRowsModel", "opensOut", "(I)V"⟩, 35), (⟨"SyntaxRowsModel", "closesOut", "(I)V"⟩, 35), (⟨"SyntaxRowsModel", "putLength", "(I)V"⟩, 35), (⟨"SyntaxRowsModel", "keyOfLength", "(I)I"⟩, 35), (⟨"SyntaxRowsModel", "putObject", "(I)V"⟩, 35)]
theorem lw_r6 : ∀ q ∈ lw_privs_6, lw_okq q := List.forall_mem_cons.mpr ⟨lw_p80, List.forall_mem_cons.mpr ⟨lw_p81, List.forall_mem_cons.mpr ⟨lw_p82, List.forall_mem_cons.mpr ⟨lw_p83, List.forall_mem_cons.mpr ⟨lw_p84, List.forall_mem_cons.mpr ⟨lw_p85, List.forall_mem_cons.mpr ⟨lw_p86, List.forall_mem_cons.mpr ⟨lw_p87, List.forall_mem_cons.mpr ⟨lw_p88, List.forall_mem_cons.mpr ⟨lw_p89, List.forall_mem_cons.mpr ⟨lw_p90, List.forall_mem_cons.mpr ⟨lw_p91, List.forall_mem_cons.mpr ⟨lw_p92, List.forall_mem_cons.mpr ⟨lw_p93, List.forall_mem_cons.mpr ⟨lw_p94, List.forall_mem_cons.mpr ⟨lw_p95, fun _ h => absurd h List.not_mem_nil⟩⟩⟩⟩⟩⟩⟩⟩⟩⟩⟩⟩⟩⟩⟩⟩
def lw_privs : List (MethodName × Nat) := lw_privs_1 ++ (lw_privs_2 ++ (lw_privs_3 ++ (lw_privs_4 ++ (lw_privs_5 ++ (lw_privs_6)))))
def lw_tbl : List Cond := k2_sels lw_privs ++ tables_1
theorem lw_privs_ok : ∀ q ∈ lw_privs, lw_okq q := by
  show ∀ q ∈ lw_privs_1 ++ (lw_privs_2 ++ (lw_privs_3 ++ (lw_privs_4 ++ (lw_privs_5 ++ (lw_privs_6))))), lw_okq q
  exact List.forall_mem_append.mpr ⟨lw_r1, List.forall_mem_append.mpr ⟨lw_r2, List.forall_mem_append.mpr ⟨lw_r3, List.forall_mem_append.mpr ⟨lw_r4, List.forall_mem_append.mpr ⟨lw_r5, lw_r6⟩⟩⟩⟩⟩

def lw_g : List Cond := lw_tbl.filter goodWord
theorem am_in {w : Cond} (p : Nat) (h : lw_tbl[p]? = some w) (hg : goodWord w = true) : w ∈ lw_g := List.mem_filter.mpr ⟨List.mem_of_getElem? h, hg⟩
theorem am_good : ∀ w ∈ lw_g, (w.onTables && w.keeps) = true ∨ ∃ ty, w = .arrayClass ty := fun w h => good_of_word (List.mem_filter.mp h).2
theorem am_two {ws : List Cond} (h : ∀ w ∈ ws, w ∈ lw_tbl ∧ goodWord w = true) : ∀ w ∈ ws, w ∈ lw_g := fun w hw => List.mem_filter.mpr (h w hw)
def am_look {α : Type} : List (Nat × α) → Nat → Option α
  | [], _ => none
  | (k, v) :: r, x => bif Nat.beq k x then some v else am_look r x
theorem am_look_mem {α : Type} {x : Nat} {v : α} : ∀ {xs : List (Nat × α)}, am_look xs x = some v → (x, v) ∈ xs
  | (k, u) :: r, h => by
    unfold am_look at h
    cases hb : Nat.beq k x with
    | true =>
      rw [hb] at h
      have := Nat.eq_of_beq_eq_true hb
      subst this
      cases h
      exact List.mem_cons_self
    | false =>
      rw [hb] at h
      exact List.mem_cons_of_mem _ (am_look_mem h)
def am_nd {α : Type} (k : Nat) (l r : Nat → Option α) (x : Nat) : Option α := bif Nat.blt x k then l x else r x
def am_dok (b : ByteArray) (f : Nat → Option (Instr × Nat)) : Prop := ∀ pc q, f pc = some q → decode b pc = .ok q
theorem am_dok_nd {b : ByteArray} {k : Nat} {l r : Nat → Option (Instr × Nat)} (hl : am_dok b l) (hr : am_dok b r) : am_dok b (am_nd k l r) := by
  intro pc q h
  unfold am_nd at h
  cases hb : Nat.blt pc k with
  | true => rw [hb] at h; exact hl pc q h
  | false => rw [hb] at h; exact hr pc q h
theorem am_dok_lf {b : ByteArray} {xs : List (Nat × (Instr × Nat))} (h : ∀ q ∈ xs, decode b q.1 = .ok q.2) : am_dok b (am_look xs) := fun pc q hq => h (pc, q) (am_look_mem hq)
def R_0 : String := "SyntaxRows$ObjectRows"
def T_0 : u_T := fun k => match k with
  | 0 => ("SyntaxRows$ObjectRows", "entries", "[I", true)
  | _ => ("SyntaxRows$ObjectRows", "size", "I", false)
def t_0 : Nat → FieldType := fun k => match k with
  | 0 => (.array .int)
  | _ => .int
theorem nm_0 : ∀ a, a < 2 → ∀ b, b < 2 → a ≠ b → (T_0 a).2.1 ≠ (T_0 b).2.1 := by decide +kernel
theorem ty_0 : ∀ k, k < 2 → parseFieldDescriptor (T_0 k).2.2.1 = some (t_0 k) := by decide +kernel
theorem in_0 : ∀ w ∈ u_ws R_0 T_0 2, w ∈ lw_g := am_two (by decide +kernel)
def R_1 : String := "SyntaxRows$Reader"
def T_1 : u_T := fun k => match k with
  | 0 => ("SyntaxRows$Reader", "tape", "LSyntaxRows$Tape;", true)
  | 1 => ("SyntaxRows$Reader", "values", "LSyntaxRows$Values;", true)
  | 2 => ("SyntaxRows$Reader", "objects", "LSyntaxRows$ObjectRows;", true)
  | 3 => ("SyntaxRows$Reader", "at", "I", false)
  | 4 => ("SyntaxRows$Reader", "fault", "I", false)
  | 5 => ("SyntaxRows$Reader", "faultPlace", "I", false)
  | 6 => ("SyntaxRows$Reader", "noted", "I", false)
  | 7 => ("SyntaxRows$Reader", "stray", "I", false)
  | 8 => ("SyntaxRows$Reader", "pairFirst", "I", false)
  | _ => ("SyntaxRows$Reader", "pairSecond", "I", false)
def t_1 : Nat → FieldType := fun k => match k with
  | 0 => (.object "SyntaxRows$Tape")
  | 1 => (.object "SyntaxRows$Values")
  | 2 => (.object "SyntaxRows$ObjectRows")
  | 3 => .int
  | 4 => .int
  | 5 => .int
  | 6 => .int
  | 7 => .int
  | 8 => .int
  | _ => .int
theorem nm_1 : ∀ a, a < 10 → ∀ b, b < 10 → a ≠ b → (T_1 a).2.1 ≠ (T_1 b).2.1 := by decide +kernel
theorem ty_1 : ∀ k, k < 10 → parseFieldDescriptor (T_1 k).2.2.1 = some (t_1 k) := by decide +kernel
theorem in_1 : ∀ w ∈ u_ws R_1 T_1 10, w ∈ lw_g := am_two (by decide +kernel)
def R_2 : String := "SyntaxRows$Tape"
def T_2 : u_T := fun k => match k with
  | 0 => ("SyntaxRows$Tape", "bytes", "[B", true)
  | _ => ("SyntaxRows$Tape", "size", "I", false)
def t_2 : Nat → FieldType := fun k => match k with
  | 0 => (.array .byte)
  | _ => .int
theorem nm_2 : ∀ a, a < 2 → ∀ b, b < 2 → a ≠ b → (T_2 a).2.1 ≠ (T_2 b).2.1 := by decide +kernel
theorem ty_2 : ∀ k, k < 2 → parseFieldDescriptor (T_2 k).2.2.1 = some (t_2 k) := by decide +kernel
theorem in_2 : ∀ w ∈ u_ws R_2 T_2 2, w ∈ lw_g := am_two (by decide +kernel)
def R_3 : String := "SyntaxRows$Values"
def T_3 : u_T := fun k => match k with
  | 0 => ("SyntaxRows$Values", "kinds", "[I", true)
  | 1 => ("SyntaxRows$Values", "numbers", "[J", true)
  | 2 => ("SyntaxRows$Values", "starts", "[I", true)
  | 3 => ("SyntaxRows$Values", "lengths", "[I", true)
  | 4 => ("SyntaxRows$Values", "parts", "[I", true)
  | 5 => ("SyntaxRows$Values", "firsts", "[I", true)
  | 6 => ("SyntaxRows$Values", "lasts", "[I", true)
  | 7 => ("SyntaxRows$Values", "nexts", "[I", true)
  | 8 => ("SyntaxRows$Values", "helds", "[I", true)
  | 9 => ("SyntaxRows$Values", "bytes", "[B", true)
  | 10 => ("SyntaxRows$Values", "size", "I", false)
  | _ => ("SyntaxRows$Values", "byteSize", "I", false)
def t_3 : Nat → FieldType := fun k => match k with
  | 0 => (.array .int)
  | 1 => (.array .long)
  | 2 => (.array .int)
  | 3 => (.array .int)
  | 4 => (.array .int)
  | 5 => (.array .int)
  | 6 => (.array .int)
  | 7 => (.array .int)
  | 8 => (.array .int)
  | 9 => (.array .byte)
  | 10 => .int
  | _ => .int
theorem nm_3 : ∀ a, a < 12 → ∀ b, b < 12 → a ≠ b → (T_3 a).2.1 ≠ (T_3 b).2.1 := by decide +kernel
theorem ty_3 : ∀ k, k < 12 → parseFieldDescriptor (T_3 k).2.2.1 = some (t_3 k) := by decide +kernel
theorem in_3 : ∀ w ∈ u_ws R_3 T_3 12, w ∈ lw_g := am_two (by decide +kernel)
def R_4 : String := "SyntaxRows$Writer"
def T_4 : u_T := fun k => match k with
  | 0 => ("SyntaxRows$Writer", "values", "LSyntaxRows$Values;", true)
  | 1 => ("SyntaxRows$Writer", "objects", "LSyntaxRows$ObjectRows;", true)
  | 2 => ("SyntaxRows$Writer", "bytes", "[B", true)
  | 3 => ("SyntaxRows$Writer", "size", "I", false)
  | 4 => ("SyntaxRows$Writer", "put", "I", false)
  | 5 => ("SyntaxRows$Writer", "keeps", "Z", false)
  | 6 => ("SyntaxRows$Writer", "readable", "Z", false)
  | _ => ("SyntaxRows$Writer", "before", "I", false)
def t_4 : Nat → FieldType := fun k => match k with
  | 0 => (.object "SyntaxRows$Values")
  | 1 => (.object "SyntaxRows$ObjectRows")
  | 2 => (.array .byte)
  | 3 => .int
  | 4 => .int
  | 5 => .boolean
  | 6 => .boolean
  | _ => .int
theorem nm_4 : ∀ a, a < 8 → ∀ b, b < 8 → a ≠ b → (T_4 a).2.1 ≠ (T_4 b).2.1 := by decide +kernel
theorem ty_4 : ∀ k, k < 8 → parseFieldDescriptor (T_4 k).2.2.1 = some (t_4 k) := by decide +kernel
theorem in_4 : ∀ w ∈ u_ws R_4 T_4 8, w ∈ lw_g := am_two (by decide +kernel)
def R_5 : String := "SyntaxRows"
def T_5 : u_T := fun k => match k with
  | 0 => ("SyntaxRows", "tape", "LSyntaxRows$Tape;", true)
  | 1 => ("SyntaxRows", "values", "LSyntaxRows$Values;", true)
  | 2 => ("SyntaxRows", "objects", "LSyntaxRows$ObjectRows;", true)
  | 3 => ("SyntaxRows", "reader", "LSyntaxRows$Reader;", true)
  | _ => ("SyntaxRows", "writer", "LSyntaxRows$Writer;", true)
def t_5 : Nat → FieldType := fun k => match k with
  | 0 => (.object "SyntaxRows$Tape")
  | 1 => (.object "SyntaxRows$Values")
  | 2 => (.object "SyntaxRows$ObjectRows")
  | 3 => (.object "SyntaxRows$Reader")
  | _ => (.object "SyntaxRows$Writer")
theorem nm_5 : ∀ a, a < 5 → ∀ b, b < 5 → a ≠ b → (T_5 a).2.1 ≠ (T_5 b).2.1 := by decide +kernel
theorem ty_5 : ∀ k, k < 5 → parseFieldDescriptor (T_5 k).2.2.1 = some (t_5 k) := by decide +kernel
theorem in_5 : ∀ w ∈ u_ws R_5 T_5 5, w ∈ lw_g := am_two (by decide +kernel)
def R_6 : String := "SyntaxRowsModel"
def T_6 : u_T := fun k => match k with
  | 0 => ("SyntaxRowsModel", "thrown", "I", false)
  | 1 => ("SyntaxRowsModel", "size", "I", false)
  | 2 => ("SyntaxRowsModel", "tape", "[I", true)
  | 3 => ("SyntaxRowsModel", "objects", "I", false)
  | 4 => ("SyntaxRowsModel", "rows", "[I", true)
  | 5 => ("SyntaxRowsModel", "stray", "I", false)
  | 6 => ("SyntaxRowsModel", "values", "I", false)
  | 7 => ("SyntaxRowsModel", "kind", "[I", true)
  | 8 => ("SyntaxRowsModel", "number", "[J", true)
  | 9 => ("SyntaxRowsModel", "first", "[I", true)
  | 10 => ("SyntaxRowsModel", "last", "[I", true)
  | 11 => ("SyntaxRowsModel", "next", "[I", true)
  | 12 => ("SyntaxRowsModel", "count", "[I", true)
  | 13 => ("SyntaxRowsModel", "from", "[I", true)
  | 14 => ("SyntaxRowsModel", "length", "[I", true)
  | 15 => ("SyntaxRowsModel", "used", "I", false)
  | 16 => ("SyntaxRowsModel", "pool", "[I", true)
  | 17 => ("SyntaxRowsModel", "at", "I", false)
  | 18 => ("SyntaxRowsModel", "fault", "I", false)
  | 19 => ("SyntaxRowsModel", "faultAt", "I", false)
  | 20 => ("SyntaxRowsModel", "noted", "I", false)
  | 21 => ("SyntaxRowsModel", "got", "I", false)
  | 22 => ("SyntaxRowsModel", "scratch", "[I", true)
  | 23 => ("SyntaxRowsModel", "figure", "J", false)
  | 24 => ("SyntaxRowsModel", "isReal", "Z", false)
  | 25 => ("SyntaxRowsModel", "depth", "I", false)
  | 26 => ("SyntaxRowsModel", "open", "[I", true)
  | 27 => ("SyntaxRowsModel", "key", "[I", true)
  | 28 => ("SyntaxRowsModel", "outSize", "I", false)
  | 29 => ("SyntaxRowsModel", "out", "[I", true)
  | 30 => ("SyntaxRowsModel", "made", "I", false)
  | 31 => ("SyntaxRowsModel", "draft", "[I", true)
  | 32 => ("SyntaxRowsModel", "before", "I", false)
  | 33 => ("SyntaxRowsModel", "readable", "Z", false)
  | _ => ("SyntaxRowsModel", "nextChild", "[I", true)
def t_6 : Nat → FieldType := fun k => match k with
  | 0 => .int
  | 1 => .int
  | 2 => (.array .int)
  | 3 => .int
  | 4 => (.array .int)
  | 5 => .int
  | 6 => .int
  | 7 => (.array .int)
  | 8 => (.array .long)
  | 9 => (.array .int)
  | 10 => (.array .int)
  | 11 => (.array .int)
  | 12 => (.array .int)
  | 13 => (.array .int)
  | 14 => (.array .int)
  | 15 => .int
  | 16 => (.array .int)
  | 17 => .int
  | 18 => .int
  | 19 => .int
  | 20 => .int
  | 21 => .int
  | 22 => (.array .int)
  | 23 => .long
  | 24 => .boolean
  | 25 => .int
  | 26 => (.array .int)
  | 27 => (.array .int)
  | 28 => .int
  | 29 => (.array .int)
  | 30 => .int
  | 31 => (.array .int)
  | 32 => .int
  | 33 => .boolean
  | _ => (.array .int)
theorem nm_6 : ∀ a, a < 35 → ∀ b, b < 35 → a ≠ b → (T_6 a).2.1 ≠ (T_6 b).2.1 := by decide +kernel
theorem ty_6 : ∀ k, k < 35 → parseFieldDescriptor (T_6 k).2.2.1 = some (t_6 k) := by decide +kernel
theorem in_6 : ∀ w ∈ u_ws R_6 T_6 35, w ∈ lw_g := am_two (by decide +kernel)
def pr_cl : List vw_C := [(R_0, T_0, 2), (R_1, T_1, 10), (R_2, T_2, 2), (R_3, T_3, 12), (R_4, T_4, 8), (R_5, T_5, 5), (R_6, T_6, 35)]
def pr_cnL : List String := ["SyntaxRows$ObjectRows", "SyntaxRows$Reader", "SyntaxRows$Tape", "SyntaxRows$Values", "SyntaxRows$Writer", "SyntaxRows", "SyntaxRowsModel", "java/lang/String", "java/lang/StringLatin1", "java/lang/Math", "SyntaxRowsLaw", "jdk/internal/util/Preconditions"]
def pr_cn (co : Nat) : String := pr_cnL.getD co ""
/-- a class of the worlds: what its rows in the tables say -/
def am_cok (ci : Nat) (C : String) (T : u_T) (N : Nat) (ty0 : Nat → FieldType) : Prop := pr_cl[ci]? = some (C, T, N) ∧ (∀ w ∈ u_ws C T N, w ∈ lw_g) ∧ (∀ k, k < N → parseFieldDescriptor (T k).2.2.1 = some (ty0 k)) ∧ (∀ a, a < N → ∀ b, b < N → a ≠ b → (T a).2.1 ≠ (T b).2.1)
theorem ck_0 : am_cok 0 R_0 T_0 2 t_0 := ⟨rfl, in_0, ty_0, nm_0⟩
theorem ck_1 : am_cok 1 R_1 T_1 10 t_1 := ⟨rfl, in_1, ty_1, nm_1⟩
theorem ck_2 : am_cok 2 R_2 T_2 2 t_2 := ⟨rfl, in_2, ty_2, nm_2⟩
theorem ck_3 : am_cok 3 R_3 T_3 12 t_3 := ⟨rfl, in_3, ty_3, nm_3⟩
theorem ck_4 : am_cok 4 R_4 T_4 8 t_4 := ⟨rfl, in_4, ty_4, nm_4⟩
theorem ck_5 : am_cok 5 R_5 T_5 5 t_5 := ⟨rfl, in_5, ty_5, nm_5⟩
theorem ck_6 : am_cok 6 R_6 T_6 35 t_6 := ⟨rfl, in_6, ty_6, nm_6⟩
/-- field k of class ci, its type by a number (0 int, 1 long, 2 boolean, 3 reference), as entry idx of class co links it -/
def am_fok (co idx ci k tg : Nat) : Prop := ∃ (C : String) (T : u_T) (N : Nat) (ty0 : Nat → FieldType), am_cok ci C T N ty0 ∧ k < N ∧ Cond.fieldLink (pr_cn co) idx (T k).1 (T k).2.1 (T k).2.2.1 ∈ lw_g ∧ (tg = 0 → ty0 k = .int ∧ (T k).2.2.2 = false) ∧ (tg = 1 → ty0 k = .long ∧ (T k).2.2.2 = false) ∧ (tg = 2 → ty0 k = .boolean ∧ (T k).2.2.2 = false)
theorem fo_0_11 : am_fok 0 11 0 0 3 := ⟨_, _, _, _, ck_0, by decide, am_in 188 (by decide +kernel) rfl, fun h => absurd h (by decide), fun h => absurd h (by decide), fun h => absurd h (by decide)⟩
theorem fo_0_15 : am_fok 0 15 0 1 0 := ⟨_, _, _, _, ck_0, by decide, am_in 189 (by decide +kernel) rfl, fun _ => ⟨rfl, rfl⟩, fun h => absurd h (by decide), fun h => absurd h (by decide)⟩
theorem fo_1_9 : am_fok 1 9 1 3 0 := ⟨_, _, _, _, ck_1, by decide, am_in 204 (by decide +kernel) rfl, fun _ => ⟨rfl, rfl⟩, fun h => absurd h (by decide), fun h => absurd h (by decide)⟩
theorem fo_1_15 : am_fok 1 15 1 4 0 := ⟨_, _, _, _, ck_1, by decide, am_in 205 (by decide +kernel) rfl, fun _ => ⟨rfl, rfl⟩, fun h => absurd h (by decide), fun h => absurd h (by decide)⟩
theorem fo_1_18 : am_fok 1 18 1 5 0 := ⟨_, _, _, _, ck_1, by decide, am_in 206 (by decide +kernel) rfl, fun _ => ⟨rfl, rfl⟩, fun h => absurd h (by decide), fun h => absurd h (by decide)⟩
theorem fo_1_21 : am_fok 1 21 1 6 0 := ⟨_, _, _, _, ck_1, by decide, am_in 207 (by decide +kernel) rfl, fun _ => ⟨rfl, rfl⟩, fun h => absurd h (by decide), fun h => absurd h (by decide)⟩
theorem fo_1_24 : am_fok 1 24 1 7 0 := ⟨_, _, _, _, ck_1, by decide, am_in 208 (by decide +kernel) rfl, fun _ => ⟨rfl, rfl⟩, fun h => absurd h (by decide), fun h => absurd h (by decide)⟩
theorem fo_1_27 : am_fok 1 27 1 8 0 := ⟨_, _, _, _, ck_1, by decide, am_in 209 (by decide +kernel) rfl, fun _ => ⟨rfl, rfl⟩, fun h => absurd h (by decide), fun h => absurd h (by decide)⟩
theorem fo_1_30 : am_fok 1 30 1 9 0 := ⟨_, _, _, _, ck_1, by decide, am_in 210 (by decide +kernel) rfl, fun _ => ⟨rfl, rfl⟩, fun h => absurd h (by decide), fun h => absurd h (by decide)⟩
theorem fo_1_33 : am_fok 1 33 1 0 3 := ⟨_, _, _, _, ck_1, by decide, am_in 201 (by decide +kernel) rfl, fun h => absurd h (by decide), fun h => absurd h (by decide), fun h => absurd h (by decide)⟩
theorem fo_1_37 : am_fok 1 37 1 1 3 := ⟨_, _, _, _, ck_1, by decide, am_in 202 (by decide +kernel) rfl, fun h => absurd h (by decide), fun h => absurd h (by decide), fun h => absurd h (by decide)⟩
theorem fo_1_41 : am_fok 1 41 1 2 3 := ⟨_, _, _, _, ck_1, by decide, am_in 203 (by decide +kernel) rfl, fun h => absurd h (by decide), fun h => absurd h (by decide), fun h => absurd h (by decide)⟩
theorem fo_2_9 : am_fok 2 9 2 0 3 := ⟨_, _, _, _, ck_2, by decide, am_in 129 (by decide +kernel) rfl, fun h => absurd h (by decide), fun h => absurd h (by decide), fun h => absurd h (by decide)⟩
theorem fo_2_15 : am_fok 2 15 2 1 0 := ⟨_, _, _, _, ck_2, by decide, am_in 130 (by decide +kernel) rfl, fun _ => ⟨rfl, rfl⟩, fun h => absurd h (by decide), fun h => absurd h (by decide)⟩
theorem fo_3_9 : am_fok 3 9 3 0 3 := ⟨_, _, _, _, ck_3, by decide, am_in 143 (by decide +kernel) rfl, fun h => absurd h (by decide), fun h => absurd h (by decide), fun h => absurd h (by decide)⟩
theorem fo_3_15 : am_fok 3 15 3 1 3 := ⟨_, _, _, _, ck_3, by decide, am_in 144 (by decide +kernel) rfl, fun h => absurd h (by decide), fun h => absurd h (by decide), fun h => absurd h (by decide)⟩
theorem fo_3_19 : am_fok 3 19 3 2 3 := ⟨_, _, _, _, ck_3, by decide, am_in 145 (by decide +kernel) rfl, fun h => absurd h (by decide), fun h => absurd h (by decide), fun h => absurd h (by decide)⟩
theorem fo_3_22 : am_fok 3 22 3 3 3 := ⟨_, _, _, _, ck_3, by decide, am_in 146 (by decide +kernel) rfl, fun h => absurd h (by decide), fun h => absurd h (by decide), fun h => absurd h (by decide)⟩
theorem fo_3_25 : am_fok 3 25 3 4 3 := ⟨_, _, _, _, ck_3, by decide, am_in 147 (by decide +kernel) rfl, fun h => absurd h (by decide), fun h => absurd h (by decide), fun h => absurd h (by decide)⟩
theorem fo_3_28 : am_fok 3 28 3 5 3 := ⟨_, _, _, _, ck_3, by decide, am_in 148 (by decide +kernel) rfl, fun h => absurd h (by decide), fun h => absurd h (by decide), fun h => absurd h (by decide)⟩
theorem fo_3_31 : am_fok 3 31 3 6 3 := ⟨_, _, _, _, ck_3, by decide, am_in 149 (by decide +kernel) rfl, fun h => absurd h (by decide), fun h => absurd h (by decide), fun h => absurd h (by decide)⟩
theorem fo_3_34 : am_fok 3 34 3 7 3 := ⟨_, _, _, _, ck_3, by decide, am_in 150 (by decide +kernel) rfl, fun h => absurd h (by decide), fun h => absurd h (by decide), fun h => absurd h (by decide)⟩
theorem fo_3_37 : am_fok 3 37 3 8 3 := ⟨_, _, _, _, ck_3, by decide, am_in 151 (by decide +kernel) rfl, fun h => absurd h (by decide), fun h => absurd h (by decide), fun h => absurd h (by decide)⟩
theorem fo_3_40 : am_fok 3 40 3 9 3 := ⟨_, _, _, _, ck_3, by decide, am_in 152 (by decide +kernel) rfl, fun h => absurd h (by decide), fun h => absurd h (by decide), fun h => absurd h (by decide)⟩
theorem fo_3_44 : am_fok 3 44 3 10 0 := ⟨_, _, _, _, ck_3, by decide, am_in 153 (by decide +kernel) rfl, fun _ => ⟨rfl, rfl⟩, fun h => absurd h (by decide), fun h => absurd h (by decide)⟩
theorem fo_3_48 : am_fok 3 48 3 11 0 := ⟨_, _, _, _, ck_3, by decide, am_in 154 (by decide +kernel) rfl, fun _ => ⟨rfl, rfl⟩, fun h => absurd h (by decide), fun h => absurd h (by decide)⟩
theorem fo_4_9 : am_fok 4 9 4 2 3 := ⟨_, _, _, _, ck_4, by decide, am_in 240 (by decide +kernel) rfl, fun h => absurd h (by decide), fun h => absurd h (by decide), fun h => absurd h (by decide)⟩
theorem fo_4_15 : am_fok 4 15 4 3 0 := ⟨_, _, _, _, ck_4, by decide, am_in 241 (by decide +kernel) rfl, fun _ => ⟨rfl, rfl⟩, fun h => absurd h (by decide), fun h => absurd h (by decide)⟩
theorem fo_4_19 : am_fok 4 19 4 4 0 := ⟨_, _, _, _, ck_4, by decide, am_in 242 (by decide +kernel) rfl, fun _ => ⟨rfl, rfl⟩, fun h => absurd h (by decide), fun h => absurd h (by decide)⟩
theorem fo_4_22 : am_fok 4 22 4 5 2 := ⟨_, _, _, _, ck_4, by decide, am_in 243 (by decide +kernel) rfl, fun h => absurd h (by decide), fun h => absurd h (by decide), fun _ => ⟨rfl, rfl⟩⟩
theorem fo_4_26 : am_fok 4 26 4 6 2 := ⟨_, _, _, _, ck_4, by decide, am_in 244 (by decide +kernel) rfl, fun h => absurd h (by decide), fun h => absurd h (by decide), fun _ => ⟨rfl, rfl⟩⟩
theorem fo_4_29 : am_fok 4 29 4 7 0 := ⟨_, _, _, _, ck_4, by decide, am_in 245 (by decide +kernel) rfl, fun _ => ⟨rfl, rfl⟩, fun h => absurd h (by decide), fun h => absurd h (by decide)⟩
theorem fo_4_32 : am_fok 4 32 4 0 3 := ⟨_, _, _, _, ck_4, by decide, am_in 238 (by decide +kernel) rfl, fun h => absurd h (by decide), fun h => absurd h (by decide), fun h => absurd h (by decide)⟩
theorem fo_4_36 : am_fok 4 36 4 1 3 := ⟨_, _, _, _, ck_4, by decide, am_in 239 (by decide +kernel) rfl, fun h => absurd h (by decide), fun h => absurd h (by decide), fun h => absurd h (by decide)⟩
theorem fo_5_16 : am_fok 5 16 5 0 3 := ⟨_, _, _, _, ck_5, by decide, am_in 263 (by decide +kernel) rfl, fun h => absurd h (by decide), fun h => absurd h (by decide), fun h => absurd h (by decide)⟩
theorem fo_5_22 : am_fok 5 22 5 1 3 := ⟨_, _, _, _, ck_5, by decide, am_in 264 (by decide +kernel) rfl, fun h => absurd h (by decide), fun h => absurd h (by decide), fun h => absurd h (by decide)⟩
theorem fo_5_26 : am_fok 5 26 5 2 3 := ⟨_, _, _, _, ck_5, by decide, am_in 265 (by decide +kernel) rfl, fun h => absurd h (by decide), fun h => absurd h (by decide), fun h => absurd h (by decide)⟩
theorem fo_5_35 : am_fok 5 35 5 3 3 := ⟨_, _, _, _, ck_5, by decide, am_in 266 (by decide +kernel) rfl, fun h => absurd h (by decide), fun h => absurd h (by decide), fun h => absurd h (by decide)⟩
theorem fo_5_44 : am_fok 5 44 5 4 3 := ⟨_, _, _, _, ck_5, by decide, am_in 267 (by decide +kernel) rfl, fun h => absurd h (by decide), fun h => absurd h (by decide), fun h => absurd h (by decide)⟩
theorem fo_6_7 : am_fok 6 7 6 2 3 := ⟨_, _, _, _, ck_6, by decide, am_in 1041 (by decide +kernel) rfl, fun h => absurd h (by decide), fun h => absurd h (by decide), fun h => absurd h (by decide)⟩
theorem fo_6_13 : am_fok 6 13 6 4 3 := ⟨_, _, _, _, ck_6, by decide, am_in 1043 (by decide +kernel) rfl, fun h => absurd h (by decide), fun h => absurd h (by decide), fun h => absurd h (by decide)⟩
theorem fo_6_16 : am_fok 6 16 6 7 3 := ⟨_, _, _, _, ck_6, by decide, am_in 1046 (by decide +kernel) rfl, fun h => absurd h (by decide), fun h => absurd h (by decide), fun h => absurd h (by decide)⟩
theorem fo_6_19 : am_fok 6 19 6 8 3 := ⟨_, _, _, _, ck_6, by decide, am_in 1047 (by decide +kernel) rfl, fun h => absurd h (by decide), fun h => absurd h (by decide), fun h => absurd h (by decide)⟩
theorem fo_6_23 : am_fok 6 23 6 9 3 := ⟨_, _, _, _, ck_6, by decide, am_in 1048 (by decide +kernel) rfl, fun h => absurd h (by decide), fun h => absurd h (by decide), fun h => absurd h (by decide)⟩
theorem fo_6_26 : am_fok 6 26 6 10 3 := ⟨_, _, _, _, ck_6, by decide, am_in 1049 (by decide +kernel) rfl, fun h => absurd h (by decide), fun h => absurd h (by decide), fun h => absurd h (by decide)⟩
theorem fo_6_29 : am_fok 6 29 6 11 3 := ⟨_, _, _, _, ck_6, by decide, am_in 1050 (by decide +kernel) rfl, fun h => absurd h (by decide), fun h => absurd h (by decide), fun h => absurd h (by decide)⟩
theorem fo_6_32 : am_fok 6 32 6 12 3 := ⟨_, _, _, _, ck_6, by decide, am_in 1051 (by decide +kernel) rfl, fun h => absurd h (by decide), fun h => absurd h (by decide), fun h => absurd h (by decide)⟩
theorem fo_6_35 : am_fok 6 35 6 13 3 := ⟨_, _, _, _, ck_6, by decide, am_in 1052 (by decide +kernel) rfl, fun h => absurd h (by decide), fun h => absurd h (by decide), fun h => absurd h (by decide)⟩
theorem fo_6_38 : am_fok 6 38 6 14 3 := ⟨_, _, _, _, ck_6, by decide, am_in 1053 (by decide +kernel) rfl, fun h => absurd h (by decide), fun h => absurd h (by decide), fun h => absurd h (by decide)⟩
theorem fo_6_41 : am_fok 6 41 6 16 3 := ⟨_, _, _, _, ck_6, by decide, am_in 1055 (by decide +kernel) rfl, fun h => absurd h (by decide), fun h => absurd h (by decide), fun h => absurd h (by decide)⟩
theorem fo_6_44 : am_fok 6 44 6 22 3 := ⟨_, _, _, _, ck_6, by decide, am_in 1061 (by decide +kernel) rfl, fun h => absurd h (by decide), fun h => absurd h (by decide), fun h => absurd h (by decide)⟩
theorem fo_6_47 : am_fok 6 47 6 26 3 := ⟨_, _, _, _, ck_6, by decide, am_in 1065 (by decide +kernel) rfl, fun h => absurd h (by decide), fun h => absurd h (by decide), fun h => absurd h (by decide)⟩
theorem fo_6_50 : am_fok 6 50 6 27 3 := ⟨_, _, _, _, ck_6, by decide, am_in 1066 (by decide +kernel) rfl, fun h => absurd h (by decide), fun h => absurd h (by decide), fun h => absurd h (by decide)⟩
theorem fo_6_53 : am_fok 6 53 6 29 3 := ⟨_, _, _, _, ck_6, by decide, am_in 1068 (by decide +kernel) rfl, fun h => absurd h (by decide), fun h => absurd h (by decide), fun h => absurd h (by decide)⟩
theorem fo_6_56 : am_fok 6 56 6 31 3 := ⟨_, _, _, _, ck_6, by decide, am_in 1070 (by decide +kernel) rfl, fun h => absurd h (by decide), fun h => absurd h (by decide), fun h => absurd h (by decide)⟩
theorem fo_6_59 : am_fok 6 59 6 34 3 := ⟨_, _, _, _, ck_6, by decide, am_in 1073 (by decide +kernel) rfl, fun h => absurd h (by decide), fun h => absurd h (by decide), fun h => absurd h (by decide)⟩
theorem fo_6_62 : am_fok 6 62 6 1 0 := ⟨_, _, _, _, ck_6, by decide, am_in 1040 (by decide +kernel) rfl, fun _ => ⟨rfl, rfl⟩, fun h => absurd h (by decide), fun h => absurd h (by decide)⟩
theorem fo_6_66 : am_fok 6 66 6 0 0 := ⟨_, _, _, _, ck_6, by decide, am_in 1039 (by decide +kernel) rfl, fun _ => ⟨rfl, rfl⟩, fun h => absurd h (by decide), fun h => absurd h (by decide)⟩
theorem fo_6_130 : am_fok 6 130 6 18 0 := ⟨_, _, _, _, ck_6, by decide, am_in 1057 (by decide +kernel) rfl, fun _ => ⟨rfl, rfl⟩, fun h => absurd h (by decide), fun h => absurd h (by decide)⟩
theorem fo_6_133 : am_fok 6 133 6 19 0 := ⟨_, _, _, _, ck_6, by decide, am_in 1058 (by decide +kernel) rfl, fun _ => ⟨rfl, rfl⟩, fun h => absurd h (by decide), fun h => absurd h (by decide)⟩
theorem fo_6_136 : am_fok 6 136 6 6 0 := ⟨_, _, _, _, ck_6, by decide, am_in 1045 (by decide +kernel) rfl, fun _ => ⟨rfl, rfl⟩, fun h => absurd h (by decide), fun h => absurd h (by decide)⟩
theorem fo_6_142 : am_fok 6 142 6 15 0 := ⟨_, _, _, _, ck_6, by decide, am_in 1054 (by decide +kernel) rfl, fun _ => ⟨rfl, rfl⟩, fun h => absurd h (by decide), fun h => absurd h (by decide)⟩
theorem fo_6_145 : am_fok 6 145 6 21 0 := ⟨_, _, _, _, ck_6, by decide, am_in 1060 (by decide +kernel) rfl, fun _ => ⟨rfl, rfl⟩, fun h => absurd h (by decide), fun h => absurd h (by decide)⟩
theorem fo_6_148 : am_fok 6 148 6 17 0 := ⟨_, _, _, _, ck_6, by decide, am_in 1056 (by decide +kernel) rfl, fun _ => ⟨rfl, rfl⟩, fun h => absurd h (by decide), fun h => absurd h (by decide)⟩
theorem fo_6_171 : am_fok 6 171 6 20 0 := ⟨_, _, _, _, ck_6, by decide, am_in 1059 (by decide +kernel) rfl, fun _ => ⟨rfl, rfl⟩, fun h => absurd h (by decide), fun h => absurd h (by decide)⟩
theorem fo_6_174 : am_fok 6 174 6 24 2 := ⟨_, _, _, _, ck_6, by decide, am_in 1063 (by decide +kernel) rfl, fun h => absurd h (by decide), fun h => absurd h (by decide), fun _ => ⟨rfl, rfl⟩⟩
theorem fo_6_178 : am_fok 6 178 6 23 1 := ⟨_, _, _, _, ck_6, by decide, am_in 1062 (by decide +kernel) rfl, fun h => absurd h (by decide), fun _ => ⟨rfl, rfl⟩, fun h => absurd h (by decide)⟩
theorem fo_6_204 : am_fok 6 204 6 25 0 := ⟨_, _, _, _, ck_6, by decide, am_in 1064 (by decide +kernel) rfl, fun _ => ⟨rfl, rfl⟩, fun h => absurd h (by decide), fun h => absurd h (by decide)⟩
theorem fo_6_236 : am_fok 6 236 6 3 0 := ⟨_, _, _, _, ck_6, by decide, am_in 1042 (by decide +kernel) rfl, fun _ => ⟨rfl, rfl⟩, fun h => absurd h (by decide), fun h => absurd h (by decide)⟩
theorem fo_6_257 : am_fok 6 257 6 5 0 := ⟨_, _, _, _, ck_6, by decide, am_in 1044 (by decide +kernel) rfl, fun _ => ⟨rfl, rfl⟩, fun h => absurd h (by decide), fun h => absurd h (by decide)⟩
theorem fo_6_267 : am_fok 6 267 6 30 0 := ⟨_, _, _, _, ck_6, by decide, am_in 1069 (by decide +kernel) rfl, fun _ => ⟨rfl, rfl⟩, fun h => absurd h (by decide), fun h => absurd h (by decide)⟩
theorem fo_6_273 : am_fok 6 273 6 33 2 := ⟨_, _, _, _, ck_6, by decide, am_in 1072 (by decide +kernel) rfl, fun h => absurd h (by decide), fun h => absurd h (by decide), fun _ => ⟨rfl, rfl⟩⟩
theorem fo_6_276 : am_fok 6 276 6 32 0 := ⟨_, _, _, _, ck_6, by decide, am_in 1071 (by decide +kernel) rfl, fun _ => ⟨rfl, rfl⟩, fun h => absurd h (by decide), fun h => absurd h (by decide)⟩
theorem fo_6_331 : am_fok 6 331 6 28 0 := ⟨_, _, _, _, ck_6, by decide, am_in 1067 (by decide +kernel) rfl, fun _ => ⟨rfl, rfl⟩, fun h => absurd h (by decide), fun h => absurd h (by decide)⟩
def pr_fl_0 : List (Nat × (Nat × Nat × Nat)) := [(11, (0, 0, 3)), (15, (0, 1, 0))]
theorem pr_flok_0 : ∀ q ∈ pr_fl_0, am_fok 0 q.1 q.2.1 q.2.2.1 q.2.2.2 := List.forall_mem_cons.mpr ⟨fo_0_11, List.forall_mem_cons.mpr ⟨fo_0_15, List.forall_mem_nil _⟩⟩
def pr_fl_1 : List (Nat × (Nat × Nat × Nat)) := [(9, (1, 3, 0)), (15, (1, 4, 0)), (18, (1, 5, 0)), (21, (1, 6, 0)), (24, (1, 7, 0)), (27, (1, 8, 0)), (30, (1, 9, 0)), (33, (1, 0, 3)), (37, (1, 1, 3)), (41, (1, 2, 3))]
theorem pr_flok_1 : ∀ q ∈ pr_fl_1, am_fok 1 q.1 q.2.1 q.2.2.1 q.2.2.2 := List.forall_mem_cons.mpr ⟨fo_1_9, List.forall_mem_cons.mpr ⟨fo_1_15, List.forall_mem_cons.mpr ⟨fo_1_18, List.forall_mem_cons.mpr ⟨fo_1_21, List.forall_mem_cons.mpr ⟨fo_1_24, List.forall_mem_cons.mpr ⟨fo_1_27, List.forall_mem_cons.mpr ⟨fo_1_30, List.forall_mem_cons.mpr ⟨fo_1_33, List.forall_mem_cons.mpr ⟨fo_1_37, List.forall_mem_cons.mpr ⟨fo_1_41, List.forall_mem_nil _⟩⟩⟩⟩⟩⟩⟩⟩⟩⟩
def pr_fl_2 : List (Nat × (Nat × Nat × Nat)) := [(9, (2, 0, 3)), (15, (2, 1, 0))]
theorem pr_flok_2 : ∀ q ∈ pr_fl_2, am_fok 2 q.1 q.2.1 q.2.2.1 q.2.2.2 := List.forall_mem_cons.mpr ⟨fo_2_9, List.forall_mem_cons.mpr ⟨fo_2_15, List.forall_mem_nil _⟩⟩
def pr_fl_3 : List (Nat × (Nat × Nat × Nat)) := [(9, (3, 0, 3)), (15, (3, 1, 3)), (19, (3, 2, 3)), (22, (3, 3, 3)), (25, (3, 4, 3)), (28, (3, 5, 3)), (31, (3, 6, 3)), (34, (3, 7, 3)), (37, (3, 8, 3)), (40, (3, 9, 3)), (44, (3, 10, 0)), (48, (3, 11, 0))]
theorem pr_flok_3 : ∀ q ∈ pr_fl_3, am_fok 3 q.1 q.2.1 q.2.2.1 q.2.2.2 := List.forall_mem_cons.mpr ⟨fo_3_9, List.forall_mem_cons.mpr ⟨fo_3_15, List.forall_mem_cons.mpr ⟨fo_3_19, List.forall_mem_cons.mpr ⟨fo_3_22, List.forall_mem_cons.mpr ⟨fo_3_25, List.forall_mem_cons.mpr ⟨fo_3_28, List.forall_mem_cons.mpr ⟨fo_3_31, List.forall_mem_cons.mpr ⟨fo_3_34, List.forall_mem_cons.mpr ⟨fo_3_37, List.forall_mem_cons.mpr ⟨fo_3_40, List.forall_mem_cons.mpr ⟨fo_3_44, List.forall_mem_cons.mpr ⟨fo_3_48, List.forall_mem_nil _⟩⟩⟩⟩⟩⟩⟩⟩⟩⟩⟩⟩
def pr_fl_4 : List (Nat × (Nat × Nat × Nat)) := [(9, (4, 2, 3)), (15, (4, 3, 0)), (19, (4, 4, 0)), (22, (4, 5, 2)), (26, (4, 6, 2)), (29, (4, 7, 0)), (32, (4, 0, 3)), (36, (4, 1, 3))]
theorem pr_flok_4 : ∀ q ∈ pr_fl_4, am_fok 4 q.1 q.2.1 q.2.2.1 q.2.2.2 := List.forall_mem_cons.mpr ⟨fo_4_9, List.forall_mem_cons.mpr ⟨fo_4_15, List.forall_mem_cons.mpr ⟨fo_4_19, List.forall_mem_cons.mpr ⟨fo_4_22, List.forall_mem_cons.mpr ⟨fo_4_26, List.forall_mem_cons.mpr ⟨fo_4_29, List.forall_mem_cons.mpr ⟨fo_4_32, List.forall_mem_cons.mpr ⟨fo_4_36, List.forall_mem_nil _⟩⟩⟩⟩⟩⟩⟩⟩
def pr_fl_5 : List (Nat × (Nat × Nat × Nat)) := [(16, (5, 0, 3)), (22, (5, 1, 3)), (26, (5, 2, 3)), (35, (5, 3, 3)), (44, (5, 4, 3))]
theorem pr_flok_5 : ∀ q ∈ pr_fl_5, am_fok 5 q.1 q.2.1 q.2.2.1 q.2.2.2 := List.forall_mem_cons.mpr ⟨fo_5_16, List.forall_mem_cons.mpr ⟨fo_5_22, List.forall_mem_cons.mpr ⟨fo_5_26, List.forall_mem_cons.mpr ⟨fo_5_35, List.forall_mem_cons.mpr ⟨fo_5_44, List.forall_mem_nil _⟩⟩⟩⟩⟩
def pr_fl_6 : List (Nat × (Nat × Nat × Nat)) := [(7, (6, 2, 3)), (13, (6, 4, 3)), (16, (6, 7, 3)), (19, (6, 8, 3)), (23, (6, 9, 3)), (26, (6, 10, 3)), (29, (6, 11, 3)), (32, (6, 12, 3)), (35, (6, 13, 3)), (38, (6, 14, 3)), (41, (6, 16, 3)), (44, (6, 22, 3)), (47, (6, 26, 3)), (50, (6, 27, 3)), (53, (6, 29, 3)), (56, (6, 31, 3)), (59, (6, 34, 3)), (62, (6, 1, 0)), (66, (6, 0, 0)), (130, (6, 18, 0)), (133, (6, 19, 0)), (136, (6, 6, 0)), (142, (6, 15, 0)), (145, (6, 21, 0)), (148, (6, 17, 0)), (171, (6, 20, 0)), (174, (6, 24, 2)), (178, (6, 23, 1)), (204, (6, 25, 0)), (236, (6, 3, 0)), (257, (6, 5, 0)), (267, (6, 30, 0)), (273, (6, 33, 2)), (276, (6, 32, 0)), (331, (6, 28, 0))]
theorem pr_flok_6 : ∀ q ∈ pr_fl_6, am_fok 6 q.1 q.2.1 q.2.2.1 q.2.2.2 := List.forall_mem_cons.mpr ⟨fo_6_7, List.forall_mem_cons.mpr ⟨fo_6_13, List.forall_mem_cons.mpr ⟨fo_6_16, List.forall_mem_cons.mpr ⟨fo_6_19, List.forall_mem_cons.mpr ⟨fo_6_23, List.forall_mem_cons.mpr ⟨fo_6_26, List.forall_mem_cons.mpr ⟨fo_6_29, List.forall_mem_cons.mpr ⟨fo_6_32, List.forall_mem_cons.mpr ⟨fo_6_35, List.forall_mem_cons.mpr ⟨fo_6_38, List.forall_mem_cons.mpr ⟨fo_6_41, List.forall_mem_cons.mpr ⟨fo_6_44, List.forall_mem_cons.mpr ⟨fo_6_47, List.forall_mem_cons.mpr ⟨fo_6_50, List.forall_mem_cons.mpr ⟨fo_6_53, List.forall_mem_cons.mpr ⟨fo_6_56, List.forall_mem_cons.mpr ⟨fo_6_59, List.forall_mem_cons.mpr ⟨fo_6_62, List.forall_mem_cons.mpr ⟨fo_6_66, List.forall_mem_cons.mpr ⟨fo_6_130, List.forall_mem_cons.mpr ⟨fo_6_133, List.forall_mem_cons.mpr ⟨fo_6_136, List.forall_mem_cons.mpr ⟨fo_6_142, List.forall_mem_cons.mpr ⟨fo_6_145, List.forall_mem_cons.mpr ⟨fo_6_148, List.forall_mem_cons.mpr ⟨fo_6_171, List.forall_mem_cons.mpr ⟨fo_6_174, List.forall_mem_cons.mpr ⟨fo_6_178, List.forall_mem_cons.mpr ⟨fo_6_204, List.forall_mem_cons.mpr ⟨fo_6_236, List.forall_mem_cons.mpr ⟨fo_6_257, List.forall_mem_cons.mpr ⟨fo_6_267, List.forall_mem_cons.mpr ⟨fo_6_273, List.forall_mem_cons.mpr ⟨fo_6_276, List.forall_mem_cons.mpr ⟨fo_6_331, List.forall_mem_nil _⟩⟩⟩⟩⟩⟩⟩⟩⟩⟩⟩⟩⟩⟩⟩⟩⟩⟩⟩⟩⟩⟩⟩⟩⟩⟩⟩⟩⟩⟩⟩⟩⟩⟩⟩
def pr_fl (co : Nat) : List (Nat × (Nat × Nat × Nat)) := match co with
  | 0 => pr_fl_0
  | 1 => pr_fl_1
  | 2 => pr_fl_2
  | 3 => pr_fl_3
  | 4 => pr_fl_4
  | 5 => pr_fl_5
  | 6 => pr_fl_6
  | _ => []
theorem pr_flok {co idx ci k tg : Nat} (h : am_look (pr_fl co) idx = some (ci, k, tg)) : am_fok co idx ci k tg := by
  have h1 := am_look_mem h
  unfold pr_fl at h1
  split at h1
  · exact pr_flok_0 _ h1
  · exact pr_flok_1 _ h1
  · exact pr_flok_2 _ h1
  · exact pr_flok_3 _ h1
  · exact pr_flok_4 _ h1
  · exact pr_flok_5 _ h1
  · exact pr_flok_6 _ h1
  · cases h1
def pr_lg_1 : List (Nat × Int64) := [(227, 1000000000), (241, 10), (243, 48)]
theorem pr_lgok_1 : ∀ q ∈ pr_lg_1, Cond.constantLong (pr_cn 1) q.1 q.2 ∈ lw_g := List.forall_mem_cons.mpr ⟨am_in 632 (by decide +kernel) rfl, List.forall_mem_cons.mpr ⟨am_in 641 (by decide +kernel) rfl, List.forall_mem_cons.mpr ⟨am_in 642 (by decide +kernel) rfl, List.forall_mem_nil _⟩⟩⟩
def pr_lg_4 : List (Nat × Int64) := [(89, 100000000), (91, 10), (154, 1000000), (156, 100000), (158, 1000000000)]
theorem pr_lgok_4 : ∀ q ∈ pr_lg_4, Cond.constantLong (pr_cn 4) q.1 q.2 ∈ lw_g := List.forall_mem_cons.mpr ⟨am_in 953 (by decide +kernel) rfl, List.forall_mem_cons.mpr ⟨am_in 954 (by decide +kernel) rfl, List.forall_mem_cons.mpr ⟨am_in 959 (by decide +kernel) rfl, List.forall_mem_cons.mpr ⟨am_in 960 (by decide +kernel) rfl, List.forall_mem_cons.mpr ⟨am_in 1001 (by decide +kernel) rfl, List.forall_mem_nil _⟩⟩⟩⟩⟩
def pr_lg_6 : List (Nat × Int64) := [(76, 255), (88, 116971008192101), (90, 120265081255027), (92, 6972015), (94, 1702195828), (96, 6581861), (98, 435728179558), (100, 1819047278), (102, 114849160783180), (104, 82), (120, 10), (122, 48), (191, 1000000000), (242, (-1)), (279, 9), (281, 1000000), (287, 100000)]
theorem pr_lgok_6 : ∀ q ∈ pr_lg_6, Cond.constantLong (pr_cn 6) q.1 q.2 ∈ lw_g := List.forall_mem_cons.mpr ⟨am_in 1153 (by decide +kernel) rfl, List.forall_mem_cons.mpr ⟨am_in 1205 (by decide +kernel) rfl, List.forall_mem_cons.mpr ⟨am_in 1206 (by decide +kernel) rfl, List.forall_mem_cons.mpr ⟨am_in 1207 (by decide +kernel) rfl, List.forall_mem_cons.mpr ⟨am_in 1208 (by decide +kernel) rfl, List.forall_mem_cons.mpr ⟨am_in 1209 (by decide +kernel) rfl, List.forall_mem_cons.mpr ⟨am_in 1210 (by decide +kernel) rfl, List.forall_mem_cons.mpr ⟨am_in 1211 (by decide +kernel) rfl, List.forall_mem_cons.mpr ⟨am_in 1212 (by decide +kernel) rfl, List.forall_mem_cons.mpr ⟨am_in 1213 (by decide +kernel) rfl, List.forall_mem_cons.mpr ⟨am_in 1225 (by decide +kernel) rfl, List.forall_mem_cons.mpr ⟨am_in 1226 (by decide +kernel) rfl, List.forall_mem_cons.mpr ⟨am_in 1286 (by decide +kernel) rfl, List.forall_mem_cons.mpr ⟨am_in 1319 (by decide +kernel) rfl, List.forall_mem_cons.mpr ⟨am_in 1388 (by decide +kernel) rfl, List.forall_mem_cons.mpr ⟨am_in 1393 (by decide +kernel) rfl, List.forall_mem_cons.mpr ⟨am_in 1394 (by decide +kernel) rfl, List.forall_mem_nil _⟩⟩⟩⟩⟩⟩⟩⟩⟩⟩⟩⟩⟩⟩⟩⟩⟩
def pr_lg_10 : List (Nat × Int64) := [(49, 4294967295)]
theorem pr_lgok_10 : ∀ q ∈ pr_lg_10, Cond.constantLong (pr_cn 10) q.1 q.2 ∈ lw_g := List.forall_mem_cons.mpr ⟨am_in 1439 (by decide +kernel) rfl, List.forall_mem_nil _⟩
def pr_lg (co : Nat) : List (Nat × Int64) := match co with
  | 1 => pr_lg_1
  | 4 => pr_lg_4
  | 6 => pr_lg_6
  | 10 => pr_lg_10
  | _ => []
theorem pr_lgok {co idx : Nat} {v : Int64} (h : am_look (pr_lg co) idx = some v) : Cond.constantLong (pr_cn co) idx v ∈ lw_g := by
  have h1 := am_look_mem h
  unfold pr_lg at h1
  split at h1
  · exact pr_lgok_1 _ h1
  · exact pr_lgok_4 _ h1
  · exact pr_lgok_6 _ h1
  · exact pr_lgok_10 _ h1
  · cases h1
/-- the text constants that the class uses, but those of its exceptions: class, entry, text, bytes -/
def pr_st : List (Nat × Nat × String × List Int32) := [(1, 70, "obj", [111, 98, 106]), (5, 136, "()<>[]{}/%", [40, 41, 60, 62, 91, 93, 123, 125, 47, 37]), (1, 162, ">>", [62, 62]), (1, 225, "R", [82]), (1, 229, "null", [110, 117, 108, 108]), (1, 231, "true", [116, 114, 117, 101]), (1, 233, "false", [102, 97, 108, 115, 101]), (1, 245, "stream", [115, 116, 114, 101, 97, 109]), (1, 267, "Length", [76, 101, 110, 103, 116, 104]), (1, 256, "endstream", [101, 110, 100, 115, 116, 114, 101, 97, 109]), (1, 120, "endobj", [101, 110, 100, 111, 98, 106]), (4, 107, "true", [116, 114, 117, 101]), (4, 109, "false", [102, 97, 108, 115, 101]), (4, 93, "0123456789ABCDEF", [48, 49, 50, 51, 52, 53, 54, 55, 56, 57, 65, 66, 67, 68, 69, 70]), (4, 172, "(", [40]), (4, 174, "[", [91]), (4, 182, "]", [93]), (4, 184, "Length", [76, 101, 110, 103, 116, 104]), (4, 190, "<<", [60, 60]), (4, 195, "/Length", [47, 76, 101, 110, 103, 116, 104]), (4, 197, ">>", [62, 62]), (4, 160, " R", [32, 82]), (4, 199, "\nstream\n", [10, 115, 116, 114, 101, 97, 109, 10]), (4, 201, "\nendstream", [10, 101, 110, 100, 115, 116, 114, 101, 97, 109]), (4, 146, "null", [110, 117, 108, 108]), (4, 78, " obj\n", [32, 111, 98, 106, 10]), (4, 61, "\nendobj\n", [10, 101, 110, 100, 111, 98, 106, 10])]
def pr_ss (co : Nat) : List (Nat × Nat) := match co with
  | 1 => [(70, 0), (162, 2), (225, 3), (229, 4), (231, 5), (233, 6), (245, 7), (267, 8), (256, 9), (120, 10)]
  | 4 => [(107, 11), (109, 12), (93, 13), (172, 14), (174, 15), (182, 16), (184, 17), (190, 18), (195, 19), (197, 20), (160, 21), (199, 22), (201, 23), (146, 24), (78, 25), (61, 26)]
  | 5 => [(136, 1)]
  | _ => []
theorem pr_ssok {co idx i : Nat} (h : am_look (pr_ss co) idx = some i) : ∃ tx bs, pr_st[i]? = some (co, idx, tx, bs) := by
  have h1 := am_look_mem h
  unfold pr_ss at h1
  split at h1
  · simp only [List.mem_cons, Prod.mk.injEq, List.not_mem_nil, or_false] at h1
    rcases h1 with ⟨rfl, rfl⟩ | ⟨rfl, rfl⟩ | ⟨rfl, rfl⟩ | ⟨rfl, rfl⟩ | ⟨rfl, rfl⟩ | ⟨rfl, rfl⟩ | ⟨rfl, rfl⟩ | ⟨rfl, rfl⟩ | ⟨rfl, rfl⟩ | ⟨rfl, rfl⟩ <;> exact ⟨_, _, rfl⟩
  · simp only [List.mem_cons, Prod.mk.injEq, List.not_mem_nil, or_false] at h1
    rcases h1 with ⟨rfl, rfl⟩ | ⟨rfl, rfl⟩ | ⟨rfl, rfl⟩ | ⟨rfl, rfl⟩ | ⟨rfl, rfl⟩ | ⟨rfl, rfl⟩ | ⟨rfl, rfl⟩ | ⟨rfl, rfl⟩ | ⟨rfl, rfl⟩ | ⟨rfl, rfl⟩ | ⟨rfl, rfl⟩ | ⟨rfl, rfl⟩ | ⟨rfl, rfl⟩ | ⟨rfl, rfl⟩ | ⟨rfl, rfl⟩ | ⟨rfl, rfl⟩ <;> exact ⟨_, _, rfl⟩
  · simp only [List.mem_cons, Prod.mk.injEq, List.not_mem_nil, or_false] at h1
    rcases h1 with ⟨rfl, rfl⟩ <;> exact ⟨_, _, rfl⟩
  · cases h1
/-- links of nest mates -/
def pr_ns : List (Nat × Nat × MethodName × String) := [(5, 9, ⟨"SyntaxRows$Tape", "<init>", "()V"⟩, "SyntaxRows"), (5, 12, ⟨"SyntaxRows$Values", "<init>", "()V"⟩, "SyntaxRows"), (5, 15, ⟨"SyntaxRows$ObjectRows", "<init>", "()V"⟩, "SyntaxRows"), (2, 23, ⟨"SyntaxRows", "isLineEnd", "(I)Z"⟩, "SyntaxRows"), (2, 27, ⟨"SyntaxRows", "isPlainWhite", "(I)Z"⟩, "SyntaxRows"), (2, 47, ⟨"SyntaxRows", "isFigure", "(I)Z"⟩, "SyntaxRows"), (2, 30, ⟨"SyntaxRows", "isRegular", "(I)Z"⟩, "SyntaxRows"), (1, 127, ⟨"SyntaxRows", "isRegular", "(I)Z"⟩, "SyntaxRows"), (1, 193, ⟨"SyntaxRows", "figure16", "(I)I"⟩, "SyntaxRows"), (1, 210, ⟨"SyntaxRows", "isLineEnd", "(I)Z"⟩, "SyntaxRows"), (1, 222, ⟨"SyntaxRows", "isPlainWhite", "(I)Z"⟩, "SyntaxRows"), (1, 238, ⟨"SyntaxRows", "isFigure", "(I)Z"⟩, "SyntaxRows"), (4, 165, ⟨"SyntaxRows", "isRegular", "(I)Z"⟩, "SyntaxRows")]
