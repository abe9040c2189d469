section
-- ===== PART A: goes FIRST, ahead of the names: the tables' words, and 'selects' of the private methods out of them =====
/-- a private method of a class that the tables say can be made, by its rows of tables_1 -/
def lw_okq (q : MethodName × Nat) : Prop := (q.1.cls ≠ "java/lang/invoke/MethodHandle" ∧ q.1.cls ≠ "java/lang/invoke/VarHandle") ∧ Cond.instantiable q.1.cls q.2 ∈ tables_1 ∧ Cond.privateMethod q.1 ∈ tables_1 ∧ Cond.instanceMethod q.1 ∈ tables_1
theorem lw_p0 : lw_okq (⟨"TypeLevels", "readDefinition", "()I"⟩, 15) := ⟨⟨by decide +kernel, by decide +kernel⟩, List.mem_of_getElem? (i := 25) (by decide +kernel), List.mem_of_getElem? (i := 430) (by decide +kernel), List.mem_of_getElem? (i := 431) (by decide +kernel)⟩
theorem lw_p1 : lw_okq (⟨"TypeLevels$Reader", "expression", "(I)I"⟩, 6) := ⟨⟨by decide +kernel, by decide +kernel⟩, List.mem_of_getElem? (i := 72) (by decide +kernel), List.mem_of_getElem? (i := 448) (by decide +kernel), List.mem_of_getElem? (i := 449) (by decide +kernel)⟩
theorem lw_p2 : lw_okq (⟨"TypeLevels$Reader", "peek", "()I"⟩, 6) := ⟨⟨by decide +kernel, by decide +kernel⟩, List.mem_of_getElem? (i := 72) (by decide +kernel), List.mem_of_getElem? (i := 452) (by decide +kernel), List.mem_of_getElem? (i := 453) (by decide +kernel)⟩
theorem lw_p3 : lw_okq (⟨"TypeLevels$Reader", "binder", "(III)I"⟩, 6) := ⟨⟨by decide +kernel, by decide +kernel⟩, List.mem_of_getElem? (i := 72) (by decide +kernel), List.mem_of_getElem? (i := 456) (by decide +kernel), List.mem_of_getElem? (i := 457) (by decide +kernel)⟩
theorem lw_p4 : lw_okq (⟨"TypeLevels$Reader", "opens", "(I)Z"⟩, 6) := ⟨⟨by decide +kernel, by decide +kernel⟩, List.mem_of_getElem? (i := 72) (by decide +kernel), List.mem_of_getElem? (i := 460) (by decide +kernel), List.mem_of_getElem? (i := 461) (by decide +kernel)⟩
theorem lw_p5 : lw_okq (⟨"TypeLevels$Reader", "refuse", "()V"⟩, 6) := ⟨⟨by decide +kernel, by decide +kernel⟩, List.mem_of_getElem? (i := 72) (by decide +kernel), List.mem_of_getElem? (i := 464) (by decide +kernel), List.mem_of_getElem? (i := 465) (by decide +kernel)⟩
theorem lw_p6 : lw_okq (⟨"TypeLevels$Reader", "boundLetter", "()I"⟩, 6) := ⟨⟨by decide +kernel, by decide +kernel⟩, List.mem_of_getElem? (i := 72) (by decide +kernel), List.mem_of_getElem? (i := 468) (by decide +kernel), List.mem_of_getElem? (i := 469) (by decide +kernel)⟩
theorem lw_p7 : lw_okq (⟨"TypeLevels$Reader", "expect", "(I)V"⟩, 6) := ⟨⟨by decide +kernel, by decide +kernel⟩, List.mem_of_getElem? (i := 72) (by decide +kernel), List.mem_of_getElem? (i := 475) (by decide +kernel), List.mem_of_getElem? (i := 476) (by decide +kernel)⟩
theorem lw_p8 : lw_okq (⟨"TypeLevels$Reader", "let", "(I)I"⟩, 6) := ⟨⟨by decide +kernel, by decide +kernel⟩, List.mem_of_getElem? (i := 72) (by decide +kernel), List.mem_of_getElem? (i := 487) (by decide +kernel), List.mem_of_getElem? (i := 488) (by decide +kernel)⟩
theorem lw_p9 : lw_okq (⟨"TypeLevels$Reader", "assignment", "(I)I"⟩, 6) := ⟨⟨by decide +kernel, by decide +kernel⟩, List.mem_of_getElem? (i := 72) (by decide +kernel), List.mem_of_getElem? (i := 491) (by decide +kernel), List.mem_of_getElem? (i := 492) (by decide +kernel)⟩
theorem lw_p10 : lw_okq (⟨"TypeLevels$Reader", "comparison", "(I)I"⟩, 6) := ⟨⟨by decide +kernel, by decide +kernel⟩, List.mem_of_getElem? (i := 72) (by decide +kernel), List.mem_of_getElem? (i := 495) (by decide +kernel), List.mem_of_getElem? (i := 496) (by decide +kernel)⟩
theorem lw_p11 : lw_okq (⟨"TypeLevels$Reader", "sum", "(I)I"⟩, 6) := ⟨⟨by decide +kernel, by decide +kernel⟩, List.mem_of_getElem? (i := 72) (by decide +kernel), List.mem_of_getElem? (i := 499) (by decide +kernel), List.mem_of_getElem? (i := 500) (by decide +kernel)⟩
theorem lw_p12 : lw_okq (⟨"TypeLevels$Reader", "term", "(I)I"⟩, 6) := ⟨⟨by decide +kernel, by decide +kernel⟩, List.mem_of_getElem? (i := 72) (by decide +kernel), List.mem_of_getElem? (i := 503) (by decide +kernel), List.mem_of_getElem? (i := 504) (by decide +kernel)⟩
theorem lw_p13 : lw_okq (⟨"TypeLevels$Reader", "factor", "(I)I"⟩, 6) := ⟨⟨by decide +kernel, by decide +kernel⟩, List.mem_of_getElem? (i := 72) (by decide +kernel), List.mem_of_getElem? (i := 507) (by decide +kernel), List.mem_of_getElem? (i := 508) (by decide +kernel)⟩
theorem lw_p14 : lw_okq (⟨"TypeLevels$Reader", "inside", "(I)I"⟩, 6) := ⟨⟨by decide +kernel, by decide +kernel⟩, List.mem_of_getElem? (i := 72) (by decide +kernel), List.mem_of_getElem? (i := 511) (by decide +kernel), List.mem_of_getElem? (i := 512) (by decide +kernel)⟩
theorem lw_p15 : lw_okq (⟨"TypeLevels$Reader", "pair", "(I)I"⟩, 6) := ⟨⟨by decide +kernel, by decide +kernel⟩, List.mem_of_getElem? (i := 72) (by decide +kernel), List.mem_of_getElem? (i := 515) (by decide +kernel), List.mem_of_getElem? (i := 516) (by decide +kernel)⟩
def lw_privs_1 : List (MethodName × Nat) := [(⟨"TypeLevels", "readDefinition", "()I"⟩, 15), (⟨"TypeLevels$Reader", "expression", "(I)I"⟩, 6), (⟨"TypeLevels$Reader", "peek", "()I"⟩, 6), (⟨"TypeLevels$Reader", "binder", "(III)I"⟩, 6), (⟨"TypeLevels$Reader", "opens", "(I)Z"⟩, 6), (⟨"TypeLevels$Reader", "refuse", "()V"⟩, 6), (⟨"TypeLevels$Reader", "boundLetter", "()I"⟩, 6), (⟨"TypeLevels$Reader", "expect", "(I)V"⟩, 6), (⟨"TypeLevels$Reader", "let", "(I)I"⟩, 6), (⟨"TypeLevels$Reader", "assignment", "(I)I"⟩, 6), (⟨"TypeLevels$Reader", "comparison", "(I)I"⟩, 6), (⟨"TypeLevels$Reader", "sum", "(I)I"⟩, 6), (⟨"TypeLevels$Reader", "term", "(I)I"⟩, 6), (⟨"TypeLevels$Reader", "factor", "(I)I"⟩, 6), (⟨"TypeLevels$Reader", "inside", "(I)I"⟩, 6), (⟨"TypeLevels$Reader", "pair", "(I)I"⟩, 6)]
theorem lw_r1 : ∀ q ∈ lw_privs_1, lw_okq q := List.forall_mem_cons.mpr ⟨lw_p0, List.forall_mem_cons.mpr ⟨lw_p1, List.forall_mem_cons.mpr ⟨lw_p2, List.forall_mem_cons.mpr ⟨lw_p3, List.forall_mem_cons.mpr ⟨lw_p4, List.forall_mem_cons.mpr ⟨lw_p5, List.forall_mem_cons.mpr ⟨lw_p6, List.forall_mem_cons.mpr ⟨lw_p7, List.forall_mem_cons.mpr ⟨lw_p8, List.forall_mem_cons.mpr ⟨lw_p9, List.forall_mem_cons.mpr ⟨lw_p10, List.forall_mem_cons.mpr ⟨lw_p11, List.forall_mem_cons.mpr ⟨lw_p12, List.forall_mem_cons.mpr ⟨lw_p13, List.forall_mem_cons.mpr ⟨lw_p14, List.forall_mem_cons.mpr ⟨lw_p15, fun _ h => absurd h List.not_mem_nil⟩⟩⟩⟩⟩⟩⟩⟩⟩⟩⟩⟩⟩⟩⟩⟩
theorem lw_p16 : lw_okq (⟨"TypeLevels$Reader", "condition", "(I)I"⟩, 6) := ⟨⟨by decide +kernel, by decide +kernel⟩, List.mem_of_getElem? (i := 72) (by decide +kernel), List.mem_of_getElem? (i := 519) (by decide +kernel), List.mem_of_getElem? (i := 520) (by decide +kernel)⟩
theorem lw_p17 : lw_okq (⟨"TypeLevels$Reader", "prefix", "(II)I"⟩, 6) := ⟨⟨by decide +kernel, by decide +kernel⟩, List.mem_of_getElem? (i := 72) (by decide +kernel), List.mem_of_getElem? (i := 523) (by decide +kernel), List.mem_of_getElem? (i := 524) (by decide +kernel)⟩
theorem lw_p18 : lw_okq (⟨"TypeLevels$Reader", "leaf", "(I)V"⟩, 6) := ⟨⟨by decide +kernel, by decide +kernel⟩, List.mem_of_getElem? (i := 72) (by decide +kernel), List.mem_of_getElem? (i := 527) (by decide +kernel), List.mem_of_getElem? (i := 528) (by decide +kernel)⟩
theorem lw_p19 : lw_okq (⟨"TypeLevels$Reader", "number", "()V"⟩, 6) := ⟨⟨by decide +kernel, by decide +kernel⟩, List.mem_of_getElem? (i := 72) (by decide +kernel), List.mem_of_getElem? (i := 534) (by decide +kernel), List.mem_of_getElem? (i := 535) (by decide +kernel)⟩
theorem lw_p20 : lw_okq (⟨"TypeLevels$Reader", "beginsFactor", "(I)Z"⟩, 6) := ⟨⟨by decide +kernel, by decide +kernel⟩, List.mem_of_getElem? (i := 72) (by decide +kernel), List.mem_of_getElem? (i := 538) (by decide +kernel), List.mem_of_getElem? (i := 539) (by decide +kernel)⟩
theorem lw_p21 : lw_okq (⟨"TypeLevels", "findIn", "(I)I"⟩, 15) := ⟨⟨by decide +kernel, by decide +kernel⟩, List.mem_of_getElem? (i := 25) (by decide +kernel), List.mem_of_getElem? (i := 550) (by decide +kernel), List.mem_of_getElem? (i := 551) (by decide +kernel)⟩
theorem lw_p22 : lw_okq (⟨"TypeLevels$Finder", "begin", "(LTypeLevels$Table;I)V"⟩, 18) := ⟨⟨by decide +kernel, by decide +kernel⟩, List.mem_of_getElem? (i := 207) (by decide +kernel), List.mem_of_getElem? (i := 558) (by decide +kernel), List.mem_of_getElem? (i := 559) (by decide +kernel)⟩
theorem lw_p23 : lw_okq (⟨"TypeLevels$Finder", "letter", "(I)V"⟩, 18) := ⟨⟨by decide +kernel, by decide +kernel⟩, List.mem_of_getElem? (i := 207) (by decide +kernel), List.mem_of_getElem? (i := 602) (by decide +kernel), List.mem_of_getElem? (i := 603) (by decide +kernel)⟩
theorem lw_p24 : lw_okq (⟨"TypeLevels$Store", "builtLeaf", "(I)I"⟩, 20) := ⟨⟨by decide +kernel, by decide +kernel⟩, List.mem_of_getElem? (i := 97) (by decide +kernel), List.mem_of_getElem? (i := 611) (by decide +kernel), List.mem_of_getElem? (i := 612) (by decide +kernel)⟩
theorem lw_p25 : lw_okq (⟨"TypeLevels$Finder", "found", "(IZ)V"⟩, 18) := ⟨⟨by decide +kernel, by decide +kernel⟩, List.mem_of_getElem? (i := 207) (by decide +kernel), List.mem_of_getElem? (i := 615) (by decide +kernel), List.mem_of_getElem? (i := 616) (by decide +kernel)⟩
theorem lw_p26 : lw_okq (⟨"TypeLevels$Store", "root", "(I)I"⟩, 20) := ⟨⟨by decide +kernel, by decide +kernel⟩, List.mem_of_getElem? (i := 97) (by decide +kernel), List.mem_of_getElem? (i := 623) (by decide +kernel), List.mem_of_getElem? (i := 624) (by decide +kernel)⟩
theorem lw_p27 : lw_okq (⟨"TypeLevels$Store", "pushParts", "(II)I"⟩, 20) := ⟨⟨by decide +kernel, by decide +kernel⟩, List.mem_of_getElem? (i := 97) (by decide +kernel), List.mem_of_getElem? (i := 627) (by decide +kernel), List.mem_of_getElem? (i := 628) (by decide +kernel)⟩
theorem lw_p28 : lw_okq (⟨"TypeLevels$Finder", "fail", "(I)V"⟩, 18) := ⟨⟨by decide +kernel, by decide +kernel⟩, List.mem_of_getElem? (i := 207) (by decide +kernel), List.mem_of_getElem? (i := 631) (by decide +kernel), List.mem_of_getElem? (i := 632) (by decide +kernel)⟩
theorem lw_p29 : lw_okq (⟨"TypeLevels$Table", "has", "(I)Z"⟩, 12) := ⟨⟨by decide +kernel, by decide +kernel⟩, List.mem_of_getElem? (i := 164) (by decide +kernel), List.mem_of_getElem? (i := 644) (by decide +kernel), List.mem_of_getElem? (i := 645) (by decide +kernel)⟩
theorem lw_p30 : lw_okq (⟨"TypeLevels$Finder", "bind", "(II)V"⟩, 18) := ⟨⟨by decide +kernel, by decide +kernel⟩, List.mem_of_getElem? (i := 207) (by decide +kernel), List.mem_of_getElem? (i := 657) (by decide +kernel), List.mem_of_getElem? (i := 658) (by decide +kernel)⟩
theorem lw_p31 : lw_okq (⟨"TypeLevels$Finder", "closeFunction", "()V"⟩, 18) := ⟨⟨by decide +kernel, by decide +kernel⟩, List.mem_of_getElem? (i := 207) (by decide +kernel), List.mem_of_getElem? (i := 661) (by decide +kernel), List.mem_of_getElem? (i := 662) (by decide +kernel)⟩
def lw_privs_2 : List (MethodName × Nat) := [(⟨"TypeLevels$Reader", "condition", "(I)I"⟩, 6), (⟨"TypeLevels$Reader", "prefix", "(II)I"⟩, 6), (⟨"TypeLevels$Reader", "leaf", "(I)V"⟩, 6), (⟨"TypeLevels$Reader", "number", "()V"⟩, 6), (⟨"TypeLevels$Reader", "beginsFactor", "(I)Z"⟩, 6), (⟨"TypeLevels", "findIn", "(I)I"⟩, 15), (⟨"TypeLevels$Finder", "begin", "(LTypeLevels$Table;I)V"⟩, 18), (⟨"TypeLevels$Finder", "letter", "(I)V"⟩, 18), (⟨"TypeLevels$Store", "builtLeaf", "(I)I"⟩, 20), (⟨"TypeLevels$Finder", "found", "(IZ)V"⟩, 18), (⟨"TypeLevels$Store", "root", "(I)I"⟩, 20), (⟨"TypeLevels$Store", "pushParts", "(II)I"⟩, 20), (⟨"TypeLevels$Finder", "fail", "(I)V"⟩, 18), (⟨"TypeLevels$Table", "has", "(I)Z"⟩, 12), (⟨"TypeLevels$Finder", "bind", "(II)V"⟩, 18), (⟨"TypeLevels$Finder", "closeFunction", "()V"⟩, 18)]
theorem lw_r2 : ∀ q ∈ lw_privs_2, lw_okq q := List.forall_mem_cons.mpr ⟨lw_p16, List.forall_mem_cons.mpr ⟨lw_p17, List.forall_mem_cons.mpr ⟨lw_p18, List.forall_mem_cons.mpr ⟨lw_p19, List.forall_mem_cons.mpr ⟨lw_p20, List.forall_mem_cons.mpr ⟨lw_p21, List.forall_mem_cons.mpr ⟨lw_p22, List.forall_mem_cons.mpr ⟨lw_p23, List.forall_mem_cons.mpr ⟨lw_p24, List.forall_mem_cons.mpr ⟨lw_p25, List.forall_mem_cons.mpr ⟨lw_p26, List.forall_mem_cons.mpr ⟨lw_p27, List.forall_mem_cons.mpr ⟨lw_p28, List.forall_mem_cons.mpr ⟨lw_p29, List.forall_mem_cons.mpr ⟨lw_p30, List.forall_mem_cons.mpr ⟨lw_p31, fun _ h => absurd h List.not_mem_nil⟩⟩⟩⟩⟩⟩⟩⟩⟩⟩⟩⟩⟩⟩⟩⟩
theorem lw_p32 : lw_okq (⟨"TypeLevels$Finder", "take", "()I"⟩, 18) := ⟨⟨by decide +kernel, by decide +kernel⟩, List.mem_of_getElem? (i := 207) (by decide +kernel), List.mem_of_getElem? (i := 665) (by decide +kernel), List.mem_of_getElem? (i := 666) (by decide +kernel)⟩
theorem lw_p33 : lw_okq (⟨"TypeLevels$Finder", "unbind", "()I"⟩, 18) := ⟨⟨by decide +kernel, by decide +kernel⟩, List.mem_of_getElem? (i := 207) (by decide +kernel), List.mem_of_getElem? (i := 669) (by decide +kernel), List.mem_of_getElem? (i := 670) (by decide +kernel)⟩
theorem lw_p34 : lw_okq (⟨"TypeLevels$Finder", "closeItself", "()V"⟩, 18) := ⟨⟨by decide +kernel, by decide +kernel⟩, List.mem_of_getElem? (i := 207) (by decide +kernel), List.mem_of_getElem? (i := 674) (by decide +kernel), List.mem_of_getElem? (i := 675) (by decide +kernel)⟩
theorem lw_p35 : lw_okq (⟨"TypeLevels$Store", "merge", "(II)V"⟩, 20) := ⟨⟨by decide +kernel, by decide +kernel⟩, List.mem_of_getElem? (i := 97) (by decide +kernel), List.mem_of_getElem? (i := 683) (by decide +kernel), List.mem_of_getElem? (i := 684) (by decide +kernel)⟩
theorem lw_p36 : lw_okq (⟨"TypeLevels$Store", "link", "(II)I"⟩, 20) := ⟨⟨by decide +kernel, by decide +kernel⟩, List.mem_of_getElem? (i := 97) (by decide +kernel), List.mem_of_getElem? (i := 687) (by decide +kernel), List.mem_of_getElem? (i := 688) (by decide +kernel)⟩
theorem lw_p37 : lw_okq (⟨"TypeLevels$Store", "contains", "(II)Z"⟩, 20) := ⟨⟨by decide +kernel, by decide +kernel⟩, List.mem_of_getElem? (i := 97) (by decide +kernel), List.mem_of_getElem? (i := 691) (by decide +kernel), List.mem_of_getElem? (i := 692) (by decide +kernel)⟩
theorem lw_p38 : lw_okq (⟨"TypeLevels$Store", "pushPairs", "(III)I"⟩, 20) := ⟨⟨by decide +kernel, by decide +kernel⟩, List.mem_of_getElem? (i := 97) (by decide +kernel), List.mem_of_getElem? (i := 695) (by decide +kernel), List.mem_of_getElem? (i := 696) (by decide +kernel)⟩
theorem lw_p39 : lw_okq (⟨"TypeLevels$Finder", "bindLet", "(I)V"⟩, 18) := ⟨⟨by decide +kernel, by decide +kernel⟩, List.mem_of_getElem? (i := 207) (by decide +kernel), List.mem_of_getElem? (i := 699) (by decide +kernel), List.mem_of_getElem? (i := 700) (by decide +kernel)⟩
theorem lw_p40 : lw_okq (⟨"TypeLevels$Finder", "labelAround", "()V"⟩, 18) := ⟨⟨by decide +kernel, by decide +kernel⟩, List.mem_of_getElem? (i := 207) (by decide +kernel), List.mem_of_getElem? (i := 710) (by decide +kernel), List.mem_of_getElem? (i := 711) (by decide +kernel)⟩
theorem lw_p41 : lw_okq (⟨"TypeLevels$Store", "labelOf", "(I)I"⟩, 20) := ⟨⟨by decide +kernel, by decide +kernel⟩, List.mem_of_getElem? (i := 97) (by decide +kernel), List.mem_of_getElem? (i := 722) (by decide +kernel), List.mem_of_getElem? (i := 723) (by decide +kernel)⟩
theorem lw_p42 : lw_okq (⟨"TypeLevels$Finder", "closeLet", "()V"⟩, 18) := ⟨⟨by decide +kernel, by decide +kernel⟩, List.mem_of_getElem? (i := 207) (by decide +kernel), List.mem_of_getElem? (i := 726) (by decide +kernel), List.mem_of_getElem? (i := 727) (by decide +kernel)⟩
theorem lw_p43 : lw_okq (⟨"TypeLevels$Finder", "closeCondition", "()V"⟩, 18) := ⟨⟨by decide +kernel, by decide +kernel⟩, List.mem_of_getElem? (i := 207) (by decide +kernel), List.mem_of_getElem? (i := 730) (by decide +kernel), List.mem_of_getElem? (i := 731) (by decide +kernel)⟩
theorem lw_p44 : lw_okq (⟨"TypeLevels$Finder", "top", "()I"⟩, 18) := ⟨⟨by decide +kernel, by decide +kernel⟩, List.mem_of_getElem? (i := 207) (by decide +kernel), List.mem_of_getElem? (i := 734) (by decide +kernel), List.mem_of_getElem? (i := 735) (by decide +kernel)⟩
theorem lw_p45 : lw_okq (⟨"TypeLevels$Finder", "closeInts", "(I)V"⟩, 18) := ⟨⟨by decide +kernel, by decide +kernel⟩, List.mem_of_getElem? (i := 207) (by decide +kernel), List.mem_of_getElem? (i := 738) (by decide +kernel), List.mem_of_getElem? (i := 739) (by decide +kernel)⟩
theorem lw_p46 : lw_okq (⟨"TypeLevels$Finder", "write", "()V"⟩, 18) := ⟨⟨by decide +kernel, by decide +kernel⟩, List.mem_of_getElem? (i := 207) (by decide +kernel), List.mem_of_getElem? (i := 742) (by decide +kernel), List.mem_of_getElem? (i := 743) (by decide +kernel)⟩
theorem lw_p47 : lw_okq (⟨"TypeLevels$Finder", "takePart", "(Z)V"⟩, 18) := ⟨⟨by decide +kernel, by decide +kernel⟩, List.mem_of_getElem? (i := 207) (by decide +kernel), List.mem_of_getElem? (i := 746) (by decide +kernel), List.mem_of_getElem? (i := 747) (by decide +kernel)⟩
def lw_privs_3 : List (MethodName × Nat) := [(⟨"TypeLevels$Finder", "take", "()I"⟩, 18), (⟨"TypeLevels$Finder", "unbind", "()I"⟩, 18), (⟨"TypeLevels$Finder", "closeItself", "()V"⟩, 18), (⟨"TypeLevels$Store", "merge", "(II)V"⟩, 20), (⟨"TypeLevels$Store", "link", "(II)I"⟩, 20), (⟨"TypeLevels$Store", "contains", "(II)Z"⟩, 20), (⟨"TypeLevels$Store", "pushPairs", "(III)I"⟩, 20), (⟨"TypeLevels$Finder", "bindLet", "(I)V"⟩, 18), (⟨"TypeLevels$Finder", "labelAround", "()V"⟩, 18), (⟨"TypeLevels$Store", "labelOf", "(I)I"⟩, 20), (⟨"TypeLevels$Finder", "closeLet", "()V"⟩, 18), (⟨"TypeLevels$Finder", "closeCondition", "()V"⟩, 18), (⟨"TypeLevels$Finder", "top", "()I"⟩, 18), (⟨"TypeLevels$Finder", "closeInts", "(I)V"⟩, 18), (⟨"TypeLevels$Finder", "write", "()V"⟩, 18), (⟨"TypeLevels$Finder", "takePart", "(Z)V"⟩, 18)]
theorem lw_r3 : ∀ q ∈ lw_privs_3, lw_okq q := List.forall_mem_cons.mpr ⟨lw_p32, List.forall_mem_cons.mpr ⟨lw_p33, List.forall_mem_cons.mpr ⟨lw_p34, List.forall_mem_cons.mpr ⟨lw_p35, List.forall_mem_cons.mpr ⟨lw_p36, List.forall_mem_cons.mpr ⟨lw_p37, List.forall_mem_cons.mpr ⟨lw_p38, List.forall_mem_cons.mpr ⟨lw_p39, List.forall_mem_cons.mpr ⟨lw_p40, List.forall_mem_cons.mpr ⟨lw_p41, List.forall_mem_cons.mpr ⟨lw_p42, List.forall_mem_cons.mpr ⟨lw_p43, List.forall_mem_cons.mpr ⟨lw_p44, List.forall_mem_cons.mpr ⟨lw_p45, List.forall_mem_cons.mpr ⟨lw_p46, List.forall_mem_cons.mpr ⟨lw_p47, fun _ h => absurd h List.not_mem_nil⟩⟩⟩⟩⟩⟩⟩⟩⟩⟩⟩⟩⟩⟩⟩⟩
theorem lw_p48 : lw_okq (⟨"TypeLevels$Finder", "readCell", "()V"⟩, 18) := ⟨⟨by decide +kernel, by decide +kernel⟩, List.mem_of_getElem? (i := 207) (by decide +kernel), List.mem_of_getElem? (i := 750) (by decide +kernel), List.mem_of_getElem? (i := 751) (by decide +kernel)⟩
theorem lw_p49 : lw_okq (⟨"TypeLevels$Finder", "pair", "()V"⟩, 18) := ⟨⟨by decide +kernel, by decide +kernel⟩, List.mem_of_getElem? (i := 207) (by decide +kernel), List.mem_of_getElem? (i := 754) (by decide +kernel), List.mem_of_getElem? (i := 755) (by decide +kernel)⟩
theorem lw_p50 : lw_okq (⟨"TypeLevels$Finder", "apply", "()V"⟩, 18) := ⟨⟨by decide +kernel, by decide +kernel⟩, List.mem_of_getElem? (i := 207) (by decide +kernel), List.mem_of_getElem? (i := 758) (by decide +kernel), List.mem_of_getElem? (i := 759) (by decide +kernel)⟩
theorem lw_p51 : lw_okq (⟨"TypeLevels", "tellFault", "()V"⟩, 15) := ⟨⟨by decide +kernel, by decide +kernel⟩, List.mem_of_getElem? (i := 25) (by decide +kernel), List.mem_of_getElem? (i := 762) (by decide +kernel), List.mem_of_getElem? (i := 763) (by decide +kernel)⟩
theorem lw_p52 : lw_okq (⟨"TypeLevels$Table", "prepareRow", "(I)I"⟩, 12) := ⟨⟨by decide +kernel, by decide +kernel⟩, List.mem_of_getElem? (i := 164) (by decide +kernel), List.mem_of_getElem? (i := 797) (by decide +kernel), List.mem_of_getElem? (i := 798) (by decide +kernel)⟩
theorem lw_p53 : lw_okq (⟨"TypeLevels", "tellDefinition", "(I)I"⟩, 15) := ⟨⟨by decide +kernel, by decide +kernel⟩, List.mem_of_getElem? (i := 25) (by decide +kernel), List.mem_of_getElem? (i := 832) (by decide +kernel), List.mem_of_getElem? (i := 833) (by decide +kernel)⟩
theorem lw_p54 : lw_okq (⟨"TypeLevels$Table", "shrink", "(I)V"⟩, 12) := ⟨⟨by decide +kernel, by decide +kernel⟩, List.mem_of_getElem? (i := 164) (by decide +kernel), List.mem_of_getElem? (i := 860) (by decide +kernel), List.mem_of_getElem? (i := 861) (by decide +kernel)⟩
theorem lw_p55 : lw_okq (⟨"TypeLevels", "readText", "(Z)I"⟩, 15) := ⟨⟨by decide +kernel, by decide +kernel⟩, List.mem_of_getElem? (i := 25) (by decide +kernel), List.mem_of_getElem? (i := 874) (by decide +kernel), List.mem_of_getElem? (i := 875) (by decide +kernel)⟩
theorem lw_p56 : lw_okq (⟨"TypeLevels", "typeOf", "(I)I"⟩, 15) := ⟨⟨by decide +kernel, by decide +kernel⟩, List.mem_of_getElem? (i := 25) (by decide +kernel), List.mem_of_getElem? (i := 878) (by decide +kernel), List.mem_of_getElem? (i := 879) (by decide +kernel)⟩
theorem lw_p57 : lw_okq (⟨"TypeLevels", "tellType", "(I)I"⟩, 15) := ⟨⟨by decide +kernel, by decide +kernel⟩, List.mem_of_getElem? (i := 25) (by decide +kernel), List.mem_of_getElem? (i := 882) (by decide +kernel), List.mem_of_getElem? (i := 883) (by decide +kernel)⟩
theorem lw_p58 : lw_okq (⟨"TypeLevels$Among", "meets", "(II)Z"⟩, 4) := ⟨⟨by decide +kernel, by decide +kernel⟩, List.mem_of_getElem? (i := 353) (by decide +kernel), List.mem_of_getElem? (i := 925) (by decide +kernel), List.mem_of_getElem? (i := 926) (by decide +kernel)⟩
theorem lw_p59 : lw_okq (⟨"TypeLevels$Among", "standsFor", "(III)Z"⟩, 4) := ⟨⟨by decide +kernel, by decide +kernel⟩, List.mem_of_getElem? (i := 353) (by decide +kernel), List.mem_of_getElem? (i := 966) (by decide +kernel), List.mem_of_getElem? (i := 967) (by decide +kernel)⟩
theorem lw_p60 : lw_okq (⟨"TypeLevels", "readAsked", "(I)I"⟩, 15) := ⟨⟨by decide +kernel, by decide +kernel⟩, List.mem_of_getElem? (i := 25) (by decide +kernel), List.mem_of_getElem? (i := 985) (by decide +kernel), List.mem_of_getElem? (i := 986) (by decide +kernel)⟩
theorem lw_p61 : lw_okq (⟨"TypeLevels$Among", "leads", "(IIII)Z"⟩, 4) := ⟨⟨by decide +kernel, by decide +kernel⟩, List.mem_of_getElem? (i := 353) (by decide +kernel), List.mem_of_getElem? (i := 1007) (by decide +kernel), List.mem_of_getElem? (i := 1008) (by decide +kernel)⟩
theorem lw_p62 : lw_okq (⟨"TypeLevels$Machine", "letter", "(I)I"⟩, 15) := ⟨⟨by decide +kernel, by decide +kernel⟩, List.mem_of_getElem? (i := 269) (by decide +kernel), List.mem_of_getElem? (i := 1055) (by decide +kernel), List.mem_of_getElem? (i := 1056) (by decide +kernel)⟩
theorem lw_p63 : lw_okq (⟨"TypeLevels$Machine", "heapAt", "(I)I"⟩, 15) := ⟨⟨by decide +kernel, by decide +kernel⟩, List.mem_of_getElem? (i := 269) (by decide +kernel), List.mem_of_getElem? (i := 1059) (by decide +kernel), List.mem_of_getElem? (i := 1060) (by decide +kernel)⟩
def lw_privs_4 : List (MethodName × Nat) := [(⟨"TypeLevels$Finder", "readCell", "()V"⟩, 18), (⟨"TypeLevels$Finder", "pair", "()V"⟩, 18), (⟨"TypeLevels$Finder", "apply", "()V"⟩, 18), (⟨"TypeLevels", "tellFault", "()V"⟩, 15), (⟨"TypeLevels$Table", "prepareRow", "(I)I"⟩, 12), (⟨"TypeLevels", "tellDefinition", "(I)I"⟩, 15), (⟨"TypeLevels$Table", "shrink", "(I)V"⟩, 12), (⟨"TypeLevels", "readText", "(Z)I"⟩, 15), (⟨"TypeLevels", "typeOf", "(I)I"⟩, 15), (⟨"TypeLevels", "tellType", "(I)I"⟩, 15), (⟨"TypeLevels$Among", "meets", "(II)Z"⟩, 4), (⟨"TypeLevels$Among", "standsFor", "(III)Z"⟩, 4), (⟨"TypeLevels", "readAsked", "(I)I"⟩, 15), (⟨"TypeLevels$Among", "leads", "(IIII)Z"⟩, 4), (⟨"TypeLevels$Machine", "letter", "(I)I"⟩, 15), (⟨"TypeLevels$Machine", "heapAt", "(I)I"⟩, 15)]
theorem lw_r4 : ∀ q ∈ lw_privs_4, lw_okq q := List.forall_mem_cons.mpr ⟨lw_p48, List.forall_mem_cons.mpr ⟨lw_p49, List.forall_mem_cons.mpr ⟨lw_p50, List.forall_mem_cons.mpr ⟨lw_p51, List.forall_mem_cons.mpr ⟨lw_p52, List.forall_mem_cons.mpr ⟨lw_p53, List.forall_mem_cons.mpr ⟨lw_p54, List.forall_mem_cons.mpr ⟨lw_p55, List.forall_mem_cons.mpr ⟨lw_p56, List.forall_mem_cons.mpr ⟨lw_p57, List.forall_mem_cons.mpr ⟨lw_p58, List.forall_mem_cons.mpr ⟨lw_p59, List.forall_mem_cons.mpr ⟨lw_p60, List.forall_mem_cons.mpr ⟨lw_p61, List.forall_mem_cons.mpr ⟨lw_p62, List.forall_mem_cons.mpr ⟨lw_p63, fun _ h => absurd h List.not_mem_nil⟩⟩⟩⟩⟩⟩⟩⟩⟩⟩⟩⟩⟩⟩⟩⟩
theorem lw_p64 : lw_okq (⟨"TypeLevels$Machine", "standsFor", "(I)I"⟩, 15) := ⟨⟨by decide +kernel, by decide +kernel⟩, List.mem_of_getElem? (i := 269) (by decide +kernel), List.mem_of_getElem? (i := 1063) (by decide +kernel), List.mem_of_getElem? (i := 1064) (by decide +kernel)⟩
theorem lw_p65 : lw_okq (⟨"TypeLevels$Machine", "push", "(II)V"⟩, 15) := ⟨⟨by decide +kernel, by decide +kernel⟩, List.mem_of_getElem? (i := 269) (by decide +kernel), List.mem_of_getElem? (i := 1067) (by decide +kernel), List.mem_of_getElem? (i := 1068) (by decide +kernel)⟩
theorem lw_p66 : lw_okq (⟨"TypeLevels$Machine", "stop", "(I)V"⟩, 15) := ⟨⟨by decide +kernel, by decide +kernel⟩, List.mem_of_getElem? (i := 269) (by decide +kernel), List.mem_of_getElem? (i := 1071) (by decide +kernel), List.mem_of_getElem? (i := 1072) (by decide +kernel)⟩
theorem lw_p67 : lw_okq (⟨"TypeLevels$Machine", "step", "()V"⟩, 15) := ⟨⟨by decide +kernel, by decide +kernel⟩, List.mem_of_getElem? (i := 269) (by decide +kernel), List.mem_of_getElem? (i := 1075) (by decide +kernel), List.mem_of_getElem? (i := 1076) (by decide +kernel)⟩
theorem lw_p68 : lw_okq (⟨"TypeLevels$Machine", "enter", "(I)V"⟩, 15) := ⟨⟨by decide +kernel, by decide +kernel⟩, List.mem_of_getElem? (i := 269) (by decide +kernel), List.mem_of_getElem? (i := 1079) (by decide +kernel), List.mem_of_getElem? (i := 1080) (by decide +kernel)⟩
theorem lw_p69 : lw_okq (⟨"TypeLevels$Machine", "openFunction", "()I"⟩, 15) := ⟨⟨by decide +kernel, by decide +kernel⟩, List.mem_of_getElem? (i := 269) (by decide +kernel), List.mem_of_getElem? (i := 1083) (by decide +kernel), List.mem_of_getElem? (i := 1084) (by decide +kernel)⟩
theorem lw_p70 : lw_okq (⟨"TypeLevels$Machine", "take", "(I)I"⟩, 15) := ⟨⟨by decide +kernel, by decide +kernel⟩, List.mem_of_getElem? (i := 269) (by decide +kernel), List.mem_of_getElem? (i := 1087) (by decide +kernel), List.mem_of_getElem? (i := 1088) (by decide +kernel)⟩
theorem lw_p71 : lw_okq (⟨"TypeLevels$Machine", "put", "(III)V"⟩, 15) := ⟨⟨by decide +kernel, by decide +kernel⟩, List.mem_of_getElem? (i := 269) (by decide +kernel), List.mem_of_getElem? (i := 1091) (by decide +kernel), List.mem_of_getElem? (i := 1092) (by decide +kernel)⟩
theorem lw_p72 : lw_okq (⟨"TypeLevels$Machine", "openItself", "(I)V"⟩, 15) := ⟨⟨by decide +kernel, by decide +kernel⟩, List.mem_of_getElem? (i := 269) (by decide +kernel), List.mem_of_getElem? (i := 1099) (by decide +kernel), List.mem_of_getElem? (i := 1100) (by decide +kernel)⟩
theorem lw_p73 : lw_okq (⟨"TypeLevels$Machine", "surround", "(IIII)I"⟩, 15) := ⟨⟨by decide +kernel, by decide +kernel⟩, List.mem_of_getElem? (i := 269) (by decide +kernel), List.mem_of_getElem? (i := 1103) (by decide +kernel), List.mem_of_getElem? (i := 1104) (by decide +kernel)⟩
theorem lw_p74 : lw_okq (⟨"TypeLevels$Machine", "leave", "()I"⟩, 15) := ⟨⟨by decide +kernel, by decide +kernel⟩, List.mem_of_getElem? (i := 269) (by decide +kernel), List.mem_of_getElem? (i := 1107) (by decide +kernel), List.mem_of_getElem? (i := 1108) (by decide +kernel)⟩
theorem lw_p75 : lw_okq (⟨"TypeLevels$Machine", "bindLet", "(I)V"⟩, 15) := ⟨⟨by decide +kernel, by decide +kernel⟩, List.mem_of_getElem? (i := 269) (by decide +kernel), List.mem_of_getElem? (i := 1111) (by decide +kernel), List.mem_of_getElem? (i := 1112) (by decide +kernel)⟩
theorem lw_p76 : lw_okq (⟨"TypeLevels$Machine", "pop", "()V"⟩, 15) := ⟨⟨by decide +kernel, by decide +kernel⟩, List.mem_of_getElem? (i := 269) (by decide +kernel), List.mem_of_getElem? (i := 1115) (by decide +kernel), List.mem_of_getElem? (i := 1116) (by decide +kernel)⟩
theorem lw_p77 : lw_okq (⟨"TypeLevels$Machine", "test", "()I"⟩, 15) := ⟨⟨by decide +kernel, by decide +kernel⟩, List.mem_of_getElem? (i := 269) (by decide +kernel), List.mem_of_getElem? (i := 1119) (by decide +kernel), List.mem_of_getElem? (i := 1120) (by decide +kernel)⟩
theorem lw_p78 : lw_okq (⟨"TypeLevels$Machine", "compute", "(I)V"⟩, 15) := ⟨⟨by decide +kernel, by decide +kernel⟩, List.mem_of_getElem? (i := 269) (by decide +kernel), List.mem_of_getElem? (i := 1123) (by decide +kernel), List.mem_of_getElem? (i := 1124) (by decide +kernel)⟩
theorem lw_p79 : lw_okq (⟨"TypeLevels$Machine", "write", "()V"⟩, 15) := ⟨⟨by decide +kernel, by decide +kernel⟩, List.mem_of_getElem? (i := 269) (by decide +kernel), List.mem_of_getElem? (i := 1127) (by decide +kernel), List.mem_of_getElem? (i := 1128) (by decide +kernel)⟩
def lw_privs_5 : List (MethodName × Nat) := [(⟨"TypeLevels$Machine", "standsFor", "(I)I"⟩, 15), (⟨"TypeLevels$Machine", "push", "(II)V"⟩, 15), (⟨"TypeLevels$Machine", "stop", "(I)V"⟩, 15), (⟨"TypeLevels$Machine", "step", "()V"⟩, 15), (⟨"TypeLevels$Machine", "enter", "(I)V"⟩, 15), (⟨"TypeLevels$Machine", "openFunction", "()I"⟩, 15), (⟨"TypeLevels$Machine", "take", "(I)I"⟩, 15), (⟨"TypeLevels$Machine", "put", "(III)V"⟩, 15), (⟨"TypeLevels$Machine", "openItself", "(I)V"⟩, 15), (⟨"TypeLevels$Machine", "surround", "(IIII)I"⟩, 15), (⟨"TypeLevels$Machine", "leave", "()I"⟩, 15), (⟨"TypeLevels$Machine", "bindLet", "(I)V"⟩, 15), (⟨"TypeLevels$Machine", "pop", "()V"⟩, 15), (⟨"TypeLevels$Machine", "test", "()I"⟩, 15), (⟨"TypeLevels$Machine", "compute", "(I)V"⟩, 15), (⟨"TypeLevels$Machine", "write", "()V"⟩, 15)]
theorem lw_r5 : ∀ q ∈ lw_privs_5, lw_okq q := List.forall_mem_cons.mpr ⟨lw_p64, List.forall_mem_cons.mpr ⟨lw_p65, List.forall_mem_cons.mpr ⟨lw_p66, List.forall_mem_cons.mpr ⟨lw_p67, List.forall_mem_cons.mpr ⟨lw_p68, List.forall_mem_cons.mpr ⟨lw_p69, List.forall_mem_cons.mpr ⟨lw_p70, List.forall_mem_cons.mpr ⟨lw_p71, List.forall_mem_cons.mpr ⟨lw_p72, List.forall_mem_cons.mpr ⟨lw_p73, List.forall_mem_cons.mpr ⟨lw_p74, List.forall_mem_cons.mpr ⟨lw_p75, List.forall_mem_cons.mpr ⟨lw_p76, List.forall_mem_cons.mpr ⟨lw_p77, List.forall_mem_cons.mpr ⟨lw_p78, List.forall_mem_cons.mpr ⟨lw_p79, fun _ h => absurd h List.not_mem_nil⟩⟩⟩⟩⟩⟩⟩⟩⟩⟩⟩⟩⟩⟩⟩⟩
theorem lw_p80 : lw_okq (⟨"TypeLevels$Machine", "takePart", "(I)V"⟩, 15) := ⟨⟨by decide +kernel, by decide +kernel⟩, List.mem_of_getElem? (i := 269) (by decide +kernel), List.mem_of_getElem? (i := 1131) (by decide +kernel), List.mem_of_getElem? (i := 1132) (by decide +kernel)⟩
theorem lw_p81 : lw_okq (⟨"TypeLevels$Machine", "makeCell", "()V"⟩, 15) := ⟨⟨by decide +kernel, by decide +kernel⟩, List.mem_of_getElem? (i := 269) (by decide +kernel), List.mem_of_getElem? (i := 1135) (by decide +kernel), List.mem_of_getElem? (i := 1136) (by decide +kernel)⟩
theorem lw_p82 : lw_okq (⟨"TypeLevels$Machine", "readCell", "()V"⟩, 15) := ⟨⟨by decide +kernel, by decide +kernel⟩, List.mem_of_getElem? (i := 269) (by decide +kernel), List.mem_of_getElem? (i := 1139) (by decide +kernel), List.mem_of_getElem? (i := 1140) (by decide +kernel)⟩
theorem lw_p83 : lw_okq (⟨"TypeLevels$Machine", "pair", "()V"⟩, 15) := ⟨⟨by decide +kernel, by decide +kernel⟩, List.mem_of_getElem? (i := 269) (by decide +kernel), List.mem_of_getElem? (i := 1143) (by decide +kernel), List.mem_of_getElem? (i := 1144) (by decide +kernel)⟩
theorem lw_p84 : lw_okq (⟨"TypeLevels$Machine", "apply", "()I"⟩, 15) := ⟨⟨by decide +kernel, by decide +kernel⟩, List.mem_of_getElem? (i := 269) (by decide +kernel), List.mem_of_getElem? (i := 1147) (by decide +kernel), List.mem_of_getElem? (i := 1148) (by decide +kernel)⟩
theorem lw_p85 : lw_okq (⟨"TypeLevels", "givesInts", "(I)Z"⟩, 15) := ⟨⟨by decide +kernel, by decide +kernel⟩, List.mem_of_getElem? (i := 25) (by decide +kernel), List.mem_of_getElem? (i := 1168) (by decide +kernel), List.mem_of_getElem? (i := 1169) (by decide +kernel)⟩
theorem lw_p86 : lw_okq (⟨"TypeLevels", "put", "(II)I"⟩, 15) := ⟨⟨by decide +kernel, by decide +kernel⟩, List.mem_of_getElem? (i := 25) (by decide +kernel), List.mem_of_getElem? (i := 1182) (by decide +kernel), List.mem_of_getElem? (i := 1183) (by decide +kernel)⟩
theorem lw_p87 : lw_okq (⟨"TypeLevels", "triedAnew", "(II)Z"⟩, 15) := ⟨⟨by decide +kernel, by decide +kernel⟩, List.mem_of_getElem? (i := 25) (by decide +kernel), List.mem_of_getElem? (i := 1283) (by decide +kernel), List.mem_of_getElem? (i := 1284) (by decide +kernel)⟩
theorem lw_p88 : lw_okq (⟨"java/lang/Throwable", "fillInStackTrace", "(I)Ljava/lang/Throwable;"⟩, 6) := ⟨⟨by decide +kernel, by decide +kernel⟩, List.mem_of_getElem? (i := 1345) (by decide +kernel), List.mem_of_getElem? (i := 1343) (by decide +kernel), List.mem_of_getElem? (i := 1344) (by decide +kernel)⟩
theorem lw_p89 : lw_okq (⟨"TypeLevels$Table", "isFirst", "(II)Z"⟩, 12) := ⟨⟨by decide +kernel, by decide +kernel⟩, List.mem_of_getElem? (i := 164) (by decide +kernel), List.mem_of_getElem? (i := 1380) (by decide +kernel), List.mem_of_getElem? (i := 1381) (by decide +kernel)⟩
theorem lw_p90 : lw_okq (⟨"TypeLevelsModel", "beginText", "(I)V"⟩, 76) := ⟨⟨by decide +kernel, by decide +kernel⟩, List.mem_of_getElem? (i := 1402) (by decide +kernel), List.mem_of_getElem? (i := 1657) (by decide +kernel), List.mem_of_getElem? (i := 1658) (by decide +kernel)⟩
theorem lw_p91 : lw_okq (⟨"TypeLevelsModel", "begin", "([BII)V"⟩, 76) := ⟨⟨by decide +kernel, by decide +kernel⟩, List.mem_of_getElem? (i := 1402) (by decide +kernel), List.mem_of_getElem? (i := 1661) (by decide +kernel), List.mem_of_getElem? (i := 1662) (by decide +kernel)⟩
theorem lw_p92 : lw_okq (⟨"TypeLevelsModel", "oneOf", "(CI)I"⟩, 76) := ⟨⟨by decide +kernel, by decide +kernel⟩, List.mem_of_getElem? (i := 1402) (by decide +kernel), List.mem_of_getElem? (i := 1665) (by decide +kernel), List.mem_of_getElem? (i := 1666) (by decide +kernel)⟩
theorem lw_p93 : lw_okq (⟨"TypeLevelsModel", "fine", "()Z"⟩, 76) := ⟨⟨by decide +kernel, by decide +kernel⟩, List.mem_of_getElem? (i := 1402) (by decide +kernel), List.mem_of_getElem? (i := 1669) (by decide +kernel), List.mem_of_getElem? (i := 1670) (by decide +kernel)⟩
theorem lw_p94 : lw_okq (⟨"TypeLevelsModel", "here", "()I"⟩, 76) := ⟨⟨by decide +kernel, by decide +kernel⟩, List.mem_of_getElem? (i := 1402) (by decide +kernel), List.mem_of_getElem? (i := 1673) (by decide +kernel), List.mem_of_getElem? (i := 1674) (by decide +kernel)⟩
theorem lw_p95 : lw_okq (⟨"TypeLevelsModel", "fault", "(I)V"⟩, 76) := ⟨⟨by decide +kernel, by decide +kernel⟩, List.mem_of_getElem? (i := 1402) (by decide +kernel), List.mem_of_getElem? (i := 1677) (by decide +kernel), List.mem_of_getElem? (i := 1678) (by decide +kernel)⟩
def lw_privs_6 : List (MethodName × Nat) := [(⟨"TypeLevels$Machine", "takePart", "(I)V"⟩, 15), (⟨"TypeLevels$Machine", "makeCell", "()V"⟩, 15), (⟨"TypeLevels$Machine", "readCell", "()V"⟩, 15), (⟨"TypeLevels$Machine", "pair", "()V"⟩, 15), (⟨"TypeLevels$Machine", "apply", "()I"⟩, 15), (⟨"TypeLevels", "givesInts", "(I)Z"⟩, 15), (⟨"TypeLevels", "put", "(II)I"⟩, 15), (⟨"TypeLevels", "triedAnew", "(II)Z"⟩, 15), (⟨"java/lang/Throwable", "fillInStackTrace", "(I)Ljava/lang/Throwable;"⟩, 6), (⟨"TypeLevels$Table", "isFirst", "(II)Z"⟩, 12), (⟨"TypeLevelsModel", "beginText", "(I)V"⟩, 76), (⟨"TypeLevelsModel", "begin", "([BII)V"⟩, 76), (⟨"TypeLevelsModel", "oneOf", "(CI)I"⟩, 76), (⟨"TypeLevelsModel", "fine", "()Z"⟩, 76), (⟨"TypeLevelsModel", "here", "()I"⟩, 76), (⟨"TypeLevelsModel", "fault", "(I)V"⟩, 76)]
theorem lw_r6 : ∀ q ∈ lw_privs_6, lw_okq q := List.forall_mem_cons.mpr ⟨lw_p80, List.forall_mem_cons.mpr ⟨lw_p81, List.forall_mem_cons.mpr ⟨lw_p82, List.forall_mem_cons.mpr ⟨lw_p83, List.forall_mem_cons.mpr ⟨lw_p84, List.forall_mem_cons.mpr ⟨lw_p85, List.forall_mem_cons.mpr ⟨lw_p86, List.forall_mem_cons.mpr ⟨lw_p87, List.forall_mem_cons.mpr ⟨lw_p88, List.forall_mem_cons.mpr ⟨lw_p89, List.forall_mem_cons.mpr ⟨lw_p90, List.forall_mem_cons.mpr ⟨lw_p91, List.forall_mem_cons.mpr ⟨lw_p92, List.forall_mem_cons.mpr ⟨lw_p93, List.forall_mem_cons.mpr ⟨lw_p94, List.forall_mem_cons.mpr ⟨lw_p95, fun _ h => absurd h List.not_mem_nil⟩⟩⟩⟩⟩⟩⟩⟩⟩⟩⟩⟩⟩⟩⟩⟩
theorem lw_p96 : lw_okq (⟨"TypeLevelsModel", "need", "(C)V"⟩, 76) := ⟨⟨by decide +kernel, by decide +kernel⟩, List.mem_of_getElem? (i := 1402) (by decide +kernel), List.mem_of_getElem? (i := 1681) (by decide +kernel), List.mem_of_getElem? (i := 1682) (by decide +kernel)⟩
theorem lw_p97 : lw_okq (⟨"TypeLevelsModel", "passes", "(C)Z"⟩, 76) := ⟨⟨by decide +kernel, by decide +kernel⟩, List.mem_of_getElem? (i := 1402) (by decide +kernel), List.mem_of_getElem? (i := 1685) (by decide +kernel), List.mem_of_getElem? (i := 1686) (by decide +kernel)⟩
theorem lw_p98 : lw_okq (⟨"TypeLevelsModel", "readAll", "(Z)I"⟩, 76) := ⟨⟨by decide +kernel, by decide +kernel⟩, List.mem_of_getElem? (i := 1402) (by decide +kernel), List.mem_of_getElem? (i := 1689) (by decide +kernel), List.mem_of_getElem? (i := 1690) (by decide +kernel)⟩
theorem lw_p99 : lw_okq (⟨"TypeLevelsModel", "expression", "()I"⟩, 76) := ⟨⟨by decide +kernel, by decide +kernel⟩, List.mem_of_getElem? (i := 1402) (by decide +kernel), List.mem_of_getElem? (i := 1693) (by decide +kernel), List.mem_of_getElem? (i := 1694) (by decide +kernel)⟩
theorem lw_p100 : lw_okq (⟨"TypeLevelsModel", "opens", "()Z"⟩, 76) := ⟨⟨by decide +kernel, by decide +kernel⟩, List.mem_of_getElem? (i := 1402) (by decide +kernel), List.mem_of_getElem? (i := 1697) (by decide +kernel), List.mem_of_getElem? (i := 1698) (by decide +kernel)⟩
theorem lw_p101 : lw_okq (⟨"TypeLevelsModel", "part", "(IIIII)I"⟩, 76) := ⟨⟨by decide +kernel, by decide +kernel⟩, List.mem_of_getElem? (i := 1402) (by decide +kernel), List.mem_of_getElem? (i := 1701) (by decide +kernel), List.mem_of_getElem? (i := 1702) (by decide +kernel)⟩
theorem lw_p102 : lw_okq (⟨"TypeLevelsModel", "comparison", "()I"⟩, 76) := ⟨⟨by decide +kernel, by decide +kernel⟩, List.mem_of_getElem? (i := 1402) (by decide +kernel), List.mem_of_getElem? (i := 1705) (by decide +kernel), List.mem_of_getElem? (i := 1706) (by decide +kernel)⟩
theorem lw_p103 : lw_okq (⟨"TypeLevelsModel", "sum", "()I"⟩, 76) := ⟨⟨by decide +kernel, by decide +kernel⟩, List.mem_of_getElem? (i := 1402) (by decide +kernel), List.mem_of_getElem? (i := 1709) (by decide +kernel), List.mem_of_getElem? (i := 1710) (by decide +kernel)⟩
theorem lw_p104 : lw_okq (⟨"TypeLevelsModel", "term", "()I"⟩, 76) := ⟨⟨by decide +kernel, by decide +kernel⟩, List.mem_of_getElem? (i := 1402) (by decide +kernel), List.mem_of_getElem? (i := 1713) (by decide +kernel), List.mem_of_getElem? (i := 1714) (by decide +kernel)⟩
theorem lw_p105 : lw_okq (⟨"TypeLevelsModel", "factor", "()I"⟩, 76) := ⟨⟨by decide +kernel, by decide +kernel⟩, List.mem_of_getElem? (i := 1402) (by decide +kernel), List.mem_of_getElem? (i := 1717) (by decide +kernel), List.mem_of_getElem? (i := 1718) (by decide +kernel)⟩
theorem lw_p106 : lw_okq (⟨"TypeLevelsModel", "isFactor", "(I)Z"⟩, 76) := ⟨⟨by decide +kernel, by decide +kernel⟩, List.mem_of_getElem? (i := 1402) (by decide +kernel), List.mem_of_getElem? (i := 1721) (by decide +kernel), List.mem_of_getElem? (i := 1722) (by decide +kernel)⟩
theorem lw_p107 : lw_okq (⟨"TypeLevelsModel", "number", "(I)I"⟩, 76) := ⟨⟨by decide +kernel, by decide +kernel⟩, List.mem_of_getElem? (i := 1402) (by decide +kernel), List.mem_of_getElem? (i := 1725) (by decide +kernel), List.mem_of_getElem? (i := 1726) (by decide +kernel)⟩
theorem lw_p108 : lw_okq (⟨"TypeLevelsModel", "opened", "(II)I"⟩, 76) := ⟨⟨by decide +kernel, by decide +kernel⟩, List.mem_of_getElem? (i := 1402) (by decide +kernel), List.mem_of_getElem? (i := 1729) (by decide +kernel), List.mem_of_getElem? (i := 1730) (by decide +kernel)⟩
theorem lw_p109 : lw_okq (⟨"TypeLevelsModel", "pairOf", "(III)I"⟩, 76) := ⟨⟨by decide +kernel, by decide +kernel⟩, List.mem_of_getElem? (i := 1402) (by decide +kernel), List.mem_of_getElem? (i := 1733) (by decide +kernel), List.mem_of_getElem? (i := 1734) (by decide +kernel)⟩
theorem lw_p110 : lw_okq (⟨"TypeLevelsModel", "wasRight", "()Z"⟩, 76) := ⟨⟨by decide +kernel, by decide +kernel⟩, List.mem_of_getElem? (i := 1402) (by decide +kernel), List.mem_of_getElem? (i := 1737) (by decide +kernel), List.mem_of_getElem? (i := 1738) (by decide +kernel)⟩
theorem lw_p111 : lw_okq (⟨"TypeLevelsModel", "goDefine", "([III[BII)I"⟩, 76) := ⟨⟨by decide +kernel, by decide +kernel⟩, List.mem_of_getElem? (i := 1402) (by decide +kernel), List.mem_of_getElem? (i := 1744) (by decide +kernel), List.mem_of_getElem? (i := 1745) (by decide +kernel)⟩
def lw_privs_7 : List (MethodName × Nat) := [(⟨"TypeLevelsModel", "need", "(C)V"⟩, 76), (⟨"TypeLevelsModel", "passes", "(C)Z"⟩, 76), (⟨"TypeLevelsModel", "readAll", "(Z)I"⟩, 76), (⟨"TypeLevelsModel", "expression", "()I"⟩, 76), (⟨"TypeLevelsModel", "opens", "()Z"⟩, 76), (⟨"TypeLevelsModel", "part", "(IIIII)I"⟩, 76), (⟨"TypeLevelsModel", "comparison", "()I"⟩, 76), (⟨"TypeLevelsModel", "sum", "()I"⟩, 76), (⟨"TypeLevelsModel", "term", "()I"⟩, 76), (⟨"TypeLevelsModel", "factor", "()I"⟩, 76), (⟨"TypeLevelsModel", "isFactor", "(I)Z"⟩, 76), (⟨"TypeLevelsModel", "number", "(I)I"⟩, 76), (⟨"TypeLevelsModel", "opened", "(II)I"⟩, 76), (⟨"TypeLevelsModel", "pairOf", "(III)I"⟩, 76), (⟨"TypeLevelsModel", "wasRight", "()Z"⟩, 76), (⟨"TypeLevelsModel", "goDefine", "([III[BII)I"⟩, 76)]
theorem lw_r7 : ∀ q ∈ lw_privs_7, lw_okq q := List.forall_mem_cons.mpr ⟨lw_p96, List.forall_mem_cons.mpr ⟨lw_p97, List.forall_mem_cons.mpr ⟨lw_p98, List.forall_mem_cons.mpr ⟨lw_p99, List.forall_mem_cons.mpr ⟨lw_p100, List.forall_mem_cons.mpr ⟨lw_p101, List.forall_mem_cons.mpr ⟨lw_p102, List.forall_mem_cons.mpr ⟨lw_p103, List.forall_mem_cons.mpr ⟨lw_p104, List.forall_mem_cons.mpr ⟨lw_p105, List.forall_mem_cons.mpr ⟨lw_p106, List.forall_mem_cons.mpr ⟨lw_p107, List.forall_mem_cons.mpr ⟨lw_p108, List.forall_mem_cons.mpr ⟨lw_p109, List.forall_mem_cons.mpr ⟨lw_p110, List.forall_mem_cons.mpr ⟨lw_p111, fun _ h => absurd h List.not_mem_nil⟩⟩⟩⟩⟩⟩⟩⟩⟩⟩⟩⟩⟩⟩⟩⟩
theorem lw_p112 : lw_okq (⟨"TypeLevelsModel", "findAll", "([II)I"⟩, 76) := ⟨⟨by decide +kernel, by decide +kernel⟩, List.mem_of_getElem? (i := 1402) (by decide +kernel), List.mem_of_getElem? (i := 1748) (by decide +kernel), List.mem_of_getElem? (i := 1749) (by decide +kernel)⟩
theorem lw_p113 : lw_okq (⟨"TypeLevelsModel", "beginTypes", "([I)V"⟩, 76) := ⟨⟨by decide +kernel, by decide +kernel⟩, List.mem_of_getElem? (i := 1402) (by decide +kernel), List.mem_of_getElem? (i := 1752) (by decide +kernel), List.mem_of_getElem? (i := 1753) (by decide +kernel)⟩
theorem lw_p114 : lw_okq (⟨"TypeLevelsModel", "variable", "()I"⟩, 76) := ⟨⟨by decide +kernel, by decide +kernel⟩, List.mem_of_getElem? (i := 1402) (by decide +kernel), List.mem_of_getElem? (i := 1760) (by decide +kernel), List.mem_of_getElem? (i := 1761) (by decide +kernel)⟩
theorem lw_p115 : lw_okq (⟨"TypeLevelsModel", "node", "(III)I"⟩, 76) := ⟨⟨by decide +kernel, by decide +kernel⟩, List.mem_of_getElem? (i := 1402) (by decide +kernel), List.mem_of_getElem? (i := 1764) (by decide +kernel), List.mem_of_getElem? (i := 1765) (by decide +kernel)⟩
theorem lw_p116 : lw_okq (⟨"TypeLevelsModel", "find", "(I)I"⟩, 76) := ⟨⟨by decide +kernel, by decide +kernel⟩, List.mem_of_getElem? (i := 1402) (by decide +kernel), List.mem_of_getElem? (i := 1768) (by decide +kernel), List.mem_of_getElem? (i := 1769) (by decide +kernel)⟩
theorem lw_p117 : lw_okq (⟨"TypeLevelsModel", "findOf", "(I)I"⟩, 76) := ⟨⟨by decide +kernel, by decide +kernel⟩, List.mem_of_getElem? (i := 1402) (by decide +kernel), List.mem_of_getElem? (i := 1772) (by decide +kernel), List.mem_of_getElem? (i := 1773) (by decide +kernel)⟩
theorem lw_p118 : lw_okq (⟨"TypeLevelsModel", "findLetter", "(I)I"⟩, 76) := ⟨⟨by decide +kernel, by decide +kernel⟩, List.mem_of_getElem? (i := 1402) (by decide +kernel), List.mem_of_getElem? (i := 1776) (by decide +kernel), List.mem_of_getElem? (i := 1777) (by decide +kernel)⟩
theorem lw_p119 : lw_okq (⟨"TypeLevelsModel", "nodesOf", "(II)I"⟩, 76) := ⟨⟨by decide +kernel, by decide +kernel⟩, List.mem_of_getElem? (i := 1402) (by decide +kernel), List.mem_of_getElem? (i := 1780) (by decide +kernel), List.mem_of_getElem? (i := 1781) (by decide +kernel)⟩
theorem lw_p120 : lw_okq (⟨"TypeLevelsModel", "now", "(I)I"⟩, 76) := ⟨⟨by decide +kernel, by decide +kernel⟩, List.mem_of_getElem? (i := 1402) (by decide +kernel), List.mem_of_getElem? (i := 1784) (by decide +kernel), List.mem_of_getElem? (i := 1785) (by decide +kernel)⟩
theorem lw_p121 : lw_okq (⟨"TypeLevelsModel", "anew", "(I)I"⟩, 76) := ⟨⟨by decide +kernel, by decide +kernel⟩, List.mem_of_getElem? (i := 1402) (by decide +kernel), List.mem_of_getElem? (i := 1788) (by decide +kernel), List.mem_of_getElem? (i := 1789) (by decide +kernel)⟩
theorem lw_p122 : lw_okq (⟨"TypeLevelsModel", "fails", "(II)V"⟩, 76) := ⟨⟨by decide +kernel, by decide +kernel⟩, List.mem_of_getElem? (i := 1402) (by decide +kernel), List.mem_of_getElem? (i := 1792) (by decide +kernel), List.mem_of_getElem? (i := 1793) (by decide +kernel)⟩
theorem lw_p123 : lw_okq (⟨"TypeLevelsModel", "instance", "(I)I"⟩, 76) := ⟨⟨by decide +kernel, by decide +kernel⟩, List.mem_of_getElem? (i := 1402) (by decide +kernel), List.mem_of_getElem? (i := 1796) (by decide +kernel), List.mem_of_getElem? (i := 1797) (by decide +kernel)⟩
theorem lw_p124 : lw_okq (⟨"TypeLevelsModel", "fromRow", "(I)I"⟩, 76) := ⟨⟨by decide +kernel, by decide +kernel⟩, List.mem_of_getElem? (i := 1402) (by decide +kernel), List.mem_of_getElem? (i := 1800) (by decide +kernel), List.mem_of_getElem? (i := 1801) (by decide +kernel)⟩
theorem lw_p125 : lw_okq (⟨"TypeLevelsModel", "within", "(III)I"⟩, 76) := ⟨⟨by decide +kernel, by decide +kernel⟩, List.mem_of_getElem? (i := 1402) (by decide +kernel), List.mem_of_getElem? (i := 1804) (by decide +kernel), List.mem_of_getElem? (i := 1805) (by decide +kernel)⟩
theorem lw_p126 : lw_okq (⟨"TypeLevelsModel", "make", "(III)V"⟩, 76) := ⟨⟨by decide +kernel, by decide +kernel⟩, List.mem_of_getElem? (i := 1402) (by decide +kernel), List.mem_of_getElem? (i := 1808) (by decide +kernel), List.mem_of_getElem? (i := 1809) (by decide +kernel)⟩
theorem lw_p127 : lw_okq (⟨"TypeLevelsModel", "makeOne", "(II)I"⟩, 76) := ⟨⟨by decide +kernel, by decide +kernel⟩, List.mem_of_getElem? (i := 1402) (by decide +kernel), List.mem_of_getElem? (i := 1812) (by decide +kernel), List.mem_of_getElem? (i := 1813) (by decide +kernel)⟩
def lw_privs_8 : List (MethodName × Nat) := [(⟨"TypeLevelsModel", "findAll", "([II)I"⟩, 76), (⟨"TypeLevelsModel", "beginTypes", "([I)V"⟩, 76), (⟨"TypeLevelsModel", "variable", "()I"⟩, 76), (⟨"TypeLevelsModel", "node", "(III)I"⟩, 76), (⟨"TypeLevelsModel", "find", "(I)I"⟩, 76), (⟨"TypeLevelsModel", "findOf", "(I)I"⟩, 76), (⟨"TypeLevelsModel", "findLetter", "(I)I"⟩, 76), (⟨"TypeLevelsModel", "nodesOf", "(II)I"⟩, 76), (⟨"TypeLevelsModel", "now", "(I)I"⟩, 76), (⟨"TypeLevelsModel", "anew", "(I)I"⟩, 76), (⟨"TypeLevelsModel", "fails", "(II)V"⟩, 76), (⟨"TypeLevelsModel", "instance", "(I)I"⟩, 76), (⟨"TypeLevelsModel", "fromRow", "(I)I"⟩, 76), (⟨"TypeLevelsModel", "within", "(III)I"⟩, 76), (⟨"TypeLevelsModel", "make", "(III)V"⟩, 76), (⟨"TypeLevelsModel", "makeOne", "(II)I"⟩, 76)]
theorem lw_r8 : ∀ q ∈ lw_privs_8, lw_okq q := List.forall_mem_cons.mpr ⟨lw_p112, List.forall_mem_cons.mpr ⟨lw_p113, List.forall_mem_cons.mpr ⟨lw_p114, List.forall_mem_cons.mpr ⟨lw_p115, List.forall_mem_cons.mpr ⟨lw_p116, List.forall_mem_cons.mpr ⟨lw_p117, List.forall_mem_cons.mpr ⟨lw_p118, List.forall_mem_cons.mpr ⟨lw_p119, List.forall_mem_cons.mpr ⟨lw_p120, List.forall_mem_cons.mpr ⟨lw_p121, List.forall_mem_cons.mpr ⟨lw_p122, List.forall_mem_cons.mpr ⟨lw_p123, List.forall_mem_cons.mpr ⟨lw_p124, List.forall_mem_cons.mpr ⟨lw_p125, List.forall_mem_cons.mpr ⟨lw_p126, List.forall_mem_cons.mpr ⟨lw_p127, fun _ h => absurd h List.not_mem_nil⟩⟩⟩⟩⟩⟩⟩⟩⟩⟩⟩⟩⟩⟩⟩⟩
theorem lw_p128 : lw_okq (⟨"TypeLevelsModel", "isIn", "(II)Z"⟩, 76) := ⟨⟨by decide +kernel, by decide +kernel⟩, List.mem_of_getElem? (i := 1402) (by decide +kernel), List.mem_of_getElem? (i := 1816) (by decide +kernel), List.mem_of_getElem? (i := 1817) (by decide +kernel)⟩
theorem lw_p129 : lw_okq (⟨"TypeLevelsModel", "findLet", "(I)I"⟩, 76) := ⟨⟨by decide +kernel, by decide +kernel⟩, List.mem_of_getElem? (i := 1402) (by decide +kernel), List.mem_of_getElem? (i := 1820) (by decide +kernel), List.mem_of_getElem? (i := 1821) (by decide +kernel)⟩
theorem lw_p130 : lw_okq (⟨"TypeLevelsModel", "isValue", "(I)Z"⟩, 76) := ⟨⟨by decide +kernel, by decide +kernel⟩, List.mem_of_getElem? (i := 1402) (by decide +kernel), List.mem_of_getElem? (i := 1827) (by decide +kernel), List.mem_of_getElem? (i := 1828) (by decide +kernel)⟩
theorem lw_p131 : lw_okq (⟨"TypeLevelsModel", "markAround", "()V"⟩, 76) := ⟨⟨by decide +kernel, by decide +kernel⟩, List.mem_of_getElem? (i := 1402) (by decide +kernel), List.mem_of_getElem? (i := 1831) (by decide +kernel), List.mem_of_getElem? (i := 1832) (by decide +kernel)⟩
theorem lw_p132 : lw_okq (⟨"TypeLevelsModel", "mark", "(I)V"⟩, 76) := ⟨⟨by decide +kernel, by decide +kernel⟩, List.mem_of_getElem? (i := 1402) (by decide +kernel), List.mem_of_getElem? (i := 1835) (by decide +kernel), List.mem_of_getElem? (i := 1836) (by decide +kernel)⟩
theorem lw_p133 : lw_okq (⟨"TypeLevelsModel", "free", "(II)V"⟩, 76) := ⟨⟨by decide +kernel, by decide +kernel⟩, List.mem_of_getElem? (i := 1402) (by decide +kernel), List.mem_of_getElem? (i := 1839) (by decide +kernel), List.mem_of_getElem? (i := 1840) (by decide +kernel)⟩
theorem lw_p134 : lw_okq (⟨"TypeLevelsModel", "findSum", "(II)I"⟩, 76) := ⟨⟨by decide +kernel, by decide +kernel⟩, List.mem_of_getElem? (i := 1402) (by decide +kernel), List.mem_of_getElem? (i := 1843) (by decide +kernel), List.mem_of_getElem? (i := 1844) (by decide +kernel)⟩
theorem lw_p135 : lw_okq (⟨"TypeLevelsModel", "findChoice", "(I)I"⟩, 76) := ⟨⟨by decide +kernel, by decide +kernel⟩, List.mem_of_getElem? (i := 1402) (by decide +kernel), List.mem_of_getElem? (i := 1847) (by decide +kernel), List.mem_of_getElem? (i := 1848) (by decide +kernel)⟩
theorem lw_p136 : lw_okq (⟨"TypeLevelsModel", "findTwo", "(I)I"⟩, 76) := ⟨⟨by decide +kernel, by decide +kernel⟩, List.mem_of_getElem? (i := 1402) (by decide +kernel), List.mem_of_getElem? (i := 1851) (by decide +kernel), List.mem_of_getElem? (i := 1852) (by decide +kernel)⟩
theorem lw_p137 : lw_okq (⟨"TypeLevelsModel", "beginRows", "()V"⟩, 76) := ⟨⟨by decide +kernel, by decide +kernel⟩, List.mem_of_getElem? (i := 1402) (by decide +kernel), List.mem_of_getElem? (i := 1855) (by decide +kernel), List.mem_of_getElem? (i := 1856) (by decide +kernel)⟩
theorem lw_p138 : lw_okq (⟨"TypeLevelsModel", "countWeak", "(I)V"⟩, 76) := ⟨⟨by decide +kernel, by decide +kernel⟩, List.mem_of_getElem? (i := 1402) (by decide +kernel), List.mem_of_getElem? (i := 1859) (by decide +kernel), List.mem_of_getElem? (i := 1860) (by decide +kernel)⟩
theorem lw_p139 : lw_okq (⟨"TypeLevelsModel", "layRow", "([II)Z"⟩, 76) := ⟨⟨by decide +kernel, by decide +kernel⟩, List.mem_of_getElem? (i := 1402) (by decide +kernel), List.mem_of_getElem? (i := 1863) (by decide +kernel), List.mem_of_getElem? (i := 1864) (by decide +kernel)⟩
theorem lw_p140 : lw_okq (⟨"TypeLevelsModel", "rowOf", "(I)V"⟩, 76) := ⟨⟨by decide +kernel, by decide +kernel⟩, List.mem_of_getElem? (i := 1402) (by decide +kernel), List.mem_of_getElem? (i := 1867) (by decide +kernel), List.mem_of_getElem? (i := 1868) (by decide +kernel)⟩
theorem lw_p141 : lw_okq (⟨"TypeLevelsModel", "keepRow", "(I)V"⟩, 76) := ⟨⟨by decide +kernel, by decide +kernel⟩, List.mem_of_getElem? (i := 1402) (by decide +kernel), List.mem_of_getElem? (i := 1871) (by decide +kernel), List.mem_of_getElem? (i := 1872) (by decide +kernel)⟩
theorem lw_p142 : lw_okq (⟨"TypeLevelsModel", "tellFault", "()I"⟩, 76) := ⟨⟨by decide +kernel, by decide +kernel⟩, List.mem_of_getElem? (i := 1402) (by decide +kernel), List.mem_of_getElem? (i := 1875) (by decide +kernel), List.mem_of_getElem? (i := 1876) (by decide +kernel)⟩
theorem lw_p143 : lw_okq (⟨"TypeLevelsModel", "tell", "(J)V"⟩, 76) := ⟨⟨by decide +kernel, by decide +kernel⟩, List.mem_of_getElem? (i := 1402) (by decide +kernel), List.mem_of_getElem? (i := 1879) (by decide +kernel), List.mem_of_getElem? (i := 1880) (by decide +kernel)⟩
def lw_privs_9 : List (MethodName × Nat) := [(⟨"TypeLevelsModel", "isIn", "(II)Z"⟩, 76), (⟨"TypeLevelsModel", "findLet", "(I)I"⟩, 76), (⟨"TypeLevelsModel", "isValue", "(I)Z"⟩, 76), (⟨"TypeLevelsModel", "markAround", "()V"⟩, 76), (⟨"TypeLevelsModel", "mark", "(I)V"⟩, 76), (⟨"TypeLevelsModel", "free", "(II)V"⟩, 76), (⟨"TypeLevelsModel", "findSum", "(II)I"⟩, 76), (⟨"TypeLevelsModel", "findChoice", "(I)I"⟩, 76), (⟨"TypeLevelsModel", "findTwo", "(I)I"⟩, 76), (⟨"TypeLevelsModel", "beginRows", "()V"⟩, 76), (⟨"TypeLevelsModel", "countWeak", "(I)V"⟩, 76), (⟨"TypeLevelsModel", "layRow", "([II)Z"⟩, 76), (⟨"TypeLevelsModel", "rowOf", "(I)V"⟩, 76), (⟨"TypeLevelsModel", "keepRow", "(I)V"⟩, 76), (⟨"TypeLevelsModel", "tellFault", "()I"⟩, 76), (⟨"TypeLevelsModel", "tell", "(J)V"⟩, 76)]
theorem lw_r9 : ∀ q ∈ lw_privs_9, lw_okq q := List.forall_mem_cons.mpr ⟨lw_p128, List.forall_mem_cons.mpr ⟨lw_p129, List.forall_mem_cons.mpr ⟨lw_p130, List.forall_mem_cons.mpr ⟨lw_p131, List.forall_mem_cons.mpr ⟨lw_p132, List.forall_mem_cons.mpr ⟨lw_p133, List.forall_mem_cons.mpr ⟨lw_p134, List.forall_mem_cons.mpr ⟨lw_p135, List.forall_mem_cons.mpr ⟨lw_p136, List.forall_mem_cons.mpr ⟨lw_p137, List.forall_mem_cons.mpr ⟨lw_p138, List.forall_mem_cons.mpr ⟨lw_p139, List.forall_mem_cons.mpr ⟨lw_p140, List.forall_mem_cons.mpr ⟨lw_p141, List.forall_mem_cons.mpr ⟨lw_p142, List.forall_mem_cons.mpr ⟨lw_p143, fun _ h => absurd h List.not_mem_nil⟩⟩⟩⟩⟩⟩⟩⟩⟩⟩⟩⟩⟩⟩⟩⟩
theorem lw_p144 : lw_okq (⟨"TypeLevelsModel", "remember", "()V"⟩, 76) := ⟨⟨by decide +kernel, by decide +kernel⟩, List.mem_of_getElem? (i := 1402) (by decide +kernel), List.mem_of_getElem? (i := 1883) (by decide +kernel), List.mem_of_getElem? (i := 1884) (by decide +kernel)⟩
theorem lw_p145 : lw_okq (⟨"TypeLevelsModel", "tellScheme", "(I)I"⟩, 76) := ⟨⟨by decide +kernel, by decide +kernel⟩, List.mem_of_getElem? (i := 1402) (by decide +kernel), List.mem_of_getElem? (i := 1887) (by decide +kernel), List.mem_of_getElem? (i := 1888) (by decide +kernel)⟩
theorem lw_p146 : lw_okq (⟨"TypeLevelsModel", "isName", "(I)Z"⟩, 76) := ⟨⟨by decide +kernel, by decide +kernel⟩, List.mem_of_getElem? (i := 1402) (by decide +kernel), List.mem_of_getElem? (i := 1903) (by decide +kernel), List.mem_of_getElem? (i := 1904) (by decide +kernel)⟩
theorem lw_p147 : lw_okq (⟨"TypeLevelsModel", "lost", "()I"⟩, 76) := ⟨⟨by decide +kernel, by decide +kernel⟩, List.mem_of_getElem? (i := 1402) (by decide +kernel), List.mem_of_getElem? (i := 1907) (by decide +kernel), List.mem_of_getElem? (i := 1908) (by decide +kernel)⟩
theorem lw_p148 : lw_okq (⟨"TypeLevelsModel", "readText", "(Z)I"⟩, 76) := ⟨⟨by decide +kernel, by decide +kernel⟩, List.mem_of_getElem? (i := 1402) (by decide +kernel), List.mem_of_getElem? (i := 1928) (by decide +kernel), List.mem_of_getElem? (i := 1929) (by decide +kernel)⟩
theorem lw_p149 : lw_okq (⟨"TypeLevelsModel", "tellFound", "(I)I"⟩, 76) := ⟨⟨by decide +kernel, by decide +kernel⟩, List.mem_of_getElem? (i := 1402) (by decide +kernel), List.mem_of_getElem? (i := 1932) (by decide +kernel), List.mem_of_getElem? (i := 1933) (by decide +kernel)⟩
theorem lw_p150 : lw_okq (⟨"TypeLevelsModel", "tellType", "(I)I"⟩, 76) := ⟨⟨by decide +kernel, by decide +kernel⟩, List.mem_of_getElem? (i := 1402) (by decide +kernel), List.mem_of_getElem? (i := 1936) (by decide +kernel), List.mem_of_getElem? (i := 1937) (by decide +kernel)⟩
theorem lw_p151 : lw_okq (⟨"TypeLevelsModel", "isSame", "(III)Z"⟩, 76) := ⟨⟨by decide +kernel, by decide +kernel⟩, List.mem_of_getElem? (i := 1402) (by decide +kernel), List.mem_of_getElem? (i := 1957) (by decide +kernel), List.mem_of_getElem? (i := 1958) (by decide +kernel)⟩
theorem lw_p152 : lw_okq (⟨"TypeLevelsModel", "typeOf", "(Ljava/lang/String;II)I"⟩, 76) := ⟨⟨by decide +kernel, by decide +kernel⟩, List.mem_of_getElem? (i := 1402) (by decide +kernel), List.mem_of_getElem? (i := 1970) (by decide +kernel), List.mem_of_getElem? (i := 1971) (by decide +kernel)⟩
theorem lw_p153 : lw_okq (⟨"TypeLevelsModel", "layWay", "(IIII)Z"⟩, 76) := ⟨⟨by decide +kernel, by decide +kernel⟩, List.mem_of_getElem? (i := 1402) (by decide +kernel), List.mem_of_getElem? (i := 2036) (by decide +kernel), List.mem_of_getElem? (i := 2037) (by decide +kernel)⟩
theorem lw_p154 : lw_okq (⟨"TypeLevelsModel", "goes", "(III)Z"⟩, 76) := ⟨⟨by decide +kernel, by decide +kernel⟩, List.mem_of_getElem? (i := 1402) (by decide +kernel), List.mem_of_getElem? (i := 2040) (by decide +kernel), List.mem_of_getElem? (i := 2041) (by decide +kernel)⟩
theorem lw_p155 : lw_okq (⟨"TypeLevelsModel", "run", "(I)I"⟩, 76) := ⟨⟨by decide +kernel, by decide +kernel⟩, List.mem_of_getElem? (i := 1402) (by decide +kernel), List.mem_of_getElem? (i := 2059) (by decide +kernel), List.mem_of_getElem? (i := 2060) (by decide +kernel)⟩
theorem lw_p156 : lw_okq (⟨"TypeLevelsModel", "readDefinition", "(I)I"⟩, 76) := ⟨⟨by decide +kernel, by decide +kernel⟩, List.mem_of_getElem? (i := 1402) (by decide +kernel), List.mem_of_getElem? (i := 2063) (by decide +kernel), List.mem_of_getElem? (i := 2064) (by decide +kernel)⟩
theorem lw_p157 : lw_okq (⟨"TypeLevelsModel", "begins", "(II)V"⟩, 76) := ⟨⟨by decide +kernel, by decide +kernel⟩, List.mem_of_getElem? (i := 1402) (by decide +kernel), List.mem_of_getElem? (i := 2067) (by decide +kernel), List.mem_of_getElem? (i := 2068) (by decide +kernel)⟩
theorem lw_p158 : lw_okq (⟨"TypeLevelsModel", "goPart", "()V"⟩, 76) := ⟨⟨by decide +kernel, by decide +kernel⟩, List.mem_of_getElem? (i := 1402) (by decide +kernel), List.mem_of_getElem? (i := 2071) (by decide +kernel), List.mem_of_getElem? (i := 2072) (by decide +kernel)⟩
theorem lw_p159 : lw_okq (⟨"TypeLevelsModel", "goLetter", "(I)V"⟩, 76) := ⟨⟨by decide +kernel, by decide +kernel⟩, List.mem_of_getElem? (i := 1402) (by decide +kernel), List.mem_of_getElem? (i := 2075) (by decide +kernel), List.mem_of_getElem? (i := 2076) (by decide +kernel)⟩
def lw_privs_10 : List (MethodName × Nat) := [(⟨"TypeLevelsModel", "remember", "()V"⟩, 76), (⟨"TypeLevelsModel", "tellScheme", "(I)I"⟩, 76), (⟨"TypeLevelsModel", "isName", "(I)Z"⟩, 76), (⟨"TypeLevelsModel", "lost", "()I"⟩, 76), (⟨"TypeLevelsModel", "readText", "(Z)I"⟩, 76), (⟨"TypeLevelsModel", "tellFound", "(I)I"⟩, 76), (⟨"TypeLevelsModel", "tellType", "(I)I"⟩, 76), (⟨"TypeLevelsModel", "isSame", "(III)Z"⟩, 76), (⟨"TypeLevelsModel", "typeOf", "(Ljava/lang/String;II)I"⟩, 76), (⟨"TypeLevelsModel", "layWay", "(IIII)Z"⟩, 76), (⟨"TypeLevelsModel", "goes", "(III)Z"⟩, 76), (⟨"TypeLevelsModel", "run", "(I)I"⟩, 76), (⟨"TypeLevelsModel", "readDefinition", "(I)I"⟩, 76), (⟨"TypeLevelsModel", "begins", "(II)V"⟩, 76), (⟨"TypeLevelsModel", "goPart", "()V"⟩, 76), (⟨"TypeLevelsModel", "goLetter", "(I)V"⟩, 76)]
theorem lw_r10 : ∀ q ∈ lw_privs_10, lw_okq q := List.forall_mem_cons.mpr ⟨lw_p144, List.forall_mem_cons.mpr ⟨lw_p145, List.forall_mem_cons.mpr ⟨lw_p146, List.forall_mem_cons.mpr ⟨lw_p147, List.forall_mem_cons.mpr ⟨lw_p148, List.forall_mem_cons.mpr ⟨lw_p149, List.forall_mem_cons.mpr ⟨lw_p150, List.forall_mem_cons.mpr ⟨lw_p151, List.forall_mem_cons.mpr ⟨lw_p152, List.forall_mem_cons.mpr ⟨lw_p153, List.forall_mem_cons.mpr ⟨lw_p154, List.forall_mem_cons.mpr ⟨lw_p155, List.forall_mem_cons.mpr ⟨lw_p156, List.forall_mem_cons.mpr ⟨lw_p157, List.forall_mem_cons.mpr ⟨lw_p158, List.forall_mem_cons.mpr ⟨lw_p159, fun _ h => absurd h List.not_mem_nil⟩⟩⟩⟩⟩⟩⟩⟩⟩⟩⟩⟩⟩⟩⟩⟩
theorem lw_p160 : lw_okq (⟨"TypeLevelsModel", "step", "()V"⟩, 76) := ⟨⟨by decide +kernel, by decide +kernel⟩, List.mem_of_getElem? (i := 1402) (by decide +kernel), List.mem_of_getElem? (i := 2079) (by decide +kernel), List.mem_of_getElem? (i := 2080) (by decide +kernel)⟩
theorem lw_p161 : lw_okq (⟨"TypeLevelsModel", "gets", "(III)V"⟩, 76) := ⟨⟨by decide +kernel, by decide +kernel⟩, List.mem_of_getElem? (i := 1402) (by decide +kernel), List.mem_of_getElem? (i := 2083) (by decide +kernel), List.mem_of_getElem? (i := 2084) (by decide +kernel)⟩
theorem lw_p162 : lw_okq (⟨"TypeLevelsModel", "scope", "(IIIII)I"⟩, 76) := ⟨⟨by decide +kernel, by decide +kernel⟩, List.mem_of_getElem? (i := 1402) (by decide +kernel), List.mem_of_getElem? (i := 2087) (by decide +kernel), List.mem_of_getElem? (i := 2088) (by decide +kernel)⟩
theorem lw_p163 : lw_okq (⟨"TypeLevelsModel", "push", "(III)V"⟩, 76) := ⟨⟨by decide +kernel, by decide +kernel⟩, List.mem_of_getElem? (i := 1402) (by decide +kernel), List.mem_of_getElem? (i := 2091) (by decide +kernel), List.mem_of_getElem? (i := 2092) (by decide +kernel)⟩
theorem lw_p164 : lw_okq (⟨"TypeLevelsModel", "goValue", "()V"⟩, 76) := ⟨⟨by decide +kernel, by decide +kernel⟩, List.mem_of_getElem? (i := 1402) (by decide +kernel), List.mem_of_getElem? (i := 2095) (by decide +kernel), List.mem_of_getElem? (i := 2096) (by decide +kernel)⟩
theorem lw_p165 : lw_okq (⟨"TypeLevelsModel", "goTwo", "(III)V"⟩, 76) := ⟨⟨by decide +kernel, by decide +kernel⟩, List.mem_of_getElem? (i := 1402) (by decide +kernel), List.mem_of_getElem? (i := 2102) (by decide +kernel), List.mem_of_getElem? (i := 2103) (by decide +kernel)⟩
theorem lw_p166 : lw_okq (⟨"TypeLevelsModel", "goOne", "(I)V"⟩, 76) := ⟨⟨by decide +kernel, by decide +kernel⟩, List.mem_of_getElem? (i := 1402) (by decide +kernel), List.mem_of_getElem? (i := 2106) (by decide +kernel), List.mem_of_getElem? (i := 2107) (by decide +kernel)⟩
theorem lw_p167 : lw_okq (⟨"TypeLevelsModel", "tellValue", "(I)V"⟩, 76) := ⟨⟨by decide +kernel, by decide +kernel⟩, List.mem_of_getElem? (i := 1402) (by decide +kernel), List.mem_of_getElem? (i := 2110) (by decide +kernel), List.mem_of_getElem? (i := 2111) (by decide +kernel)⟩
theorem lw_p168 : lw_okq (⟨"TypeLevelsModel", "giveOf", "(II)I"⟩, 76) := ⟨⟨by decide +kernel, by decide +kernel⟩, List.mem_of_getElem? (i := 1402) (by decide +kernel), List.mem_of_getElem? (i := 2118) (by decide +kernel), List.mem_of_getElem? (i := 2119) (by decide +kernel)⟩
theorem lw_p169 : lw_okq (⟨"TypeLevelsModel", "fitting", "()I"⟩, 76) := ⟨⟨by decide +kernel, by decide +kernel⟩, List.mem_of_getElem? (i := 1402) (by decide +kernel), List.mem_of_getElem? (i := 2141) (by decide +kernel), List.mem_of_getElem? (i := 2142) (by decide +kernel)⟩
theorem lw_p170 : lw_okq (⟨"TypeLevelsModel", "isSo", "(III)Z"⟩, 76) := ⟨⟨by decide +kernel, by decide +kernel⟩, List.mem_of_getElem? (i := 1402) (by decide +kernel), List.mem_of_getElem? (i := 2145) (by decide +kernel), List.mem_of_getElem? (i := 2146) (by decide +kernel)⟩
theorem lw_p171 : lw_okq (⟨"TypeLevelsModel", "names", "()I"⟩, 76) := ⟨⟨by decide +kernel, by decide +kernel⟩, List.mem_of_getElem? (i := 1402) (by decide +kernel), List.mem_of_getElem? (i := 2163) (by decide +kernel), List.mem_of_getElem? (i := 2164) (by decide +kernel)⟩
theorem lw_p172 : lw_okq (⟨"TypeLevelsModel", "nodesOfAll", "()I"⟩, 76) := ⟨⟨by decide +kernel, by decide +kernel⟩, List.mem_of_getElem? (i := 1402) (by decide +kernel), List.mem_of_getElem? (i := 2167) (by decide +kernel), List.mem_of_getElem? (i := 2168) (by decide +kernel)⟩
def lw_privs_11 : List (MethodName × Nat) := [(⟨"TypeLevelsModel", "step", "()V"⟩, 76), (⟨"TypeLevelsModel", "gets", "(III)V"⟩, 76), (⟨"TypeLevelsModel", "scope", "(IIIII)I"⟩, 76), (⟨"TypeLevelsModel", "push", "(III)V"⟩, 76), (⟨"TypeLevelsModel", "goValue", "()V"⟩, 76), (⟨"TypeLevelsModel", "goTwo", "(III)V"⟩, 76), (⟨"TypeLevelsModel", "goOne", "(I)V"⟩, 76), (⟨"TypeLevelsModel", "tellValue", "(I)V"⟩, 76), (⟨"TypeLevelsModel", "giveOf", "(II)I"⟩, 76), (⟨"TypeLevelsModel", "fitting", "()I"⟩, 76), (⟨"TypeLevelsModel", "isSo", "(III)Z"⟩, 76), (⟨"TypeLevelsModel", "names", "()I"⟩, 76), (⟨"TypeLevelsModel", "nodesOfAll", "()I"⟩, 76)]
theorem lw_r11 : ∀ q ∈ lw_privs_11, lw_okq q := List.forall_mem_cons.mpr ⟨lw_p160, List.forall_mem_cons.mpr ⟨lw_p161, List.forall_mem_cons.mpr ⟨lw_p162, List.forall_mem_cons.mpr ⟨lw_p163, List.forall_mem_cons.mpr ⟨lw_p164, List.forall_mem_cons.mpr ⟨lw_p165, List.forall_mem_cons.mpr ⟨lw_p166, List.forall_mem_cons.mpr ⟨lw_p167, List.forall_mem_cons.mpr ⟨lw_p168, List.forall_mem_cons.mpr ⟨lw_p169, List.forall_mem_cons.mpr ⟨lw_p170, List.forall_mem_cons.mpr ⟨lw_p171, List.forall_mem_cons.mpr ⟨lw_p172, fun _ h => absurd h List.not_mem_nil⟩⟩⟩⟩⟩⟩⟩⟩⟩⟩⟩⟩⟩
def lw_privs : List (MethodName × Nat) := lw_privs_1 ++ (lw_privs_2 ++ (lw_privs_3 ++ (lw_privs_4 ++ (lw_privs_5 ++ (lw_privs_6 ++ (lw_privs_7 ++ (lw_privs_8 ++ (lw_privs_9 ++ (lw_privs_10 ++ (lw_privs_11))))))))))
def lw_tbl : List Cond := k2_sels lw_privs ++ tables_1
theorem lw_privs_ok : ∀ q ∈ lw_privs, lw_okq q := by
  show ∀ q ∈ lw_privs_1 ++ (lw_privs_2 ++ (lw_privs_3 ++ (lw_privs_4 ++ (lw_privs_5 ++ (lw_privs_6 ++ (lw_privs_7 ++ (lw_privs_8 ++ (lw_privs_9 ++ (lw_privs_10 ++ (lw_privs_11)))))))))), lw_okq q
  exact List.forall_mem_append.mpr ⟨lw_r1, List.forall_mem_append.mpr ⟨lw_r2, List.forall_mem_append.mpr ⟨lw_r3, List.forall_mem_append.mpr ⟨lw_r4, List.forall_mem_append.mpr ⟨lw_r5, List.forall_mem_append.mpr ⟨lw_r6, List.forall_mem_append.mpr ⟨lw_r7, List.forall_mem_append.mpr ⟨lw_r8, List.forall_mem_append.mpr ⟨lw_r9, List.forall_mem_append.mpr ⟨lw_r10, lw_r11⟩⟩⟩⟩⟩⟩⟩⟩⟩⟩
end
section
/-! ===== BEGIN words of one list among another's, by their places ===== -/
theorem goodIn_r {big : List Cond} (ws : List Cond) (ps : List Nat) (hp : ws = ps.filterMap (fun i => big[i]?)) (h : ws.all goodWord = true) : GoodIn big ws := by
  intro w hw
  have h1 := List.all_eq_true.mp h w hw
  rw [hp] at hw
  obtain ⟨i, -, hi⟩ := List.mem_filterMap.mp hw
  have hm : w ∈ big := by first | exact List.mem_of_getElem? hi | exact List.getElem?_mem hi
  exact ⟨hm, good_of_word h1⟩
theorem goodIn_app {big a b : List Cond} (ha : GoodIn big a) (hb : GoodIn big b) : GoodIn big (a ++ b) := fun w h => (List.mem_append.mp h).elim (ha w) (hb w)
theorem goodIn_ca {big a b : List Cond} {c : Cond} (ha : GoodIn big (c :: a)) (hb : GoodIn big b) : GoodIn big (c :: (a ++ b)) := fun w h => (List.mem_cons.mp h).elim (fun e => ha w (List.mem_cons.mpr (Or.inl e))) (fun h => (List.mem_append.mp h).elim (fun h => ha w (List.mem_cons.mpr (Or.inr h))) (hb w))
theorem goodIn_sub {big ws : List Cond} (hm : ∀ w ∈ ws, w ∈ big) (h : ws.all goodWord = true) : GoodIn big ws := fun w hw => ⟨hm w hw, good_of_word (List.all_eq_true.mp h w hw)⟩
/-! ===== END ===== -/

/-! ===== BEGIN exceptions that leave a method, and their catching by the caller (launches without stack traces) ===== -/
section VXA
/-! The laws vx_back, vx_callV, vx_callS, vx_callSW, vx_throw0, vx_throwS follow proofs of the library, with one case more: JvmDerived/Free/Laws.lean (Back.of_free), Shelf42/LK1.lean (callV, callS), Shelf/KitTraced.lean (throwNew0V, throwNewS). -/
/-- where a method has thrown q: the class by its name, the cell, what was written, the world -/
def vx_T (XC : String → State → State → Prop) (st : State) (q : Addr) (t : State) (mc ms : Nat) (free : Addr → Prop) : Prop :=
  ∃ (E : String) (ce : Cell) (L : List Loc), XC E st t ∧ t.heap[q]? = some ce ∧ ce.vm = .none ∧ st.vm.findClass E = some ce.cls ∧ st.WarmedH t.vm ∧ st.sameButNew ({ t with vm := st.vm } : State) L mc ms ∧ ∀ z ∈ L, free z.base
def vx_Q (Qc : Array Value → State → Outcome → State → Prop) (XC : String → State → State → Prop) (mc ms : Nat) (free : Addr → Prop) : Array Value → State → Outcome → State → Prop := fun a st o t =>
  (Qc a st o t ∧ ∃ L, FrameEnd st o t L mc ms ∧ ∀ q ∈ L, free q.base) ∨ ∃ q, o = .threw q ∧ vx_T XC st q t mc ms free
/-- a callee that returns or throws -/
def vx_Met (l : Launch) (y : MethodName) (ws : List Cond) (rm : Room) (Pc : Array Value → State → Prop) (Qc : Array Value → State → Outcome → State → Prop) (XC : String → State → State → Prop) (mc ms : Nat) (free : Addr → Prop) : Prop :=
  MetFree l y (headSpec ws rm) Pc (fun _ _ _ _ _ => True) (vx_Q Qc XC mc ms free)
def vx_Post (XC : String → State → State → Prop) (mc ms : Nat) (free : Addr → Prop) : Pt → Array Value → Addr → Pt → Prop := fun A a q B =>
  ∃ (g : JFrame) (mk : MethodId) (t : State) (L : List Loc) (E : String) (ce : Cell), B.U.heap = t.heap ∧ B.U.vm = t.vm ∧ XC E (A.U.calling g mk a) t ∧ t.heap[q]? = some ce ∧ ce.vm = .none ∧ A.U.vm.findClass E = some ce.cls ∧ B.locs = A.locs ++ L ∧ (∀ z ∈ L, free z.base) ∧ B.cells = A.cells + mc ∧ B.slots = A.slots + ms
def vx_Back (l : Launch) (R : Room) (p : Program) (e : Env) (below : List Frame) (s : State) (sargs : Array Value) (y : MethodName) (len W9 : Nat)
    (Pre : Pt → Array Value → Prop) (Post : Pt → Array Value → Option Value → Pt → Prop) (PostX : Pt → Array Value → Addr → Pt → Prop) : Prop :=
  ∀ (m : MethodId) (meth : Method) (c : Code) (A : Pt) (g : JFrame) (ig : Instr) (mk : MethodId) (a : Array Value),
    Stand p l e R s m sargs below meth c A.U A.locs A.cells A.slots → g.method = m → g.locals.size = c.maxLocals → decode c.code g.pc = .ok (ig, len) →
    2 * g.monitorRoom + (g.stack.map fun v => v.category).sum ≤ W9 → A.U.methodNamed? y = some mk → Pre A a →
    (∃ (v : Option Value) (B : Pt), Stand p l e R s m sargs below meth c B.U B.locs B.cells B.slots ∧ Post A a v B ∧
      Steps p.tables e below (doInvoke e (A.U.setTop g) [] mk a).1 (B.U.setTop { g with pc := g.pc + len, stack := v.toList ++ g.stack })) ∨
    (∃ (q : Addr) (B : Pt), Stand p l e R s m sargs below meth c B.U B.locs B.cells B.slots ∧ PostX A a q B ∧
      Steps p.tables e below (doInvoke e (A.U.setTop g) [] mk a).1 ((B.U.setTop g).pushFrame (.throwing q)))
section Payer
variable {l : Launch} {R : Room} {p : Program} {e : Env} {below : List Frame} {s : State} {sargs : Array Value} {y : MethodName} {len W9 : Nat}
theorem vx_back {ws : List Cond} {rm : Room} {Pc : Array Value → State → Prop} {Qc : Array Value → State → Outcome → State → Prop} {XC : String → State → State → Prop} {mc ms : Nat} {free : Addr → Prop} {bytes : ByteArray} {maxL : Nat} {ret : Option FieldType}
    (hM : vx_Met l y ws rm Pc Qc XC mc ms free) (hblind : FrameBlind Pc) (hrc : rm.cells = mc) (hrs : rm.slots = ms)
    (hframes : rm.frames + 1 ≤ R.frames) (hlocals : W9 + (maxL + 11) + rm.locals ≤ R.locals)
    (hws : ∀ w ∈ ws, ∀ a' U, s.WarmedH U.vm → w.before a' U = true) (hcode : Cond.code y bytes maxL ret ∈ ws) (hinit : ∀ a' U, s.WarmedH U.vm → (Cond.initialized y.cls).before a' U = true) :
    vx_Back l R p e below s sargs y len W9 (PreOf R mc ms Pc) (PostOf Qc mc ms free) (vx_Post XC mc ms free) := by
  intro m meth c A g ig mk a X hg hsize hdg hW hn hp
  have h1 : (headSpec ws rm).pre.before a A.U = true := atoms_intro fun w hw => hws w hw _ _ X.warmed
  have h2 : (Cond.code y bytes maxL ret).before a A.U = true := hws _ hcode _ _ X.warmed
  have h3 : (Cond.initialized y.cls).before a A.U = true := hinit _ _ X.warmed
  have h4 : A.cells + (headSpec ws rm).room.cells ≤ R.cells := by rw [show (headSpec ws rm).room.cells = mc from hrc]; exact hp.1
  have h5 : A.slots + (headSpec ws rm).room.slots ≤ R.slots := by rw [show (headSpec ws rm).room.slots = ms from hrs]; exact hp.2.1
  have hPc : Pc a (A.U.calling g mk a) := hblind _ _ _ _ hp.2.2
  obtain ⟨U, Ls, c0, s0⟩ := A
  dsimp only [Pt.U, Pt.locs, Pt.cells, Pt.slots] at h1 h2 h3 h4 h5 X hn hPc ⊢
  obtain ⟨methY, cY, hmY, hcY, -, hlY, -, -, -, -⟩ := Cond.code_spec hn h2
  obtain ⟨kY, hkY, -⟩ := className_of_methodNamed hn
  have hinitY : kY.init = .initialized := Cond.initialized_spec (findClass_of_methodNamed hn) hkY h3
  have h : At U g.method c below := by rw [hg]; exact X.here
  have hlocals9 : W9 + (maxL + 11) + (headSpec ws rm).room.locals ≤ R.locals := hlocals
  have happ : (headSpec ws rm).appliesLoose y e.platform (U.calling g mk a) = true :=
    Spec.appliesLoose_calling (g := g) h hdg hn hkY hinitY
      (X.room_calling (g := g) (R' := (headSpec ws rm).room) hsize hmY hcY hframes (by rw [hlY]; omega) h4 h5) h1
  obtain ⟨mid, hmid⟩ := h.above
  have hfr : (U.setTop g).frames = (.java g :: mid) ++ below := by rw [State.frames_setTop' g h.top, hmid]; rfl
  obtain ⟨o, s₂, hsteps, -, hend, hq⟩ := Steps.callFree hM p X.admits X.cas X.clock (acts := []) hfr happ hPc trivial
  have hq' : vx_Q Qc XC mc ms free a (U.calling g mk a) o s₂ := hq
  rw [State.frames_setTop' g h.top] at hend
  obtain ⟨g₀, hg0⟩ := Option.isSome_iff_exists.mp h.top
  obtain ⟨r, hr⟩ := State.topJava?_eq_some.mp hg0
  have hr' : (({ U with heap := s₂.heap, slotsUsed := s₂.slotsUsed } : State).setVm s₂.vm).frames = .java g₀ :: r := hr
  rcases hq' with ⟨hqc, L, hfe, hL⟩ | ⟨q, rfl, E, ce, L, hx, hce, hcv, hcl, hW₂, hsm, hL⟩
  · obtain ⟨⟨v, rfl⟩, hW₂, e2, q2, q3, q4, q5, q6⟩ := id hfe
    have e3 : s₂ = ({ (U.calling g mk a).setFrames s₂.frames with heap := s₂.heap, slotsUsed := s₂.slotsUsed } : State).setVm s₂.vm := by
      have : s₂ = ({ s₂ with vm := (U.calling g mk a).vm } : State).setVm s₂.vm := rfl
      rw [e2] at this
      exact this
    obtain ⟨c₂, i₂, len₂, hc₂, hd₂, hf₂⟩ := hend
    have hW' : U.WarmedH s₂.vm := hW₂
    have hcc : c₂ = c := by
      have h1 : s₂.code? g.method = U.code? g.method := by
        rw [State.code?_eq, State.code?_eq, hW'.alike.method?]
      exact Option.some.inj (hc₂.symm.trans (h1.trans h.code))
    subst hcc
    have hlen : len₂ = len := by rw [hdg] at hd₂; cases hd₂; rfl
    subst hlen
    have hs₂ : s₂ = (({ U with heap := s₂.heap, slotsUsed := s₂.slotsUsed } : State).setVm s₂.vm).setTop { g with pc := g.pc + len₂, stack := v.toList ++ g.stack } := by
      refine e3.trans ?_
      rw [hf₂, State.calling_eq h.top, State.setFrames_setFrames, State.setTop_of_frames _ hr', hr]
      rfl
    have hsame : U.sameButNew ({ U with heap := s₂.heap, slotsUsed := s₂.slotsUsed } : State) L mc ms := by
      refine ⟨?_, q2, q3, q4, q5, q6⟩
      obtain ⟨t, ht, -⟩ := State.frames_cons hr
      show ({ U with heap := s₂.heap, slotsUsed := s₂.slotsUsed } : State) = { U.setFrames U.frames with heap := s₂.heap, slotsUsed := s₂.slotsUsed }
      rw [State.setFrames_self ht]
    subst hg
    refine Or.inl ⟨v, ⟨(({ U with heap := s₂.heap, slotsUsed := s₂.slotsUsed } : State).setVm s₂.vm), Ls ++ L, c0 + mc, s0 + ms⟩,
      ⟨X.admits, X.cas, X.clock, X.frames, X.room, X.hears, X.method, X.code, (X.here.setHeapUsed s₂.heap s₂.slotsUsed).setVm hW'.alike, X.tail, State.WarmedH.trans X.warmed hW', X.limits, X.bytes, X.same.trans (hsame.setVm s.vm)⟩,
      ⟨g, mk, s₂, L, rfl, rfl, hqc, rfl, hL, rfl, rfl⟩, ?_⟩
    show Steps p.tables e below _ ((({ U with heap := s₂.heap, slotsUsed := s₂.slotsUsed } : State).setVm s₂.vm).setTop { g with pc := g.pc + len₂, stack := v.toList ++ g.stack })
    rw [← hs₂]
    exact hsteps
  · obtain ⟨e2, q2, q3, q4, q5, q6⟩ := id hsm
    have e3 : s₂ = ({ (U.calling g mk a).setFrames s₂.frames with heap := s₂.heap, slotsUsed := s₂.slotsUsed } : State).setVm s₂.vm := by
      have : s₂ = ({ s₂ with vm := (U.calling g mk a).vm } : State).setVm s₂.vm := rfl
      rw [e2] at this
      exact this
    have hf₂ : s₂.frames = .throwing q :: .java g :: U.frames.tail := hend
    have hW' : U.WarmedH s₂.vm := hW₂
    have hs₂ : s₂ = ((({ U with heap := s₂.heap, slotsUsed := s₂.slotsUsed } : State).setVm s₂.vm).setTop g).pushFrame (.throwing q) := by
      refine e3.trans ?_
      rw [hf₂, State.calling_eq h.top, State.setFrames_setFrames, State.pushFrame, State.frames_setTop _ hr', State.setTop_of_frames _ hr', State.setFrames_setFrames, hr]
      rfl
    have hsame : U.sameButNew ({ U with heap := s₂.heap, slotsUsed := s₂.slotsUsed } : State) L mc ms := by
      refine ⟨?_, q2, q3, q4, q5, q6⟩
      obtain ⟨t, ht, -⟩ := State.frames_cons hr
      show ({ U with heap := s₂.heap, slotsUsed := s₂.slotsUsed } : State) = { U.setFrames U.frames with heap := s₂.heap, slotsUsed := s₂.slotsUsed }
      rw [State.setFrames_self ht]
    subst hg
    refine Or.inr ⟨q, ⟨(({ U with heap := s₂.heap, slotsUsed := s₂.slotsUsed } : State).setVm s₂.vm), Ls ++ L, c0 + mc, s0 + ms⟩,
      ⟨X.admits, X.cas, X.clock, X.frames, X.room, X.hears, X.method, X.code, (X.here.setHeapUsed s₂.heap s₂.slotsUsed).setVm hW'.alike, X.tail, State.WarmedH.trans X.warmed hW', X.limits, X.bytes, X.same.trans (hsame.setVm s.vm)⟩,
      ⟨g, mk, s₂, L, E, ce, rfl, rfl, hx, hce, hcv, hcl, rfl, hL, rfl, rfl⟩, ?_⟩
    show Steps p.tables e below _ (((({ U with heap := s₂.heap, slotsUsed := s₂.slotsUsed } : State).setVm s₂.vm).setTop g).pushFrame (.throwing q))
    rw [← hs₂]
    exact hsteps
end Payer
section Calls
variable {p : Program} {l : Launch} {e : Env} {R : Room} {s : State} {m : MethodId} {args : Array Value} {below : List Frame} {meth : Method} {c : Code} {T : State} {locs : List Loc} {cells slots : Nat}
theorem vx_callV (X : Stand p l e R s m args below meth c T locs cells slots) (hexec : p.tables.exec = Jvm.exec) {own C : String} {index : Nat} {y : MethodName} {bytes : ByteArray} {maxL : Nat} {ret : Option FieldType}
    (hown : s.vm.findClass own = some m.cls) (hlink : (Cond.methodLink own index y).before args s = true) (hinst : (Cond.instanceMethod y).before args s = true) (hsel : (Cond.selects C y y).before args s = true)
    (hcode : (Cond.code y bytes maxL ret).before args s = true) (hy : y.cls ≠ "java/lang/invoke/MethodHandle" ∧ y.cls ≠ "java/lang/invoke/VarHandle")
    {W9 : Nat} {Pre : Pt → Array Value → Prop} {Post : Pt → Array Value → Option Value → Pt → Prop} {PostX : Pt → Array Value → Addr → Pt → Prop} (hK : vx_Back l R p e below s args y 3 W9 Pre Post PostX)
    {b : Addr} {cellB : Cell} (hcell : T.heap[b]? = some cellB) (hobj : cellB.vm.isStatics = false) (hcls : s.vm.findClass C = some cellB.cls)
    {g : JFrame} (hg : g.method = m) (hsize : g.locals.size = c.maxLocals) {argsL rest : List Value} (hlen : ∀ sig, parseMethodDescriptor y.desc = some sig → argsL.length = sig.parameters.length)
    (hstack : g.stack = argsL.reverse ++ .ref b :: rest) (hW : 2 * g.monitorRoom + (rest.map fun v => v.category).sum ≤ W9) (hdg : decode c.code g.pc = .ok (.invokevirtual index, 3))
    (hpre : ∀ vm₁, s.WarmedH vm₁ → Pre ⟨T.setVm vm₁, locs, cells, slots⟩ (Value.ref b :: argsL).toArray) :
    (∃ (v : Option Value) (vm₁ : Vm) (B : Pt), s.WarmedH vm₁ ∧ Stand p l e R s m args below meth c B.U B.locs B.cells B.slots ∧ Post ⟨T.setVm vm₁, locs, cells, slots⟩ (Value.ref b :: argsL).toArray v B ∧
      ∀ target, Steps p.tables e below (B.U.setTop { g with pc := g.pc + 3, stack := v.toList ++ rest }) target → Steps p.tables e below (T.setTop g) target) ∨
    (∃ (q : Addr) (vm₁ : Vm) (B : Pt), s.WarmedH vm₁ ∧ Stand p l e R s m args below meth c B.U B.locs B.cells B.slots ∧ PostX ⟨T.setVm vm₁, locs, cells, slots⟩ (Value.ref b :: argsL).toArray q B ∧
      Steps p.tables e below (T.setTop g) ((B.U.setTop { g with stack := rest }).pushFrame (.throwing q))) := by
  obtain ⟨mk, methM, hnamed, hmethM, hstM, habM⟩ := Cond.instanceMethod_spec hinst
  obtain ⟨methM', cM, hmethM', -, -, -, -, -, -, hsigM⟩ := Cond.code_spec hnamed hcode
  cases hmethM.symm.trans hmethM'
  obtain ⟨c2, r2, m2, q1, q2, q3, q4, kP, hkP, hkPi⟩ := Cond.selects_spec hsel
  cases hcls.symm.trans q1
  cases (State.methodFound?_of_named hnamed hy).symm.trans q2
  cases hnamed.symm.trans q3
  have hselP : selectMethod e.platform s.vm cellB.cls mk = .method mk := by rw [Launch.admits_selectMethod X.admits]; exact q4
  obtain ⟨vm₁, X₁, hstep₁⟩ := X.invokevirtual hexec hown hlink hnamed hmethM hstM hkP hkPi hy (a := b) (cell := cellB) hcell
    (fun z h => by rw [h] at hobj; cases hobj) hselP hmethM habM hkP hkPi (g := g) hg (argsL := argsL) (rest := rest) (hlen _ hsigM) hstack hdg
  rcases hK m meth c ⟨T.setVm vm₁, locs, cells, slots⟩ { g with stack := rest } (.invokevirtual index) mk (Value.ref b :: argsL).toArray X₁ hg hsize hdg hW (X₁.named hnamed) (hpre vm₁ X₁.warmed) with ⟨v, B, X', hpost, hsteps⟩ | ⟨q, B, X', hpost, hsteps⟩
  · exact Or.inl ⟨v, vm₁, B, X₁.warmed, X', hpost, fun target h => hstep₁ _ fun acts => by rw [doInvoke_state]; exact hsteps.trans h⟩
  · exact Or.inr ⟨q, vm₁, B, X₁.warmed, X', hpost, hstep₁ _ fun acts => by rw [doInvoke_state]; exact hsteps⟩
theorem vx_callS (X : Stand p l e R s m args below meth c T locs cells slots) (hexec : p.tables.exec = Jvm.exec) {own : String} {index : Nat} {y : MethodName} {bytes : ByteArray} {maxL : Nat} {ret : Option FieldType}
    (hown : s.vm.findClass own = some m.cls) (hlink : (Cond.methodLink own index y).before args s = true) (hstat : (Cond.static y).before args s = true) (hinit : (Cond.initialized y.cls).before args s = true)
    (hcode : (Cond.code y bytes maxL ret).before args s = true) (hy : y.cls ≠ "java/lang/invoke/MethodHandle" ∧ y.cls ≠ "java/lang/invoke/VarHandle")
    {W9 : Nat} {Pre : Pt → Array Value → Prop} {Post : Pt → Array Value → Option Value → Pt → Prop} {PostX : Pt → Array Value → Addr → Pt → Prop} (hK : vx_Back l R p e below s args y 3 W9 Pre Post PostX)
    {g : JFrame} (hg : g.method = m) (hsize : g.locals.size = c.maxLocals) {argsL rest : List Value} (hlen : ∀ sig, parseMethodDescriptor y.desc = some sig → argsL.length = sig.parameters.length)
    (hstack : g.stack = argsL.reverse ++ rest) (hW : 2 * g.monitorRoom + (rest.map fun v => v.category).sum ≤ W9) (hdg : decode c.code g.pc = .ok (.invokestatic index, 3))
    (hpre : ∀ vm₁, s.WarmedH vm₁ → Pre ⟨T.setVm vm₁, locs, cells, slots⟩ argsL.toArray) :
    (∃ (v : Option Value) (vm₁ : Vm) (B : Pt), s.WarmedH vm₁ ∧ Stand p l e R s m args below meth c B.U B.locs B.cells B.slots ∧ Post ⟨T.setVm vm₁, locs, cells, slots⟩ argsL.toArray v B ∧
      ∀ target, Steps p.tables e below (B.U.setTop { g with pc := g.pc + 3, stack := v.toList ++ rest }) target → Steps p.tables e below (T.setTop g) target) ∨
    (∃ (q : Addr) (vm₁ : Vm) (B : Pt), s.WarmedH vm₁ ∧ Stand p l e R s m args below meth c B.U B.locs B.cells B.slots ∧ PostX ⟨T.setVm vm₁, locs, cells, slots⟩ argsL.toArray q B ∧
      Steps p.tables e below (T.setTop g) ((B.U.setTop { g with stack := rest }).pushFrame (.throwing q))) := by
  obtain ⟨mk, hnamed⟩ := Cond.code_named hcode
  obtain ⟨methM, cM, hmethM, -, -, -, -, -, -, hsigM⟩ := Cond.code_spec hnamed hcode
  have hstatic : methM.isStatic = true := Cond.static_spec hnamed hmethM hstat
  obtain ⟨kP, hkP, -⟩ := className_of_methodNamed hnamed
  have hinitP : kP.init = .initialized := Cond.initialized_spec (findClass_of_methodNamed hnamed) hkP hinit
  obtain ⟨vm₁, X₁, hstep₁⟩ := X.invokestatic hexec hown hlink hnamed hmethM hstatic hkP hinitP hy (g := g) hg (argsL := argsL) (rest := rest) (hlen _ hsigM) hstack hdg
  rcases hK m meth c ⟨T.setVm vm₁, locs, cells, slots⟩ { g with stack := rest } (.invokestatic index) mk argsL.toArray X₁ hg hsize hdg hW (X₁.named hnamed) (hpre vm₁ X₁.warmed) with ⟨v, B, X', hpost, hsteps⟩ | ⟨q, B, X', hpost, hsteps⟩
  · exact Or.inl ⟨v, vm₁, B, X₁.warmed, X', hpost, fun target h => hstep₁ _ fun acts => by rw [doInvoke_state]; exact hsteps.trans h⟩
  · exact Or.inr ⟨q, vm₁, B, X₁.warmed, X', hpost, hstep₁ _ fun acts => by rw [doInvoke_state]; exact hsteps⟩
end Calls
theorem vx_cls {s : State} {T : State} {vm₁ : Vm} {E : String} {k : ClassId} (hW : s.WarmedH vm₁) (h : (T.setVm vm₁).vm.findClass E = some k) : s.vm.findClass E = some k := by
  have h1 : vm₁.findClass E = some k := h
  rw [hW.alike.findClass] at h1
  exact h1
/-- the method's frame g, with q thrown over it -/
def vx_W (p : Program) (l : Launch) (e : Env) (R : Room) (s : State) (m : MethodId) (args : Array Value) (below : List Frame) (meth : Method) (c : Code) (H : Heap) (locs : List Loc) (cells slots : Nat) (Q : State → Prop) (g : JFrame) (q : Addr) : Prop :=
  ∀ T : State, T.heap = H → Stand p l e R s m args below meth c T locs cells slots → ∃ t, Steps p.tables e below ((T.setTop g).pushFrame (.throwing q)) t ∧ Q t
def vx_Run (p : Program) (l : Launch) (e : Env) (R : Room) (s : State) (m : MethodId) (args : Array Value) (below : List Frame) (meth : Method) (c : Code) (H : Heap) (locs : List Loc) (cells slots mc ms : Nat) (g : JFrame) (rest : List Value) (Qa : State → Outcome → State → Prop) (XC : String → State → State → Prop) (free : Addr → Prop) : Prop :=
  ∀ T : State, T.heap = H → Stand p l e R s m args below meth c T locs cells slots →
    (∃ (v : Option Value) (st₀ t T' : State) (L : List Loc), st₀.heap = H ∧ Stand p l e R s m args below meth c T' (locs ++ L) (cells + mc) (slots + ms) ∧ (∀ q ∈ L, free q.base) ∧ T'.heap = t.heap ∧ T'.vm = t.vm ∧ Qa st₀ (.returned v) t ∧
      Goes p e below T g T' { g with pc := g.pc + 3, stack := v.toList ++ rest }) ∨
    (∃ (q : Addr) (st₀ t T' : State) (L : List Loc) (E : String) (ce : Cell), st₀.heap = H ∧ Stand p l e R s m args below meth c T' (locs ++ L) (cells + mc) (slots + ms) ∧ (∀ z ∈ L, free z.base) ∧ T'.heap = t.heap ∧ T'.vm = t.vm ∧ XC E st₀ t ∧ t.heap[q]? = some ce ∧ ce.vm = .none ∧ s.vm.findClass E = some ce.cls ∧
      Steps p.tables e below (T.setTop g) ((T'.setTop { g with stack := rest }).pushFrame (.throwing q)))
def vx_X {S : Type} (px : S → Prop) (B : String → S → State → Prop) (A : Nat → Prop) : String → State → State → Prop := fun E st t => ∃ u : S, px u ∧ B E u t ∧ va_F A st t
section Runs
variable {p : Program} {l : Launch} {e : Env} {R : Room} {s : State} {m : MethodId} {args : Array Value} {below : List Frame} {meth : Method} {c : Code} {H : Heap} {locs : List Loc} {cells slots : Nat}
variable {y : MethodName} {bytes cc : ByteArray} {maxL nL mc ms n index : Nat} {ret : Option FieldType} {ws : List Cond} {rm : Room} {Pc : Array Value → State → Prop} {Qc : Array Value → State → Outcome → State → Prop} {XC : String → State → State → Prop} {free : Addr → Prop} {Ts : List Cond} {own C : String} {b : Addr} {As rest : List Value} {g : JFrame}
theorem vx_callBack (cb : CallB R s args own index y bytes maxL ret ws rm mc ms n) (hM : vx_Met l y ws rm Pc Qc XC mc ms free) (hbl : FrameBlind Pc) : vx_Back l R p e below s args y 3 8 (PreOf R mc ms Pc) (PostOf Qc mc ms free) (vx_Post XC mc ms free) := by
  obtain ⟨hrc, hrs, hfr, hlo, hws, hcw, -, hini, -⟩ := cb
  exact vx_back (bytes := bytes) (maxL := maxL) (ret := ret) hM hbl hrc hrs hfr hlo hws hcw (fun a' U hW => word_at hW (Or.inl (by first | rfl | simp [Cond.onTables, Cond.keeps, Cond.steady])) hini)
theorem vx_runV (S : CallFix p m c cc nL s args Ts own) (hM : vx_Met l y ws rm Pc Qc XC mc ms free) (cw : CallW R s args own C index y bytes maxL ret ws rm mc ms n) (hp : PreV s H C b Pc As)
    (hg : g.method = m) (hn : As.length = n) (hsize : g.locals.size = nL) (hstack : g.stack = As.reverse ++ .ref b :: rest) (hW : 2 * g.monitorRoom + (rest.map fun v => v.category).sum ≤ 8) (hdg : decode cc g.pc = .ok (.invokevirtual index, 3)) (hf : cells + mc ≤ R.cells ∧ slots + ms ≤ R.slots) :
    vx_Run p l e R s m args below meth c H locs cells slots mc ms g rest (Qc (Value.ref b :: As).toArray) XC free := by
  have hK : vx_Back l R p e below s args y 3 8 (PreOf R mc ms Pc) (PostOf Qc mc ms free) (vx_Post XC mc ms free) := vx_callBack cw.1 hM hp.1
  obtain ⟨⟨-, -, -, -, -, -, hcode, -, hy, hlen, hl⟩, hin, hse⟩ := cw
  obtain ⟨hx, hb, hml, ho, -⟩ := S
  obtain ⟨-, ⟨cellB, hcB, hoB, hclB⟩, hPc⟩ := hp
  intro T hT X
  rcases vx_callV X hx (C := C) (bytes := bytes) (maxL := maxL) (ret := ret) ho hl hin hse hcode hy hK (by rw [hT]; exact hcB) hoB hclB hg (hsize.trans hml.symm) (argsL := As) (rest := rest) (fun sig h => hn.trans (hlen sig h)) hstack hW (by rw [hb]; exact hdg)
    (fun vm₁ hW₁ => ⟨hf.1, hf.2, hPc (T.setVm vm₁) hT hW₁⟩) with ⟨v, vm₁, ⟨U', l2, c2, s2⟩, hW₁, X', ⟨g', mk, t, L, e1, e2, hq, h1, hL, h2, h3⟩, st⟩ | ⟨q, vm₁, ⟨U', l2, c2, s2⟩, hW₁, X', ⟨g', mk, t, L, E, ce, e1, e2, hq, hce, hcv, hcl, h1, hL, h2, h3⟩, st⟩
  · dsimp only [Pt.U, Pt.locs, Pt.cells, Pt.slots] at X' e1 e2 h1 h2 h3 st
    subst h1; subst h2; subst h3
    exact Or.inl ⟨v, (T.setVm vm₁).calling g' mk (Value.ref b :: As).toArray, t, U', L, hT, X', hL, e1, e2, hq, st⟩
  · dsimp only [Pt.U, Pt.locs, Pt.cells, Pt.slots] at X' e1 e2 h1 h2 h3 st hcl
    subst h1; subst h2; subst h3
    exact Or.inr ⟨q, (T.setVm vm₁).calling g' mk (Value.ref b :: As).toArray, t, U', L, E, ce, hT, X', hL, e1, e2, hq, hce, hcv, vx_cls hW₁ hcl, st⟩
theorem vx_runS (S : CallFix p m c cc nL s args Ts own) (hM : vx_Met l y ws rm Pc Qc XC mc ms free) (cw : CallB R s args own index y bytes maxL ret ws rm mc ms n ∧ (Cond.static y).before args s = true) (hp : PreS s H Pc As)
    (hg : g.method = m) (hn : As.length = n) (hsize : g.locals.size = nL) (hstack : g.stack = As.reverse ++ rest) (hW : 2 * g.monitorRoom + (rest.map fun v => v.category).sum ≤ 8) (hdg : decode cc g.pc = .ok (.invokestatic index, 3)) (hf : cells + mc ≤ R.cells ∧ slots + ms ≤ R.slots) :
    vx_Run p l e R s m args below meth c H locs cells slots mc ms g rest (Qc As.toArray) XC free := by
  have hK : vx_Back l R p e below s args y 3 8 (PreOf R mc ms Pc) (PostOf Qc mc ms free) (vx_Post XC mc ms free) := vx_callBack cw.1 hM hp.1
  obtain ⟨⟨-, -, -, -, -, -, hcode, hini, hy, hlen, hl⟩, hstt⟩ := cw
  obtain ⟨hx, hb, hml, ho, -⟩ := S
  intro T hT X
  rcases vx_callS X hx (bytes := bytes) (maxL := maxL) (ret := ret) ho hl hstt hini hcode hy hK hg (hsize.trans hml.symm) (argsL := As) (rest := rest) (fun sig h => hn.trans (hlen sig h)) hstack hW (by rw [hb]; exact hdg)
    (fun vm₁ hW₁ => ⟨hf.1, hf.2, hp.2 (T.setVm vm₁) hT hW₁⟩) with ⟨v, vm₁, ⟨U', l2, c2, s2⟩, hW₁, X', ⟨g', mk, t, L, e1, e2, hq, h1, hL, h2, h3⟩, st⟩ | ⟨q, vm₁, ⟨U', l2, c2, s2⟩, hW₁, X', ⟨g', mk, t, L, E, ce, e1, e2, hq, hce, hcv, hcl, h1, hL, h2, h3⟩, st⟩
  · dsimp only [Pt.U, Pt.locs, Pt.cells, Pt.slots] at X' e1 e2 h1 h2 h3 st
    subst h1; subst h2; subst h3
    exact Or.inl ⟨v, (T.setVm vm₁).calling g' mk As.toArray, t, U', L, hT, X', hL, e1, e2, hq, st⟩
  · dsimp only [Pt.U, Pt.locs, Pt.cells, Pt.slots] at X' e1 e2 h1 h2 h3 st hcl
    subst h1; subst h2; subst h3
    exact Or.inr ⟨q, (T.setVm vm₁).calling g' mk As.toArray, t, U', L, E, ce, hT, X', hL, e1, e2, hq, hce, hcv, vx_cls hW₁ hcl, st⟩
end Runs
section Rows
variable {p : Program} {l : Launch} {e : Env} {R : Room} {s : State} {m : MethodId} {args : Array Value} {below : List Frame} {meth : Method} {c : Code} {H : Heap} {locs : List Loc} {cells slots : Nat} {Q : State → Prop}
variable {mc ms : Nat} {free : Addr → Prop} {A0 A1 : Nat → Prop} {H0 : Heap} {a : Array Value} {pc : Nat} {ls : Array Slot} {st0 rest : List Value}
theorem vx_keep {st₀ t T' : State} {L : List Loc} (h0 : st₀.heap = H) (e1 : T'.heap = t.heap) (hS : va_S A0 H0 H locs) (hA : ∀ q, q < H.size → A1 q → A0 q) (hf : ∀ q, free q → A0 q) (hL : ∀ q ∈ L, free q.base) (hF : va_F A1 st₀ t) :
    H.size ≤ T'.heap.size ∧ (∀ q : Nat, q < H.size → ¬ A1 q → T'.heap[q]? = H[q]?) ∧ va_S A0 H0 T'.heap (locs ++ L) := by
  obtain ⟨hz, hk⟩ := hF
  rw [h0] at hz hk
  exact ⟨by rw [e1]; exact hz, fun q h1 h2 => by rw [e1]; exact hk q h1 h2,
    ⟨Nat.le_trans hS.1 (by rw [e1]; exact hz), fun q h1 h2 => by rw [e1, hk q (Nat.lt_of_lt_of_le h1 hS.1) (fun z => h2 (hA q (Nat.lt_of_lt_of_le h1 hS.1) z))]; exact hS.2.1 q h1 h2, fun q hq => by
      rcases List.mem_append.mp hq with h | h
      · exact hS.2.2 q h
      · exact hf _ (hL q h)⟩⟩
theorem vx_calli {S SX : Type} {post : Int32 → S → Prop} {px : SX → Prop} {B : S → State → Prop} {BX : String → SX → State → Prop} {AX : Nat → Prop} (hr : vx_Run p l e R s m args below meth c H locs cells slots mc ms (F0 m pc ls st0) rest (va_Qi post B A1 a) (vx_X px BX AX) free) (hS : va_S A0 H0 H locs) (hA : ∀ q, q < H.size → A1 q → A0 q) (hf : ∀ q, free q → A0 q) (hAX : ∀ q, q < H.size → AX q → A0 q)
    (kx : ∀ (E : String) (ce : Cell) (q9 : Addr) (u : SX) (t : State) (H1 : Heap) (locs1 : List Loc), t.heap = H1 → s.vm.Alike t.vm → px u → BX E u t → H.size ≤ H1.size → (∀ q : Nat, q < H.size → ¬ AX q → H1[q]? = H[q]?) → va_S A0 H0 H1 locs1 → H1[q9]? = some ce → ce.vm = .none → s.vm.findClass E = some ce.cls → vx_W p l e R s m args below meth c H1 locs1 (cells + mc) (slots + ms) Q (F0 m pc ls rest) q9)
    (kk : ∀ (r : Int32) (u : S) (t : State) (H1 : Heap) (locs1 : List Loc), t.heap = H1 → s.vm.Alike t.vm → post r u → B u t → H.size ≤ H1.size → (∀ q : Nat, q < H.size → ¬ A1 q → H1[q]? = H[q]?) → va_S A0 H0 H1 locs1 → W p l e R s m args below meth c H1 locs1 (cells + mc) (slots + ms) Q (F0 m (pc + 3) ls (.int r :: rest))) : W p l e R s m args below meth c H locs cells slots Q (F0 m pc ls st0) := by
  intro T hT X
  rcases hr T hT X with ⟨v, st₀, t, T', L, h0, X', hL, e1, e2, ⟨⟨r, u, hv, hp, hb⟩, hF⟩, st⟩ | ⟨q, st₀, t, T', L, E, ce, h0, X', hL, e1, e2, ⟨u, hp, hb, hF⟩, hce, hcv, hcl, st⟩
  · cases hv
    obtain ⟨k1, k2, k3⟩ := vx_keep h0 e1 hS hA hf hL hF
    obtain ⟨t2, a1, b1⟩ := kk r u t T'.heap (locs ++ L) e1.symm (by rw [← e2]; exact X'.warmed.alike) hp hb k1 k2 k3 T' rfl X'
    exact ⟨t2, st t2 a1, b1⟩
  · obtain ⟨k1, k2, k3⟩ := vx_keep h0 e1 hS hAX hf hL hF
    obtain ⟨t2, a1, b1⟩ := kx E ce q u t T'.heap (locs ++ L) e1.symm (by rw [← e2]; exact X'.warmed.alike) hp hb k1 k2 k3 (by rw [e1]; exact hce) hcv hcl T' rfl X'
    exact ⟨t2, st.trans a1, b1⟩
theorem vx_calll {S SX : Type} {post : Int64 → S → Prop} {px : SX → Prop} {B : S → State → Prop} {BX : String → SX → State → Prop} {AX : Nat → Prop} (hr : vx_Run p l e R s m args below meth c H locs cells slots mc ms (F0 m pc ls st0) rest (va_Ql post B A1 a) (vx_X px BX AX) free) (hS : va_S A0 H0 H locs) (hA : ∀ q, q < H.size → A1 q → A0 q) (hf : ∀ q, free q → A0 q) (hAX : ∀ q, q < H.size → AX q → A0 q)
    (kx : ∀ (E : String) (ce : Cell) (q9 : Addr) (u : SX) (t : State) (H1 : Heap) (locs1 : List Loc), t.heap = H1 → s.vm.Alike t.vm → px u → BX E u t → H.size ≤ H1.size → (∀ q : Nat, q < H.size → ¬ AX q → H1[q]? = H[q]?) → va_S A0 H0 H1 locs1 → H1[q9]? = some ce → ce.vm = .none → s.vm.findClass E = some ce.cls → vx_W p l e R s m args below meth c H1 locs1 (cells + mc) (slots + ms) Q (F0 m pc ls rest) q9)
    (kk : ∀ (r : Int64) (u : S) (t : State) (H1 : Heap) (locs1 : List Loc), t.heap = H1 → s.vm.Alike t.vm → post r u → B u t → H.size ≤ H1.size → (∀ q : Nat, q < H.size → ¬ A1 q → H1[q]? = H[q]?) → va_S A0 H0 H1 locs1 → W p l e R s m args below meth c H1 locs1 (cells + mc) (slots + ms) Q (F0 m (pc + 3) ls (.long r :: rest))) : W p l e R s m args below meth c H locs cells slots Q (F0 m pc ls st0) := by
  intro T hT X
  rcases hr T hT X with ⟨v, st₀, t, T', L, h0, X', hL, e1, e2, ⟨⟨r, u, hv, hp, hb⟩, hF⟩, st⟩ | ⟨q, st₀, t, T', L, E, ce, h0, X', hL, e1, e2, ⟨u, hp, hb, hF⟩, hce, hcv, hcl, st⟩
  · cases hv
    obtain ⟨k1, k2, k3⟩ := vx_keep h0 e1 hS hA hf hL hF
    obtain ⟨t2, a1, b1⟩ := kk r u t T'.heap (locs ++ L) e1.symm (by rw [← e2]; exact X'.warmed.alike) hp hb k1 k2 k3 T' rfl X'
    exact ⟨t2, st t2 a1, b1⟩
  · obtain ⟨k1, k2, k3⟩ := vx_keep h0 e1 hS hAX hf hL hF
    obtain ⟨t2, a1, b1⟩ := kx E ce q u t T'.heap (locs ++ L) e1.symm (by rw [← e2]; exact X'.warmed.alike) hp hb k1 k2 k3 (by rw [e1]; exact hce) hcv hcl T' rfl X'
    exact ⟨t2, st.trans a1, b1⟩
theorem vx_callf {S SX : Type} {post : UInt32 → S → Prop} {px : SX → Prop} {B : S → State → Prop} {BX : String → SX → State → Prop} {AX : Nat → Prop} (hr : vx_Run p l e R s m args below meth c H locs cells slots mc ms (F0 m pc ls st0) rest (va_Qf post B A1 a) (vx_X px BX AX) free) (hS : va_S A0 H0 H locs) (hA : ∀ q, q < H.size → A1 q → A0 q) (hf : ∀ q, free q → A0 q) (hAX : ∀ q, q < H.size → AX q → A0 q)
    (kx : ∀ (E : String) (ce : Cell) (q9 : Addr) (u : SX) (t : State) (H1 : Heap) (locs1 : List Loc), t.heap = H1 → s.vm.Alike t.vm → px u → BX E u t → H.size ≤ H1.size → (∀ q : Nat, q < H.size → ¬ AX q → H1[q]? = H[q]?) → va_S A0 H0 H1 locs1 → H1[q9]? = some ce → ce.vm = .none → s.vm.findClass E = some ce.cls → vx_W p l e R s m args below meth c H1 locs1 (cells + mc) (slots + ms) Q (F0 m pc ls rest) q9)
    (kk : ∀ (r : UInt32) (u : S) (t : State) (H1 : Heap) (locs1 : List Loc), t.heap = H1 → s.vm.Alike t.vm → post r u → B u t → H.size ≤ H1.size → (∀ q : Nat, q < H.size → ¬ A1 q → H1[q]? = H[q]?) → va_S A0 H0 H1 locs1 → W p l e R s m args below meth c H1 locs1 (cells + mc) (slots + ms) Q (F0 m (pc + 3) ls (.float r :: rest))) : W p l e R s m args below meth c H locs cells slots Q (F0 m pc ls st0) := by
  intro T hT X
  rcases hr T hT X with ⟨v, st₀, t, T', L, h0, X', hL, e1, e2, ⟨⟨r, u, hv, hp, hb⟩, hF⟩, st⟩ | ⟨q, st₀, t, T', L, E, ce, h0, X', hL, e1, e2, ⟨u, hp, hb, hF⟩, hce, hcv, hcl, st⟩
  · cases hv
    obtain ⟨k1, k2, k3⟩ := vx_keep h0 e1 hS hA hf hL hF
    obtain ⟨t2, a1, b1⟩ := kk r u t T'.heap (locs ++ L) e1.symm (by rw [← e2]; exact X'.warmed.alike) hp hb k1 k2 k3 T' rfl X'
    exact ⟨t2, st t2 a1, b1⟩
  · obtain ⟨k1, k2, k3⟩ := vx_keep h0 e1 hS hAX hf hL hF
    obtain ⟨t2, a1, b1⟩ := kx E ce q u t T'.heap (locs ++ L) e1.symm (by rw [← e2]; exact X'.warmed.alike) hp hb k1 k2 k3 (by rw [e1]; exact hce) hcv hcl T' rfl X'
    exact ⟨t2, st.trans a1, b1⟩
theorem vx_calld {S SX : Type} {post : UInt64 → S → Prop} {px : SX → Prop} {B : S → State → Prop} {BX : String → SX → State → Prop} {AX : Nat → Prop} (hr : vx_Run p l e R s m args below meth c H locs cells slots mc ms (F0 m pc ls st0) rest (va_Qd post B A1 a) (vx_X px BX AX) free) (hS : va_S A0 H0 H locs) (hA : ∀ q, q < H.size → A1 q → A0 q) (hf : ∀ q, free q → A0 q) (hAX : ∀ q, q < H.size → AX q → A0 q)
    (kx : ∀ (E : String) (ce : Cell) (q9 : Addr) (u : SX) (t : State) (H1 : Heap) (locs1 : List Loc), t.heap = H1 → s.vm.Alike t.vm → px u → BX E u t → H.size ≤ H1.size → (∀ q : Nat, q < H.size → ¬ AX q → H1[q]? = H[q]?) → va_S A0 H0 H1 locs1 → H1[q9]? = some ce → ce.vm = .none → s.vm.findClass E = some ce.cls → vx_W p l e R s m args below meth c H1 locs1 (cells + mc) (slots + ms) Q (F0 m pc ls rest) q9)
    (kk : ∀ (r : UInt64) (u : S) (t : State) (H1 : Heap) (locs1 : List Loc), t.heap = H1 → s.vm.Alike t.vm → post r u → B u t → H.size ≤ H1.size → (∀ q : Nat, q < H.size → ¬ A1 q → H1[q]? = H[q]?) → va_S A0 H0 H1 locs1 → W p l e R s m args below meth c H1 locs1 (cells + mc) (slots + ms) Q (F0 m (pc + 3) ls (.double r :: rest))) : W p l e R s m args below meth c H locs cells slots Q (F0 m pc ls st0) := by
  intro T hT X
  rcases hr T hT X with ⟨v, st₀, t, T', L, h0, X', hL, e1, e2, ⟨⟨r, u, hv, hp, hb⟩, hF⟩, st⟩ | ⟨q, st₀, t, T', L, E, ce, h0, X', hL, e1, e2, ⟨u, hp, hb, hF⟩, hce, hcv, hcl, st⟩
  · cases hv
    obtain ⟨k1, k2, k3⟩ := vx_keep h0 e1 hS hA hf hL hF
    obtain ⟨t2, a1, b1⟩ := kk r u t T'.heap (locs ++ L) e1.symm (by rw [← e2]; exact X'.warmed.alike) hp hb k1 k2 k3 T' rfl X'
    exact ⟨t2, st t2 a1, b1⟩
  · obtain ⟨k1, k2, k3⟩ := vx_keep h0 e1 hS hAX hf hL hF
    obtain ⟨t2, a1, b1⟩ := kx E ce q u t T'.heap (locs ++ L) e1.symm (by rw [← e2]; exact X'.warmed.alike) hp hb k1 k2 k3 (by rw [e1]; exact hce) hcv hcl T' rfl X'
    exact ⟨t2, st.trans a1, b1⟩
theorem vx_callv {S SX : Type} {post : S → Prop} {px : SX → Prop} {B : S → State → Prop} {BX : String → SX → State → Prop} {AX : Nat → Prop} (hr : vx_Run p l e R s m args below meth c H locs cells slots mc ms (F0 m pc ls st0) rest (va_Qv post B A1 a) (vx_X px BX AX) free) (hS : va_S A0 H0 H locs) (hA : ∀ q, q < H.size → A1 q → A0 q) (hf : ∀ q, free q → A0 q) (hAX : ∀ q, q < H.size → AX q → A0 q)
    (kx : ∀ (E : String) (ce : Cell) (q9 : Addr) (u : SX) (t : State) (H1 : Heap) (locs1 : List Loc), t.heap = H1 → s.vm.Alike t.vm → px u → BX E u t → H.size ≤ H1.size → (∀ q : Nat, q < H.size → ¬ AX q → H1[q]? = H[q]?) → va_S A0 H0 H1 locs1 → H1[q9]? = some ce → ce.vm = .none → s.vm.findClass E = some ce.cls → vx_W p l e R s m args below meth c H1 locs1 (cells + mc) (slots + ms) Q (F0 m pc ls rest) q9)
    (kk : ∀ (u : S) (t : State) (H1 : Heap) (locs1 : List Loc), t.heap = H1 → s.vm.Alike t.vm → post u → B u t → H.size ≤ H1.size → (∀ q : Nat, q < H.size → ¬ A1 q → H1[q]? = H[q]?) → va_S A0 H0 H1 locs1 → W p l e R s m args below meth c H1 locs1 (cells + mc) (slots + ms) Q (F0 m (pc + 3) ls (rest))) : W p l e R s m args below meth c H locs cells slots Q (F0 m pc ls st0) := by
  intro T hT X
  rcases hr T hT X with ⟨v, st₀, t, T', L, h0, X', hL, e1, e2, ⟨⟨u, hv, hp, hb⟩, hF⟩, st⟩ | ⟨q, st₀, t, T', L, E, ce, h0, X', hL, e1, e2, ⟨u, hp, hb, hF⟩, hce, hcv, hcl, st⟩
  · cases hv
    obtain ⟨k1, k2, k3⟩ := vx_keep h0 e1 hS hA hf hL hF
    obtain ⟨t2, a1, b1⟩ := kk u t T'.heap (locs ++ L) e1.symm (by rw [← e2]; exact X'.warmed.alike) hp hb k1 k2 k3 T' rfl X'
    exact ⟨t2, st t2 a1, b1⟩
  · obtain ⟨k1, k2, k3⟩ := vx_keep h0 e1 hS hAX hf hL hF
    obtain ⟨t2, a1, b1⟩ := kx E ce q u t T'.heap (locs ++ L) e1.symm (by rw [← e2]; exact X'.warmed.alike) hp hb k1 k2 k3 (by rw [e1]; exact hce) hcv hcl T' rfl X'
    exact ⟨t2, st.trans a1, b1⟩
end Rows
section Ends
variable {p : Program} {l : Launch} {e : Env} {R : Room} {s : State} {m : MethodId} {args : Array Value} {below : List Frame} {meth : Method} {c : Code} {H : Heap} {locs : List Loc} {cells slots : Nat} {Q : State → Prop}
variable {mc ms : Nat} {free : Addr → Prop} {A0 A1 : Nat → Prop} {H0 : Heap} {a : Array Value} {ls : Array Slot} {st0 rest : List Value}
variable {Qc : Array Value → State → Outcome → State → Prop} {XC : String → State → State → Prop}
/-- what a body that may throw owes at its end -/
def vx_MQ (below : List Frame) (Qc : Array Value → State → Outcome → State → Prop) (XC : String → State → State → Prop) (a : Array Value) (s : State) (mc ms : Nat) (free : Addr → Prop) : State → Prop := fun t =>
  ∃ o, t.status = .running ∧ Ended t below o ∧ vx_Q Qc XC mc ms free a s o t
theorem vx_ret {g : JFrame} {mc ms : Nat} (k : W p l e R s m args below meth c H locs cells slots (MQ below Qc args s mc ms free) g) : W p l e R s m args below meth c H locs cells slots (vx_MQ below Qc XC args s mc ms free) g := by
  intro T hT X
  obtain ⟨t, a1, o, b1, b2, b3, b4⟩ := k T hT X
  exact ⟨t, a1, o, b1, b2, Or.inl ⟨b3, b4⟩⟩
/-- not caught here: it goes on to the caller -/
theorem vx_widen {g : JFrame} {q : Addr} {k n : Nat} (h1 : cells ≤ k) (h2 : slots ≤ n) (kk : vx_W p l e R s m args below meth c H locs k n Q g q) : vx_W p l e R s m args below meth c H locs cells slots Q g q := fun T hT X => kk T hT (stand_widen X h1 h2)
theorem vx_out {pc : Nat} {E : String} {ce : Cell} {q : Addr} {mc ms : Nat} (hout : ∀ x ∈ c.exceptionTable.toList, covers x pc = false) (hlocks : meth.locks = false) (hcell : H[q]? = some ce) (hv : ce.vm = .none) (hcl : s.vm.findClass E = some ce.cls)
    (hx : ∀ t : State, t.heap = H → s.vm.Alike t.vm → XC E s t) (hf : ∀ z ∈ locs, free z.base) (hc : cells ≤ mc) (hs : slots ≤ ms) :
    vx_W p l e R s m args below meth c H locs cells slots (vx_MQ below Qc XC args s mc ms free) (F0 m pc ls rest) q := by
  intro T hT X
  obtain ⟨st1, hrun, hend, hW, hsm⟩ := X.leaveThrown q (g := F0 m pc ls rest) rfl rfl rfl hout hlocks
  have hcell9 : (T.setFrames (.throwing q :: below)).heap[q]? = some ce := by
    show T.heap[q]? = some ce
    rw [hT]; exact hcell
  exact ⟨_, st1, .threw q, hrun, hend, Or.inr ⟨q, rfl, E, ce, locs, hx _ hT hW.alike, hcell9, hv, hcl, hW, hsm.mono hc hs, hf⟩⟩
theorem vx_frame {U : State} {k n : Nat} (h : s.sameButNew ({ U with vm := s.vm } : State) locs k n) : s.heap.size ≤ U.heap.size ∧ ∀ q : Nat, q < s.heap.size → (∀ z ∈ locs, z.base ≠ q) → U.heap[q]? = s.heap[q]? := by
  obtain ⟨-, h2, -, -, -, h6⟩ := h
  refine ⟨h2, fun q hq hz => ?_⟩
  obtain ⟨c9, e1, e2, e3, e4⟩ := h6 q _ (Array.getElem?_eq_getElem hq)
  have hs : c9.slots = (s.heap[q]).slots := Array.ext_getElem? fun i => e4 i fun hm => hz _ hm rfl
  have h9 : c9 = s.heap[q] := by
    rw [hs] at e2
    exact e2
  have e5 : U.heap[q]? = some c9 := e1
  rw [e5, h9, Array.getElem?_eq_getElem hq]
/-- the words of a throw but the four that speak of the heap -/
def vx_no (w : Cond) : Bool := decide (w ≠ .isRef (.static Jvm.Bundle.tN "UNASSIGNED_STACK" Jvm.Bundle.steD)) && decide (w ≠ .isRef (.static Jvm.Bundle.tN "SUPPRESSED_SENTINEL" Jvm.Bundle.listD)) && decide (w ≠ .laysStatic Jvm.Bundle.tN "UNASSIGNED_STACK" Jvm.Bundle.steD) && decide (w ≠ .laysStatic Jvm.Bundle.tN "SUPPRESSED_SENTINEL" Jvm.Bundle.listD)
def vx_at0 (own : String) (ic : Nat) (X : String) (names : List String) : List Cond := (Jvm.Bundle.ownAtoms0 own ic X names).filter vx_no
def vx_atS (own : String) (ic : Nat) (X : String) (names : List String) : List Cond := (Jvm.Bundle.ownAtoms own ic X names).filter vx_no
/-- a word that the tables alone decide, or a good one -/
def vx_ot (w : Cond) : Bool := w.onTables || goodWord w
theorem vx_ot_at {args a' : Array Value} {s U : State} {w : Cond} (hW : s.WarmedH U.vm) (hvm : s.vm = U.vm) (hg : vx_ot w = true) (h : w.before args s = true) : w.before a' U = true := by
  simp only [vx_ot, Bool.or_eq_true] at hg
  rcases hg with hg | hg
  · exact va_tabs hg hvm h
  · exact word_at hW (good_of_word hg) h
/-- a list's words: the good ones out of the method's own list, the others by premises of their own -/
theorem vx_hat {args : Array Value} {s : State} {L B : List Cond} (h1 : ∀ w ∈ L.filter goodWord, w.before args s = true) (h2 : ∀ w ∈ L.filter (fun w => !goodWord w), w ∈ B) (h3 : ∀ w ∈ B, w.before args s = true) : ∀ w ∈ L, w.before args s = true := by
  intro w hw
  by_cases g : goodWord w = true
  · exact h1 w (List.mem_filter.mpr ⟨hw, g⟩)
  · refine h3 w (h2 w (List.mem_filter.mpr ⟨hw, ?_⟩))
    show (!goodWord w) = true
    cases hgw : goodWord w
    · rfl
    · exact absurd hgw g
theorem vx_c {args : Array Value} {s : State} {w : Cond} {B : List Cond} (h : w.before args s = true) (t : ∀ w ∈ B, w.before args s = true) : ∀ w' ∈ w :: B, w'.before args s = true := fun w' h' => (List.mem_cons.mp h').elim (fun e => by rw [e]; exact h) (t w')
theorem vx_n {args : Array Value} {s : State} : ∀ w ∈ ([] : List Cond), w.before args s = true := fun _ h => nomatch h
theorem vx_own {args : Array Value} {s : State} {L : List Cond} (h1 : ∀ w ∈ L.filter vx_no, w.before args s = true)
    (hU : (Cond.isRef (.static Jvm.Bundle.tN "UNASSIGNED_STACK" Jvm.Bundle.steD)).before args s = true) (hN : (Cond.isRef (.static Jvm.Bundle.tN "SUPPRESSED_SENTINEL" Jvm.Bundle.listD)).before args s = true)
    (lU : (Cond.laysStatic Jvm.Bundle.tN "UNASSIGNED_STACK" Jvm.Bundle.steD).before args s = true) (lN : (Cond.laysStatic Jvm.Bundle.tN "SUPPRESSED_SENTINEL" Jvm.Bundle.listD).before args s = true) : ∀ w ∈ L, w.before args s = true := by
  intro w hw
  by_cases e1 : w = .isRef (.static Jvm.Bundle.tN "UNASSIGNED_STACK" Jvm.Bundle.steD)
  · rw [e1]; exact hU
  · by_cases e2 : w = .isRef (.static Jvm.Bundle.tN "SUPPRESSED_SENTINEL" Jvm.Bundle.listD)
    · rw [e2]; exact hN
    · by_cases e3 : w = .laysStatic Jvm.Bundle.tN "UNASSIGNED_STACK" Jvm.Bundle.steD
      · rw [e3]; exact lU
      · by_cases e4 : w = .laysStatic Jvm.Bundle.tN "SUPPRESSED_SENTINEL" Jvm.Bundle.listD
        · rw [e4]; exact lN
        · exact h1 w (List.mem_filter.mpr ⟨hw, by unfold vx_no; rw [decide_eq_true e1, decide_eq_true e2, decide_eq_true e3, decide_eq_true e4]; rfl⟩)
/-- where a static field lies, its class's statics cell in H -/
def vx_L (C n d : String) (A : Nat → Prop) (U : State) (H : Heap) : Prop := ∃ (c : ClassId) (k : Class) (i : Nat) (f : Field) (a : Nat) (cell : Cell), U.vm.findClass C = some c ∧ U.fieldFound? C n d = some (c, k, i, f) ∧ f.isStatic = true ∧ k.statics = some a ∧ H[a]? = some cell ∧ cell.vm.isStatics = true ∧ cell.cls = c ∧ f.slot < cell.slots.size ∧ k.staticTypes[f.slot]? = some f.type ∧ ¬ A a
theorem vx_L.moved {C n d : String} {A : Nat → Prop} {u U : State} {H : Heap} (hvm : u.vm.Alike U.vm) (h : vx_L C n d A u H) : vx_L C n d A U H := by
  obtain ⟨c, k, i, f, a, cell, h1, h2, h3, h4, h5, h6, h7, h8, h9, h10⟩ := h
  obtain ⟨k', hi', he⟩ := State.fieldFound?_setVm hvm h2
  exact ⟨c, k', i, f, a, cell, by rw [hvm.findClass]; exact h1, hi', h3, by rw [he]; exact h4, h5, h6, h7, h8, by rw [he]; exact h9, h10⟩
theorem vx_L.kept {C n d : String} {A : Nat → Prop} {U : State} {H H1 : Heap} (h : vx_L C n d A U H) (hq : ∀ a : Nat, a < H.size → ¬ A a → H1[a]? = H[a]?) : vx_L C n d A U H1 := by
  obtain ⟨c, k, i, f, a, cell, h1, h2, h3, h4, h5, h6, h7, h8, h9, h10⟩ := h
  exact ⟨c, k, i, f, a, cell, h1, h2, h3, h4, by rw [hq a (Array.getElem?_eq_some_iff.mp h5).1 h10]; exact h5, h6, h7, h8, h9, h10⟩
theorem vx_L.narrow {C n d : String} {A B : Nat → Prop} {U : State} {H : Heap} (h : vx_L C n d A U H) (hAB : ∀ q, B q → A q) : vx_L C n d B U H := by
  obtain ⟨c, k, i, f, a, cell, h1, h2, h3, h4, h5, h6, h7, h8, h9, h10⟩ := h
  exact ⟨c, k, i, f, a, cell, h1, h2, h3, h4, h5, h6, h7, h8, h9, fun z => h10 (hAB _ z)⟩
theorem vx_L.word {C n d : String} {A : Nat → Prop} {s : State} {args : Array Value} (h : vx_L C n d A s s.heap) : (Cond.laysStatic C n d).before args s = true := by
  obtain ⟨c, k, i, f, a, cell, h1, h2, h3, h4, h5, h6, h7, h8, h9, -⟩ := h
  show (Cond.laysStatic C n d).holds args s none s [] = true
  exact Cond.laysStatic_of h1 h2 h3 h4 h5 h6 h7 h8 h9
/-- .. and what it holds: null or some reference -/
def vx_Zq (C n d : String) (A : Nat → Prop) (U : State) (H : Heap) : Prop := va_Zq C n d A U H ∧ vx_L C n d A U H
theorem vx_Zq.moved {C n d : String} {A : Nat → Prop} {u U : State} {H : Heap} (hvm : u.vm.Alike U.vm) (h : vx_Zq C n d A u H) : vx_Zq C n d A U H := ⟨va_Zq.moved hvm h.1, vx_L.moved hvm h.2⟩
theorem vx_Zq.kept {C n d : String} {A : Nat → Prop} {U : State} {H H1 : Heap} (h : vx_Zq C n d A U H) (hq : ∀ a : Nat, a < H.size → ¬ A a → H1[a]? = H[a]?) : vx_Zq C n d A U H1 := ⟨va_Zq.kept h.1 hq, vx_L.kept h.2 hq⟩
theorem vx_Zq.narrow {C n d : String} {A B : Nat → Prop} {U : State} {H : Heap} (h : vx_Zq C n d A U H) (hAB : ∀ q, B q → A q) : vx_Zq C n d B U H := ⟨va_Zq.narrow h.1 hAB, vx_L.narrow h.2 hAB⟩
theorem vx_Zqof {args : Array Value} {s : State} {C n d : String} {A : Nat → Prop} (hl : (Cond.laysStatic C n d).before args s = true) (hini : (Cond.initialized C).before args s = true) (h : (Cond.isRef (.static C n d)).before args s = true) (hA : ∀ a : Nat, a < s.heap.size → ¬ A a) : vx_Zq C n d A s s.heap := by
  refine ⟨va_Zqof hl hini h hA, ?_⟩
  obtain ⟨c, k, i, f, a, cell, h1, h2, h3, h4, h5, h6, h7, h8, h9⟩ := Cond.laysStatic_spec hl
  exact ⟨c, k, i, f, a, cell, h1, h2, h3, h4, h5, h6, h7, h8, h9, hA a (Array.getElem?_eq_some_iff.mp h5).1⟩
theorem vx_isRef {C n d : String} {v : Value} {A : Nat → Prop} {s : State} {args : Array Value} (h : va_Z C n d v A s s.heap) (hv : v.isRef = true) : (Cond.isRef (.static C n d)).before args s = true := by
  obtain ⟨cf, kf, fi, f, a, cell, h1, h2, h3, h4, h5, h6, h7, -⟩ := h
  have he : (Term.static C n d).eval args s none [] s = some v := by
    simp [Term.eval, State.fieldNamed?, h1, h2, h4, h5, h6, h7]
  simp only [Cond.before, Cond.holds, Cond.value, he]
  cases v <;> simp_all [Value.isRef]
theorem vx_isRefq {C n d : String} {A : Nat → Prop} {s : State} {args : Array Value} (h : va_Zq C n d A s s.heap) : (Cond.isRef (.static C n d)).before args s = true := by
  rcases h with h | ⟨t, h⟩
  · exact vx_isRef h rfl
  · exact vx_isRef h rfl
/-- the same frame, seen from here: as if the method were called anew in this heap -/
theorem vx_rebase {T : State} (X : Stand p l e R s m args below meth c T locs cells slots) {R' : Room} (hf : R'.frames ≤ R.frames) (hl : R'.locals ≤ R.locals) (hc : cells + R'.cells ≤ R.cells) (hs : slots + R'.slots ≤ R.slots) :
    Stand p l e R' ((T.setVm s.vm).setFrames (.invoking m args :: below)) m args below meth c T [] 0 0 := by
  have htop : (T.setVm s.vm).topJava?.isSome := X.here.top
  have hF : ((T.setVm s.vm).setFrames (.invoking m args :: below)).frames = .invoking m args :: below := State.frames_setFrames _ (State.cur_lt_of_top htop)
  obtain ⟨g₀, hg0⟩ := Option.isSome_iff_exists.mp htop
  obtain ⟨r, hr⟩ := State.topJava?_eq_some.mp hg0
  have hl9 : e.platform.stackLimits (T.setVm s.vm).me = e.platform.stackLimits s.me := X.limits
  have hb9 : (T.setVm s.vm).me.stackBytes = s.me.stackBytes := X.bytes
  refine ⟨X.admits, X.cas, X.clock, hF, ?_, X.hears, X.method, X.code, X.here, X.tail, X.warmed, ?_, ?_, ?_⟩
  · have h := X.room
    have hU : ((T.setVm s.vm).setFrames (.invoking m args :: below)).localsInUse = s.localsInUse := by
      rw [State.localsInUse_invoking hF (meth := meth) (c := c) X.method X.code, State.localsInUse_invoking X.frames X.method X.code]
    simp only [State.hasRoom, Bool.and_eq_true, decide_eq_true_eq] at h ⊢
    obtain ⟨⟨⟨⟨h1, h2, h3, h4, h5, h6⟩, h7⟩, h8⟩, h9⟩ := h
    rw [X.frames, List.length_cons] at h2 h3
    have q1 := X.heapSize
    have q2 := X.used
    simp only [hF, hU, List.length_cons, State.stackLimits_setFrames, State.stackBytes_setFrames, hl9, hb9]
    refine ⟨⟨⟨⟨by omega, by omega, by omega, by omega, by omega, h6⟩, ?_⟩, ?_⟩, X.book⟩
    · show T.heap.size + R'.cells ≤ e.platform.maxCells
      omega
    · show T.slotsUsed + R'.slots ≤ e.platform.maxSlots
      omega
  · rw [State.stackLimits_setFrames]; rfl
  · rw [State.stackBytes_setFrames]; rfl
  · refine ⟨?_, Nat.le_refl _, Nat.le_refl _, ?_, ?_, fun a c9 h9 => ⟨c9, h9, rfl, rfl, fun _ _ => rfl⟩⟩
    · obtain ⟨t, ht, -⟩ := State.frames_cons hr
      show T.setVm s.vm = { ((T.setVm s.vm).setFrames (.invoking m args :: below)).setFrames (T.setVm s.vm).frames with heap := T.heap, slotsUsed := T.slotsUsed }
      rw [State.setFrames_setFrames, State.setFrames_self ht]
      rfl
    · show T.slotsUsed = T.slotsUsed + ((T.heap.toList.drop T.heap.size).map (·.slots.size)).sum
      rw [List.drop_eq_nil_of_le (Nat.le_of_eq Array.length_toList)]
      rfl
    · show ((T.heap.toList.drop T.heap.size).map (·.slots.size)).sum ≤ 0
      rw [List.drop_eq_nil_of_le (Nat.le_of_eq Array.length_toList)]
      exact Nat.le_refl _
/-- 'throw new E()': new; dup; invokespecial; athrow -/
theorem vx_throw0 {cc : ByteArray} {pc : Nat} (hexec : p.tables.exec = Jvm.exec) (hb : c.code = cc) (hl : l.stackTraces = false) {own cls : String} {names : List String} {ik ic mc ms : Nat} {A : Nat → Prop}
    (hown : s.vm.findClass own = some m.cls) (hcls : Jvm.Bundle.fit cls = true) (hnames : ∀ n ∈ names, Jvm.Bundle.fit n = true)
    (hk : (Cond.classLink own ik cls).before args s = true) (hini : (Cond.initialized cls).before args s = true) (hat : ∀ w ∈ vx_at0 own ic cls names, w.before args s = true)
    (hgood : ∀ w ∈ Cond.classLink own ik cls :: Cond.initialized cls :: vx_at0 own ic cls names, vx_ot w = true)
    (hU : vx_Zq Jvm.Bundle.tN "UNASSIGNED_STACK" Jvm.Bundle.steD A s s.heap) (hN : vx_Zq Jvm.Bundle.tN "SUPPRESSED_SENTINEL" Jvm.Bundle.listD A s s.heap) (hS : va_S A s.heap H locs) (hsize : ls.size = c.maxLocals)
    (d0 : decode cc pc = .ok (.new ik, 3)) (d3 : decode cc (pc + 3) = .ok (.dup, 1)) (d4 : decode cc (pc + 4) = .ok (.invokespecial ic, 3)) (d7 : decode cc (pc + 7) = .ok (.athrow, 1))
    (hout : ∀ x ∈ c.exceptionTable.toList, covers x (pc + 7) = false)
    (hRframes : names.length + 3 < R.frames) (hRlocals : (rest.map fun v => v.category).sum + (13 * (names.length + 1) + 42) ≤ R.locals) (hRcells : cells + 1 ≤ R.cells) (hRslots : slots + 6 ≤ R.slots) (hlocks : meth.locks = false)
    (hx : ∀ t : State, s.vm.Alike t.vm → H.size ≤ t.heap.size → (∀ q : Nat, q < H.size → t.heap[q]? = H[q]?) → XC cls s t)
    (hf : ∀ z ∈ locs, free z.base) (hc : cells + 1 ≤ mc) (hs : slots + 6 ≤ ms) :
    W p l e R s m args below meth c H locs cells slots (vx_MQ below Qc XC args s mc ms free) (F0 m pc ls rest) := by
  intro T hT X
  have htr : e.platform.stackTraces = false := (show e.platform.stackTraces = l.stackTraces by rw [X.admits.platform]).trans hl
  have Y := vx_rebase X (R' := { frames := R.frames, locals := R.locals, cells := 1, slots := 6 }) (Nat.le_refl _) (Nat.le_refl _) hRcells hRslots
  obtain ⟨s', hA⟩ : ∃ z, z = (T.setVm s.vm).setFrames (.invoking m args :: below) := ⟨_, rfl⟩
  rw [← hA] at Y
  have hvm : s'.vm = s.vm := by rw [hA]; rfl
  have hhp : s'.heap = H := by rw [hA]; exact hT
  have hW0 : s.WarmedH s'.vm := by rw [hvm]; exact State.WarmedH.refl s
  have hat' : ∀ w ∈ vx_at0 own ic cls names, w.before args s' = true := fun w hw => vx_ot_at hW0 hvm.symm (hgood w (List.mem_cons_of_mem _ (List.mem_cons_of_mem _ hw))) (hat w hw)
  have hk' : (Cond.classLink own ik cls).before args s' = true := vx_ot_at hW0 hvm.symm (hgood _ List.mem_cons_self) hk
  have hini' : (Cond.initialized cls).before args s' = true := vx_ot_at hW0 hvm.symm (hgood _ (List.mem_cons_of_mem _ List.mem_cons_self)) hini
  have hU' : vx_Zq Jvm.Bundle.tN "UNASSIGNED_STACK" Jvm.Bundle.steD A s' s'.heap := by rw [hhp]; exact vx_Zq.moved hW0.alike (hU.kept hS.2.1)
  have hN' : vx_Zq Jvm.Bundle.tN "SUPPRESSED_SENTINEL" Jvm.Bundle.listD A s' s'.heap := by rw [hhp]; exact vx_Zq.moved hW0.alike (hN.kept hS.2.1)
  have h : ∀ w ∈ Jvm.Bundle.ownAtoms0 own ic cls names, w.before args s' = true := vx_own hat' (vx_isRefq hU'.1) (vx_isRefq hN'.1) hU'.2.word hN'.2.word
  have hown' : s'.vm.findClass own = some m.cls := by rw [hvm]; exact hown
  have hins : (Cond.instantiable cls 6).before args s' = true := h _ (by simp [Jvm.Bundle.ownAtoms0])
  obtain ⟨vm₁, cX, kX, hfX, hkX, -, -, X₁, st1⟩ := Y.newCold hexec (own := own) (C := cls) (index := ik) (n := 6) hown' hk' hins hini'
    (g := F0 m pc ls rest) rfl (by rw [hb]; exact d0) (Nat.le_refl _) (Nat.le_refl _)
  generalize hT1 : (T.setVm vm₁).pushCell { cls := cX, slots := kX.instanceTypes.map defaultValue, vm := .none } = T1 at X₁ st1
  have hcat : (Value.ref T.heap.size).category = 1 := rfl
  have hcellA : T1.heap[T.heap.size]? = some (freshCell cX kX) := by rw [← hT1]; exact State.heap_pushCell_size _ _
  have d3' : decode c.code (pc + 3) = .ok (.dup, 1) := by rw [hb]; exact d3
  obtain ⟨U, hsteps, hrun, hend, hW, hsame, ce, hce, hO⟩ := X₁.ctorThrow0 hexec htr (own := own) (cls := cls) (names := names) (ic := ic) hown' hcls hnames h (fun x hx => nomatch hx) hfX hkX hcellA (by rw [hhp, hT]; exact Nat.le_refl _)
    (g := { method := m, pc := pc + 4, locals := ls, stack := .ref T.heap.size :: .ref T.heap.size :: rest, locked := none }) rfl hsize rfl rfl (rest := rest) rfl
    (by rw [hb]; exact d4) (by rw [hb]; exact d7) hout hRframes (by simp only [List.map_cons, List.sum_cons, hcat]; omega) hlocks
  obtain ⟨f1, f2⟩ := vx_frame hsame
  rw [hhp] at f1 f2
  have hWs : s.WarmedH U.vm := State.WarmedH.trans hW0 hW
  have hcl : s.vm.findClass cls = some ce.cls := by
    have h9 := hO.cls
    rw [hvm] at h9
    exact h9
  have hall : s.sameButNew ({ U with vm := s.vm } : State) locs mc ms := by
    subst hA
    obtain ⟨e1, e2⟩ := hsame
    rw [State.setFrames_setFrames] at e1
    have h2 : (T.setVm s.vm).sameButNew ({ U with vm := s.vm } : State) [] (0 + 1) (0 + 6) := ⟨e1, e2⟩
    have h3 := X.same.trans h2
    rw [List.append_nil] at h3
    exact h3.mono hc hs
  refine ⟨U, ?_, .threw T.heap.size, hrun, hend, Or.inr ⟨T.heap.size, rfl, cls, ce, locs, hx U hWs.alike f1 (fun q hq => f2 q hq (fun z hz => nomatch hz)), hce, hO.vm, hcl, hWs, hall, hf⟩⟩
  refine st1 _ ?_
  show Steps p.tables e below (T1.setTop { method := m, pc := pc + 3, locals := ls, stack := .ref T.heap.size :: rest, locked := none }) _
  jvm_step X₁.here [X₁.here.top, hexec, d3', Value.category]
  exact hsteps
/-- 'throw new E("text")': new; dup; ldc; invokespecial; athrow -/
theorem vx_throwS {cc : ByteArray} {pc : Nat} (hexec : p.tables.exec = Jvm.exec) (hb : c.code = cc) (hl : l.stackTraces = false) {own cls text : String} {names : List String} {ik is ic mc ms sa : Nat} {A : Nat → Prop}
    (hown : s.vm.findClass own = some m.cls) (hcls : Jvm.Bundle.fit cls = true) (hnames : ∀ n ∈ names, Jvm.Bundle.fit n = true)
    (hk : (Cond.classLink own ik cls).before args s = true) (hini : (Cond.initialized cls).before args s = true) (hstr : vk_R own is text sa s) (hat : ∀ w ∈ vx_atS own ic cls names, w.before args s = true)
    (hgood : ∀ w ∈ Cond.classLink own ik cls :: Cond.initialized cls :: vx_atS own ic cls names, vx_ot w = true)
    (hU : vx_Zq Jvm.Bundle.tN "UNASSIGNED_STACK" Jvm.Bundle.steD A s s.heap) (hN : vx_Zq Jvm.Bundle.tN "SUPPRESSED_SENTINEL" Jvm.Bundle.listD A s s.heap) (hS : va_S A s.heap H locs) (hsize : ls.size = c.maxLocals)
    (d0 : decode cc pc = .ok (.new ik, 3)) (d3 : decode cc (pc + 3) = .ok (.dup, 1)) (d4 : decode cc (pc + 4) = .ok (.ldc is, 2)) (d6 : decode cc (pc + 6) = .ok (.invokespecial ic, 3)) (d9 : decode cc (pc + 9) = .ok (.athrow, 1))
    (hout : ∀ x ∈ c.exceptionTable.toList, covers x (pc + 9) = false)
    (hRframes : names.length + 3 < R.frames) (hRlocals : (rest.map fun v => v.category).sum + (13 * (names.length + 1) + 43) ≤ R.locals) (hRcells : cells + 1 ≤ R.cells) (hRslots : slots + 6 ≤ R.slots) (hlocks : meth.locks = false)
    (hx : ∀ t : State, s.vm.Alike t.vm → H.size ≤ t.heap.size → (∀ q : Nat, q < H.size → t.heap[q]? = H[q]?) → XC cls s t)
    (hf : ∀ z ∈ locs, free z.base) (hc : cells + 1 ≤ mc) (hs : slots + 6 ≤ ms) :
    W p l e R s m args below meth c H locs cells slots (vx_MQ below Qc XC args s mc ms free) (F0 m pc ls rest) := by
  intro T hT X
  have htr : e.platform.stackTraces = false := (show e.platform.stackTraces = l.stackTraces by rw [X.admits.platform]).trans hl
  have Y := vx_rebase X (R' := { frames := R.frames, locals := R.locals, cells := 1, slots := 6 }) (Nat.le_refl _) (Nat.le_refl _) hRcells hRslots
  obtain ⟨s', hA⟩ : ∃ z, z = (T.setVm s.vm).setFrames (.invoking m args :: below) := ⟨_, rfl⟩
  rw [← hA] at Y
  have hvm : s'.vm = s.vm := by rw [hA]; rfl
  have hhp : s'.heap = H := by rw [hA]; exact hT
  have hW0 : s.WarmedH s'.vm := by rw [hvm]; exact State.WarmedH.refl s
  have hat' : ∀ w ∈ vx_atS own ic cls names, w.before args s' = true := fun w hw => vx_ot_at hW0 hvm.symm (hgood w (List.mem_cons_of_mem _ (List.mem_cons_of_mem _ hw))) (hat w hw)
  have hk' : (Cond.classLink own ik cls).before args s' = true := vx_ot_at hW0 hvm.symm (hgood _ List.mem_cons_self) hk
  have hini' : (Cond.initialized cls).before args s' = true := vx_ot_at hW0 hvm.symm (hgood _ (List.mem_cons_of_mem _ List.mem_cons_self)) hini
  have hU' : vx_Zq Jvm.Bundle.tN "UNASSIGNED_STACK" Jvm.Bundle.steD A s' s'.heap := by rw [hhp]; exact vx_Zq.moved hW0.alike (hU.kept hS.2.1)
  have hN' : vx_Zq Jvm.Bundle.tN "SUPPRESSED_SENTINEL" Jvm.Bundle.listD A s' s'.heap := by rw [hhp]; exact vx_Zq.moved hW0.alike (hN.kept hS.2.1)
  have h : ∀ w ∈ Jvm.Bundle.ownAtoms own ic cls names, w.before args s' = true := vx_own hat' (vx_isRefq hU'.1) (vx_isRefq hN'.1) hU'.2.word hN'.2.word
  have hown' : s'.vm.findClass own = some m.cls := by rw [hvm]; exact hown
  have hins : (Cond.instantiable cls 6).before args s' = true := h _ (by simp [Jvm.Bundle.ownAtoms])
  obtain ⟨vm₁, cX, kX, hfX, hkX, -, -, X₁, st1⟩ := Y.newCold hexec (own := own) (C := cls) (index := ik) (n := 6) hown' hk' hins hini'
    (g := F0 m pc ls rest) rfl (by rw [hb]; exact d0) (Nat.le_refl _) (Nat.le_refl _)
  generalize hT1 : (T.setVm vm₁).pushCell { cls := cX, slots := kX.instanceTypes.map defaultValue, vm := .none } = T1 at X₁ st1
  have hcat : (Value.ref T.heap.size).category = 1 := rfl
  have hcellA : T1.heap[T.heap.size]? = some (freshCell cX kX) := by rw [← hT1]; exact State.heap_pushCell_size _ _
  have d3' : decode c.code (pc + 3) = .ok (.dup, 1) := by rw [hb]; exact d3
  have d4' : decode c.code (pc + 4) = .ok (.ldc is, 2) := by rw [hb]; exact d4
  have hstr' : vk_R own is text sa s' := vk_R.warm hW0 hstr
  obtain ⟨U, hsteps, hrun, hend, hW, hsame, ce, hce, hO⟩ := X₁.ctorThrowS hexec htr (own := own) (cls := cls) (names := names) (ic := ic) hown' hcls hnames h (fun x hx => nomatch hx) hfX hkX hcellA (by rw [hhp, hT]; exact Nat.le_refl _) (msg := .ref sa) rfl
    (g := { method := m, pc := pc + 6, locals := ls, stack := .ref sa :: .ref T.heap.size :: .ref T.heap.size :: rest, locked := none }) rfl hsize rfl rfl (rest := rest) rfl
    (by rw [hb]; exact d6) (by rw [hb]; exact d9) hout hRframes (by simp only [List.map_cons, List.sum_cons, hcat]; omega) hlocks
  obtain ⟨f1, f2⟩ := vx_frame hsame
  rw [hhp] at f1 f2
  have hWs : s.WarmedH U.vm := State.WarmedH.trans hW0 hW
  have hcl : s.vm.findClass cls = some ce.cls := by
    have h9 := hO.cls
    rw [hvm] at h9
    exact h9
  have hall : s.sameButNew ({ U with vm := s.vm } : State) locs mc ms := by
    subst hA
    obtain ⟨e1, e2⟩ := hsame
    rw [State.setFrames_setFrames] at e1
    have h2 : (T.setVm s.vm).sameButNew ({ U with vm := s.vm } : State) [] (0 + 1) (0 + 6) := ⟨e1, e2⟩
    have h3 := X.same.trans h2
    rw [List.append_nil] at h3
    exact h3.mono hc hs
  refine ⟨U, ?_, .threw T.heap.size, hrun, hend, Or.inr ⟨T.heap.size, rfl, cls, ce, locs, hx U hWs.alike f1 (fun q hq => f2 q hq (fun z hz => nomatch hz)), hce, hO.vm, hcl, hWs, hall, hf⟩⟩
  refine st1 _ ?_
  show Steps p.tables e below (T1.setTop { method := m, pc := pc + 3, locals := ls, stack := .ref T.heap.size :: rest, locked := none }) _
  jvm_step X₁.here [X₁.here.top, hexec, d3', Value.category]
  exact X₁.ldcString hexec (own := own) (text := text) (index := is) (a := sa) hown' hstr'.1 hstr'.2
    (g := { method := m, pc := pc + 4, locals := ls, stack := .ref T.heap.size :: .ref T.heap.size :: rest, locked := none }) rfl d4' _ hsteps
/-- 'throw new E("text")', the text by a wide index -/
theorem vx_throwSW {cc : ByteArray} {pc : Nat} (hexec : p.tables.exec = Jvm.exec) (hb : c.code = cc) (hl : l.stackTraces = false) {own cls text : String} {names : List String} {ik is ic mc ms sa : Nat} {A : Nat → Prop}
    (hown : s.vm.findClass own = some m.cls) (hcls : Jvm.Bundle.fit cls = true) (hnames : ∀ n ∈ names, Jvm.Bundle.fit n = true)
    (hk : (Cond.classLink own ik cls).before args s = true) (hini : (Cond.initialized cls).before args s = true) (hstr : vk_R own is text sa s) (hat : ∀ w ∈ vx_atS own ic cls names, w.before args s = true)
    (hgood : ∀ w ∈ Cond.classLink own ik cls :: Cond.initialized cls :: vx_atS own ic cls names, vx_ot w = true)
    (hU : vx_Zq Jvm.Bundle.tN "UNASSIGNED_STACK" Jvm.Bundle.steD A s s.heap) (hN : vx_Zq Jvm.Bundle.tN "SUPPRESSED_SENTINEL" Jvm.Bundle.listD A s s.heap) (hS : va_S A s.heap H locs) (hsize : ls.size = c.maxLocals)
    (d0 : decode cc pc = .ok (.new ik, 3)) (d3 : decode cc (pc + 3) = .ok (.dup, 1)) (d4 : decode cc (pc + 4) = .ok (.ldc_w is, 3)) (d7 : decode cc (pc + 7) = .ok (.invokespecial ic, 3)) (d10 : decode cc (pc + 10) = .ok (.athrow, 1))
    (hout : ∀ x ∈ c.exceptionTable.toList, covers x (pc + 10) = false)
    (hRframes : names.length + 3 < R.frames) (hRlocals : (rest.map fun v => v.category).sum + (13 * (names.length + 1) + 43) ≤ R.locals) (hRcells : cells + 1 ≤ R.cells) (hRslots : slots + 6 ≤ R.slots) (hlocks : meth.locks = false)
    (hx : ∀ t : State, s.vm.Alike t.vm → H.size ≤ t.heap.size → (∀ q : Nat, q < H.size → t.heap[q]? = H[q]?) → XC cls s t)
    (hf : ∀ z ∈ locs, free z.base) (hc : cells + 1 ≤ mc) (hs : slots + 6 ≤ ms) :
    W p l e R s m args below meth c H locs cells slots (vx_MQ below Qc XC args s mc ms free) (F0 m pc ls rest) := by
  intro T hT X
  have htr : e.platform.stackTraces = false := (show e.platform.stackTraces = l.stackTraces by rw [X.admits.platform]).trans hl
  have Y := vx_rebase X (R' := { frames := R.frames, locals := R.locals, cells := 1, slots := 6 }) (Nat.le_refl _) (Nat.le_refl _) hRcells hRslots
  obtain ⟨s', hA⟩ : ∃ z, z = (T.setVm s.vm).setFrames (.invoking m args :: below) := ⟨_, rfl⟩
  rw [← hA] at Y
  have hvm : s'.vm = s.vm := by rw [hA]; rfl
  have hhp : s'.heap = H := by rw [hA]; exact hT
  have hW0 : s.WarmedH s'.vm := by rw [hvm]; exact State.WarmedH.refl s
  have hat' : ∀ w ∈ vx_atS own ic cls names, w.before args s' = true := fun w hw => vx_ot_at hW0 hvm.symm (hgood w (List.mem_cons_of_mem _ (List.mem_cons_of_mem _ hw))) (hat w hw)
  have hk' : (Cond.classLink own ik cls).before args s' = true := vx_ot_at hW0 hvm.symm (hgood _ List.mem_cons_self) hk
  have hini' : (Cond.initialized cls).before args s' = true := vx_ot_at hW0 hvm.symm (hgood _ (List.mem_cons_of_mem _ List.mem_cons_self)) hini
  have hU' : vx_Zq Jvm.Bundle.tN "UNASSIGNED_STACK" Jvm.Bundle.steD A s' s'.heap := by rw [hhp]; exact vx_Zq.moved hW0.alike (hU.kept hS.2.1)
  have hN' : vx_Zq Jvm.Bundle.tN "SUPPRESSED_SENTINEL" Jvm.Bundle.listD A s' s'.heap := by rw [hhp]; exact vx_Zq.moved hW0.alike (hN.kept hS.2.1)
  have h : ∀ w ∈ Jvm.Bundle.ownAtoms own ic cls names, w.before args s' = true := vx_own hat' (vx_isRefq hU'.1) (vx_isRefq hN'.1) hU'.2.word hN'.2.word
  have hown' : s'.vm.findClass own = some m.cls := by rw [hvm]; exact hown
  have hins : (Cond.instantiable cls 6).before args s' = true := h _ (by simp [Jvm.Bundle.ownAtoms])
  obtain ⟨vm₁, cX, kX, hfX, hkX, -, -, X₁, st1⟩ := Y.newCold hexec (own := own) (C := cls) (index := ik) (n := 6) hown' hk' hins hini'
    (g := F0 m pc ls rest) rfl (by rw [hb]; exact d0) (Nat.le_refl _) (Nat.le_refl _)
  generalize hT1 : (T.setVm vm₁).pushCell { cls := cX, slots := kX.instanceTypes.map defaultValue, vm := .none } = T1 at X₁ st1
  have hcat : (Value.ref T.heap.size).category = 1 := rfl
  have hcellA : T1.heap[T.heap.size]? = some (freshCell cX kX) := by rw [← hT1]; exact State.heap_pushCell_size _ _
  have d3' : decode c.code (pc + 3) = .ok (.dup, 1) := by rw [hb]; exact d3
  have d4' : decode c.code (pc + 4) = .ok (.ldc_w is, 3) := by rw [hb]; exact d4
  have hstr' : vk_R own is text sa s' := vk_R.warm hW0 hstr
  obtain ⟨U, hsteps, hrun, hend, hW, hsame, ce, hce, hO⟩ := X₁.ctorThrowS hexec htr (own := own) (cls := cls) (names := names) (ic := ic) hown' hcls hnames h (fun x hx => nomatch hx) hfX hkX hcellA (by rw [hhp, hT]; exact Nat.le_refl _) (msg := .ref sa) rfl
    (g := { method := m, pc := pc + 7, locals := ls, stack := .ref sa :: .ref T.heap.size :: .ref T.heap.size :: rest, locked := none }) rfl hsize rfl rfl (rest := rest) rfl
    (by rw [hb]; exact d7) (by rw [hb]; exact d10) hout hRframes (by simp only [List.map_cons, List.sum_cons, hcat]; omega) hlocks
  obtain ⟨f1, f2⟩ := vx_frame hsame
  rw [hhp] at f1 f2
  have hWs : s.WarmedH U.vm := State.WarmedH.trans hW0 hW
  have hcl : s.vm.findClass cls = some ce.cls := by
    have h9 := hO.cls
    rw [hvm] at h9
    exact h9
  have hall : s.sameButNew ({ U with vm := s.vm } : State) locs mc ms := by
    subst hA
    obtain ⟨e1, e2⟩ := hsame
    rw [State.setFrames_setFrames] at e1
    have h2 : (T.setVm s.vm).sameButNew ({ U with vm := s.vm } : State) [] (0 + 1) (0 + 6) := ⟨e1, e2⟩
    have h3 := X.same.trans h2
    rw [List.append_nil] at h3
    exact h3.mono hc hs
  refine ⟨U, ?_, .threw T.heap.size, hrun, hend, Or.inr ⟨T.heap.size, rfl, cls, ce, locs, hx U hWs.alike f1 (fun q hq => f2 q hq (fun z hz => nomatch hz)), hce, hO.vm, hcl, hWs, hall, hf⟩⟩
  refine st1 _ ?_
  show Steps p.tables e below (T1.setTop { method := m, pc := pc + 3, locals := ls, stack := .ref T.heap.size :: rest, locked := none }) _
  jvm_step X₁.here [X₁.here.top, hexec, d3', Value.category]
  exact X₁.ldcStringW hexec (own := own) (text := text) (index := is) (a := sa) hown' hstr'.1 hstr'.2
    (g := { method := m, pc := pc + 4, locals := ls, stack := .ref T.heap.size :: .ref T.heap.size :: rest, locked := none }) rfl d4' _ hsteps
end Ends
section Bodies
variable {l : Launch}
theorem vx_ofW {y : MethodName} {ws ws' : List Cond} {rm : Room} {Pc : Array Value → State → Prop} {Qc : Array Value → State → Outcome → State → Prop} {XC : String → State → State → Prop} {mc ms : Nat} {free : Addr → Prop} {cc : ByteArray} {maxL : Nat} {ret : Option FieldType}
    (hy : plainName y.cls = true) (hw : ws = Cond.code y cc maxL ret :: ws')
    (body : ∀ p e s m args below meth c s₁, BodyLoose p l y (headSpec ws rm) cc maxL ret e s m args below meth c s₁ → c.maxLocals = maxL → (∀ x ∈ c.exceptionTable.toList, False) → Pc args s →
      W p l e (headSpec ws rm).room s m args below meth c s.heap [] 0 0 (vx_MQ below Qc XC args s mc ms free) (entryFrame m args maxL)) : vx_Met l y ws rm Pc Qc XC mc ms free := by
  refine MetFree.of_bodyS (code := cc) (maxLocals := maxL) (ret := ret) hy ?_ ?_
  · intro args s m h hn
    obtain ⟨meth, c, h1, h2, h3, h4, h5, h6, -, -⟩ := Cond.code_spec hn (atoms_spec (ws := ws) h _ (by rw [hw]; exact List.mem_cons_self))
    exact ⟨meth, c, h1, h2, h3, h4, h5, h6⟩
  · intro p e s m args below meth c s₁ B hml hP _
    have hh0 : s₁.heap = s.heap := by rw [B.state]; rfl
    have ht : ∀ x ∈ c.exceptionTable.toList, False := by
      obtain ⟨meth9, c9, h1, h2, -, -, -, -, h7, -⟩ := Cond.code_spec B.named (atoms_spec (ws := ws) B.pre _ (by rw [hw]; exact List.mem_cons_self))
      cases Option.some.inj (h1.symm.trans B.method)
      cases Option.some.inj (h2.symm.trans (Stand.of_body B).code)
      intro x hx
      rw [Array.isEmpty_iff.mp h7] at hx
      cases hx
    obtain ⟨t, a1, o, b1, b2, b3⟩ := body p e s m args below meth c s₁ B hml ht hP s₁ hh0 (Stand.of_body B)
    exact ⟨t, o, a1, b1, b2, b3⟩
/-- the table of a body with handlers -/
theorem vx_table {p : Program} {x y : MethodName} {S : Spec} {cc bytes : ByteArray} {maxL maxL' : Nat} {ret ret' : Option FieldType} {e : Env} {s s₁ : State} {m : MethodId} {args : Array Value} {below : List Frame} {meth : Method} {c : Code} {hh : List (Nat × Nat × Nat × Nat)}
    (B : BodyLoose p l y S cc maxL ret e s m args below meth c s₁) (h : (Cond.codeWith y bytes maxL' ret' hh).before args s = true) : c.exceptionTable.toList = tableOf hh := by
  obtain ⟨m9, meth9, c9, hn9, h1, h2, -, -, h6, -⟩ := Cond.codeWith_spec h
  cases Option.some.inj (hn9.symm.trans B.named)
  cases Option.some.inj (h1.symm.trans B.method)
  cases Option.some.inj (h2.symm.trans (Stand.of_body B).code)
  rw [← h6, table_eq]
end Bodies
end VXA
/-! ===== END ===== -/
/-! ===== BEGIN a static call of a method with an exception table ===== -/
section VXS
variable {p : Program} {l : Launch} {e : Env} {R : Room} {s : State} {m : MethodId} {args : Array Value} {below : List Frame} {meth : Method} {c : Code} {T : State} {H : Heap} {locs : List Loc} {cells slots : Nat}
abbrev vx_CSW (R : Room) (s : State) (args : Array Value) (own : String) (index : Nat) (y : MethodName) (bytes : ByteArray) (maxL : Nat) (ret : Option FieldType) (hh : List (Nat × Nat × Nat × Nat)) (ws : List Cond) (rm : Room) (mc ms n : Nat) : Prop :=
  (rm.cells = mc ∧ rm.slots = ms ∧ rm.frames + 1 ≤ R.frames ∧ 8 + (maxL + 11) + rm.locals ≤ R.locals ∧ (∀ w ∈ ws, ∀ (a' : Array Value) (U : State), s.WarmedH U.vm → w.before a' U = true) ∧ Cond.codeWith y bytes maxL ret hh ∈ ws) ∧
  (Cond.codeWith y bytes maxL ret hh).before args s = true ∧ (Cond.initialized y.cls).before args s = true ∧ (y.cls ≠ "java/lang/invoke/MethodHandle" ∧ y.cls ≠ "java/lang/invoke/VarHandle") ∧
  (∀ sig, parseMethodDescriptor y.desc = some sig → n = sig.parameters.length) ∧ (Cond.methodLink own index y).before args s = true ∧ (Cond.static y).before args s = true
theorem vx_cwSW {own : String} {index maxL mc ms : Nat} {y : MethodName} {bytes : ByteArray} {ret : Option FieldType} {hh : List (Nat × Nat × Nat × Nat)} {Ts ws ws' : List Cond} {rm : Room} (n : Nat) (ht : ∀ w ∈ Ts, w.before args s = true) (hT : GoodIn Ts (va_wsS own index y ws)) (hw : ws = Cond.codeWith y bytes maxL ret hh :: ws') (hrc : rm.cells = mc) (hrs : rm.slots = ms)
    (hd : y.cls ≠ "java/lang/invoke/MethodHandle" ∧ y.cls ≠ "java/lang/invoke/VarHandle" ∧ (parseMethodDescriptor y.desc).map (fun d => d.parameters.length) = some n) (hR : rm.frames + 1 ≤ R.frames ∧ 8 + (maxL + 11) + rm.locals ≤ R.locals) :
    vx_CSW R s args own index y bytes maxL ret hh ws rm mc ms n := by
  have ok : ∀ w ∈ va_wsS own index y ws, w.before args s = true := fun w h => ht w (hT w h).1
  have hG : GoodIn Ts ws := fun w h => hT w (by unfold va_wsS; exact List.mem_append_right _ h)
  have hc : Cond.codeWith y bytes maxL ret hh ∈ ws := by rw [hw]; exact List.mem_cons_self
  refine ⟨⟨hrc, hrs, hR.1, hR.2, pay_in ht hG, hc⟩, ht _ (hG _ hc).1, ok _ (by simp [va_wsS]), ⟨hd.1, hd.2.1⟩, fun sig h => ?_, ok _ (by simp [va_wsS]), ok _ (by simp [va_wsS])⟩
  have h2 := hd.2.2
  rw [h] at h2
  exact (Option.some.inj h2).symm
theorem vx_callSW (X : Stand p l e R s m args below meth c T locs cells slots) (hexec : p.tables.exec = Jvm.exec) {own : String} {index : Nat} {y : MethodName} {bytes : ByteArray} {maxL : Nat} {ret : Option FieldType} {hh : List (Nat × Nat × Nat × Nat)}
    (hown : s.vm.findClass own = some m.cls) (hlink : (Cond.methodLink own index y).before args s = true) (hstat : (Cond.static y).before args s = true) (hinit : (Cond.initialized y.cls).before args s = true)
    (hcode : (Cond.codeWith y bytes maxL ret hh).before args s = true) (hy : y.cls ≠ "java/lang/invoke/MethodHandle" ∧ y.cls ≠ "java/lang/invoke/VarHandle")
    {W9 : Nat} {Pre : Pt → Array Value → Prop} {Post : Pt → Array Value → Option Value → Pt → Prop} (hK : Back l R p e below s args y 3 W9 Pre Post)
    {g : JFrame} (hg : g.method = m) (hsize : g.locals.size = c.maxLocals) {argsL rest : List Value} (hlen : ∀ sig, parseMethodDescriptor y.desc = some sig → argsL.length = sig.parameters.length)
    (hstack : g.stack = argsL.reverse ++ rest) (hW : 2 * g.monitorRoom + (rest.map fun v => v.category).sum ≤ W9) (hdg : decode c.code g.pc = .ok (.invokestatic index, 3))
    (hpre : ∀ vm₁, s.WarmedH vm₁ → Pre ⟨T.setVm vm₁, locs, cells, slots⟩ argsL.toArray) :
    ∃ (v : Option Value) (vm₁ : Vm) (B : Pt), s.WarmedH vm₁ ∧ Stand p l e R s m args below meth c B.U B.locs B.cells B.slots ∧ Post ⟨T.setVm vm₁, locs, cells, slots⟩ argsL.toArray v B ∧
      ∀ target, Steps p.tables e below (B.U.setTop { g with pc := g.pc + 3, stack := v.toList ++ rest }) target → Steps p.tables e below (T.setTop g) target := by
  obtain ⟨mk, methM, cM, hnamed, hmethM, -, -, -, -, -, -, hsigM⟩ := Cond.codeWith_spec hcode
  have hstatic : methM.isStatic = true := Cond.static_spec hnamed hmethM hstat
  obtain ⟨kP, hkP, -⟩ := className_of_methodNamed hnamed
  have hinitP : kP.init = .initialized := Cond.initialized_spec (findClass_of_methodNamed hnamed) hkP hinit
  obtain ⟨vm₁, X₁, hstep₁⟩ := X.invokestatic hexec hown hlink hnamed hmethM hstatic hkP hinitP hy (g := g) hg (argsL := argsL) (rest := rest) (hlen _ hsigM) hstack hdg
  obtain ⟨v, B, X', hpost, hsteps⟩ := hK m meth c ⟨T.setVm vm₁, locs, cells, slots⟩ { g with stack := rest } (.invokestatic index) mk argsL.toArray X₁ hg hsize hdg hW (X₁.named hnamed) (hpre vm₁ X₁.warmed)
  exact ⟨v, vm₁, B, X₁.warmed, X', hpost, fun target h => hstep₁ _ fun acts => by rw [doInvoke_state]; exact hsteps.trans h⟩
theorem vx_runSW {y : MethodName} {bytes cc : ByteArray} {maxL nL mc ms n index : Nat} {ret : Option FieldType} {hh : List (Nat × Nat × Nat × Nat)} {ws : List Cond} {rm : Room} {Pc : Array Value → State → Prop} {Qc : Array Value → State → Outcome → State → Prop} {free : Addr → Prop} {Ts : List Cond} {own : String} {As rest : List Value} {g : JFrame}
    (S : CallFix p m c cc nL s args Ts own) (hM : Met l y ws rm Pc Qc mc ms free) (cw : vx_CSW R s args own index y bytes maxL ret hh ws rm mc ms n) (hp : PreS s H Pc As)
    (hg : g.method = m) (hn : As.length = n) (hsize : g.locals.size = nL) (hstack : g.stack = As.reverse ++ rest) (hW : 2 * g.monitorRoom + (rest.map fun v => v.category).sum ≤ 8) (hdg : decode cc g.pc = .ok (.invokestatic index, 3)) (hf : cells + mc ≤ R.cells ∧ slots + ms ≤ R.slots) :
    va_Run p l e R s m args below meth c H locs cells slots mc ms g rest (Qc As.toArray) (free) := by
  obtain ⟨⟨hrc, hrs, hfr, hlo, hws, hcw⟩, hcode, hini, hy, hlen, hl, hstt⟩ := cw
  have hK : Back l R p e below s args y 3 8 (PreOf R mc ms Pc) (PostOf Qc mc ms free) := va_backW (hh := hh) (bytes := bytes) (maxL := maxL) (ret := ret) hM hp.1 hrc hrs hfr hlo hws hcw (fun a' U hW => word_at hW (Or.inl (by first | rfl | simp [Cond.onTables, Cond.keeps, Cond.steady])) hini)
  obtain ⟨hx, hb, hml, ho, -⟩ := S
  intro T hT X
  obtain ⟨v, vm₁, ⟨U', l2, c2, s2⟩, hW₁, X', ⟨g', mk, t, L, e1, e2, hq, h1, hL, h2, h3⟩, st⟩ := vx_callSW X hx (hh := hh) (bytes := bytes) (maxL := maxL) (ret := ret) ho hl hstt hini hcode hy hK hg (hsize.trans hml.symm) (argsL := As) (rest := rest) (fun sig h => hn.trans (hlen sig h)) hstack hW (by rw [hb]; exact hdg)
    (fun vm₁ hW₁ => ⟨hf.1, hf.2, hp.2 (T.setVm vm₁) hT hW₁⟩)
  dsimp only [Pt.U, Pt.locs, Pt.cells, Pt.slots] at X' e1 e2 h1 h2 h3 st
  subst h1; subst h2; subst h3
  exact ⟨v, (T.setVm vm₁).calling g' mk As.toArray, t, U', L, hT, X', hL, e1, e2, hq, st⟩
/-- a thing of a world lies in the heap -/
theorem vx_lt {D : va_G} {cl : List vw_C} {ws : va_W} {H1 : Heap} (h : va_P D cl ws H1) {k : Nat} {q : Nat × va_E} (hk : ws[k]? = some q) : q.1 < H1.size := (h k q hk).lt
end VXS
/-! ===== END ===== -/
/-! ===== BEGIN methods with a table of their own: called by a name, returning or throwing ===== -/
section VXH
/-! vx_backW, vx_callVX, vx_callSX, vx_callVW, vx_runVW, vx_runVX, vx_runSX, vx_ofWH follow the same proofs as their sisters above (Free/Laws.lean, Shelf42/LK1.lean); vx_outP calls Shelf42/NT130.lean (outThrough). -/
section
variable {l : Launch} {R : Room} {p : Program} {e : Env} {below : List Frame} {s : State} {sargs : Array Value} {y : MethodName} {len W9 : Nat}
theorem vx_backW {ws : List Cond} {rm : Room} {Pc : Array Value → State → Prop} {Qc : Array Value → State → Outcome → State → Prop} {XC : String → State → State → Prop} {mc ms : Nat} {free : Addr → Prop} {bytes : ByteArray} {maxL : Nat} {ret : Option FieldType} {hh : List (Nat × Nat × Nat × Nat)}
    (hM : vx_Met l y ws rm Pc Qc XC mc ms free) (hblind : FrameBlind Pc) (hrc : rm.cells = mc) (hrs : rm.slots = ms)
    (hframes : rm.frames + 1 ≤ R.frames) (hlocals : W9 + (maxL + 11) + rm.locals ≤ R.locals)
    (hws : ∀ w ∈ ws, ∀ a' U, s.WarmedH U.vm → w.before a' U = true) (hcode : Cond.codeWith y bytes maxL ret hh ∈ ws) (hinit : ∀ a' U, s.WarmedH U.vm → (Cond.initialized y.cls).before a' U = true) :
    vx_Back l R p e below s sargs y len W9 (PreOf R mc ms Pc) (PostOf Qc mc ms free) (vx_Post XC mc ms free) := by
  intro m meth c A g ig mk a X hg hsize hdg hW hn hp
  have h1 : (headSpec ws rm).pre.before a A.U = true := atoms_intro fun w hw => hws w hw _ _ X.warmed
  have h2 : (Cond.codeWith y bytes maxL ret hh).before a A.U = true := hws _ hcode _ _ X.warmed
  have h3 : (Cond.initialized y.cls).before a A.U = true := hinit _ _ X.warmed
  have h4 : A.cells + (headSpec ws rm).room.cells ≤ R.cells := by rw [show (headSpec ws rm).room.cells = mc from hrc]; exact hp.1
  have h5 : A.slots + (headSpec ws rm).room.slots ≤ R.slots := by rw [show (headSpec ws rm).room.slots = ms from hrs]; exact hp.2.1
  have hPc : Pc a (A.U.calling g mk a) := hblind _ _ _ _ hp.2.2
  obtain ⟨U, Ls, c0, s0⟩ := A
  dsimp only [Pt.U, Pt.locs, Pt.cells, Pt.slots] at h1 h2 h3 h4 h5 X hn hPc ⊢
  obtain ⟨m9, methY, cY, hn9, hmY, hcY, -, hlY, -⟩ := Cond.codeWith_spec h2
  cases Option.some.inj (hn9.symm.trans hn)
  obtain ⟨kY, hkY, -⟩ := className_of_methodNamed hn
  have hinitY : kY.init = .initialized := Cond.initialized_spec (findClass_of_methodNamed hn) hkY h3
  have h : At U g.method c below := by rw [hg]; exact X.here
  have hlocals9 : W9 + (maxL + 11) + (headSpec ws rm).room.locals ≤ R.locals := hlocals
  have happ : (headSpec ws rm).appliesLoose y e.platform (U.calling g mk a) = true :=
    Spec.appliesLoose_calling (g := g) h hdg hn hkY hinitY
      (X.room_calling (g := g) (R' := (headSpec ws rm).room) hsize hmY hcY hframes (by rw [hlY]; omega) h4 h5) h1
  obtain ⟨mid, hmid⟩ := h.above
  have hfr : (U.setTop g).frames = (.java g :: mid) ++ below := by rw [State.frames_setTop' g h.top, hmid]; rfl
  obtain ⟨o, s₂, hsteps, -, hend, hq⟩ := Steps.callFree hM p X.admits X.cas X.clock (acts := []) hfr happ hPc trivial
  have hq' : vx_Q Qc XC mc ms free a (U.calling g mk a) o s₂ := hq
  rw [State.frames_setTop' g h.top] at hend
  obtain ⟨g₀, hg0⟩ := Option.isSome_iff_exists.mp h.top
  obtain ⟨r, hr⟩ := State.topJava?_eq_some.mp hg0
  have hr' : (({ U with heap := s₂.heap, slotsUsed := s₂.slotsUsed } : State).setVm s₂.vm).frames = .java g₀ :: r := hr
  rcases hq' with ⟨hqc, L, hfe, hL⟩ | ⟨q, rfl, E, ce, L, hx, hce, hcv, hcl, hW₂, hsm, hL⟩
  · obtain ⟨⟨v, rfl⟩, hW₂, e2, q2, q3, q4, q5, q6⟩ := id hfe
    have e3 : s₂ = ({ (U.calling g mk a).setFrames s₂.frames with heap := s₂.heap, slotsUsed := s₂.slotsUsed } : State).setVm s₂.vm := by
      have : s₂ = ({ s₂ with vm := (U.calling g mk a).vm } : State).setVm s₂.vm := rfl
      rw [e2] at this
      exact this
    obtain ⟨c₂, i₂, len₂, hc₂, hd₂, hf₂⟩ := hend
    have hW' : U.WarmedH s₂.vm := hW₂
    have hcc : c₂ = c := by
      have h1 : s₂.code? g.method = U.code? g.method := by
        rw [State.code?_eq, State.code?_eq, hW'.alike.method?]
      exact Option.some.inj (hc₂.symm.trans (h1.trans h.code))
    subst hcc
    have hlen : len₂ = len := by rw [hdg] at hd₂; cases hd₂; rfl
    subst hlen
    have hs₂ : s₂ = (({ U with heap := s₂.heap, slotsUsed := s₂.slotsUsed } : State).setVm s₂.vm).setTop { g with pc := g.pc + len₂, stack := v.toList ++ g.stack } := by
      refine e3.trans ?_
      rw [hf₂, State.calling_eq h.top, State.setFrames_setFrames, State.setTop_of_frames _ hr', hr]
      rfl
    have hsame : U.sameButNew ({ U with heap := s₂.heap, slotsUsed := s₂.slotsUsed } : State) L mc ms := by
      refine ⟨?_, q2, q3, q4, q5, q6⟩
      obtain ⟨t, ht, -⟩ := State.frames_cons hr
      show ({ U with heap := s₂.heap, slotsUsed := s₂.slotsUsed } : State) = { U.setFrames U.frames with heap := s₂.heap, slotsUsed := s₂.slotsUsed }
      rw [State.setFrames_self ht]
    subst hg
    refine Or.inl ⟨v, ⟨(({ U with heap := s₂.heap, slotsUsed := s₂.slotsUsed } : State).setVm s₂.vm), Ls ++ L, c0 + mc, s0 + ms⟩,
      ⟨X.admits, X.cas, X.clock, X.frames, X.room, X.hears, X.method, X.code, (X.here.setHeapUsed s₂.heap s₂.slotsUsed).setVm hW'.alike, X.tail, State.WarmedH.trans X.warmed hW', X.limits, X.bytes, X.same.trans (hsame.setVm s.vm)⟩,
      ⟨g, mk, s₂, L, rfl, rfl, hqc, rfl, hL, rfl, rfl⟩, ?_⟩
    show Steps p.tables e below _ ((({ U with heap := s₂.heap, slotsUsed := s₂.slotsUsed } : State).setVm s₂.vm).setTop { g with pc := g.pc + len₂, stack := v.toList ++ g.stack })
    rw [← hs₂]
    exact hsteps
  · obtain ⟨e2, q2, q3, q4, q5, q6⟩ := id hsm
    have e3 : s₂ = ({ (U.calling g mk a).setFrames s₂.frames with heap := s₂.heap, slotsUsed := s₂.slotsUsed } : State).setVm s₂.vm := by
      have : s₂ = ({ s₂ with vm := (U.calling g mk a).vm } : State).setVm s₂.vm := rfl
      rw [e2] at this
      exact this
    have hf₂ : s₂.frames = .throwing q :: .java g :: U.frames.tail := hend
    have hW' : U.WarmedH s₂.vm := hW₂
    have hs₂ : s₂ = ((({ U with heap := s₂.heap, slotsUsed := s₂.slotsUsed } : State).setVm s₂.vm).setTop g).pushFrame (.throwing q) := by
      refine e3.trans ?_
      rw [hf₂, State.calling_eq h.top, State.setFrames_setFrames, State.pushFrame, State.frames_setTop _ hr', State.setTop_of_frames _ hr', State.setFrames_setFrames, hr]
      rfl
    have hsame : U.sameButNew ({ U with heap := s₂.heap, slotsUsed := s₂.slotsUsed } : State) L mc ms := by
      refine ⟨?_, q2, q3, q4, q5, q6⟩
      obtain ⟨t, ht, -⟩ := State.frames_cons hr
      show ({ U with heap := s₂.heap, slotsUsed := s₂.slotsUsed } : State) = { U.setFrames U.frames with heap := s₂.heap, slotsUsed := s₂.slotsUsed }
      rw [State.setFrames_self ht]
    subst hg
    refine Or.inr ⟨q, ⟨(({ U with heap := s₂.heap, slotsUsed := s₂.slotsUsed } : State).setVm s₂.vm), Ls ++ L, c0 + mc, s0 + ms⟩,
      ⟨X.admits, X.cas, X.clock, X.frames, X.room, X.hears, X.method, X.code, (X.here.setHeapUsed s₂.heap s₂.slotsUsed).setVm hW'.alike, X.tail, State.WarmedH.trans X.warmed hW', X.limits, X.bytes, X.same.trans (hsame.setVm s.vm)⟩,
      ⟨g, mk, s₂, L, E, ce, rfl, rfl, hx, hce, hcv, hcl, rfl, hL, rfl, rfl⟩, ?_⟩
    show Steps p.tables e below _ (((({ U with heap := s₂.heap, slotsUsed := s₂.slotsUsed } : State).setVm s₂.vm).setTop g).pushFrame (.throwing q))
    rw [← hs₂]
    exact hsteps
end
variable {p : Program} {l : Launch} {e : Env} {R : Room} {s : State} {m : MethodId} {args : Array Value} {below : List Frame} {meth : Method} {c : Code} {T : State} {H : Heap} {locs : List Loc} {cells slots : Nat}
theorem vx_callVX (X : Stand p l e R s m args below meth c T locs cells slots) (hexec : p.tables.exec = Jvm.exec) {own C : String} {index : Nat} {y : MethodName} {bytes : ByteArray} {maxL : Nat} {ret : Option FieldType} {hh : List (Nat × Nat × Nat × Nat)}
    (hown : s.vm.findClass own = some m.cls) (hlink : (Cond.methodLink own index y).before args s = true) (hinst : (Cond.instanceMethod y).before args s = true) (hsel : (Cond.selects C y y).before args s = true)
    (hcode : (Cond.codeWith y bytes maxL ret hh).before args s = true) (hy : y.cls ≠ "java/lang/invoke/MethodHandle" ∧ y.cls ≠ "java/lang/invoke/VarHandle")
    {W9 : Nat} {Pre : Pt → Array Value → Prop} {Post : Pt → Array Value → Option Value → Pt → Prop} {PostX : Pt → Array Value → Addr → Pt → Prop} (hK : vx_Back l R p e below s args y 3 W9 Pre Post PostX)
    {b : Addr} {cellB : Cell} (hcell : T.heap[b]? = some cellB) (hobj : cellB.vm.isStatics = false) (hcls : s.vm.findClass C = some cellB.cls)
    {g : JFrame} (hg : g.method = m) (hsize : g.locals.size = c.maxLocals) {argsL rest : List Value} (hlen : ∀ sig, parseMethodDescriptor y.desc = some sig → argsL.length = sig.parameters.length)
    (hstack : g.stack = argsL.reverse ++ .ref b :: rest) (hW : 2 * g.monitorRoom + (rest.map fun v => v.category).sum ≤ W9) (hdg : decode c.code g.pc = .ok (.invokevirtual index, 3))
    (hpre : ∀ vm₁, s.WarmedH vm₁ → Pre ⟨T.setVm vm₁, locs, cells, slots⟩ (Value.ref b :: argsL).toArray) :
    (∃ (v : Option Value) (vm₁ : Vm) (B : Pt), s.WarmedH vm₁ ∧ Stand p l e R s m args below meth c B.U B.locs B.cells B.slots ∧ Post ⟨T.setVm vm₁, locs, cells, slots⟩ (Value.ref b :: argsL).toArray v B ∧
      ∀ target, Steps p.tables e below (B.U.setTop { g with pc := g.pc + 3, stack := v.toList ++ rest }) target → Steps p.tables e below (T.setTop g) target) ∨
    (∃ (q : Addr) (vm₁ : Vm) (B : Pt), s.WarmedH vm₁ ∧ Stand p l e R s m args below meth c B.U B.locs B.cells B.slots ∧ PostX ⟨T.setVm vm₁, locs, cells, slots⟩ (Value.ref b :: argsL).toArray q B ∧
      Steps p.tables e below (T.setTop g) ((B.U.setTop { g with stack := rest }).pushFrame (.throwing q))) := by
  obtain ⟨mk, methM, hnamed, hmethM, hstM, habM⟩ := Cond.instanceMethod_spec hinst
  obtain ⟨m8, methM', cM, hn8, hmethM', -, -, -, -, -, -, hsigM⟩ := Cond.codeWith_spec hcode
  cases Option.some.inj (hn8.symm.trans hnamed)
  cases hmethM.symm.trans hmethM'
  obtain ⟨c2, r2, m2, q1, q2, q3, q4, kP, hkP, hkPi⟩ := Cond.selects_spec hsel
  cases hcls.symm.trans q1
  cases (State.methodFound?_of_named hnamed hy).symm.trans q2
  cases hnamed.symm.trans q3
  have hselP : selectMethod e.platform s.vm cellB.cls mk = .method mk := by rw [Launch.admits_selectMethod X.admits]; exact q4
  obtain ⟨vm₁, X₁, hstep₁⟩ := X.invokevirtual hexec hown hlink hnamed hmethM hstM hkP hkPi hy (a := b) (cell := cellB) hcell
    (fun z h => by rw [h] at hobj; cases hobj) hselP hmethM habM hkP hkPi (g := g) hg (argsL := argsL) (rest := rest) (hlen _ hsigM) hstack hdg
  rcases hK m meth c ⟨T.setVm vm₁, locs, cells, slots⟩ { g with stack := rest } (.invokevirtual index) mk (Value.ref b :: argsL).toArray X₁ hg hsize hdg hW (X₁.named hnamed) (hpre vm₁ X₁.warmed) with ⟨v, B, X', hpost, hsteps⟩ | ⟨q, B, X', hpost, hsteps⟩
  · exact Or.inl ⟨v, vm₁, B, X₁.warmed, X', hpost, fun target h => hstep₁ _ fun acts => by rw [doInvoke_state]; exact hsteps.trans h⟩
  · exact Or.inr ⟨q, vm₁, B, X₁.warmed, X', hpost, hstep₁ _ fun acts => by rw [doInvoke_state]; exact hsteps⟩
theorem vx_callSX (X : Stand p l e R s m args below meth c T locs cells slots) (hexec : p.tables.exec = Jvm.exec) {own : String} {index : Nat} {y : MethodName} {bytes : ByteArray} {maxL : Nat} {ret : Option FieldType} {hh : List (Nat × Nat × Nat × Nat)}
    (hown : s.vm.findClass own = some m.cls) (hlink : (Cond.methodLink own index y).before args s = true) (hstat : (Cond.static y).before args s = true) (hinit : (Cond.initialized y.cls).before args s = true)
    (hcode : (Cond.codeWith y bytes maxL ret hh).before args s = true) (hy : y.cls ≠ "java/lang/invoke/MethodHandle" ∧ y.cls ≠ "java/lang/invoke/VarHandle")
    {W9 : Nat} {Pre : Pt → Array Value → Prop} {Post : Pt → Array Value → Option Value → Pt → Prop} {PostX : Pt → Array Value → Addr → Pt → Prop} (hK : vx_Back l R p e below s args y 3 W9 Pre Post PostX)
    {g : JFrame} (hg : g.method = m) (hsize : g.locals.size = c.maxLocals) {argsL rest : List Value} (hlen : ∀ sig, parseMethodDescriptor y.desc = some sig → argsL.length = sig.parameters.length)
    (hstack : g.stack = argsL.reverse ++ rest) (hW : 2 * g.monitorRoom + (rest.map fun v => v.category).sum ≤ W9) (hdg : decode c.code g.pc = .ok (.invokestatic index, 3))
    (hpre : ∀ vm₁, s.WarmedH vm₁ → Pre ⟨T.setVm vm₁, locs, cells, slots⟩ argsL.toArray) :
    (∃ (v : Option Value) (vm₁ : Vm) (B : Pt), s.WarmedH vm₁ ∧ Stand p l e R s m args below meth c B.U B.locs B.cells B.slots ∧ Post ⟨T.setVm vm₁, locs, cells, slots⟩ argsL.toArray v B ∧
      ∀ target, Steps p.tables e below (B.U.setTop { g with pc := g.pc + 3, stack := v.toList ++ rest }) target → Steps p.tables e below (T.setTop g) target) ∨
    (∃ (q : Addr) (vm₁ : Vm) (B : Pt), s.WarmedH vm₁ ∧ Stand p l e R s m args below meth c B.U B.locs B.cells B.slots ∧ PostX ⟨T.setVm vm₁, locs, cells, slots⟩ argsL.toArray q B ∧
      Steps p.tables e below (T.setTop g) ((B.U.setTop { g with stack := rest }).pushFrame (.throwing q))) := by
  obtain ⟨mk, methM, cM, hnamed, hmethM, -, -, -, -, -, -, hsigM⟩ := Cond.codeWith_spec hcode
  have hstatic : methM.isStatic = true := Cond.static_spec hnamed hmethM hstat
  obtain ⟨kP, hkP, -⟩ := className_of_methodNamed hnamed
  have hinitP : kP.init = .initialized := Cond.initialized_spec (findClass_of_methodNamed hnamed) hkP hinit
  obtain ⟨vm₁, X₁, hstep₁⟩ := X.invokestatic hexec hown hlink hnamed hmethM hstatic hkP hinitP hy (g := g) hg (argsL := argsL) (rest := rest) (hlen _ hsigM) hstack hdg
  rcases hK m meth c ⟨T.setVm vm₁, locs, cells, slots⟩ { g with stack := rest } (.invokestatic index) mk argsL.toArray X₁ hg hsize hdg hW (X₁.named hnamed) (hpre vm₁ X₁.warmed) with ⟨v, B, X', hpost, hsteps⟩ | ⟨q, B, X', hpost, hsteps⟩
  · exact Or.inl ⟨v, vm₁, B, X₁.warmed, X', hpost, fun target h => hstep₁ _ fun acts => by rw [doInvoke_state]; exact hsteps.trans h⟩
  · exact Or.inr ⟨q, vm₁, B, X₁.warmed, X', hpost, hstep₁ _ fun acts => by rw [doInvoke_state]; exact hsteps⟩
theorem vx_callVW (X : Stand p l e R s m args below meth c T locs cells slots) (hexec : p.tables.exec = Jvm.exec) {own C : String} {index : Nat} {y : MethodName} {bytes : ByteArray} {maxL : Nat} {ret : Option FieldType} {hh : List (Nat × Nat × Nat × Nat)}
    (hown : s.vm.findClass own = some m.cls) (hlink : (Cond.methodLink own index y).before args s = true) (hinst : (Cond.instanceMethod y).before args s = true) (hsel : (Cond.selects C y y).before args s = true)
    (hcode : (Cond.codeWith y bytes maxL ret hh).before args s = true) (hy : y.cls ≠ "java/lang/invoke/MethodHandle" ∧ y.cls ≠ "java/lang/invoke/VarHandle")
    {W9 : Nat} {Pre : Pt → Array Value → Prop} {Post : Pt → Array Value → Option Value → Pt → Prop} (hK : Back l R p e below s args y 3 W9 Pre Post)
    {b : Addr} {cellB : Cell} (hcell : T.heap[b]? = some cellB) (hobj : cellB.vm.isStatics = false) (hcls : s.vm.findClass C = some cellB.cls)
    {g : JFrame} (hg : g.method = m) (hsize : g.locals.size = c.maxLocals) {argsL rest : List Value} (hlen : ∀ sig, parseMethodDescriptor y.desc = some sig → argsL.length = sig.parameters.length)
    (hstack : g.stack = argsL.reverse ++ .ref b :: rest) (hW : 2 * g.monitorRoom + (rest.map fun v => v.category).sum ≤ W9) (hdg : decode c.code g.pc = .ok (.invokevirtual index, 3))
    (hpre : ∀ vm₁, s.WarmedH vm₁ → Pre ⟨T.setVm vm₁, locs, cells, slots⟩ (Value.ref b :: argsL).toArray) :
    ∃ (v : Option Value) (vm₁ : Vm) (B : Pt), s.WarmedH vm₁ ∧ Stand p l e R s m args below meth c B.U B.locs B.cells B.slots ∧ Post ⟨T.setVm vm₁, locs, cells, slots⟩ (Value.ref b :: argsL).toArray v B ∧
      ∀ target, Steps p.tables e below (B.U.setTop { g with pc := g.pc + 3, stack := v.toList ++ rest }) target → Steps p.tables e below (T.setTop g) target := by
  obtain ⟨mk, methM, hnamed, hmethM, hstM, habM⟩ := Cond.instanceMethod_spec hinst
  obtain ⟨m8, methM', cM, hn8, hmethM', -, -, -, -, -, -, hsigM⟩ := Cond.codeWith_spec hcode
  cases Option.some.inj (hn8.symm.trans hnamed)
  cases hmethM.symm.trans hmethM'
  obtain ⟨c2, r2, m2, q1, q2, q3, q4, kP, hkP, hkPi⟩ := Cond.selects_spec hsel
  cases hcls.symm.trans q1
  cases (State.methodFound?_of_named hnamed hy).symm.trans q2
  cases hnamed.symm.trans q3
  have hselP : selectMethod e.platform s.vm cellB.cls mk = .method mk := by rw [Launch.admits_selectMethod X.admits]; exact q4
  obtain ⟨vm₁, X₁, hstep₁⟩ := X.invokevirtual hexec hown hlink hnamed hmethM hstM hkP hkPi hy (a := b) (cell := cellB) hcell
    (fun z h => by rw [h] at hobj; cases hobj) hselP hmethM habM hkP hkPi (g := g) hg (argsL := argsL) (rest := rest) (hlen _ hsigM) hstack hdg
  obtain ⟨v, B, X', hpost, hsteps⟩ := hK m meth c ⟨T.setVm vm₁, locs, cells, slots⟩ { g with stack := rest } (.invokevirtual index) mk (Value.ref b :: argsL).toArray X₁ hg hsize hdg hW (X₁.named hnamed) (hpre vm₁ X₁.warmed)
  exact ⟨v, vm₁, B, X₁.warmed, X', hpost, fun target h => hstep₁ _ fun acts => by rw [doInvoke_state]; exact hsteps.trans h⟩
abbrev vx_CVW (R : Room) (s : State) (args : Array Value) (own C : String) (index : Nat) (y : MethodName) (bytes : ByteArray) (maxL : Nat) (ret : Option FieldType) (hh : List (Nat × Nat × Nat × Nat)) (ws : List Cond) (rm : Room) (mc ms n : Nat) : Prop :=
  (rm.cells = mc ∧ rm.slots = ms ∧ rm.frames + 1 ≤ R.frames ∧ 8 + (maxL + 11) + rm.locals ≤ R.locals ∧ (∀ w ∈ ws, ∀ (a' : Array Value) (U : State), s.WarmedH U.vm → w.before a' U = true) ∧ Cond.codeWith y bytes maxL ret hh ∈ ws) ∧
  (Cond.codeWith y bytes maxL ret hh).before args s = true ∧ (Cond.initialized y.cls).before args s = true ∧ (y.cls ≠ "java/lang/invoke/MethodHandle" ∧ y.cls ≠ "java/lang/invoke/VarHandle") ∧
  (∀ sig, parseMethodDescriptor y.desc = some sig → n = sig.parameters.length) ∧ (Cond.methodLink own index y).before args s = true ∧ (Cond.instanceMethod y).before args s = true ∧ (Cond.selects C y y).before args s = true
theorem vx_cwVW {own C : String} {index maxL mc ms : Nat} {y : MethodName} {bytes : ByteArray} {ret : Option FieldType} {hh : List (Nat × Nat × Nat × Nat)} {Ts ws ws' : List Cond} {rm : Room} (n : Nat) (ht : ∀ w ∈ Ts, w.before args s = true) (hT : GoodIn Ts (wsV own index C y ws)) (hw : ws = Cond.codeWith y bytes maxL ret hh :: ws') (hrc : rm.cells = mc) (hrs : rm.slots = ms)
    (hd : y.cls = C ∧ y.cls ≠ "java/lang/invoke/MethodHandle" ∧ y.cls ≠ "java/lang/invoke/VarHandle" ∧ (parseMethodDescriptor y.desc).map (fun d => d.parameters.length) = some n) (hR : rm.frames + 1 ≤ R.frames ∧ 8 + (maxL + 11) + rm.locals ≤ R.locals) :
    vx_CVW R s args own C index y bytes maxL ret hh ws rm mc ms n := by
  obtain ⟨hC, hd⟩ := hd
  subst hC
  have ok : ∀ w ∈ wsV own index y.cls y ws, w.before args s = true := fun w h => ht w (hT w h).1
  have hG : GoodIn Ts ws := fun w h => hT w (by unfold wsV; exact List.mem_append_right _ h)
  have hc : Cond.codeWith y bytes maxL ret hh ∈ ws := by rw [hw]; exact List.mem_cons_self
  refine ⟨⟨hrc, hrs, hR.1, hR.2, pay_in ht hG, hc⟩, ht _ (hG _ hc).1, ok _ (by simp [wsV]), ⟨hd.1, hd.2.1⟩, fun sig h => ?_, ok _ (by simp [wsV]), ok _ (by simp [wsV]), ok _ (by simp [wsV])⟩
  have h2 := hd.2.2
  rw [h] at h2
  exact (Option.some.inj h2).symm
theorem vx_runVW {y : MethodName} {bytes cc : ByteArray} {maxL nL mc ms n index : Nat} {ret : Option FieldType} {hh : List (Nat × Nat × Nat × Nat)} {ws : List Cond} {rm : Room} {Pc : Array Value → State → Prop} {Qc : Array Value → State → Outcome → State → Prop} {free : Addr → Prop} {Ts : List Cond} {own C : String} {b : Addr} {As rest : List Value} {g : JFrame}
    (S : CallFix p m c cc nL s args Ts own) (hM : Met l y ws rm Pc Qc mc ms free) (cw : vx_CVW R s args own C index y bytes maxL ret hh ws rm mc ms n) (hp : PreV s H C b Pc As)
    (hg : g.method = m) (hn : As.length = n) (hsize : g.locals.size = nL) (hstack : g.stack = As.reverse ++ .ref b :: rest) (hW : 2 * g.monitorRoom + (rest.map fun v => v.category).sum ≤ 8) (hdg : decode cc g.pc = .ok (.invokevirtual index, 3)) (hf : cells + mc ≤ R.cells ∧ slots + ms ≤ R.slots) :
    va_Run p l e R s m args below meth c H locs cells slots mc ms g rest (Qc (Value.ref b :: As).toArray) free := by
  obtain ⟨⟨hrc, hrs, hfr, hlo, hws, hcw⟩, hcode, hini, hy, hlen, hl, hin, hse⟩ := cw
  have hK : Back l R p e below s args y 3 8 (PreOf R mc ms Pc) (PostOf Qc mc ms free) := va_backW (hh := hh) (bytes := bytes) (maxL := maxL) (ret := ret) hM hp.1 hrc hrs hfr hlo hws hcw (fun a' U hW => word_at hW (Or.inl (by first | rfl | simp [Cond.onTables, Cond.keeps, Cond.steady])) hini)
  obtain ⟨hx, hb, hml, ho, -⟩ := S
  obtain ⟨-, ⟨cellB, hcB, hoB, hclB⟩, hPc⟩ := hp
  intro T hT X
  obtain ⟨v, vm₁, ⟨U', l2, c2, s2⟩, hW₁, X', ⟨g', mk, t, L, e1, e2, hq, h1, hL, h2, h3⟩, st⟩ := vx_callVW X hx (C := C) (hh := hh) (bytes := bytes) (maxL := maxL) (ret := ret) ho hl hin hse hcode hy hK (by rw [hT]; exact hcB) hoB hclB hg (hsize.trans hml.symm) (argsL := As) (rest := rest) (fun sig h => hn.trans (hlen sig h)) hstack hW (by rw [hb]; exact hdg)
    (fun vm₁ hW₁ => ⟨hf.1, hf.2, hPc (T.setVm vm₁) hT hW₁⟩)
  dsimp only [Pt.U, Pt.locs, Pt.cells, Pt.slots] at X' e1 e2 h1 h2 h3 st
  subst h1; subst h2; subst h3
  exact ⟨v, (T.setVm vm₁).calling g' mk (Value.ref b :: As).toArray, t, U', L, hT, X', hL, e1, e2, hq, st⟩
section
variable {y : MethodName} {bytes cc : ByteArray} {maxL nL mc ms n index : Nat} {ret : Option FieldType} {ws : List Cond} {rm : Room} {Pc : Array Value → State → Prop} {Qc : Array Value → State → Outcome → State → Prop} {XC : String → State → State → Prop} {free : Addr → Prop} {Ts : List Cond} {own C : String} {b : Addr} {As rest : List Value} {g : JFrame}
theorem vx_runVX {hh : List (Nat × Nat × Nat × Nat)} (S : CallFix p m c cc nL s args Ts own) (hM : vx_Met l y ws rm Pc Qc XC mc ms free) (cw : vx_CVW R s args own C index y bytes maxL ret hh ws rm mc ms n) (hp : PreV s H C b Pc As)
    (hg : g.method = m) (hn : As.length = n) (hsize : g.locals.size = nL) (hstack : g.stack = As.reverse ++ .ref b :: rest) (hW : 2 * g.monitorRoom + (rest.map fun v => v.category).sum ≤ 8) (hdg : decode cc g.pc = .ok (.invokevirtual index, 3)) (hf : cells + mc ≤ R.cells ∧ slots + ms ≤ R.slots) :
    vx_Run p l e R s m args below meth c H locs cells slots mc ms g rest (Qc (Value.ref b :: As).toArray) XC free := by
  obtain ⟨⟨hrc, hrs, hfr, hlo, hws, hcw⟩, hcode, hini, hy, hlen, hl, hin, hse⟩ := cw
  have hK : vx_Back l R p e below s args y 3 8 (PreOf R mc ms Pc) (PostOf Qc mc ms free) (vx_Post XC mc ms free) := vx_backW (hh := hh) (bytes := bytes) (maxL := maxL) (ret := ret) hM hp.1 hrc hrs hfr hlo hws hcw (fun a' U hW => word_at hW (Or.inl (by first | rfl | simp [Cond.onTables, Cond.keeps, Cond.steady])) hini)
  obtain ⟨hx, hb, hml, ho, -⟩ := S
  obtain ⟨-, ⟨cellB, hcB, hoB, hclB⟩, hPc⟩ := hp
  intro T hT X
  rcases vx_callVX X hx (C := C) (hh := hh) (bytes := bytes) (maxL := maxL) (ret := ret) ho hl hin hse hcode hy hK (by rw [hT]; exact hcB) hoB hclB hg (hsize.trans hml.symm) (argsL := As) (rest := rest) (fun sig h => hn.trans (hlen sig h)) hstack hW (by rw [hb]; exact hdg)
    (fun vm₁ hW₁ => ⟨hf.1, hf.2, hPc (T.setVm vm₁) hT hW₁⟩) with ⟨v, vm₁, ⟨U', l2, c2, s2⟩, hW₁, X', ⟨g', mk, t, L, e1, e2, hq, h1, hL, h2, h3⟩, st⟩ | ⟨q, vm₁, ⟨U', l2, c2, s2⟩, hW₁, X', ⟨g', mk, t, L, E, ce, e1, e2, hq, hce, hcv, hcl, h1, hL, h2, h3⟩, st⟩
  · dsimp only [Pt.U, Pt.locs, Pt.cells, Pt.slots] at X' e1 e2 h1 h2 h3 st
    subst h1; subst h2; subst h3
    exact Or.inl ⟨v, (T.setVm vm₁).calling g' mk (Value.ref b :: As).toArray, t, U', L, hT, X', hL, e1, e2, hq, st⟩
  · dsimp only [Pt.U, Pt.locs, Pt.cells, Pt.slots] at X' e1 e2 h1 h2 h3 st hcl
    subst h1; subst h2; subst h3
    exact Or.inr ⟨q, (T.setVm vm₁).calling g' mk (Value.ref b :: As).toArray, t, U', L, E, ce, hT, X', hL, e1, e2, hq, hce, hcv, vx_cls hW₁ hcl, st⟩
theorem vx_runSX {hh : List (Nat × Nat × Nat × Nat)} (S : CallFix p m c cc nL s args Ts own) (hM : vx_Met l y ws rm Pc Qc XC mc ms free) (cw : vx_CSW R s args own index y bytes maxL ret hh ws rm mc ms n) (hp : PreS s H Pc As)
    (hg : g.method = m) (hn : As.length = n) (hsize : g.locals.size = nL) (hstack : g.stack = As.reverse ++ rest) (hW : 2 * g.monitorRoom + (rest.map fun v => v.category).sum ≤ 8) (hdg : decode cc g.pc = .ok (.invokestatic index, 3)) (hf : cells + mc ≤ R.cells ∧ slots + ms ≤ R.slots) :
    vx_Run p l e R s m args below meth c H locs cells slots mc ms g rest (Qc As.toArray) XC free := by
  obtain ⟨⟨hrc, hrs, hfr, hlo, hws, hcw⟩, hcode, hini, hy, hlen, hl, hstt⟩ := cw
  have hK : vx_Back l R p e below s args y 3 8 (PreOf R mc ms Pc) (PostOf Qc mc ms free) (vx_Post XC mc ms free) := vx_backW (hh := hh) (bytes := bytes) (maxL := maxL) (ret := ret) hM hp.1 hrc hrs hfr hlo hws hcw (fun a' U hW => word_at hW (Or.inl (by first | rfl | simp [Cond.onTables, Cond.keeps, Cond.steady])) hini)
  obtain ⟨hx, hb, hml, ho, -⟩ := S
  intro T hT X
  rcases vx_callSX X hx (hh := hh) (bytes := bytes) (maxL := maxL) (ret := ret) ho hl hstt hini hcode hy hK hg (hsize.trans hml.symm) (argsL := As) (rest := rest) (fun sig h => hn.trans (hlen sig h)) hstack hW (by rw [hb]; exact hdg)
    (fun vm₁ hW₁ => ⟨hf.1, hf.2, hp.2 (T.setVm vm₁) hT hW₁⟩) with ⟨v, vm₁, ⟨U', l2, c2, s2⟩, hW₁, X', ⟨g', mk, t, L, e1, e2, hq, h1, hL, h2, h3⟩, st⟩ | ⟨q, vm₁, ⟨U', l2, c2, s2⟩, hW₁, X', ⟨g', mk, t, L, E, ce, e1, e2, hq, hce, hcv, hcl, h1, hL, h2, h3⟩, st⟩
  · dsimp only [Pt.U, Pt.locs, Pt.cells, Pt.slots] at X' e1 e2 h1 h2 h3 st
    subst h1; subst h2; subst h3
    exact Or.inl ⟨v, (T.setVm vm₁).calling g' mk As.toArray, t, U', L, hT, X', hL, e1, e2, hq, st⟩
  · dsimp only [Pt.U, Pt.locs, Pt.cells, Pt.slots] at X' e1 e2 h1 h2 h3 st hcl
    subst h1; subst h2; subst h3
    exact Or.inr ⟨q, (T.setVm vm₁).calling g' mk As.toArray, t, U', L, E, ce, hT, X', hL, e1, e2, hq, hce, hcv, vx_cls hW₁ hcl, st⟩
end
end VXH
theorem vx_ofWH {l : Launch} {y : MethodName} {ws ws' : List Cond} {rm : Room} {Pc : Array Value → State → Prop} {Qc : Array Value → State → Outcome → State → Prop} {XC : String → State → State → Prop} {mc ms : Nat} {free : Addr → Prop} {cc : ByteArray} {maxL : Nat} {ret : Option FieldType} {hh : List (Nat × Nat × Nat × Nat)}
    (hy : plainName y.cls = true) (hw : ws = Cond.codeWith y cc maxL ret hh :: ws')
    (body : ∀ p e s m args below meth c s₁, BodyLoose p l y (headSpec ws rm) cc maxL ret e s m args below meth c s₁ → c.maxLocals = maxL → Pc args s →
      W p l e (headSpec ws rm).room s m args below meth c s.heap [] 0 0 (vx_MQ below Qc XC args s mc ms free) (entryFrame m args maxL)) : vx_Met l y ws rm Pc Qc XC mc ms free := by
  refine MetFree.of_bodyS (code := cc) (maxLocals := maxL) (ret := ret) hy ?_ ?_
  · intro args s m h hn
    obtain ⟨m9, meth, c, hn9, h1, h2, h3, h4, -, h5, h6, -⟩ := Cond.codeWith_spec (atoms_spec (ws := ws) h _ (by rw [hw]; exact List.mem_cons_self))
    cases hn.symm.trans hn9
    exact ⟨meth, c, h1, h2, h3, h4, h5, h6⟩
  · intro p e s m args below meth c s₁ B hml hP _
    have hh0 : s₁.heap = s.heap := by rw [B.state]; rfl
    obtain ⟨t, a1, o, b1, b2, b3⟩ := body p e s m args below meth c s₁ B hml hP s₁ hh0 (Stand.of_body B)
    exact ⟨t, o, a1, b1, b2, b3⟩
/-! ===== END ===== -/
end
section
/-! ===== BEGIN printed: names, fields, word lists, decode rows ===== -/
def RX0 : String := "TypeLevels$Among"
def TX0 : u_T := fun k => match k with
  | 0 => ("TypeLevels$Among", "store", "LTypeLevels$Store;", true)
  | 1 => ("TypeLevels$Among", "table", "LTypeLevels$Table;", true)
  | 2 => ("TypeLevels$Among", "way", "[I", true)
  | _ => ("TypeLevels$Among", "starts", "[I", true)
def tyX0 : Nat → FieldType := fun k => match k with
  | 0 => .object "TypeLevels$Store"
  | 1 => .object "TypeLevels$Table"
  | 2 => .array .int
  | _ => .array .int
abbrev wsX00 : List Cond := u_ws RX0 TX0 4
theorem nmX0 : ∀ a, a < 4 → ∀ b, b < 4 → a ≠ b → (TX0 a).2.1 ≠ (TX0 b).2.1 := by decide +kernel
theorem tyX0_ok : ∀ k, k < 4 → parseFieldDescriptor (TX0 k).2.2.1 = some (tyX0 k) := by decide +kernel
abbrev cX0_init : ByteArray := prog_2_method_1_code
def yX0_init : MethodName := ⟨RX0, "<init>", "(LTypeLevels$Store;LTypeLevels$Table;)V"⟩
abbrev cX0_onTheWay : ByteArray := prog_2_method_2_code
def yX0_onTheWay : MethodName := ⟨RX0, "onTheWay", "(I)I"⟩
abbrev cX0_fitting : ByteArray := prog_2_method_3_code
def yX0_fitting : MethodName := ⟨RX0, "fitting", "(I)I"⟩
abbrev cX0_meets : ByteArray := prog_2_method_4_code
def yX0_meets : MethodName := ⟨RX0, "meets", "(II)Z"⟩
abbrev cX0_covers : ByteArray := prog_2_method_5_code
def yX0_covers : MethodName := ⟨RX0, "covers", "(II)Z"⟩
abbrev cX0_standsFor : ByteArray := prog_2_method_6_code
def yX0_standsFor : MethodName := ⟨RX0, "standsFor", "(III)Z"⟩
abbrev cX0_fewest : ByteArray := prog_2_method_7_code
def yX0_fewest : MethodName := ⟨RX0, "fewest", "(II)I"⟩
abbrev cX0_leads : ByteArray := prog_2_method_8_code
def yX0_leads : MethodName := ⟨RX0, "leads", "(IIII)Z"⟩
abbrev cX0_alike : ByteArray := prog_2_method_9_code
def yX0_alike : MethodName := ⟨RX0, "alike", "(I)I"⟩
def RX1 : String := "TypeLevels$Code"
def TX1 : u_T := fun k => match k with
  | 0 => ("TypeLevels$Code", "orders", "[I", true)
  | 1 => ("TypeLevels$Code", "arguments", "[I", true)
  | 2 => ("TypeLevels$Code", "places", "[I", true)
  | 3 => ("TypeLevels$Code", "jumps", "[I", true)
  | 4 => ("TypeLevels$Code", "sizes", "[I", true)
  | _ => ("TypeLevels$Code", "slot", "I", false)
def tyX1 : Nat → FieldType := fun k => match k with
  | 0 => .array .int
  | 1 => .array .int
  | 2 => .array .int
  | 3 => .array .int
  | 4 => .array .int
  | _ => .int
abbrev wsX10 : List Cond := u_ws RX1 TX1 6
theorem nmX1 : ∀ a, a < 6 → ∀ b, b < 6 → a ≠ b → (TX1 a).2.1 ≠ (TX1 b).2.1 := by decide +kernel
theorem tyX1_ok : ∀ k, k < 6 → parseFieldDescriptor (TX1 k).2.2.1 = some (tyX1 k) := by decide +kernel
abbrev cX1_init : ByteArray := prog_3_method_1_code
def yX1_init : MethodName := ⟨RX1, "<init>", "()V"⟩
abbrev cX1_begin : ByteArray := prog_3_method_2_code
def yX1_begin : MethodName := ⟨RX1, "begin", "(I)V"⟩
abbrev cX1_emit : ByteArray := prog_3_method_3_code
def yX1_emit : MethodName := ⟨RX1, "emit", "(III)I"⟩
abbrev cX1_aim : ByteArray := prog_3_method_4_code
def yX1_aim : MethodName := ⟨RX1, "aim", "(I)V"⟩
abbrev cX1_ask : ByteArray := prog_3_method_5_code
def yX1_ask : MethodName := ⟨RX1, "ask", "(II)V"⟩
abbrev cX1_copy : ByteArray := prog_3_method_6_code
def yX1_copy : MethodName := ⟨RX1, "copy", "(II)V"⟩
abbrev cX1_start : ByteArray := prog_3_method_7_code
def yX1_start : MethodName := ⟨RX1, "start", "(I)I"⟩
abbrev cX1_sizeOf : ByteArray := prog_3_method_8_code
def yX1_sizeOf : MethodName := ⟨RX1, "sizeOf", "(I)I"⟩
abbrev cX1_has : ByteArray := prog_3_method_9_code
def yX1_has : MethodName := ⟨RX1, "has", "(I)Z"⟩
abbrev cX1_orderAt : ByteArray := prog_3_method_10_code
def yX1_orderAt : MethodName := ⟨RX1, "orderAt", "(I)I"⟩
abbrev cX1_argumentAt : ByteArray := prog_3_method_11_code
def yX1_argumentAt : MethodName := ⟨RX1, "argumentAt", "(I)I"⟩
abbrev cX1_placeOf : ByteArray := prog_3_method_12_code
def yX1_placeOf : MethodName := ⟨RX1, "placeOf", "(I)I"⟩
abbrev cX1_behindJump : ByteArray := prog_3_method_13_code
def yX1_behindJump : MethodName := ⟨RX1, "behindJump", "(I)I"⟩
abbrev cX1_isSign : ByteArray := prog_3_method_14_code
def yX1_isSign : MethodName := ⟨RX1, "isSign", "(I)Z"⟩
abbrev cX1_hasHole : ByteArray := prog_3_method_15_code
def yX1_hasHole : MethodName := ⟨RX1, "hasHole", "(I)Z"⟩
def RX2 : String := "TypeLevels$Finder"
def TX2 : u_T := fun k => match k with
  | 0 => ("TypeLevels$Finder", "store", "LTypeLevels$Store;", true)
  | 1 => ("TypeLevels$Finder", "code", "LTypeLevels$Code;", true)
  | 2 => ("TypeLevels$Finder", "table", "LTypeLevels$Table;", false)
  | 3 => ("TypeLevels$Finder", "types", "[I", true)
  | 4 => ("TypeLevels$Finder", "values", "[Z", true)
  | 5 => ("TypeLevels$Finder", "parts", "[I", true)
  | 6 => ("TypeLevels$Finder", "letters", "[I", true)
  | 7 => ("TypeLevels$Finder", "variables", "[I", true)
  | 8 => ("TypeLevels$Finder", "lengths", "[I", true)
  | 9 => ("TypeLevels$Finder", "rows", "[I", true)
  | 10 => ("TypeLevels$Finder", "height", "I", false)
  | 11 => ("TypeLevels$Finder", "bound", "I", false)
  | 12 => ("TypeLevels$Finder", "partsSeen", "I", false)
  | 13 => ("TypeLevels$Finder", "fault", "I", false)
  | 14 => ("TypeLevels$Finder", "place", "I", false)
  | 15 => ("TypeLevels$Finder", "holeNode", "I", false)
  | 16 => ("TypeLevels$Finder", "modesThen", "I", false)
  | _ => ("TypeLevels$Finder", "lastValue", "Z", false)
def tyX2 : Nat → FieldType := fun k => match k with
  | 0 => .object "TypeLevels$Store"
  | 1 => .object "TypeLevels$Code"
  | 2 => .object "TypeLevels$Table"
  | 3 => .array .int
  | 4 => .array .boolean
  | 5 => .array .int
  | 6 => .array .int
  | 7 => .array .int
  | 8 => .array .int
  | 9 => .array .int
  | 10 => .int
  | 11 => .int
  | 12 => .int
  | 13 => .int
  | 14 => .int
  | 15 => .int
  | 16 => .int
  | _ => .boolean
abbrev wsX20 : List Cond := u_ws RX2 TX2 18
theorem nmX2 : ∀ a, a < 18 → ∀ b, b < 18 → a ≠ b → (TX2 a).2.1 ≠ (TX2 b).2.1 := by decide +kernel
theorem tyX2_ok : ∀ k, k < 18 → parseFieldDescriptor (TX2 k).2.2.1 = some (tyX2 k) := by decide +kernel
abbrev cX2_init : ByteArray := prog_4_method_1_code
def yX2_init : MethodName := ⟨RX2, "<init>", "(LTypeLevels$Store;LTypeLevels$Code;LTypeLevels$Table;)V"⟩
abbrev cX2_typeFound : ByteArray := prog_4_method_2_code
def yX2_typeFound : MethodName := ⟨RX2, "typeFound", "()I"⟩
abbrev cX2_isValue : ByteArray := prog_4_method_3_code
def yX2_isValue : MethodName := ⟨RX2, "isValue", "()Z"⟩
abbrev cX2_faultPlace : ByteArray := prog_4_method_4_code
def yX2_faultPlace : MethodName := ⟨RX2, "faultPlace", "()I"⟩
abbrev cX2_holeType : ByteArray := prog_4_method_5_code
def yX2_holeType : MethodName := ⟨RX2, "holeType", "()I"⟩
abbrev cX2_partsFound : ByteArray := prog_4_method_6_code
def yX2_partsFound : MethodName := ⟨RX2, "partsFound", "()I"⟩
abbrev cX2_partFound : ByteArray := prog_4_method_7_code
def yX2_partFound : MethodName := ⟨RX2, "partFound", "(I)I"⟩
abbrev cX2_begin : ByteArray := prog_4_method_8_code
def yX2_begin : MethodName := ⟨RX2, "begin", "(LTypeLevels$Table;I)V"⟩
abbrev cX2_find : ByteArray := prog_4_method_9_code
def yX2_find : MethodName := ⟨RX2, "find", "(LTypeLevels$Table;III)I"⟩
abbrev cX2_fail : ByteArray := prog_4_method_10_code
def yX2_fail : MethodName := ⟨RX2, "fail", "(I)V"⟩
abbrev cX2_found : ByteArray := prog_4_method_11_code
def yX2_found : MethodName := ⟨RX2, "found", "(IZ)V"⟩
abbrev cX2_take : ByteArray := prog_4_method_12_code
def yX2_take : MethodName := ⟨RX2, "take", "()I"⟩
abbrev cX2_top : ByteArray := prog_4_method_13_code
def yX2_top : MethodName := ⟨RX2, "top", "()I"⟩
abbrev cX2_bind : ByteArray := prog_4_method_14_code
def yX2_bind : MethodName := ⟨RX2, "bind", "(II)V"⟩
abbrev cX2_unbind : ByteArray := prog_4_method_15_code
def yX2_unbind : MethodName := ⟨RX2, "unbind", "()I"⟩
abbrev cX2_letter : ByteArray := prog_4_method_16_code
def yX2_letter : MethodName := ⟨RX2, "letter", "(I)V"⟩
abbrev cX2_closeFunction : ByteArray := prog_4_method_17_code
def yX2_closeFunction : MethodName := ⟨RX2, "closeFunction", "()V"⟩
abbrev cX2_closeItself : ByteArray := prog_4_method_18_code
def yX2_closeItself : MethodName := ⟨RX2, "closeItself", "()V"⟩
abbrev cX2_bindLet : ByteArray := prog_4_method_19_code
def yX2_bindLet : MethodName := ⟨RX2, "bindLet", "(I)V"⟩
abbrev cX2_labelAround : ByteArray := prog_4_method_20_code
def yX2_labelAround : MethodName := ⟨RX2, "labelAround", "()V"⟩
abbrev cX2_closeLet : ByteArray := prog_4_method_21_code
def yX2_closeLet : MethodName := ⟨RX2, "closeLet", "()V"⟩
abbrev cX2_closeCondition : ByteArray := prog_4_method_22_code
def yX2_closeCondition : MethodName := ⟨RX2, "closeCondition", "()V"⟩
abbrev cX2_closeInts : ByteArray := prog_4_method_23_code
def yX2_closeInts : MethodName := ⟨RX2, "closeInts", "(I)V"⟩
abbrev cX2_write : ByteArray := prog_4_method_24_code
def yX2_write : MethodName := ⟨RX2, "write", "()V"⟩
abbrev cX2_takePart : ByteArray := prog_4_method_25_code
def yX2_takePart : MethodName := ⟨RX2, "takePart", "(Z)V"⟩
abbrev cX2_readCell : ByteArray := prog_4_method_26_code
def yX2_readCell : MethodName := ⟨RX2, "readCell", "()V"⟩
abbrev cX2_pair : ByteArray := prog_4_method_27_code
def yX2_pair : MethodName := ⟨RX2, "pair", "()V"⟩
abbrev cX2_apply : ByteArray := prog_4_method_28_code
def yX2_apply : MethodName := ⟨RX2, "apply", "()V"⟩
def RX3 : String := "TypeLevels$Heard"
def TX3 : u_T := fun k => match k with
  | 0 => ("TypeLevels$Heard", "whats", "[I", true)
  | 1 => ("TypeLevels$Heard", "numbers", "[I", true)
  | _ => ("TypeLevels$Heard", "size", "I", false)
def tyX3 : Nat → FieldType := fun k => match k with
  | 0 => .array .int
  | 1 => .array .int
  | _ => .int
abbrev wsX30 : List Cond := u_ws RX3 TX3 3
theorem nmX3 : ∀ a, a < 3 → ∀ b, b < 3 → a ≠ b → (TX3 a).2.1 ≠ (TX3 b).2.1 := by decide +kernel
theorem tyX3_ok : ∀ k, k < 3 → parseFieldDescriptor (TX3 k).2.2.1 = some (tyX3 k) := by decide +kernel
abbrev cX3_init : ByteArray := prog_5_method_1_code
def yX3_init : MethodName := ⟨RX3, "<init>", "()V"⟩
abbrev cX3_size : ByteArray := prog_5_method_2_code
def yX3_size : MethodName := ⟨RX3, "size", "()I"⟩
abbrev cX3_clear : ByteArray := prog_5_method_3_code
def yX3_clear : MethodName := ⟨RX3, "clear", "()V"⟩
abbrev cX3_highest : ByteArray := prog_5_method_4_code
def yX3_highest : MethodName := ⟨RX3, "highest", "(I)I"⟩
abbrev cX3_add : ByteArray := prog_5_method_5_code
def yX3_add : MethodName := ⟨RX3, "add", "(II)Z"⟩
abbrev cX3_fitting : ByteArray := prog_5_method_6_code
def yX3_fitting : MethodName := ⟨RX3, "fitting", "(LTypeLevels$Table;)I"⟩
abbrev cX3_leftAtMost : ByteArray := prog_5_method_7_code
def yX3_leftAtMost : MethodName := ⟨RX3, "leftAtMost", "(LTypeLevels$Table;III)I"⟩
abbrev cX3_holding : ByteArray := prog_5_method_8_code
def yX3_holding : MethodName := ⟨RX3, "holding", "(LTypeLevels$Table;II)I"⟩
abbrev cX3_holds : ByteArray := prog_5_method_9_code
def yX3_holds : MethodName := ⟨RX3, "holds", "(LTypeLevels$Table;III)Z"⟩
abbrev cX3_outermost : ByteArray := prog_5_method_10_code
def yX3_outermost : MethodName := ⟨RX3, "outermost", "(I)I"⟩
def RX4 : String := "TypeLevels$Machine"
def TX4 : u_T := fun k => match k with
  | 0 => ("TypeLevels$Machine", "code", "LTypeLevels$Code;", true)
  | 1 => ("TypeLevels$Machine", "heap", "[I", true)
  | 2 => ("TypeLevels$Machine", "kinds", "[I", true)
  | 3 => ("TypeLevels$Machine", "datas", "[I", true)
  | 4 => ("TypeLevels$Machine", "returns", "[I", true)
  | 5 => ("TypeLevels$Machine", "saved", "[I", true)
  | 6 => ("TypeLevels$Machine", "used", "I", false)
  | 7 => ("TypeLevels$Machine", "height", "I", false)
  | 8 => ("TypeLevels$Machine", "frames", "I", false)
  | 9 => ("TypeLevels$Machine", "steps", "I", false)
  | 10 => ("TypeLevels$Machine", "at", "I", false)
  | 11 => ("TypeLevels$Machine", "around", "I", false)
  | 12 => ("TypeLevels$Machine", "state", "I", false)
  | 13 => ("TypeLevels$Machine", "kind", "I", false)
  | _ => ("TypeLevels$Machine", "data", "I", false)
def tyX4 : Nat → FieldType := fun k => match k with
  | 0 => .object "TypeLevels$Code"
  | 1 => .array .int
  | 2 => .array .int
  | 3 => .array .int
  | 4 => .array .int
  | 5 => .array .int
  | 6 => .int
  | 7 => .int
  | 8 => .int
  | 9 => .int
  | 10 => .int
  | 11 => .int
  | 12 => .int
  | 13 => .int
  | _ => .int
abbrev wsX40 : List Cond := u_ws RX4 TX4 15
theorem nmX4 : ∀ a, a < 15 → ∀ b, b < 15 → a ≠ b → (TX4 a).2.1 ≠ (TX4 b).2.1 := by decide +kernel
theorem tyX4_ok : ∀ k, k < 15 → parseFieldDescriptor (TX4 k).2.2.1 = some (tyX4 k) := by decide +kernel
abbrev cX4_init : ByteArray := prog_6_method_1_code
def yX4_init : MethodName := ⟨RX4, "<init>", "(LTypeLevels$Code;)V"⟩
abbrev cX4_stepsDone : ByteArray := prog_6_method_2_code
def yX4_stepsDone : MethodName := ⟨RX4, "stepsDone", "()I"⟩
abbrev cX4_kindCome : ByteArray := prog_6_method_3_code
def yX4_kindCome : MethodName := ⟨RX4, "kindCome", "()I"⟩
abbrev cX4_intCome : ByteArray := prog_6_method_4_code
def yX4_intCome : MethodName := ⟨RX4, "intCome", "()I"⟩
abbrev cX4_run : ByteArray := prog_6_method_5_code
def yX4_run : MethodName := ⟨RX4, "run", "(I)I"⟩
abbrev cX4_stop : ByteArray := prog_6_method_6_code
def yX4_stop : MethodName := ⟨RX4, "stop", "(I)V"⟩
abbrev cX4_push : ByteArray := prog_6_method_7_code
def yX4_push : MethodName := ⟨RX4, "push", "(II)V"⟩
abbrev cX4_pop : ByteArray := prog_6_method_8_code
def yX4_pop : MethodName := ⟨RX4, "pop", "()V"⟩
abbrev cX4_heapAt : ByteArray := prog_6_method_9_code
def yX4_heapAt : MethodName := ⟨RX4, "heapAt", "(I)I"⟩
abbrev cX4_put : ByteArray := prog_6_method_10_code
def yX4_put : MethodName := ⟨RX4, "put", "(III)V"⟩
abbrev cX4_take : ByteArray := prog_6_method_11_code
def yX4_take : MethodName := ⟨RX4, "take", "(I)I"⟩
abbrev cX4_surround : ByteArray := prog_6_method_12_code
def yX4_surround : MethodName := ⟨RX4, "surround", "(IIII)I"⟩
abbrev cX4_step : ByteArray := prog_6_method_13_code
def yX4_step : MethodName := ⟨RX4, "step", "()V"⟩
abbrev cX4_enter : ByteArray := prog_6_method_14_code
def yX4_enter : MethodName := ⟨RX4, "enter", "(I)V"⟩
abbrev cX4_leave : ByteArray := prog_6_method_15_code
def yX4_leave : MethodName := ⟨RX4, "leave", "()I"⟩
abbrev cX4_letter : ByteArray := prog_6_method_16_code
def yX4_letter : MethodName := ⟨RX4, "letter", "(I)I"⟩
abbrev cX4_standsFor : ByteArray := prog_6_method_17_code
def yX4_standsFor : MethodName := ⟨RX4, "standsFor", "(I)I"⟩
abbrev cX4_openFunction : ByteArray := prog_6_method_18_code
def yX4_openFunction : MethodName := ⟨RX4, "openFunction", "()I"⟩
abbrev cX4_openItself : ByteArray := prog_6_method_19_code
def yX4_openItself : MethodName := ⟨RX4, "openItself", "(I)V"⟩
abbrev cX4_bindLet : ByteArray := prog_6_method_20_code
def yX4_bindLet : MethodName := ⟨RX4, "bindLet", "(I)V"⟩
abbrev cX4_test : ByteArray := prog_6_method_21_code
def yX4_test : MethodName := ⟨RX4, "test", "()I"⟩
abbrev cX4_compute : ByteArray := prog_6_method_22_code
def yX4_compute : MethodName := ⟨RX4, "compute", "(I)V"⟩
abbrev cX4_write : ByteArray := prog_6_method_23_code
def yX4_write : MethodName := ⟨RX4, "write", "()V"⟩
abbrev cX4_takePart : ByteArray := prog_6_method_24_code
def yX4_takePart : MethodName := ⟨RX4, "takePart", "(I)V"⟩
abbrev cX4_makeCell : ByteArray := prog_6_method_25_code
def yX4_makeCell : MethodName := ⟨RX4, "makeCell", "()V"⟩
abbrev cX4_readCell : ByteArray := prog_6_method_26_code
def yX4_readCell : MethodName := ⟨RX4, "readCell", "()V"⟩
abbrev cX4_pair : ByteArray := prog_6_method_27_code
def yX4_pair : MethodName := ⟨RX4, "pair", "()V"⟩
abbrev cX4_apply : ByteArray := prog_6_method_28_code
def yX4_apply : MethodName := ⟨RX4, "apply", "()I"⟩
abbrev cX4_tell : ByteArray := prog_6_method_29_code
def yX4_tell : MethodName := ⟨RX4, "tell", "(LTypeLevels$Told;)V"⟩
def RX5 : String := "TypeLevels$Past"
def TX5 : u_T := fun k => match k with
  | 0 => ("TypeLevels$Past", "states", "[I", true)
  | 1 => ("TypeLevels$Past", "next", "I", false)
  | _ => ("TypeLevels$Past", "size", "I", false)
def tyX5 : Nat → FieldType := fun k => match k with
  | 0 => .array .int
  | 1 => .int
  | _ => .int
abbrev wsX50 : List Cond := u_ws RX5 TX5 3
theorem nmX5 : ∀ a, a < 3 → ∀ b, b < 3 → a ≠ b → (TX5 a).2.1 ≠ (TX5 b).2.1 := by decide +kernel
theorem tyX5_ok : ∀ k, k < 3 → parseFieldDescriptor (TX5 k).2.2.1 = some (tyX5 k) := by decide +kernel
abbrev cX5_init : ByteArray := prog_7_method_1_code
def yX5_init : MethodName := ⟨RX5, "<init>", "()V"⟩
abbrev cX5_size : ByteArray := prog_7_method_2_code
def yX5_size : MethodName := ⟨RX5, "size", "()I"⟩
abbrev cX5_keep : ByteArray := prog_7_method_3_code
def yX5_keep : MethodName := ⟨RX5, "keep", "(LTypeLevels$Table;I)V"⟩
abbrev cX5_back : ByteArray := prog_7_method_4_code
def yX5_back : MethodName := ⟨RX5, "back", "(LTypeLevels$Table;)I"⟩
def RX6 : String := "TypeLevels$Reader"
def TX6 : u_T := fun k => match k with
  | 0 => ("TypeLevels$Reader", "code", "LTypeLevels$Code;", true)
  | 1 => ("TypeLevels$Reader", "signs", "[I", false)
  | 2 => ("TypeLevels$Reader", "size", "I", false)
  | 3 => ("TypeLevels$Reader", "at", "I", false)
  | 4 => ("TypeLevels$Reader", "refused", "I", false)
  | _ => ("TypeLevels$Reader", "holes", "Z", false)
def tyX6 : Nat → FieldType := fun k => match k with
  | 0 => .object "TypeLevels$Code"
  | 1 => .array .int
  | 2 => .int
  | 3 => .int
  | 4 => .int
  | _ => .boolean
abbrev wsX60 : List Cond := u_ws RX6 TX6 6
theorem nmX6 : ∀ a, a < 6 → ∀ b, b < 6 → a ≠ b → (TX6 a).2.1 ≠ (TX6 b).2.1 := by decide +kernel
theorem tyX6_ok : ∀ k, k < 6 → parseFieldDescriptor (TX6 k).2.2.1 = some (tyX6 k) := by decide +kernel
abbrev cX6_init : ByteArray := prog_8_method_1_code
def yX6_init : MethodName := ⟨RX6, "<init>", "(LTypeLevels$Code;)V"⟩
abbrev cX6_read : ByteArray := prog_8_method_2_code
def yX6_read : MethodName := ⟨RX6, "read", "([IIIIZ)I"⟩
abbrev cX6_peek : ByteArray := prog_8_method_3_code
def yX6_peek : MethodName := ⟨RX6, "peek", "()I"⟩
abbrev cX6_refuse : ByteArray := prog_8_method_4_code
def yX6_refuse : MethodName := ⟨RX6, "refuse", "()V"⟩
abbrev cX6_expect : ByteArray := prog_8_method_5_code
def yX6_expect : MethodName := ⟨RX6, "expect", "(I)V"⟩
abbrev cX6_opens : ByteArray := prog_8_method_6_code
def yX6_opens : MethodName := ⟨RX6, "opens", "(I)Z"⟩
abbrev cX6_isLetter : ByteArray := prog_8_method_7_code
def yX6_isLetter : MethodName := ⟨RX6, "isLetter", "(I)Z"⟩
abbrev cX6_isDigit : ByteArray := prog_8_method_8_code
def yX6_isDigit : MethodName := ⟨RX6, "isDigit", "(I)Z"⟩
abbrev cX6_boundLetter : ByteArray := prog_8_method_9_code
def yX6_boundLetter : MethodName := ⟨RX6, "boundLetter", "()I"⟩
abbrev cX6_expression : ByteArray := prog_8_method_10_code
def yX6_expression : MethodName := ⟨RX6, "expression", "(I)I"⟩
abbrev cX6_binder : ByteArray := prog_8_method_11_code
def yX6_binder : MethodName := ⟨RX6, "binder", "(III)I"⟩
abbrev cX6_let : ByteArray := prog_8_method_12_code
def yX6_let : MethodName := ⟨RX6, "let", "(I)I"⟩
abbrev cX6_assignment : ByteArray := prog_8_method_13_code
def yX6_assignment : MethodName := ⟨RX6, "assignment", "(I)I"⟩
abbrev cX6_comparison : ByteArray := prog_8_method_14_code
def yX6_comparison : MethodName := ⟨RX6, "comparison", "(I)I"⟩
abbrev cX6_sum : ByteArray := prog_8_method_15_code
def yX6_sum : MethodName := ⟨RX6, "sum", "(I)I"⟩
abbrev cX6_term : ByteArray := prog_8_method_16_code
def yX6_term : MethodName := ⟨RX6, "term", "(I)I"⟩
abbrev cX6_beginsFactor : ByteArray := prog_8_method_17_code
def yX6_beginsFactor : MethodName := ⟨RX6, "beginsFactor", "(I)Z"⟩
abbrev cX6_factor : ByteArray := prog_8_method_18_code
def yX6_factor : MethodName := ⟨RX6, "factor", "(I)I"⟩
abbrev cX6_leaf : ByteArray := prog_8_method_19_code
def yX6_leaf : MethodName := ⟨RX6, "leaf", "(I)V"⟩
abbrev cX6_number : ByteArray := prog_8_method_20_code
def yX6_number : MethodName := ⟨RX6, "number", "()V"⟩
abbrev cX6_inside : ByteArray := prog_8_method_21_code
def yX6_inside : MethodName := ⟨RX6, "inside", "(I)I"⟩
abbrev cX6_pair : ByteArray := prog_8_method_22_code
def yX6_pair : MethodName := ⟨RX6, "pair", "(I)I"⟩
abbrev cX6_condition : ByteArray := prog_8_method_23_code
def yX6_condition : MethodName := ⟨RX6, "condition", "(I)I"⟩
abbrev cX6_prefix : ByteArray := prog_8_method_24_code
def yX6_prefix : MethodName := ⟨RX6, "prefix", "(II)I"⟩
def RX7 : String := "TypeLevels$Store"
def TX7 : u_T := fun k => match k with
  | 0 => ("TypeLevels$Store", "kinds", "[I", true)
  | 1 => ("TypeLevels$Store", "firsts", "[I", true)
  | 2 => ("TypeLevels$Store", "seconds", "[I", true)
  | 3 => ("TypeLevels$Store", "links", "[I", true)
  | 4 => ("TypeLevels$Store", "marks", "[I", true)
  | 5 => ("TypeLevels$Store", "labels", "[I", true)
  | 6 => ("TypeLevels$Store", "work", "[I", true)
  | 7 => ("TypeLevels$Store", "lefts", "[I", true)
  | 8 => ("TypeLevels$Store", "rights", "[I", true)
  | 9 => ("TypeLevels$Store", "trail", "[I", true)
  | 10 => ("TypeLevels$Store", "fresh", "[I", true)
  | 11 => ("TypeLevels$Store", "built", "[I", true)
  | 12 => ("TypeLevels$Store", "plain", "[I", true)
  | 13 => ("TypeLevels$Store", "plains", "I", false)
  | 14 => ("TypeLevels$Store", "size", "I", false)
  | 15 => ("TypeLevels$Store", "trailed", "I", false)
  | 16 => ("TypeLevels$Store", "stamp", "I", false)
  | 17 => ("TypeLevels$Store", "weakSeen", "I", false)
  | 18 => ("TypeLevels$Store", "intNode", "I", false)
  | _ => ("TypeLevels$Store", "boolNode", "I", false)
def tyX7 : Nat → FieldType := fun k => match k with
  | 0 => .array .int
  | 1 => .array .int
  | 2 => .array .int
  | 3 => .array .int
  | 4 => .array .int
  | 5 => .array .int
  | 6 => .array .int
  | 7 => .array .int
  | 8 => .array .int
  | 9 => .array .int
  | 10 => .array .int
  | 11 => .array .int
  | 12 => .array .int
  | 13 => .int
  | 14 => .int
  | 15 => .int
  | 16 => .int
  | 17 => .int
  | 18 => .int
  | _ => .int
abbrev wsX70 : List Cond := u_ws RX7 TX7 20
theorem nmX7 : ∀ a, a < 20 → ∀ b, b < 20 → a ≠ b → (TX7 a).2.1 ≠ (TX7 b).2.1 := by decide +kernel
theorem tyX7_ok : ∀ k, k < 20 → parseFieldDescriptor (TX7 k).2.2.1 = some (tyX7 k) := by decide +kernel
abbrev cX7_init : ByteArray := prog_9_method_1_code
def yX7_init : MethodName := ⟨RX7, "<init>", "()V"⟩
abbrev cX7_renew : ByteArray := prog_9_method_2_code
def yX7_renew : MethodName := ⟨RX7, "renew", "(I)V"⟩
abbrev cX7_make : ByteArray := prog_9_method_3_code
def yX7_make : MethodName := ⟨RX7, "make", "(III)I"⟩
abbrev cX7_makeVariable : ByteArray := prog_9_method_4_code
def yX7_makeVariable : MethodName := ⟨RX7, "makeVariable", "()I"⟩
abbrev cX7_intType : ByteArray := prog_9_method_5_code
def yX7_intType : MethodName := ⟨RX7, "intType", "()I"⟩
abbrev cX7_boolType : ByteArray := prog_9_method_6_code
def yX7_boolType : MethodName := ⟨RX7, "boolType", "()I"⟩
abbrev cX7_isInt : ByteArray := prog_9_method_7_code
def yX7_isInt : MethodName := ⟨RX7, "isInt", "(I)Z"⟩
abbrev cX7_made : ByteArray := prog_9_method_8_code
def yX7_made : MethodName := ⟨RX7, "made", "()I"⟩
abbrev cX7_tied : ByteArray := prog_9_method_9_code
def yX7_tied : MethodName := ⟨RX7, "tied", "()I"⟩
abbrev cX7_back : ByteArray := prog_9_method_10_code
def yX7_back : MethodName := ⟨RX7, "back", "(II)V"⟩
abbrev cX7_root : ByteArray := prog_9_method_11_code
def yX7_root : MethodName := ⟨RX7, "root", "(I)I"⟩
abbrev cX7_link : ByteArray := prog_9_method_12_code
def yX7_link : MethodName := ⟨RX7, "link", "(II)I"⟩
abbrev cX7_pushParts : ByteArray := prog_9_method_13_code
def yX7_pushParts : MethodName := ⟨RX7, "pushParts", "(II)I"⟩
abbrev cX7_makeOne : ByteArray := prog_9_method_14_code
def yX7_makeOne : MethodName := ⟨RX7, "makeOne", "(II)I"⟩
abbrev cX7_merge : ByteArray := prog_9_method_15_code
def yX7_merge : MethodName := ⟨RX7, "merge", "(II)V"⟩
abbrev cX7_pushPairs : ByteArray := prog_9_method_16_code
def yX7_pushPairs : MethodName := ⟨RX7, "pushPairs", "(III)I"⟩
abbrev cX7_contains : ByteArray := prog_9_method_17_code
def yX7_contains : MethodName := ⟨RX7, "contains", "(II)Z"⟩
abbrev cX7_nodesOf : ByteArray := prog_9_method_18_code
def yX7_nodesOf : MethodName := ⟨RX7, "nodesOf", "(I)I"⟩
abbrev cX7_clearLabels : ByteArray := prog_9_method_19_code
def yX7_clearLabels : MethodName := ⟨RX7, "clearLabels", "()V"⟩
abbrev cX7_weakLabelled : ByteArray := prog_9_method_20_code
def yX7_weakLabelled : MethodName := ⟨RX7, "weakLabelled", "()I"⟩
abbrev cX7_label : ByteArray := prog_9_method_21_code
def yX7_label : MethodName := ⟨RX7, "label", "(IZ)V"⟩
abbrev cX7_labelWeak : ByteArray := prog_9_method_22_code
def yX7_labelWeak : MethodName := ⟨RX7, "labelWeak", "(I)V"⟩
abbrev cX7_write : ByteArray := prog_9_method_23_code
def yX7_write : MethodName := ⟨RX7, "write", "(I[III)I"⟩
abbrev cX7_labelOf : ByteArray := prog_9_method_24_code
def yX7_labelOf : MethodName := ⟨RX7, "labelOf", "(I)I"⟩
abbrev cX7_build : ByteArray := prog_9_method_25_code
def yX7_build : MethodName := ⟨RX7, "build", "([III)I"⟩
abbrev cX7_builtLeaf : ByteArray := prog_9_method_26_code
def yX7_builtLeaf : MethodName := ⟨RX7, "builtLeaf", "(I)I"⟩
def RX8 : String := "TypeLevels$Table"
def TX8 : u_T := fun k => match k with
  | 0 => ("TypeLevels$Table", "store", "LTypeLevels$Store;", true)
  | 1 => ("TypeLevels$Table", "letters", "[I", true)
  | 2 => ("TypeLevels$Table", "values", "[I", true)
  | 3 => ("TypeLevels$Table", "signs", "[I", true)
  | 4 => ("TypeLevels$Table", "places", "[I", true)
  | 5 => ("TypeLevels$Table", "lengths", "[I", true)
  | 6 => ("TypeLevels$Table", "rows", "[I", true)
  | 7 => ("TypeLevels$Table", "nextLengths", "[I", true)
  | 8 => ("TypeLevels$Table", "nextRows", "[I", true)
  | 9 => ("TypeLevels$Table", "size", "I", false)
  | 10 => ("TypeLevels$Table", "weak", "I", false)
  | _ => ("TypeLevels$Table", "nextWeak", "I", false)
def tyX8 : Nat → FieldType := fun k => match k with
  | 0 => .object "TypeLevels$Store"
  | 1 => .array .int
  | 2 => .array .int
  | 3 => .array .int
  | 4 => .array .int
  | 5 => .array .int
  | 6 => .array .int
  | 7 => .array .int
  | 8 => .array .int
  | 9 => .int
  | 10 => .int
  | _ => .int
abbrev wsX80 : List Cond := u_ws RX8 TX8 12
theorem nmX8 : ∀ a, a < 12 → ∀ b, b < 12 → a ≠ b → (TX8 a).2.1 ≠ (TX8 b).2.1 := by decide +kernel
theorem tyX8_ok : ∀ k, k < 12 → parseFieldDescriptor (TX8 k).2.2.1 = some (tyX8 k) := by decide +kernel
abbrev cX8_init : ByteArray := prog_10_method_1_code
def yX8_init : MethodName := ⟨RX8, "<init>", "(LTypeLevels$Store;)V"⟩
abbrev cX8_clear : ByteArray := prog_10_method_2_code
def yX8_clear : MethodName := ⟨RX8, "clear", "()V"⟩
abbrev cX8_shrink : ByteArray := prog_10_method_3_code
def yX8_shrink : MethodName := ⟨RX8, "shrink", "(I)V"⟩
abbrev cX8_size : ByteArray := prog_10_method_4_code
def yX8_size : MethodName := ⟨RX8, "size", "()I"⟩
abbrev cX8_weakTotal : ByteArray := prog_10_method_5_code
def yX8_weakTotal : MethodName := ⟨RX8, "weakTotal", "()I"⟩
abbrev cX8_knows : ByteArray := prog_10_method_6_code
def yX8_knows : MethodName := ⟨RX8, "knows", "(I)Z"⟩
abbrev cX8_placeOf : ByteArray := prog_10_method_7_code
def yX8_placeOf : MethodName := ⟨RX8, "placeOf", "(I)I"⟩
abbrev cX8_has : ByteArray := prog_10_method_8_code
def yX8_has : MethodName := ⟨RX8, "has", "(I)Z"⟩
abbrev cX8_letterAt : ByteArray := prog_10_method_9_code
def yX8_letterAt : MethodName := ⟨RX8, "letterAt", "(I)I"⟩
abbrev cX8_nodesOf : ByteArray := prog_10_method_10_code
def yX8_nodesOf : MethodName := ⟨RX8, "nodesOf", "(I)I"⟩
abbrev cX8_valueOf : ByteArray := prog_10_method_11_code
def yX8_valueOf : MethodName := ⟨RX8, "valueOf", "(I)I"⟩
abbrev cX8_signsOf : ByteArray := prog_10_method_12_code
def yX8_signsOf : MethodName := ⟨RX8, "signsOf", "(I)I"⟩
abbrev cX8_codeAt : ByteArray := prog_10_method_13_code
def yX8_codeAt : MethodName := ⟨RX8, "codeAt", "(II)I"⟩
abbrev cX8_bits : ByteArray := prog_10_method_14_code
def yX8_bits : MethodName := ⟨RX8, "bits", "()I"⟩
abbrev cX8_allNodes : ByteArray := prog_10_method_15_code
def yX8_allNodes : MethodName := ⟨RX8, "allNodes", "()I"⟩
abbrev cX8_generalsOf : ByteArray := prog_10_method_16_code
def yX8_generalsOf : MethodName := ⟨RX8, "generalsOf", "(I)I"⟩
abbrev cX8_weakOf : ByteArray := prog_10_method_17_code
def yX8_weakOf : MethodName := ⟨RX8, "weakOf", "(I)I"⟩
abbrev cX8_isFirst : ByteArray := prog_10_method_18_code
def yX8_isFirst : MethodName := ⟨RX8, "isFirst", "(II)Z"⟩
abbrev cX8_throughsOf : ByteArray := prog_10_method_19_code
def yX8_throughsOf : MethodName := ⟨RX8, "throughsOf", "(I)I"⟩
abbrev cX8_behindPart : ByteArray := prog_10_method_20_code
def yX8_behindPart : MethodName := ⟨RX8, "behindPart", "(II)I"⟩
abbrev cX8_sameRow : ByteArray := prog_10_method_21_code
def yX8_sameRow : MethodName := ⟨RX8, "sameRow", "(ILTypeLevels$Table;I)Z"⟩
abbrev cX8_instance : ByteArray := prog_10_method_22_code
def yX8_instance : MethodName := ⟨RX8, "instance", "(I)I"⟩
abbrev cX8_prepare : ByteArray := prog_10_method_23_code
def yX8_prepare : MethodName := ⟨RX8, "prepare", "(IZ)Z"⟩
abbrev cX8_prepareRow : ByteArray := prog_10_method_24_code
def yX8_prepareRow : MethodName := ⟨RX8, "prepareRow", "(I)I"⟩
abbrev cX8_commit : ByteArray := prog_10_method_25_code
def yX8_commit : MethodName := ⟨RX8, "commit", "(IZI)V"⟩
abbrev cX8_save : ByteArray := prog_10_method_26_code
def yX8_save : MethodName := ⟨RX8, "save", "([II)V"⟩
abbrev cX8_load : ByteArray := prog_10_method_27_code
def yX8_load : MethodName := ⟨RX8, "load", "([II)V"⟩
def RX9 : String := "TypeLevels$Told"
def TX9 : u_T := fun k => match k with
  | 0 => ("TypeLevels$Told", "numbers", "[I", true)
  | _ => ("TypeLevels$Told", "size", "I", false)
def tyX9 : Nat → FieldType := fun k => match k with
  | 0 => .array .int
  | _ => .int
abbrev wsX90 : List Cond := u_ws RX9 TX9 2
theorem nmX9 : ∀ a, a < 2 → ∀ b, b < 2 → a ≠ b → (TX9 a).2.1 ≠ (TX9 b).2.1 := by decide +kernel
theorem tyX9_ok : ∀ k, k < 2 → parseFieldDescriptor (TX9 k).2.2.1 = some (tyX9 k) := by decide +kernel
abbrev cX9_init : ByteArray := prog_11_method_1_code
def yX9_init : MethodName := ⟨RX9, "<init>", "()V"⟩
abbrev cX9_clear : ByteArray := prog_11_method_2_code
def yX9_clear : MethodName := ⟨RX9, "clear", "()V"⟩
abbrev cX9_add : ByteArray := prog_11_method_3_code
def yX9_add : MethodName := ⟨RX9, "add", "(I)V"⟩
abbrev cX9_addType : ByteArray := prog_11_method_4_code
def yX9_addType : MethodName := ⟨RX9, "addType", "(LTypeLevels$Store;I)I"⟩
abbrev cX9_size : ByteArray := prog_11_method_5_code
def yX9_size : MethodName := ⟨RX9, "size", "()I"⟩
abbrev cX9_at : ByteArray := prog_11_method_6_code
def yX9_at : MethodName := ⟨RX9, "at", "(I)I"⟩
def RX10 : String := "TypeLevels"
def TX10 : u_T := fun k => match k with
  | 0 => ("TypeLevels", "text", "[I", true)
  | 1 => ("TypeLevels", "length", "I", false)
  | 2 => ("TypeLevels", "modesNow", "I", false)
  | 3 => ("TypeLevels", "asked", "[I", true)
  | 4 => ("TypeLevels", "told", "LTypeLevels$Told;", true)
  | 5 => ("TypeLevels", "code", "LTypeLevels$Code;", true)
  | 6 => ("TypeLevels", "reader", "LTypeLevels$Reader;", true)
  | 7 => ("TypeLevels", "store", "LTypeLevels$Store;", true)
  | 8 => ("TypeLevels", "table", "LTypeLevels$Table;", true)
  | 9 => ("TypeLevels", "trial", "LTypeLevels$Table;", true)
  | 10 => ("TypeLevels", "finder", "LTypeLevels$Finder;", true)
  | 11 => ("TypeLevels", "machine", "LTypeLevels$Machine;", true)
  | 12 => ("TypeLevels", "past", "LTypeLevels$Past;", true)
  | 13 => ("TypeLevels", "heardOf", "LTypeLevels$Heard;", true)
  | _ => ("TypeLevels", "among", "LTypeLevels$Among;", true)
def tyX10 : Nat → FieldType := fun k => match k with
  | 0 => .array .int
  | 1 => .int
  | 2 => .int
  | 3 => .array .int
  | 4 => .object "TypeLevels$Told"
  | 5 => .object "TypeLevels$Code"
  | 6 => .object "TypeLevels$Reader"
  | 7 => .object "TypeLevels$Store"
  | 8 => .object "TypeLevels$Table"
  | 9 => .object "TypeLevels$Table"
  | 10 => .object "TypeLevels$Finder"
  | 11 => .object "TypeLevels$Machine"
  | 12 => .object "TypeLevels$Past"
  | 13 => .object "TypeLevels$Heard"
  | _ => .object "TypeLevels$Among"
abbrev wsX100 : List Cond := u_ws RX10 TX10 15
theorem nmX10 : ∀ a, a < 15 → ∀ b, b < 15 → a ≠ b → (TX10 a).2.1 ≠ (TX10 b).2.1 := by decide +kernel
theorem tyX10_ok : ∀ k, k < 15 → parseFieldDescriptor (TX10 k).2.2.1 = some (tyX10 k) := by decide +kernel
abbrev cX10_init : ByteArray := prog_1_method_1_code
def yX10_init : MethodName := ⟨RX10, "<init>", "()V"⟩
abbrev cX10_sign : ByteArray := prog_1_method_2_code
def yX10_sign : MethodName := ⟨RX10, "sign", "(I)I"⟩
abbrev cX10_end : ByteArray := prog_1_method_3_code
def yX10_end : MethodName := ⟨RX10, "end", "(I)Z"⟩
abbrev cX10_defines : ByteArray := prog_1_method_4_code
def yX10_defines : MethodName := ⟨RX10, "defines", "()I"⟩
abbrev cX10_modes : ByteArray := prog_1_method_5_code
def yX10_modes : MethodName := ⟨RX10, "modes", "(I)I"⟩
abbrev cX10_undo : ByteArray := prog_1_method_6_code
def yX10_undo : MethodName := ⟨RX10, "undo", "()I"⟩
abbrev cX10_definition : ByteArray := prog_1_method_7_code
def yX10_definition : MethodName := ⟨RX10, "definition", "(II)I"⟩
abbrev cX10_scheme : ByteArray := prog_1_method_8_code
def yX10_scheme : MethodName := ⟨RX10, "scheme", "(I)I"⟩
abbrev cX10_type : ByteArray := prog_1_method_9_code
def yX10_type : MethodName := ⟨RX10, "type", "()I"⟩
abbrev cX10_blames : ByteArray := prog_1_method_10_code
def yX10_blames : MethodName := ⟨RX10, "blames", "()I"⟩
abbrev cX10_hole : ByteArray := prog_1_method_11_code
def yX10_hole : MethodName := ⟨RX10, "hole", "()I"⟩
abbrev cX10_parts : ByteArray := prog_1_method_12_code
def yX10_parts : MethodName := ⟨RX10, "parts", "()I"⟩
abbrev cX10_general : ByteArray := prog_1_method_13_code
def yX10_general : MethodName := ⟨RX10, "general", "(II)I"⟩
abbrev cX10_one : ByteArray := prog_1_method_14_code
def yX10_one : MethodName := ⟨RX10, "one", "(II)I"⟩
abbrev cX10_applies : ByteArray := prog_1_method_15_code
def yX10_applies : MethodName := ⟨RX10, "applies", "(II)I"⟩
abbrev cX10_behind : ByteArray := prog_1_method_16_code
def yX10_behind : MethodName := ⟨RX10, "behind", "(II)I"⟩
abbrev cX10_flips : ByteArray := prog_1_method_17_code
def yX10_flips : MethodName := ⟨RX10, "flips", "(I)I"⟩
abbrev cX10_ways : ByteArray := prog_1_method_18_code
def yX10_ways : MethodName := ⟨RX10, "ways", "(II)I"⟩
abbrev cX10_sorts : ByteArray := prog_1_method_19_code
def yX10_sorts : MethodName := ⟨RX10, "sorts", "()I"⟩
abbrev cX10_largest : ByteArray := prog_1_method_20_code
def yX10_largest : MethodName := ⟨RX10, "largest", "()I"⟩
abbrev cX10_comes : ByteArray := prog_1_method_21_code
def yX10_comes : MethodName := ⟨RX10, "comes", "()I"⟩
abbrev cX10_gives : ByteArray := prog_1_method_22_code
def yX10_gives : MethodName := ⟨RX10, "gives", "(II)I"⟩
abbrev cX10_finds : ByteArray := prog_1_method_23_code
def yX10_finds : MethodName := ⟨RX10, "finds", "(II)I"⟩
abbrev cX10_heard : ByteArray := prog_1_method_24_code
def yX10_heard : MethodName := ⟨RX10, "heard", "(II)I"⟩
abbrev cX10_forget : ByteArray := prog_1_method_25_code
def yX10_forget : MethodName := ⟨RX10, "forget", "()I"⟩
abbrev cX10_fits : ByteArray := prog_1_method_26_code
def yX10_fits : MethodName := ⟨RX10, "fits", "()I"⟩
abbrev cX10_asks : ByteArray := prog_1_method_27_code
def yX10_asks : MethodName := ⟨RX10, "asks", "()I"⟩
abbrev cX10_law : ByteArray := prog_1_method_28_code
def yX10_law : MethodName := ⟨RX10, "law", "(I)I"⟩
abbrev cX10_count : ByteArray := prog_1_method_29_code
def yX10_count : MethodName := ⟨RX10, "count", "(I)I"⟩
abbrev cX10_row : ByteArray := prog_1_method_30_code
def yX10_row : MethodName := ⟨RX10, "row", "(I)J"⟩
abbrev cX10_mayBeGeneral : ByteArray := prog_1_method_31_code
def yX10_mayBeGeneral : MethodName := ⟨RX10, "mayBeGeneral", "(IIZ)Z"⟩
abbrev cX10_readText : ByteArray := prog_1_method_32_code
def yX10_readText : MethodName := ⟨RX10, "readText", "(Z)I"⟩
abbrev cX10_readDefinition : ByteArray := prog_1_method_33_code
def yX10_readDefinition : MethodName := ⟨RX10, "readDefinition", "()I"⟩
abbrev cX10_findIn : ByteArray := prog_1_method_34_code
def yX10_findIn : MethodName := ⟨RX10, "findIn", "(I)I"⟩
abbrev cX10_typeOf : ByteArray := prog_1_method_35_code
def yX10_typeOf : MethodName := ⟨RX10, "typeOf", "(I)I"⟩
abbrev cX10_tellFault : ByteArray := prog_1_method_36_code
def yX10_tellFault : MethodName := ⟨RX10, "tellFault", "()V"⟩
abbrev cX10_readAsked : ByteArray := prog_1_method_37_code
def yX10_readAsked : MethodName := ⟨RX10, "readAsked", "(I)I"⟩
abbrev cX10_tellType : ByteArray := prog_1_method_38_code
def yX10_tellType : MethodName := ⟨RX10, "tellType", "(I)I"⟩
abbrev cX10_tellDefinition : ByteArray := prog_1_method_39_code
def yX10_tellDefinition : MethodName := ⟨RX10, "tellDefinition", "(I)I"⟩
abbrev cX10_givesInts : ByteArray := prog_1_method_40_code
def yX10_givesInts : MethodName := ⟨RX10, "givesInts", "(I)Z"⟩
abbrev cX10_put : ByteArray := prog_1_method_41_code
def yX10_put : MethodName := ⟨RX10, "put", "(II)I"⟩
abbrev cX10_triedAnew : ByteArray := prog_1_method_42_code
def yX10_triedAnew : MethodName := ⟨RX10, "triedAnew", "(II)Z"⟩
def RX11 : String := "TypeLevelsModel"
def TX11 : u_T := fun k => match k with
  | 0 => ("TypeLevelsModel", "now", "[I", true)
  | 1 => ("TypeLevelsModel", "text", "[B", true)
  | 2 => ("TypeLevelsModel", "typed", "I", false)
  | 3 => ("TypeLevelsModel", "row", "[J", true)
  | 4 => ("TypeLevelsModel", "rowMany", "I", false)
  | 5 => ("TypeLevelsModel", "thrown", "I", false)
  | 6 => ("TypeLevelsModel", "read", "[B", false)
  | 7 => ("TypeLevelsModel", "length", "I", false)
  | 8 => ("TypeLevelsModel", "top", "I", false)
  | 9 => ("TypeLevelsModel", "at", "I", false)
  | 10 => ("TypeLevelsModel", "wrong", "I", false)
  | 11 => ("TypeLevelsModel", "kind", "[I", true)
  | 12 => ("TypeLevelsModel", "one", "[I", true)
  | 13 => ("TypeLevelsModel", "two", "[I", true)
  | 14 => ("TypeLevelsModel", "three", "[I", true)
  | 15 => ("TypeLevelsModel", "place", "[I", true)
  | 16 => ("TypeLevelsModel", "partMany", "I", false)
  | 17 => ("TypeLevelsModel", "open", "I", false)
  | 18 => ("TypeLevelsModel", "mayHole", "Z", false)
  | 19 => ("TypeLevelsModel", "hasHole", "Z", false)
  | 20 => ("TypeLevelsModel", "sort", "[I", true)
  | 21 => ("TypeLevelsModel", "left", "[I", true)
  | 22 => ("TypeLevelsModel", "right", "[I", true)
  | 23 => ("TypeLevelsModel", "general", "[I", true)
  | 24 => ("TypeLevelsModel", "marked", "[I", true)
  | 25 => ("TypeLevelsModel", "copied", "[I", true)
  | 26 => ("TypeLevelsModel", "typeMany", "I", false)
  | 27 => ("TypeLevelsModel", "stamp", "I", false)
  | 28 => ("TypeLevelsModel", "lets", "I", false)
  | 29 => ("TypeLevelsModel", "weak", "[I", true)
  | 30 => ("TypeLevelsModel", "weakMany", "I", false)
  | 31 => ("TypeLevelsModel", "asked", "[I", false)
  | 32 => ("TypeLevelsModel", "hole", "I", false)
  | 33 => ("TypeLevelsModel", "bound", "[I", true)
  | 34 => ("TypeLevelsModel", "boundAs", "[I", true)
  | 35 => ("TypeLevelsModel", "depth", "I", false)
  | 36 => ("TypeLevelsModel", "fault", "I", false)
  | 37 => ("TypeLevelsModel", "faultAt", "I", false)
  | 38 => ("TypeLevelsModel", "fresh", "[I", true)
  | 39 => ("TypeLevelsModel", "readAt", "I", false)
  | 40 => ("TypeLevelsModel", "foundAs", "[I", true)
  | 41 => ("TypeLevelsModel", "foundMany", "I", false)
  | 42 => ("TypeLevelsModel", "number", "[I", true)
  | 43 => ("TypeLevelsModel", "weakTold", "I", false)
  | 44 => ("TypeLevelsModel", "others", "I", false)
  | 45 => ("TypeLevelsModel", "told", "[I", true)
  | 46 => ("TypeLevelsModel", "toldMany", "I", false)
  | 47 => ("TypeLevelsModel", "rows", "[I", true)
  | 48 => ("TypeLevelsModel", "sizes", "[I", true)
  | 49 => ("TypeLevelsModel", "undos", "[I", true)
  | 50 => ("TypeLevelsModel", "undoMany", "I", false)
  | 51 => ("TypeLevelsModel", "then", "[I", true)
  | 52 => ("TypeLevelsModel", "blamed", "[I", true)
  | 53 => ("TypeLevelsModel", "means", "[I", true)
  | 54 => ("TypeLevelsModel", "made", "[B", true)
  | 55 => ("TypeLevelsModel", "way", "[I", true)
  | 56 => ("TypeLevelsModel", "root", "[I", true)
  | 57 => ("TypeLevelsModel", "line", "[B", true)
  | 58 => ("TypeLevelsModel", "scopeOf", "[I", true)
  | 59 => ("TypeLevelsModel", "scopeAs", "[I", true)
  | 60 => ("TypeLevelsModel", "scopePart", "[I", true)
  | 61 => ("TypeLevelsModel", "scopeIn", "[I", true)
  | 62 => ("TypeLevelsModel", "around", "[I", true)
  | 63 => ("TypeLevelsModel", "scopeMany", "I", false)
  | 64 => ("TypeLevelsModel", "todoPart", "[I", true)
  | 65 => ("TypeLevelsModel", "todoScope", "[I", true)
  | 66 => ("TypeLevelsModel", "todoValue", "[I", true)
  | 67 => ("TypeLevelsModel", "todo", "I", false)
  | 68 => ("TypeLevelsModel", "steps", "I", false)
  | 69 => ("TypeLevelsModel", "stopped", "I", false)
  | 70 => ("TypeLevelsModel", "part", "I", false)
  | 71 => ("TypeLevelsModel", "scope", "I", false)
  | 72 => ("TypeLevelsModel", "value", "I", false)
  | 73 => ("TypeLevelsModel", "heardOf", "[I", true)
  | 74 => ("TypeLevelsModel", "heardBy", "[I", true)
  | _ => ("TypeLevelsModel", "heardMany", "I", false)
def tyX11 : Nat → FieldType := fun k => match k with
  | 0 => .array .int
  | 1 => .array .byte
  | 2 => .int
  | 3 => .array .long
  | 4 => .int
  | 5 => .int
  | 6 => .array .byte
  | 7 => .int
  | 8 => .int
  | 9 => .int
  | 10 => .int
  | 11 => .array .int
  | 12 => .array .int
  | 13 => .array .int
  | 14 => .array .int
  | 15 => .array .int
  | 16 => .int
  | 17 => .int
  | 18 => .boolean
  | 19 => .boolean
  | 20 => .array .int
  | 21 => .array .int
  | 22 => .array .int
  | 23 => .array .int
  | 24 => .array .int
  | 25 => .array .int
  | 26 => .int
  | 27 => .int
  | 28 => .int
  | 29 => .array .int
  | 30 => .int
  | 31 => .array .int
  | 32 => .int
  | 33 => .array .int
  | 34 => .array .int
  | 35 => .int
  | 36 => .int
  | 37 => .int
  | 38 => .array .int
  | 39 => .int
  | 40 => .array .int
  | 41 => .int
  | 42 => .array .int
  | 43 => .int
  | 44 => .int
  | 45 => .array .int
  | 46 => .int
  | 47 => .array .int
  | 48 => .array .int
  | 49 => .array .int
  | 50 => .int
  | 51 => .array .int
  | 52 => .array .int
  | 53 => .array .int
  | 54 => .array .byte
  | 55 => .array .int
  | 56 => .array .int
  | 57 => .array .byte
  | 58 => .array .int
  | 59 => .array .int
  | 60 => .array .int
  | 61 => .array .int
  | 62 => .array .int
  | 63 => .int
  | 64 => .array .int
  | 65 => .array .int
  | 66 => .array .int
  | 67 => .int
  | 68 => .int
  | 69 => .int
  | 70 => .int
  | 71 => .int
  | 72 => .int
  | 73 => .array .int
  | 74 => .array .int
  | _ => .int
abbrev wsX110 : List Cond := u_ws RX11 TX11 76
theorem nmX11 : ∀ a, a < 76 → ∀ b, b < 76 → a ≠ b → (TX11 a).2.1 ≠ (TX11 b).2.1 := by decide +kernel
theorem tyX11_ok : ∀ k, k < 76 → parseFieldDescriptor (TX11 k).2.2.1 = some (tyX11 k) := by decide +kernel
abbrev cX11_init : ByteArray := prog_13_method_1_code
def yX11_init : MethodName := ⟨RX11, "<init>", "()V"⟩
abbrev cX11_thrown : ByteArray := prog_13_method_2_code
def yX11_thrown : MethodName := ⟨RX11, "thrown", "()I"⟩
abbrev cX11_in : ByteArray := prog_13_method_3_code
def yX11_in : MethodName := ⟨RX11, "in", "(III)Z"⟩
abbrev cX11_has : ByteArray := prog_13_method_4_code
def yX11_has : MethodName := ⟨RX11, "has", "(II)Z"⟩
abbrev cX11_lost : ByteArray := prog_13_method_5_code
def yX11_lost : MethodName := ⟨RX11, "lost", "()I"⟩
abbrev cX11_tell : ByteArray := prog_13_method_6_code
def yX11_tell : MethodName := ⟨RX11, "tell", "(J)V"⟩
abbrev cX11_slotOf : ByteArray := prog_13_method_7_code
def yX11_slotOf : MethodName := ⟨RX11, "slotOf", "([II)I"⟩
abbrev cX11_isName : ByteArray := prog_13_method_8_code
def yX11_isName : MethodName := ⟨RX11, "isName", "(I)Z"⟩
abbrev cX11_sign : ByteArray := prog_13_method_9_code
def yX11_sign : MethodName := ⟨RX11, "sign", "(I)I"⟩
abbrev cX11_end : ByteArray := prog_13_method_10_code
def yX11_end : MethodName := ⟨RX11, "end", "(I)Z"⟩
abbrev cX11_begin : ByteArray := prog_13_method_11_code
def yX11_begin : MethodName := ⟨RX11, "begin", "([BII)V"⟩
abbrev cX11_beginText : ByteArray := prog_13_method_12_code
def yX11_beginText : MethodName := ⟨RX11, "beginText", "(I)V"⟩
abbrev cX11_here : ByteArray := prog_13_method_13_code
def yX11_here : MethodName := ⟨RX11, "here", "()I"⟩
abbrev cX11_fine : ByteArray := prog_13_method_14_code
def yX11_fine : MethodName := ⟨RX11, "fine", "()Z"⟩
abbrev cX11_fault : ByteArray := prog_13_method_15_code
def yX11_fault : MethodName := ⟨RX11, "fault", "(I)V"⟩
abbrev cX11_passes : ByteArray := prog_13_method_16_code
def yX11_passes : MethodName := ⟨RX11, "passes", "(C)Z"⟩
abbrev cX11_need : ByteArray := prog_13_method_17_code
def yX11_need : MethodName := ⟨RX11, "need", "(C)V"⟩
abbrev cX11_oneOf : ByteArray := prog_13_method_18_code
def yX11_oneOf : MethodName := ⟨RX11, "oneOf", "(CI)I"⟩
abbrev cX11_number : ByteArray := prog_13_method_19_code
def yX11_number : MethodName := ⟨RX11, "number", "(I)I"⟩
abbrev cX11_wasRight : ByteArray := prog_13_method_20_code
def yX11_wasRight : MethodName := ⟨RX11, "wasRight", "()Z"⟩
abbrev cX11_part : ByteArray := prog_13_method_21_code
def yX11_part : MethodName := ⟨RX11, "part", "(IIIII)I"⟩
abbrev cX11_opens : ByteArray := prog_13_method_22_code
def yX11_opens : MethodName := ⟨RX11, "opens", "()Z"⟩
abbrev cX11_expression : ByteArray := prog_13_method_23_code
def yX11_expression : MethodName := ⟨RX11, "expression", "()I"⟩
abbrev cX11_pairOf : ByteArray := prog_13_method_24_code
def yX11_pairOf : MethodName := ⟨RX11, "pairOf", "(III)I"⟩
abbrev cX11_comparison : ByteArray := prog_13_method_25_code
def yX11_comparison : MethodName := ⟨RX11, "comparison", "()I"⟩
abbrev cX11_sum : ByteArray := prog_13_method_26_code
def yX11_sum : MethodName := ⟨RX11, "sum", "()I"⟩
abbrev cX11_isFactor : ByteArray := prog_13_method_27_code
def yX11_isFactor : MethodName := ⟨RX11, "isFactor", "(I)Z"⟩
abbrev cX11_term : ByteArray := prog_13_method_28_code
def yX11_term : MethodName := ⟨RX11, "term", "()I"⟩
abbrev cX11_factor : ByteArray := prog_13_method_29_code
def yX11_factor : MethodName := ⟨RX11, "factor", "()I"⟩
abbrev cX11_opened : ByteArray := prog_13_method_30_code
def yX11_opened : MethodName := ⟨RX11, "opened", "(II)I"⟩
abbrev cX11_readAll : ByteArray := prog_13_method_31_code
def yX11_readAll : MethodName := ⟨RX11, "readAll", "(Z)I"⟩
abbrev cX11_isValue : ByteArray := prog_13_method_32_code
def yX11_isValue : MethodName := ⟨RX11, "isValue", "(I)Z"⟩
abbrev cX11_node : ByteArray := prog_13_method_33_code
def yX11_node : MethodName := ⟨RX11, "node", "(III)I"⟩
abbrev cX11_variable : ByteArray := prog_13_method_34_code
def yX11_variable : MethodName := ⟨RX11, "variable", "()I"⟩
abbrev cX11_now : ByteArray := prog_13_method_35_code
def yX11_now : MethodName := ⟨RX11, "now", "(I)I"⟩
abbrev cX11_weakOf : ByteArray := prog_13_method_36_code
def yX11_weakOf : MethodName := ⟨RX11, "weakOf", "([I)I"⟩
abbrev cX11_beginTypes : ByteArray := prog_13_method_37_code
def yX11_beginTypes : MethodName := ⟨RX11, "beginTypes", "([I)V"⟩
abbrev cX11_nodesOf : ByteArray := prog_13_method_38_code
def yX11_nodesOf : MethodName := ⟨RX11, "nodesOf", "(II)I"⟩
abbrev cX11_isIn : ByteArray := prog_13_method_39_code
def yX11_isIn : MethodName := ⟨RX11, "isIn", "(II)Z"⟩
abbrev cX11_makeOne : ByteArray := prog_13_method_40_code
def yX11_makeOne : MethodName := ⟨RX11, "makeOne", "(II)I"⟩
abbrev cX11_fails : ByteArray := prog_13_method_41_code
def yX11_fails : MethodName := ⟨RX11, "fails", "(II)V"⟩
abbrev cX11_make : ByteArray := prog_13_method_42_code
def yX11_make : MethodName := ⟨RX11, "make", "(III)V"⟩
abbrev cX11_mark : ByteArray := prog_13_method_43_code
def yX11_mark : MethodName := ⟨RX11, "mark", "(I)V"⟩
abbrev cX11_free : ByteArray := prog_13_method_44_code
def yX11_free : MethodName := ⟨RX11, "free", "(II)V"⟩
abbrev cX11_anew : ByteArray := prog_13_method_45_code
def yX11_anew : MethodName := ⟨RX11, "anew", "(I)I"⟩
abbrev cX11_fromRow : ByteArray := prog_13_method_46_code
def yX11_fromRow : MethodName := ⟨RX11, "fromRow", "(I)I"⟩
abbrev cX11_instance : ByteArray := prog_13_method_47_code
def yX11_instance : MethodName := ⟨RX11, "instance", "(I)I"⟩
abbrev cX11_find : ByteArray := prog_13_method_48_code
def yX11_find : MethodName := ⟨RX11, "find", "(I)I"⟩
abbrev cX11_findLetter : ByteArray := prog_13_method_49_code
def yX11_findLetter : MethodName := ⟨RX11, "findLetter", "(I)I"⟩
abbrev cX11_within : ByteArray := prog_13_method_50_code
def yX11_within : MethodName := ⟨RX11, "within", "(III)I"⟩
abbrev cX11_markAround : ByteArray := prog_13_method_51_code
def yX11_markAround : MethodName := ⟨RX11, "markAround", "()V"⟩
abbrev cX11_findLet : ByteArray := prog_13_method_52_code
def yX11_findLet : MethodName := ⟨RX11, "findLet", "(I)I"⟩
abbrev cX11_findSum : ByteArray := prog_13_method_53_code
def yX11_findSum : MethodName := ⟨RX11, "findSum", "(II)I"⟩
abbrev cX11_findChoice : ByteArray := prog_13_method_54_code
def yX11_findChoice : MethodName := ⟨RX11, "findChoice", "(I)I"⟩
abbrev cX11_findOf : ByteArray := prog_13_method_55_code
def yX11_findOf : MethodName := ⟨RX11, "findOf", "(I)I"⟩
abbrev cX11_findTwo : ByteArray := prog_13_method_56_code
def yX11_findTwo : MethodName := ⟨RX11, "findTwo", "(I)I"⟩
abbrev cX11_findAll : ByteArray := prog_13_method_57_code
def yX11_findAll : MethodName := ⟨RX11, "findAll", "([II)I"⟩
abbrev cX11_countWeak : ByteArray := prog_13_method_58_code
def yX11_countWeak : MethodName := ⟨RX11, "countWeak", "(I)V"⟩
abbrev cX11_beginRows : ByteArray := prog_13_method_59_code
def yX11_beginRows : MethodName := ⟨RX11, "beginRows", "()V"⟩
abbrev cX11_rowOf : ByteArray := prog_13_method_60_code
def yX11_rowOf : MethodName := ⟨RX11, "rowOf", "(I)V"⟩
abbrev cX11_tellType : ByteArray := prog_13_method_61_code
def yX11_tellType : MethodName := ⟨RX11, "tellType", "(I)I"⟩
abbrev cX11_tellFault : ByteArray := prog_13_method_62_code
def yX11_tellFault : MethodName := ⟨RX11, "tellFault", "()I"⟩
abbrev cX11_layRow : ByteArray := prog_13_method_63_code
def yX11_layRow : MethodName := ⟨RX11, "layRow", "([II)Z"⟩
abbrev cX11_keepRow : ByteArray := prog_13_method_64_code
def yX11_keepRow : MethodName := ⟨RX11, "keepRow", "(I)V"⟩
abbrev cX11_goDefine : ByteArray := prog_13_method_65_code
def yX11_goDefine : MethodName := ⟨RX11, "goDefine", "([III[BII)I"⟩
abbrev cX11_remember : ByteArray := prog_13_method_66_code
def yX11_remember : MethodName := ⟨RX11, "remember", "()V"⟩
abbrev cX11_defines : ByteArray := prog_13_method_67_code
def yX11_defines : MethodName := ⟨RX11, "defines", "()I"⟩
abbrev cX11_tellScheme : ByteArray := prog_13_method_68_code
def yX11_tellScheme : MethodName := ⟨RX11, "tellScheme", "(I)I"⟩
abbrev cX11_modes : ByteArray := prog_13_method_69_code
def yX11_modes : MethodName := ⟨RX11, "modes", "(I)I"⟩
abbrev cX11_undo : ByteArray := prog_13_method_70_code
def yX11_undo : MethodName := ⟨RX11, "undo", "()I"⟩
abbrev cX11_endOf : ByteArray := prog_13_method_71_code
def yX11_endOf : MethodName := ⟨RX11, "endOf", "([III)I"⟩
abbrev cX11_variables : ByteArray := prog_13_method_72_code
def yX11_variables : MethodName := ⟨RX11, "variables", "([IIZ)I"⟩
abbrev cX11_functions : ByteArray := prog_13_method_73_code
def yX11_functions : MethodName := ⟨RX11, "functions", "([II)I"⟩
abbrev cX11_definition : ByteArray := prog_13_method_74_code
def yX11_definition : MethodName := ⟨RX11, "definition", "(II)I"⟩
abbrev cX11_scheme : ByteArray := prog_13_method_75_code
def yX11_scheme : MethodName := ⟨RX11, "scheme", "(I)I"⟩
abbrev cX11_readText : ByteArray := prog_13_method_76_code
def yX11_readText : MethodName := ⟨RX11, "readText", "(Z)I"⟩
abbrev cX11_tellFound : ByteArray := prog_13_method_77_code
def yX11_tellFound : MethodName := ⟨RX11, "tellFound", "(I)I"⟩
abbrev cX11_type : ByteArray := prog_13_method_78_code
def yX11_type : MethodName := ⟨RX11, "type", "()I"⟩
abbrev cX11_blames : ByteArray := prog_13_method_79_code
def yX11_blames : MethodName := ⟨RX11, "blames", "()I"⟩
abbrev cX11_hole : ByteArray := prog_13_method_80_code
def yX11_hole : MethodName := ⟨RX11, "hole", "()I"⟩
abbrev cX11_parts : ByteArray := prog_13_method_81_code
def yX11_parts : MethodName := ⟨RX11, "parts", "()I"⟩
abbrev cX11_isSame : ByteArray := prog_13_method_82_code
def yX11_isSame : MethodName := ⟨RX11, "isSame", "(III)Z"⟩
abbrev cX11_general : ByteArray := prog_13_method_83_code
def yX11_general : MethodName := ⟨RX11, "general", "(II)I"⟩
abbrev cX11_one : ByteArray := prog_13_method_84_code
def yX11_one : MethodName := ⟨RX11, "one", "(II)I"⟩
abbrev cX11_typeOf : ByteArray := prog_13_method_85_code
def yX11_typeOf : MethodName := ⟨RX11, "typeOf", "(Ljava/lang/String;II)I"⟩
abbrev cX11_applies : ByteArray := prog_13_method_86_code
def yX11_applies : MethodName := ⟨RX11, "applies", "(II)I"⟩
abbrev cX11_behind : ByteArray := prog_13_method_87_code
def yX11_behind : MethodName := ⟨RX11, "behind", "(II)I"⟩
abbrev cX11_flips : ByteArray := prog_13_method_88_code
def yX11_flips : MethodName := ⟨RX11, "flips", "(I)I"⟩
abbrev cX11_goes : ByteArray := prog_13_method_89_code
def yX11_goes : MethodName := ⟨RX11, "goes", "(III)Z"⟩
abbrev cX11_layWay : ByteArray := prog_13_method_90_code
def yX11_layWay : MethodName := ⟨RX11, "layWay", "(IIII)Z"⟩
abbrev cX11_ways : ByteArray := prog_13_method_91_code
def yX11_ways : MethodName := ⟨RX11, "ways", "(II)I"⟩
abbrev cX11_areSame : ByteArray := prog_13_method_92_code
def yX11_areSame : MethodName := ⟨RX11, "areSame", "([II[II)Z"⟩
abbrev cX11_sorts : ByteArray := prog_13_method_93_code
def yX11_sorts : MethodName := ⟨RX11, "sorts", "()I"⟩
abbrev cX11_largest : ByteArray := prog_13_method_94_code
def yX11_largest : MethodName := ⟨RX11, "largest", "()I"⟩
abbrev cX11_readDefinition : ByteArray := prog_13_method_95_code
def yX11_readDefinition : MethodName := ⟨RX11, "readDefinition", "(I)I"⟩
abbrev cX11_scope : ByteArray := prog_13_method_96_code
def yX11_scope : MethodName := ⟨RX11, "scope", "(IIIII)I"⟩
abbrev cX11_push : ByteArray := prog_13_method_97_code
def yX11_push : MethodName := ⟨RX11, "push", "(III)V"⟩
abbrev cX11_step : ByteArray := prog_13_method_98_code
def yX11_step : MethodName := ⟨RX11, "step", "()V"⟩
abbrev cX11_gets : ByteArray := prog_13_method_99_code
def yX11_gets : MethodName := ⟨RX11, "gets", "(III)V"⟩
abbrev cX11_begins : ByteArray := prog_13_method_100_code
def yX11_begins : MethodName := ⟨RX11, "begins", "(II)V"⟩
abbrev cX11_goLetter : ByteArray := prog_13_method_101_code
def yX11_goLetter : MethodName := ⟨RX11, "goLetter", "(I)V"⟩
abbrev cX11_goPart : ByteArray := prog_13_method_102_code
def yX11_goPart : MethodName := ⟨RX11, "goPart", "()V"⟩
abbrev cX11_hasTwo : ByteArray := prog_13_method_103_code
def yX11_hasTwo : MethodName := ⟨RX11, "hasTwo", "(I)Z"⟩
abbrev cX11_goValue : ByteArray := prog_13_method_104_code
def yX11_goValue : MethodName := ⟨RX11, "goValue", "()V"⟩
abbrev cX11_goOne : ByteArray := prog_13_method_105_code
def yX11_goOne : MethodName := ⟨RX11, "goOne", "(I)V"⟩
abbrev cX11_goTwo : ByteArray := prog_13_method_106_code
def yX11_goTwo : MethodName := ⟨RX11, "goTwo", "(III)V"⟩
abbrev cX11_run : ByteArray := prog_13_method_107_code
def yX11_run : MethodName := ⟨RX11, "run", "(I)I"⟩
abbrev cX11_tellValue : ByteArray := prog_13_method_108_code
def yX11_tellValue : MethodName := ⟨RX11, "tellValue", "(I)V"⟩
abbrev cX11_comes : ByteArray := prog_13_method_109_code
def yX11_comes : MethodName := ⟨RX11, "comes", "()I"⟩
abbrev cX11_giveOf : ByteArray := prog_13_method_110_code
def yX11_giveOf : MethodName := ⟨RX11, "giveOf", "(II)I"⟩
abbrev cX11_gives : ByteArray := prog_13_method_111_code
def yX11_gives : MethodName := ⟨RX11, "gives", "(II)I"⟩
abbrev cX11_finds : ByteArray := prog_13_method_112_code
def yX11_finds : MethodName := ⟨RX11, "finds", "(II)I"⟩
abbrev cX11_highOf : ByteArray := prog_13_method_113_code
def yX11_highOf : MethodName := ⟨RX11, "highOf", "(I)I"⟩
abbrev cX11_heard : ByteArray := prog_13_method_114_code
def yX11_heard : MethodName := ⟨RX11, "heard", "(II)I"⟩
abbrev cX11_forget : ByteArray := prog_13_method_115_code
def yX11_forget : MethodName := ⟨RX11, "forget", "()I"⟩
abbrev cX11_isSo : ByteArray := prog_13_method_116_code
def yX11_isSo : MethodName := ⟨RX11, "isSo", "(III)Z"⟩
abbrev cX11_fitting : ByteArray := prog_13_method_117_code
def yX11_fitting : MethodName := ⟨RX11, "fitting", "()I"⟩
abbrev cX11_fits : ByteArray := prog_13_method_118_code
def yX11_fits : MethodName := ⟨RX11, "fits", "()I"⟩
abbrev cX11_asks : ByteArray := prog_13_method_119_code
def yX11_asks : MethodName := ⟨RX11, "asks", "()I"⟩
abbrev cX11_law : ByteArray := prog_13_method_120_code
def yX11_law : MethodName := ⟨RX11, "law", "(I)I"⟩
abbrev cX11_nodesOfAll : ByteArray := prog_13_method_121_code
def yX11_nodesOfAll : MethodName := ⟨RX11, "nodesOfAll", "()I"⟩
abbrev cX11_names : ByteArray := prog_13_method_122_code
def yX11_names : MethodName := ⟨RX11, "names", "()I"⟩
abbrev cX11_count : ByteArray := prog_13_method_123_code
def yX11_count : MethodName := ⟨RX11, "count", "(I)I"⟩
abbrev cX11_row : ByteArray := prog_13_method_124_code
def yX11_row : MethodName := ⟨RX11, "row", "(I)J"⟩
def RJx145de : String := "java/io/Serializable"
def TJx145de : u_T := fun k => match k with
  | _ => ("", "", "", false)
def tyJx145de : Nat → FieldType := fun k => match k with
  | _ => .int
abbrev wsJx145de0 : List Cond := u_ws RJx145de TJx145de 0
theorem nmJx145de : ∀ a, a < 0 → ∀ b, b < 0 → a ≠ b → (TJx145de a).2.1 ≠ (TJx145de b).2.1 := by decide +kernel
theorem tyJx145de_ok : ∀ k, k < 0 → parseFieldDescriptor (TJx145de k).2.2.1 = some (tyJx145de k) := by decide +kernel
def RJx9f9b0 : String := "java/lang/CharSequence"
def TJx9f9b0 : u_T := fun k => match k with
  | _ => ("", "", "", false)
def tyJx9f9b0 : Nat → FieldType := fun k => match k with
  | _ => .int
abbrev wsJx9f9b00 : List Cond := u_ws RJx9f9b0 TJx9f9b0 0
theorem nmJx9f9b0 : ∀ a, a < 0 → ∀ b, b < 0 → a ≠ b → (TJx9f9b0 a).2.1 ≠ (TJx9f9b0 b).2.1 := by decide +kernel
theorem tyJx9f9b0_ok : ∀ k, k < 0 → parseFieldDescriptor (TJx9f9b0 k).2.2.1 = some (tyJx9f9b0 k) := by decide +kernel
def RJxb160c : String := "java/lang/Comparable"
def TJxb160c : u_T := fun k => match k with
  | _ => ("", "", "", false)
def tyJxb160c : Nat → FieldType := fun k => match k with
  | _ => .int
abbrev wsJxb160c0 : List Cond := u_ws RJxb160c TJxb160c 0
theorem nmJxb160c : ∀ a, a < 0 → ∀ b, b < 0 → a ≠ b → (TJxb160c a).2.1 ≠ (TJxb160c b).2.1 := by decide +kernel
theorem tyJxb160c_ok : ∀ k, k < 0 → parseFieldDescriptor (TJxb160c k).2.2.1 = some (tyJxb160c k) := by decide +kernel
def RJ6 : String := "java/lang/Integer"
def TJ6 : u_T := fun k => match k with
  | _ => ("", "", "", false)
def tyJ6 : Nat → FieldType := fun k => match k with
  | _ => .int
abbrev wsJ60 : List Cond := u_ws RJ6 TJ6 0
theorem nmJ6 : ∀ a, a < 0 → ∀ b, b < 0 → a ≠ b → (TJ6 a).2.1 ≠ (TJ6 b).2.1 := by decide +kernel
theorem tyJ6_ok : ∀ k, k < 0 → parseFieldDescriptor (TJ6 k).2.2.1 = some (tyJ6 k) := by decide +kernel
abbrev cJ6_bitCount_0f7a4 : ByteArray := prog_18_method_49_code
def yJ6_bitCount_0f7a4 : MethodName := ⟨RJ6, "bitCount", "(I)I"⟩
def RJ9 : String := "java/lang/Math"
def TJ9 : u_T := fun k => match k with
  | _ => ("", "", "", false)
def tyJ9 : Nat → FieldType := fun k => match k with
  | _ => .int
abbrev wsJ90 : List Cond := u_ws RJ9 TJ9 0
theorem nmJ9 : ∀ a, a < 0 → ∀ b, b < 0 → a ≠ b → (TJ9 a).2.1 ≠ (TJ9 b).2.1 := by decide +kernel
theorem tyJ9_ok : ∀ k, k < 0 → parseFieldDescriptor (TJ9 k).2.2.1 = some (tyJ9 k) := by decide +kernel
abbrev cJ9_max_7cf53 : ByteArray := prog_19_method_65_code
def yJ9_max_7cf53 : MethodName := ⟨RJ9, "max", "(II)I"⟩
abbrev cJ9_min_7cf53 : ByteArray := prog_19_method_69_code
def yJ9_min_7cf53 : MethodName := ⟨RJ9, "min", "(II)I"⟩
def RJ0 : String := "java/lang/String"
def TJ0 : u_T := fun k => match k with
  | _ => ("", "", "", false)
def tyJ0 : Nat → FieldType := fun k => match k with
  | _ => .int
abbrev wsJ00 : List Cond := u_ws RJ0 TJ0 0
theorem nmJ0 : ∀ a, a < 0 → ∀ b, b < 0 → a ≠ b → (TJ0 a).2.1 ≠ (TJ0 b).2.1 := by decide +kernel
theorem tyJ0_ok : ∀ k, k < 0 → parseFieldDescriptor (TJ0 k).2.2.1 = some (tyJ0 k) := by decide +kernel
abbrev cJ0_length_8abf5 : ByteArray := prog_21_method_54_code
def yJ0_length_8abf5 : MethodName := ⟨RJ0, "length", "()I"⟩
abbrev cJ0_charAt_5068e : ByteArray := prog_21_method_56_code
def yJ0_charAt_5068e : MethodName := ⟨RJ0, "charAt", "(I)C"⟩
abbrev cJ0_coder_7d493 : ByteArray := prog_21_method_152_code
def yJ0_coder_7d493 : MethodName := ⟨RJ0, "coder", "()B"⟩
abbrev cJ0_isLatin1_aae02 : ByteArray := prog_21_method_154_code
def yJ0_isLatin1_aae02 : MethodName := ⟨RJ0, "isLatin1", "()Z"⟩
abbrev cJ0_checkIndex_df160 : ByteArray := prog_21_method_155_code
def yJ0_checkIndex_df160 : MethodName := ⟨RJ0, "checkIndex", "(II)V"⟩
def RJ1 : String := "java/lang/StringLatin1"
def TJ1 : u_T := fun k => match k with
  | _ => ("", "", "", false)
def tyJ1 : Nat → FieldType := fun k => match k with
  | _ => .int
abbrev wsJ10 : List Cond := u_ws RJ1 TJ1 0
theorem nmJ1 : ∀ a, a < 0 → ∀ b, b < 0 → a ≠ b → (TJ1 a).2.1 ≠ (TJ1 b).2.1 := by decide +kernel
theorem tyJ1_ok : ∀ k, k < 0 → parseFieldDescriptor (TJ1 k).2.2.1 = some (tyJ1 k) := by decide +kernel
abbrev cJ1_charAt_3b067 : ByteArray := prog_22_method_2_code
def yJ1_charAt_3b067 : MethodName := ⟨RJ1, "charAt", "([BI)C"⟩
def RJ2 : String := "java/lang/StringUTF16"
def TJ2 : u_T := fun k => match k with
  | _ => ("", "", "", false)
def tyJ2 : Nat → FieldType := fun k => match k with
  | _ => .int
abbrev wsJ20 : List Cond := u_ws RJ2 TJ2 0
theorem nmJ2 : ∀ a, a < 0 → ∀ b, b < 0 → a ≠ b → (TJ2 a).2.1 ≠ (TJ2 b).2.1 := by decide +kernel
theorem tyJ2_ok : ∀ k, k < 0 → parseFieldDescriptor (TJ2 k).2.2.1 = some (tyJ2 k) := by decide +kernel
abbrev cJ2_getChar_3b067 : ByteArray := prog_23_method_5_code
def yJ2_getChar_3b067 : MethodName := ⟨RJ2, "getChar", "([BI)C"⟩
abbrev cJ2_length_9d52b : ByteArray := prog_23_method_6_code
def yJ2_length_9d52b : MethodName := ⟨RJ2, "length", "([B)I"⟩
abbrev cJ2_charAt_3b067 : ByteArray := prog_23_method_83_code
def yJ2_charAt_3b067 : MethodName := ⟨RJ2, "charAt", "([BI)C"⟩
abbrev cJ2_checkIndex_2214a : ByteArray := prog_23_method_91_code
def yJ2_checkIndex_2214a : MethodName := ⟨RJ2, "checkIndex", "(I[B)V"⟩
def RJ10 : String := "java/lang/System"
def TJ10 : u_T := fun k => match k with
  | _ => ("", "", "", false)
def tyJ10 : Nat → FieldType := fun k => match k with
  | _ => .int
abbrev wsJ100 : List Cond := u_ws RJ10 TJ10 0
theorem nmJ10 : ∀ a, a < 0 → ∀ b, b < 0 → a ≠ b → (TJ10 a).2.1 ≠ (TJ10 b).2.1 := by decide +kernel
theorem tyJ10_ok : ∀ k, k < 0 → parseFieldDescriptor (TJ10 k).2.2.1 = some (tyJ10 k) := by decide +kernel
def RJxfd54e : String := "java/lang/constant/Constable"
def TJxfd54e : u_T := fun k => match k with
  | _ => ("", "", "", false)
def tyJxfd54e : Nat → FieldType := fun k => match k with
  | _ => .int
abbrev wsJxfd54e0 : List Cond := u_ws RJxfd54e TJxfd54e 0
theorem nmJxfd54e : ∀ a, a < 0 → ∀ b, b < 0 → a ≠ b → (TJxfd54e a).2.1 ≠ (TJxfd54e b).2.1 := by decide +kernel
theorem tyJxfd54e_ok : ∀ k, k < 0 → parseFieldDescriptor (TJxfd54e k).2.2.1 = some (tyJxfd54e k) := by decide +kernel
def RJx3cf43 : String := "java/lang/constant/ConstantDesc"
def TJx3cf43 : u_T := fun k => match k with
  | _ => ("", "", "", false)
def tyJx3cf43 : Nat → FieldType := fun k => match k with
  | _ => .int
abbrev wsJx3cf430 : List Cond := u_ws RJx3cf43 TJx3cf43 0
theorem nmJx3cf43 : ∀ a, a < 0 → ∀ b, b < 0 → a ≠ b → (TJx3cf43 a).2.1 ≠ (TJx3cf43 b).2.1 := by decide +kernel
theorem tyJx3cf43_ok : ∀ k, k < 0 → parseFieldDescriptor (TJx3cf43 k).2.2.1 = some (tyJx3cf43 k) := by decide +kernel
def RJ3 : String := "jdk/internal/util/Preconditions"
def TJ3 : u_T := fun k => match k with
  | _ => ("", "", "", false)
def tyJ3 : Nat → FieldType := fun k => match k with
  | _ => .int
abbrev wsJ30 : List Cond := u_ws RJ3 TJ3 0
theorem nmJ3 : ∀ a, a < 0 → ∀ b, b < 0 → a ≠ b → (TJ3 a).2.1 ≠ (TJ3 b).2.1 := by decide +kernel
theorem tyJ3_ok : ∀ k, k < 0 → parseFieldDescriptor (TJ3 k).2.2.1 = some (tyJ3 k) := by decide +kernel
abbrev cJ3_checkIndex_8e157 : ByteArray := prog_29_method_11_code
def yJ3_checkIndex_8e157 : MethodName := ⟨RJ3, "checkIndex", "(IILjava/util/function/BiFunction;)I"⟩
def RL : String := "TypeLevelsLaw"
abbrev cL_definition : ByteArray := method_3_code
def yL_definition : MethodName := ⟨RL, "definition", "(LTypeLevels;II[J)I"⟩
abbrev cL_row : ByteArray := method_4_code
def yL_row : MethodName := ⟨RL, "row", "(LTypeLevels;I[J)I"⟩
abbrev cL_law : ByteArray := code
def yL_law : MethodName := ⟨RL, "law", "([I)Z"⟩
end
section
/-! ===== an interpreter of the claim's bytecode over what is known of ints (from .. to) and cells by number ===== -/
section EVA
abbrev ev_V : Type := (Int × Int) ⊕ (Nat ⊕ Nat)
abbrev ev_C : Type := (Nat × Nat × List (Nat × (Int × Int))) ⊕ (Nat × List ev_V)
abbrev ev_H : Type := List ev_C
abbrev ev_L : Type := List (Nat × ev_V)
abbrev ev_I : Type := Nat × (Instr × Nat) × (Nat × Nat × Nat × Int)
abbrev ev_M : Type := List (List ev_I)
abbrev ev_R : Type := Nat × Nat × ev_L × List ev_V × ev_H × Nat × Nat
def ev_top : ev_V := .inl (-2147483648, 2147483647)
/-! values are computed before they go on -/
def ev_fN {α : Type} (x : Nat) (f : Nat → α) : α := match x with
  | 0 => f 0
  | n + 1 => f (n + 1)
theorem ev_fN_eq {α : Type} (x : Nat) (f : Nat → α) : ev_fN x f = f x := by cases x <;> rfl
def ev_fI {α : Type} (x : Int) (f : Int → α) : α := match x with
  | .ofNat n => ev_fN n fun m => f (.ofNat m)
  | .negSucc n => ev_fN n fun m => f (.negSucc m)
theorem ev_fI_eq {α : Type} (x : Int) (f : Int → α) : ev_fI x f = f x := by cases x <;> simp [ev_fI, ev_fN_eq]
def ev_fV {α : Type} (x : ev_V) (f : ev_V → α) : α := match x with
  | .inl r => ev_fI r.1 fun a => ev_fI r.2 fun b => f (.inl (a, b))
  | .inr (.inl k) => ev_fN k fun k => f (.inr (.inl k))
  | .inr (.inr k) => ev_fN k fun k => f (.inr (.inr k))
theorem ev_fV_eq {α : Type} (x : ev_V) (f : ev_V → α) : ev_fV x f = f x := by
  rcases x with r | k | k <;> simp [ev_fV, ev_fI_eq, ev_fN_eq]
def ev_fL {β α : Type} (l : List β) (f : List β → α) : α := match l with
  | [] => f []
  | a :: t => ev_fL t fun u => f (a :: u)
theorem ev_fL_eq {β α : Type} (l : List β) (f : List β → α) : ev_fL l f = f l := by
  induction l generalizing f with
  | nil => rfl
  | cons a t ih => simp only [ev_fL]; rw [ih]
def ev_fS {α : Type} (l : List ev_V) (f : List ev_V → α) : α := match l with
  | [] => f []
  | a :: t => ev_fV a fun a => ev_fS t fun u => f (a :: u)
theorem ev_fS_eq {α : Type} (l : List ev_V) (f : List ev_V → α) : ev_fS l f = f l := by
  induction l generalizing f with
  | nil => rfl
  | cons a t ih => simp only [ev_fS]; rw [ev_fV_eq, ih]
/-! lists -/
def ev_at {α : Type} (l : List α) (n : Nat) : Option α := match l, n with
  | [], _ => none
  | a :: _, 0 => some a
  | _ :: t, n + 1 => ev_at t n
theorem ev_at_eq {α : Type} (l : List α) (n : Nat) : ev_at l n = l[n]? := by
  induction l generalizing n with
  | nil => simp [ev_at]
  | cons a t ih => cases n with
    | zero => simp [ev_at]
    | succ n => simp [ev_at, ih]
def ev_loc (ls : ev_L) (i : Nat) : Option ev_V := match ls with
  | [] => none
  | q :: t => bif Nat.beq q.1 i then some q.2 else ev_loc t i
def ev_lng (x : ev_V) : Bool := match x with
  | .inr (.inr 0) => true
  | _ => false
def ev_sto (ls : ev_L) (i : Nat) (x : ev_V) : ev_L := (i, x) :: ls.filter (fun q => !(q.1 == i) && !(q.1 + 1 == i && ev_lng q.2))
def ev_stoL (ls : ev_L) (i : Nat) (x : ev_V) : ev_L := (i, x) :: ls.filter (fun q => !(q.1 == i) && (!(q.1 == i + 1) && !(q.1 + 1 == i && ev_lng q.2)))
def ev_get (m : List (Nat × (Int × Int))) (j : Nat) : Int × Int := match m with
  | [] => (0, 0)
  | q :: t => bif Nat.beq q.1 j then q.2 else ev_get t j
def ev_same (x y : Int × Int) : Bool := decide (x.1 = y.1) && decide (x.2 = y.2)
def ev_put {α : Type} (m : List (Nat × (Int × Int))) (j : Nat) (r : Int × Int) (f : List (Nat × (Int × Int)) → α) : α :=
  bif ev_same (ev_get m j) r then f m else f ((j, r) :: m)
def ev_args (i : Nat) (l : List ev_V) : ev_L := match l with
  | [] => []
  | x :: t => (i, x) :: ev_args (bif ev_lng x then i + 2 else i + 1) t
def ev_fetch (T : ev_M) (pc : Nat) : Option ev_I := match ev_at T (pc / 16) with
  | none => none
  | some c => c.find? fun q => Nat.beq q.1 pc
def ev_bin (f : Int32 → Int32 → Int32) (x y : Int × Int) : ev_V :=
  bif decide (x.1 = x.2) && decide (y.1 = y.2) then ev_fI (f (Int32.ofInt x.1) (Int32.ofInt y.1)).toInt fun n => .inl (n, n) else ev_top
def ev_lt (x y : Int × Int) : Option Bool := if x.2 < y.1 then some true else if y.2 ≤ x.1 then some false else none
def ev_eq (x y : Int × Int) : Option Bool := if x.1 = x.2 ∧ y.1 = y.2 ∧ x.1 = y.1 then some true else if x.2 < y.1 ∨ y.2 < x.1 then some false else none
def ev_pair (a b : Option (Int × Int)) : Option ((Int × Int) × (Int × Int)) := match a, b with
  | some a, some b => some (a, b)
  | _, _ => none
/-- an index: known, and inside -/
def ev_ix (x : Int × Int) (n : Nat) : Option Nat := match x.1, x.2 with
  | .ofNat a, .ofNat b => bif Nat.beq a b && Nat.ble (a + 1) n then some a else none
  | _, _ => none
abbrev ev_O : Type := Option (Nat × ev_L × List ev_V × Option ev_H × Nat × Nat)
def ev_psh (pc : Nat) (ls : ev_L) (st : List ev_V) (x : Option ev_V) : ev_O := match x with
  | none => none
  | some x => some (pc, ls, x :: st, none, 0, 0)
def ev_ldI (ls : ev_L) (i : Nat) : Option ev_V := match ev_loc ls i with
  | some (.inl r) => some (.inl r)
  | _ => none
def ev_ldR (ls : ev_L) (i : Nat) : Option ev_V := match ev_loc ls i with
  | some (.inr (.inr (n + 2))) => some (.inr (.inr (n + 2)))
  | _ => none
def ev_ldJ (ls : ev_L) (i : Nat) : Option ev_V := match ev_loc ls i with
  | some (.inr (.inr 0)) => some (.inr (.inr 0))
  | _ => none
def ev_jmp (pc : Nat) (off : Int) (ls : ev_L) (st : List ev_V) : ev_O := match (pc : Int) + off with
  | .ofNat t => some (t, ls, st, none, 0, 0)
  | .negSucc _ => none
def ev_br (pc : Nat) (off : Int) (ls : ev_L) (st : List ev_V) (c : Option Bool) : ev_O := match c with
  | none => none
  | some true => ev_jmp pc off ls st
  | some false => some (pc + 3, ls, st, none, 0, 0)
def ev_not (c : Option Bool) : Option Bool := match c with
  | none => none
  | some b => some (!b)
def ev_ok1 (x : ev_V) : Bool := match x with
  | .inl _ => true
  | .inr (.inl _) => true
  | .inr (.inr 0) => false
  | .inr (.inr (_ + 1)) => true
/-- may the value stand in a field of this sort: 0 an int, 1 a boolean, else a reference -/
def ev_may (t : Nat) (x : ev_V) : Bool := match t, x with
  | 0, .inl _ => true
  | 1, .inl r => decide (0 ≤ r.1) && decide (r.2 ≤ 1)
  | 2, .inr (.inr (_ + 1)) => true
  | _, _ => false
def ev_getf (pc a b : Nat) (ls : ev_L) (st : List ev_V) (h : ev_H) : ev_O := match st with
  | .inr (.inr (n + 4)) :: st => match ev_at h n with
    | some (.inr o) => bif Nat.beq o.1 a then ev_psh (pc + 3) ls st (ev_at o.2 b) else none
    | _ => none
  | _ => none
def ev_putf (pc a b t : Nat) (ls : ev_L) (st : List ev_V) (h : ev_H) : ev_O := match st with
  | x :: .inr (.inr (n + 4)) :: st => match ev_at h n with
    | some (.inr o) => bif Nat.beq o.1 a && ev_may t x && Nat.ble (b + 1) o.2.length then ev_fL (o.2.set b x) fun fs => ev_fL (h.set n (.inr (o.1, fs))) fun h => some (pc + 3, ls, st, some h, 0, 0) else none
    | _ => none
  | _ => none
def ev_new (pc a : Nat) (df : List (List ev_V)) (ls : ev_L) (st : List ev_V) (h : ev_H) : ev_O := match ev_at df a with
  | some fs => ev_fN h.length fun n => ev_fN fs.length fun w => ev_fL (h ++ [.inr (a, fs)]) fun h => some (pc + 3, ls, .inr (.inr (n + 4)) :: st, some h, 1, w)
  | none => none
def ev_newa (pc a : Nat) (ls : ev_L) (st : List ev_V) (h : ev_H) : ev_O := match st with
  | .inl r :: st => match ev_ix r 1000001 with
    | some w => ev_fN h.length fun n => ev_fL (h ++ [.inl (a, w, [])]) fun h => some (pc + 2, ls, .inr (.inr (n + 4)) :: st, some h, 1, w)
    | none => none
  | _ => none
def ev_len (pc : Nat) (sc : List ev_V) (ls : ev_L) (st : List ev_V) (h : ev_H) : ev_O := match st with
  | .inr (.inr 2) :: st => ev_fN sc.length fun n => some (pc + 1, ls, .inl (n, n) :: st, none, 0, 0)
  | .inr (.inr (n + 4)) :: st => match ev_at h n with
    | some (.inl o) => bif Nat.ble o.2.1 1000000 then some (pc + 1, ls, .inl (o.2.1, o.2.1) :: st, none, 0, 0) else none
    | _ => none
  | _ => none
def ev_ald (pc : Nat) (sc : List ev_V) (hi : List Int) (ls : ev_L) (st : List ev_V) (h : ev_H) : ev_O := match st with
  | .inl r :: .inr (.inr 2) :: st => match ev_ix r sc.length with
    | some j => ev_psh (pc + 1) ls st (ev_at sc j)
    | none => none
  | .inl r :: .inr (.inr 3) :: st => match ev_ix r hi.length with
    | some j => match ev_at hi j with
      | some v => some (pc + 1, ls, .inl (v, v) :: st, none, 0, 0)
      | none => none
    | none => none
  | .inl r :: .inr (.inr (n + 4)) :: st => match ev_at h n with
    | some (.inl (0, w, m)) => match ev_ix r w with
      | some j => some (pc + 1, ls, .inl (ev_get m j) :: st, none, 0, 0)
      | none => none
    | _ => none
  | _ => none
def ev_ast (pc : Nat) (ls : ev_L) (st : List ev_V) (h : ev_H) : ev_O := match st with
  | .inl x :: .inl r :: .inr (.inr (n + 4)) :: st => match ev_at h n with
    | some (.inl (0, w, m)) => match ev_ix r w with
      | some j => ev_put m j x fun m => ev_fL (h.set n (.inl (0, w, m))) fun h => some (pc + 1, ls, st, some h, 0, 0)
      | none => none
    | _ => none
  | _ => none
def ev_bst (pc : Nat) (ls : ev_L) (st : List ev_V) (h : ev_H) : ev_O := match st with
  | .inl _ :: .inl r :: .inr (.inr (n + 4)) :: st => match ev_at h n with
    | some (.inl (1, w, m)) => match ev_ix r w with
      | some j => ev_put m j (-2147483648, 2147483647) fun m => ev_fL (h.set n (.inl (1, w, m))) fun h => some (pc + 1, ls, st, some h, 0, 0)
      | none => none
    | _ => none
  | _ => none
def ev_lst (pc : Nat) (ls : ev_L) (st : List ev_V) (h : ev_H) : ev_O := match st with
  | .inr (.inr 0) :: .inl r :: .inr (.inr (n + 4)) :: st => match ev_at h n with
    | some (.inl (3, w, _)) => match ev_ix r w with
      | some _ => some (pc + 1, ls, st, none, 0, 0)
      | none => none
    | _ => none
  | _ => none
def ev_ii (f : (Int × Int) → (Int × Int) → ev_V) (pc : Nat) (ls : ev_L) (st : List ev_V) : ev_O := match st with
  | .inl y :: .inl x :: st => some (pc, ls, f x y :: st, none, 0, 0)
  | _ => none
def ev_and (pc : Nat) (ls : ev_L) (st : List ev_V) : ev_O := match st with
  | .inl y :: .inl x :: st => some (pc, ls, ev_bin (fun a b => a &&& b) x y :: st, none, 0, 0)
  | .inl y :: .inr (.inl k) :: st => bif decide (y.1 = 31) && decide (y.2 = 31) && Nat.ble k 31 then some (pc, ls, .inl (k, k) :: st, none, 0, 0) else none
  | _ => none
def ev_cc (f : (Int × Int) → (Int × Int) → Option Bool) (pc : Nat) (off : Int) (ls : ev_L) (st : List ev_V) : ev_O := match st with
  | .inl y :: .inl x :: st => ev_br pc off ls st (f x y)
  | _ => none
def ev_c0 (f : (Int × Int) → (Int × Int) → Option Bool) (pc : Nat) (off : Int) (ls : ev_L) (st : List ev_V) : ev_O := match st with
  | .inl x :: st => ev_br pc off ls st (f x (0, 0))
  | _ => none
def ev_tsw (pc : Nat) (d lo hi : Int) (offs : Array Int) (ls : ev_L) (st : List ev_V) : ev_O := match st with
  | .inl x :: st => if x.2 < lo ∨ hi < x.1 then ev_jmp pc d ls st else if x.1 = x.2 ∧ lo ≤ x.1 ∧ x.1 ≤ hi then match ev_at offs.toList (x.1 - lo).toNat with
      | some o => ev_jmp pc o ls st
      | none => none
    else none
  | _ => none
def ev_lsw (pc : Nat) (d : Int) (ps : Array (Int × Int)) (ls : ev_L) (st : List ev_V) : ev_O := match st with
  | .inl x :: st => if x.1 = x.2 then ev_jmp pc (Op.lookupswitch.offset ps.toList d x.1) ls st else none
  | _ => none
def ev_sI (pc i : Nat) (ls : ev_L) (st : List ev_V) : ev_O := match st with
  | .inl x :: st => ev_fL (ev_sto ls i (.inl x)) fun ls => some (pc, ls, st, none, 0, 0)
  | _ => none
def ev_sR (pc i : Nat) (ls : ev_L) (st : List ev_V) : ev_O := match st with
  | .inr (.inr (n + 2)) :: st => ev_fL (ev_sto ls i (.inr (.inr (n + 2)))) fun ls => some (pc, ls, st, none, 0, 0)
  | _ => none
def ev_sJ (pc i : Nat) (ls : ev_L) (st : List ev_V) : ev_O := match st with
  | .inr (.inr 0) :: st => ev_fL (ev_stoL ls i (.inr (.inr 0))) fun ls => some (pc, ls, st, none, 0, 0)
  | _ => none
def ev_inc (pc i : Nat) (n : Int) (ls : ev_L) (st : List ev_V) : ev_O := match ev_loc ls i with
  | some (.inl x) => ev_fV (ev_bin (fun a b => a + b) x (n, n)) fun v => ev_fL (ev_sto ls i v) fun ls => some (pc + 3, ls, st, none, 0, 0)
  | _ => none
def ev_mm (mx : Bool) (x y : Int × Int) : ev_V := ev_bin (fun a b => if mx then (if a < b then b else a) else (if b < a then b else a)) x y
/-- a row of ints copied into another, place by place -/
def ev_cp (f g : List (Nat × (Int × Int))) (sp dp : Nat) (n : Nat) : List (Nat × (Int × Int)) := match n with
  | 0 => g
  | n + 1 => ev_put (ev_cp f g sp dp n) (dp + n) (ev_get f (sp + n)) fun m => m
def ev_copy (pc : Nat) (ls : ev_L) (st : List ev_V) (h : ev_H) : ev_O := match st with
  | .inl n :: .inl dp :: .inr (.inr (b + 4)) :: .inl sp :: .inr (.inr (a + 4)) :: st => match ev_at h a, ev_at h b with
    | some (.inl (0, w, f)), some (.inl (0, v, g)) => match ev_ix n 1000000, ev_ix dp 1000000, ev_ix sp 1000000 with
      | some n, some dp, some sp => bif Nat.ble (sp + n) w && Nat.ble (dp + n) v && !(Nat.beq a b) then ev_fL (ev_cp f g sp dp n) fun m => ev_fL (h.set b (.inl (0, v, m))) fun h => some (pc + 3, ls, st, some h, 0, 0) else none
      | _, _, _ => none
    | _, _ => none
  | _ => none
def ev_step (df : List (List ev_V)) (sc : List ev_V) (hi : List Int) (q : ev_I) (ls : ev_L) (st : List ev_V) (h : ev_H) : ev_O := match q.2.1 with
  | (.aload_n k, 1) => ev_psh (q.1 + 1) ls st (ev_ldR ls k.val)
  | (.aload k, 2) => ev_psh (q.1 + 2) ls st (ev_ldR ls k)
  | (.iload_n k, 1) => ev_psh (q.1 + 1) ls st (ev_ldI ls k.val)
  | (.iload k, 2) => ev_psh (q.1 + 2) ls st (ev_ldI ls k)
  | (.lload_n k, 1) => ev_psh (q.1 + 1) ls st (ev_ldJ ls k.val)
  | (.iconst _, 1) => some (q.1 + 1, ls, .inl (q.2.2.2.2.2, q.2.2.2.2.2) :: st, none, 0, 0)
  | (.bipush _, 2) => some (q.1 + 2, ls, .inl (q.2.2.2.2.2, q.2.2.2.2.2) :: st, none, 0, 0)
  | (.sipush _, 3) => some (q.1 + 3, ls, .inl (q.2.2.2.2.2, q.2.2.2.2.2) :: st, none, 0, 0)
  | (.ldc _, 2) => some (q.1 + 2, ls, .inl (q.2.2.2.2.2, q.2.2.2.2.2) :: st, none, 0, 0)
  | (.ldc_w _, 3) => some (q.1 + 3, ls, .inl (q.2.2.2.2.2, q.2.2.2.2.2) :: st, none, 0, 0)
  | (.istore_n k, 1) => ev_sI (q.1 + 1) k.val ls st
  | (.istore k, 2) => ev_sI (q.1 + 2) k ls st
  | (.astore_n k, 1) => ev_sR (q.1 + 1) k.val ls st
  | (.lstore k, 2) => ev_sJ (q.1 + 2) k ls st
  | (.iinc k n, 3) => ev_inc q.1 k n ls st
  | (.getfield _, 3) => ev_getf q.1 q.2.2.2.1 q.2.2.2.2.1 ls st h
  | (.putfield _, 3) => ev_putf q.1 q.2.2.2.1 q.2.2.2.2.1 q.2.2.2.2.2.toNat ls st h
  | (.new _, 3) => ev_new q.1 q.2.2.2.1 df ls st h
  | (.newarray _, 2) => ev_newa q.1 q.2.2.2.1 ls st h
  | (.arraylength, 1) => ev_len q.1 sc ls st h
  | (.iaload, 1) => ev_ald q.1 sc hi ls st h
  | (.iastore, 1) => ev_ast q.1 ls st h
  | (.bastore, 1) => ev_bst q.1 ls st h
  | (.lastore, 1) => ev_lst q.1 ls st h
  | (.getstatic _, 3) => some (q.1 + 3, ls, .inr (.inr 3) :: st, none, 0, 0)
  | (.iadd, 1) => ev_ii (ev_bin fun a b => a + b) (q.1 + 1) ls st
  | (.isub, 1) => ev_ii (ev_bin fun a b => a - b) (q.1 + 1) ls st
  | (.imul, 1) => ev_ii (ev_bin fun a b => a * b) (q.1 + 1) ls st
  | (.ishr, 1) => ev_ii (ev_bin fun a b => a >>> (b &&& 31)) (q.1 + 1) ls st
  | (.iushr, 1) => ev_ii (ev_bin fun a b => (a.toUInt32 >>> (b.toUInt32 &&& Int32.toUInt32 31)).toInt32) (q.1 + 1) ls st
  | (.iand, 1) => ev_and (q.1 + 1) ls st
  | (.i2b, 1) => match st with
    | .inl _ :: st => some (q.1 + 1, ls, ev_top :: st, none, 0, 0)
    | _ => none
  | (.i2l, 1) => match st with
    | .inl _ :: st => some (q.1 + 1, ls, .inr (.inr 0) :: st, none, 0, 0)
    | _ => none
  | (.dup, 1) => match st with
    | x :: st => bif ev_ok1 x then some (q.1 + 1, ls, x :: x :: st, none, 0, 0) else none
    | _ => none
  | (.dup_x1, 1) => match st with
    | x :: y :: st => bif ev_ok1 x && ev_ok1 y then some (q.1 + 1, ls, x :: y :: x :: st, none, 0, 0) else none
    | _ => none
  | (.pop, 1) => match st with
    | x :: st => bif ev_ok1 x then some (q.1 + 1, ls, st, none, 0, 0) else none
    | _ => none
  | (.goto off, 3) => ev_jmp q.1 off ls st
  | (.if_icmp .lt off, 3) => ev_cc ev_lt q.1 off ls st
  | (.if_icmp .ge off, 3) => ev_cc (fun x y => ev_not (ev_lt x y)) q.1 off ls st
  | (.if_icmp .gt off, 3) => ev_cc (fun x y => ev_lt y x) q.1 off ls st
  | (.if_icmp .le off, 3) => ev_cc (fun x y => ev_not (ev_lt y x)) q.1 off ls st
  | (.if_icmp .eq off, 3) => ev_cc ev_eq q.1 off ls st
  | (.if_icmp .ne off, 3) => ev_cc (fun x y => ev_not (ev_eq x y)) q.1 off ls st
  | (.ifCond .lt off, 3) => ev_c0 ev_lt q.1 off ls st
  | (.ifCond .ge off, 3) => ev_c0 (fun x y => ev_not (ev_lt x y)) q.1 off ls st
  | (.ifCond .gt off, 3) => ev_c0 (fun x y => ev_lt y x) q.1 off ls st
  | (.ifCond .le off, 3) => ev_c0 (fun x y => ev_not (ev_lt y x)) q.1 off ls st
  | (.ifCond .eq off, 3) => ev_c0 ev_eq q.1 off ls st
  | (.ifCond .ne off, 3) => ev_c0 (fun x y => ev_not (ev_eq x y)) q.1 off ls st
  | (.tableswitch d lo hi offs, _) => ev_tsw q.1 d lo hi offs ls st
  | (.lookupswitch d ps, _) => ev_lsw q.1 d ps ls st
  | _ => none
/-- calls of the library's own: kind 7 Object's constructor, 8 max, 9 min, 10 a copy -/
def ev_lib (k : Nat) (q : ev_I) (ls : ev_L) (st : List ev_V) (h : ev_H) : ev_O := match k with
  | 7 => match st with
    | .inr (.inr (_ + 4)) :: st => bif Nat.ble st.length 4 then some (q.1 + 3, ls, st, none, 0, 0) else none
    | _ => none
  | 8 => bif Nat.ble st.length 6 then ev_ii (ev_mm true) (q.1 + 3) ls st else none
  | 9 => bif Nat.ble st.length 6 then ev_ii (ev_mm false) (q.1 + 3) ls st else none
  | 10 => bif Nat.ble st.length 9 then ev_copy q.1 ls st h else none
  | _ => none
/-- a method's end: 0 nothing, 1 an int, 2 a boolean, 3 a long, 5 a throw -/
def ev_end (t : Nat) (st : List ev_V) : Bool := match t, st with
  | 0, [] => true
  | 1, [.inl _] => true
  | 2, [.inl r] => decide (0 ≤ r.1) && decide (r.2 ≤ 1)
  | 3, [.inr (.inr 0)] => true
  | 5, [] => true
  | _, _ => false
/-- how many words arguments take -/
def ev_wd (l : List ev_V) : Nat := match l with
  | [] => 0
  | x :: t => (bif ev_lng x then 2 else 1) + ev_wd t
/-- the receiver is an object of that kind -/
def ev_rcv (ci : Nat) (as : List ev_V) (h : ev_H) : Bool := match as with
  | .inr (.inr (n + 4)) :: _ => match ev_at h n with
    | some (.inr o) => Nat.beq o.1 ci
    | _ => false
  | _ => false
abbrev ev_F : Type := Nat → ev_M → Nat → Nat → ev_L → List ev_V → ev_H → Nat → Nat → Option ev_R
/-- a step's outcome goes on -/
def ev_go (ih : ev_F) (d : Nat) (T : ev_M) (stop : Nat) (h : ev_H) (k n : Nat) (o : ev_O) : Option ev_R := match o with
  | none => none
  | some r => ev_fN r.1 fun pc => ev_fS r.2.2.1 fun st => ev_fN (k + r.2.2.2.2.1) fun k => ev_fN (n + r.2.2.2.2.2) fun n => match r.2.2.2.1 with
    | none => ih d T stop pc r.2.1 st h k n
    | some h => ih d T stop pc r.2.1 st h k n
/-- a call: kinds 2 virtual, 3 constructor, 4 constructor of a nest mate, 5 static -/
def ev_call (PR : List ev_M) (ih : ev_F) (d : Nat) (T : ev_M) (stop : Nat) (q : ev_I) (ls : ev_L) (st : List ev_V) (h : ev_H) (k n : Nat) : Option ev_R := match d with
  | 0 => none
  | d + 1 => ev_fL (st.take q.2.2.2.2.1).reverse fun as => ev_fL (st.drop q.2.2.2.2.1) fun rest => bif Nat.beq as.length q.2.2.2.2.1 && Nat.ble rest.length 4 && (Nat.beq q.2.2.1 5 || ev_rcv (q.2.2.2.2.2.toNat % 100) as h) && Nat.ble (ev_wd as) (q.2.2.2.2.2.toNat / 100) then
      match ev_at PR q.2.2.2.1 with
      | none => none
      | some U => ev_fL (ev_args 0 as) fun la => match ih d U 100000 0 la [] h 0 0 with
        | none => none
        | some r => bif Nat.ble r.1 3 then ev_fN (k + r.2.2.2.2.2.1) fun k => ev_fN (n + r.2.2.2.2.2.2) fun n => ev_fN (q.1 + 3) fun pc => ev_fS (r.2.2.2.1 ++ rest) fun st => ih (d + 1) T stop pc ls st r.2.2.2.2.1 k n else none
    else none
/-- kind 6: a call that the law makes of what throws, with its catching; 40 cells, 400 places are more than an exception takes -/
def ev_help (PR : List ev_M) (ih : ev_F) (d : Nat) (T : ev_M) (stop : Nat) (q : ev_I) (ls : ev_L) (st : List ev_V) (h : ev_H) (k n : Nat) : Option ev_R := match d with
  | d + 12 => ev_fL (st.take q.2.2.2.2.1).reverse fun as => ev_fL (st.drop q.2.2.2.2.1) fun rest => bif Nat.beq as.length q.2.2.2.2.1 && Nat.ble rest.length 4 && ev_rcv 10 as h && Nat.ble (ev_wd as) (q.2.2.2.2.2.toNat / 100) && Nat.ble (ev_wd as.dropLast) (q.2.2.2.2.2.toNat % 100) then
      match ev_at PR q.2.2.2.1 with
      | none => none
      | some U => ev_fL (ev_args 0 as.dropLast) fun la => match ih 1 U 100000 0 la [] h 0 0 with
        | none => none
        | some r => bif Nat.beq r.1 5 && Nat.beq r.2.2.2.2.2.1 0 && Nat.beq r.2.2.2.2.2.2 0 then ev_fN (k + 40) fun k => ev_fN (n + 400) fun n => ev_fN (q.1 + 3) fun pc => ih (d + 12) T stop pc ls (.inl (1, 1) :: rest) r.2.2.2.2.1 k n else none
    else none
  | _ => none
def ev_body (PR : List ev_M) (df : List (List ev_V)) (sc : List ev_V) (hi : List Int) (ih : ev_F) (d : Nat) (T : ev_M) (stop pc : Nat) (ls : ev_L) (st : List ev_V) (h : ev_H) (k n : Nat) : Option ev_R :=
  bif Nat.beq pc stop then some (4, pc, ls, st, h, k, n) else
  match ev_fetch T pc with
  | none => none
  | some q => match q.2.2.1 with
    | 0 => ev_go ih d T stop h k n (ev_step df sc hi q ls st h)
    | 1 => bif ev_end q.2.2.2.1 st then some (q.2.2.2.1, pc, ls, st, h, k, n) else none
    | 6 => ev_help PR ih d T stop q ls st h k n
    | 2 => ev_call PR ih d T stop q ls st h k n
    | 3 => ev_call PR ih d T stop q ls st h k n
    | 4 => ev_call PR ih d T stop q ls st h k n
    | 5 => ev_call PR ih d T stop q ls st h k n
    | w + 7 => match d with
      | 0 => none
      | d + 1 => ev_go ih (d + 1) T stop h k n (ev_lib (w + 7) q ls st h)
noncomputable def ev_run (PR : List ev_M) (df : List (List ev_V)) (sc : List ev_V) (hi : List Int) (fuel : Nat) : ev_F :=
  Nat.rec (fun _ _ _ _ _ _ _ _ _ => none) (fun _ ih => ev_body PR df sc hi ih) fuel
end EVA
end
section
/-! ===== what the interpreter's values say of the machine's ===== -/
section EVR
def ev_rel (b hz : Nat) (L : List Nat) (x : ev_V) (v : Value) : Prop := match x with
  | .inl r => ∃ i : Int32, v = .int i ∧ r.1 ≤ i.toInt ∧ i.toInt ≤ r.2
  | .inr (.inl k) => ∃ i : Int32, v = .int i ∧ i &&& 31 = Int32.ofNat k
  | .inr (.inr 0) => ∃ i : Int64, v = .long i
  | .inr (.inr 1) => v = .null
  | .inr (.inr 2) => v = .ref b
  | .inr (.inr 3) => v = .ref hz
  | .inr (.inr (n + 4)) => ∃ a, L[n]? = some a ∧ v = .ref a
theorem ev_rel_mono {b hz : Nat} {L t : List Nat} {x : ev_V} {v : Value} (h : ev_rel b hz L x v) : ev_rel b hz (L ++ t) x v := by
  rcases x with r | k | k
  · exact h
  · exact h
  · match k, h with
    | 0, h => exact h
    | 1, h => exact h
    | 2, h => exact h
    | 3, h => exact h
    | n + 4, ⟨a, h1, h2⟩ =>
      have hl : n < L.length := by
        by_cases q : n < L.length
        · exact q
        · rw [List.getElem?_eq_none (by omega)] at h1; cases h1
      exact ⟨a, by rw [List.getElem?_append_left hl]; exact h1, h2⟩
theorem ev_rel_cat {b hz : Nat} {L : List Nat} {x : ev_V} {v : Value} (h : ev_rel b hz L x v) : (v.category == 2) = ev_lng x := by
  rcases x with r | k | k
  · obtain ⟨i, rfl, -⟩ := h; rfl
  · obtain ⟨i, rfl, -⟩ := h; rfl
  · match k, h with
    | 0, ⟨i, h⟩ => subst h; rfl
    | 1, h => cases h; rfl
    | 2, h => cases h; rfl
    | 3, h => cases h; rfl
    | n + 4, ⟨a, h1, h2⟩ => subst h2; rfl
theorem ev_rel_c1 {b hz : Nat} {L : List Nat} {x : ev_V} {v : Value} (h : ev_rel b hz L x v) (hx : ev_ok1 x = true) : v.category = 1 := by
  rcases x with r | k | k
  · obtain ⟨i, rfl, -⟩ := h; rfl
  · obtain ⟨i, rfl, -⟩ := h; rfl
  · match k, h with
    | 0, ⟨i, h⟩ => cases hx
    | 1, h => cases h; rfl
    | 2, h => cases h; rfl
    | 3, h => cases h; rfl
    | n + 4, ⟨a, h1, h2⟩ => subst h2; rfl
theorem ev_rel_le2 {b hz : Nat} {L : List Nat} {x : ev_V} {v : Value} (h : ev_rel b hz L x v) : v.category ≤ 2 := by
  rcases x with r | k | k
  · obtain ⟨i, rfl, -⟩ := h; exact Nat.le_of_ble_eq_true rfl
  · obtain ⟨i, rfl, -⟩ := h; exact Nat.le_of_ble_eq_true rfl
  · match k, h with
    | 0, ⟨i, h⟩ => subst h; exact Nat.le_of_ble_eq_true rfl
    | 1, h => cases h; exact Nat.le_of_ble_eq_true rfl
    | 2, h => cases h; exact Nat.le_of_ble_eq_true rfl
    | 3, h => cases h; exact Nat.le_of_ble_eq_true rfl
    | n + 4, ⟨a, h1, h2⟩ => subst h2; exact Nat.le_of_ble_eq_true rfl
theorem ev_nt {x : Bool} (h : ¬ x = true) : x = false := by cases x with
  | false => rfl
  | true => exact absurd rfl h
def ev_all {α β : Type} (R : α → β → Prop) (l : List α) (m : List β) : Prop := match l, m with
  | [], [] => True
  | a :: l, b :: m => R a b ∧ ev_all R l m
  | _, _ => False
theorem ev_all_nil {α β : Type} {R : α → β → Prop} : ev_all R [] [] := trivial
theorem ev_all_mono {α β : Type} {R S : α → β → Prop} (f : ∀ a b, R a b → S a b) : ∀ {l : List α} {m : List β}, ev_all R l m → ev_all S l m
  | [], [], _ => trivial
  | a :: l, b :: m, h => ⟨f a b h.1, ev_all_mono f h.2⟩
  | [], _ :: _, h => h.elim
  | _ :: _, [], h => h.elim
theorem ev_all_len {α β : Type} {R : α → β → Prop} : ∀ {l : List α} {m : List β}, ev_all R l m → l.length = m.length
  | [], [], _ => rfl
  | a :: l, b :: m, h => by rw [List.length_cons, List.length_cons, ev_all_len h.2]
  | [], _ :: _, h => h.elim
  | _ :: _, [], h => h.elim
theorem ev_all_get {α β : Type} {R : α → β → Prop} : ∀ {l : List α} {m : List β}, ev_all R l m → ∀ {n : Nat} {a : α}, l[n]? = some a → ∃ b, m[n]? = some b ∧ R a b
  | [], [], _, n, a, h => by simp at h
  | x :: l, y :: m, h, 0, a, e => by
    rw [List.getElem?_cons_zero] at e; cases e
    exact ⟨y, by rw [List.getElem?_cons_zero], h.1⟩
  | x :: l, y :: m, h, n + 1, a, e => by
    rw [List.getElem?_cons_succ] at e
    obtain ⟨b, h1, h2⟩ := ev_all_get h.2 e
    exact ⟨b, by rw [List.getElem?_cons_succ]; exact h1, h2⟩
  | [], _ :: _, h, _, _, _ => h.elim
  | _ :: _, [], h, _, _, _ => h.elim
theorem ev_all_set {α β : Type} {R : α → β → Prop} {a : α} {b : β} (hab : R a b) : ∀ {l : List α} {m : List β}, ev_all R l m → ∀ (n : Nat), ev_all R (l.set n a) (m.set n b)
  | [], [], _, n => by simp [ev_all]
  | x :: l, y :: m, h, 0 => ⟨hab, h.2⟩
  | x :: l, y :: m, h, n + 1 => ⟨h.1, ev_all_set hab h.2 n⟩
  | [], _ :: _, h, _ => h.elim
  | _ :: _, [], h, _ => h.elim
theorem ev_all_app {α β : Type} {R : α → β → Prop} : ∀ {l : List α} {m : List β} {l' : List α} {m' : List β}, ev_all R l m → ev_all R l' m' → ev_all R (l ++ l') (m ++ m')
  | [], [], _, _, _, h' => h'
  | _ :: _, _ :: _, _, _, h, h' => ⟨h.1, ev_all_app h.2 h'⟩
  | [], _ :: _, _, _, h, _ => h.elim
  | _ :: _, [], _, _, h, _ => h.elim
theorem ev_all_take {α β : Type} {R : α → β → Prop} : ∀ {l : List α} {m : List β}, ev_all R l m → ∀ n, ev_all R (l.take n) (m.take n)
  | [], [], _, n => by simp [ev_all]
  | _ :: _, _ :: _, _, 0 => trivial
  | _ :: _, _ :: _, h, n + 1 => ⟨h.1, ev_all_take h.2 n⟩
  | [], _ :: _, h, _ => h.elim
  | _ :: _, [], h, _ => h.elim
theorem ev_all_drop {α β : Type} {R : α → β → Prop} : ∀ {l : List α} {m : List β}, ev_all R l m → ∀ n, ev_all R (l.drop n) (m.drop n)
  | [], [], _, n => by simp [ev_all]
  | _ :: _, _ :: _, h, 0 => h
  | _ :: _, _ :: _, h, n + 1 => ev_all_drop h.2 n
  | [], _ :: _, h, _ => h.elim
  | _ :: _, [], h, _ => h.elim
theorem ev_all_rev {α β : Type} {R : α → β → Prop} : ∀ {l : List α} {m : List β}, ev_all R l m → ev_all R l.reverse m.reverse
  | [], [], _ => trivial
  | x :: l, y :: m, h => by
    rw [List.reverse_cons, List.reverse_cons]
    exact ev_all_app (ev_all_rev h.2) ⟨h.1, trivial⟩
  | [], _ :: _, h => h.elim
  | _ :: _, [], h => h.elim
theorem ev_all_filter {α β : Type} {R : α → β → Prop} {f : α → Bool} {g : β → Bool} (hfg : ∀ a b, R a b → f a = g b) : ∀ {l : List α} {m : List β}, ev_all R l m → ev_all R (l.filter f) (m.filter g)
  | [], [], _ => trivial
  | x :: l, y :: m, h => by
    rw [List.filter_cons, List.filter_cons, hfg x y h.1]
    by_cases q : g y = true
    · rw [if_pos q, if_pos q]; exact ⟨h.1, ev_all_filter hfg h.2⟩
    · rw [if_neg q, if_neg q]; exact ev_all_filter hfg h.2
  | [], _ :: _, h => h.elim
  | _ :: _, [], h => h.elim
theorem ev_all_cons {α β : Type} {R : α → β → Prop} {a : α} {l : List α} {m : List β} (h : ev_all R (a :: l) m) : ∃ b m', m = b :: m' ∧ R a b ∧ ev_all R l m' := by
  cases m with
  | nil => exact h.elim
  | cons b m => exact ⟨b, m, rfl, h.1, h.2⟩
theorem ev_all_none {α β : Type} {R : α → β → Prop} {m : List β} (h : ev_all R [] m) : m = [] := by
  cases m with
  | nil => rfl
  | cons b m => exact h.elim
def ev_ty (t : Nat) : FieldType := match t with
  | 0 => .int
  | 1 => .byte
  | 2 => .boolean
  | _ => .long
def ev_in (r : Int × Int) (i : Int32) : Prop := r.1 ≤ i.toInt ∧ i.toInt ≤ r.2
def ev_crel (b hz : Nat) (tys : List (ClassId × FieldType)) (L : List Nat) (c : ev_C) (e : va_E) : Prop := match c with
  | .inl q => if q.1 = 3 then ∃ (cA : ClassId) (f : Nat → Int64), e = .inl (cA, q.2.1, .inr (.inl f)) ∧ (cA, FieldType.long) ∈ tys
    else ∃ (cA : ClassId) (f : Nat → Int32), e = .inl (cA, q.2.1, .inl f) ∧ (cA, ev_ty q.1) ∈ tys ∧ ∀ j, ev_in (ev_get q.2.2 j) (f j)
  | .inr o => ∃ vs, e = .inr (o.1, vs) ∧ ev_all (ev_rel b hz L) o.2 vs
theorem ev_crel_mono {b hz : Nat} {tys t2 : List (ClassId × FieldType)} {L t : List Nat} {c : ev_C} {e : va_E} (h : ev_crel b hz tys L c e) : ev_crel b hz (tys ++ t2) (L ++ t) c e := by
  rcases c with q | o
  · unfold ev_crel at h ⊢
    by_cases q3 : q.1 = 3
    · simp only [if_pos q3] at h ⊢
      obtain ⟨cA, f, h1, h2⟩ := h
      exact ⟨cA, f, h1, List.mem_append_left _ h2⟩
    · simp only [if_neg q3] at h ⊢
      obtain ⟨cA, f, h1, h2, h3⟩ := h
      exact ⟨cA, f, h1, List.mem_append_left _ h2, h3⟩
  · obtain ⟨vs, h1, h2⟩ := h
    exact ⟨vs, h1, ev_all_mono (fun _ _ => ev_rel_mono) h2⟩
def ev_wrel (b hz : Nat) (tys : List (ClassId × FieldType)) (L : List Nat) (h : ev_H) (ws : va_W) : Prop := ev_all (fun c (q : Nat × va_E) => ev_crel b hz tys L c q.2) h ws
def ev_lrel (b hz : Nat) (L : List Nat) (ls : ev_L) (lv : List (Nat × Value)) : Prop := ev_all (fun q r => q.1 = r.1 ∧ ev_rel b hz L q.2 r.2) ls lv
def ev_St (b hz : Nat) (D : va_G) (cl : List vw_C) (A : Nat → Prop) (L0 : List Nat) (s : State) (nL : Nat) (ls : ev_L) (st : List ev_V) (h : ev_H) (H : Heap) (locs : List Loc) (lsC : Array Slot) (stC : List Value) : Prop :=
  ∃ (tys : List (ClassId × FieldType)) (ws : va_W) (lv : List (Nat × Value)) (t : List Nat), va_K D cl tys s ∧ va_P D cl ws H ∧ va_D A ws ∧ va_S A s.heap H locs ∧ ws.map Prod.fst = L0 ++ t ∧
    ev_wrel b hz tys (ws.map Prod.fst) h ws ∧ ev_all (ev_rel b hz (ws.map Prod.fst)) st stC ∧ lv_has lsC nL lv ∧ ev_lrel b hz (ws.map Prod.fst) ls lv
theorem ev_loc_ok {b hz : Nat} {L : List Nat} : ∀ {ls : ev_L} {lv : List (Nat × Value)}, ev_lrel b hz L ls lv → ∀ {i : Nat} {x : ev_V}, ev_loc ls i = some x → ∃ (k : Nat) (v : Value), lv[k]? = some (i, v) ∧ ev_rel b hz L x v
  | [], _, _, i, x, e => by simp [ev_loc] at e
  | q :: t, [], h, _, _, _ => h.elim
  | q :: t, r :: lv, h, i, x, e => by
    unfold ev_loc at e
    by_cases hq : Nat.beq q.1 i = true
    · rw [hq] at e
      simp only [cond_true, Option.some.injEq] at e
      refine ⟨0, r.2, ?_, by rw [← e]; exact h.1.2⟩
      rw [List.getElem?_cons_zero, ← Nat.eq_of_beq_eq_true hq, h.1.1]
    · rw [ev_nt hq] at e
      obtain ⟨k, v, h1, h2⟩ := ev_loc_ok h.2 e
      exact ⟨k + 1, v, by rw [List.getElem?_cons_succ]; exact h1, h2⟩
theorem ev_sto_ok {b hz : Nat} {L : List Nat} {ls : ev_L} {lv : List (Nat × Value)} (h : ev_lrel b hz L ls lv) (i : Nat) {x : ev_V} {v : Value} (hx : ev_rel b hz L x v) :
    ev_lrel b hz L (ev_sto ls i x) ((i, v) :: lv.filter (fun q => !(q.1 == i) && !(q.1 + 1 == i && q.2.category == 2))) :=
  ⟨⟨rfl, hx⟩, ev_all_filter (fun q r hqr => by rw [hqr.1, ev_rel_cat hqr.2]) h⟩
theorem ev_stoL_ok {b hz : Nat} {L : List Nat} {ls : ev_L} {lv : List (Nat × Value)} (h : ev_lrel b hz L ls lv) (i : Nat) {x : ev_V} {v : Value} (hx : ev_rel b hz L x v) :
    ev_lrel b hz L (ev_stoL ls i x) ((i, v) :: lv.filter (fun q => !(q.1 == i) && (!(q.1 == i + 1) && !(q.1 + 1 == i && q.2.category == 2)))) :=
  ⟨⟨rfl, hx⟩, ev_all_filter (fun q r hqr => by rw [hqr.1, ev_rel_cat hqr.2]) h⟩
theorem ev_args_ok {b hz : Nat} {L : List Nat} : ∀ {as : List ev_V} {vs : List Value}, ev_all (ev_rel b hz L) as vs → ∀ i, ev_lrel b hz L (ev_args i as) (lv_args i vs)
  | [], [], _, _ => trivial
  | x :: as, v :: vs, h, i => by
    refine ⟨⟨rfl, h.1⟩, ?_⟩
    have hc := ev_rel_cat h.1
    have e : (bif ev_lng x then i + 2 else i + 1) = if v.category = 2 then i + 2 else i + 1 := by
      rw [← hc]
      by_cases q : v.category = 2
      · rw [if_pos q, q]; rfl
      · rw [if_neg q, show (v.category == 2) = false from by simpa using q]; rfl
    rw [e]
    exact ev_args_ok h.2 _
  | [], _ :: _, h, _ => h.elim
  | _ :: _, [], h, _ => h.elim
theorem ev_get_put {m : List (Nat × (Int × Int))} {j : Nat} {r : Int × Int} (k : Nat) : ev_get (ev_put m j r fun m => m) k = if k = j then r else ev_get m k := by
  unfold ev_put
  by_cases hs : ev_same (ev_get m j) r = true
  · rw [hs]
    simp only [cond_true]
    by_cases hk : k = j
    · subst hk
      rw [if_pos rfl]
      simp only [ev_same, Bool.and_eq_true, decide_eq_true_eq] at hs
      exact Prod.ext hs.1 hs.2
    · rw [if_neg hk]
  · rw [ev_nt hs]
    simp only [cond_false, ev_get]
    by_cases hk : k = j
    · subst hk
      rw [if_pos rfl, show Nat.beq k k = true from Nat.beq_refl k]; rfl
    · rw [if_neg hk, show Nat.beq j k = false from by
        cases hb : Nat.beq j k with
        | false => rfl
        | true => exact absurd (Nat.eq_of_beq_eq_true hb).symm hk]; rfl
theorem ev_put_out {α : Type} {m : List (Nat × (Int × Int))} {j : Nat} {r : Int × Int} (f : List (Nat × (Int × Int)) → α) : ev_put m j r f = f (ev_put m j r fun m => m) := by
  unfold ev_put
  cases ev_same (ev_get m j) r <;> rfl
theorem ev_cp_get {f g : List (Nat × (Int × Int))} {sp dp : Nat} : ∀ (n k : Nat), ev_get (ev_cp f g sp dp n) k = if dp ≤ k ∧ k < dp + n then ev_get f (sp + (k - dp)) else ev_get g k
  | 0, k => by rw [if_neg (by omega)]; rfl
  | n + 1, k => by
    show ev_get (ev_put (ev_cp f g sp dp n) (dp + n) (ev_get f (sp + n)) fun m => m) k = _
    rw [ev_get_put, ev_cp_get n k]
    by_cases h1 : k = dp + n
    · subst h1
      rw [if_pos rfl, if_pos (by omega)]
      congr 1; omega
    · rw [if_neg h1]
      by_cases h2 : dp ≤ k ∧ k < dp + n
      · rw [if_pos h2, if_pos (by omega)]
      · rw [if_neg h2, if_neg (by omega)]
theorem ev_ix_ok {x : Int × Int} {n j : Nat} (h : ev_ix x n = some j) {i : Int32} (hi : ev_in x i) : i = nI j ∧ vp_in i n ∧ i.toNatClampNeg = j ∧ j < n ∧ ¬ i < 0 := by
  unfold ev_ix at h
  split at h
  · rename_i a b ha hb
    have hc : (Nat.beq a b && Nat.ble (a + 1) n) = true := by
      cases q : (Nat.beq a b && Nat.ble (a + 1) n) with
      | true => rfl
      | false => rw [q] at h; cases h
    rw [hc] at h
    simp only [cond_true, Option.some.injEq] at h
    subst h
    simp only [Bool.and_eq_true] at hc
    have e1 := Nat.eq_of_beq_eq_true hc.1
    have e2 := Nat.le_of_ble_eq_true hc.2
    have hj : i.toInt = (a : Int) := by
      have h1 := hi.1
      have h2 := hi.2
      rw [ha] at h1
      rw [hb, ← e1] at h2
      have h1' : (a : Int) ≤ i.toInt := h1
      have h2' : i.toInt ≤ (a : Int) := h2
      omega
    have hlt : a < 2 ^ 31 := by
      have := Int32.toInt_lt i
      omega
    have e : i = nI a := by
      apply Int32.toInt_inj.mp
      rw [hj, nI_toInt hlt]
    subst e
    have hcl : (nI a).toNatClampNeg = a := nI_clamp hlt
    have hps : ¬ nI a < 0 := nI_pos hlt
    exact ⟨rfl, fun q => q.elim hps (fun q => by rw [hcl] at q; omega), hcl, by omega, hps⟩
  · cases h
theorem ev_bin_ok {f : Int32 → Int32 → Int32} {x y : Int × Int} {i j : Int32} (hi : ev_in x i) (hj : ev_in y j) {b hz : Nat} {L : List Nat} : ev_rel b hz L (ev_bin f x y) (.int (f i j)) := by
  unfold ev_bin
  by_cases hq : (decide (x.1 = x.2) && decide (y.1 = y.2)) = true
  · rw [hq]
    simp only [cond_true]
    rw [ev_fI_eq]
    simp only [Bool.and_eq_true, decide_eq_true_eq] at hq
    have e1 : Int32.ofInt x.1 = i := by
      have := hi.1; have := hi.2
      rw [show x.1 = i.toInt by omega, Int32.ofInt_toInt]
    have e2 : Int32.ofInt y.1 = j := by
      have := hj.1; have := hj.2
      rw [show y.1 = j.toInt by omega, Int32.ofInt_toInt]
    exact ⟨f i j, rfl, by rw [e1, e2]; exact Int.le_refl _, by rw [e1, e2]; exact Int.le_refl _⟩
  · rw [ev_nt hq]
    exact ⟨f i j, rfl, Int32.le_toInt _, by have := Int32.toInt_le (f i j); exact this⟩
theorem ev_top_ok {i : Int32} {b hz : Nat} {L : List Nat} : ev_rel b hz L ev_top (.int i) := ⟨i, rfl, Int32.le_toInt _, by have := Int32.toInt_le i; exact this⟩
theorem ev_lt_t {x y : Int × Int} {i j : Int32} (hi : ev_in x i) (hj : ev_in y j) (h : ev_lt x y = some true) : i < j := by
  unfold ev_lt at h
  split at h
  · rename_i q
    rw [Int32.lt_iff_toInt_lt]
    have := hi.2; have := hj.1; omega
  · split at h <;> cases h
theorem ev_lt_f {x y : Int × Int} {i j : Int32} (hi : ev_in x i) (hj : ev_in y j) (h : ev_lt x y = some false) : ¬ i < j := by
  unfold ev_lt at h
  split at h
  · cases h
  · split at h
    · rename_i q
      rw [Int32.lt_iff_toInt_lt]
      have := hi.1; have := hj.2; omega
    · cases h
theorem ev_eq_t {x y : Int × Int} {i j : Int32} (hi : ev_in x i) (hj : ev_in y j) (h : ev_eq x y = some true) : i = j := by
  unfold ev_eq at h
  split at h
  · rename_i q
    apply Int32.toInt_inj.mp
    have := hi.1; have := hi.2; have := hj.1; have := hj.2; omega
  · split at h <;> cases h
theorem ev_eq_f {x y : Int × Int} {i j : Int32} (hi : ev_in x i) (hj : ev_in y j) (h : ev_eq x y = some false) : ¬ i = j := by
  unfold ev_eq at h
  split at h
  · cases h
  · split at h
    · rename_i q
      intro e
      subst e
      have := hi.1; have := hi.2; have := hj.1; have := hj.2; omega
    · cases h
end EVR
end
section
/-! ===== each step of the interpreter is one of the machine ===== -/
section EVS
variable {p : Program} {l : Launch} {e : Env} {R : Room} {s : State} {m : MethodId} {args : Array Value} {below : List Frame} {meth : Method} {c : Code} {Q : State → Prop} {b hz : Nat} {D : va_G} {cl : List vw_C} {A : Nat → Prop} {L0 : List Nat} {nL : Nat} {cells slots : Nat} {cc : ByteArray} {pc : Nat} {ls : ev_L} {st : List ev_V} {h : ev_H}
def ev_K (p : Program) (l : Launch) (e : Env) (R : Room) (s : State) (m : MethodId) (args : Array Value) (below : List Frame) (meth : Method) (c : Code) (Q : State → Prop) (b hz : Nat) (D : va_G) (cl : List vw_C) (A : Nat → Prop) (L0 : List Nat) (nL : Nat) (cells slots : Nat) (pc : Nat) (ls : ev_L) (st : List ev_V) (h : ev_H) : Prop :=
  ∀ (H : Heap) (locs : List Loc) (lsC : Array Slot) (stC : List Value), ev_St b hz D cl A L0 s nL ls st h H locs lsC stC → W p l e R s m args below meth c H locs cells slots Q (F0 m pc lsC stC)
def ev_hv (j : Nat) : Value := .int (Int32.ofInt (([5, 24, 9, 1, 9] : List Int).getD j 0))
/-- a known pushed value -/
theorem ev_pc_ok {n : Int} {v : Int32} (hv : v.toInt = n) : ev_rel b hz (L0) (.inl (n, n)) (.int v) := ⟨v, rfl, by rw [hv]; exact Int.le_refl _, by rw [hv]; exact Int.le_refl _⟩

theorem ev_ref_ok {n : Nat} {L : List Nat} {v : Value} (hv : ev_rel b hz L (.inr (.inr (n + 2))) v) : ∃ a, v = .ref a := by
  match n, hv with
  | 0, hv => exact ⟨_, hv⟩
  | 1, hv => exact ⟨_, hv⟩
  | n + 2, ⟨a, _, hv⟩ => exact ⟨a, hv⟩
theorem ev_iload_n_ok (hx : p.tables.exec = Jvm.exec) (hb : c.code = cc) {k : Fin 4} {x : ev_V} (hld : ev_ldI ls k.val = some x) (hdg : decode cc pc = .ok (.iload_n k, 1)) (kk : ev_K p l e R s m args below meth c Q b hz D cl A L0 nL cells slots (pc + 1) ls (x :: st) h) : ev_K p l e R s m args below meth c Q b hz D cl A L0 nL cells slots pc ls st h := by
  intro H locs lsC stC hSt
  obtain ⟨tys, ws, lv, t, hK, hP, hD, hS, hL0, hw, hst, hl, hlr⟩ := hSt
  unfold ev_ldI at hld
  split at hld
  · rename_i hq
    cases hld
    obtain ⟨j, v, h1, h2⟩ := ev_loc_ok hlr hq
    obtain ⟨i, rfl, h3⟩ := h2
    exact lv_iload_n hx hb hdg rfl (lv_at hl j h1) (kk H locs lsC _ ⟨tys, ws, lv, t, hK, hP, hD, hS, hL0, hw, ⟨⟨i, rfl, h3⟩, hst⟩, hl, hlr⟩)
  · cases hld
theorem ev_iload_ok (hx : p.tables.exec = Jvm.exec) (hb : c.code = cc) {k : Nat} {x : ev_V} (hld : ev_ldI ls k = some x) (hdg : decode cc pc = .ok (.iload k, 2)) (kk : ev_K p l e R s m args below meth c Q b hz D cl A L0 nL cells slots (pc + 2) ls (x :: st) h) : ev_K p l e R s m args below meth c Q b hz D cl A L0 nL cells slots pc ls st h := by
  intro H locs lsC stC hSt
  obtain ⟨tys, ws, lv, t, hK, hP, hD, hS, hL0, hw, hst, hl, hlr⟩ := hSt
  unfold ev_ldI at hld
  split at hld
  · rename_i hq
    cases hld
    obtain ⟨j, v, h1, h2⟩ := ev_loc_ok hlr hq
    obtain ⟨i, rfl, h3⟩ := h2
    exact lv_iload hx hb hdg (lv_at hl j h1) (kk H locs lsC _ ⟨tys, ws, lv, t, hK, hP, hD, hS, hL0, hw, ⟨⟨i, rfl, h3⟩, hst⟩, hl, hlr⟩)
  · cases hld
theorem ev_aload_n_ok (hx : p.tables.exec = Jvm.exec) (hb : c.code = cc) {k : Fin 4} {x : ev_V} (hld : ev_ldR ls k.val = some x) (hdg : decode cc pc = .ok (.aload_n k, 1)) (kk : ev_K p l e R s m args below meth c Q b hz D cl A L0 nL cells slots (pc + 1) ls (x :: st) h) : ev_K p l e R s m args below meth c Q b hz D cl A L0 nL cells slots pc ls st h := by
  intro H locs lsC stC hSt
  obtain ⟨tys, ws, lv, t, hK, hP, hD, hS, hL0, hw, hst, hl, hlr⟩ := hSt
  unfold ev_ldR at hld
  split at hld
  · rename_i hq
    cases hld
    obtain ⟨j, v, h1, h2⟩ := ev_loc_ok hlr hq
    obtain ⟨a, rfl⟩ := ev_ref_ok h2
    exact lv_aload_n hx hb hdg rfl (lv_at hl j h1) (kk H locs lsC _ ⟨tys, ws, lv, t, hK, hP, hD, hS, hL0, hw, ⟨h2, hst⟩, hl, hlr⟩)
  · cases hld
theorem ev_aload_ok (hx : p.tables.exec = Jvm.exec) (hb : c.code = cc) {k : Nat} {x : ev_V} (hld : ev_ldR ls k = some x) (hdg : decode cc pc = .ok (.aload k, 2)) (kk : ev_K p l e R s m args below meth c Q b hz D cl A L0 nL cells slots (pc + 2) ls (x :: st) h) : ev_K p l e R s m args below meth c Q b hz D cl A L0 nL cells slots pc ls st h := by
  intro H locs lsC stC hSt
  obtain ⟨tys, ws, lv, t, hK, hP, hD, hS, hL0, hw, hst, hl, hlr⟩ := hSt
  unfold ev_ldR at hld
  split at hld
  · rename_i hq
    cases hld
    obtain ⟨j, v, h1, h2⟩ := ev_loc_ok hlr hq
    obtain ⟨a, rfl⟩ := ev_ref_ok h2
    exact lv_aload hx hb hdg (lv_at hl j h1) (kk H locs lsC _ ⟨tys, ws, lv, t, hK, hP, hD, hS, hL0, hw, ⟨h2, hst⟩, hl, hlr⟩)
  · cases hld
theorem ev_lload_n_ok (hx : p.tables.exec = Jvm.exec) (hb : c.code = cc) {k : Fin 4} {x : ev_V} (hld : ev_ldJ ls k.val = some x) (hdg : decode cc pc = .ok (.lload_n k, 1)) (kk : ev_K p l e R s m args below meth c Q b hz D cl A L0 nL cells slots (pc + 1) ls (x :: st) h) : ev_K p l e R s m args below meth c Q b hz D cl A L0 nL cells slots pc ls st h := by
  intro H locs lsC stC hSt
  obtain ⟨tys, ws, lv, t, hK, hP, hD, hS, hL0, hw, hst, hl, hlr⟩ := hSt
  unfold ev_ldJ at hld
  split at hld
  · rename_i hq
    cases hld
    obtain ⟨j, v, h1, h2⟩ := ev_loc_ok hlr hq
    obtain ⟨i, rfl⟩ := h2
    exact lv_lload_n hx hb hdg rfl (lv_at hl j h1) (kk H locs lsC _ ⟨tys, ws, lv, t, hK, hP, hD, hS, hL0, hw, ⟨⟨i, rfl⟩, hst⟩, hl, hlr⟩)
  · cases hld
theorem ev_istore_n_ok (hx : p.tables.exec = Jvm.exec) (hb : c.code = cc) {k : Fin 4} {r : Int × Int} (hn : k.val < nL) (hdg : decode cc pc = .ok (.istore_n k, 1)) (kk : ev_K p l e R s m args below meth c Q b hz D cl A L0 nL cells slots (pc + 1) (ev_sto ls k.val (.inl r)) st h) : ev_K p l e R s m args below meth c Q b hz D cl A L0 nL cells slots pc ls (.inl r :: st) h := by
  intro H locs lsC stC hSt
  obtain ⟨tys, ws, lv, t, hK, hP, hD, hS, hL0, hw, hst, hl, hlr⟩ := hSt
  obtain ⟨v, stCv, ev, hv, hv1⟩ := ev_all_cons hst
  subst ev
  clear hst
  have hst := hv1
  obtain ⟨i, rfl, h3⟩ := hv
  exact lv_istore_n hx hb hdg rfl hl hn rfl (fun ls' hl' => kk H locs ls' _ ⟨tys, ws, _, t, hK, hP, hD, hS, hL0, hw, hst, hl', ev_sto_ok hlr _ ⟨i, rfl, h3⟩⟩)
theorem ev_istore_ok (hx : p.tables.exec = Jvm.exec) (hb : c.code = cc) {k : Nat} {r : Int × Int} (hn : k < nL) (hdg : decode cc pc = .ok (.istore k, 2)) (kk : ev_K p l e R s m args below meth c Q b hz D cl A L0 nL cells slots (pc + 2) (ev_sto ls k (.inl r)) st h) : ev_K p l e R s m args below meth c Q b hz D cl A L0 nL cells slots pc ls (.inl r :: st) h := by
  intro H locs lsC stC hSt
  obtain ⟨tys, ws, lv, t, hK, hP, hD, hS, hL0, hw, hst, hl, hlr⟩ := hSt
  obtain ⟨v, stCv, ev, hv, hv1⟩ := ev_all_cons hst
  subst ev
  clear hst
  have hst := hv1
  obtain ⟨i, rfl, h3⟩ := hv
  exact lv_istore hx hb hdg hl hn rfl (fun ls' hl' => kk H locs ls' _ ⟨tys, ws, _, t, hK, hP, hD, hS, hL0, hw, hst, hl', ev_sto_ok hlr _ ⟨i, rfl, h3⟩⟩)
theorem ev_astore_n_ok (hx : p.tables.exec = Jvm.exec) (hb : c.code = cc) {k : Fin 4} {n : Nat} (hn : k.val < nL) (hdg : decode cc pc = .ok (.astore_n k, 1)) (kk : ev_K p l e R s m args below meth c Q b hz D cl A L0 nL cells slots (pc + 1) (ev_sto ls k.val (.inr (.inr (n + 2)))) st h) : ev_K p l e R s m args below meth c Q b hz D cl A L0 nL cells slots pc ls (.inr (.inr (n + 2)) :: st) h := by
  intro H locs lsC stC hSt
  obtain ⟨tys, ws, lv, t, hK, hP, hD, hS, hL0, hw, hst, hl, hlr⟩ := hSt
  obtain ⟨v, stCv, ev, hv, hv1⟩ := ev_all_cons hst
  subst ev
  clear hst
  have hst := hv1
  obtain ⟨a, rfl⟩ := ev_ref_ok hv
  exact lv_astore_n hx hb hdg rfl hl hn rfl (fun ls' hl' => kk H locs ls' _ ⟨tys, ws, _, t, hK, hP, hD, hS, hL0, hw, hst, hl', ev_sto_ok hlr _ hv⟩)
theorem ev_lstore_ok (hx : p.tables.exec = Jvm.exec) (hb : c.code = cc) {k : Nat} (hn : k + 1 < nL) (hdg : decode cc pc = .ok (.lstore k, 2)) (kk : ev_K p l e R s m args below meth c Q b hz D cl A L0 nL cells slots (pc + 2) (ev_stoL ls k (.inr (.inr 0))) st h) : ev_K p l e R s m args below meth c Q b hz D cl A L0 nL cells slots pc ls (.inr (.inr 0) :: st) h := by
  intro H locs lsC stC hSt
  obtain ⟨tys, ws, lv, t, hK, hP, hD, hS, hL0, hw, hst, hl, hlr⟩ := hSt
  obtain ⟨v, stCi, e1, ⟨i, e2⟩, hi1⟩ := ev_all_cons hst
  subst e1 e2
  clear hst
  have hst := hi1
  exact lv_lstore hx hb hdg hl hn rfl (fun ls' hl' => kk H locs ls' _ ⟨tys, ws, _, t, hK, hP, hD, hS, hL0, hw, hst, hl', ev_stoL_ok hlr _ ⟨i, rfl⟩⟩)
theorem ev_iinc_ok (hx : p.tables.exec = Jvm.exec) (hb : c.code = cc) {k : Nat} {n : Int} {x : Int × Int} (hld : ev_loc ls k = some (.inl x)) (hn : k < nL) (hnn : (Int32.ofInt n).toInt = n) (hdg : decode cc pc = .ok (.iinc k n, 3)) (kk : ev_K p l e R s m args below meth c Q b hz D cl A L0 nL cells slots (pc + 3) (ev_sto ls k (ev_bin (fun a b => a + b) x (n, n))) st h) : ev_K p l e R s m args below meth c Q b hz D cl A L0 nL cells slots pc ls st h := by
  intro H locs lsC stC hSt
  obtain ⟨tys, ws, lv, t, hK, hP, hD, hS, hL0, hw, hst, hl, hlr⟩ := hSt
  obtain ⟨j, v, h1, h2⟩ := ev_loc_ok hlr hld
  obtain ⟨i, rfl, h3⟩ := h2
  exact lv_iinc hx hb hdg hl h1 rfl hn rfl (fun ls' hl' => kk H locs ls' _ ⟨tys, ws, _, t, hK, hP, hD, hS, hL0, hw, hst, hl', ev_sto_ok hlr _ (ev_bin_ok (f := fun a b => a + b) h3 ⟨by rw [hnn]; exact Int.le_refl _, by rw [hnn]; exact Int.le_refl _⟩)⟩)
theorem ev_iconst_ok (hx : p.tables.exec = Jvm.exec) (hb : c.code = cc) {n z : Int} (hv : (Int32.ofInt n).toInt = z) (hdg : decode cc pc = .ok (.iconst n, 1)) (kk : ev_K p l e R s m args below meth c Q b hz D cl A L0 nL cells slots (pc + 1) ls (.inl (z, z) :: st) h) : ev_K p l e R s m args below meth c Q b hz D cl A L0 nL cells slots pc ls st h := by
  intro H locs lsC stC hSt
  obtain ⟨tys, ws, lv, t, hK, hP, hD, hS, hL0, hw, hst, hl, hlr⟩ := hSt
  exact lv_iconst hx hb hdg rfl (kk H locs lsC _ ⟨tys, ws, lv, t, hK, hP, hD, hS, hL0, hw, ⟨ev_pc_ok hv, hst⟩, hl, hlr⟩)
theorem ev_bipush_ok (hx : p.tables.exec = Jvm.exec) (hb : c.code = cc) {n z : Int} (hv : ((Int8.ofInt n).toInt32).toInt = z) (hdg : decode cc pc = .ok (.bipush n, 2)) (kk : ev_K p l e R s m args below meth c Q b hz D cl A L0 nL cells slots (pc + 2) ls (.inl (z, z) :: st) h) : ev_K p l e R s m args below meth c Q b hz D cl A L0 nL cells slots pc ls st h := by
  intro H locs lsC stC hSt
  obtain ⟨tys, ws, lv, t, hK, hP, hD, hS, hL0, hw, hst, hl, hlr⟩ := hSt
  exact lv_bipush hx hb hdg rfl (kk H locs lsC _ ⟨tys, ws, lv, t, hK, hP, hD, hS, hL0, hw, ⟨ev_pc_ok hv, hst⟩, hl, hlr⟩)
theorem ev_sipush_ok (hx : p.tables.exec = Jvm.exec) (hb : c.code = cc) {n z : Int} (hv : ((Int16.ofInt n).toInt32).toInt = z) (hdg : decode cc pc = .ok (.sipush n, 3)) (kk : ev_K p l e R s m args below meth c Q b hz D cl A L0 nL cells slots (pc + 3) ls (.inl (z, z) :: st) h) : ev_K p l e R s m args below meth c Q b hz D cl A L0 nL cells slots pc ls st h := by
  intro H locs lsC stC hSt
  obtain ⟨tys, ws, lv, t, hK, hP, hD, hS, hL0, hw, hst, hl, hlr⟩ := hSt
  exact lv_sipush hx hb hdg rfl (kk H locs lsC _ ⟨tys, ws, lv, t, hK, hP, hD, hS, hL0, hw, ⟨ev_pc_ok hv, hst⟩, hl, hlr⟩)
theorem ev_ldc_ok (hx : p.tables.exec = Jvm.exec) (hb : c.code = cc) {own : String} (hown : s.vm.findClass own = some m.cls) {k : Nat} {v : Int32} {z : Int} (hv : v.toInt = z) (hc : (Cond.constant own k v).before args s = true) (hdg : decode cc pc = .ok (.ldc k, 2)) (kk : ev_K p l e R s m args below meth c Q b hz D cl A L0 nL cells slots (pc + 2) ls (.inl (z, z) :: st) h) : ev_K p l e R s m args below meth c Q b hz D cl A L0 nL cells slots pc ls st h := by
  intro H locs lsC stC hSt
  obtain ⟨tys, ws, lv, t, hK, hP, hD, hS, hL0, hw, hst, hl, hlr⟩ := hSt
  exact lv_ldc hx hb hown hc hdg (kk H locs lsC _ ⟨tys, ws, lv, t, hK, hP, hD, hS, hL0, hw, ⟨ev_pc_ok hv, hst⟩, hl, hlr⟩)
theorem ev_ldc_w_ok (hx : p.tables.exec = Jvm.exec) (hb : c.code = cc) {own : String} (hown : s.vm.findClass own = some m.cls) {k : Nat} {v : Int32} {z : Int} (hv : v.toInt = z) (hc : (Cond.constant own k v).before args s = true) (hdg : decode cc pc = .ok (.ldc_w k, 3)) (kk : ev_K p l e R s m args below meth c Q b hz D cl A L0 nL cells slots (pc + 3) ls (.inl (z, z) :: st) h) : ev_K p l e R s m args below meth c Q b hz D cl A L0 nL cells slots pc ls st h := by
  intro H locs lsC stC hSt
  obtain ⟨tys, ws, lv, t, hK, hP, hD, hS, hL0, hw, hst, hl, hlr⟩ := hSt
  exact lv_ldcw hx hb hown hc hdg (kk H locs lsC _ ⟨tys, ws, lv, t, hK, hP, hD, hS, hL0, hw, ⟨ev_pc_ok hv, hst⟩, hl, hlr⟩)
theorem ev_iadd_ok (hx : p.tables.exec = Jvm.exec) (hb : c.code = cc) {x y : Int × Int} (hdg : decode cc pc = .ok (.iadd, 1)) (kk : ev_K p l e R s m args below meth c Q b hz D cl A L0 nL cells slots (pc + 1) ls (ev_bin (fun a b => a + b) x y :: st) h) : ev_K p l e R s m args below meth c Q b hz D cl A L0 nL cells slots pc ls (.inl y :: .inl x :: st) h := by
  intro H locs lsC stC hSt
  obtain ⟨tys, ws, lv, t, hK, hP, hD, hS, hL0, hw, hst, hl, hlr⟩ := hSt
  obtain ⟨v, stCj, e1, ⟨j, e2, hj⟩, hj1⟩ := ev_all_cons hst
  subst e1 e2
  clear hst
  have hst := hj1
  obtain ⟨v, stCi, e1, ⟨i, e2, hi⟩, hi1⟩ := ev_all_cons hst
  subst e1 e2
  clear hst
  have hst := hi1
  exact lv_iadd hx hb hdg (kk H locs lsC _ ⟨tys, ws, lv, t, hK, hP, hD, hS, hL0, hw, ⟨ev_bin_ok (f := fun a b => a + b) hi hj, hst⟩, hl, hlr⟩)
theorem ev_isub_ok (hx : p.tables.exec = Jvm.exec) (hb : c.code = cc) {x y : Int × Int} (hdg : decode cc pc = .ok (.isub, 1)) (kk : ev_K p l e R s m args below meth c Q b hz D cl A L0 nL cells slots (pc + 1) ls (ev_bin (fun a b => a - b) x y :: st) h) : ev_K p l e R s m args below meth c Q b hz D cl A L0 nL cells slots pc ls (.inl y :: .inl x :: st) h := by
  intro H locs lsC stC hSt
  obtain ⟨tys, ws, lv, t, hK, hP, hD, hS, hL0, hw, hst, hl, hlr⟩ := hSt
  obtain ⟨v, stCj, e1, ⟨j, e2, hj⟩, hj1⟩ := ev_all_cons hst
  subst e1 e2
  clear hst
  have hst := hj1
  obtain ⟨v, stCi, e1, ⟨i, e2, hi⟩, hi1⟩ := ev_all_cons hst
  subst e1 e2
  clear hst
  have hst := hi1
  exact lv_isub hx hb hdg (kk H locs lsC _ ⟨tys, ws, lv, t, hK, hP, hD, hS, hL0, hw, ⟨ev_bin_ok (f := fun a b => a - b) hi hj, hst⟩, hl, hlr⟩)
theorem ev_imul_ok (hx : p.tables.exec = Jvm.exec) (hb : c.code = cc) {x y : Int × Int} (hdg : decode cc pc = .ok (.imul, 1)) (kk : ev_K p l e R s m args below meth c Q b hz D cl A L0 nL cells slots (pc + 1) ls (ev_bin (fun a b => a * b) x y :: st) h) : ev_K p l e R s m args below meth c Q b hz D cl A L0 nL cells slots pc ls (.inl y :: .inl x :: st) h := by
  intro H locs lsC stC hSt
  obtain ⟨tys, ws, lv, t, hK, hP, hD, hS, hL0, hw, hst, hl, hlr⟩ := hSt
  obtain ⟨v, stCj, e1, ⟨j, e2, hj⟩, hj1⟩ := ev_all_cons hst
  subst e1 e2
  clear hst
  have hst := hj1
  obtain ⟨v, stCi, e1, ⟨i, e2, hi⟩, hi1⟩ := ev_all_cons hst
  subst e1 e2
  clear hst
  have hst := hi1
  exact lv_imul hx hb hdg (kk H locs lsC _ ⟨tys, ws, lv, t, hK, hP, hD, hS, hL0, hw, ⟨ev_bin_ok (f := fun a b => a * b) hi hj, hst⟩, hl, hlr⟩)
theorem ev_ishr_ok (hx : p.tables.exec = Jvm.exec) (hb : c.code = cc) {x y : Int × Int} (hdg : decode cc pc = .ok (.ishr, 1)) (kk : ev_K p l e R s m args below meth c Q b hz D cl A L0 nL cells slots (pc + 1) ls (ev_bin (fun a b => a >>> (b &&& 31)) x y :: st) h) : ev_K p l e R s m args below meth c Q b hz D cl A L0 nL cells slots pc ls (.inl y :: .inl x :: st) h := by
  intro H locs lsC stC hSt
  obtain ⟨tys, ws, lv, t, hK, hP, hD, hS, hL0, hw, hst, hl, hlr⟩ := hSt
  obtain ⟨v, stCj, e1, ⟨j, e2, hj⟩, hj1⟩ := ev_all_cons hst
  subst e1 e2
  clear hst
  have hst := hj1
  obtain ⟨v, stCi, e1, ⟨i, e2, hi⟩, hi1⟩ := ev_all_cons hst
  subst e1 e2
  clear hst
  have hst := hi1
  exact lv_ishr hx hb hdg (kk H locs lsC _ ⟨tys, ws, lv, t, hK, hP, hD, hS, hL0, hw, ⟨ev_bin_ok (f := fun a b => a >>> (b &&& 31)) hi hj, hst⟩, hl, hlr⟩)
theorem ev_iand_ok (hx : p.tables.exec = Jvm.exec) (hb : c.code = cc) {x y : Int × Int} (hdg : decode cc pc = .ok (.iand, 1)) (kk : ev_K p l e R s m args below meth c Q b hz D cl A L0 nL cells slots (pc + 1) ls (ev_bin (fun a b => a &&& b) x y :: st) h) : ev_K p l e R s m args below meth c Q b hz D cl A L0 nL cells slots pc ls (.inl y :: .inl x :: st) h := by
  intro H locs lsC stC hSt
  obtain ⟨tys, ws, lv, t, hK, hP, hD, hS, hL0, hw, hst, hl, hlr⟩ := hSt
  obtain ⟨v, stCj, e1, ⟨j, e2, hj⟩, hj1⟩ := ev_all_cons hst
  subst e1 e2
  clear hst
  have hst := hj1
  obtain ⟨v, stCi, e1, ⟨i, e2, hi⟩, hi1⟩ := ev_all_cons hst
  subst e1 e2
  clear hst
  have hst := hi1
  exact lv_iand hx hb hdg (kk H locs lsC _ ⟨tys, ws, lv, t, hK, hP, hD, hS, hL0, hw, ⟨ev_bin_ok (f := fun a b => a &&& b) hi hj, hst⟩, hl, hlr⟩)
theorem ev_iushr_ok (hx : p.tables.exec = Jvm.exec) (hb : c.code = cc) {x y : Int × Int} (hdg : decode cc pc = .ok (.iushr, 1)) (kk : ev_K p l e R s m args below meth c Q b hz D cl A L0 nL cells slots (pc + 1) ls (ev_bin (fun a b => (a.toUInt32 >>> (b.toUInt32 &&& Int32.toUInt32 31)).toInt32) x y :: st) h) : ev_K p l e R s m args below meth c Q b hz D cl A L0 nL cells slots pc ls (.inl y :: .inl x :: st) h := by
  intro H locs lsC stC hSt
  obtain ⟨tys, ws, lv, t, hK, hP, hD, hS, hL0, hw, hst, hl, hlr⟩ := hSt
  obtain ⟨v, stCj, e1, ⟨j, e2, hj⟩, hj1⟩ := ev_all_cons hst
  subst e1 e2
  clear hst
  have hst := hj1
  obtain ⟨v, stCi, e1, ⟨i, e2, hi⟩, hi1⟩ := ev_all_cons hst
  subst e1 e2
  clear hst
  have hst := hi1
  exact lv_iushr hx hb hdg rfl (kk H locs lsC _ ⟨tys, ws, lv, t, hK, hP, hD, hS, hL0, hw, ⟨ev_bin_ok (f := fun a b => (a.toUInt32 >>> (b.toUInt32 &&& Int32.toUInt32 31)).toInt32) hi hj, hst⟩, hl, hlr⟩)
theorem ev_iandm_ok (hx : p.tables.exec = Jvm.exec) (hb : c.code = cc) {k : Nat} {y : Int × Int} (h1 : y.1 = 31) (h2 : y.2 = 31) (hk : k ≤ 31) (hdg : decode cc pc = .ok (.iand, 1)) (kk : ev_K p l e R s m args below meth c Q b hz D cl A L0 nL cells slots (pc + 1) ls (.inl (k, k) :: st) h) : ev_K p l e R s m args below meth c Q b hz D cl A L0 nL cells slots pc ls (.inl y :: .inr (.inl k) :: st) h := by
  intro H locs lsC stC hSt
  obtain ⟨tys, ws, lv, t, hK, hP, hD, hS, hL0, hw, hst, hl, hlr⟩ := hSt
  obtain ⟨v, stCj, e1, ⟨j, e2, hj⟩, hj1⟩ := ev_all_cons hst
  subst e1 e2
  clear hst
  have hst := hj1
  obtain ⟨v, stCi, e1, ⟨i, e2, hi⟩, hi1⟩ := ev_all_cons hst
  subst e1 e2
  clear hst
  have hst := hi1
  have ej : j = 31 := by
    apply Int32.toInt_inj.mp
    have q1 := hj.1
    have q2 := hj.2
    rw [h1] at q1
    rw [h2] at q2
    have : (31 : Int32).toInt = 31 := by decide
    omega
  subst ej
  refine lv_iand hx hb hdg (kk H locs lsC _ ⟨tys, ws, lv, t, hK, hP, hD, hS, hL0, hw, ⟨?_, hst⟩, hl, hlr⟩)
  rw [hi]
  exact ev_pc_ok (nI_toInt (n := k) (by omega))
theorem ev_i2b_ok (hx : p.tables.exec = Jvm.exec) (hb : c.code = cc) {x : Int × Int} (hdg : decode cc pc = .ok (.i2b, 1)) (kk : ev_K p l e R s m args below meth c Q b hz D cl A L0 nL cells slots (pc + 1) ls (ev_top :: st) h) : ev_K p l e R s m args below meth c Q b hz D cl A L0 nL cells slots pc ls (.inl x :: st) h := by
  intro H locs lsC stC hSt
  obtain ⟨tys, ws, lv, t, hK, hP, hD, hS, hL0, hw, hst, hl, hlr⟩ := hSt
  obtain ⟨v, stCj, e1, ⟨j, e2, hj⟩, hj1⟩ := ev_all_cons hst
  subst e1 e2
  clear hst
  have hst := hj1
  exact lv_i2b hx hb hdg rfl (kk H locs lsC _ ⟨tys, ws, lv, t, hK, hP, hD, hS, hL0, hw, ⟨ev_top_ok, hst⟩, hl, hlr⟩)
theorem ev_i2l_ok (hx : p.tables.exec = Jvm.exec) (hb : c.code = cc) {x : Int × Int} (hdg : decode cc pc = .ok (.i2l, 1)) (kk : ev_K p l e R s m args below meth c Q b hz D cl A L0 nL cells slots (pc + 1) ls (.inr (.inr 0) :: st) h) : ev_K p l e R s m args below meth c Q b hz D cl A L0 nL cells slots pc ls (.inl x :: st) h := by
  intro H locs lsC stC hSt
  obtain ⟨tys, ws, lv, t, hK, hP, hD, hS, hL0, hw, hst, hl, hlr⟩ := hSt
  obtain ⟨v, stCj, e1, ⟨j, e2, hj⟩, hj1⟩ := ev_all_cons hst
  subst e1 e2
  clear hst
  have hst := hj1
  exact lv_i2l hx hb hdg rfl (kk H locs lsC _ ⟨tys, ws, lv, t, hK, hP, hD, hS, hL0, hw, ⟨⟨_, rfl⟩, hst⟩, hl, hlr⟩)
theorem ev_dup_ok (hx : p.tables.exec = Jvm.exec) (hb : c.code = cc) {x : ev_V} (h1 : ev_ok1 x = true) (hdg : decode cc pc = .ok (.dup, 1)) (kk : ev_K p l e R s m args below meth c Q b hz D cl A L0 nL cells slots (pc + 1) ls (x :: x :: st) h) : ev_K p l e R s m args below meth c Q b hz D cl A L0 nL cells slots pc ls (x :: st) h := by
  intro H locs lsC stC hSt
  obtain ⟨tys, ws, lv, t, hK, hP, hD, hS, hL0, hw, hst, hl, hlr⟩ := hSt
  obtain ⟨v, stCv, ev, hv, hv1⟩ := ev_all_cons hst
  subst ev
  clear hst
  have hst := hv1
  exact lv_dup hx hb hdg (ev_rel_c1 hv h1) (kk H locs lsC _ ⟨tys, ws, lv, t, hK, hP, hD, hS, hL0, hw, ⟨hv, hv, hst⟩, hl, hlr⟩)
theorem ev_dup_x1_ok (hx : p.tables.exec = Jvm.exec) (hb : c.code = cc) {x y : ev_V} (h1 : ev_ok1 x = true) (h2 : ev_ok1 y = true) (hdg : decode cc pc = .ok (.dup_x1, 1)) (kk : ev_K p l e R s m args below meth c Q b hz D cl A L0 nL cells slots (pc + 1) ls (x :: y :: x :: st) h) : ev_K p l e R s m args below meth c Q b hz D cl A L0 nL cells slots pc ls (x :: y :: st) h := by
  intro H locs lsC stC hSt
  obtain ⟨tys, ws, lv, t, hK, hP, hD, hS, hL0, hw, hst, hl, hlr⟩ := hSt
  obtain ⟨v, stCv, ev, hv, hv1⟩ := ev_all_cons hst
  subst ev
  clear hst
  have hst := hv1
  obtain ⟨u, stCu, eu, hu, hu1⟩ := ev_all_cons hst
  subst eu
  clear hst
  have hst := hu1
  exact lv_dup_x1 hx hb hdg (ev_rel_c1 hv h1) (ev_rel_c1 hu h2) (kk H locs lsC _ ⟨tys, ws, lv, t, hK, hP, hD, hS, hL0, hw, ⟨hv, hu, hv, hst⟩, hl, hlr⟩)
theorem ev_pop_ok (hx : p.tables.exec = Jvm.exec) (hb : c.code = cc) {x : ev_V} (h1 : ev_ok1 x = true) (hdg : decode cc pc = .ok (.pop, 1)) (kk : ev_K p l e R s m args below meth c Q b hz D cl A L0 nL cells slots (pc + 1) ls st h) : ev_K p l e R s m args below meth c Q b hz D cl A L0 nL cells slots pc ls (x :: st) h := by
  intro H locs lsC stC hSt
  obtain ⟨tys, ws, lv, t, hK, hP, hD, hS, hL0, hw, hst, hl, hlr⟩ := hSt
  obtain ⟨v, stCv, ev, hv, hv1⟩ := ev_all_cons hst
  subst ev
  clear hst
  have hst := hv1
  exact lv_pop hx hb hdg (ev_rel_c1 hv h1) (kk H locs lsC _ ⟨tys, ws, lv, t, hK, hP, hD, hS, hL0, hw, hst, hl, hlr⟩)
theorem ev_goto_ok (hx : p.tables.exec = Jvm.exec) (hb : c.code = cc) {off : Int} {tgt : Nat} (ht : (pc : Int) + off = (tgt : Int)) (hdg : decode cc pc = .ok (.goto off, 3)) (kk : ev_K p l e R s m args below meth c Q b hz D cl A L0 nL cells slots tgt ls st h) : ev_K p l e R s m args below meth c Q b hz D cl A L0 nL cells slots pc ls st h := by
  intro H locs lsC stC hSt
  obtain ⟨tys, ws, lv, t, hK, hP, hD, hS, hL0, hw, hst, hl, hlr⟩ := hSt
  exact lv_goto hx hb hdg ht (kk H locs lsC _ ⟨tys, ws, lv, t, hK, hP, hD, hS, hL0, hw, hst, hl, hlr⟩)
theorem ev_icmp_lt_t (hx : p.tables.exec = Jvm.exec) (hb : c.code = cc) {off : Int} {tgt : Nat} {x y : Int × Int} (hc : ev_lt x y = some true) (ht : (pc : Int) + off = (tgt : Int)) (hdg : decode cc pc = .ok (.if_icmp .lt off, 3)) (kk : ev_K p l e R s m args below meth c Q b hz D cl A L0 nL cells slots tgt ls st h) : ev_K p l e R s m args below meth c Q b hz D cl A L0 nL cells slots pc ls (.inl y :: .inl x :: st) h := by
  intro H locs lsC stC hSt
  obtain ⟨tys, ws, lv, t, hK, hP, hD, hS, hL0, hw, hst, hl, hlr⟩ := hSt
  obtain ⟨v, stC1, e1, ⟨j, e2, hj⟩, hj1⟩ := ev_all_cons hst
  subst e1 e2
  clear hst
  have hst := hj1
  obtain ⟨v, stC2, e1, ⟨i, e2, hi⟩, hi1⟩ := ev_all_cons hst
  subst e1 e2
  clear hst
  have hst := hi1
  exact lv_icmp_lt hx hb hdg ht (fun _ => kk H locs lsC _ ⟨tys, ws, lv, t, hK, hP, hD, hS, hL0, hw, hst, hl, hlr⟩) (fun q => absurd (ev_lt_t hi hj hc) q)
theorem ev_icmp_lt_f (hx : p.tables.exec = Jvm.exec) (hb : c.code = cc) {off : Int} {tgt : Nat} {x y : Int × Int} (hc : ev_lt x y = some false) (ht : (pc : Int) + off = (tgt : Int)) (hdg : decode cc pc = .ok (.if_icmp .lt off, 3)) (kk : ev_K p l e R s m args below meth c Q b hz D cl A L0 nL cells slots (pc + 3) ls st h) : ev_K p l e R s m args below meth c Q b hz D cl A L0 nL cells slots pc ls (.inl y :: .inl x :: st) h := by
  intro H locs lsC stC hSt
  obtain ⟨tys, ws, lv, t, hK, hP, hD, hS, hL0, hw, hst, hl, hlr⟩ := hSt
  obtain ⟨v, stC1, e1, ⟨j, e2, hj⟩, hj1⟩ := ev_all_cons hst
  subst e1 e2
  clear hst
  have hst := hj1
  obtain ⟨v, stC2, e1, ⟨i, e2, hi⟩, hi1⟩ := ev_all_cons hst
  subst e1 e2
  clear hst
  have hst := hi1
  exact lv_icmp_lt hx hb hdg ht (fun q => absurd q (ev_lt_f hi hj hc)) (fun _ => kk H locs lsC _ ⟨tys, ws, lv, t, hK, hP, hD, hS, hL0, hw, hst, hl, hlr⟩)
theorem ev_if_lt_t (hx : p.tables.exec = Jvm.exec) (hb : c.code = cc) {off : Int} {tgt : Nat} {x : Int × Int} (hc : ev_lt x (0, 0) = some true) (ht : (pc : Int) + off = (tgt : Int)) (hdg : decode cc pc = .ok (.ifCond .lt off, 3)) (kk : ev_K p l e R s m args below meth c Q b hz D cl A L0 nL cells slots tgt ls st h) : ev_K p l e R s m args below meth c Q b hz D cl A L0 nL cells slots pc ls (.inl x :: st) h := by
  intro H locs lsC stC hSt
  obtain ⟨tys, ws, lv, t, hK, hP, hD, hS, hL0, hw, hst, hl, hlr⟩ := hSt
  have hj : ev_in (0, 0) (0 : Int32) := ⟨Int.le_refl 0, Int.le_refl 0⟩
  obtain ⟨v, stC2, e1, ⟨i, e2, hi⟩, hi1⟩ := ev_all_cons hst
  subst e1 e2
  clear hst
  have hst := hi1
  exact lv_if_lt hx hb hdg ht (fun _ => kk H locs lsC _ ⟨tys, ws, lv, t, hK, hP, hD, hS, hL0, hw, hst, hl, hlr⟩) (fun q => absurd (ev_lt_t hi hj hc) q)
theorem ev_if_lt_f (hx : p.tables.exec = Jvm.exec) (hb : c.code = cc) {off : Int} {tgt : Nat} {x : Int × Int} (hc : ev_lt x (0, 0) = some false) (ht : (pc : Int) + off = (tgt : Int)) (hdg : decode cc pc = .ok (.ifCond .lt off, 3)) (kk : ev_K p l e R s m args below meth c Q b hz D cl A L0 nL cells slots (pc + 3) ls st h) : ev_K p l e R s m args below meth c Q b hz D cl A L0 nL cells slots pc ls (.inl x :: st) h := by
  intro H locs lsC stC hSt
  obtain ⟨tys, ws, lv, t, hK, hP, hD, hS, hL0, hw, hst, hl, hlr⟩ := hSt
  have hj : ev_in (0, 0) (0 : Int32) := ⟨Int.le_refl 0, Int.le_refl 0⟩
  obtain ⟨v, stC2, e1, ⟨i, e2, hi⟩, hi1⟩ := ev_all_cons hst
  subst e1 e2
  clear hst
  have hst := hi1
  exact lv_if_lt hx hb hdg ht (fun q => absurd q (ev_lt_f hi hj hc)) (fun _ => kk H locs lsC _ ⟨tys, ws, lv, t, hK, hP, hD, hS, hL0, hw, hst, hl, hlr⟩)
theorem ev_icmp_ge_t (hx : p.tables.exec = Jvm.exec) (hb : c.code = cc) {off : Int} {tgt : Nat} {x y : Int × Int} (hc : ev_lt x y = some true) (ht : (pc : Int) + off = (tgt : Int)) (hdg : decode cc pc = .ok (.if_icmp .ge off, 3)) (kk : ev_K p l e R s m args below meth c Q b hz D cl A L0 nL cells slots (pc + 3) ls st h) : ev_K p l e R s m args below meth c Q b hz D cl A L0 nL cells slots pc ls (.inl y :: .inl x :: st) h := by
  intro H locs lsC stC hSt
  obtain ⟨tys, ws, lv, t, hK, hP, hD, hS, hL0, hw, hst, hl, hlr⟩ := hSt
  obtain ⟨v, stC1, e1, ⟨j, e2, hj⟩, hj1⟩ := ev_all_cons hst
  subst e1 e2
  clear hst
  have hst := hj1
  obtain ⟨v, stC2, e1, ⟨i, e2, hi⟩, hi1⟩ := ev_all_cons hst
  subst e1 e2
  clear hst
  have hst := hi1
  exact lv_icmp_ge hx hb hdg ht (fun q => absurd q (Int32.not_le.mpr (ev_lt_t hi hj hc))) (fun _ => kk H locs lsC _ ⟨tys, ws, lv, t, hK, hP, hD, hS, hL0, hw, hst, hl, hlr⟩)
theorem ev_icmp_ge_f (hx : p.tables.exec = Jvm.exec) (hb : c.code = cc) {off : Int} {tgt : Nat} {x y : Int × Int} (hc : ev_lt x y = some false) (ht : (pc : Int) + off = (tgt : Int)) (hdg : decode cc pc = .ok (.if_icmp .ge off, 3)) (kk : ev_K p l e R s m args below meth c Q b hz D cl A L0 nL cells slots tgt ls st h) : ev_K p l e R s m args below meth c Q b hz D cl A L0 nL cells slots pc ls (.inl y :: .inl x :: st) h := by
  intro H locs lsC stC hSt
  obtain ⟨tys, ws, lv, t, hK, hP, hD, hS, hL0, hw, hst, hl, hlr⟩ := hSt
  obtain ⟨v, stC1, e1, ⟨j, e2, hj⟩, hj1⟩ := ev_all_cons hst
  subst e1 e2
  clear hst
  have hst := hj1
  obtain ⟨v, stC2, e1, ⟨i, e2, hi⟩, hi1⟩ := ev_all_cons hst
  subst e1 e2
  clear hst
  have hst := hi1
  exact lv_icmp_ge hx hb hdg ht (fun _ => kk H locs lsC _ ⟨tys, ws, lv, t, hK, hP, hD, hS, hL0, hw, hst, hl, hlr⟩) (fun q => absurd (Int32.not_lt.mp (ev_lt_f hi hj hc)) q)
theorem ev_if_ge_t (hx : p.tables.exec = Jvm.exec) (hb : c.code = cc) {off : Int} {tgt : Nat} {x : Int × Int} (hc : ev_lt x (0, 0) = some true) (ht : (pc : Int) + off = (tgt : Int)) (hdg : decode cc pc = .ok (.ifCond .ge off, 3)) (kk : ev_K p l e R s m args below meth c Q b hz D cl A L0 nL cells slots (pc + 3) ls st h) : ev_K p l e R s m args below meth c Q b hz D cl A L0 nL cells slots pc ls (.inl x :: st) h := by
  intro H locs lsC stC hSt
  obtain ⟨tys, ws, lv, t, hK, hP, hD, hS, hL0, hw, hst, hl, hlr⟩ := hSt
  have hj : ev_in (0, 0) (0 : Int32) := ⟨Int.le_refl 0, Int.le_refl 0⟩
  obtain ⟨v, stC2, e1, ⟨i, e2, hi⟩, hi1⟩ := ev_all_cons hst
  subst e1 e2
  clear hst
  have hst := hi1
  exact lv_if_ge hx hb hdg ht (fun q => absurd q (Int32.not_le.mpr (ev_lt_t hi hj hc))) (fun _ => kk H locs lsC _ ⟨tys, ws, lv, t, hK, hP, hD, hS, hL0, hw, hst, hl, hlr⟩)
theorem ev_if_ge_f (hx : p.tables.exec = Jvm.exec) (hb : c.code = cc) {off : Int} {tgt : Nat} {x : Int × Int} (hc : ev_lt x (0, 0) = some false) (ht : (pc : Int) + off = (tgt : Int)) (hdg : decode cc pc = .ok (.ifCond .ge off, 3)) (kk : ev_K p l e R s m args below meth c Q b hz D cl A L0 nL cells slots tgt ls st h) : ev_K p l e R s m args below meth c Q b hz D cl A L0 nL cells slots pc ls (.inl x :: st) h := by
  intro H locs lsC stC hSt
  obtain ⟨tys, ws, lv, t, hK, hP, hD, hS, hL0, hw, hst, hl, hlr⟩ := hSt
  have hj : ev_in (0, 0) (0 : Int32) := ⟨Int.le_refl 0, Int.le_refl 0⟩
  obtain ⟨v, stC2, e1, ⟨i, e2, hi⟩, hi1⟩ := ev_all_cons hst
  subst e1 e2
  clear hst
  have hst := hi1
  exact lv_if_ge hx hb hdg ht (fun _ => kk H locs lsC _ ⟨tys, ws, lv, t, hK, hP, hD, hS, hL0, hw, hst, hl, hlr⟩) (fun q => absurd (Int32.not_lt.mp (ev_lt_f hi hj hc)) q)
theorem ev_icmp_gt_t (hx : p.tables.exec = Jvm.exec) (hb : c.code = cc) {off : Int} {tgt : Nat} {x y : Int × Int} (hc : ev_lt y x = some true) (ht : (pc : Int) + off = (tgt : Int)) (hdg : decode cc pc = .ok (.if_icmp .gt off, 3)) (kk : ev_K p l e R s m args below meth c Q b hz D cl A L0 nL cells slots tgt ls st h) : ev_K p l e R s m args below meth c Q b hz D cl A L0 nL cells slots pc ls (.inl y :: .inl x :: st) h := by
  intro H locs lsC stC hSt
  obtain ⟨tys, ws, lv, t, hK, hP, hD, hS, hL0, hw, hst, hl, hlr⟩ := hSt
  obtain ⟨v, stC1, e1, ⟨j, e2, hj⟩, hj1⟩ := ev_all_cons hst
  subst e1 e2
  clear hst
  have hst := hj1
  obtain ⟨v, stC2, e1, ⟨i, e2, hi⟩, hi1⟩ := ev_all_cons hst
  subst e1 e2
  clear hst
  have hst := hi1
  exact lv_icmp_gt hx hb hdg ht (fun _ => kk H locs lsC _ ⟨tys, ws, lv, t, hK, hP, hD, hS, hL0, hw, hst, hl, hlr⟩) (fun q => absurd (ev_lt_t hj hi hc) q)
theorem ev_icmp_gt_f (hx : p.tables.exec = Jvm.exec) (hb : c.code = cc) {off : Int} {tgt : Nat} {x y : Int × Int} (hc : ev_lt y x = some false) (ht : (pc : Int) + off = (tgt : Int)) (hdg : decode cc pc = .ok (.if_icmp .gt off, 3)) (kk : ev_K p l e R s m args below meth c Q b hz D cl A L0 nL cells slots (pc + 3) ls st h) : ev_K p l e R s m args below meth c Q b hz D cl A L0 nL cells slots pc ls (.inl y :: .inl x :: st) h := by
  intro H locs lsC stC hSt
  obtain ⟨tys, ws, lv, t, hK, hP, hD, hS, hL0, hw, hst, hl, hlr⟩ := hSt
  obtain ⟨v, stC1, e1, ⟨j, e2, hj⟩, hj1⟩ := ev_all_cons hst
  subst e1 e2
  clear hst
  have hst := hj1
  obtain ⟨v, stC2, e1, ⟨i, e2, hi⟩, hi1⟩ := ev_all_cons hst
  subst e1 e2
  clear hst
  have hst := hi1
  exact lv_icmp_gt hx hb hdg ht (fun q => absurd q (ev_lt_f hj hi hc)) (fun _ => kk H locs lsC _ ⟨tys, ws, lv, t, hK, hP, hD, hS, hL0, hw, hst, hl, hlr⟩)
theorem ev_if_gt_t (hx : p.tables.exec = Jvm.exec) (hb : c.code = cc) {off : Int} {tgt : Nat} {x : Int × Int} (hc : ev_lt (0, 0) x = some true) (ht : (pc : Int) + off = (tgt : Int)) (hdg : decode cc pc = .ok (.ifCond .gt off, 3)) (kk : ev_K p l e R s m args below meth c Q b hz D cl A L0 nL cells slots tgt ls st h) : ev_K p l e R s m args below meth c Q b hz D cl A L0 nL cells slots pc ls (.inl x :: st) h := by
  intro H locs lsC stC hSt
  obtain ⟨tys, ws, lv, t, hK, hP, hD, hS, hL0, hw, hst, hl, hlr⟩ := hSt
  have hj : ev_in (0, 0) (0 : Int32) := ⟨Int.le_refl 0, Int.le_refl 0⟩
  obtain ⟨v, stC2, e1, ⟨i, e2, hi⟩, hi1⟩ := ev_all_cons hst
  subst e1 e2
  clear hst
  have hst := hi1
  exact lv_if_gt hx hb hdg ht (fun _ => kk H locs lsC _ ⟨tys, ws, lv, t, hK, hP, hD, hS, hL0, hw, hst, hl, hlr⟩) (fun q => absurd (ev_lt_t hj hi hc) q)
theorem ev_if_gt_f (hx : p.tables.exec = Jvm.exec) (hb : c.code = cc) {off : Int} {tgt : Nat} {x : Int × Int} (hc : ev_lt (0, 0) x = some false) (ht : (pc : Int) + off = (tgt : Int)) (hdg : decode cc pc = .ok (.ifCond .gt off, 3)) (kk : ev_K p l e R s m args below meth c Q b hz D cl A L0 nL cells slots (pc + 3) ls st h) : ev_K p l e R s m args below meth c Q b hz D cl A L0 nL cells slots pc ls (.inl x :: st) h := by
  intro H locs lsC stC hSt
  obtain ⟨tys, ws, lv, t, hK, hP, hD, hS, hL0, hw, hst, hl, hlr⟩ := hSt
  have hj : ev_in (0, 0) (0 : Int32) := ⟨Int.le_refl 0, Int.le_refl 0⟩
  obtain ⟨v, stC2, e1, ⟨i, e2, hi⟩, hi1⟩ := ev_all_cons hst
  subst e1 e2
  clear hst
  have hst := hi1
  exact lv_if_gt hx hb hdg ht (fun q => absurd q (ev_lt_f hj hi hc)) (fun _ => kk H locs lsC _ ⟨tys, ws, lv, t, hK, hP, hD, hS, hL0, hw, hst, hl, hlr⟩)
theorem ev_icmp_le_t (hx : p.tables.exec = Jvm.exec) (hb : c.code = cc) {off : Int} {tgt : Nat} {x y : Int × Int} (hc : ev_lt y x = some true) (ht : (pc : Int) + off = (tgt : Int)) (hdg : decode cc pc = .ok (.if_icmp .le off, 3)) (kk : ev_K p l e R s m args below meth c Q b hz D cl A L0 nL cells slots (pc + 3) ls st h) : ev_K p l e R s m args below meth c Q b hz D cl A L0 nL cells slots pc ls (.inl y :: .inl x :: st) h := by
  intro H locs lsC stC hSt
  obtain ⟨tys, ws, lv, t, hK, hP, hD, hS, hL0, hw, hst, hl, hlr⟩ := hSt
  obtain ⟨v, stC1, e1, ⟨j, e2, hj⟩, hj1⟩ := ev_all_cons hst
  subst e1 e2
  clear hst
  have hst := hj1
  obtain ⟨v, stC2, e1, ⟨i, e2, hi⟩, hi1⟩ := ev_all_cons hst
  subst e1 e2
  clear hst
  have hst := hi1
  exact lv_icmp_le hx hb hdg ht (fun q => absurd q (Int32.not_le.mpr (ev_lt_t hj hi hc))) (fun _ => kk H locs lsC _ ⟨tys, ws, lv, t, hK, hP, hD, hS, hL0, hw, hst, hl, hlr⟩)
theorem ev_icmp_le_f (hx : p.tables.exec = Jvm.exec) (hb : c.code = cc) {off : Int} {tgt : Nat} {x y : Int × Int} (hc : ev_lt y x = some false) (ht : (pc : Int) + off = (tgt : Int)) (hdg : decode cc pc = .ok (.if_icmp .le off, 3)) (kk : ev_K p l e R s m args below meth c Q b hz D cl A L0 nL cells slots tgt ls st h) : ev_K p l e R s m args below meth c Q b hz D cl A L0 nL cells slots pc ls (.inl y :: .inl x :: st) h := by
  intro H locs lsC stC hSt
  obtain ⟨tys, ws, lv, t, hK, hP, hD, hS, hL0, hw, hst, hl, hlr⟩ := hSt
  obtain ⟨v, stC1, e1, ⟨j, e2, hj⟩, hj1⟩ := ev_all_cons hst
  subst e1 e2
  clear hst
  have hst := hj1
  obtain ⟨v, stC2, e1, ⟨i, e2, hi⟩, hi1⟩ := ev_all_cons hst
  subst e1 e2
  clear hst
  have hst := hi1
  exact lv_icmp_le hx hb hdg ht (fun _ => kk H locs lsC _ ⟨tys, ws, lv, t, hK, hP, hD, hS, hL0, hw, hst, hl, hlr⟩) (fun q => absurd (Int32.not_lt.mp (ev_lt_f hj hi hc)) q)
theorem ev_if_le_t (hx : p.tables.exec = Jvm.exec) (hb : c.code = cc) {off : Int} {tgt : Nat} {x : Int × Int} (hc : ev_lt (0, 0) x = some true) (ht : (pc : Int) + off = (tgt : Int)) (hdg : decode cc pc = .ok (.ifCond .le off, 3)) (kk : ev_K p l e R s m args below meth c Q b hz D cl A L0 nL cells slots (pc + 3) ls st h) : ev_K p l e R s m args below meth c Q b hz D cl A L0 nL cells slots pc ls (.inl x :: st) h := by
  intro H locs lsC stC hSt
  obtain ⟨tys, ws, lv, t, hK, hP, hD, hS, hL0, hw, hst, hl, hlr⟩ := hSt
  have hj : ev_in (0, 0) (0 : Int32) := ⟨Int.le_refl 0, Int.le_refl 0⟩
  obtain ⟨v, stC2, e1, ⟨i, e2, hi⟩, hi1⟩ := ev_all_cons hst
  subst e1 e2
  clear hst
  have hst := hi1
  exact lv_if_le hx hb hdg ht (fun q => absurd q (Int32.not_le.mpr (ev_lt_t hj hi hc))) (fun _ => kk H locs lsC _ ⟨tys, ws, lv, t, hK, hP, hD, hS, hL0, hw, hst, hl, hlr⟩)
theorem ev_if_le_f (hx : p.tables.exec = Jvm.exec) (hb : c.code = cc) {off : Int} {tgt : Nat} {x : Int × Int} (hc : ev_lt (0, 0) x = some false) (ht : (pc : Int) + off = (tgt : Int)) (hdg : decode cc pc = .ok (.ifCond .le off, 3)) (kk : ev_K p l e R s m args below meth c Q b hz D cl A L0 nL cells slots tgt ls st h) : ev_K p l e R s m args below meth c Q b hz D cl A L0 nL cells slots pc ls (.inl x :: st) h := by
  intro H locs lsC stC hSt
  obtain ⟨tys, ws, lv, t, hK, hP, hD, hS, hL0, hw, hst, hl, hlr⟩ := hSt
  have hj : ev_in (0, 0) (0 : Int32) := ⟨Int.le_refl 0, Int.le_refl 0⟩
  obtain ⟨v, stC2, e1, ⟨i, e2, hi⟩, hi1⟩ := ev_all_cons hst
  subst e1 e2
  clear hst
  have hst := hi1
  exact lv_if_le hx hb hdg ht (fun _ => kk H locs lsC _ ⟨tys, ws, lv, t, hK, hP, hD, hS, hL0, hw, hst, hl, hlr⟩) (fun q => absurd (Int32.not_lt.mp (ev_lt_f hj hi hc)) q)
theorem ev_icmp_eq_t (hx : p.tables.exec = Jvm.exec) (hb : c.code = cc) {off : Int} {tgt : Nat} {x y : Int × Int} (hc : ev_eq x y = some true) (ht : (pc : Int) + off = (tgt : Int)) (hdg : decode cc pc = .ok (.if_icmp .eq off, 3)) (kk : ev_K p l e R s m args below meth c Q b hz D cl A L0 nL cells slots tgt ls st h) : ev_K p l e R s m args below meth c Q b hz D cl A L0 nL cells slots pc ls (.inl y :: .inl x :: st) h := by
  intro H locs lsC stC hSt
  obtain ⟨tys, ws, lv, t, hK, hP, hD, hS, hL0, hw, hst, hl, hlr⟩ := hSt
  obtain ⟨v, stC1, e1, ⟨j, e2, hj⟩, hj1⟩ := ev_all_cons hst
  subst e1 e2
  clear hst
  have hst := hj1
  obtain ⟨v, stC2, e1, ⟨i, e2, hi⟩, hi1⟩ := ev_all_cons hst
  subst e1 e2
  clear hst
  have hst := hi1
  exact lv_icmp_eq hx hb hdg ht (fun _ => kk H locs lsC _ ⟨tys, ws, lv, t, hK, hP, hD, hS, hL0, hw, hst, hl, hlr⟩) (fun q => absurd (ev_eq_t hi hj hc) q)
theorem ev_icmp_eq_f (hx : p.tables.exec = Jvm.exec) (hb : c.code = cc) {off : Int} {tgt : Nat} {x y : Int × Int} (hc : ev_eq x y = some false) (ht : (pc : Int) + off = (tgt : Int)) (hdg : decode cc pc = .ok (.if_icmp .eq off, 3)) (kk : ev_K p l e R s m args below meth c Q b hz D cl A L0 nL cells slots (pc + 3) ls st h) : ev_K p l e R s m args below meth c Q b hz D cl A L0 nL cells slots pc ls (.inl y :: .inl x :: st) h := by
  intro H locs lsC stC hSt
  obtain ⟨tys, ws, lv, t, hK, hP, hD, hS, hL0, hw, hst, hl, hlr⟩ := hSt
  obtain ⟨v, stC1, e1, ⟨j, e2, hj⟩, hj1⟩ := ev_all_cons hst
  subst e1 e2
  clear hst
  have hst := hj1
  obtain ⟨v, stC2, e1, ⟨i, e2, hi⟩, hi1⟩ := ev_all_cons hst
  subst e1 e2
  clear hst
  have hst := hi1
  exact lv_icmp_eq hx hb hdg ht (fun q => absurd q (ev_eq_f hi hj hc)) (fun _ => kk H locs lsC _ ⟨tys, ws, lv, t, hK, hP, hD, hS, hL0, hw, hst, hl, hlr⟩)
theorem ev_if_eq_t (hx : p.tables.exec = Jvm.exec) (hb : c.code = cc) {off : Int} {tgt : Nat} {x : Int × Int} (hc : ev_eq x (0, 0) = some true) (ht : (pc : Int) + off = (tgt : Int)) (hdg : decode cc pc = .ok (.ifCond .eq off, 3)) (kk : ev_K p l e R s m args below meth c Q b hz D cl A L0 nL cells slots tgt ls st h) : ev_K p l e R s m args below meth c Q b hz D cl A L0 nL cells slots pc ls (.inl x :: st) h := by
  intro H locs lsC stC hSt
  obtain ⟨tys, ws, lv, t, hK, hP, hD, hS, hL0, hw, hst, hl, hlr⟩ := hSt
  have hj : ev_in (0, 0) (0 : Int32) := ⟨Int.le_refl 0, Int.le_refl 0⟩
  obtain ⟨v, stC2, e1, ⟨i, e2, hi⟩, hi1⟩ := ev_all_cons hst
  subst e1 e2
  clear hst
  have hst := hi1
  exact lv_if_eq hx hb hdg ht (fun _ => kk H locs lsC _ ⟨tys, ws, lv, t, hK, hP, hD, hS, hL0, hw, hst, hl, hlr⟩) (fun q => absurd (ev_eq_t hi hj hc) q)
theorem ev_if_eq_f (hx : p.tables.exec = Jvm.exec) (hb : c.code = cc) {off : Int} {tgt : Nat} {x : Int × Int} (hc : ev_eq x (0, 0) = some false) (ht : (pc : Int) + off = (tgt : Int)) (hdg : decode cc pc = .ok (.ifCond .eq off, 3)) (kk : ev_K p l e R s m args below meth c Q b hz D cl A L0 nL cells slots (pc + 3) ls st h) : ev_K p l e R s m args below meth c Q b hz D cl A L0 nL cells slots pc ls (.inl x :: st) h := by
  intro H locs lsC stC hSt
  obtain ⟨tys, ws, lv, t, hK, hP, hD, hS, hL0, hw, hst, hl, hlr⟩ := hSt
  have hj : ev_in (0, 0) (0 : Int32) := ⟨Int.le_refl 0, Int.le_refl 0⟩
  obtain ⟨v, stC2, e1, ⟨i, e2, hi⟩, hi1⟩ := ev_all_cons hst
  subst e1 e2
  clear hst
  have hst := hi1
  exact lv_if_eq hx hb hdg ht (fun q => absurd q (ev_eq_f hi hj hc)) (fun _ => kk H locs lsC _ ⟨tys, ws, lv, t, hK, hP, hD, hS, hL0, hw, hst, hl, hlr⟩)
theorem ev_icmp_ne_t (hx : p.tables.exec = Jvm.exec) (hb : c.code = cc) {off : Int} {tgt : Nat} {x y : Int × Int} (hc : ev_eq x y = some true) (ht : (pc : Int) + off = (tgt : Int)) (hdg : decode cc pc = .ok (.if_icmp .ne off, 3)) (kk : ev_K p l e R s m args below meth c Q b hz D cl A L0 nL cells slots (pc + 3) ls st h) : ev_K p l e R s m args below meth c Q b hz D cl A L0 nL cells slots pc ls (.inl y :: .inl x :: st) h := by
  intro H locs lsC stC hSt
  obtain ⟨tys, ws, lv, t, hK, hP, hD, hS, hL0, hw, hst, hl, hlr⟩ := hSt
  obtain ⟨v, stC1, e1, ⟨j, e2, hj⟩, hj1⟩ := ev_all_cons hst
  subst e1 e2
  clear hst
  have hst := hj1
  obtain ⟨v, stC2, e1, ⟨i, e2, hi⟩, hi1⟩ := ev_all_cons hst
  subst e1 e2
  clear hst
  have hst := hi1
  exact lv_icmp_ne hx hb hdg ht (fun q => absurd q (fun q => q (ev_eq_t hi hj hc))) (fun _ => kk H locs lsC _ ⟨tys, ws, lv, t, hK, hP, hD, hS, hL0, hw, hst, hl, hlr⟩)
theorem ev_icmp_ne_f (hx : p.tables.exec = Jvm.exec) (hb : c.code = cc) {off : Int} {tgt : Nat} {x y : Int × Int} (hc : ev_eq x y = some false) (ht : (pc : Int) + off = (tgt : Int)) (hdg : decode cc pc = .ok (.if_icmp .ne off, 3)) (kk : ev_K p l e R s m args below meth c Q b hz D cl A L0 nL cells slots tgt ls st h) : ev_K p l e R s m args below meth c Q b hz D cl A L0 nL cells slots pc ls (.inl y :: .inl x :: st) h := by
  intro H locs lsC stC hSt
  obtain ⟨tys, ws, lv, t, hK, hP, hD, hS, hL0, hw, hst, hl, hlr⟩ := hSt
  obtain ⟨v, stC1, e1, ⟨j, e2, hj⟩, hj1⟩ := ev_all_cons hst
  subst e1 e2
  clear hst
  have hst := hj1
  obtain ⟨v, stC2, e1, ⟨i, e2, hi⟩, hi1⟩ := ev_all_cons hst
  subst e1 e2
  clear hst
  have hst := hi1
  exact lv_icmp_ne hx hb hdg ht (fun _ => kk H locs lsC _ ⟨tys, ws, lv, t, hK, hP, hD, hS, hL0, hw, hst, hl, hlr⟩) (fun q => absurd q (ev_eq_f hi hj hc))
theorem ev_if_ne_t (hx : p.tables.exec = Jvm.exec) (hb : c.code = cc) {off : Int} {tgt : Nat} {x : Int × Int} (hc : ev_eq x (0, 0) = some true) (ht : (pc : Int) + off = (tgt : Int)) (hdg : decode cc pc = .ok (.ifCond .ne off, 3)) (kk : ev_K p l e R s m args below meth c Q b hz D cl A L0 nL cells slots (pc + 3) ls st h) : ev_K p l e R s m args below meth c Q b hz D cl A L0 nL cells slots pc ls (.inl x :: st) h := by
  intro H locs lsC stC hSt
  obtain ⟨tys, ws, lv, t, hK, hP, hD, hS, hL0, hw, hst, hl, hlr⟩ := hSt
  have hj : ev_in (0, 0) (0 : Int32) := ⟨Int.le_refl 0, Int.le_refl 0⟩
  obtain ⟨v, stC2, e1, ⟨i, e2, hi⟩, hi1⟩ := ev_all_cons hst
  subst e1 e2
  clear hst
  have hst := hi1
  exact lv_if_ne hx hb hdg ht (fun q => absurd q (fun q => q (ev_eq_t hi hj hc))) (fun _ => kk H locs lsC _ ⟨tys, ws, lv, t, hK, hP, hD, hS, hL0, hw, hst, hl, hlr⟩)
theorem ev_if_ne_f (hx : p.tables.exec = Jvm.exec) (hb : c.code = cc) {off : Int} {tgt : Nat} {x : Int × Int} (hc : ev_eq x (0, 0) = some false) (ht : (pc : Int) + off = (tgt : Int)) (hdg : decode cc pc = .ok (.ifCond .ne off, 3)) (kk : ev_K p l e R s m args below meth c Q b hz D cl A L0 nL cells slots tgt ls st h) : ev_K p l e R s m args below meth c Q b hz D cl A L0 nL cells slots pc ls (.inl x :: st) h := by
  intro H locs lsC stC hSt
  obtain ⟨tys, ws, lv, t, hK, hP, hD, hS, hL0, hw, hst, hl, hlr⟩ := hSt
  have hj : ev_in (0, 0) (0 : Int32) := ⟨Int.le_refl 0, Int.le_refl 0⟩
  obtain ⟨v, stC2, e1, ⟨i, e2, hi⟩, hi1⟩ := ev_all_cons hst
  subst e1 e2
  clear hst
  have hst := hi1
  exact lv_if_ne hx hb hdg ht (fun _ => kk H locs lsC _ ⟨tys, ws, lv, t, hK, hP, hD, hS, hL0, hw, hst, hl, hlr⟩) (fun q => absurd q (ev_eq_f hi hj hc))
end EVS
end
section
/-! ===== steps that read and write cells ===== -/
section EVT
variable {p : Program} {l : Launch} {e : Env} {R : Room} {s : State} {m : MethodId} {args : Array Value} {below : List Frame} {meth : Method} {c : Code} {Q : State → Prop} {b hz : Nat} {D : va_G} {cl : List vw_C} {A : Nat → Prop} {L0 : List Nat} {nL : Nat} {cells slots : Nat} {cc : ByteArray} {pc : Nat} {ls : ev_L} {st : List ev_V} {h : ev_H}
theorem ev_crel_i {tys : List (ClassId × FieldType)} {L : List Nat} {t w : Nat} {mm : List (Nat × (Int × Int))} {e : va_E} (ht : ¬ t = 3) : ev_crel b hz tys L (.inl (t, w, mm)) e ↔ ∃ (cA : ClassId) (f : Nat → Int32), e = .inl (cA, w, .inl f) ∧ (cA, ev_ty t) ∈ tys ∧ ∀ j, ev_in (ev_get mm j) (f j) := by
  show (if t = 3 then _ else _) ↔ _
  rw [if_neg ht]
theorem ev_crel_l {tys : List (ClassId × FieldType)} {L : List Nat} {t w : Nat} {mm : List (Nat × (Int × Int))} {e : va_E} (ht : t = 3) : ev_crel b hz tys L (.inl (t, w, mm)) e ↔ ∃ (cA : ClassId) (f : Nat → Int64), e = .inl (cA, w, .inr (.inl f)) ∧ (cA, FieldType.long) ∈ tys := by
  show (if t = 3 then _ else _) ↔ _
  rw [if_pos ht]
theorem ev_crel_o {tys : List (ClassId × FieldType)} {L : List Nat} {ci : Nat} {fs : List ev_V} {vs : List Value} (h : ev_all (ev_rel b hz L) fs vs) : ev_crel b hz tys L (.inr (ci, fs)) (.inr (ci, vs)) := ⟨vs, rfl, h⟩
theorem ev_wat {tys : List (ClassId × FieldType)} {L : List Nat} {ws : va_W} (hw : ev_wrel b hz tys L h ws) {n : Nat} {x : ev_C} (hx : h[n]? = some x) (hL : L = ws.map Prod.fst) {a : Nat} (ha : L[n]? = some a) : ∃ e, ws[n]? = some (a, e) ∧ ev_crel b hz tys L x e := by
  obtain ⟨q, h1, h2⟩ := ev_all_get hw hx
  subst hL
  rw [List.getElem?_map, h1] at ha
  cases ha
  exact ⟨q.2, h1, h2⟩
theorem ev_mapset {ws : va_W} {n a : Nat} {e e' : va_E} (h1 : ws[n]? = some (a, e)) : (ws.set n (a, e')).map Prod.fst = ws.map Prod.fst := by
  apply List.ext_getElem?
  intro k
  rw [List.getElem?_map, List.getElem?_map, List.getElem?_set]
  by_cases hk : n = k
  · subst hk
    rw [if_pos rfl]
    by_cases hl : n < ws.length
    · rw [if_pos hl, h1]; rfl
    · rw [List.getElem?_eq_none (by omega)] at h1; cases h1
  · rw [if_neg hk]
theorem ev_getf_ok (hx : p.tables.exec = Jvm.exec) (hb : c.code = cc) {own : String} (hown : s.vm.findClass own = some m.cls) {Ts : List Cond} (hts : ∀ w ∈ Ts, w.before args s = true) {idx ci k n : Nat} {C : String} {T : u_T} {N : Nat} (hc : cl[ci]? = some (C, T, N)) (hin : ∀ w ∈ u_ws C T N, w ∈ Ts) (hk : k < N) (hlink : Cond.fieldLink own idx (T k).1 (T k).2.1 (T k).2.2.1 ∈ Ts)
    {fs : List ev_V} {x : ev_V} (h1 : h[n]? = some (.inr (ci, fs))) (h2 : fs[k]? = some x) (hdg : decode cc pc = .ok (.getfield idx, 3)) (kk : ev_K p l e R s m args below meth c Q b hz D cl A L0 nL cells slots (pc + 3) ls (x :: st) h) : ev_K p l e R s m args below meth c Q b hz D cl A L0 nL cells slots pc ls (.inr (.inr (n + 4)) :: st) h := by
  intro H locs lsC stC hSt
  obtain ⟨tys, ws, lv, t, hK, hP, hD, hS, hL0, hw, hst, hl, hlr⟩ := hSt
  obtain ⟨v, stC1, e1, ⟨a, ha, e2⟩, hst1⟩ := ev_all_cons hst
  subst e1 e2
  obtain ⟨e', g1, vs, g2, g3⟩ := ev_wat hw h1 rfl ha
  subst g2
  obtain ⟨v, g4, g5⟩ := ev_all_get g3 h2
  exact va_get hx hb hts hin hown hK hP n g1 hc k hk (hts _ hlink) (fun _ h => h) g4 hdg (kk H locs lsC _ ⟨tys, ws, lv, t, hK, hP, hD, hS, hL0, hw, ⟨g5, hst1⟩, hl, hlr⟩)
/-- a sort of field, and the type that its descriptor says -/
def ev_tc (t : Nat) (ty : FieldType) : Prop := match t with
  | 0 => ty = .int
  | 1 => ty = .boolean
  | _ => (∃ C, ty = .object C) ∨ ∃ u, ty = .array u
theorem ev_may_ok {t : Nat} {x : ev_V} {L : List Nat} {v : Value} {ty : FieldType} (h1 : ev_may t x = true) (h2 : ev_rel b hz L x v) (h3 : ev_tc t ty) : narrow ty v = v ∧ fits ty v = true := by
  unfold ev_may at h1
  split at h1
  · obtain ⟨i, rfl, -⟩ := h2
    cases h3
    exact ⟨rfl, rfl⟩
  · obtain ⟨i, rfl, h4, h5⟩ := h2
    cases h3
    simp only [Bool.and_eq_true, decide_eq_true_eq] at h1
    have h6 : i = 0 ∨ i = 1 := by
      have q0 : (0 : Int32).toInt = 0 := by decide
      have q1 : (1 : Int32).toInt = 1 := by decide
      by_cases q : i.toInt = 0
      · exact Or.inl (Int32.toInt_inj.mp (by omega))
      · exact Or.inr (Int32.toInt_inj.mp (by omega))
    rcases h6 with rfl | rfl
    · exact ⟨by decide +kernel, by decide +kernel⟩
    · exact ⟨by decide +kernel, by decide +kernel⟩
  · rename_i n
    have hv : v = .null ∨ ∃ a, v = .ref a := by
      match n, h2 with
      | 0, h2 => exact Or.inl h2
      | n + 1, h2 => exact Or.inr (ev_ref_ok h2)
    rcases h3 with ⟨C, rfl⟩ | ⟨u, rfl⟩ <;> rcases hv with rfl | ⟨a, rfl⟩ <;> exact ⟨rfl, rfl⟩
  · cases h1
theorem ev_putf_ok (hx : p.tables.exec = Jvm.exec) (hb : c.code = cc) {own : String} (hown : s.vm.findClass own = some m.cls) {Ts : List Cond} (hts : ∀ w ∈ Ts, w.before args s = true) {idx ci k n : Nat} {C : String} {T : u_T} {N : Nat} (hc : cl[ci]? = some (C, T, N)) (hin : ∀ w ∈ u_ws C T N, w ∈ Ts) (ty0 : Nat → FieldType) (hty : ∀ k, k < N → parseFieldDescriptor (T k).2.2.1 = some (ty0 k)) (hnm : ∀ a, a < N → ∀ b, b < N → a ≠ b → (T a).2.1 ≠ (T b).2.1) (hk : k < N) (hlink : Cond.fieldLink own idx (T k).1 (T k).2.1 (T k).2.2.1 ∈ Ts)
    (hfin : (T k).2.2.2 = true → meth.name = "<init>" ∧ (T k).1 = own) {tc : Nat} (htc : ev_tc tc (ty0 k))
    {fs : List ev_V} {x : ev_V} (h1 : h[n]? = some (.inr (ci, fs))) (h2 : ev_may tc x = true) (h3 : k < fs.length) (hdg : decode cc pc = .ok (.putfield idx, 3)) (kk : ev_K p l e R s m args below meth c Q b hz D cl A L0 nL cells slots (pc + 3) ls st (h.set n (.inr (ci, fs.set k x)))) : ev_K p l e R s m args below meth c Q b hz D cl A L0 nL cells slots pc ls (x :: .inr (.inr (n + 4)) :: st) h := by
  intro H locs lsC stC hSt
  obtain ⟨tys, ws, lv, t, hK, hP, hD, hS, hL0, hw, hst, hl, hlr⟩ := hSt
  obtain ⟨v, stC1, e1, hv, hst1⟩ := ev_all_cons hst
  subst e1
  obtain ⟨v', stC2, e1, ⟨a, ha, e2⟩, hst2⟩ := ev_all_cons hst1
  subst e1 e2
  obtain ⟨e', g1, vs, g2, g3⟩ := ev_wat hw h1 rfl ha
  subst g2
  obtain ⟨q1, q2⟩ := ev_may_ok h2 hv htc
  have hlen : k < vs.length := by rw [← ev_all_len g3]; exact h3
  have fin : ∀ (H1 : Heap) (locs1 : List Loc), va_P D cl (ws.set n (a, .inr (ci, vs.set k v))) H1 → va_D A (ws.set n (a, .inr (ci, vs.set k v))) → va_S A s.heap H1 locs1 → W p l e R s m args below meth c H1 locs1 cells slots Q (F0 m (pc + 3) lsC stC2) := fun H1 locs1 hP1 hD1 hS1 => by
    refine kk H1 locs1 lsC stC2 ⟨tys, _, lv, t, hK, hP1, hD1, hS1, ?_, ?_, ?_, hl, ?_⟩
    · rw [ev_mapset g1]; exact hL0
    · rw [ev_mapset g1]
      exact ev_all_set (R := fun c (q : Nat × va_E) => ev_crel b hz tys (ws.map Prod.fst) c q.2) (a := .inr (ci, fs.set k x)) (b := (a, .inr (ci, vs.set k v))) (ev_crel_o (ev_all_set hv g3 k)) hw n
    · rw [ev_mapset g1]; exact hst2
    · rw [ev_mapset g1]; exact hlr
  by_cases hf : (T k).2.2.2 = true
  · obtain ⟨i1, i2⟩ := hfin hf
    exact va_putF hx hb hts hin ty0 hty hnm hown hK hP hD hS n g1 hc k hk (hts _ hlink) (fun _ h => h) hf i1 i2 (hty k hk) q1 q2 hlen hdg fin
  · exact va_put hx hb hts hin ty0 hty hnm hown hK hP hD hS n g1 hc k hk (hts _ hlink) (fun _ h => h) (ev_nt hf) (hty k hk) q1 q2 hlen hdg fin
theorem ev_rel_app {tys t2 : List (ClassId × FieldType)} {ws : va_W} {q : Nat} {x : ev_C} {e : va_E} (hw : ev_wrel b hz tys (ws.map Prod.fst) h ws) (hx : ev_crel b hz (tys ++ t2) ((ws ++ [(q, e)]).map Prod.fst) x e) : ev_wrel b hz (tys ++ t2) ((ws ++ [(q, e)]).map Prod.fst) (h ++ [x]) (ws ++ [(q, e)]) := by
  refine ev_all_app ?_ ⟨hx, trivial⟩
  rw [List.map_append]
  exact ev_all_mono (fun _ _ hq => ev_crel_mono hq) hw
theorem ev_new_ok (hx : p.tables.exec = Jvm.exec) (hb : c.code = cc) (hA : ∀ q, s.heap.size ≤ q → A q) {own : String} (hown : s.vm.findClass own = some m.cls) {Ts : List Cond} (hts : ∀ w ∈ Ts, w.before args s = true) {idx ci : Nat} {C : String} {T : u_T} {N : Nat} (hc : cl[ci]? = some (C, T, N)) (hin : ∀ w ∈ u_ws C T N, w ∈ Ts) (ty0 : Nat → FieldType) (hty : ∀ k, k < N → parseFieldDescriptor (T k).2.2.1 = some (ty0 k))
    (hcl : Cond.classLink own idx C ∈ Ts) (hin2 : Cond.instantiable C N ∈ Ts) (hini : Cond.initialized C ∈ Ts) {fs : List ev_V} {vs : List Value} (hfs : ∀ j, j < N → defaultValue (ty0 j) = vp_V vs j) (hvs : ∀ b hz L, ev_all (ev_rel b hz L) fs vs) (hN : fs.length = N) (hcells : cells + 1 ≤ R.cells) (hslots : slots + fs.length ≤ R.slots)
    (hdg : decode cc pc = .ok (.new idx, 3)) (kk : ev_K p l e R s m args below meth c Q b hz D cl A L0 nL (cells + 1) (slots + fs.length) (pc + 3) ls (.inr (.inr (h.length + 4)) :: st) (h ++ [.inr (ci, fs)])) : ev_K p l e R s m args below meth c Q b hz D cl A L0 nL cells slots pc ls st h := by
  intro H locs lsC stC hSt
  obtain ⟨tys, ws, lv, t, hK, hP, hD, hS, hL0, hw, hst, hl, hlr⟩ := hSt
  have hlen : h.length = ws.length := ev_all_len hw
  subst hN
  refine va_new hx hb hts hin ty0 hty hown (hts _ hcl) (hts _ hin2) (hts _ hini) hK hP hD hS hA hc hfs hcells hslots hdg (fun q H1 hP1 hD1 hS1 => ?_)
  refine kk H1 locs lsC _ ⟨tys, _, lv, t ++ [q], hK, hP1, hD1, hS1, ?_, ?_, ⟨⟨q, ?_, rfl⟩, ?_⟩, hl, ?_⟩
  · rw [List.map_append, hL0, List.append_assoc]; rfl
  · have := ev_rel_app (t2 := []) (q := q) (x := .inr (ci, fs)) (e := .inr (ci, vs)) hw ⟨vs, rfl, hvs _ _ _⟩
    rw [List.append_nil] at this
    exact this
  · rw [List.map_append, List.getElem?_append_right (by rw [List.length_map]; omega), List.length_map, hlen, Nat.sub_self]; rfl
  · rw [List.map_append]; exact ev_all_mono (fun _ _ hq => ev_rel_mono hq) hst
  · rw [List.map_append]; exact ev_all_mono (fun _ _ hq => ⟨hq.1, ev_rel_mono hq.2⟩) hlr
theorem ev_newa_ok (hx : p.tables.exec = Jvm.exec) (hb : c.code = cc) (hA : ∀ q, s.heap.size ≤ q → A q) {Ts : List Cond} (hts : ∀ w ∈ Ts, w.before args s = true) {at' : ArrayType} {ty w : Nat} {r : Int × Int} (hty : newarray.typeOf at' = ev_ty ty) (ht3 : ty ≤ 3) (harr : Cond.arrayClass (ev_ty ty) ∈ Ts) (hix : ev_ix r 1000001 = some w) (hcells : cells + 1 ≤ R.cells) (hslots : slots + w ≤ R.slots)
    (hdg : decode cc pc = .ok (.newarray at', 2)) (kk : ev_K p l e R s m args below meth c Q b hz D cl A L0 nL (cells + 1) (slots + w) (pc + 2) ls (.inr (.inr (h.length + 4)) :: st) (h ++ [.inl (ty, w, [])])) : ev_K p l e R s m args below meth c Q b hz D cl A L0 nL cells slots pc ls (.inl r :: st) h := by
  intro H locs lsC stC hSt
  obtain ⟨tys, ws, lv, t, hK, hP, hD, hS, hL0, hw, hst, hl, hlr⟩ := hSt
  have hlen : h.length = ws.length := ev_all_len hw
  obtain ⟨v, stC1, e1, ⟨i, e2, hi⟩, hst1⟩ := ev_all_cons hst
  subst e1 e2
  obtain ⟨k1, k2, k3, k4, k5⟩ := ev_ix_ok hix hi
  have go : ∀ (a0 : vp_A), (∀ cA : ClassId, vp_cell cA a0 = arrV cA w (fun _ => defaultValue (ev_ty ty))) → (∀ tys' cA L, (cA, ev_ty ty) ∈ tys' → ev_crel b hz tys' L (.inl (ty, w, [])) (.inl (cA, a0))) → W p l e R s m args below meth c H locs cells slots Q (F0 m pc lsC (.int i :: stC1)) := fun a0 ha hrel => by
    refine va_newa hx hb (by rw [hty]; exact hts _ harr) hty hK hP hD hS hA ha k5 k3 ?_ hcells hslots hdg (fun q cA H1 hK1 hP1 hD1 hS1 => ?_)
    · have : componentBytes (ev_ty ty) ≤ 8 := by
        match ty, ht3 with
        | 0, _ => decide
        | 1, _ => decide
        | 2, _ => decide
        | 3, _ => decide
      calc w * componentBytes (ev_ty ty) ≤ 1000001 * 8 := Nat.mul_le_mul (by omega) this
        _ ≤ 536870912 := by decide
    · refine kk H1 locs lsC _ ⟨_, _, lv, t ++ [q], hK1, hP1, hD1, hS1, ?_, ?_, ⟨⟨q, ?_, rfl⟩, ?_⟩, hl, ?_⟩
      · rw [List.map_append, hL0, List.append_assoc]; rfl
      · exact ev_rel_app (t2 := [(cA, ev_ty ty)]) (q := q) (x := .inl (ty, w, [])) (e := .inl (cA, a0)) hw (hrel _ cA _ (List.mem_append_right _ List.mem_cons_self))
      · rw [List.map_append, List.getElem?_append_right (by rw [List.length_map]; omega), List.length_map, hlen, Nat.sub_self]; rfl
      · rw [List.map_append]; exact ev_all_mono (fun _ _ hq => ev_rel_mono hq) hst1
      · rw [List.map_append]; exact ev_all_mono (fun _ _ hq => ⟨hq.1, ev_rel_mono hq.2⟩) hlr
  have z : ∀ j : Nat, ev_in (ev_get [] j) (0 : Int32) := fun j => ⟨Int.le_refl 0, Int.le_refl 0⟩
  match ty, ht3, go with
  | 0, _, go => exact go (w, .inl fun _ => 0) (fun cA => rfl) (fun tys' cA L hm => (ev_crel_i (by decide)).mpr ⟨cA, _, rfl, hm, z⟩)
  | 1, _, go => exact go (w, .inl fun _ => 0) (fun cA => rfl) (fun tys' cA L hm => (ev_crel_i (by decide)).mpr ⟨cA, _, rfl, hm, z⟩)
  | 2, _, go => exact go (w, .inl fun _ => 0) (fun cA => rfl) (fun tys' cA L hm => (ev_crel_i (by decide)).mpr ⟨cA, _, rfl, hm, z⟩)
  | 3, _, go => exact go (w, .inr (.inl fun _ => 0)) (fun cA => rfl) (fun tys' cA L hm => (ev_crel_l rfl).mpr ⟨cA, _, rfl, hm⟩)
theorem ev_mem_at {α : Type} {x : α} {l : List α} (h : x ∈ l) : ∃ k : Nat, l[k]? = some x := by
  obtain ⟨k, hk⟩ := List.getElem?_of_mem h
  exact ⟨k, hk⟩
theorem ev_len_ok (hx : p.tables.exec = Jvm.exec) (hb : c.code = cc) {n : Nat} {o : Nat × Nat × List (Nat × (Int × Int))} (h1 : h[n]? = some (.inl o)) (h2 : o.2.1 ≤ 1000000) (hdg : decode cc pc = .ok (.arraylength, 1)) (kk : ev_K p l e R s m args below meth c Q b hz D cl A L0 nL cells slots (pc + 1) ls (.inl (o.2.1, o.2.1) :: st) h) : ev_K p l e R s m args below meth c Q b hz D cl A L0 nL cells slots pc ls (.inr (.inr (n + 4)) :: st) h := by
  intro H locs lsC stC hSt
  obtain ⟨tys, ws, lv, t, hK, hP, hD, hS, hL0, hw, hst, hl, hlr⟩ := hSt
  obtain ⟨v, stC1, e1, ⟨a, ha, e2⟩, hst1⟩ := ev_all_cons hst
  subst e1 e2
  obtain ⟨e', g1, g2⟩ := ev_wat hw h1 rfl ha
  have hv : (Int32.ofNat o.2.1).toInt = (o.2.1 : Int) := nI_toInt (n := o.2.1) (by omega)
  by_cases q3 : o.1 = 3
  · obtain ⟨cA, f, g3, g4⟩ := (ev_crel_l q3).mp g2
    subst g3
    obtain ⟨t0, ht⟩ := ev_mem_at g4
    exact va_alen hx hb hK hP n t0 g1 ht rfl hdg (kk H locs lsC _ ⟨tys, ws, lv, t, hK, hP, hD, hS, hL0, hw, ⟨ev_pc_ok hv, hst1⟩, hl, hlr⟩)
  · obtain ⟨cA, f, g3, g4, -⟩ := (ev_crel_i q3).mp g2
    subst g3
    obtain ⟨t0, ht⟩ := ev_mem_at g4
    exact va_alen hx hb hK hP n t0 g1 ht rfl hdg (kk H locs lsC _ ⟨tys, ws, lv, t, hK, hP, hD, hS, hL0, hw, ⟨ev_pc_ok hv, hst1⟩, hl, hlr⟩)
theorem ev_slen_ok (hx : p.tables.exec = Jvm.exec) (hb : c.code = cc) {N : Nat} {xs : Nat → Int32} (hX : va_X b N xs s s.heap) (hbl : b < s.heap.size) (hbA : ¬ A b) (hN : N ≤ 1000000) (hdg : decode cc pc = .ok (.arraylength, 1)) (kk : ev_K p l e R s m args below meth c Q b hz D cl A L0 nL cells slots (pc + 1) ls (.inl (N, N) :: st) h) : ev_K p l e R s m args below meth c Q b hz D cl A L0 nL cells slots pc ls (.inr (.inr 2) :: st) h := by
  intro H locs lsC stC hSt
  obtain ⟨tys, ws, lv, t, hK, hP, hD, hS, hL0, hw, hst, hl, hlr⟩ := hSt
  obtain ⟨v, stC1, e1, e2, hst1⟩ := ev_all_cons hst
  have e2 : v = .ref b := e2
  subst e1 e2
  exact va_slen hx hb hX hbl hbA hS hdg (kk H locs lsC _ ⟨tys, ws, lv, t, hK, hP, hD, hS, hL0, hw, ⟨ev_pc_ok (nI_toInt (n := N) (by omega)), hst1⟩, hl, hlr⟩)
theorem ev_sld_ok (hx : p.tables.exec = Jvm.exec) (hb : c.code = cc) {N : Nat} {xs : Nat → Int32} (hX : va_X b N xs s s.heap) (hbl : b < s.heap.size) (hbA : ¬ A b) (hN : N ≤ 1000000) {r : Int × Int} {j : Nat} {x : ev_V} (hix : ev_ix r N = some j) (hxs : ∀ L, ev_rel b hz L x (.int (xs j))) (hdg : decode cc pc = .ok (.iaload, 1)) (kk : ev_K p l e R s m args below meth c Q b hz D cl A L0 nL cells slots (pc + 1) ls (x :: st) h) : ev_K p l e R s m args below meth c Q b hz D cl A L0 nL cells slots pc ls (.inl r :: .inr (.inr 2) :: st) h := by
  intro H locs lsC stC hSt
  obtain ⟨tys, ws, lv, t, hK, hP, hD, hS, hL0, hw, hst, hl, hlr⟩ := hSt
  obtain ⟨v, stC1, e1, ⟨i, e2, hi⟩, hst1⟩ := ev_all_cons hst
  subst e1 e2
  obtain ⟨v, stC2, e1, e2, hst2⟩ := ev_all_cons hst1
  have e2 : v = .ref b := e2
  subst e1 e2
  obtain ⟨k1, k2, k3, k4, k5⟩ := ev_ix_ok hix hi
  refine va_sld hx hb hX hbl hbA hS k2 hdg (kk H locs lsC _ ⟨tys, ws, lv, t, hK, hP, hD, hS, hL0, hw, ⟨?_, hst2⟩, hl, hlr⟩)
  rw [k3]
  exact hxs _
theorem ev_hld_ok (hx : p.tables.exec = Jvm.exec) (hb : c.code = cc) (hT : va_T .int hz 5 ev_hv A s s.heap) {r : Int × Int} {j : Nat} {x : Int} (hix : ev_ix r 5 = some j) (hxs : ([5, 24, 9, 1, 9] : List Int)[j]? = some x) (hdg : decode cc pc = .ok (.iaload, 1)) (kk : ev_K p l e R s m args below meth c Q b hz D cl A L0 nL cells slots (pc + 1) ls (.inl (x, x) :: st) h) : ev_K p l e R s m args below meth c Q b hz D cl A L0 nL cells slots pc ls (.inl r :: .inr (.inr 3) :: st) h := by
  intro H locs lsC stC hSt
  obtain ⟨tys, ws, lv, t, hK, hP, hD, hS, hL0, hw, hst, hl, hlr⟩ := hSt
  obtain ⟨v, stC1, e1, ⟨i, e2, hi⟩, hst1⟩ := ev_all_cons hst
  subst e1 e2
  obtain ⟨v, stC2, e1, e2, hst2⟩ := ev_all_cons hst1
  have e2 : v = .ref hz := e2
  subst e1 e2
  obtain ⟨k1, k2, k3, k4, k5⟩ := ev_ix_ok hix hi
  refine va_ti hx hb hT hS k2 (v := .int (Int32.ofInt x)) ?_ hdg (kk H locs lsC _ ⟨tys, ws, lv, t, hK, hP, hD, hS, hL0, hw, ⟨ev_pc_ok ?_, hst2⟩, hl, hlr⟩)
  · rw [k3]
    unfold ev_hv
    rw [List.getD_eq_getElem?_getD, hxs]; rfl
  · have : x ∈ ([5, 24, 9, 1, 9] : List Int) := List.mem_of_getElem? hxs
    have key : ∀ x ∈ ([5, 24, 9, 1, 9] : List Int), (Int32.ofInt x).toInt = x := by decide
    exact key x this
theorem ev_gets_ok (hx : p.tables.exec = Jvm.exec) (hb : c.code = cc) {own : String} (hown : s.vm.findClass own = some m.cls) {Ts : List Cond} (hts : ∀ w ∈ Ts, w.before args s = true) {idx : Nat} (hlink : Cond.fieldLink own idx "TypeLevels$Heard" "HIGHEST" "[I" ∈ Ts) (hZ : va_Z "TypeLevels$Heard" "HIGHEST" "[I" (.ref hz) A s s.heap) (hdg : decode cc pc = .ok (.getstatic idx, 3)) (kk : ev_K p l e R s m args below meth c Q b hz D cl A L0 nL cells slots (pc + 3) ls (.inr (.inr 3) :: st) h) : ev_K p l e R s m args below meth c Q b hz D cl A L0 nL cells slots pc ls st h := by
  intro H locs lsC stC hSt
  obtain ⟨tys, ws, lv, t, hK, hP, hD, hS, hL0, hw, hst, hl, hlr⟩ := hSt
  exact va_gets hx hb hZ hS hown (hts _ hlink) (fun _ h => h) hdg (kk H locs lsC _ ⟨tys, ws, lv, t, hK, hP, hD, hS, hL0, hw, ⟨rfl, hst⟩, hl, hlr⟩)
theorem ev_ald_ok (hx : p.tables.exec = Jvm.exec) (hb : c.code = cc) {n w j : Nat} {mm : List (Nat × (Int × Int))} {r : Int × Int} (h1 : h[n]? = some (.inl (0, w, mm))) (hix : ev_ix r w = some j) (hdg : decode cc pc = .ok (.iaload, 1)) (kk : ev_K p l e R s m args below meth c Q b hz D cl A L0 nL cells slots (pc + 1) ls (.inl (ev_get mm j) :: st) h) : ev_K p l e R s m args below meth c Q b hz D cl A L0 nL cells slots pc ls (.inl r :: .inr (.inr (n + 4)) :: st) h := by
  intro H locs lsC stC hSt
  obtain ⟨tys, ws, lv, t, hK, hP, hD, hS, hL0, hw, hst, hl, hlr⟩ := hSt
  obtain ⟨v, stC1, e1, ⟨i, e2, hi⟩, hst1⟩ := ev_all_cons hst
  subst e1 e2
  obtain ⟨v, stC2, e1, ⟨a, ha, e2⟩, hst2⟩ := ev_all_cons hst1
  subst e1 e2
  obtain ⟨e', g1, g2⟩ := ev_wat hw h1 rfl ha
  obtain ⟨cA, f, g3, g4, g5⟩ := (ev_crel_i (by decide)).mp g2
  subst g3
  obtain ⟨t0, ht⟩ := ev_mem_at g4
  obtain ⟨k1, k2, k3, k4, k5⟩ := ev_ix_ok hix hi
  refine va_iald hx hb hK hP n t0 g1 ht k2 hdg (kk H locs lsC _ ⟨tys, ws, lv, t, hK, hP, hD, hS, hL0, hw, ⟨⟨_, rfl, ?_⟩, hst2⟩, hl, hlr⟩)
  rw [k3]
  exact g5 j
theorem ev_upd_in {mm : List (Nat × (Int × Int))} {f : Nat → Int32} (hf : ∀ j, ev_in (ev_get mm j) (f j)) {j : Nat} {x : Int × Int} {i : Int32} (hi : ev_in x i) : ∀ k, ev_in (ev_get (ev_put mm j x fun m => m) k) (upd f j i k) := by
  intro k
  rw [ev_get_put]
  by_cases hk : k = j
  · subst hk
    rw [if_pos rfl, pk_us]; exact hi
  · rw [if_neg hk, pk_un hk]; exact hf k
theorem ev_ast_ok (hx : p.tables.exec = Jvm.exec) (hb : c.code = cc) {n w j : Nat} {mm : List (Nat × (Int × Int))} {x r : Int × Int} (h1 : h[n]? = some (.inl (0, w, mm))) (hix : ev_ix r w = some j) (hdg : decode cc pc = .ok (.iastore, 1)) (kk : ev_K p l e R s m args below meth c Q b hz D cl A L0 nL cells slots (pc + 1) ls st (h.set n (.inl (0, w, ev_put mm j x fun m => m)))) : ev_K p l e R s m args below meth c Q b hz D cl A L0 nL cells slots pc ls (.inl x :: .inl r :: .inr (.inr (n + 4)) :: st) h := by
  intro H locs lsC stC hSt
  obtain ⟨tys, ws, lv, t, hK, hP, hD, hS, hL0, hw, hst, hl, hlr⟩ := hSt
  obtain ⟨v, stC0, e1, ⟨i0, e2, hi0⟩, hst0⟩ := ev_all_cons hst
  subst e1 e2
  obtain ⟨v, stC1, e1, ⟨i, e2, hi⟩, hst1⟩ := ev_all_cons hst0
  subst e1 e2
  obtain ⟨v, stC2, e1, ⟨a, ha, e2⟩, hst2⟩ := ev_all_cons hst1
  subst e1 e2
  obtain ⟨e', g1, g2⟩ := ev_wat hw h1 rfl ha
  obtain ⟨cA, f, g3, g4, g5⟩ := (ev_crel_i (by decide)).mp g2
  subst g3
  obtain ⟨t0, ht⟩ := ev_mem_at g4
  obtain ⟨k1, k2, k3, k4, k5⟩ := ev_ix_ok hix hi
  refine va_iast hx hb hK hP hD hS n t0 g1 ht k2 hdg (fun H1 locs1 hP1 hD1 hS1 => ?_)
  rw [k3] at hP1 hD1
  refine kk H1 locs1 lsC stC2 ⟨tys, _, lv, t, hK, hP1, hD1, hS1, ?_, ?_, ?_, hl, ?_⟩
  · rw [ev_mapset g1]; exact hL0
  · rw [ev_mapset g1]
    refine ev_all_set (R := fun c (q : Nat × va_E) => ev_crel b hz tys (ws.map Prod.fst) c q.2) ?_ hw n
    exact (ev_crel_i (t := 0) (by decide)).mpr ⟨cA, _, rfl, g4, ev_upd_in g5 hi0⟩
  · rw [ev_mapset g1]; exact hst2
  · rw [ev_mapset g1]; exact hlr
theorem ev_bst_ok (hx : p.tables.exec = Jvm.exec) (hb : c.code = cc) {n w j : Nat} {mm : List (Nat × (Int × Int))} {x r : Int × Int} (h1 : h[n]? = some (.inl (1, w, mm))) (hix : ev_ix r w = some j) (hdg : decode cc pc = .ok (.bastore, 1)) (kk : ev_K p l e R s m args below meth c Q b hz D cl A L0 nL cells slots (pc + 1) ls st (h.set n (.inl (1, w, ev_put mm j (-2147483648, 2147483647) fun m => m)))) : ev_K p l e R s m args below meth c Q b hz D cl A L0 nL cells slots pc ls (.inl x :: .inl r :: .inr (.inr (n + 4)) :: st) h := by
  intro H locs lsC stC hSt
  obtain ⟨tys, ws, lv, t, hK, hP, hD, hS, hL0, hw, hst, hl, hlr⟩ := hSt
  obtain ⟨v, stC0, e1, ⟨i0, e2, hi0⟩, hst0⟩ := ev_all_cons hst
  subst e1 e2
  obtain ⟨v, stC1, e1, ⟨i, e2, hi⟩, hst1⟩ := ev_all_cons hst0
  subst e1 e2
  obtain ⟨v, stC2, e1, ⟨a, ha, e2⟩, hst2⟩ := ev_all_cons hst1
  subst e1 e2
  obtain ⟨e', g1, g2⟩ := ev_wat hw h1 rfl ha
  obtain ⟨cA, f, g3, g4, g5⟩ := (ev_crel_i (by decide)).mp g2
  subst g3
  obtain ⟨t0, ht⟩ := ev_mem_at g4
  obtain ⟨k1, k2, k3, k4, k5⟩ := ev_ix_ok hix hi
  refine va_bast hx hb hK hP hD hS n t0 g1 ht k2 hdg (fun H1 locs1 hP1 hD1 hS1 => ?_)
  rw [k3] at hP1 hD1
  refine kk H1 locs1 lsC stC2 ⟨tys, _, lv, t, hK, hP1, hD1, hS1, ?_, ?_, ?_, hl, ?_⟩
  · rw [ev_mapset g1]; exact hL0
  · rw [ev_mapset g1]
    refine ev_all_set (R := fun c (q : Nat × va_E) => ev_crel b hz tys (ws.map Prod.fst) c q.2) ?_ hw n
    exact (ev_crel_i (t := 1) (by decide)).mpr ⟨cA, _, rfl, g4, ev_upd_in g5 ⟨Int32.le_toInt _, by have := Int32.toInt_le (vp_nar .byte i0); exact this⟩⟩
  · rw [ev_mapset g1]; exact hst2
  · rw [ev_mapset g1]; exact hlr
theorem ev_setself {α : Type} {l : List α} {n : Nat} {x : α} (h : l[n]? = some x) : l.set n x = l := by
  apply List.ext_getElem?
  intro k
  rw [List.getElem?_set]
  by_cases hk : n = k
  · subst hk
    rw [if_pos rfl]
    by_cases hl : n < l.length
    · rw [if_pos hl, h]
    · rw [List.getElem?_eq_none (by omega)] at h; cases h
  · rw [if_neg hk]
theorem ev_lst_ok (hx : p.tables.exec = Jvm.exec) (hb : c.code = cc) {n w j : Nat} {mm : List (Nat × (Int × Int))} {r : Int × Int} (h1 : h[n]? = some (.inl (3, w, mm))) (hix : ev_ix r w = some j) (hdg : decode cc pc = .ok (.lastore, 1)) (kk : ev_K p l e R s m args below meth c Q b hz D cl A L0 nL cells slots (pc + 1) ls st h) : ev_K p l e R s m args below meth c Q b hz D cl A L0 nL cells slots pc ls (.inr (.inr 0) :: .inl r :: .inr (.inr (n + 4)) :: st) h := by
  intro H locs lsC stC hSt
  obtain ⟨tys, ws, lv, t, hK, hP, hD, hS, hL0, hw, hst, hl, hlr⟩ := hSt
  obtain ⟨v, stC0, e1, ⟨i0, e2⟩, hst0⟩ := ev_all_cons hst
  subst e1 e2
  obtain ⟨v, stC1, e1, ⟨i, e2, hi⟩, hst1⟩ := ev_all_cons hst0
  subst e1 e2
  obtain ⟨v, stC2, e1, ⟨a, ha, e2⟩, hst2⟩ := ev_all_cons hst1
  subst e1 e2
  obtain ⟨e', g1, g2⟩ := ev_wat hw h1 rfl ha
  obtain ⟨cA, f, g3, g4⟩ := (ev_crel_l rfl).mp g2
  subst g3
  obtain ⟨t0, ht⟩ := ev_mem_at g4
  obtain ⟨k1, k2, k3, k4, k5⟩ := ev_ix_ok hix hi
  refine va_last hx hb hK hP hD hS n t0 g1 ht k2 hdg (fun H1 locs1 hP1 hD1 hS1 => ?_)
  refine kk H1 locs1 lsC stC2 ⟨tys, _, lv, t, hK, hP1, hD1, hS1, ?_, ?_, ?_, hl, ?_⟩
  · rw [ev_mapset g1]; exact hL0
  · rw [ev_mapset g1]
    have key := ev_all_set (R := fun c (q : Nat × va_E) => ev_crel b hz tys (ws.map Prod.fst) c q.2) (a := .inl (3, w, mm)) (b := (a, .inl (cA, w, .inr (.inl (vp_updL f i.toNatClampNeg i0))))) ((ev_crel_l rfl).mpr ⟨cA, _, rfl, g4⟩) hw n
    rw [ev_setself h1] at key
    exact key
  · rw [ev_mapset g1]; exact hst2
  · rw [ev_mapset g1]; exact hlr
theorem ev_tsw_in (hx : p.tables.exec = Jvm.exec) (hb : c.code = cc) {d lo hi off : Int} {offs : Array Int} {len tgt : Nat} {x : Int × Int} (hlo : lo ≤ x.1) (hhi : x.1 ≤ hi) (hxx : x.1 = x.2) (ho : offs.toList[(x.1 - lo).toNat]? = some off) (ht : (pc : Int) + off = (tgt : Int)) (hdg : decode cc pc = .ok (.tableswitch d lo hi offs, len)) (kk : ev_K p l e R s m args below meth c Q b hz D cl A L0 nL cells slots tgt ls st h) : ev_K p l e R s m args below meth c Q b hz D cl A L0 nL cells slots pc ls (.inl x :: st) h := by
  intro H locs lsC stC hSt
  obtain ⟨tys, ws, lv, t, hK, hP, hD, hS, hL0, hw, hst, hl, hlr⟩ := hSt
  obtain ⟨v, stC1, e1, ⟨i, e2, hi1, hi2⟩, hst1⟩ := ev_all_cons hst
  subst e1 e2
  have ex : i.toInt = x.1 := by omega
  exact lv_tableIn hx hb hdg (by omega) (by omega) (by rw [ex, ← Array.getElem?_toList]; exact ho) ht (kk H locs lsC _ ⟨tys, ws, lv, t, hK, hP, hD, hS, hL0, hw, hst1, hl, hlr⟩)
theorem ev_tsw_out (hx : p.tables.exec = Jvm.exec) (hb : c.code = cc) {d lo hi : Int} {offs : Array Int} {len tgt : Nat} {x : Int × Int} (ho : x.2 < lo ∨ hi < x.1) (ht : (pc : Int) + d = (tgt : Int)) (hdg : decode cc pc = .ok (.tableswitch d lo hi offs, len)) (kk : ev_K p l e R s m args below meth c Q b hz D cl A L0 nL cells slots tgt ls st h) : ev_K p l e R s m args below meth c Q b hz D cl A L0 nL cells slots pc ls (.inl x :: st) h := by
  intro H locs lsC stC hSt
  obtain ⟨tys, ws, lv, t, hK, hP, hD, hS, hL0, hw, hst, hl, hlr⟩ := hSt
  obtain ⟨v, stC1, e1, ⟨i, e2, hi1, hi2⟩, hst1⟩ := ev_all_cons hst
  subst e1 e2
  exact lv_tableOut hx hb hdg (by omega) ht (kk H locs lsC _ ⟨tys, ws, lv, t, hK, hP, hD, hS, hL0, hw, hst1, hl, hlr⟩)
theorem ev_lsw_ok (hx : p.tables.exec = Jvm.exec) (hb : c.code = cc) {d : Int} {ps : Array (Int × Int)} {len tgt : Nat} {x : Int × Int} (hp : (ps.toList.zip (ps.toList.drop 1)).all (fun (a, next) => a.1 < next.1) = true) (hxx : x.1 = x.2) (ht : (pc : Int) + Op.lookupswitch.offset ps.toList d x.1 = (tgt : Int)) (hdg : decode cc pc = .ok (.lookupswitch d ps, len)) (kk : ev_K p l e R s m args below meth c Q b hz D cl A L0 nL cells slots tgt ls st h) : ev_K p l e R s m args below meth c Q b hz D cl A L0 nL cells slots pc ls (.inl x :: st) h := by
  intro H locs lsC stC hSt
  obtain ⟨tys, ws, lv, t, hK, hP, hD, hS, hL0, hw, hst, hl, hlr⟩ := hSt
  obtain ⟨v, stC1, e1, ⟨i, e2, hi1, hi2⟩, hst1⟩ := ev_all_cons hst
  subst e1 e2
  have ex : i.toInt = x.1 := by omega
  exact lv_lookup hx hb hdg hp rfl (by rw [ex]; exact ht) (kk H locs lsC _ ⟨tys, ws, lv, t, hK, hP, hD, hS, hL0, hw, hst1, hl, hlr⟩)
end EVT
end
section
/-! ===== the library's own methods ===== -/
section EVL
variable {p : Program} {l : Launch} {e : Env} {R : Room} {s : State} {m : MethodId} {args : Array Value} {below : List Frame} {meth : Method} {c : Code} {Q : State → Prop} {b hz : Nat} {D : va_G} {cl : List vw_C} {A : Nat → Prop} {L0 : List Nat} {nL : Nat} {cells slots : Nat} {cc : ByteArray} {pc : Nat} {ls : ev_L} {st : List ev_V} {h : ev_H}
theorem ev_sum {L : List Nat} : ∀ {st : List ev_V} {stC : List Value}, ev_all (ev_rel b hz L) st stC → (stC.map fun v => v.category).sum ≤ 2 * st.length
  | [], [], _ => Nat.le_refl _
  | x :: st, v :: stC, h => by
    have h1 := ev_rel_le2 h.1
    have h2 := ev_sum h.2
    rw [List.map_cons, List.sum_cons, List.length_cons]
    omega
  | [], _ :: _, h => h.elim
  | _ :: _, [], h => h.elim
theorem ev_oin_ok (hx : p.tables.exec = Jvm.exec) (hb : c.code = cc) (hml : c.maxLocals = nL) {own : String} (hown : s.vm.findClass own = some m.cls) {Ts : List Cond} (hts : ∀ w ∈ Ts, w.before args s = true) {idx n : Nat} (h1 : Cond.methodLink own idx Lib.objectInit ∈ Ts) (h2 : Cond.instanceMethod Lib.objectInit ∈ Ts) (h3 : Cond.code Lib.objectInit ⟨#[0xb1]⟩ 1 none ∈ Ts) (hfr : 1 ≤ R.frames) (hlo : 40 ≤ R.locals) (h4 : st.length ≤ 4)
    (hdg : decode cc pc = .ok (.invokespecial idx, 3)) (kk : ev_K p l e R s m args below meth c Q b hz D cl A L0 nL cells slots (pc + 3) ls st h) : ev_K p l e R s m args below meth c Q b hz D cl A L0 nL cells slots pc ls (.inr (.inr (n + 4)) :: st) h := by
  intro H locs lsC stC hSt
  obtain ⟨tys, ws, lv, t, hK, hP, hD, hS, hL0, hw, hst, hl, hlr⟩ := hSt
  obtain ⟨v, stC1, e1, ⟨a, ha, e2⟩, hst1⟩ := ev_all_cons hst
  subst e1 e2
  have hsum := ev_sum hst1
  have hrm : 2 * (F0 m pc lsC (.ref a :: stC1)).monitorRoom + (stC1.map fun v => v.category).sum ≤ 8 := lv_room (by omega)
  exact W.objInit hx hb hown (hts _ h1) (hts _ h2) (hts _ h3) rfl (by rw [hml]; exact hl.1) rfl hdg hfr (by omega) (kk H locs lsC _ ⟨tys, ws, lv, t, hK, hP, hD, hS, hL0, hw, hst1, hl, hlr⟩)
theorem ev_max_ok (hx : p.tables.exec = Jvm.exec) (hb : c.code = cc) (hml : c.maxLocals = nL) {own : String} (hown : s.vm.findClass own = some m.cls) {Ts : List Cond} (hts : ∀ w ∈ Ts, w.before args s = true) {idx : Nat} {x y : Int × Int} (h1 : Cond.methodLink own idx Lib.Math.max.name ∈ Ts) (h2 : Cond.static Lib.Math.max.name ∈ Ts) (h3 : Cond.initialized "java/lang/Math" ∈ Ts) (h5 : Cond.code Lib.Math.max.name Lib.Math.max.code 2 (some .int) ∈ Ts) (hfr : 1 ≤ R.frames) (hlo : 40 ≤ R.locals) (h4 : st.length ≤ 4) (hcc : cells ≤ R.cells) (hss : slots ≤ R.slots)
    (hdg : decode cc pc = .ok (.invokestatic idx, 3)) (kk : ev_K p l e R s m args below meth c Q b hz D cl A L0 nL cells slots (pc + 3) ls (ev_mm true x y :: st) h) : ev_K p l e R s m args below meth c Q b hz D cl A L0 nL cells slots pc ls (.inl y :: .inl x :: st) h := by
  intro H locs lsC stC hSt
  obtain ⟨tys, ws, lv, t, hK, hP, hD, hS, hL0, hw, hst, hl, hlr⟩ := hSt
  obtain ⟨v, stC1, e1, ⟨j, e2, hj⟩, hst1⟩ := ev_all_cons hst
  subst e1 e2
  obtain ⟨v, stC2, e1, ⟨i, e2, hi⟩, hst2⟩ := ev_all_cons hst1
  subst e1 e2
  have hsum := ev_sum hst2
  refine va_mmax hx hb (by rw [hml]; exact hl.1.symm) hown (hts _ h1) (hts _ h2) (hts _ h3) (hts _ h5) hfr (by omega) hcc hss hdg (kk H locs lsC _ ⟨tys, ws, lv, t, hK, hP, hD, hS, hL0, hw, ⟨?_, hst2⟩, hl, hlr⟩)
  exact ev_bin_ok (f := fun a b => if true then (if a < b then b else a) else (if b < a then b else a)) hi hj
theorem ev_min_ok (hx : p.tables.exec = Jvm.exec) (hb : c.code = cc) (hml : c.maxLocals = nL) {own : String} (hown : s.vm.findClass own = some m.cls) {Ts : List Cond} (hts : ∀ w ∈ Ts, w.before args s = true) {idx : Nat} {x y : Int × Int} (h1 : Cond.methodLink own idx Lib.Math.min.name ∈ Ts) (h2 : Cond.static Lib.Math.min.name ∈ Ts) (h3 : Cond.initialized "java/lang/Math" ∈ Ts) (h5 : Cond.code Lib.Math.min.name Lib.Math.min.code 2 (some .int) ∈ Ts) (hfr : 1 ≤ R.frames) (hlo : 40 ≤ R.locals) (h4 : st.length ≤ 4) (hcc : cells ≤ R.cells) (hss : slots ≤ R.slots)
    (hdg : decode cc pc = .ok (.invokestatic idx, 3)) (kk : ev_K p l e R s m args below meth c Q b hz D cl A L0 nL cells slots (pc + 3) ls (ev_mm false x y :: st) h) : ev_K p l e R s m args below meth c Q b hz D cl A L0 nL cells slots pc ls (.inl y :: .inl x :: st) h := by
  intro H locs lsC stC hSt
  obtain ⟨tys, ws, lv, t, hK, hP, hD, hS, hL0, hw, hst, hl, hlr⟩ := hSt
  obtain ⟨v, stC1, e1, ⟨j, e2, hj⟩, hst1⟩ := ev_all_cons hst
  subst e1 e2
  obtain ⟨v, stC2, e1, ⟨i, e2, hi⟩, hst2⟩ := ev_all_cons hst1
  subst e1 e2
  have hsum := ev_sum hst2
  refine va_mmin hx hb (by rw [hml]; exact hl.1.symm) hown (hts _ h1) (hts _ h2) (hts _ h3) (hts _ h5) hfr (by omega) hcc hss hdg (kk H locs lsC _ ⟨tys, ws, lv, t, hK, hP, hD, hS, hL0, hw, ⟨?_, hst2⟩, hl, hlr⟩)
  exact ev_bin_ok (f := fun a b => if false then (if a < b then b else a) else (if b < a then b else a)) hi hj
theorem ev_copy_ok (hx : p.tables.exec = Jvm.exec) (hb : c.code = cc) (hml : c.maxLocals = nL) {own : String} (hown : s.vm.findClass own = some m.cls) {Ts : List Cond} (hts : ∀ w ∈ Ts, w.before args s = true) {idx n0 n1 w0 w1 jn jd js : Nat} {rn rd rs : Int × Int} {f g : List (Nat × (Int × Int))} (h1 : Cond.methodLink own idx arraycopyName ∈ Ts) (h2 : Cond.native arraycopyName ∈ Ts) (h3 : Cond.static arraycopyName ∈ Ts) (h5 : Cond.initialized "java/lang/System" ∈ Ts) (hfr : 1 ≤ R.frames) (hlo : 40 ≤ R.locals) (h4 : st.length ≤ 4)
    (g0 : h[n0]? = some (.inl (0, w0, f))) (g1 : h[n1]? = some (.inl (0, w1, g))) (in1 : ev_ix rn 1000000 = some jn) (in2 : ev_ix rd 1000000 = some jd) (in3 : ev_ix rs 1000000 = some js) (hle0 : js + jn ≤ w0) (hle1 : jd + jn ≤ w1)
    (hdg : decode cc pc = .ok (.invokestatic idx, 3)) (kk : ev_K p l e R s m args below meth c Q b hz D cl A L0 nL cells slots (pc + 3) ls st (h.set n1 (.inl (0, w1, ev_cp f g js jd jn)))) : ev_K p l e R s m args below meth c Q b hz D cl A L0 nL cells slots pc ls (.inl rn :: .inl rd :: .inr (.inr (n1 + 4)) :: .inl rs :: .inr (.inr (n0 + 4)) :: st) h := by
  intro H locs lsC stC hSt
  obtain ⟨tys, ws, lv, t, hK, hP, hD, hS, hL0, hw, hst, hl, hlr⟩ := hSt
  obtain ⟨v, stC1, e1, ⟨in', e2, hin⟩, hst1⟩ := ev_all_cons hst
  subst e1 e2
  obtain ⟨v, stC2, e1, ⟨id', e2, hid⟩, hst2⟩ := ev_all_cons hst1
  subst e1 e2
  obtain ⟨v, stC3, e1, ⟨a1, ha1, e2⟩, hst3⟩ := ev_all_cons hst2
  subst e1 e2
  obtain ⟨v, stC4, e1, ⟨is', e2, his⟩, hst4⟩ := ev_all_cons hst3
  subst e1 e2
  obtain ⟨v, stC5, e1, ⟨a0, ha0, e2⟩, hst5⟩ := ev_all_cons hst4
  subst e1 e2
  have hsum := ev_sum hst5
  obtain ⟨e0, k0, k1⟩ := ev_wat hw g0 rfl ha0
  obtain ⟨c0, F, e1, m0, i0⟩ := (ev_crel_i (by decide)).mp k1
  subst e1
  obtain ⟨e0', k0', k1'⟩ := ev_wat hw g1 rfl ha1
  obtain ⟨c1, G, e1, m1, i1⟩ := (ev_crel_i (by decide)).mp k1'
  subst e1
  obtain ⟨t0, ht0⟩ := ev_mem_at m0
  obtain ⟨t1, ht1⟩ := ev_mem_at m1
  obtain ⟨-, -, q1, -, q2⟩ := ev_ix_ok in1 hin
  obtain ⟨-, -, q3, -, q4⟩ := ev_ix_ok in2 hid
  obtain ⟨-, -, q5, -, q6⟩ := ev_ix_ok in3 his
  refine va_copyi hx hb (by rw [hml]; exact hl.1.symm) hown (hts _ h1) (hts _ h2) (hts _ h3) (hts _ h5) hK hP hD hS n0 n1 t0 t1 k0 k0' ht0 ht1 rfl q6 q4 q2 (by rw [q5, q1]; exact hle0) (by rw [q3, q1]; exact hle1) (fun _ _ => rfl) hfr ?_ hdg (fun H1 locs1 hP1 hD1 hS1 => ?_)
  · have : nativeFrameWords "java/lang/System" "arraycopy" 5 ≤ 7 := by decide +kernel
    omega
  rw [q1, q3, q5] at hP1 hD1
  refine kk H1 locs1 lsC stC5 ⟨tys, _, lv, t, hK, hP1, hD1, hS1, ?_, ?_, ?_, hl, ?_⟩
  · rw [ev_mapset k0']; exact hL0
  · rw [ev_mapset k0']
    refine ev_all_set (R := fun c (q : Nat × va_E) => ev_crel b hz tys (ws.map Prod.fst) c q.2) ?_ hw n1
    refine (ev_crel_i (t := 0) (by decide)).mpr ⟨c1, _, rfl, m1, fun k => ?_⟩
    rw [ev_cp_get]
    unfold va_cpy
    by_cases hk : jd ≤ k ∧ k < jd + jn
    · rw [if_pos hk, if_pos hk]; exact i0 _
    · rw [if_neg hk, if_neg hk]; exact i1 _
  · rw [ev_mapset k0']; exact hst5
  · rw [ev_mapset k0']; exact hlr
end EVL
end
section
/-! ===== what lies outside the world and stays ===== -/
section EVX
/-- a word on the tables that a warmer table keeps -/
def ev_wm (w : Cond) : Prop := w.onTables = true ∧ ∀ s U : State, s.WarmedH U.vm → va_Nw w s → va_Nw w U
def ev_X (b hz N : Nat) (xs : Nat → Int32) (NW : List Cond) (A : Nat → Prop) (s : State) (H : Heap) : Prop :=
  va_Z "TypeLevels$Heard" "HIGHEST" "[I" (.ref hz) A s H ∧ va_T .int hz 5 ev_hv A s H ∧ va_X b N xs s H ∧ b < H.size ∧ ¬ A b ∧ (∀ w ∈ NW, va_Nw w s) ∧
  vx_Zq Jvm.Bundle.tN "UNASSIGNED_STACK" Jvm.Bundle.steD A s H ∧ vx_Zq Jvm.Bundle.tN "SUPPRESSED_SENTINEL" Jvm.Bundle.listD A s H ∧
  (∃ sa, vk_R "TypeLevels" 158 "no such definition, or nothing such of it" sa s) ∧ ∃ sa, vk_R "TypeLevels" 315 "the row has no such number" sa s
theorem ev_Nw_warm {w : Cond} (h1 : w.onTables = true) (h2 : w.warmB w.codeNames = true) {s U : State} (hW : s.WarmedH U.vm) (h : va_Nw w s) : va_Nw w U :=
  va_tabs h1 (rfl : (s.setVm U.vm).vm = U.vm) (Cond.pre_warmed (args := #[]) hW h2 h)
theorem ev_X_go {b hz N : Nat} {xs : Nat → Int32} {NW : List Cond} {A B : Nat → Prop} {s U : State} {H : Heap} {locs : List Loc} (hX : ev_X b hz N xs NW A s s.heap) (hNW : ∀ w ∈ NW, ev_wm w) (hS : va_S A s.heap H locs) (hAB : ∀ q, B q → A q) (hU : U.heap = H) (hW : s.WarmedH U.vm) : ev_X b hz N xs NW B U U.heap := by
  obtain ⟨h1, h2, h3, h4, h5, h6, h7, h8, ⟨sa, h9⟩, ⟨sb, h10⟩⟩ := hX
  rw [hU]
  exact ⟨va_Z.moved hW.alike (va_Z.narrow (va_Z.kept h1 hS.2.1) hAB), va_T.moved hW.alike (va_T.narrow (va_T.kept h2 hS.2.1) hAB), va_X.moved hW.alike (va_X.kept h3 (hS.2.1 b h4 h5)), Nat.lt_of_lt_of_le h4 hS.1, fun q => h5 (hAB b q),
    fun w hw => (hNW w hw).2 s U hW (h6 w hw), vx_Zq.moved hW.alike (vx_Zq.narrow (vx_Zq.kept h7 hS.2.1) hAB), vx_Zq.moved hW.alike (vx_Zq.narrow (vx_Zq.kept h8 hS.2.1) hAB), ⟨sa, vk_R.warm hW h9⟩, ⟨sb, vk_R.warm hW h10⟩⟩
theorem ev_X_calling {b hz N : Nat} {xs : Nat → Int32} {NW : List Cond} {A : Nat → Prop} {U : State} {g : JFrame} {mk : MethodId} {a : Array Value} (hX : ev_X b hz N xs NW A U U.heap) (hNW : ∀ w ∈ NW, ev_wm w) : ev_X b hz N xs NW A (U.calling g mk a) (U.calling g mk a).heap := by
  obtain ⟨h1, h2, h3, h4, h5, h6, h7, h8, ⟨sa, h9⟩, ⟨sb, h10⟩⟩ := hX
  have hr : U.vm.Alike (U.calling g mk a).vm := Vm.Alike.refl U.vm
  exact ⟨va_Z.moved hr h1, va_T.moved hr h2, va_X.moved hr h3, h4, h5, fun w hw => va_Nw.same (u := U) (U := U.calling g mk a) (hNW w hw).1 rfl (h6 w hw), vx_Zq.moved hr h7, vx_Zq.moved hr h8, ⟨sa, vk_R.same (u := U) (U := U.calling g mk a) rfl h9⟩, ⟨sb, vk_R.same (u := U) (U := U.calling g mk a) rfl h10⟩⟩
end EVX
end
section
/-! ===== a step of any kind ===== -/
section EVU
variable {p : Program} {l : Launch} {e : Env} {R : Room} {s : State} {m : MethodId} {args : Array Value} {below : List Frame} {meth : Method} {c : Code} {Q : State → Prop} {b hz : Nat} {D : va_G} {cl : List vw_C} {A : Nat → Prop} {L0 : List Nat} {nL : Nat} {cells slots : Nat} {cc : ByteArray} {pc : Nat} {ls : ev_L} {st : List ev_V} {h : ev_H}
def ev_cx (p : Program) (R : Room) (s : State) (m : MethodId) (args : Array Value) (meth : Method) (c : Code) (cc : ByteArray) (own nm : String) (nL d : Nat) (Ts : List Cond) : Prop :=
  p.tables.exec = Jvm.exec ∧ c.code = cc ∧ c.maxLocals = nL ∧ s.vm.findClass own = some m.cls ∧ (∀ w ∈ Ts, w.before args s = true) ∧ meth.name = nm ∧ d ≤ R.frames ∧ 40 * d ≤ R.locals
/-- what the tables must say for an instruction -/
def ev_lk (cl : List vw_C) (df : List (List ev_V)) (Ts : List Cond) (own nm : String) (nL : Nat) (q : ev_I) : Prop := match q.2.1.1 with
  | .iconst n => (Int32.ofInt n).toInt = q.2.2.2.2.2
  | .bipush n => ((Int8.ofInt n).toInt32).toInt = q.2.2.2.2.2
  | .sipush n => ((Int16.ofInt n).toInt32).toInt = q.2.2.2.2.2
  | .ldc k => ∃ v : Int32, Cond.constant own k v ∈ Ts ∧ v.toInt = q.2.2.2.2.2
  | .ldc_w k => ∃ v : Int32, Cond.constant own k v ∈ Ts ∧ v.toInt = q.2.2.2.2.2
  | .istore_n k => k.val < nL
  | .istore k => k < nL
  | .astore_n k => k.val < nL
  | .lstore k => k + 1 < nL
  | .iinc k n => k < nL ∧ (Int32.ofInt n).toInt = n
  | .getfield idx => ∃ (C : String) (T : u_T) (N : Nat), cl[q.2.2.2.1]? = some (C, T, N) ∧ (∀ w ∈ u_ws C T N, w ∈ Ts) ∧ q.2.2.2.2.1 < N ∧ Cond.fieldLink own idx (T q.2.2.2.2.1).1 (T q.2.2.2.2.1).2.1 (T q.2.2.2.2.1).2.2.1 ∈ Ts
  | .putfield idx => ∃ (C : String) (T : u_T) (N : Nat) (ty0 : Nat → FieldType), cl[q.2.2.2.1]? = some (C, T, N) ∧ (∀ w ∈ u_ws C T N, w ∈ Ts) ∧ (∀ k, k < N → parseFieldDescriptor (T k).2.2.1 = some (ty0 k)) ∧ (∀ a, a < N → ∀ b, b < N → a ≠ b → (T a).2.1 ≠ (T b).2.1) ∧ q.2.2.2.2.1 < N ∧ Cond.fieldLink own idx (T q.2.2.2.2.1).1 (T q.2.2.2.2.1).2.1 (T q.2.2.2.2.1).2.2.1 ∈ Ts ∧
      ((T q.2.2.2.2.1).2.2.2 = true → nm = "<init>" ∧ (T q.2.2.2.2.1).1 = own) ∧ ev_tc q.2.2.2.2.2.toNat (ty0 q.2.2.2.2.1)
  | .new idx => q.2.2.1 = 0 → ∃ (C : String) (T : u_T) (N : Nat) (ty0 : Nat → FieldType) (fs : List ev_V) (vs : List Value), cl[q.2.2.2.1]? = some (C, T, N) ∧ (∀ w ∈ u_ws C T N, w ∈ Ts) ∧ (∀ k, k < N → parseFieldDescriptor (T k).2.2.1 = some (ty0 k)) ∧ Cond.classLink own idx C ∈ Ts ∧ Cond.instantiable C N ∈ Ts ∧ Cond.initialized C ∈ Ts ∧ df[q.2.2.2.1]? = some fs ∧ (∀ j, j < N → defaultValue (ty0 j) = vp_V vs j) ∧ (∀ b hz L, ev_all (ev_rel b hz L) fs vs) ∧ fs.length = N
  | .newarray at' => newarray.typeOf at' = ev_ty q.2.2.2.1 ∧ q.2.2.2.1 ≤ 3 ∧ Cond.arrayClass (ev_ty q.2.2.2.1) ∈ Ts
  | .getstatic idx => Cond.fieldLink own idx "TypeLevels$Heard" "HIGHEST" "[I" ∈ Ts
  | .if_icmp _ off => ∃ t : Nat, (q.1 : Int) + off = (t : Int)
  | .ifCond _ off => ∃ t : Nat, (q.1 : Int) + off = (t : Int)
  | .lookupswitch _ ps => (ps.toList.zip (ps.toList.drop 1)).all (fun (a, next) => a.1 < next.1) = true
  | _ => True
theorem ev_psh_inv {x : Option ev_V} {r : Nat × ev_L × List ev_V × Option ev_H × Nat × Nat} (h : ev_psh pc ls st x = some r) : ∃ v, x = some v ∧ r = (pc, ls, v :: st, none, 0, 0) := by
  cases x with
  | none => cases h
  | some v => cases h; exact ⟨v, rfl, rfl⟩
theorem ev_jmp_inv {off : Int} {r : Nat × ev_L × List ev_V × Option ev_H × Nat × Nat} (h : ev_jmp pc off ls st = some r) : ∃ t : Nat, (pc : Int) + off = (t : Int) ∧ r = (t, ls, st, none, 0, 0) := by
  unfold ev_jmp at h
  split at h
  · rename_i t ht
    cases h
    exact ⟨t, ht, rfl⟩
  · cases h
theorem ev_br_inv {off : Int} {cnd : Option Bool} {r : Nat × ev_L × List ev_V × Option ev_H × Nat × Nat} (h : ev_br pc off ls st cnd = some r) : (cnd = some true ∧ ∃ t : Nat, (pc : Int) + off = (t : Int) ∧ r = (t, ls, st, none, 0, 0)) ∨ (cnd = some false ∧ r = (pc + 3, ls, st, none, 0, 0)) := by
  unfold ev_br at h
  split at h
  · cases h
  · exact Or.inl ⟨rfl, ev_jmp_inv h⟩
  · cases h; exact Or.inr ⟨rfl, rfl⟩
theorem ev_not_t {x : Option Bool} (h : ev_not x = some true) : x = some false := by
  rcases x with _ | _ | _ <;> cases h <;> rfl
theorem ev_not_f {x : Option Bool} (h : ev_not x = some false) : x = some true := by
  rcases x with _ | _ | _ <;> cases h <;> rfl
theorem ev_bif {α : Type} {t : Bool} {x r : α} (h : (bif t then some x else none) = some r) : t = true ∧ x = r := by
  cases t with
  | true => cases h; exact ⟨rfl, rfl⟩
  | false => cases h
theorem ev_bifO {α : Type} {t : Bool} {x : Option α} {r : α} (h : (bif t then x else none) = some r) : t = true ∧ x = some r := by
  cases t with
  | true => exact ⟨rfl, h⟩
  | false => cases h

set_option maxHeartbeats 4000000 in
theorem ev_step_ok {own nm : String} {d : Nat} {Ts : List Cond} (cx : ev_cx p R s m args meth c cc own nm nL d Ts) {N : Nat} {xs : Nat → Int32} {NW : List Cond} (hX : ev_X b hz N xs NW A s s.heap) (hA : ∀ q, s.heap.size ≤ q → A q) {sc : List ev_V} (hscN : sc.length = N) (hN : N ≤ 1000000) (hsc : ∀ j x, sc[j]? = some x → ∀ L, ev_rel b hz L x (.int (xs j))) {df : List (List ev_V)} {q : ev_I} (h0 : q.2.2.1 = 0) (hlk : ev_lk cl df Ts own nm nL q) (hdg : decode cc q.1 = .ok q.2.1)
    {r : Nat × ev_L × List ev_V × Option ev_H × Nat × Nat} (h1 : ev_step df sc [5, 24, 9, 1, 9] q ls st h = some r) (hcs : cells + r.2.2.2.2.1 ≤ R.cells) (hss : slots + r.2.2.2.2.2 ≤ R.slots)
    (kk : ev_K p l e R s m args below meth c Q b hz D cl A L0 nL (cells + r.2.2.2.2.1) (slots + r.2.2.2.2.2) r.1 r.2.1 r.2.2.1 (r.2.2.2.1.getD h)) : ev_K p l e R s m args below meth c Q b hz D cl A L0 nL cells slots q.1 ls st h := by
  obtain ⟨hx, hb, hml, hown, hts, hnm, -, -⟩ := cx
  obtain ⟨hXZ, hXT, hXX, hXb, hXA, -⟩ := hX
  unfold ev_step at h1
  unfold ev_lk at hlk
  split at h1

  · rename_i heq
    rw [heq] at hdg hlk
    obtain ⟨v, g1, g2⟩ := ev_psh_inv h1
    subst g2
    exact ev_aload_n_ok hx hb g1 hdg kk
  · rename_i heq
    rw [heq] at hdg hlk
    obtain ⟨v, g1, g2⟩ := ev_psh_inv h1
    subst g2
    exact ev_aload_ok hx hb g1 hdg kk
  · rename_i heq
    rw [heq] at hdg hlk
    obtain ⟨v, g1, g2⟩ := ev_psh_inv h1
    subst g2
    exact ev_iload_n_ok hx hb g1 hdg kk
  · rename_i heq
    rw [heq] at hdg hlk
    obtain ⟨v, g1, g2⟩ := ev_psh_inv h1
    subst g2
    exact ev_iload_ok hx hb g1 hdg kk
  · rename_i heq
    rw [heq] at hdg hlk
    obtain ⟨v, g1, g2⟩ := ev_psh_inv h1
    subst g2
    exact ev_lload_n_ok hx hb g1 hdg kk
  · rename_i heq
    rw [heq] at hdg hlk
    cases h1
    exact ev_iconst_ok hx hb hlk hdg kk
  · rename_i heq
    rw [heq] at hdg hlk
    cases h1
    exact ev_bipush_ok hx hb hlk hdg kk
  · rename_i heq
    rw [heq] at hdg hlk
    cases h1
    exact ev_sipush_ok hx hb hlk hdg kk
  · rename_i heq
    rw [heq] at hdg hlk
    cases h1
    obtain ⟨v, g1, g2⟩ := hlk
    exact ev_ldc_ok hx hb hown g2 (hts _ g1) hdg kk
  · rename_i heq
    rw [heq] at hdg hlk
    cases h1
    obtain ⟨v, g1, g2⟩ := hlk
    exact ev_ldc_w_ok hx hb hown g2 (hts _ g1) hdg kk
  · rename_i heq
    rw [heq] at hdg hlk
    unfold ev_sI at h1
    split at h1
    · rw [ev_fL_eq] at h1
      cases h1
      exact ev_istore_n_ok hx hb hlk hdg kk
    · cases h1
  · rename_i heq
    rw [heq] at hdg hlk
    unfold ev_sI at h1
    split at h1
    · rw [ev_fL_eq] at h1
      cases h1
      exact ev_istore_ok hx hb hlk hdg kk
    · cases h1
  · rename_i heq
    rw [heq] at hdg hlk
    unfold ev_sR at h1
    split at h1
    · rw [ev_fL_eq] at h1
      cases h1
      exact ev_astore_n_ok hx hb hlk hdg kk
    · cases h1
  · rename_i heq
    rw [heq] at hdg hlk
    unfold ev_sJ at h1
    split at h1
    · rw [ev_fL_eq] at h1
      cases h1
      exact ev_lstore_ok hx hb hlk hdg kk
    · cases h1
  · rename_i heq
    rw [heq] at hdg hlk
    unfold ev_inc at h1
    split at h1
    · rename_i x g1
      rw [ev_fV_eq, ev_fL_eq] at h1
      cases h1
      exact ev_iinc_ok hx hb g1 hlk.1 hlk.2 hdg kk
    · cases h1
  · rename_i heq
    rw [heq] at hdg hlk
    obtain ⟨C, T, N', g1, g2, g3, g4⟩ := hlk
    unfold ev_getf at h1
    split at h1
    · split at h1
      · rename_i o g5
        obtain ⟨g6, h1⟩ := ev_bifO h1
        obtain ⟨v, g7, g8⟩ := ev_psh_inv h1
        subst g8
        rw [ev_at_eq] at g5 g7
        have e6 := Nat.eq_of_beq_eq_true g6
        exact ev_getf_ok hx hb hown hts g1 g2 g3 g4 (fs := o.2) (by rw [g5, ← e6]) g7 hdg kk
      · cases h1
    · cases h1
  · rename_i heq
    rw [heq] at hdg hlk
    obtain ⟨C, T, N', ty0, g1, g2, t1, t2, g3, g4, t3, t4⟩ := hlk
    unfold ev_putf at h1
    split at h1
    · split at h1
      · rename_i o g5
        obtain ⟨g6, h1⟩ := ev_bifO h1
        rw [ev_fL_eq, ev_fL_eq] at h1
        cases h1
        rw [ev_at_eq] at g5
        simp only [Bool.and_eq_true] at g6
        have e6 := Nat.eq_of_beq_eq_true g6.1.1
        refine ev_putf_ok hx hb hown hts g1 g2 ty0 t1 t2 g3 g4 (fun f => by rw [hnm]; exact t3 f) t4 (fs := o.2) (by rw [g5, ← e6]) g6.1.2 (Nat.le_of_ble_eq_true g6.2) hdg ?_
        rw [e6] at kk
        exact kk
      · cases h1
    · cases h1
  · rename_i heq
    rw [heq] at hdg hlk
    obtain ⟨C, T, N', ty0, fs, vs, g1, g2, t1, t2, t3, t4, t5, t6, t7, t8⟩ := hlk h0
    unfold ev_new at h1
    split at h1
    · rename_i fs' g5
      rw [ev_fN_eq, ev_fN_eq, ev_fL_eq] at h1
      cases h1
      rw [ev_at_eq, t5] at g5
      cases g5
      exact ev_new_ok hx hb hA hown hts g1 g2 ty0 t1 t2 t3 t4 t6 t7 t8 hcs hss hdg kk
    · cases h1
  · rename_i heq
    rw [heq] at hdg hlk
    obtain ⟨t1, t2, t3⟩ := hlk
    unfold ev_newa at h1
    split at h1
    · split at h1
      · rename_i w' g5
        rw [ev_fN_eq, ev_fL_eq] at h1
        cases h1
        exact ev_newa_ok hx hb hA hts t1 t2 t3 g5 hcs hss hdg kk
      · cases h1
    · cases h1
  · rename_i heq
    rw [heq] at hdg hlk
    unfold ev_len at h1
    split at h1
    · rw [ev_fN_eq] at h1
      cases h1
      rw [hscN] at kk
      exact ev_slen_ok hx hb hXX hXb hXA hN hdg kk
    · split at h1
      · rename_i o g5
        obtain ⟨g6, h1⟩ := ev_bif h1
        subst h1
        rw [ev_at_eq] at g5
        exact ev_len_ok hx hb g5 (Nat.le_of_ble_eq_true g6) hdg kk
      · cases h1
    · cases h1
  · rename_i heq
    rw [heq] at hdg hlk
    unfold ev_ald at h1
    split at h1
    · split at h1
      · rename_i j g5
        obtain ⟨v, g7, g8⟩ := ev_psh_inv h1
        subst g8
        rw [ev_at_eq] at g7
        rw [hscN] at g5
        exact ev_sld_ok hx hb hXX hXb hXA hN g5 (hsc j v g7) hdg kk
      · cases h1
    · split at h1
      · rename_i j g5
        split at h1
        · rename_i v g6
          cases h1
          rw [ev_at_eq] at g6
          exact ev_hld_ok hx hb hXT g5 g6 hdg kk
        · cases h1
      · cases h1
    · split at h1
      · rename_i w' mm g5
        split at h1
        · rename_i j g6
          cases h1
          rw [ev_at_eq] at g5
          exact ev_ald_ok hx hb g5 g6 hdg kk
        · cases h1
      · cases h1
    · cases h1
  · rename_i heq
    rw [heq] at hdg hlk
    unfold ev_ast at h1
    split at h1
    · split at h1
      · rename_i w' mm g5
        split at h1
        · rename_i j g6
          rw [ev_put_out] at h1
          rw [ev_fL_eq] at h1
          cases h1
          rw [ev_at_eq] at g5
          exact ev_ast_ok hx hb g5 g6 hdg kk
        · cases h1
      · cases h1
    · cases h1
  · rename_i heq
    rw [heq] at hdg hlk
    unfold ev_bst at h1
    split at h1
    · split at h1
      · rename_i w' mm g5
        split at h1
        · rename_i j g6
          rw [ev_put_out] at h1
          rw [ev_fL_eq] at h1
          cases h1
          rw [ev_at_eq] at g5
          exact ev_bst_ok hx hb g5 g6 hdg kk
        · cases h1
      · cases h1
    · cases h1
  · rename_i heq
    rw [heq] at hdg hlk
    unfold ev_lst at h1
    split at h1
    · split at h1
      · rename_i w' mm g5
        split at h1
        · rename_i j g6
          cases h1
          rw [ev_at_eq] at g5
          exact ev_lst_ok hx hb g5 g6 hdg kk
        · cases h1
      · cases h1
    · cases h1
  · rename_i heq
    rw [heq] at hdg hlk
    cases h1
    exact ev_gets_ok hx hb hown hts hlk hXZ hdg kk
  · rename_i heq
    rw [heq] at hdg hlk
    unfold ev_ii at h1
    split at h1
    · cases h1
      exact ev_iadd_ok hx hb hdg kk
    · cases h1
  · rename_i heq
    rw [heq] at hdg hlk
    unfold ev_ii at h1
    split at h1
    · cases h1
      exact ev_isub_ok hx hb hdg kk
    · cases h1
  · rename_i heq
    rw [heq] at hdg hlk
    unfold ev_ii at h1
    split at h1
    · cases h1
      exact ev_imul_ok hx hb hdg kk
    · cases h1
  · rename_i heq
    rw [heq] at hdg hlk
    unfold ev_ii at h1
    split at h1
    · cases h1
      exact ev_ishr_ok hx hb hdg kk
    · cases h1
  · rename_i heq
    rw [heq] at hdg hlk
    unfold ev_ii at h1
    split at h1
    · cases h1
      exact ev_iushr_ok hx hb hdg kk
    · cases h1
  · rename_i heq
    rw [heq] at hdg hlk
    unfold ev_and at h1
    split at h1
    · cases h1
      exact ev_iand_ok hx hb hdg kk
    · obtain ⟨g6, h1⟩ := ev_bif h1
      subst h1
      simp only [Bool.and_eq_true, decide_eq_true_eq] at g6
      exact ev_iandm_ok hx hb g6.1.1 g6.1.2 (Nat.le_of_ble_eq_true g6.2) hdg kk
    · cases h1
  · rename_i heq
    rw [heq] at hdg hlk
    split at h1
    · cases h1
      exact ev_i2b_ok hx hb hdg kk
    · cases h1
  · rename_i heq
    rw [heq] at hdg hlk
    split at h1
    · cases h1
      exact ev_i2l_ok hx hb hdg kk
    · cases h1
  · rename_i heq
    rw [heq] at hdg hlk
    split at h1
    · obtain ⟨g6, h1⟩ := ev_bif h1
      subst h1
      exact ev_dup_ok hx hb g6 hdg kk
    · cases h1
  · rename_i heq
    rw [heq] at hdg hlk
    split at h1
    · obtain ⟨g6, h1⟩ := ev_bif h1
      subst h1
      simp only [Bool.and_eq_true] at g6
      exact ev_dup_x1_ok hx hb g6.1 g6.2 hdg kk
    · cases h1
  · rename_i heq
    rw [heq] at hdg hlk
    split at h1
    · obtain ⟨g6, h1⟩ := ev_bif h1
      subst h1
      exact ev_pop_ok hx hb g6 hdg kk
    · cases h1
  · rename_i heq
    rw [heq] at hdg hlk
    obtain ⟨t, g1, g2⟩ := ev_jmp_inv h1
    subst g2
    exact ev_goto_ok hx hb g1 hdg kk
  · rename_i heq
    rw [heq] at hdg hlk
    obtain ⟨t, ht⟩ := hlk
    unfold ev_cc at h1
    split at h1
    · rcases ev_br_inv h1 with ⟨g1, t', g2, g3⟩ | ⟨g1, g3⟩
      · subst g3
        exact ev_icmp_lt_t hx hb (g1) g2 hdg kk
      · subst g3
        exact ev_icmp_lt_f hx hb (g1) ht hdg kk
    · cases h1
  · rename_i heq
    rw [heq] at hdg hlk
    obtain ⟨t, ht⟩ := hlk
    unfold ev_cc at h1
    split at h1
    · rcases ev_br_inv h1 with ⟨g1, t', g2, g3⟩ | ⟨g1, g3⟩
      · subst g3
        exact ev_icmp_ge_f hx hb (ev_not_t g1) g2 hdg kk
      · subst g3
        exact ev_icmp_ge_t hx hb (ev_not_f g1) ht hdg kk
    · cases h1
  · rename_i heq
    rw [heq] at hdg hlk
    obtain ⟨t, ht⟩ := hlk
    unfold ev_cc at h1
    split at h1
    · rcases ev_br_inv h1 with ⟨g1, t', g2, g3⟩ | ⟨g1, g3⟩
      · subst g3
        exact ev_icmp_gt_t hx hb (g1) g2 hdg kk
      · subst g3
        exact ev_icmp_gt_f hx hb (g1) ht hdg kk
    · cases h1
  · rename_i heq
    rw [heq] at hdg hlk
    obtain ⟨t, ht⟩ := hlk
    unfold ev_cc at h1
    split at h1
    · rcases ev_br_inv h1 with ⟨g1, t', g2, g3⟩ | ⟨g1, g3⟩
      · subst g3
        exact ev_icmp_le_f hx hb (ev_not_t g1) g2 hdg kk
      · subst g3
        exact ev_icmp_le_t hx hb (ev_not_f g1) ht hdg kk
    · cases h1
  · rename_i heq
    rw [heq] at hdg hlk
    obtain ⟨t, ht⟩ := hlk
    unfold ev_cc at h1
    split at h1
    · rcases ev_br_inv h1 with ⟨g1, t', g2, g3⟩ | ⟨g1, g3⟩
      · subst g3
        exact ev_icmp_eq_t hx hb (g1) g2 hdg kk
      · subst g3
        exact ev_icmp_eq_f hx hb (g1) ht hdg kk
    · cases h1
  · rename_i heq
    rw [heq] at hdg hlk
    obtain ⟨t, ht⟩ := hlk
    unfold ev_cc at h1
    split at h1
    · rcases ev_br_inv h1 with ⟨g1, t', g2, g3⟩ | ⟨g1, g3⟩
      · subst g3
        exact ev_icmp_ne_f hx hb (ev_not_t g1) g2 hdg kk
      · subst g3
        exact ev_icmp_ne_t hx hb (ev_not_f g1) ht hdg kk
    · cases h1
  · rename_i heq
    rw [heq] at hdg hlk
    obtain ⟨t, ht⟩ := hlk
    unfold ev_c0 at h1
    split at h1
    · rcases ev_br_inv h1 with ⟨g1, t', g2, g3⟩ | ⟨g1, g3⟩
      · subst g3
        exact ev_if_lt_t hx hb (g1) g2 hdg kk
      · subst g3
        exact ev_if_lt_f hx hb (g1) ht hdg kk
    · cases h1
  · rename_i heq
    rw [heq] at hdg hlk
    obtain ⟨t, ht⟩ := hlk
    unfold ev_c0 at h1
    split at h1
    · rcases ev_br_inv h1 with ⟨g1, t', g2, g3⟩ | ⟨g1, g3⟩
      · subst g3
        exact ev_if_ge_f hx hb (ev_not_t g1) g2 hdg kk
      · subst g3
        exact ev_if_ge_t hx hb (ev_not_f g1) ht hdg kk
    · cases h1
  · rename_i heq
    rw [heq] at hdg hlk
    obtain ⟨t, ht⟩ := hlk
    unfold ev_c0 at h1
    split at h1
    · rcases ev_br_inv h1 with ⟨g1, t', g2, g3⟩ | ⟨g1, g3⟩
      · subst g3
        exact ev_if_gt_t hx hb (g1) g2 hdg kk
      · subst g3
        exact ev_if_gt_f hx hb (g1) ht hdg kk
    · cases h1
  · rename_i heq
    rw [heq] at hdg hlk
    obtain ⟨t, ht⟩ := hlk
    unfold ev_c0 at h1
    split at h1
    · rcases ev_br_inv h1 with ⟨g1, t', g2, g3⟩ | ⟨g1, g3⟩
      · subst g3
        exact ev_if_le_f hx hb (ev_not_t g1) g2 hdg kk
      · subst g3
        exact ev_if_le_t hx hb (ev_not_f g1) ht hdg kk
    · cases h1
  · rename_i heq
    rw [heq] at hdg hlk
    obtain ⟨t, ht⟩ := hlk
    unfold ev_c0 at h1
    split at h1
    · rcases ev_br_inv h1 with ⟨g1, t', g2, g3⟩ | ⟨g1, g3⟩
      · subst g3
        exact ev_if_eq_t hx hb (g1) g2 hdg kk
      · subst g3
        exact ev_if_eq_f hx hb (g1) ht hdg kk
    · cases h1
  · rename_i heq
    rw [heq] at hdg hlk
    obtain ⟨t, ht⟩ := hlk
    unfold ev_c0 at h1
    split at h1
    · rcases ev_br_inv h1 with ⟨g1, t', g2, g3⟩ | ⟨g1, g3⟩
      · subst g3
        exact ev_if_ne_f hx hb (ev_not_t g1) g2 hdg kk
      · subst g3
        exact ev_if_ne_t hx hb (ev_not_f g1) ht hdg kk
    · cases h1
  · rename_i heq
    rw [heq] at hdg hlk
    unfold ev_tsw at h1
    split at h1
    · split at h1
      · rename_i g0
        obtain ⟨t, g1, g2⟩ := ev_jmp_inv h1
        subst g2
        exact ev_tsw_out hx hb g0 g1 hdg kk
      · split at h1
        · rename_i g0
          split at h1
          · rename_i o' g3
            obtain ⟨t, g1, g2⟩ := ev_jmp_inv h1
            subst g2
            rw [ev_at_eq] at g3
            exact ev_tsw_in hx hb g0.2.1 g0.2.2 g0.1 g3 g1 hdg kk
          · cases h1
        · cases h1
    · cases h1
  · rename_i heq
    rw [heq] at hdg hlk
    unfold ev_lsw at h1
    split at h1
    · split at h1
      · rename_i g0
        obtain ⟨t, g1, g2⟩ := ev_jmp_inv h1
        subst g2
        exact ev_lsw_ok hx hb hlk g0 g1 hdg kk
      · cases h1
    · cases h1
  · cases h1
end EVU
end
section
/-! ===== a run of the interpreter, taken apart ===== -/
section EVW
abbrev ev_hl : List Int := [5, 24, 9, 1, 9]
def ev_callI (PR : List ev_M) (run : ev_F) (d : Nat) (T : ev_M) (stop : Nat) (q : ev_I) (pc : Nat) (ls : ev_L) (st : List ev_V) (h : ev_H) (k n : Nat) (r : ev_R) : Prop :=
  ∃ d', d = d' + 1 ∧ (st.take q.2.2.2.2.1).reverse.length = q.2.2.2.2.1 ∧ (st.drop q.2.2.2.2.1).length ≤ 4 ∧ (¬ q.2.2.1 = 5 → ev_rcv (q.2.2.2.2.2.toNat % 100) (st.take q.2.2.2.2.1).reverse h = true) ∧ ev_wd (st.take q.2.2.2.2.1).reverse ≤ q.2.2.2.2.2.toNat / 100 ∧
    ∃ (U : ev_M) (r' : ev_R), PR[q.2.2.2.1]? = some U ∧ run d' U 100000 0 (ev_args 0 (st.take q.2.2.2.2.1).reverse) [] h 0 0 = some r' ∧ r'.1 ≤ 3 ∧
      run (d' + 1) T stop (pc + 3) ls (r'.2.2.2.1 ++ st.drop q.2.2.2.2.1) r'.2.2.2.2.1 (k + r'.2.2.2.2.2.1) (n + r'.2.2.2.2.2.2) = some r
def ev_helpI (PR : List ev_M) (run : ev_F) (d : Nat) (T : ev_M) (stop : Nat) (q : ev_I) (pc : Nat) (ls : ev_L) (st : List ev_V) (h : ev_H) (k n : Nat) (r : ev_R) : Prop :=
  ∃ d', d = d' + 12 ∧ (st.take q.2.2.2.2.1).reverse.length = q.2.2.2.2.1 ∧ (st.drop q.2.2.2.2.1).length ≤ 4 ∧ ev_rcv 10 (st.take q.2.2.2.2.1).reverse h = true ∧ ev_wd (st.take q.2.2.2.2.1).reverse ≤ q.2.2.2.2.2.toNat / 100 ∧ ev_wd (st.take q.2.2.2.2.1).reverse.dropLast ≤ q.2.2.2.2.2.toNat % 100 ∧
    ∃ (U : ev_M) (r' : ev_R), PR[q.2.2.2.1]? = some U ∧ run 1 U 100000 0 (ev_args 0 (st.take q.2.2.2.2.1).reverse.dropLast) [] h 0 0 = some r' ∧ r'.1 = 5 ∧ r'.2.2.2.2.2.1 = 0 ∧ r'.2.2.2.2.2.2 = 0 ∧
      run (d' + 12) T stop (pc + 3) ls (.inl (1, 1) :: st.drop q.2.2.2.2.1) r'.2.2.2.2.1 (k + 40) (n + 400) = some r
def ev_goI (run : ev_F) (d : Nat) (T : ev_M) (stop : Nat) (h : ev_H) (k n : Nat) (o : ev_O) (r : ev_R) : Prop :=
  ∃ x, o = some x ∧ run d T stop x.1 x.2.1 x.2.2.1 (x.2.2.2.1.getD h) (k + x.2.2.2.2.1) (n + x.2.2.2.2.2) = some r
theorem ev_go_inv {run : ev_F} {d : Nat} {T : ev_M} {stop : Nat} {h : ev_H} {k n : Nat} {o : ev_O} {r : ev_R} (e : ev_go run d T stop h k n o = some r) : ev_goI run d T stop h k n o r := by
  unfold ev_go at e
  split at e
  · cases e
  · rename_i x
    rw [ev_fN_eq, ev_fS_eq, ev_fN_eq, ev_fN_eq] at e
    split at e
    · rename_i hx
      exact ⟨x, rfl, by rw [hx]; exact e⟩
    · rename_i h' hx
      exact ⟨x, rfl, by rw [hx]; exact e⟩
theorem ev_call_inv {PR : List ev_M} {run : ev_F} {d : Nat} {T : ev_M} {stop : Nat} {q : ev_I} {ls : ev_L} {st : List ev_V} {h : ev_H} {k n : Nat} {r : ev_R} (e : ev_call PR run d T stop q ls st h k n = some r) : ev_callI PR run d T stop q q.1 ls st h k n r := by
  unfold ev_call at e
  split at e
  · cases e
  · rename_i d'
    rw [ev_fL_eq, ev_fL_eq] at e
    obtain ⟨g, e⟩ := ev_bifO e
    simp only [Bool.and_eq_true, Bool.or_eq_true] at g
    split at e
    · cases e
    · rename_i U hU
      rw [ev_fL_eq] at e
      split at e
      · cases e
      · rename_i r' hr
        obtain ⟨g2, e⟩ := ev_bifO e
        rw [ev_fN_eq, ev_fN_eq, ev_fN_eq, ev_fS_eq] at e
        rw [ev_at_eq] at hU
        refine ⟨d', rfl, Nat.eq_of_beq_eq_true g.1.1.1, Nat.le_of_ble_eq_true g.1.1.2, fun h2 => ?_, Nat.le_of_ble_eq_true g.2, U, r', hU, hr, Nat.le_of_ble_eq_true g2, e⟩
        rcases g.1.2 with g3 | g3
        · exact absurd (Nat.eq_of_beq_eq_true g3) h2
        · exact g3
theorem ev_help_inv {PR : List ev_M} {run : ev_F} {d : Nat} {T : ev_M} {stop : Nat} {q : ev_I} {ls : ev_L} {st : List ev_V} {h : ev_H} {k n : Nat} {r : ev_R} (e : ev_help PR run d T stop q ls st h k n = some r) : ev_helpI PR run d T stop q q.1 ls st h k n r := by
  unfold ev_help at e
  split at e
  · rename_i d'
    rw [ev_fL_eq, ev_fL_eq] at e
    obtain ⟨g, e⟩ := ev_bifO e
    simp only [Bool.and_eq_true] at g
    split at e
    · cases e
    · rename_i U hU
      rw [ev_fL_eq] at e
      split at e
      · cases e
      · rename_i r' hr
        obtain ⟨g2, e⟩ := ev_bifO e
        rw [ev_fN_eq, ev_fN_eq, ev_fN_eq] at e
        rw [ev_at_eq] at hU
        simp only [Bool.and_eq_true] at g2
        exact ⟨d', rfl, Nat.eq_of_beq_eq_true g.1.1.1.1, Nat.le_of_ble_eq_true g.1.1.1.2, g.1.1.2, Nat.le_of_ble_eq_true g.1.2, Nat.le_of_ble_eq_true g.2, U, r', hU, hr, Nat.eq_of_beq_eq_true g2.1.1, Nat.eq_of_beq_eq_true g2.1.2, Nat.eq_of_beq_eq_true g2.2, e⟩
  · cases e
/-- the instruction that was fetched -/
theorem ev_fetch_inv {T : ev_M} {pc : Nat} {q : ev_I} (e : ev_fetch T pc = some q) : (∃ ck ∈ T, q ∈ ck) ∧ q.1 = pc := by
  unfold ev_fetch at e
  split at e
  · cases e
  · rename_i ck hc
    rw [ev_at_eq] at hc
    exact ⟨⟨ck, List.mem_of_getElem? hc, List.mem_of_find?_eq_some e⟩, Nat.eq_of_beq_eq_true (show Nat.beq q.1 pc = true from List.find?_some (p := fun q : ev_I => Nat.beq q.1 pc) e)⟩
theorem ev_run_inv {PR : List ev_M} {df : List (List ev_V)} {sc : List ev_V} {f d : Nat} {T : ev_M} {stop pc : Nat} {ls : ev_L} {st : List ev_V} {h : ev_H} {k n : Nat} {r : ev_R} (e : ev_run PR df sc ev_hl (f + 1) d T stop pc ls st h k n = some r) :
    r = (4, pc, ls, st, h, k, n) ∨ ∃ q : ev_I, (∃ ck ∈ T, q ∈ ck) ∧ q.1 = pc ∧
      ((q.2.2.1 = 0 ∧ ev_goI (ev_run PR df sc ev_hl f) d T stop h k n (ev_step df sc ev_hl q ls st h) r) ∨
       (q.2.2.1 = 1 ∧ ev_end q.2.2.2.1 st = true ∧ r = (q.2.2.2.1, pc, ls, st, h, k, n)) ∨
       (q.2.2.1 = 6 ∧ ev_helpI PR (ev_run PR df sc ev_hl f) d T stop q pc ls st h k n r) ∨
       ((q.2.2.1 = 2 ∨ q.2.2.1 = 3 ∨ q.2.2.1 = 4 ∨ q.2.2.1 = 5) ∧ ev_callI PR (ev_run PR df sc ev_hl f) d T stop q pc ls st h k n r) ∨
       (∃ w d', q.2.2.1 = w + 7 ∧ d = d' + 1 ∧ ev_goI (ev_run PR df sc ev_hl f) (d' + 1) T stop h k n (ev_lib (w + 7) q ls st h) r)) := by
  have e : ev_body PR df sc ev_hl (ev_run PR df sc ev_hl f) d T stop pc ls st h k n = some r := e
  unfold ev_body at e
  by_cases hp : Nat.beq pc stop = true
  · rw [hp] at e
    cases e
    exact Or.inl rfl
  · rw [ev_nt hp] at e
    right
    simp only [cond_false] at e
    split at e
    · cases e
    · rename_i q hq
      obtain ⟨g1, g2⟩ := ev_fetch_inv hq
      refine ⟨q, g1, g2, ?_⟩
      subst g2
      split at e
      · rename_i hk; exact Or.inl ⟨hk, ev_go_inv e⟩
      · rename_i hk
        obtain ⟨g3, e⟩ := ev_bif e
        exact Or.inr (Or.inl ⟨hk, g3, e.symm⟩)
      · rename_i hk; exact Or.inr (Or.inr (Or.inl ⟨hk, ev_help_inv e⟩))
      · rename_i hk; exact Or.inr (Or.inr (Or.inr (Or.inl ⟨Or.inl hk, ev_call_inv e⟩)))
      · rename_i hk; exact Or.inr (Or.inr (Or.inr (Or.inl ⟨Or.inr (Or.inl hk), ev_call_inv e⟩)))
      · rename_i hk; exact Or.inr (Or.inr (Or.inr (Or.inl ⟨Or.inr (Or.inr (Or.inl hk)), ev_call_inv e⟩)))
      · rename_i hk; exact Or.inr (Or.inr (Or.inr (Or.inl ⟨Or.inr (Or.inr (Or.inr hk)), ev_call_inv e⟩)))
      · rename_i w hk
        split at e
        · cases e
        · exact Or.inr (Or.inr (Or.inr (Or.inr ⟨w, _, hk, rfl, ev_go_inv e⟩)))
/-- cells and places only grow -/
theorem ev_run_mono {PR : List ev_M} {df : List (List ev_V)} {sc : List ev_V} : ∀ (f : Nat) {d : Nat} {T : ev_M} {stop pc : Nat} {ls : ev_L} {st : List ev_V} {h : ev_H} {k n : Nat} {r : ev_R}, ev_run PR df sc ev_hl f d T stop pc ls st h k n = some r → k ≤ r.2.2.2.2.2.1 ∧ n ≤ r.2.2.2.2.2.2
  | 0, _, _, _, _, _, _, _, _, _, _, e => by cases e
  | f + 1, d, T, stop, pc, ls, st, h, k, n, r, e => by
    rcases ev_run_inv e with g | ⟨q, -, -, ⟨-, x, -, g⟩ | ⟨-, -, g⟩ | ⟨-, d', -, -, -, -, -, -, U, r', -, -, -, -, -, g⟩ | ⟨-, d', -, -, -, -, -, U, r', -, -, -, g⟩ | ⟨w, d', -, -, x, -, g⟩⟩
    · subst g; exact ⟨Nat.le_refl _, Nat.le_refl _⟩
    · have := ev_run_mono f g; omega
    · subst g; exact ⟨Nat.le_refl _, Nat.le_refl _⟩
    · have := ev_run_mono f g; omega
    · have := ev_run_mono f g; omega
    · have := ev_run_mono f g; omega
/-- how a run ends -/
theorem ev_run_end {PR : List ev_M} {df : List (List ev_V)} {sc : List ev_V} : ∀ (f : Nat) {d : Nat} {T : ev_M} {stop pc : Nat} {ls : ev_L} {st : List ev_V} {h : ev_H} {k n : Nat} {r : ev_R}, ev_run PR df sc ev_hl f d T stop pc ls st h k n = some r → r.1 = 4 ∨ ∃ q : ev_I, (∃ ck ∈ T, q ∈ ck) ∧ q.1 = r.2.1 ∧ q.2.2.1 = 1 ∧ q.2.2.2.1 = r.1 ∧ ev_end r.1 r.2.2.2.1 = true
  | 0, _, _, _, _, _, _, _, _, _, _, e => by cases e
  | f + 1, d, T, stop, pc, ls, st, h, k, n, r, e => by
    rcases ev_run_inv e with g | ⟨q, g1, g2, ⟨-, x, -, g⟩ | ⟨g3, g4, g⟩ | ⟨-, d', -, -, -, -, -, -, U, r', -, -, -, -, -, g⟩ | ⟨-, d', -, -, -, -, -, U, r', -, -, -, g⟩ | ⟨w, d', -, -, x, -, g⟩⟩
    · subst g; exact Or.inl rfl
    · exact ev_run_end f g
    · subst g; exact Or.inr ⟨q, g1, g2, g3, rfl, g4⟩
    · exact ev_run_end f g
    · exact ev_run_end f g
    · exact ev_run_end f g
end EVW
end
section
/-! ===== a run is a contract ===== -/
section EVM
abbrev ev_MI : Type := MethodName × ByteArray × Nat × Option FieldType
def ev_nh (y : MethodName) : Prop := y.cls ≠ "java/lang/invoke/MethodHandle" ∧ y.cls ≠ "java/lang/invoke/VarHandle"
/-- what the tables say of a method that is called -/
def ev_cal (Ts : List Cond) (y : MethodName) (cc : ByteArray) (nL : Nat) (ret : Option FieldType) (n : Nat) : Prop :=
  Cond.code y cc nL ret ∈ Ts ∧ Cond.initialized y.cls ∈ Ts ∧ plainName y.cls = true ∧ ev_nh y ∧ nL ≤ 20 ∧ (parseMethodDescriptor y.desc).map (fun d => d.parameters.length) = some n
/-- what they must say for an instruction that is no plain step -/
def ev_lc (MT : List ev_MI) (cl : List vw_C) (Ts NW : List Cond) (own : String) (ret : Option FieldType) (q : ev_I) : Prop := match q.2.2.1 with
  | 0 => True
  | 1 => (q.2.2.2.1 = 0 → q.2.1 = (.return_, 1) ∧ ret = none) ∧ (q.2.2.2.1 = 1 → q.2.1 = (.ireturn, 1) ∧ ret = some .int) ∧ (q.2.2.2.1 = 2 → q.2.1 = (.ireturn, 1) ∧ ret = some .boolean) ∧ (q.2.2.2.1 = 3 → q.2.1 = (.lreturn, 1) ∧ ret = some .long)
  | 2 => ∃ (idx : Nat) (y : MethodName) (cc : ByteArray) (nL : Nat) (rt : Option FieldType) (n : Nat) (T : u_T) (N : Nat), q.2.1 = (.invokevirtual idx, 3) ∧ MT[q.2.2.2.1]? = some (y, cc, nL, rt) ∧ ev_cal Ts y cc nL rt n ∧ q.2.2.2.2.1 = n + 1 ∧ q.2.2.2.2.2.toNat / 100 = nL ∧ Cond.methodLink own idx y ∈ Ts ∧ Cond.instanceMethod y ∈ Ts ∧ Cond.selects y.cls y y ∈ Ts ∧ cl[q.2.2.2.2.2.toNat % 100]? = some (y.cls, T, N)
  | 3 => ∃ (idx : Nat) (y : MethodName) (cc : ByteArray) (nL : Nat) (n : Nat), q.2.1 = (.invokespecial idx, 3) ∧ MT[q.2.2.2.1]? = some (y, cc, nL, none) ∧ ev_cal Ts y cc nL none n ∧ q.2.2.2.2.1 = n + 1 ∧ q.2.2.2.2.2.toNat / 100 = nL ∧ Cond.methodLink own idx y ∈ Ts ∧ Cond.instanceMethod y ∈ Ts ∧ y.name = "<init>"
  | 4 => ∃ (idx : Nat) (y : MethodName) (cc : ByteArray) (nL : Nat) (n : Nat) (host : String), q.2.1 = (.invokespecial idx, 3) ∧ MT[q.2.2.2.1]? = some (y, cc, nL, none) ∧ ev_cal Ts y cc nL none n ∧ q.2.2.2.2.1 = n + 1 ∧ q.2.2.2.2.2.toNat / 100 = nL ∧ Cond.methodLinkNest own idx y host ∈ NW ∧ Cond.instanceMethod y ∈ Ts ∧ y.name = "<init>"
  | 5 => ∃ (idx : Nat) (y : MethodName) (cc : ByteArray) (nL : Nat) (rt : Option FieldType) (n : Nat), q.2.1 = (.invokestatic idx, 3) ∧ MT[q.2.2.2.1]? = some (y, cc, nL, rt) ∧ ev_cal Ts y cc nL rt n ∧ q.2.2.2.2.1 = n ∧ q.2.2.2.2.2.toNat / 100 = nL ∧ Cond.methodLink own idx y ∈ Ts ∧ Cond.static y ∈ Ts
  | 6 => True
  | 7 => ∃ idx : Nat, q.2.1 = (.invokespecial idx, 3) ∧ Cond.methodLink own idx Lib.objectInit ∈ Ts ∧ Cond.instanceMethod Lib.objectInit ∈ Ts ∧ Cond.code Lib.objectInit ⟨#[0xb1]⟩ 1 none ∈ Ts
  | 8 => ∃ idx : Nat, q.2.1 = (.invokestatic idx, 3) ∧ Cond.methodLink own idx Lib.Math.max.name ∈ Ts ∧ Cond.static Lib.Math.max.name ∈ Ts ∧ Cond.initialized "java/lang/Math" ∈ Ts ∧ Cond.code Lib.Math.max.name Lib.Math.max.code 2 (some .int) ∈ Ts
  | 9 => ∃ idx : Nat, q.2.1 = (.invokestatic idx, 3) ∧ Cond.methodLink own idx Lib.Math.min.name ∈ Ts ∧ Cond.static Lib.Math.min.name ∈ Ts ∧ Cond.initialized "java/lang/Math" ∈ Ts ∧ Cond.code Lib.Math.min.name Lib.Math.min.code 2 (some .int) ∈ Ts
  | _ => ∃ idx : Nat, q.2.1 = (.invokestatic idx, 3) ∧ Cond.methodLink own idx arraycopyName ∈ Ts ∧ Cond.native arraycopyName ∈ Ts ∧ Cond.static arraycopyName ∈ Ts ∧ Cond.initialized "java/lang/System" ∈ Ts
def ev_ok (PR : List ev_M) (MT : List ev_MI) (cl : List vw_C) (df : List (List ev_V)) (Ts NW : List Cond) : Prop :=
  (∀ w ∈ Ts, goodWord w = true) ∧ (∀ w ∈ NW, ev_wm w) ∧
  ∀ (i : Nat) (T : ev_M), PR[i]? = some T → ∃ (y : MethodName) (cc : ByteArray) (nL : Nat) (ret : Option FieldType), MT[i]? = some (y, cc, nL, ret) ∧
    ∀ ck ∈ T, ∀ q ∈ ck, decode cc q.1 = .ok q.2.1 ∧ ev_lk cl df Ts y.cls y.name nL q ∧ ev_lc MT cl Ts NW y.cls ret q
theorem ev_wd_ok {b hz : Nat} {L : List Nat} : ∀ {as : List ev_V} {vs : List Value}, ev_all (ev_rel b hz L) as vs → (lg_sl vs).length = ev_wd as
  | [], [], _ => rfl
  | x :: as, v :: vs, h => by
    have hc := ev_rel_cat h.1
    show (List.flatMap (fun v : Value => if v.category = 2 then [Slot.val v, .second] else [.val v]) (v :: vs)).length = _
    rw [List.flatMap_cons, List.length_append]
    have ih := ev_wd_ok h.2
    unfold lg_sl at ih
    rw [ih]
    show _ = (bif ev_lng x then 2 else 1) + ev_wd as
    rw [← hc]
    by_cases q : v.category = 2
    · rw [if_pos q, q]; rfl
    · rw [if_neg q, show (v.category == 2) = false from by simpa using q]; rfl
  | [], _ :: _, h => h.elim
  | _ :: _, [], h => h.elim
/-- a contract's start and end, by the interpreter's cells -/
def ev_Pc (b hz N : Nat) (xs : Nat → Int32) (NW : List Cond) (D : va_G) (cl : List vw_C) (tys : List (ClassId × FieldType)) (ws : va_W) (sz : Nat) (vs : List Value) : Array Value → State → Prop :=
  va_Pc vs (fun U => U.heap.size = sz ∧ ev_X b hz N xs NW (va_A ws sz) U U.heap ∧ va_K D cl tys U ∧ va_P D cl ws U.heap)
def ev_Wd (b hz : Nat) (D : va_G) (cl : List vw_C) (ws : va_W) (sz : Nat) (rs : List ev_V) (h : ev_H) (vo : Option Value) (t : State) : Prop :=
  ∃ (tys : List (ClassId × FieldType)) (ws' : va_W) (tl : List Nat), ws'.map Prod.fst = ws.map Prod.fst ++ tl ∧ ev_all (ev_rel b hz (ws'.map Prod.fst)) rs vo.toList ∧ ev_wrel b hz tys (ws'.map Prod.fst) h ws' ∧ va_K D cl tys t ∧ va_P D cl ws' t.heap ∧ va_D (va_A ws sz) ws'
def ev_Q (b hz : Nat) (D : va_G) (cl : List vw_C) (ws : va_W) (sz : Nat) (rs : List ev_V) (h : ev_H) : Array Value → State → Outcome → State → Prop := fun _ st oc t =>
  (∃ vo : Option Value, oc = .returned vo ∧ ev_Wd b hz D cl ws sz rs h vo t) ∧ va_F (va_A ws sz) st t
/-- what a run gives, for one number of steps -/
def ev_snd (l : Launch) (b hz N : Nat) (xs : Nat → Int32) (PR : List ev_M) (MT : List ev_MI) (D : va_G) (cl : List vw_C) (df : List (List ev_V)) (Ts NW : List Cond) (sc : List ev_V) (f : Nat) : Prop :=
  ∀ {d : Nat} {T : ev_M} {stop pc : Nat} {ls : ev_L} {st : List ev_V} {h : ev_H} {k n : Nat} {r : ev_R}, ev_run PR df sc ev_hl f d T stop pc ls st h k n = some r →
    ∀ {i : Nat} {y : MethodName} {cc : ByteArray} {nL : Nat} {ret : Option FieldType}, PR[i]? = some T → MT[i]? = some (y, cc, nL, ret) →
    ∀ {p : Program} {e : Env} {R : Room} {s : State} {m : MethodId} {args : Array Value} {below : List Frame} {meth : Method} {c : Code} {Q : State → Prop} {A : Nat → Prop} {L0 : List Nat},
      ev_cx p R s m args meth c cc y.cls y.name nL d Ts → ev_X b hz N xs NW A s s.heap → (∀ q, s.heap.size ≤ q → A q) → r.2.2.2.2.2.1 ≤ R.cells → r.2.2.2.2.2.2 ≤ R.slots →
      ev_K p l e R s m args below meth c Q b hz D cl A L0 nL r.2.2.2.2.2.1 r.2.2.2.2.2.2 r.2.1 r.2.2.1 r.2.2.2.1 r.2.2.2.2.1 →
      ev_K p l e R s m args below meth c Q b hz D cl A L0 nL k n pc ls st h
variable {l : Launch} {b hz N : Nat} {xs : Nat → Int32} {PR : List ev_M} {MT : List ev_MI} {D : va_G} {cl : List vw_C} {df : List (List ev_V)} {Ts NW : List Cond} {sc : List ev_V}
theorem ev_met {f d : Nat} (hok : ev_ok PR MT cl df Ts NW) (IH : ev_snd l b hz N xs PR MT D cl df Ts NW sc f) {j : Nat} {U : ev_M} (hj : PR[j]? = some U) {y : MethodName} {cc : ByteArray} {nL : Nat} {ret : Option FieldType} {nn : Nat} (hm : MT[j]? = some (y, cc, nL, ret)) (hcal : ev_cal Ts y cc nL ret nn)
    {as : List ev_V} {h : ev_H} {r : ev_R} (hr : ev_run PR df sc ev_hl f d U 100000 0 (ev_args 0 as) [] h 0 0 = some r) (hr3 : r.1 ≤ 3) (hwd : ev_wd as ≤ nL)
    {tys : List (ClassId × FieldType)} {ws : va_W} {sz : Nat} {vs : List Value} (hw : ev_wrel b hz tys (ws.map Prod.fst) h ws) (has : ev_all (ev_rel b hz (ws.map Prod.fst)) as vs) (hD : va_D (va_A ws sz) ws) :
    Met l y (Cond.code y cc nL ret :: Ts) { frames := d, cells := r.2.2.2.2.2.1, slots := r.2.2.2.2.2.2, locals := 40 * d } (ev_Pc b hz N xs NW D cl tys ws sz vs) (ev_Q b hz D cl ws sz r.2.2.2.1 r.2.2.2.2.1) r.2.2.2.2.2.1 r.2.2.2.2.2.2 (va_A ws sz) := by
  obtain ⟨hcode, hini, hpl, hnh, hnL, -⟩ := hcal
  refine Met.ofW (cc := cc) (maxL := nL) (ret := ret) hpl rfl ?_
  intro p e s m args below meth c s₁ B hml hv
  obtain ⟨rfl, hsz, hX, hK, hP⟩ := hv
  have hx := B.exec
  have hb := B.bytes
  have hret := B.returns
  have hts0 := atoms_spec (ws := Cond.code y cc nL ret :: Ts) B.pre
  have hts : ∀ w ∈ Ts, w.before vs.toArray s = true := fun w h => hts0 w (List.mem_cons_of_mem _ h)
  have hown : s.vm.findClass y.cls = some m.cls := findClass_of_methodNamed B.named
  have hlocks := B.notSynchronized
  have hnm : meth.name = y.name := (name_of_methodNamed B.named B.method).1
  subst hsz
  have hA : ∀ q : Nat, s.heap.size ≤ q → va_A ws s.heap.size q := fun q h => Or.inr h
  have hl := lv_entry vs (n := nL) (by rw [ev_wd_ok has]; exact hwd)
  rw [lg_entry_eq]
  refine IH hr hj hm ⟨hx, hb, hml, hown, hts, hnm, Nat.le_refl _, Nat.le_refl _⟩ hX hA (Nat.le_refl _) (Nat.le_refl _) ?_ s.heap [] _ [] (L0 := ws.map Prod.fst) ⟨tys, ws, lv_args 0 vs, [], hK, hP, hD, va_S.rf, by rw [List.append_nil], hw, trivial, hl, ev_args_ok has 0⟩
  intro H locs lsC stC hSt
  obtain ⟨tys', ws', lv', t, hK', hP', hD', hS', hL0', hw', hst', hl', hlr'⟩ := hSt
  rcases ev_run_end f hr with h4 | ⟨q, ⟨ck, hck, hq⟩, hq1, hq2, hq3, hend⟩
  · omega
  obtain ⟨y', cc', nL', ret', hm', hall⟩ := hok.2.2 j U hj
  rw [hm] at hm'
  cases hm'
  obtain ⟨hdg, -, hlc⟩ := hall ck hck q hq
  unfold ev_lc at hlc
  rw [hq2] at hlc
  simp only at hlc
  obtain ⟨l0, l1, l2, l3⟩ := hlc
  rw [hq1] at hdg
  rw [hq3] at l0 l1 l2 l3
  have fin : ∀ (vo : Option Value) (t : State), t.heap = H → s.WarmedH t.vm → ev_all (ev_rel b hz (ws'.map Prod.fst)) r.2.2.2.1 vo.toList → ev_Q b hz D cl ws s.heap.size r.2.2.2.1 r.2.2.2.2.1 vs.toArray s (.returned vo) t := fun vo t ht hW hvo =>
    ⟨⟨vo, rfl, tys', ws', _, hL0', hvo, hw', va_K.moved hW.alike hK', by rw [ht]; exact hP', hD'⟩, hS'.F ht⟩
  unfold ev_end at hend
  split at hend
  · rename_i e1 e2
    obtain ⟨i1, i2⟩ := l0 e1
    rw [e2] at hst'
    cases ev_all_none hst'
    rw [i1] at hdg
    exact W.vret hx hb (by rw [hret, i2]) (fun t ht hW => fin none t ht hW (by rw [e2]; trivial)) hS'.2.2 hdg hlocks
  · rename_i r1 e1 e2
    obtain ⟨i1, i2⟩ := l1 e1
    rw [e2] at hst'
    obtain ⟨v, stC1, g1, g2, g3⟩ := ev_all_cons hst'
    cases ev_all_none g3
    obtain ⟨i, g4, g5⟩ := g2
    subst g1 g4
    rw [i1] at hdg
    exact W.iret hx hb (by rw [hret, i2]) (fun t ht hW => fin (some (.int i)) t ht hW (by rw [e2]; exact ⟨⟨i, rfl, g5⟩, trivial⟩)) hS'.2.2 hdg hlocks
  · rename_i r1 e1 e2
    obtain ⟨i1, i2⟩ := l2 e1
    rw [e2] at hst'
    obtain ⟨v, stC1, g1, g2, g3⟩ := ev_all_cons hst'
    cases ev_all_none g3
    have hn := (ev_may_ok (t := 1) (x := .inl r1) (ty := .boolean) hend g2 rfl).1
    obtain ⟨i, g4, g5⟩ := g2
    subst g1 g4
    rw [i1] at hdg
    exact W.zret hx hb (by rw [hret, i2]) hn (fun t ht hW => fin (some (.int i)) t ht hW (by rw [e2]; exact ⟨⟨i, rfl, g5⟩, trivial⟩)) hS'.2.2 hdg hlocks
  · rename_i e1 e2
    obtain ⟨i1, i2⟩ := l3 e1
    rw [e2] at hst'
    obtain ⟨v, stC1, g1, g2, g3⟩ := ev_all_cons hst'
    cases ev_all_none g3
    obtain ⟨i, g4⟩ := g2
    subst g1 g4
    rw [i1] at hdg
    exact W.lret hx hb (by rw [hret, i2]) (fun t ht hW => fin (some (.long i)) t ht hW (by rw [e2]; exact ⟨⟨i, rfl⟩, trivial⟩)) hS'.2.2 hdg hlocks
  · rename_i e1 e2
    rw [e1] at hr3
    omega
  · cases hend
end EVM
end
section
/-! ===== runs are sound ===== -/
section EVN
theorem ev_callQ {p : Program} {l : Launch} {e : Env} {R : Room} {s : State} {m : MethodId} {args : Array Value} {below : List Frame} {meth : Method} {c : Code} {Q : State → Prop} {b hz : Nat} {D : va_G} {cl : List vw_C} {A : Nat → Prop} {cells slots : Nat} {H : Heap} {locs : List Loc} {mc ms pc : Nat} {lsC : Array Slot} {st0 rest : List Value} {a : Array Value} {free : Addr → Prop} {ws : va_W} {rs : List ev_V} {h' : ev_H}
    (hr : va_Run p l e R s m args below meth c H locs cells slots mc ms (F0 m pc lsC st0) rest (ev_Q b hz D cl ws H.size rs h' a) free) (hS : va_S A s.heap H locs) (hA1 : ∀ q, va_A ws H.size q → A q) (hf : ∀ q, free q → A q)
    (kk : ∀ (vo : Option Value) (t : State) (H1 : Heap) (locs1 : List Loc), t.heap = H1 → s.vm.Alike t.vm → ev_Wd b hz D cl ws H.size rs h' vo t → va_S A s.heap H1 locs1 → W p l e R s m args below meth c H1 locs1 (cells + mc) (slots + ms) Q (F0 m (pc + 3) lsC (vo.toList ++ rest))) : W p l e R s m args below meth c H locs cells slots Q (F0 m pc lsC st0) := by
  intro T hT X
  obtain ⟨v, st₀, t, T', L, h0, X', hL, e1, e2, ⟨⟨vo, hv, hwd⟩, hz1, hk⟩, st⟩ := hr T hT X
  cases hv
  rw [h0] at hz1 hk
  obtain ⟨t2, a1, b1⟩ := kk v t T'.heap (locs ++ L) e1.symm (by rw [← e2]; exact X'.warmed.alike) hwd
    ⟨Nat.le_trans hS.1 (by rw [e1]; exact hz1), fun q h1 h2 => by rw [e1, hk q (Nat.lt_of_lt_of_le h1 hS.1) (fun z => h2 (hA1 q z))]; exact hS.2.1 q h1 h2, fun q hq => by
      rcases List.mem_append.mp hq with h | h
      · exact hS.2.2 q h
      · exact hf _ (hL q h)⟩ T' rfl X'
  exact ⟨t2, st t2 a1, b1⟩
variable {l : Launch} {b hz N : Nat} {xs : Nat → Int32} {PR : List ev_M} {MT : List ev_MI} {D : va_G} {cl : List vw_C} {df : List (List ev_V)} {Ts NW : List Cond} {sc : List ev_V}
/-- what is wanted of kind 6 -/
def ev_hyp (l : Launch) (b hz N : Nat) (xs : Nat → Int32) (PR : List ev_M) (MT : List ev_MI) (D : va_G) (cl : List vw_C) (df : List (List ev_V)) (Ts NW : List Cond) (sc : List ev_V) (f : Nat) : Prop :=
  ∀ {d' : Nat} {T : ev_M} {q : ev_I} {ls : ev_L} {st : List ev_V} {h : ev_H} {k n i : Nat} {y : MethodName} {cc : ByteArray} {nL : Nat} {ret : Option FieldType} {U : ev_M} {r' : ev_R}, (∃ ck ∈ T, q ∈ ck) → PR[i]? = some T → MT[i]? = some (y, cc, nL, ret) → q.2.2.1 = 6 →
    (st.take q.2.2.2.2.1).reverse.length = q.2.2.2.2.1 → (st.drop q.2.2.2.2.1).length ≤ 4 → ev_rcv 10 (st.take q.2.2.2.2.1).reverse h = true → ev_wd (st.take q.2.2.2.2.1).reverse ≤ q.2.2.2.2.2.toNat / 100 → ev_wd (st.take q.2.2.2.2.1).reverse.dropLast ≤ q.2.2.2.2.2.toNat % 100 →
    PR[q.2.2.2.1]? = some U → ev_run PR df sc ev_hl f 1 U 100000 0 (ev_args 0 (st.take q.2.2.2.2.1).reverse.dropLast) [] h 0 0 = some r' → r'.1 = 5 → r'.2.2.2.2.2.1 = 0 → r'.2.2.2.2.2.2 = 0 →
    ∀ {p : Program} {e : Env} {R : Room} {s : State} {m : MethodId} {args : Array Value} {below : List Frame} {meth : Method} {c : Code} {Q : State → Prop} {A : Nat → Prop} {L0 : List Nat},
      ev_cx p R s m args meth c cc y.cls y.name nL (d' + 12) Ts → ev_X b hz N xs NW A s s.heap → (∀ q, s.heap.size ≤ q → A q) → k + 40 ≤ R.cells → n + 400 ≤ R.slots →
      ev_K p l e R s m args below meth c Q b hz D cl A L0 nL (k + 40) (n + 400) (q.1 + 3) ls (.inl (1, 1) :: st.drop q.2.2.2.2.1) r'.2.2.2.2.1 →
      ev_K p l e R s m args below meth c Q b hz D cl A L0 nL k n q.1 ls st h
theorem ev_goodin (hg : ∀ w ∈ Ts, goodWord w = true) {X : List Cond} (h : ∀ w ∈ X, w ∈ Ts) : GoodIn Ts X := fun w hw => ⟨h w hw, good_of_word (hg w (h w hw))⟩
theorem ev_blind (hNW : ∀ w ∈ NW, ev_wm w) {tys : List (ClassId × FieldType)} {ws : va_W} {sz : Nat} {vs : List Value} : FrameBlind (ev_Pc b hz N xs NW D cl tys ws sz vs) := fun a U g mk q => by
  obtain ⟨q0, q1, qX, qK, qP⟩ := q
  exact ⟨q0, q1, ev_X_calling qX hNW, va_K.moved (u := U) (U := U.calling g mk a) (Vm.Alike.refl U.vm) qK, qP⟩
/-- the rest of a call, whatever its kind -/
theorem ev_call_ok {f d : Nat} (hok : ev_ok PR MT cl df Ts NW) (IH : ev_snd l b hz N xs PR MT D cl df Ts NW sc f) {j : Nat} {U : ev_M} (hj : PR[j]? = some U) {y : MethodName} {cc : ByteArray} {nL : Nat} {ret : Option FieldType} {nn : Nat} (hm : MT[j]? = some (y, cc, nL, ret)) (hcal : ev_cal Ts y cc nL ret nn)
    {bN : Nat} {st : List ev_V} {h : ev_H} {r : ev_R} (hr : ev_run PR df sc ev_hl f d U 100000 0 (ev_args 0 (st.take bN).reverse) [] h 0 0 = some r) (hr3 : r.1 ≤ 3) (hwd : ev_wd (st.take bN).reverse ≤ nL)
    {p : Program} {e : Env} {R : Room} {s : State} {m : MethodId} {args : Array Value} {below : List Frame} {meth : Method} {c : Code} {Q : State → Prop} {A : Nat → Prop} {L0 : List Nat} {nL0 cells slots pc : Nat} {ls : ev_L} (hX : ev_X b hz N xs NW A s s.heap) (hA : ∀ q, s.heap.size ≤ q → A q)
    (kk : ev_K p l e R s m args below meth c Q b hz D cl A L0 nL0 (cells + r.2.2.2.2.2.1) (slots + r.2.2.2.2.2.2) (pc + 3) ls (r.2.2.2.1 ++ st.drop bN) r.2.2.2.2.1)
    (call : ∀ (H : Heap) (locs : List Loc) (lsC : Array Slot) (stC : List Value) (tys : List (ClassId × FieldType)) (ws : va_W), va_K D cl tys s → va_P D cl ws H → ev_wrel b hz tys (ws.map Prod.fst) h ws → ev_all (ev_rel b hz (ws.map Prod.fst)) st stC → lsC.size = nL0 →
      Met l y (Cond.code y cc nL ret :: Ts) { frames := d, cells := r.2.2.2.2.2.1, slots := r.2.2.2.2.2.2, locals := 40 * d } (ev_Pc b hz N xs NW D cl tys ws H.size (stC.take bN).reverse) (ev_Q b hz D cl ws H.size r.2.2.2.1 r.2.2.2.2.1) r.2.2.2.2.2.1 r.2.2.2.2.2.2 (va_A ws H.size) →
      (∀ U : State, U.heap = H → s.WarmedH U.vm → ev_Pc b hz N xs NW D cl tys ws H.size (stC.take bN).reverse (stC.take bN).reverse.toArray U) →
      va_Run p l e R s m args below meth c H locs cells slots r.2.2.2.2.2.1 r.2.2.2.2.2.2 (F0 m pc lsC stC) (stC.drop bN) (ev_Q b hz D cl ws H.size r.2.2.2.1 r.2.2.2.2.1 (stC.take bN).reverse.toArray) (va_A ws H.size)) :
    ev_K p l e R s m args below meth c Q b hz D cl A L0 nL0 cells slots pc ls st h := by
  intro H locs lsC stC hSt
  obtain ⟨tys, ws, lv, t, hK, hP, hD, hS, hL0, hw, hst, hl, hlr⟩ := hSt
  have hA1 : ∀ q, va_A ws H.size q → A q := fun q hq => by
    rcases hq with ⟨k, e', h1⟩ | h1
    · exact hD.2 k (q, e') h1
    · exact hA q (Nat.le_trans hS.1 h1)
  have hM := ev_met (tys := tys) (ws := ws) (sz := H.size) hok IH hj hm hcal hr hr3 hwd hw (ev_all_rev (ev_all_take hst bN)) hD.self
  have hpre : ∀ U : State, U.heap = H → s.WarmedH U.vm → ev_Pc b hz N xs NW D cl tys ws H.size (stC.take bN).reverse (stC.take bN).reverse.toArray U := fun U hU hW =>
    ⟨rfl, by rw [hU], ev_X_go hX hok.2.1 hS hA1 hU hW, va_K.moved hW.alike hK, by rw [hU]; exact hP⟩
  refine ev_callQ (call H locs lsC stC tys ws hK hP hw hst hl.1 hM hpre) hS hA1 hA1 (fun vo u H1 locs1 ht hvm hwd1 hS1 => ?_)
  obtain ⟨tys', ws', tl, g1, g2, g3, g4, g5, g6⟩ := hwd1
  refine kk H1 locs1 lsC _ ⟨tys', ws', lv, t ++ tl, va_K.moved hvm.symm g4, by rw [← ht]; exact g5, g6.weaken (fun _ q _ h => hA1 _ h), hS1, ?_, g3, ?_, hl, ?_⟩
  · rw [g1, hL0, List.append_assoc]
  · refine ev_all_app g2 ?_
    rw [g1]
    exact ev_all_mono (fun _ _ hq => ev_rel_mono hq) (ev_all_drop hst bN)
  · rw [g1]
    exact ev_all_mono (fun _ _ hq => ⟨hq.1, ev_rel_mono hq.2⟩) hlr
theorem ev_rcv_ok {ci bN : Nat} {st : List ev_V} {h : ev_H} (hrc : ev_rcv ci (st.take bN).reverse h = true) : ∃ (n : Nat) (as : List ev_V) (fs : List ev_V), (st.take bN).reverse = .inr (.inr (n + 4)) :: as ∧ h[n]? = some (.inr (ci, fs)) := by
  unfold ev_rcv at hrc
  split at hrc
  · rename_i n as heq
    split at hrc
    · rename_i o ho
      rw [ev_at_eq] at ho
      exact ⟨n, as, o.2, heq, by rw [ho, ← Nat.eq_of_beq_eq_true hrc]⟩
    · cases hrc
  · cases hrc
theorem ev_split {bN : Nat} {stC : List Value} {v : Value} {As : List Value} (h : (stC.take bN).reverse = v :: As) : stC = As.reverse ++ v :: stC.drop bN := by
  have h1 : stC.take bN = As.reverse ++ [v] := by
    rw [← List.reverse_reverse (stC.take bN), h, List.reverse_cons]
  conv => lhs; rw [← List.take_append_drop bN stC, h1]
  rw [List.append_assoc]; rfl
theorem ev_lib_ok {p : Program} {e : Env} {R : Room} {s : State} {m : MethodId} {args : Array Value} {below : List Frame} {meth : Method} {c : Code} {Q : State → Prop} {A : Nat → Prop} {L0 : List Nat} {nL cells slots d : Nat} {cc : ByteArray} {own nm : String} {ls : ev_L} {st : List ev_V} {h : ev_H} {ret : Option FieldType} (cx : ev_cx p R s m args meth c cc own nm nL (d + 1) Ts) {q : ev_I} {w : Nat} (hk : q.2.2.1 = w + 7) (hlc : ev_lc MT cl Ts NW own ret q) (hdg : decode cc q.1 = .ok q.2.1)
    {x : Nat × ev_L × List ev_V × Option ev_H × Nat × Nat} (h1 : ev_lib (w + 7) q ls st h = some x) (hcs : cells + x.2.2.2.2.1 ≤ R.cells) (hss : slots + x.2.2.2.2.2 ≤ R.slots) (kk : ev_K p l e R s m args below meth c Q b hz D cl A L0 nL (cells + x.2.2.2.2.1) (slots + x.2.2.2.2.2) x.1 x.2.1 x.2.2.1 (x.2.2.2.1.getD h)) : ev_K p l e R s m args below meth c Q b hz D cl A L0 nL cells slots q.1 ls st h := by
  obtain ⟨hx, hb, hml, hown, hts, hnm, hfr, hlo⟩ := cx
  unfold ev_lib at h1
  unfold ev_lc at hlc
  split at h1
  · rename_i e1
    rw [hk, e1] at hlc
    obtain ⟨idx, b1, b2, b3, b4⟩ := hlc
    rw [b1] at hdg
    split at h1
    · obtain ⟨g1, g2⟩ := ev_bif h1
      subst g2
      exact ev_oin_ok hx hb hml hown hts b2 b3 b4 (by omega) (by omega) (Nat.le_of_ble_eq_true g1) hdg kk
    · cases h1
  · rename_i e1
    rw [hk, e1] at hlc
    obtain ⟨idx, b1, b2, b3, b4, b5⟩ := hlc
    rw [b1] at hdg
    obtain ⟨g1, h1⟩ := ev_bifO h1
    unfold ev_ii at h1
    split at h1
    · cases h1
      have := Nat.le_of_ble_eq_true g1
      simp only [List.length_cons] at this
      exact ev_max_ok hx hb hml hown hts b2 b3 b4 b5 (by omega) (by omega) (by omega) hcs hss hdg kk
    · cases h1
  · rename_i e1
    rw [hk, e1] at hlc
    obtain ⟨idx, b1, b2, b3, b4, b5⟩ := hlc
    rw [b1] at hdg
    obtain ⟨g1, h1⟩ := ev_bifO h1
    unfold ev_ii at h1
    split at h1
    · cases h1
      have := Nat.le_of_ble_eq_true g1
      simp only [List.length_cons] at this
      exact ev_min_ok hx hb hml hown hts b2 b3 b4 b5 (by omega) (by omega) (by omega) hcs hss hdg kk
    · cases h1
  · rename_i e1
    rw [hk, e1] at hlc
    obtain ⟨idx, b1, b2, b3, b4, b5⟩ := hlc
    rw [b1] at hdg
    obtain ⟨g1, h1⟩ := ev_bifO h1
    unfold ev_copy at h1
    split at h1
    · split at h1
      · rename_i w0 f w1 g i1 i2
        split at h1
        · rename_i jn jd js j1 j2 j3
          obtain ⟨g2, h1⟩ := ev_bifO h1
          rw [ev_fL_eq, ev_fL_eq] at h1
          cases h1
          rw [ev_at_eq] at i1 i2
          simp only [Bool.and_eq_true] at g2
          have := Nat.le_of_ble_eq_true g1
          simp only [List.length_cons] at this
          exact ev_copy_ok hx hb hml hown hts b2 b3 b4 b5 (by omega) (by omega) (by omega) i1 i2 j1 j2 j3 (Nat.le_of_ble_eq_true g2.1.1) (Nat.le_of_ble_eq_true g2.1.2) hdg kk
        · cases h1
      · cases h1
    · cases h1
  · cases h1
set_option maxHeartbeats 2000000 in
theorem ev_run_ok (hok : ev_ok PR MT cl df Ts NW) (hscN : sc.length = N) (hN : N ≤ 1000000) (hsc : ∀ j x, sc[j]? = some x → ∀ L, ev_rel b hz L x (.int (xs j))) (hhyp : ∀ f, ev_snd l b hz N xs PR MT D cl df Ts NW sc f → ev_hyp l b hz N xs PR MT D cl df Ts NW sc f) : ∀ f, ev_snd l b hz N xs PR MT D cl df Ts NW sc f := by
  intro f
  induction f with
  | zero => intro d T stop pc ls st h k n r e; cases e
  | succ f IH =>
    intro d T stop pc ls st h k n r e i y cc nL ret hi hm p e' R s m args below meth c Q A L0 cx hX hA hcs hss kk
    obtain ⟨hx, hb, hml, hown, hts, hnm, hfr, hlo⟩ := id cx
    obtain ⟨y', cc', nL', ret', hm', hall⟩ := hok.2.2 i T hi
    rw [hm] at hm'
    cases hm'
    rcases ev_run_inv e with g | ⟨q, ⟨ck, hck, hq⟩, hpc, ⟨hk0, x, g1, g⟩ | ⟨-, -, g⟩ | ⟨hk6, d', hd, a1, a2, a3, a4, a5, U, r', a6, a7, a8, a9, a10, g⟩ | ⟨hkk, d', hd, a1, a2, a3, a4, U, r', a5, a6, a7, g⟩ | ⟨w, d', hk7, hd, x, g1, g⟩⟩
    · subst g; exact kk
    · obtain ⟨hdg, hlk, -⟩ := hall ck hck q hq
      have hmono := ev_run_mono f g
      subst hpc
      exact ev_step_ok cx hX hA hscN hN hsc hk0 hlk hdg g1 (by omega) (by omega) (IH g hi hm cx hX hA hcs hss kk)
    · subst g; exact kk
    · subst hpc hd
      have hmono := ev_run_mono f g
      exact hhyp f IH ⟨ck, hck, hq⟩ hi hm hk6 a1 a2 a3 a4 a5 a6 a7 a8 a9 a10 cx hX hA (by omega) (by omega) (IH g hi hm cx hX hA hcs hss kk)
    · obtain ⟨hdg, -, hlc⟩ := hall ck hck q hq
      subst hpc hd
      have hmono := ev_run_mono f g
      have kk2 := IH g hi hm cx hX hA hcs hss kk
      have cw : ∀ (nL' : Nat), nL' ≤ 20 → d' + 1 ≤ R.frames ∧ 8 + (nL' + 11) + 40 * d' ≤ R.locals := fun nL' h20 => ⟨hfr, by omega⟩
      unfold ev_lc at hlc
      rcases hkk with hkk | hkk | hkk | hkk
      · rw [hkk] at hlc
        obtain ⟨idx, y', cc', nL', rt, nn, T', N', b1, b2, b3, b4, b5, b6, b7, b8, b9⟩ := hlc
        rw [b1] at hdg
        obtain ⟨n0, as, fs, c1, c2⟩ := ev_rcv_ok (a3 (by omega))
        refine ev_call_ok (bN := q.2.2.2.2.1) hok IH a5 b2 b3 a6 a7 (by rw [← b5]; exact a4) hX hA kk2 ?_
        intro H locs lsC stC tys ws hK hP hw hst hsz hM hpre
        obtain ⟨hcode, hini, hpl, hnh, h20, hdesc⟩ := b3
        have hargs := ev_all_rev (ev_all_take hst q.2.2.2.2.1)
        have hlen := ev_all_len hargs
        rw [a1] at hlen
        rw [c1] at hargs
        obtain ⟨v, As, c3, ⟨a, c4, c5⟩, c6⟩ := ev_all_cons hargs
        subst c5
        have hsplit := ev_split c3
        rw [c3] at hM hpre hlen ⊢
        rw [List.length_cons, b4] at hlen
        have hsum := ev_sum (ev_all_drop hst q.2.2.2.2.1)
        obtain ⟨e0, c7, vs, c8, c9⟩ := ev_wat hw c2 rfl c4
        subst c8
        exact va_runV (As := As) (rest := stC.drop q.2.2.2.2.1) ⟨hx, hb, hml, hown, hts⟩ hM (cwV nn hts (ev_goodin hok.1 (fun w hw => by
            rcases List.mem_append.mp hw with h | h
            · simp only [List.mem_cons, List.not_mem_nil, or_false] at h
              rcases h with rfl | rfl | rfl | rfl
              · exact b6
              · exact b7
              · exact b8
              · exact hini
            · rcases List.mem_cons.mp h with rfl | h
              · exact hcode
              · exact h)) rfl rfl rfl ⟨rfl, hnh.1, hnh.2, hdesc⟩ (cw nL' h20)) ⟨ev_blind hok.2.1, va_recv hK hP b9 c7, hpre⟩ rfl (by omega) hsz hsplit (lv_room (by omega)) hdg ⟨by omega, by omega⟩
      · rw [hkk] at hlc
        obtain ⟨idx, y', cc', nL', nn, b1, b2, b3, b4, b5, b6, b7, b8⟩ := hlc
        rw [b1] at hdg
        obtain ⟨n0, as, fs, c1, c2⟩ := ev_rcv_ok (a3 (by omega))
        refine ev_call_ok (bN := q.2.2.2.2.1) hok IH a5 b2 b3 a6 a7 (by rw [← b5]; exact a4) hX hA kk2 ?_
        intro H locs lsC stC tys ws hK hP hw hst hsz hM hpre
        obtain ⟨hcode, hini, hpl, hnh, h20, hdesc⟩ := b3
        have hargs := ev_all_rev (ev_all_take hst q.2.2.2.2.1)
        have hlen := ev_all_len hargs
        rw [a1] at hlen
        rw [c1] at hargs
        obtain ⟨v, As, c3, ⟨a, c4, c5⟩, c6⟩ := ev_all_cons hargs
        subst c5
        have hsplit := ev_split c3
        rw [c3] at hM hpre hlen ⊢
        rw [List.length_cons, b4] at hlen
        have hsum := ev_sum (ev_all_drop hst q.2.2.2.2.1)
        exact va_runI (As := As) (rest := stC.drop q.2.2.2.2.1) ⟨hx, hb, hml, hown, hts⟩ hM (cwI nn hts (ev_goodin hok.1 (fun w hw => by
            rcases List.mem_cons.mp hw with rfl | h
            · exact hcode
            · exact h)) rfl rfl rfl (hts _ hini) (hts _ b6) (hts _ b7) b8 ⟨hnh.1, hnh.2, hdesc⟩ (cw nL' h20)) ⟨ev_blind hok.2.1, hpre⟩ rfl (by omega) hsz hsplit (lv_room (by omega)) hdg ⟨by omega, by omega⟩
      · rw [hkk] at hlc
        obtain ⟨idx, y', cc', nL', nn, host, b1, b2, b3, b4, b5, b6, b7, b8⟩ := hlc
        rw [b1] at hdg
        obtain ⟨n0, as, fs, c1, c2⟩ := ev_rcv_ok (a3 (by omega))
        refine ev_call_ok (bN := q.2.2.2.2.1) hok IH a5 b2 b3 a6 a7 (by rw [← b5]; exact a4) hX hA kk2 ?_
        intro H locs lsC stC tys ws hK hP hw hst hsz hM hpre
        obtain ⟨hcode, hini, hpl, hnh, h20, hdesc⟩ := b3
        have hargs := ev_all_rev (ev_all_take hst q.2.2.2.2.1)
        have hlen := ev_all_len hargs
        rw [a1] at hlen
        rw [c1] at hargs
        obtain ⟨v, As, c3, ⟨a, c4, c5⟩, c6⟩ := ev_all_cons hargs
        subst c5
        have hsplit := ev_split c3
        rw [c3] at hM hpre hlen ⊢
        rw [List.length_cons, b4] at hlen
        have hsum := ev_sum (ev_all_drop hst q.2.2.2.2.1)
        exact va_runIN (As := As) (rest := stC.drop q.2.2.2.2.1) ⟨hx, hb, hml, hown, hts⟩ hM ⟨va_cnB nn hts (ev_goodin hok.1 (fun w hw => by
            rcases List.mem_cons.mp hw with rfl | h
            · exact hcode
            · exact h)) rfl rfl rfl (hX.2.2.2.2.2.1 _ b6) (hts _ hini) ⟨hnh.1, hnh.2, hdesc⟩ (cw nL' h20), b8, hts _ b7⟩ ⟨ev_blind hok.2.1, hpre⟩ rfl (by omega) hsz hsplit (lv_room (by omega)) hdg ⟨by omega, by omega⟩
      · rw [hkk] at hlc
        obtain ⟨idx, y', cc', nL', rt, nn, b1, b2, b3, b4, b5, b6, b7⟩ := hlc
        rw [b1] at hdg
        refine ev_call_ok (bN := q.2.2.2.2.1) hok IH a5 b2 b3 a6 a7 (by rw [← b5]; exact a4) hX hA kk2 ?_
        intro H locs lsC stC tys ws hK hP hw hst hsz hM hpre
        obtain ⟨hcode, hini, hpl, hnh, h20, hdesc⟩ := b3
        have hargs := ev_all_rev (ev_all_take hst q.2.2.2.2.1)
        have hlen := ev_all_len hargs
        rw [a1, b4] at hlen
        have hsum := ev_sum (ev_all_drop hst q.2.2.2.2.1)
        exact va_runS (As := (stC.take q.2.2.2.2.1).reverse) (rest := stC.drop q.2.2.2.2.1) ⟨hx, hb, hml, hown, hts⟩ hM (va_cwS nn hts (ev_goodin hok.1 (fun w hw => by
            rcases List.mem_append.mp hw with h | h
            · simp only [List.mem_cons, List.not_mem_nil, or_false] at h
              rcases h with rfl | rfl | rfl
              · exact b6
              · exact b7
              · exact hini
            · rcases List.mem_cons.mp h with rfl | h
              · exact hcode
              · exact h)) rfl rfl rfl ⟨hnh.1, hnh.2, hdesc⟩ (cw nL' h20)) ⟨ev_blind hok.2.1, hpre⟩ rfl (by rw [b4]; exact hlen.symm) hsz (by rw [List.reverse_reverse, List.take_append_drop]) (lv_room (by omega)) hdg ⟨by omega, by omega⟩
    · obtain ⟨hdg, -, hlc⟩ := hall ck hck q hq
      subst hpc hd
      have hmono := ev_run_mono f g
      have kk2 := IH g hi hm cx hX hA hcs hss kk
      exact ev_lib_ok cx hk7 hlc hdg g1 (by omega) (by omega) kk2
end EVN
end
section
/-! ===== 'throw new NoSuchElementException(text)': its constructor calls its superclass's by entry 13 of its own file, so the kit's vx_throwS (entry 7 at every class) doesn't reach it ===== -/
section EVC
abbrev ev_nse : String := "java/util/NoSuchElementException"
def ev_13 : ByteArray := ⟨#[0x2a, 0x2b, 0xb7, 0x00, 0x0d, 0xb1]⟩
def ev_own (own : String) (ic : Nat) : List Cond :=
  Jvm.Bundle.throwableAtoms ++ (Jvm.Bundle.throwableSAtoms ++ (Jvm.Bundle.passSAtoms ev_nse "java/lang/RuntimeException" 13 ev_13 ++ (Jvm.Bundle.chainSAtoms "java/lang/RuntimeException" ["java/lang/Exception"] ++
  [.methodLink own ic (Jvm.Bundle.initS ev_nse), .instantiable ev_nse 6, .castable ev_nse ev_nse, .selects ev_nse Jvm.Bundle.tFill0 Jvm.Bundle.tFill0, .selects ev_nse Jvm.Bundle.tFill Jvm.Bundle.tFill,
   .lays ev_nse Jvm.Bundle.tN "cause" "Ljava/lang/Throwable;", .lays ev_nse Jvm.Bundle.tN "stackTrace" Jvm.Bundle.steD, .lays ev_nse Jvm.Bundle.tN "suppressedExceptions" Jvm.Bundle.listD, .lays ev_nse Jvm.Bundle.tN "detailMessage" "Ljava/lang/String;",
   .isRef (.static Jvm.Bundle.tN "UNASSIGNED_STACK" Jvm.Bundle.steD), .isRef (.static Jvm.Bundle.tN "SUPPRESSED_SENTINEL" Jvm.Bundle.listD),
   .fieldLink Jvm.Bundle.tN 198 Jvm.Bundle.tN "backtrace" "Ljava/lang/Object;", .lays Jvm.Bundle.tN Jvm.Bundle.tN "backtrace" "Ljava/lang/Object;", .lays ev_nse Jvm.Bundle.tN "backtrace" "Ljava/lang/Object;"])))
variable {p : Program} {l : Launch} {e : Env} {R : Room} {s : State} {m : MethodId} {args : Array Value} {below : List Frame} {meth : Method} {c : Code} {T0 : State} {locs : List Loc} {cells slots : Nat}
set_option maxHeartbeats 2000000 in
theorem ev_ctor (X : Stand p l e R s m args below meth c T0 locs cells slots) (hexec : p.tables.exec = Jvm.exec) (htr : e.platform.stackTraces = false) {own : String} {ic : Nat} (hown : s.vm.findClass own = some m.cls)
    (hw : ∀ a ∈ ev_own own ic, a.before args s = true) (hlocs : ∀ x ∈ locs, ∀ cell, s.heap[x.base]? = some cell → cell.vm.isStatics = false)
    {a : Addr} {cX : ClassId} {kX : Class} (hfX : s.vm.findClass ev_nse = some cX) (hkX : s.vm.classes[cX]? = some kX) (hcell : T0.heap[a]? = some (freshCell cX kX)) (hnew : s.heap.size ≤ a) {msg : Value} (hmsg : msg.isRef = true)
    {g : JFrame} (hg : g.method = m) (hsize : g.locals.size = c.maxLocals) (hlocked : g.locked = none) (hentered : g.entered = []) {rest : List Value} (hstack : g.stack = msg :: .ref a :: .ref a :: rest)
    (hd6 : decode c.code g.pc = .ok (.invokespecial ic, 3)) (hd9 : decode c.code (g.pc + 3) = .ok (.athrow, 1)) (hout : ∀ x ∈ c.exceptionTable.toList, covers x (g.pc + 3) = false)
    (hfr : 5 < R.frames) (hlo : 2 * g.monitorRoom + ((Value.ref a :: rest).map fun v => v.category).sum + (13 * 3 + 42) ≤ R.locals) (hlocks : meth.locks = false) :
    ∃ U : State, Steps p.tables e below (T0.setTop g) U ∧ U.status = .running ∧ Ended U below (.threw a) ∧ s.WarmedH U.vm ∧ s.sameButNew ({ U with vm := s.vm } : State) locs cells slots ∧
      ∃ ce, U.heap[a]? = some ce ∧ ce.vm = .none ∧ s.vm.findClass ev_nse = some ce.cls := by
  have p1 : e.platform.frameOwnsMonitors = true := by rw [X.admits.platform]
  have p2 : e.platform.finalization = false := by rw [X.admits.platform]
  have p3 : e.platform.magicAccessors = ({} : Platform).magicAccessors := by rw [X.admits.platform]
  have wA : ∀ x ∈ Jvm.Bundle.throwableAtoms, x.before args s = true := fun x hx => hw x (List.mem_append_left _ hx)
  have wB : ∀ x ∈ Jvm.Bundle.throwableSAtoms, x.before args s = true := fun x hx => hw x (List.mem_append_right _ (List.mem_append_left _ hx))
  have wC : ∀ x ∈ Jvm.Bundle.passSAtoms ev_nse "java/lang/RuntimeException" 13 ev_13, x.before args s = true := fun x hx => hw x (List.mem_append_right _ (List.mem_append_right _ (List.mem_append_left _ hx)))
  have wD : ∀ x ∈ Jvm.Bundle.chainSAtoms "java/lang/RuntimeException" ["java/lang/Exception"], x.before args s = true := fun x hx => hw x (List.mem_append_right _ (List.mem_append_right _ (List.mem_append_right _ (List.mem_append_left _ hx))))
  have wE : ∀ {x : Cond} (k : Nat), ([.methodLink own ic (Jvm.Bundle.initS ev_nse), .instantiable ev_nse 6, .castable ev_nse ev_nse, .selects ev_nse Jvm.Bundle.tFill0 Jvm.Bundle.tFill0, .selects ev_nse Jvm.Bundle.tFill Jvm.Bundle.tFill,
   .lays ev_nse Jvm.Bundle.tN "cause" "Ljava/lang/Throwable;", .lays ev_nse Jvm.Bundle.tN "stackTrace" Jvm.Bundle.steD, .lays ev_nse Jvm.Bundle.tN "suppressedExceptions" Jvm.Bundle.listD, .lays ev_nse Jvm.Bundle.tN "detailMessage" "Ljava/lang/String;",
   .isRef (.static Jvm.Bundle.tN "UNASSIGNED_STACK" Jvm.Bundle.steD), .isRef (.static Jvm.Bundle.tN "SUPPRESSED_SENTINEL" Jvm.Bundle.listD),
   .fieldLink Jvm.Bundle.tN 198 Jvm.Bundle.tN "backtrace" "Ljava/lang/Object;", .lays Jvm.Bundle.tN Jvm.Bundle.tN "backtrace" "Ljava/lang/Object;", .lays ev_nse Jvm.Bundle.tN "backtrace" "Ljava/lang/Object;"] : List Cond)[k]? = some x → x.before args s = true :=
    fun k hk => hw _ (List.mem_append_right _ (List.mem_append_right _ (List.mem_append_right _ (List.mem_append_right _ (List.mem_of_getElem? hk)))))
  obtain ⟨T, Z0, LT, -, Y⟩ := ThrowableC.of_atoms (args := args) p1 p2 p3 wA
  obtain ⟨Z, M, LZ, LM, hnZ⟩ := Init0T.ofS_atoms (args := args) p3 LT Y wB
  obtain ⟨P2, Ps, hlen, L2, hL, hP2m, hlink2, hlink⟩ := Jvm.Bundle.chainS (args := args) p3 hnZ ["java/lang/Exception"] "java/lang/RuntimeException" (by decide +kernel) (by decide +kernel) wD
  obtain ⟨P1, L1, hP1m, hP1s⟩ := PassC.ofS_atoms (args := args) (s := s) p3 (X := ev_nse) (Y := "java/lang/RuntimeException") (by decide +kernel) (by decide +kernel) (by decide +kernel) (by decide +kernel) (by decide +kernel) (by decide +kernel) wC
  have hlink1 : P1.sup = P2.m := Option.some.inj (hP1s.symm.trans hP2m)
  have hfound : s.vm.findClass ev_nse = some P1.m.cls := findClass_of_methodNamed hP1m
  cases Option.some.inj (hfX.symm.trans hfound)
  obtain ⟨c1, kX', hc1, hk, hord, -, -, hn6⟩ := Cond.instantiable_spec (wE 1 rfl)
  cases Option.some.inj (hc1.symm.trans hfound)
  cases Option.some.inj (hkX.symm.trans hk)
  have hsel0 : selectMethod e.platform s.vm P1.m.cls T.fill0 = .method T.fill0 := by
    obtain ⟨c2, r2, m2, q1, q2, q3, q4, -⟩ := Cond.selects_spec (wE 3 rfl)
    cases Option.some.inj (q1.symm.trans hfound)
    cases Option.some.inj (q2.symm.trans (State.methodFound?_of_named Y.fill0 (by decide)))
    cases Option.some.inj (q3.symm.trans Y.fill0)
    rw [Launch.admits_selectMethod X.admits]; exact q4
  have hselF : selectMethod e.platform s.vm P1.m.cls T.fill = .method T.fill := by
    obtain ⟨c2, r2, m2, q1, q2, q3, q4, -⟩ := Cond.selects_spec (wE 4 rfl)
    cases Option.some.inj (q1.symm.trans hfound)
    cases Option.some.inj (q2.symm.trans (State.methodFound?_of_named Y.fill (by decide)))
    cases Option.some.inj (q3.symm.trans Y.fill)
    rw [Launch.admits_selectMethod X.admits]; exact q4
  obtain ⟨cellS0, hcS0, hiss⟩ := Y.statics
  obtain ⟨u0, hu0⟩ := Cond.staticRefV Y.unassigned LT.unassignedStatic LT.statics hcS0 hiss (wE 9 rfl)
  obtain ⟨sen, hsen⟩ := Cond.staticRefV Y.sentinel LT.sentinelStatic LT.statics hcS0 hiss (wE 10 rfl)
  obtain ⟨ci198, i198, fB, hk198, hg198, ha198, hsB, -, hnB, htB, hffB⟩ := Cond.ownField (t := .object "java/lang/Object") Y.found LT.cls (by decide +kernel) (wE 11 rfl) (wE 12 rfl) e.platform p3
  obtain ⟨cellS, hcS', heS, -, hkeep⟩ := X.same.2.2.2.2.2 T.aS cellS0 hcS0
  have hcellS : T0.heap[T.aS]? = some cellS := hcS'
  have hout' : ∀ i, (⟨T.aS, i⟩ : Loc) ∉ locs := fun i hmem => by
    have := hlocs _ hmem cellS0 hcS0
    rw [hiss] at this; cases this
  have hknownS : cellS.vm ≠ .unknown := by
    rw [heS]; intro hu
    rw [show cellS0.vm = .unknown from hu] at hiss
    cases hiss
  have hneS : T.aS ≠ a := Nat.ne_of_lt (Nat.lt_of_lt_of_le (Array.getElem?_eq_some_iff.mp hcS0).1 hnew)
  obtain ⟨iM, hffM⟩ := Y.msg
  obtain ⟨tyC, dC, hdC, hdnC⟩ := Cond.laysAt hfound hk Y.cause (wE 5 rfl)
  obtain ⟨tyS, dS, hdS, hdnS⟩ := Cond.laysAt hfound hk Y.stack (wE 6 rfl)
  obtain ⟨tyP, dP, hdP, hdnP⟩ := Cond.laysAt hfound hk Y.supp (wE 7 rfl)
  obtain ⟨tyM, dM, hdM, hdnM⟩ := Cond.laysAt hfound hk hffM (wE 8 rfl)
  obtain ⟨tyB, dB, hdB, hdnB⟩ := Cond.laysAt hfound hk hffB (wE 13 rfl)
  have bC := Cond.laysApart hdB hdC hdnB hdnC (by rw [hnB, Y.causeName]; decide)
  have bS := Cond.laysApart hdB hdS hdnB hdnS (by rw [hnB, Y.stackName]; decide)
  have bP := Cond.laysApart hdB hdP hdnB hdnP (by rw [hnB, Y.suppName]; decide)
  have hskip : SkipFacts T e.platform s (fun u => u) u0 ((preparedCellV T.toThrowableT (freshCell P1.m.cls kX) a u0 sen).withEntry T0.cur) :=
    ⟨{ ci198 := ci198, i198 := i198, fBack := fB }, ⟨hk198, hg198, ha198, hsB⟩, by
      have := fresh_default (c := P1.m.cls) tyB
      rw [htB] at this
      simpa [preparedCellV, Cell.setSlot, Cell.withEntry, Array.getElem?_setIfInBounds, bC, bS, bP, bC.symm, bS.symm, bP.symm, defaultValue] using this, fun _ _ => rfl⟩
  obtain ⟨tm, methC, cdC, kC, vm₁, hnC, -, -, -, -, -, -, -, hW₁, st1⟩ := Steps.initColdS (tb := p.tables) (e := e) (below := below) (s := s) (U := T0) X.here hexec X.warmed p3 hown (t := Jvm.Bundle.initS ev_nse) rfl rfl (by decide +kernel)
    (wE 0 rfl) (wC _ (List.mem_of_getElem? (i := 0) rfl)) (bytes := ev_13) (maxL := 2) (wC _ (List.mem_of_getElem? (i := 1) rfl)) (f := g) hg (a := a) (msg := msg) (rest := .ref a :: rest) hstack hd6
  cases Option.some.inj (hnC.symm.trans hP1m)
  have X₁ := X.noted hW₁
  obtain ⟨vm₂, X₂, st2⟩ := X₁.ctorMessageOffV hexec (g := { g with stack := .ref a :: rest }) hg hsize T LT Z LZ M LM (P1 :: P2 :: Ps)
    (fun P hP => by
      rcases List.mem_cons.mp hP with rfl | hP
      · exact L1
      · rcases List.mem_cons.mp hP with rfl | hP
        · exact L2
        · exact hL P hP) ⟨hlink1, hlink2, hlink⟩ (u0 := u0) (sen := sen) (self := a) hmsg (cell := freshCell P1.m.cls kX) (cellS := cellS)
    hcell (fun _ => by simp) (by simp) rfl rfl hsel0 hselF hcellS hneS hknownS (by rw [hkeep _ (hout' _)]; exact hu0) (by rw [hkeep _ (hout' _)]; exact hsen)
    (Takes.of_laid hk hord tyC (by rw [Y.causeType]; rfl)) (Takes.of_laid hk hord tyS (by rw [Y.stackType]; exact fits_refV_array _ u0)) (Takes.of_laid hk hord tyP (by rw [Y.suppType]; exact fits_refV_object _ sen))
    (Takes.of_laid hk hord tyM (by rw [Y.msgType]; exact fits_refV_object _ ⟨msg, hmsg⟩)) Y.objLocals hskip htr [] hd6
    (by simp only [List.length_cons, hlen, List.length_nil]; omega) (by simp only [List.length_cons, hlen, List.length_nil]; exact hlo)
  obtain ⟨hwalk, hrun, hended, hWU, hsame⟩ := X₂.athrowLeaves hexec (g := { g with stack := .ref a :: rest, pc := g.pc + 3 }) hg hlocked hentered hout (a := a) (rest := rest) rfl hd9
  have hlt : a < ((T0.setVm vm₁).setVm vm₂).heap.size := (Array.getElem?_eq_some_iff.mp hcell).1
  have hU := heapAt_setCell_self (s := (T0.setVm vm₁).setVm vm₂) (plainBareV T.toThrowableT (freshCell P1.m.cls kX) a u0 sen msg) hlt
  refine ⟨_, st1 _ (fun acts => ?_), hrun, hended, hWU, hsame.weaken (fun y hy hlt' => ?_) (Nat.le_refl _) (Nat.le_refl _), _, hU, rfl, hfound⟩
  · rw [doInvoke_state]
    exact st2 _ hwalk
  · rcases List.mem_append.mp hy with h1 | h1
    · exact h1
    · exfalso
      have hb : y.base = a := by
        simp only [List.mem_cons, List.not_mem_nil, or_false] at h1
        rcases h1 with rfl | rfl | rfl | rfl | rfl <;> rfl
      rw [hb] at hlt'
      exact Nat.not_lt.mpr hnew hlt'
end EVC
end
section
/-! ===== it is thrown, and caught by the one row of a table ===== -/
section EVD
variable {p : Program} {l : Launch} {e : Env} {R : Room} {s : State} {m : MethodId} {args : Array Value} {below : List Frame} {meth : Method} {c : Code} {H : Heap} {locs : List Loc} {cells slots : Nat} {Q : State → Prop} {ls : Array Slot} {rest : List Value}
variable {Qc : Array Value → State → Outcome → State → Prop} {XC : String → State → State → Prop} {free : Addr → Prop}
set_option maxHeartbeats 2000000 in
theorem ev_throw {cc : ByteArray} {pc : Nat} (hexec : p.tables.exec = Jvm.exec) (hb : c.code = cc) (hl : l.stackTraces = false) {own text : String} {ik is ic mc ms sa : Nat} {A : Nat → Prop}
    (hown : s.vm.findClass own = some m.cls) (hk : (Cond.classLink own ik ev_nse).before args s = true) (hini : (Cond.initialized ev_nse).before args s = true) (hstr : vk_R own is text sa s) (hat : ∀ w ∈ (ev_own own ic).filter vx_no, w.before args s = true)
    (hgood : ∀ w ∈ Cond.classLink own ik ev_nse :: Cond.initialized ev_nse :: (ev_own own ic).filter vx_no, vx_ot w = true)
    (hU : vx_Zq Jvm.Bundle.tN "UNASSIGNED_STACK" Jvm.Bundle.steD A s s.heap) (hN : vx_Zq Jvm.Bundle.tN "SUPPRESSED_SENTINEL" Jvm.Bundle.listD A s s.heap) (hS : va_S A s.heap H locs) (hsize : ls.size = c.maxLocals)
    (d0 : decode cc pc = .ok (.new ik, 3)) (d3 : decode cc (pc + 3) = .ok (.dup, 1)) (d4 : decode cc (pc + 4) = .ok (.ldc is, 2)) (d6 : decode cc (pc + 6) = .ok (.invokespecial ic, 3)) (d9 : decode cc (pc + 9) = .ok (.athrow, 1))
    (hout : ∀ x ∈ c.exceptionTable.toList, False) (hfr : 5 < R.frames) (hlo : (rest.map fun v => v.category).sum + 90 ≤ R.locals) (hRc : cells + 1 ≤ R.cells) (hRs : slots + 6 ≤ R.slots) (hlocks : meth.locks = false)
    (hx : ∀ t : State, s.vm.Alike t.vm → H.size ≤ t.heap.size → (∀ q : Nat, q < H.size → t.heap[q]? = H[q]?) → XC ev_nse s t)
    (hf : ∀ z ∈ locs, free z.base) (hc : cells + 1 ≤ mc) (hs : slots + 6 ≤ ms) :
    W p l e R s m args below meth c H locs cells slots (vx_MQ below Qc XC args s mc ms free) (F0 m pc ls rest) := by
  intro T hT X
  have htr : e.platform.stackTraces = false := (show e.platform.stackTraces = l.stackTraces by rw [X.admits.platform]).trans hl
  have Y := vx_rebase X (R' := { frames := R.frames, locals := R.locals, cells := 1, slots := 6 }) (Nat.le_refl _) (Nat.le_refl _) hRc hRs
  obtain ⟨s', hA⟩ : ∃ z, z = (T.setVm s.vm).setFrames (.invoking m args :: below) := ⟨_, rfl⟩
  rw [← hA] at Y
  have hvm : s'.vm = s.vm := by rw [hA]; rfl
  have hhp : s'.heap = H := by rw [hA]; exact hT
  have hW0 : s.WarmedH s'.vm := by rw [hvm]; exact State.WarmedH.refl s
  have ot : ∀ w ∈ Cond.classLink own ik ev_nse :: Cond.initialized ev_nse :: (ev_own own ic).filter vx_no, w.before args s = true → w.before args s' = true := fun w hw h => vx_ot_at hW0 hvm.symm (hgood w hw) h
  have hU' : vx_Zq Jvm.Bundle.tN "UNASSIGNED_STACK" Jvm.Bundle.steD A s' s'.heap := by rw [hhp]; exact vx_Zq.moved hW0.alike (hU.kept hS.2.1)
  have hN' : vx_Zq Jvm.Bundle.tN "SUPPRESSED_SENTINEL" Jvm.Bundle.listD A s' s'.heap := by rw [hhp]; exact vx_Zq.moved hW0.alike (hN.kept hS.2.1)
  have h : ∀ w ∈ ev_own own ic, w.before args s' = true := vx_own (fun w hw => ot w (List.mem_cons_of_mem _ (List.mem_cons_of_mem _ hw)) (hat w hw)) (vx_isRefq hU'.1) (vx_isRefq hN'.1) hU'.2.word hN'.2.word
  have hown' : s'.vm.findClass own = some m.cls := by rw [hvm]; exact hown
  have hins : (Cond.instantiable ev_nse 6).before args s' = true := h _ (by simp [ev_own])
  obtain ⟨vm₁, cX, kX, hfX, hkX, -, -, X₁, st1⟩ := Y.newCold hexec (own := own) (C := ev_nse) (index := ik) (n := 6) hown' (ot _ List.mem_cons_self hk) hins (ot _ (List.mem_cons_of_mem _ List.mem_cons_self) hini)
    (g := F0 m pc ls rest) rfl (by rw [hb]; exact d0) (Nat.le_refl _) (Nat.le_refl _)
  generalize hT1 : (T.setVm vm₁).pushCell { cls := cX, slots := kX.instanceTypes.map defaultValue, vm := .none } = T1 at X₁ st1
  have hcat : (Value.ref T.heap.size).category = 1 := rfl
  have hcellA : T1.heap[T.heap.size]? = some (freshCell cX kX) := by rw [← hT1]; exact State.heap_pushCell_size _ _
  have d3' : decode c.code (pc + 3) = .ok (.dup, 1) := by rw [hb]; exact d3
  have d4' : decode c.code (pc + 4) = .ok (.ldc is, 2) := by rw [hb]; exact d4
  have hstr' : vk_R own is text sa s' := vk_R.warm hW0 hstr
  obtain ⟨U, hsteps, hrun, hend, hW, hsame, ce, hce, hcv, hcl0⟩ := ev_ctor X₁ hexec htr (own := own) (ic := ic) hown' h (fun x hx => nomatch hx) hfX hkX hcellA (by rw [hhp, hT]; exact Nat.le_refl _) (msg := .ref sa) rfl
    (g := { method := m, pc := pc + 6, locals := ls, stack := .ref sa :: .ref T.heap.size :: .ref T.heap.size :: rest, locked := none }) rfl hsize rfl rfl (rest := rest) rfl
    (by rw [hb]; exact d6) (by rw [hb]; exact d9) (fun x hx => (hout x hx).elim) hfr (by simp only [List.map_cons, List.sum_cons, hcat]; show 2 * 0 + _ + _ ≤ _; show 2 * 0 + (1 + (rest.map fun v => v.category).sum) + (13 * 3 + 42) ≤ R.locals; omega) hlocks
  obtain ⟨f1, f2⟩ := vx_frame hsame
  rw [hhp] at f1 f2
  have hWs : s.WarmedH U.vm := State.WarmedH.trans hW0 hW
  have hcl : s.vm.findClass ev_nse = some ce.cls := by
    rw [hvm] at hcl0
    exact hcl0
  have hall : s.sameButNew ({ U with vm := s.vm } : State) locs mc ms := by
    subst hA
    obtain ⟨e1, e2⟩ := hsame
    rw [State.setFrames_setFrames] at e1
    have h2 : (T.setVm s.vm).sameButNew ({ U with vm := s.vm } : State) [] (0 + 1) (0 + 6) := ⟨e1, e2⟩
    have h3 := X.same.trans h2
    rw [List.append_nil] at h3
    exact h3.mono hc hs
  refine ⟨U, ?_, .threw T.heap.size, hrun, hend, Or.inr ⟨T.heap.size, rfl, ev_nse, ce, locs, hx U hWs.alike f1 (fun q hq => f2 q hq (fun z hz => nomatch hz)), hce, hcv, hcl, hWs, hall, hf⟩⟩
  refine st1 _ ?_
  show Steps p.tables e below (T1.setTop { method := m, pc := pc + 3, locals := ls, stack := .ref T.heap.size :: rest, locked := none }) _
  jvm_step X₁.here [X₁.here.top, hexec, d3', Value.category]
  exact X₁.ldcString hexec (own := own) (text := text) (index := is) (a := sa) hown' hstr'.1 hstr'.2
    (g := { method := m, pc := pc + 4, locals := ls, stack := .ref T.heap.size :: .ref T.heap.size :: rest, locked := none }) rfl d4' _ hsteps
set_option maxHeartbeats 2000000 in
theorem ev_throwW {cc : ByteArray} {pc : Nat} (hexec : p.tables.exec = Jvm.exec) (hb : c.code = cc) (hl : l.stackTraces = false) {own text : String} {ik is ic mc ms sa : Nat} {A : Nat → Prop}
    (hown : s.vm.findClass own = some m.cls) (hk : (Cond.classLink own ik ev_nse).before args s = true) (hini : (Cond.initialized ev_nse).before args s = true) (hstr : vk_R own is text sa s) (hat : ∀ w ∈ (ev_own own ic).filter vx_no, w.before args s = true)
    (hgood : ∀ w ∈ Cond.classLink own ik ev_nse :: Cond.initialized ev_nse :: (ev_own own ic).filter vx_no, vx_ot w = true)
    (hU : vx_Zq Jvm.Bundle.tN "UNASSIGNED_STACK" Jvm.Bundle.steD A s s.heap) (hN : vx_Zq Jvm.Bundle.tN "SUPPRESSED_SENTINEL" Jvm.Bundle.listD A s s.heap) (hS : va_S A s.heap H locs) (hsize : ls.size = c.maxLocals)
    (d0 : decode cc pc = .ok (.new ik, 3)) (d3 : decode cc (pc + 3) = .ok (.dup, 1)) (d4 : decode cc (pc + 4) = .ok (.ldc_w is, 3)) (d6 : decode cc (pc + 7) = .ok (.invokespecial ic, 3)) (d9 : decode cc (pc + 10) = .ok (.athrow, 1))
    (hout : ∀ x ∈ c.exceptionTable.toList, False) (hfr : 5 < R.frames) (hlo : (rest.map fun v => v.category).sum + 90 ≤ R.locals) (hRc : cells + 1 ≤ R.cells) (hRs : slots + 6 ≤ R.slots) (hlocks : meth.locks = false)
    (hx : ∀ t : State, s.vm.Alike t.vm → H.size ≤ t.heap.size → (∀ q : Nat, q < H.size → t.heap[q]? = H[q]?) → XC ev_nse s t)
    (hf : ∀ z ∈ locs, free z.base) (hc : cells + 1 ≤ mc) (hs : slots + 6 ≤ ms) :
    W p l e R s m args below meth c H locs cells slots (vx_MQ below Qc XC args s mc ms free) (F0 m pc ls rest) := by
  intro T hT X
  have htr : e.platform.stackTraces = false := (show e.platform.stackTraces = l.stackTraces by rw [X.admits.platform]).trans hl
  have Y := vx_rebase X (R' := { frames := R.frames, locals := R.locals, cells := 1, slots := 6 }) (Nat.le_refl _) (Nat.le_refl _) hRc hRs
  obtain ⟨s', hA⟩ : ∃ z, z = (T.setVm s.vm).setFrames (.invoking m args :: below) := ⟨_, rfl⟩
  rw [← hA] at Y
  have hvm : s'.vm = s.vm := by rw [hA]; rfl
  have hhp : s'.heap = H := by rw [hA]; exact hT
  have hW0 : s.WarmedH s'.vm := by rw [hvm]; exact State.WarmedH.refl s
  have ot : ∀ w ∈ Cond.classLink own ik ev_nse :: Cond.initialized ev_nse :: (ev_own own ic).filter vx_no, w.before args s = true → w.before args s' = true := fun w hw h => vx_ot_at hW0 hvm.symm (hgood w hw) h
  have hU' : vx_Zq Jvm.Bundle.tN "UNASSIGNED_STACK" Jvm.Bundle.steD A s' s'.heap := by rw [hhp]; exact vx_Zq.moved hW0.alike (hU.kept hS.2.1)
  have hN' : vx_Zq Jvm.Bundle.tN "SUPPRESSED_SENTINEL" Jvm.Bundle.listD A s' s'.heap := by rw [hhp]; exact vx_Zq.moved hW0.alike (hN.kept hS.2.1)
  have h : ∀ w ∈ ev_own own ic, w.before args s' = true := vx_own (fun w hw => ot w (List.mem_cons_of_mem _ (List.mem_cons_of_mem _ hw)) (hat w hw)) (vx_isRefq hU'.1) (vx_isRefq hN'.1) hU'.2.word hN'.2.word
  have hown' : s'.vm.findClass own = some m.cls := by rw [hvm]; exact hown
  have hins : (Cond.instantiable ev_nse 6).before args s' = true := h _ (by simp [ev_own])
  obtain ⟨vm₁, cX, kX, hfX, hkX, -, -, X₁, st1⟩ := Y.newCold hexec (own := own) (C := ev_nse) (index := ik) (n := 6) hown' (ot _ List.mem_cons_self hk) hins (ot _ (List.mem_cons_of_mem _ List.mem_cons_self) hini)
    (g := F0 m pc ls rest) rfl (by rw [hb]; exact d0) (Nat.le_refl _) (Nat.le_refl _)
  generalize hT1 : (T.setVm vm₁).pushCell { cls := cX, slots := kX.instanceTypes.map defaultValue, vm := .none } = T1 at X₁ st1
  have hcat : (Value.ref T.heap.size).category = 1 := rfl
  have hcellA : T1.heap[T.heap.size]? = some (freshCell cX kX) := by rw [← hT1]; exact State.heap_pushCell_size _ _
  have d3' : decode c.code (pc + 3) = .ok (.dup, 1) := by rw [hb]; exact d3
  have d4' : decode c.code (pc + 4) = .ok (.ldc_w is, 3) := by rw [hb]; exact d4
  have hstr' : vk_R own is text sa s' := vk_R.warm hW0 hstr
  obtain ⟨U, hsteps, hrun, hend, hW, hsame, ce, hce, hcv, hcl0⟩ := ev_ctor X₁ hexec htr (own := own) (ic := ic) hown' h (fun x hx => nomatch hx) hfX hkX hcellA (by rw [hhp, hT]; exact Nat.le_refl _) (msg := .ref sa) rfl
    (g := { method := m, pc := pc + 7, locals := ls, stack := .ref sa :: .ref T.heap.size :: .ref T.heap.size :: rest, locked := none }) rfl hsize rfl rfl (rest := rest) rfl
    (by rw [hb]; exact d6) (by rw [hb]; exact d9) (fun x hx => (hout x hx).elim) hfr (by simp only [List.map_cons, List.sum_cons, hcat]; show 2 * 0 + _ + _ ≤ _; show 2 * 0 + (1 + (rest.map fun v => v.category).sum) + (13 * 3 + 42) ≤ R.locals; omega) hlocks
  obtain ⟨f1, f2⟩ := vx_frame hsame
  rw [hhp] at f1 f2
  have hWs : s.WarmedH U.vm := State.WarmedH.trans hW0 hW
  have hcl : s.vm.findClass ev_nse = some ce.cls := by
    rw [hvm] at hcl0
    exact hcl0
  have hall : s.sameButNew ({ U with vm := s.vm } : State) locs mc ms := by
    subst hA
    obtain ⟨e1, e2⟩ := hsame
    rw [State.setFrames_setFrames] at e1
    have h2 : (T.setVm s.vm).sameButNew ({ U with vm := s.vm } : State) [] (0 + 1) (0 + 6) := ⟨e1, e2⟩
    have h3 := X.same.trans h2
    rw [List.append_nil] at h3
    exact h3.mono hc hs
  refine ⟨U, ?_, .threw T.heap.size, hrun, hend, Or.inr ⟨T.heap.size, rfl, ev_nse, ce, locs, hx U hWs.alike f1 (fun q hq => f2 q hq (fun z hz => nomatch hz)), hce, hcv, hcl, hWs, hall, hf⟩⟩
  refine st1 _ ?_
  show Steps p.tables e below (T1.setTop { method := m, pc := pc + 3, locals := ls, stack := .ref T.heap.size :: rest, locked := none }) _
  jvm_step X₁.here [X₁.here.top, hexec, d3', Value.category]
  exact X₁.ldcStringW hexec (own := own) (text := text) (index := is) (a := sa) hown' hstr'.1 hstr'.2
    (g := { method := m, pc := pc + 4, locals := ls, stack := .ref T.heap.size :: .ref T.heap.size :: rest, locked := none }) rfl d4' _ hsteps
theorem ev_find {e : Env} {S : State} {f : JFrame} {a : Addr} {x : ExceptionTableEntry} {ci : ClassId} {cell : Cell} {meth : Method} {code : Code} (hm : S.vm.method? f.method = some meth) (hc : meth.code = some code) (hT : code.exceptionTable.toList = [x]) (hx : covers x f.pc = true) (h0 : x.catchType ≠ 0)
    (hl : S.vm.ClassLinks e.platform f.method.cls x.catchType ci) (hcell : S.heap[a]? = some cell) (hobj : ∀ k, cell.vm ≠ .statics k) (hk : ∃ k, S.vm.classes[cell.cls]? = some k) (hci : ∃ k, S.vm.classes[ci]? = some k) (hfit : S.vm.assignable cell.cls ci = true)
    (Q : Handler → Pre) (E : CtlPost) (d : Bool) (acts : List Action) : wp (findHandler f a) Q E e d acts S ↔ Q (.found x.handlerPc) d acts (S.setVm (S.vm.noted f.method.cls x.catchType (.cls ci))) := by
  rw [W.findHandler_eq hm hc, hT]
  simp only [covers] at hx
  obtain ⟨r1, r2⟩ := (resolveClass_links e.toSetting hl).op (op := VmOp.resolveClass f.method.cls x.catchType) rfl
  have ha : S.vm.Alike (S.vm.noted f.method.cls x.catchType (.cls ci)) := (Vm.Alike.refl S.vm).noted _ _ _
  obtain ⟨k1, hk1⟩ := hk
  obtain ⟨k2, hk2⟩ := hci
  obtain ⟨k3, hk3, -⟩ := ha.2.2 _ _ hk1
  obtain ⟨k4, hk4, -⟩ := ha.2.2 _ _ hk2
  have hfit' : (S.vm.noted f.method.cls x.catchType (.cls ci)).assignable cell.cls ci = true := by rw [ha.assignable]; exact hfit
  simp [findHandler.go, hx, h0, r1, r2, hcell, hobj, hk3, hk4, hfit', VmOp.dirties, VmOp.acts]
theorem ev_catch {own name E : String} {ce : Cell} {q : Addr} {pc : Nat} (hown : s.vm.findClass own = some m.cls) (x : ExceptionTableEntry) (hT : c.exceptionTable.toList = [x]) (hx : covers x pc = true) (h0 : x.catchType ≠ 0)
    (hlink : (Cond.classLink own x.catchType name).before args s = true) (hcast : (Cond.castable E name).before args s = true) (hcell : H[q]? = some ce) (hv : ce.vm = .none) (hcl : s.vm.findClass E = some ce.cls)
    (kk : W p l e R s m args below meth c H locs cells slots Q (F0 m x.handlerPc ls [.ref q])) : vx_W p l e R s m args below meth c H locs cells slots Q (F0 m pc ls rest) q := by
  intro T hT0 X
  have hpl : e.platform.magicAccessors = ({} : Platform).magicAccessors := by rw [X.admits.platform]
  obtain ⟨c3, c4, g3, g4, hasg⟩ := Cond.castable_spec hcast
  cases Option.some.inj (g3.symm.trans hcl)
  obtain ⟨c5, g5, hcl5⟩ := Cond.classLink_spec hown hlink e.platform hpl
  cases Option.some.inj (g4.symm.trans g5)
  obtain ⟨dk, _, _, kt, hd, _, _, _, _, hkt, _, hopen⟩ := hcl5.here
  obtain ⟨k9, h9, -⟩ := Vm.findClass_spec hcl
  have hW := X.warmed
  obtain ⟨k9', h9', -⟩ := hW.alike.2.2 _ _ h9
  obtain ⟨kt', hkt', -⟩ := hW.alike.2.2 _ _ hkt
  have hW' := hW.noted hd hopen (State.rightAt_cls hcl5)
  obtain ⟨t, a1, b1⟩ := kk (T.setVm (T.vm.noted m.cls x.catchType (.cls c4))) hT0 (X.noted hW')
  refine ⟨t, ?_, b1⟩
  have hfind := ev_find (e := e) (S := (T.setTop (F0 m pc ls rest)).pushFrame (.throwing q)) (f := F0 m pc ls rest) (a := q) (x := x) (ci := c4) (cell := ce) (meth := meth) (code := c) X.method' X.code hT hx h0 (hW.classLinks hcl5) (by show T.heap[q]? = _; rw [hT0]; exact hcell) (fun k hk => by rw [hv] at hk; cases hk) ⟨k9', h9'⟩ ⟨kt', hkt'⟩ (by show T.vm.assignable _ _ = true; rw [hW.alike.assignable]; exact hasg)
  obtain ⟨hgo, hww⟩ := X.here.throwing (g := F0 m pc ls rest) q
  refine Steps.head hgo hww ?_
  have key : (stepThrowing e ((T.setTop (F0 m pc ls rest)).pushFrame (.throwing q)) q (.java (F0 m pc ls rest) :: T.frames.tail)).Is ((((T.setTop (F0 m pc ls rest)).pushFrame (.throwing q)).setVm (T.vm.noted m.cls x.catchType (.cls c4))).setFrames (.java (F0 m x.handlerPc ls [.ref q]) :: T.frames.tail)) [] := by
    simp only [stepThrowing, searchFrame, vmDo]
    generalize hr : Sem.go _ e false [] _ = res
    obtain ⟨as, rfl, ha⟩ := Sem.eq_ok_of hr (a := Handler.found x.handlerPc) (s' := ((T.setTop (F0 m pc ls rest)).pushFrame (.throwing q)).setVm (T.vm.noted m.cls x.catchType (.cls c4))) (acts' := []) (by simp [hfind]; rfl)
    exact ⟨rfl, ha⟩
  rw [stepThread_throwing (frames_entered X.here.top _), key.1]
  obtain ⟨g₀, hg⟩ := Option.isSome_iff_exists.mp X.here.top
  obtain ⟨r, hr⟩ := State.topJava?_eq_some.mp hg
  have hr' : (T.setVm (T.vm.noted m.cls x.catchType (.cls c4))).frames = .java g₀ :: r := hr
  rw [State.setTop_of_frames _ hr'] at a1
  rw [hr, List.tail_cons, State.pushFrame, State.setTop_of_frames _ hr]
  have e1 : ∀ (u : State) (F G K : List Frame) (vm' : Vm), (((u.setFrames F).setFrames G).setVm vm').setFrames K = (u.setVm vm').setFrames K := fun u F G K vm' => by
    have h1 : ((u.setFrames F).setFrames G).setVm vm' = ((u.setVm vm').setFrames F).setFrames G := rfl
    rw [h1, State.setFrames_setFrames, State.setFrames_setFrames]
  rw [e1]
  exact a1
end EVD
end
