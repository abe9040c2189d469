section
-- ===== PART A: goes FIRST, ahead of the names: the tables' words, and 'selects' of the private methods out of them =====
/-- a private method of a class that the tables say can be made, by its rows of tables_1 -/
def lw_okq (q : MethodName × Nat) : Prop := (q.1.cls ≠ "java/lang/invoke/MethodHandle" ∧ q.1.cls ≠ "java/lang/invoke/VarHandle") ∧ Cond.instantiable q.1.cls q.2 ∈ tables_1 ∧ Cond.privateMethod q.1 ∈ tables_1 ∧ Cond.instanceMethod q.1 ∈ tables_1
theorem lw_p0 : lw_okq (⟨"TypeLevels", "readDefinition", "()I"⟩, 15) := ⟨⟨by decide +kernel, by decide +kernel⟩, List.mem_of_getElem? (i := 25) (by decide +kernel), List.mem_of_getElem? (i := 430) (by decide +kernel), List.mem_of_getElem? (i := 431) (by decide +kernel)⟩
theorem lw_p1 : lw_okq (⟨"TypeLevels$Reader", "expression", "(I)I"⟩, 6) := ⟨⟨by decide +kernel, by decide +kernel⟩, List.mem_of_getElem? (i := 72) (by decide +kernel), List.mem_of_getElem? (i := 448) (by decide +kernel), List.mem_of_getElem? (i := 449) (by decide +kernel)⟩
theorem lw_p2 : lw_okq (⟨"TypeLevels$Reader", "peek", "()I"⟩, 6) := ⟨⟨by decide +kernel, by decide +kernel⟩, List.mem_of_getElem? (i := 72) (by decide +kernel), List.mem_of_getElem? (i := 452) (by decide +kernel), List.mem_of_getElem? (i := 453) (by decide +kernel)⟩
theorem lw_p3 : lw_okq (⟨"TypeLevels$Reader", "binder", "(III)I"⟩, 6) := ⟨⟨by decide +kernel, by decide +kernel⟩, List.mem_of_getElem? (i := 72) (by decide +kernel), List.mem_of_getElem? (i := 456) (by decide +kernel), List.mem_of_getElem? (i := 457) (by decide +kernel)⟩
theorem lw_p4 : lw_okq (⟨"TypeLevels$Reader", "opens", "(I)Z"⟩, 6) := ⟨⟨by decide +kernel, by decide +kernel⟩, List.mem_of_getElem? (i := 72) (by decide +kernel), List.mem_of_getElem? (i := 460) (by decide +kernel), List.mem_of_getElem? (i := 461) (by decide +kernel)⟩
theorem lw_p5 : lw_okq (⟨"TypeLevels$Reader", "refuse", "()V"⟩, 6) := ⟨⟨by decide +kernel, by decide +kernel⟩, List.mem_of_getElem? (i := 72) (by decide +kernel), List.mem_of_getElem? (i := 464) (by decide +kernel), List.mem_of_getElem? (i := 465) (by decide +kernel)⟩
theorem lw_p6 : lw_okq (⟨"TypeLevels$Reader", "boundLetter", "()I"⟩, 6) := ⟨⟨by decide +kernel, by decide +kernel⟩, List.mem_of_getElem? (i := 72) (by decide +kernel), List.mem_of_getElem? (i := 468) (by decide +kernel), List.mem_of_getElem? (i := 469) (by decide +kernel)⟩
theorem lw_p7 : lw_okq (⟨"TypeLevels$Reader", "expect", "(I)V"⟩, 6) := ⟨⟨by decide +kernel, by decide +kernel⟩, List.mem_of_getElem? (i := 72) (by decide +kernel), List.mem_of_getElem? (i := 475) (by decide +kernel), List.mem_of_getElem? (i := 476) (by decide +kernel)⟩
theorem lw_p8 : lw_okq (⟨"TypeLevels$Reader", "let", "(I)I"⟩, 6) := ⟨⟨by decide +kernel, by decide +kernel⟩, List.mem_of_getElem? (i := 72) (by decide +kernel), List.mem_of_getElem? (i := 487) (by decide +kernel), List.mem_of_getElem? (i := 488) (by decide +kernel)⟩
theorem lw_p9 : lw_okq (⟨"TypeLevels$Reader", "assignment", "(I)I"⟩, 6) := ⟨⟨by decide +kernel, by decide +kernel⟩, List.mem_of_getElem? (i := 72) (by decide +kernel), List.mem_of_getElem? (i := 491) (by decide +kernel), List.mem_of_getElem? (i := 492) (by decide +kernel)⟩
theorem lw_p10 : lw_okq (⟨"TypeLevels$Reader", "comparison", "(I)I"⟩, 6) := ⟨⟨by decide +kernel, by decide +kernel⟩, List.mem_of_getElem? (i := 72) (by decide +kernel), List.mem_of_getElem? (i := 495) (by decide +kernel), List.mem_of_getElem? (i := 496) (by decide +kernel)⟩
theorem lw_p11 : lw_okq (⟨"TypeLevels$Reader", "sum", "(I)I"⟩, 6) := ⟨⟨by decide +kernel, by decide +kernel⟩, List.mem_of_getElem? (i := 72) (by decide +kernel), List.mem_of_getElem? (i := 499) (by decide +kernel), List.mem_of_getElem? (i := 500) (by decide +kernel)⟩
theorem lw_p12 : lw_okq (⟨"TypeLevels$Reader", "term", "(I)I"⟩, 6) := ⟨⟨by decide +kernel, by decide +kernel⟩, List.mem_of_getElem? (i := 72) (by decide +kernel), List.mem_of_getElem? (i := 503) (by decide +kernel), List.mem_of_getElem? (i := 504) (by decide +kernel)⟩
theorem lw_p13 : lw_okq (⟨"TypeLevels$Reader", "factor", "(I)I"⟩, 6) := ⟨⟨by decide +kernel, by decide +kernel⟩, List.mem_of_getElem? (i := 72) (by decide +kernel), List.mem_of_getElem? (i := 507) (by decide +kernel), List.mem_of_getElem? (i := 508) (by decide +kernel)⟩
theorem lw_p14 : lw_okq (⟨"TypeLevels$Reader", "inside", "(I)I"⟩, 6) := ⟨⟨by decide +kernel, by decide +kernel⟩, List.mem_of_getElem? (i := 72) (by decide +kernel), List.mem_of_getElem? (i := 511) (by decide +kernel), List.mem_of_getElem? (i := 512) (by decide +kernel)⟩
theorem lw_p15 : lw_okq (⟨"TypeLevels$Reader", "pair", "(I)I"⟩, 6) := ⟨⟨by decide +kernel, by decide +kernel⟩, List.mem_of_getElem? (i := 72) (by decide +kernel), List.mem_of_getElem? (i := 515) (by decide +kernel), List.mem_of_getElem? (i := 516) (by decide +kernel)⟩
def lw_privs_1 : List (MethodName × Nat) := [(⟨"TypeLevels", "readDefinition", "()I"⟩, 15), (⟨"TypeLevels$Reader", "expression", "(I)I"⟩, 6), (⟨"TypeLevels$Reader", "peek", "()I"⟩, 6), (⟨"TypeLevels$Reader", "binder", "(III)I"⟩, 6), (⟨"TypeLevels$Reader", "opens", "(I)Z"⟩, 6), (⟨"TypeLevels$Reader", "refuse", "()V"⟩, 6), (⟨"TypeLevels$Reader", "boundLetter", "()I"⟩, 6), (⟨"TypeLevels$Reader", "expect", "(I)V"⟩, 6), (⟨"TypeLevels$Reader", "let", "(I)I"⟩, 6), (⟨"TypeLevels$Reader", "assignment", "(I)I"⟩, 6), (⟨"TypeLevels$Reader", "comparison", "(I)I"⟩, 6), (⟨"TypeLevels$Reader", "sum", "(I)I"⟩, 6), (⟨"TypeLevels$Reader", "term", "(I)I"⟩, 6), (⟨"TypeLevels$Reader", "factor", "(I)I"⟩, 6), (⟨"TypeLevels$Reader", "inside", "(I)I"⟩, 6), (⟨"TypeLevels$Reader", "pair", "(I)I"⟩, 6)]
theorem lw_r1 : ∀ q ∈ lw_privs_1, lw_okq q := List.forall_mem_cons.mpr ⟨lw_p0, List.forall_mem_cons.mpr ⟨lw_p1, List.forall_mem_cons.mpr ⟨lw_p2, List.forall_mem_cons.mpr ⟨lw_p3, List.forall_mem_cons.mpr ⟨lw_p4, List.forall_mem_cons.mpr ⟨lw_p5, List.forall_mem_cons.mpr ⟨lw_p6, List.forall_mem_cons.mpr ⟨lw_p7, List.forall_mem_cons.mpr ⟨lw_p8, List.forall_mem_cons.mpr ⟨lw_p9, List.forall_mem_cons.mpr ⟨lw_p10, List.forall_mem_cons.mpr ⟨lw_p11, List.forall_mem_cons.mpr ⟨lw_p12, List.forall_mem_cons.mpr ⟨lw_p13, List.forall_mem_cons.mpr ⟨lw_p14, List.forall_mem_cons.mpr ⟨lw_p15, fun _ h => absurd h List.not_mem_nil⟩⟩⟩⟩⟩⟩⟩⟩⟩⟩⟩⟩⟩⟩⟩⟩
theorem lw_p16 : lw_okq (⟨"TypeLevels$Reader", "condition", "(I)I"⟩, 6) := ⟨⟨by decide +kernel, by decide +kernel⟩, List.mem_of_getElem? (i := 72) (by decide +kernel), List.mem_of_getElem? (i := 519) (by decide +kernel), List.mem_of_getElem? (i := 520) (by decide +kernel)⟩
theorem lw_p17 : lw_okq (⟨"TypeLevels$Reader", "prefix", "(II)I"⟩, 6) := ⟨⟨by decide +kernel, by decide +kernel⟩, List.mem_of_getElem? (i := 72) (by decide +kernel), List.mem_of_getElem? (i := 523) (by decide +kernel), List.mem_of_getElem? (i := 524) (by decide +kernel)⟩
theorem lw_p18 : lw_okq (⟨"TypeLevels$Reader", "leaf", "(I)V"⟩, 6) := ⟨⟨by decide +kernel, by decide +kernel⟩, List.mem_of_getElem? (i := 72) (by decide +kernel), List.mem_of_getElem? (i := 527) (by decide +kernel), List.mem_of_getElem? (i := 528) (by decide +kernel)⟩
theorem lw_p19 : lw_okq (⟨"TypeLevels$Reader", "number", "()V"⟩, 6) := ⟨⟨by decide +kernel, by decide +kernel⟩, List.mem_of_getElem? (i := 72) (by decide +kernel), List.mem_of_getElem? (i := 534) (by decide +kernel), List.mem_of_getElem? (i := 535) (by decide +kernel)⟩
theorem lw_p20 : lw_okq (⟨"TypeLevels$Reader", "beginsFactor", "(I)Z"⟩, 6) := ⟨⟨by decide +kernel, by decide +kernel⟩, List.mem_of_getElem? (i := 72) (by decide +kernel), List.mem_of_getElem? (i := 538) (by decide +kernel), List.mem_of_getElem? (i := 539) (by decide +kernel)⟩
theorem lw_p21 : lw_okq (⟨"TypeLevels", "findIn", "(I)I"⟩, 15) := ⟨⟨by decide +kernel, by decide +kernel⟩, List.mem_of_getElem? (i := 25) (by decide +kernel), List.mem_of_getElem? (i := 550) (by decide +kernel), List.mem_of_getElem? (i := 551) (by decide +kernel)⟩
theorem lw_p22 : lw_okq (⟨"TypeLevels$Finder", "begin", "(LTypeLevels$Table;I)V"⟩, 18) := ⟨⟨by decide +kernel, by decide +kernel⟩, List.mem_of_getElem? (i := 207) (by decide +kernel), List.mem_of_getElem? (i := 558) (by decide +kernel), List.mem_of_getElem? (i := 559) (by decide +kernel)⟩
theorem lw_p23 : lw_okq (⟨"TypeLevels$Finder", "letter", "(I)V"⟩, 18) := ⟨⟨by decide +kernel, by decide +kernel⟩, List.mem_of_getElem? (i := 207) (by decide +kernel), List.mem_of_getElem? (i := 602) (by decide +kernel), List.mem_of_getElem? (i := 603) (by decide +kernel)⟩
theorem lw_p24 : lw_okq (⟨"TypeLevels$Store", "builtLeaf", "(I)I"⟩, 20) := ⟨⟨by decide +kernel, by decide +kernel⟩, List.mem_of_getElem? (i := 97) (by decide +kernel), List.mem_of_getElem? (i := 611) (by decide +kernel), List.mem_of_getElem? (i := 612) (by decide +kernel)⟩
theorem lw_p25 : lw_okq (⟨"TypeLevels$Finder", "found", "(IZ)V"⟩, 18) := ⟨⟨by decide +kernel, by decide +kernel⟩, List.mem_of_getElem? (i := 207) (by decide +kernel), List.mem_of_getElem? (i := 615) (by decide +kernel), List.mem_of_getElem? (i := 616) (by decide +kernel)⟩
theorem lw_p26 : lw_okq (⟨"TypeLevels$Store", "root", "(I)I"⟩, 20) := ⟨⟨by decide +kernel, by decide +kernel⟩, List.mem_of_getElem? (i := 97) (by decide +kernel), List.mem_of_getElem? (i := 623) (by decide +kernel), List.mem_of_getElem? (i := 624) (by decide +kernel)⟩
theorem lw_p27 : lw_okq (⟨"TypeLevels$Store", "pushParts", "(II)I"⟩, 20) := ⟨⟨by decide +kernel, by decide +kernel⟩, List.mem_of_getElem? (i := 97) (by decide +kernel), List.mem_of_getElem? (i := 627) (by decide +kernel), List.mem_of_getElem? (i := 628) (by decide +kernel)⟩
theorem lw_p28 : lw_okq (⟨"TypeLevels$Finder", "fail", "(I)V"⟩, 18) := ⟨⟨by decide +kernel, by decide +kernel⟩, List.mem_of_getElem? (i := 207) (by decide +kernel), List.mem_of_getElem? (i := 631) (by decide +kernel), List.mem_of_getElem? (i := 632) (by decide +kernel)⟩
theorem lw_p29 : lw_okq (⟨"TypeLevels$Table", "has", "(I)Z"⟩, 12) := ⟨⟨by decide +kernel, by decide +kernel⟩, List.mem_of_getElem? (i := 164) (by decide +kernel), List.mem_of_getElem? (i := 644) (by decide +kernel), List.mem_of_getElem? (i := 645) (by decide +kernel)⟩
theorem lw_p30 : lw_okq (⟨"TypeLevels$Finder", "bind", "(II)V"⟩, 18) := ⟨⟨by decide +kernel, by decide +kernel⟩, List.mem_of_getElem? (i := 207) (by decide +kernel), List.mem_of_getElem? (i := 657) (by decide +kernel), List.mem_of_getElem? (i := 658) (by decide +kernel)⟩
theorem lw_p31 : lw_okq (⟨"TypeLevels$Finder", "closeFunction", "()V"⟩, 18) := ⟨⟨by decide +kernel, by decide +kernel⟩, List.mem_of_getElem? (i := 207) (by decide +kernel), List.mem_of_getElem? (i := 661) (by decide +kernel), List.mem_of_getElem? (i := 662) (by decide +kernel)⟩
def lw_privs_2 : List (MethodName × Nat) := [(⟨"TypeLevels$Reader", "condition", "(I)I"⟩, 6), (⟨"TypeLevels$Reader", "prefix", "(II)I"⟩, 6), (⟨"TypeLevels$Reader", "leaf", "(I)V"⟩, 6), (⟨"TypeLevels$Reader", "number", "()V"⟩, 6), (⟨"TypeLevels$Reader", "beginsFactor", "(I)Z"⟩, 6), (⟨"TypeLevels", "findIn", "(I)I"⟩, 15), (⟨"TypeLevels$Finder", "begin", "(LTypeLevels$Table;I)V"⟩, 18), (⟨"TypeLevels$Finder", "letter", "(I)V"⟩, 18), (⟨"TypeLevels$Store", "builtLeaf", "(I)I"⟩, 20), (⟨"TypeLevels$Finder", "found", "(IZ)V"⟩, 18), (⟨"TypeLevels$Store", "root", "(I)I"⟩, 20), (⟨"TypeLevels$Store", "pushParts", "(II)I"⟩, 20), (⟨"TypeLevels$Finder", "fail", "(I)V"⟩, 18), (⟨"TypeLevels$Table", "has", "(I)Z"⟩, 12), (⟨"TypeLevels$Finder", "bind", "(II)V"⟩, 18), (⟨"TypeLevels$Finder", "closeFunction", "()V"⟩, 18)]
theorem lw_r2 : ∀ q ∈ lw_privs_2, lw_okq q := List.forall_mem_cons.mpr ⟨lw_p16, List.forall_mem_cons.mpr ⟨lw_p17, List.forall_mem_cons.mpr ⟨lw_p18, List.forall_mem_cons.mpr ⟨lw_p19, List.forall_mem_cons.mpr ⟨lw_p20, List.forall_mem_cons.mpr ⟨lw_p21, List.forall_mem_cons.mpr ⟨lw_p22, List.forall_mem_cons.mpr ⟨lw_p23, List.forall_mem_cons.mpr ⟨lw_p24, List.forall_mem_cons.mpr ⟨lw_p25, List.forall_mem_cons.mpr ⟨lw_p26, List.forall_mem_cons.mpr ⟨lw_p27, List.forall_mem_cons.mpr ⟨lw_p28, List.forall_mem_cons.mpr ⟨lw_p29, List.forall_mem_cons.mpr ⟨lw_p30, List.forall_mem_cons.mpr ⟨lw_p31, fun _ h => absurd h List.not_mem_nil⟩⟩⟩⟩⟩⟩⟩⟩⟩⟩⟩⟩⟩⟩⟩⟩
theorem lw_p32 : lw_okq (⟨"TypeLevels$Finder", "take", "()I"⟩, 18) := ⟨⟨by decide +kernel, by decide +kernel⟩, List.mem_of_getElem? (i := 207) (by decide +kernel), List.mem_of_getElem? (i := 665) (by decide +kernel), List.mem_of_getElem? (i := 666) (by decide +kernel)⟩
theorem lw_p33 : lw_okq (⟨"TypeLevels$Finder", "unbind", "()I"⟩, 18) := ⟨⟨by decide +kernel, by decide +kernel⟩, List.mem_of_getElem? (i := 207) (by decide +kernel), List.mem_of_getElem? (i := 669) (by decide +kernel), List.mem_of_getElem? (i := 670) (by decide +kernel)⟩
theorem lw_p34 : lw_okq (⟨"TypeLevels$Finder", "closeItself", "()V"⟩, 18) := ⟨⟨by decide +kernel, by decide +kernel⟩, List.mem_of_getElem? (i := 207) (by decide +kernel), List.mem_of_getElem? (i := 674) (by decide +kernel), List.mem_of_getElem? (i := 675) (by decide +kernel)⟩
theorem lw_p35 : lw_okq (⟨"TypeLevels$Store", "merge", "(II)V"⟩, 20) := ⟨⟨by decide +kernel, by decide +kernel⟩, List.mem_of_getElem? (i := 97) (by decide +kernel), List.mem_of_getElem? (i := 683) (by decide +kernel), List.mem_of_getElem? (i := 684) (by decide +kernel)⟩
theorem lw_p36 : lw_okq (⟨"TypeLevels$Store", "link", "(II)I"⟩, 20) := ⟨⟨by decide +kernel, by decide +kernel⟩, List.mem_of_getElem? (i := 97) (by decide +kernel), List.mem_of_getElem? (i := 687) (by decide +kernel), List.mem_of_getElem? (i := 688) (by decide +kernel)⟩
theorem lw_p37 : lw_okq (⟨"TypeLevels$Store", "contains", "(II)Z"⟩, 20) := ⟨⟨by decide +kernel, by decide +kernel⟩, List.mem_of_getElem? (i := 97) (by decide +kernel), List.mem_of_getElem? (i := 691) (by decide +kernel), List.mem_of_getElem? (i := 692) (by decide +kernel)⟩
theorem lw_p38 : lw_okq (⟨"TypeLevels$Store", "pushPairs", "(III)I"⟩, 20) := ⟨⟨by decide +kernel, by decide +kernel⟩, List.mem_of_getElem? (i := 97) (by decide +kernel), List.mem_of_getElem? (i := 695) (by decide +kernel), List.mem_of_getElem? (i := 696) (by decide +kernel)⟩
theorem lw_p39 : lw_okq (⟨"TypeLevels$Finder", "bindLet", "(I)V"⟩, 18) := ⟨⟨by decide +kernel, by decide +kernel⟩, List.mem_of_getElem? (i := 207) (by decide +kernel), List.mem_of_getElem? (i := 699) (by decide +kernel), List.mem_of_getElem? (i := 700) (by decide +kernel)⟩
theorem lw_p40 : lw_okq (⟨"TypeLevels$Finder", "labelAround", "()V"⟩, 18) := ⟨⟨by decide +kernel, by decide +kernel⟩, List.mem_of_getElem? (i := 207) (by decide +kernel), List.mem_of_getElem? (i := 710) (by decide +kernel), List.mem_of_getElem? (i := 711) (by decide +kernel)⟩
theorem lw_p41 : lw_okq (⟨"TypeLevels$Store", "labelOf", "(I)I"⟩, 20) := ⟨⟨by decide +kernel, by decide +kernel⟩, List.mem_of_getElem? (i := 97) (by decide +kernel), List.mem_of_getElem? (i := 722) (by decide +kernel), List.mem_of_getElem? (i := 723) (by decide +kernel)⟩
theorem lw_p42 : lw_okq (⟨"TypeLevels$Finder", "closeLet", "()V"⟩, 18) := ⟨⟨by decide +kernel, by decide +kernel⟩, List.mem_of_getElem? (i := 207) (by decide +kernel), List.mem_of_getElem? (i := 726) (by decide +kernel), List.mem_of_getElem? (i := 727) (by decide +kernel)⟩
theorem lw_p43 : lw_okq (⟨"TypeLevels$Finder", "closeCondition", "()V"⟩, 18) := ⟨⟨by decide +kernel, by decide +kernel⟩, List.mem_of_getElem? (i := 207) (by decide +kernel), List.mem_of_getElem? (i := 730) (by decide +kernel), List.mem_of_getElem? (i := 731) (by decide +kernel)⟩
theorem lw_p44 : lw_okq (⟨"TypeLevels$Finder", "top", "()I"⟩, 18) := ⟨⟨by decide +kernel, by decide +kernel⟩, List.mem_of_getElem? (i := 207) (by decide +kernel), List.mem_of_getElem? (i := 734) (by decide +kernel), List.mem_of_getElem? (i := 735) (by decide +kernel)⟩
theorem lw_p45 : lw_okq (⟨"TypeLevels$Finder", "closeInts", "(I)V"⟩, 18) := ⟨⟨by decide +kernel, by decide +kernel⟩, List.mem_of_getElem? (i := 207) (by decide +kernel), List.mem_of_getElem? (i := 738) (by decide +kernel), List.mem_of_getElem? (i := 739) (by decide +kernel)⟩
theorem lw_p46 : lw_okq (⟨"TypeLevels$Finder", "write", "()V"⟩, 18) := ⟨⟨by decide +kernel, by decide +kernel⟩, List.mem_of_getElem? (i := 207) (by decide +kernel), List.mem_of_getElem? (i := 742) (by decide +kernel), List.mem_of_getElem? (i := 743) (by decide +kernel)⟩
theorem lw_p47 : lw_okq (⟨"TypeLevels$Finder", "takePart", "(Z)V"⟩, 18) := ⟨⟨by decide +kernel, by decide +kernel⟩, List.mem_of_getElem? (i := 207) (by decide +kernel), List.mem_of_getElem? (i := 746) (by decide +kernel), List.mem_of_getElem? (i := 747) (by decide +kernel)⟩
def lw_privs_3 : List (MethodName × Nat) := [(⟨"TypeLevels$Finder", "take", "()I"⟩, 18), (⟨"TypeLevels$Finder", "unbind", "()I"⟩, 18), (⟨"TypeLevels$Finder", "closeItself", "()V"⟩, 18), (⟨"TypeLevels$Store", "merge", "(II)V"⟩, 20), (⟨"TypeLevels$Store", "link", "(II)I"⟩, 20), (⟨"TypeLevels$Store", "contains", "(II)Z"⟩, 20), (⟨"TypeLevels$Store", "pushPairs", "(III)I"⟩, 20), (⟨"TypeLevels$Finder", "bindLet", "(I)V"⟩, 18), (⟨"TypeLevels$Finder", "labelAround", "()V"⟩, 18), (⟨"TypeLevels$Store", "labelOf", "(I)I"⟩, 20), (⟨"TypeLevels$Finder", "closeLet", "()V"⟩, 18), (⟨"TypeLevels$Finder", "closeCondition", "()V"⟩, 18), (⟨"TypeLevels$Finder", "top", "()I"⟩, 18), (⟨"TypeLevels$Finder", "closeInts", "(I)V"⟩, 18), (⟨"TypeLevels$Finder", "write", "()V"⟩, 18), (⟨"TypeLevels$Finder", "takePart", "(Z)V"⟩, 18)]
theorem lw_r3 : ∀ q ∈ lw_privs_3, lw_okq q := List.forall_mem_cons.mpr ⟨lw_p32, List.forall_mem_cons.mpr ⟨lw_p33, List.forall_mem_cons.mpr ⟨lw_p34, List.forall_mem_cons.mpr ⟨lw_p35, List.forall_mem_cons.mpr ⟨lw_p36, List.forall_mem_cons.mpr ⟨lw_p37, List.forall_mem_cons.mpr ⟨lw_p38, List.forall_mem_cons.mpr ⟨lw_p39, List.forall_mem_cons.mpr ⟨lw_p40, List.forall_mem_cons.mpr ⟨lw_p41, List.forall_mem_cons.mpr ⟨lw_p42, List.forall_mem_cons.mpr ⟨lw_p43, List.forall_mem_cons.mpr ⟨lw_p44, List.forall_mem_cons.mpr ⟨lw_p45, List.forall_mem_cons.mpr ⟨lw_p46, List.forall_mem_cons.mpr ⟨lw_p47, fun _ h => absurd h List.not_mem_nil⟩⟩⟩⟩⟩⟩⟩⟩⟩⟩⟩⟩⟩⟩⟩⟩
theorem lw_p48 : lw_okq (⟨"TypeLevels$Finder", "readCell", "()V"⟩, 18) := ⟨⟨by decide +kernel, by decide +kernel⟩, List.mem_of_getElem? (i := 207) (by decide +kernel), List.mem_of_getElem? (i := 750) (by decide +kernel), List.mem_of_getElem? (i := 751) (by decide +kernel)⟩
theorem lw_p49 : lw_okq (⟨"TypeLevels$Finder", "pair", "()V"⟩, 18) := ⟨⟨by decide +kernel, by decide +kernel⟩, List.mem_of_getElem? (i := 207) (by decide +kernel), List.mem_of_getElem? (i := 754) (by decide +kernel), List.mem_of_getElem? (i := 755) (by decide +kernel)⟩
theorem lw_p50 : lw_okq (⟨"TypeLevels$Finder", "apply", "()V"⟩, 18) := ⟨⟨by decide +kernel, by decide +kernel⟩, List.mem_of_getElem? (i := 207) (by decide +kernel), List.mem_of_getElem? (i := 758) (by decide +kernel), List.mem_of_getElem? (i := 759) (by decide +kernel)⟩
theorem lw_p51 : lw_okq (⟨"TypeLevels", "tellFault", "()V"⟩, 15) := ⟨⟨by decide +kernel, by decide +kernel⟩, List.mem_of_getElem? (i := 25) (by decide +kernel), List.mem_of_getElem? (i := 762) (by decide +kernel), List.mem_of_getElem? (i := 763) (by decide +kernel)⟩
theorem lw_p52 : lw_okq (⟨"TypeLevels$Table", "prepareRow", "(I)I"⟩, 12) := ⟨⟨by decide +kernel, by decide +kernel⟩, List.mem_of_getElem? (i := 164) (by decide +kernel), List.mem_of_getElem? (i := 797) (by decide +kernel), List.mem_of_getElem? (i := 798) (by decide +kernel)⟩
theorem lw_p53 : lw_okq (⟨"TypeLevels", "tellDefinition", "(I)I"⟩, 15) := ⟨⟨by decide +kernel, by decide +kernel⟩, List.mem_of_getElem? (i := 25) (by decide +kernel), List.mem_of_getElem? (i := 832) (by decide +kernel), List.mem_of_getElem? (i := 833) (by decide +kernel)⟩
theorem lw_p54 : lw_okq (⟨"TypeLevels$Table", "shrink", "(I)V"⟩, 12) := ⟨⟨by decide +kernel, by decide +kernel⟩, List.mem_of_getElem? (i := 164) (by decide +kernel), List.mem_of_getElem? (i := 860) (by decide +kernel), List.mem_of_getElem? (i := 861) (by decide +kernel)⟩
theorem lw_p55 : lw_okq (⟨"TypeLevels", "readText", "(Z)I"⟩, 15) := ⟨⟨by decide +kernel, by decide +kernel⟩, List.mem_of_getElem? (i := 25) (by decide +kernel), List.mem_of_getElem? (i := 874) (by decide +kernel), List.mem_of_getElem? (i := 875) (by decide +kernel)⟩
theorem lw_p56 : lw_okq (⟨"TypeLevels", "typeOf", "(I)I"⟩, 15) := ⟨⟨by decide +kernel, by decide +kernel⟩, List.mem_of_getElem? (i := 25) (by decide +kernel), List.mem_of_getElem? (i := 878) (by decide +kernel), List.mem_of_getElem? (i := 879) (by decide +kernel)⟩
theorem lw_p57 : lw_okq (⟨"TypeLevels", "tellType", "(I)I"⟩, 15) := ⟨⟨by decide +kernel, by decide +kernel⟩, List.mem_of_getElem? (i := 25) (by decide +kernel), List.mem_of_getElem? (i := 882) (by decide +kernel), List.mem_of_getElem? (i := 883) (by decide +kernel)⟩
theorem lw_p58 : lw_okq (⟨"TypeLevels$Among", "meets", "(II)Z"⟩, 4) := ⟨⟨by decide +kernel, by decide +kernel⟩, List.mem_of_getElem? (i := 353) (by decide +kernel), List.mem_of_getElem? (i := 925) (by decide +kernel), List.mem_of_getElem? (i := 926) (by decide +kernel)⟩
theorem lw_p59 : lw_okq (⟨"TypeLevels$Among", "standsFor", "(III)Z"⟩, 4) := ⟨⟨by decide +kernel, by decide +kernel⟩, List.mem_of_getElem? (i := 353) (by decide +kernel), List.mem_of_getElem? (i := 966) (by decide +kernel), List.mem_of_getElem? (i := 967) (by decide +kernel)⟩
theorem lw_p60 : lw_okq (⟨"TypeLevels", "readAsked", "(I)I"⟩, 15) := ⟨⟨by decide +kernel, by decide +kernel⟩, List.mem_of_getElem? (i := 25) (by decide +kernel), List.mem_of_getElem? (i := 985) (by decide +kernel), List.mem_of_getElem? (i := 986) (by decide +kernel)⟩
theorem lw_p61 : lw_okq (⟨"TypeLevels$Among", "leads", "(IIII)Z"⟩, 4) := ⟨⟨by decide +kernel, by decide +kernel⟩, List.mem_of_getElem? (i := 353) (by decide +kernel), List.mem_of_getElem? (i := 1007) (by decide +kernel), List.mem_of_getElem? (i := 1008) (by decide +kernel)⟩
theorem lw_p62 : lw_okq (⟨"TypeLevels$Machine", "letter", "(I)I"⟩, 15) := ⟨⟨by decide +kernel, by decide +kernel⟩, List.mem_of_getElem? (i := 269) (by decide +kernel), List.mem_of_getElem? (i := 1055) (by decide +kernel), List.mem_of_getElem? (i := 1056) (by decide +kernel)⟩
theorem lw_p63 : lw_okq (⟨"TypeLevels$Machine", "heapAt", "(I)I"⟩, 15) := ⟨⟨by decide +kernel, by decide +kernel⟩, List.mem_of_getElem? (i := 269) (by decide +kernel), List.mem_of_getElem? (i := 1059) (by decide +kernel), List.mem_of_getElem? (i := 1060) (by decide +kernel)⟩
def lw_privs_4 : List (MethodName × Nat) := [(⟨"TypeLevels$Finder", "readCell", "()V"⟩, 18), (⟨"TypeLevels$Finder", "pair", "()V"⟩, 18), (⟨"TypeLevels$Finder", "apply", "()V"⟩, 18), (⟨"TypeLevels", "tellFault", "()V"⟩, 15), (⟨"TypeLevels$Table", "prepareRow", "(I)I"⟩, 12), (⟨"TypeLevels", "tellDefinition", "(I)I"⟩, 15), (⟨"TypeLevels$Table", "shrink", "(I)V"⟩, 12), (⟨"TypeLevels", "readText", "(Z)I"⟩, 15), (⟨"TypeLevels", "typeOf", "(I)I"⟩, 15), (⟨"TypeLevels", "tellType", "(I)I"⟩, 15), (⟨"TypeLevels$Among", "meets", "(II)Z"⟩, 4), (⟨"TypeLevels$Among", "standsFor", "(III)Z"⟩, 4), (⟨"TypeLevels", "readAsked", "(I)I"⟩, 15), (⟨"TypeLevels$Among", "leads", "(IIII)Z"⟩, 4), (⟨"TypeLevels$Machine", "letter", "(I)I"⟩, 15), (⟨"TypeLevels$Machine", "heapAt", "(I)I"⟩, 15)]
theorem lw_r4 : ∀ q ∈ lw_privs_4, lw_okq q := List.forall_mem_cons.mpr ⟨lw_p48, List.forall_mem_cons.mpr ⟨lw_p49, List.forall_mem_cons.mpr ⟨lw_p50, List.forall_mem_cons.mpr ⟨lw_p51, List.forall_mem_cons.mpr ⟨lw_p52, List.forall_mem_cons.mpr ⟨lw_p53, List.forall_mem_cons.mpr ⟨lw_p54, List.forall_mem_cons.mpr ⟨lw_p55, List.forall_mem_cons.mpr ⟨lw_p56, List.forall_mem_cons.mpr ⟨lw_p57, List.forall_mem_cons.mpr ⟨lw_p58, List.forall_mem_cons.mpr ⟨lw_p59, List.forall_mem_cons.mpr ⟨lw_p60, List.forall_mem_cons.mpr ⟨lw_p61, List.forall_mem_cons.mpr ⟨lw_p62, List.forall_mem_cons.mpr ⟨lw_p63, fun _ h => absurd h List.not_mem_nil⟩⟩⟩⟩⟩⟩⟩⟩⟩⟩⟩⟩⟩⟩⟩⟩
theorem lw_p64 : lw_okq (⟨"TypeLevels$Machine", "standsFor", "(I)I"⟩, 15) := ⟨⟨by decide +kernel, by decide +kernel⟩, List.mem_of_getElem? (i := 269) (by decide +kernel), List.mem_of_getElem? (i := 1063) (by decide +kernel), List.mem_of_getElem? (i := 1064) (by decide +kernel)⟩
theorem lw_p65 : lw_okq (⟨"TypeLevels$Machine", "push", "(II)V"⟩, 15) := ⟨⟨by decide +kernel, by decide +kernel⟩, List.mem_of_getElem? (i := 269) (by decide +kernel), List.mem_of_getElem? (i := 1067) (by decide +kernel), List.mem_of_getElem? (i := 1068) (by decide +kernel)⟩
theorem lw_p66 : lw_okq (⟨"TypeLevels$Machine", "stop", "(I)V"⟩, 15) := ⟨⟨by decide +kernel, by decide +kernel⟩, List.mem_of_getElem? (i := 269) (by decide +kernel), List.mem_of_getElem? (i := 1071) (by decide +kernel), List.mem_of_getElem? (i := 1072) (by decide +kernel)⟩
theorem lw_p67 : lw_okq (⟨"TypeLevels$Machine", "step", "()V"⟩, 15) := ⟨⟨by decide +kernel, by decide +kernel⟩, List.mem_of_getElem? (i := 269) (by decide +kernel), List.mem_of_getElem? (i := 1075) (by decide +kernel), List.mem_of_getElem? (i := 1076) (by decide +kernel)⟩
theorem lw_p68 : lw_okq (⟨"TypeLevels$Machine", "enter", "(I)V"⟩, 15) := ⟨⟨by decide +kernel, by decide +kernel⟩, List.mem_of_getElem? (i := 269) (by decide +kernel), List.mem_of_getElem? (i := 1079) (by decide +kernel), List.mem_of_getElem? (i := 1080) (by decide +kernel)⟩
theorem lw_p69 : lw_okq (⟨"TypeLevels$Machine", "openFunction", "()I"⟩, 15) := ⟨⟨by decide +kernel, by decide +kernel⟩, List.mem_of_getElem? (i := 269) (by decide +kernel), List.mem_of_getElem? (i := 1083) (by decide +kernel), List.mem_of_getElem? (i := 1084) (by decide +kernel)⟩
theorem lw_p70 : lw_okq (⟨"TypeLevels$Machine", "take", "(I)I"⟩, 15) := ⟨⟨by decide +kernel, by decide +kernel⟩, List.mem_of_getElem? (i := 269) (by decide +kernel), List.mem_of_getElem? (i := 1087) (by decide +kernel), List.mem_of_getElem? (i := 1088) (by decide +kernel)⟩
theorem lw_p71 : lw_okq (⟨"TypeLevels$Machine", "put", "(III)V"⟩, 15) := ⟨⟨by decide +kernel, by decide +kernel⟩, List.mem_of_getElem? (i := 269) (by decide +kernel), List.mem_of_getElem? (i := 1091) (by decide +kernel), List.mem_of_getElem? (i := 1092) (by decide +kernel)⟩
theorem lw_p72 : lw_okq (⟨"TypeLevels$Machine", "openItself", "(I)V"⟩, 15) := ⟨⟨by decide +kernel, by decide +kernel⟩, List.mem_of_getElem? (i := 269) (by decide +kernel), List.mem_of_getElem? (i := 1099) (by decide +kernel), List.mem_of_getElem? (i := 1100) (by decide +kernel)⟩
theorem lw_p73 : lw_okq (⟨"TypeLevels$Machine", "surround", "(IIII)I"⟩, 15) := ⟨⟨by decide +kernel, by decide +kernel⟩, List.mem_of_getElem? (i := 269) (by decide +kernel), List.mem_of_getElem? (i := 1103) (by decide +kernel), List.mem_of_getElem? (i := 1104) (by decide +kernel)⟩
theorem lw_p74 : lw_okq (⟨"TypeLevels$Machine", "leave", "()I"⟩, 15) := ⟨⟨by decide +kernel, by decide +kernel⟩, List.mem_of_getElem? (i := 269) (by decide +kernel), List.mem_of_getElem? (i := 1107) (by decide +kernel), List.mem_of_getElem? (i := 1108) (by decide +kernel)⟩
theorem lw_p75 : lw_okq (⟨"TypeLevels$Machine", "bindLet", "(I)V"⟩, 15) := ⟨⟨by decide +kernel, by decide +kernel⟩, List.mem_of_getElem? (i := 269) (by decide +kernel), List.mem_of_getElem? (i := 1111) (by decide +kernel), List.mem_of_getElem? (i := 1112) (by decide +kernel)⟩
theorem lw_p76 : lw_okq (⟨"TypeLevels$Machine", "pop", "()V"⟩, 15) := ⟨⟨by decide +kernel, by decide +kernel⟩, List.mem_of_getElem? (i := 269) (by decide +kernel), List.mem_of_getElem? (i := 1115) (by decide +kernel), List.mem_of_getElem? (i := 1116) (by decide +kernel)⟩
theorem lw_p77 : lw_okq (⟨"TypeLevels$Machine", "test", "()I"⟩, 15) := ⟨⟨by decide +kernel, by decide +kernel⟩, List.mem_of_getElem? (i := 269) (by decide +kernel), List.mem_of_getElem? (i := 1119) (by decide +kernel), List.mem_of_getElem? (i := 1120) (by decide +kernel)⟩
theorem lw_p78 : lw_okq (⟨"TypeLevels$Machine", "compute", "(I)V"⟩, 15) := ⟨⟨by decide +kernel, by decide +kernel⟩, List.mem_of_getElem? (i := 269) (by decide +kernel), List.mem_of_getElem? (i := 1123) (by decide +kernel), List.mem_of_getElem? (i := 1124) (by decide +kernel)⟩
theorem lw_p79 : lw_okq (⟨"TypeLevels$Machine", "write", "()V"⟩, 15) := ⟨⟨by decide +kernel, by decide +kernel⟩, List.mem_of_getElem? (i := 269) (by decide +kernel), List.mem_of_getElem? (i := 1127) (by decide +kernel), List.mem_of_getElem? (i := 1128) (by decide +kernel)⟩
def lw_privs_5 : List (MethodName × Nat) := [(⟨"TypeLevels$Machine", "standsFor", "(I)I"⟩, 15), (⟨"TypeLevels$Machine", "push", "(II)V"⟩, 15), (⟨"TypeLevels$Machine", "stop", "(I)V"⟩, 15), (⟨"TypeLevels$Machine", "step", "()V"⟩, 15), (⟨"TypeLevels$Machine", "enter", "(I)V"⟩, 15), (⟨"TypeLevels$Machine", "openFunction", "()I"⟩, 15), (⟨"TypeLevels$Machine", "take", "(I)I"⟩, 15), (⟨"TypeLevels$Machine", "put", "(III)V"⟩, 15), (⟨"TypeLevels$Machine", "openItself", "(I)V"⟩, 15), (⟨"TypeLevels$Machine", "surround", "(IIII)I"⟩, 15), (⟨"TypeLevels$Machine", "leave", "()I"⟩, 15), (⟨"TypeLevels$Machine", "bindLet", "(I)V"⟩, 15), (⟨"TypeLevels$Machine", "pop", "()V"⟩, 15), (⟨"TypeLevels$Machine", "test", "()I"⟩, 15), (⟨"TypeLevels$Machine", "compute", "(I)V"⟩, 15), (⟨"TypeLevels$Machine", "write", "()V"⟩, 15)]
theorem lw_r5 : ∀ q ∈ lw_privs_5, lw_okq q := List.forall_mem_cons.mpr ⟨lw_p64, List.forall_mem_cons.mpr ⟨lw_p65, List.forall_mem_cons.mpr ⟨lw_p66, List.forall_mem_cons.mpr ⟨lw_p67, List.forall_mem_cons.mpr ⟨lw_p68, List.forall_mem_cons.mpr ⟨lw_p69, List.forall_mem_cons.mpr ⟨lw_p70, List.forall_mem_cons.mpr ⟨lw_p71, List.forall_mem_cons.mpr ⟨lw_p72, List.forall_mem_cons.mpr ⟨lw_p73, List.forall_mem_cons.mpr ⟨lw_p74, List.forall_mem_cons.mpr ⟨lw_p75, List.forall_mem_cons.mpr ⟨lw_p76, List.forall_mem_cons.mpr ⟨lw_p77, List.forall_mem_cons.mpr ⟨lw_p78, List.forall_mem_cons.mpr ⟨lw_p79, fun _ h => absurd h List.not_mem_nil⟩⟩⟩⟩⟩⟩⟩⟩⟩⟩⟩⟩⟩⟩⟩⟩
theorem lw_p80 : lw_okq (⟨"TypeLevels$Machine", "takePart", "(I)V"⟩, 15) := ⟨⟨by decide +kernel, by decide +kernel⟩, List.mem_of_getElem? (i := 269) (by decide +kernel), List.mem_of_getElem? (i := 1131) (by decide +kernel), List.mem_of_getElem? (i := 1132) (by decide +kernel)⟩
theorem lw_p81 : lw_okq (⟨"TypeLevels$Machine", "makeCell", "()V"⟩, 15) := ⟨⟨by decide +kernel, by decide +kernel⟩, List.mem_of_getElem? (i := 269) (by decide +kernel), List.mem_of_getElem? (i := 1135) (by decide +kernel), List.mem_of_getElem? (i := 1136) (by decide +kernel)⟩
theorem lw_p82 : lw_okq (⟨"TypeLevels$Machine", "readCell", "()V"⟩, 15) := ⟨⟨by decide +kernel, by decide +kernel⟩, List.mem_of_getElem? (i := 269) (by decide +kernel), List.mem_of_getElem? (i := 1139) (by decide +kernel), List.mem_of_getElem? (i := 1140) (by decide +kernel)⟩
theorem lw_p83 : lw_okq (⟨"TypeLevels$Machine", "pair", "()V"⟩, 15) := ⟨⟨by decide +kernel, by decide +kernel⟩, List.mem_of_getElem? (i := 269) (by decide +kernel), List.mem_of_getElem? (i := 1143) (by decide +kernel), List.mem_of_getElem? (i := 1144) (by decide +kernel)⟩
theorem lw_p84 : lw_okq (⟨"TypeLevels$Machine", "apply", "()I"⟩, 15) := ⟨⟨by decide +kernel, by decide +kernel⟩, List.mem_of_getElem? (i := 269) (by decide +kernel), List.mem_of_getElem? (i := 1147) (by decide +kernel), List.mem_of_getElem? (i := 1148) (by decide +kernel)⟩
theorem lw_p85 : lw_okq (⟨"TypeLevels", "givesInts", "(I)Z"⟩, 15) := ⟨⟨by decide +kernel, by decide +kernel⟩, List.mem_of_getElem? (i := 25) (by decide +kernel), List.mem_of_getElem? (i := 1168) (by decide +kernel), List.mem_of_getElem? (i := 1169) (by decide +kernel)⟩
theorem lw_p86 : lw_okq (⟨"TypeLevels", "put", "(II)I"⟩, 15) := ⟨⟨by decide +kernel, by decide +kernel⟩, List.mem_of_getElem? (i := 25) (by decide +kernel), List.mem_of_getElem? (i := 1182) (by decide +kernel), List.mem_of_getElem? (i := 1183) (by decide +kernel)⟩
theorem lw_p87 : lw_okq (⟨"TypeLevels", "triedAnew", "(II)Z"⟩, 15) := ⟨⟨by decide +kernel, by decide +kernel⟩, List.mem_of_getElem? (i := 25) (by decide +kernel), List.mem_of_getElem? (i := 1283) (by decide +kernel), List.mem_of_getElem? (i := 1284) (by decide +kernel)⟩
theorem lw_p88 : lw_okq (⟨"java/lang/Throwable", "fillInStackTrace", "(I)Ljava/lang/Throwable;"⟩, 6) := ⟨⟨by decide +kernel, by decide +kernel⟩, List.mem_of_getElem? (i := 1345) (by decide +kernel), List.mem_of_getElem? (i := 1343) (by decide +kernel), List.mem_of_getElem? (i := 1344) (by decide +kernel)⟩
theorem lw_p89 : lw_okq (⟨"TypeLevels$Table", "isFirst", "(II)Z"⟩, 12) := ⟨⟨by decide +kernel, by decide +kernel⟩, List.mem_of_getElem? (i := 164) (by decide +kernel), List.mem_of_getElem? (i := 1380) (by decide +kernel), List.mem_of_getElem? (i := 1381) (by decide +kernel)⟩
theorem lw_p90 : lw_okq (⟨"TypeLevelsModel", "beginText", "(I)V"⟩, 76) := ⟨⟨by decide +kernel, by decide +kernel⟩, List.mem_of_getElem? (i := 1402) (by decide +kernel), List.mem_of_getElem? (i := 1657) (by decide +kernel), List.mem_of_getElem? (i := 1658) (by decide +kernel)⟩
theorem lw_p91 : lw_okq (⟨"TypeLevelsModel", "begin", "([BII)V"⟩, 76) := ⟨⟨by decide +kernel, by decide +kernel⟩, List.mem_of_getElem? (i := 1402) (by decide +kernel), List.mem_of_getElem? (i := 1661) (by decide +kernel), List.mem_of_getElem? (i := 1662) (by decide +kernel)⟩
theorem lw_p92 : lw_okq (⟨"TypeLevelsModel", "oneOf", "(CI)I"⟩, 76) := ⟨⟨by decide +kernel, by decide +kernel⟩, List.mem_of_getElem? (i := 1402) (by decide +kernel), List.mem_of_getElem? (i := 1665) (by decide +kernel), List.mem_of_getElem? (i := 1666) (by decide +kernel)⟩
theorem lw_p93 : lw_okq (⟨"TypeLevelsModel", "fine", "()Z"⟩, 76) := ⟨⟨by decide +kernel, by decide +kernel⟩, List.mem_of_getElem? (i := 1402) (by decide +kernel), List.mem_of_getElem? (i := 1669) (by decide +kernel), List.mem_of_getElem? (i := 1670) (by decide +kernel)⟩
theorem lw_p94 : lw_okq (⟨"TypeLevelsModel", "here", "()I"⟩, 76) := ⟨⟨by decide +kernel, by decide +kernel⟩, List.mem_of_getElem? (i := 1402) (by decide +kernel), List.mem_of_getElem? (i := 1673) (by decide +kernel), List.mem_of_getElem? (i := 1674) (by decide +kernel)⟩
theorem lw_p95 : lw_okq (⟨"TypeLevelsModel", "fault", "(I)V"⟩, 76) := ⟨⟨by decide +kernel, by decide +kernel⟩, List.mem_of_getElem? (i := 1402) (by decide +kernel), List.mem_of_getElem? (i := 1677) (by decide +kernel), List.mem_of_getElem? (i := 1678) (by decide +kernel)⟩
def lw_privs_6 : List (MethodName × Nat) := [(⟨"TypeLevels$Machine", "takePart", "(I)V"⟩, 15), (⟨"TypeLevels$Machine", "makeCell", "()V"⟩, 15), (⟨"TypeLevels$Machine", "readCell", "()V"⟩, 15), (⟨"TypeLevels$Machine", "pair", "()V"⟩, 15), (⟨"TypeLevels$Machine", "apply", "()I"⟩, 15), (⟨"TypeLevels", "givesInts", "(I)Z"⟩, 15), (⟨"TypeLevels", "put", "(II)I"⟩, 15), (⟨"TypeLevels", "triedAnew", "(II)Z"⟩, 15), (⟨"java/lang/Throwable", "fillInStackTrace", "(I)Ljava/lang/Throwable;"⟩, 6), (⟨"TypeLevels$Table", "isFirst", "(II)Z"⟩, 12), (⟨"TypeLevelsModel", "beginText", "(I)V"⟩, 76), (⟨"TypeLevelsModel", "begin", "([BII)V"⟩, 76), (⟨"TypeLevelsModel", "oneOf", "(CI)I"⟩, 76), (⟨"TypeLevelsModel", "fine", "()Z"⟩, 76), (⟨"TypeLevelsModel", "here", "()I"⟩, 76), (⟨"TypeLevelsModel", "fault", "(I)V"⟩, 76)]
theorem lw_r6 : ∀ q ∈ lw_privs_6, lw_okq q := List.forall_mem_cons.mpr ⟨lw_p80, List.forall_mem_cons.mpr ⟨lw_p81, List.forall_mem_cons.mpr ⟨lw_p82, List.forall_mem_cons.mpr ⟨lw_p83, List.forall_mem_cons.mpr ⟨lw_p84, List.forall_mem_cons.mpr ⟨lw_p85, List.forall_mem_cons.mpr ⟨lw_p86, List.forall_mem_cons.mpr ⟨lw_p87, List.forall_mem_cons.mpr ⟨lw_p88, List.forall_mem_cons.mpr ⟨lw_p89, List.forall_mem_cons.mpr ⟨lw_p90, List.forall_mem_cons.mpr ⟨lw_p91, List.forall_mem_cons.mpr ⟨lw_p92, List.forall_mem_cons.mpr ⟨lw_p93, List.forall_mem_cons.mpr ⟨lw_p94, List.forall_mem_cons.mpr ⟨lw_p95, fun _ h => absurd h List.not_mem_nil⟩⟩⟩⟩⟩⟩⟩⟩⟩⟩⟩⟩⟩⟩⟩⟩
theorem lw_p96 : lw_okq (⟨"TypeLevelsModel", "need", "(C)V"⟩, 76) := ⟨⟨by decide +kernel, by decide +kernel⟩, List.mem_of_getElem? (i := 1402) (by decide +kernel), List.mem_of_getElem? (i := 1681) (by decide +kernel), List.mem_of_getElem? (i := 1682) (by decide +kernel)⟩
theorem lw_p97 : lw_okq (⟨"TypeLevelsModel", "passes", "(C)Z"⟩, 76) := ⟨⟨by decide +kernel, by decide +kernel⟩, List.mem_of_getElem? (i := 1402) (by decide +kernel), List.mem_of_getElem? (i := 1685) (by decide +kernel), List.mem_of_getElem? (i := 1686) (by decide +kernel)⟩
theorem lw_p98 : lw_okq (⟨"TypeLevelsModel", "readAll", "(Z)I"⟩, 76) := ⟨⟨by decide +kernel, by decide +kernel⟩, List.mem_of_getElem? (i := 1402) (by decide +kernel), List.mem_of_getElem? (i := 1689) (by decide +kernel), List.mem_of_getElem? (i := 1690) (by decide +kernel)⟩
theorem lw_p99 : lw_okq (⟨"TypeLevelsModel", "expression", "()I"⟩, 76) := ⟨⟨by decide +kernel, by decide +kernel⟩, List.mem_of_getElem? (i := 1402) (by decide +kernel), List.mem_of_getElem? (i := 1693) (by decide +kernel), List.mem_of_getElem? (i := 1694) (by decide +kernel)⟩
theorem lw_p100 : lw_okq (⟨"TypeLevelsModel", "opens", "()Z"⟩, 76) := ⟨⟨by decide +kernel, by decide +kernel⟩, List.mem_of_getElem? (i := 1402) (by decide +kernel), List.mem_of_getElem? (i := 1697) (by decide +kernel), List.mem_of_getElem? (i := 1698) (by decide +kernel)⟩
theorem lw_p101 : lw_okq (⟨"TypeLevelsModel", "part", "(IIIII)I"⟩, 76) := ⟨⟨by decide +kernel, by decide +kernel⟩, List.mem_of_getElem? (i := 1402) (by decide +kernel), List.mem_of_getElem? (i := 1701) (by decide +kernel), List.mem_of_getElem? (i := 1702) (by decide +kernel)⟩
theorem lw_p102 : lw_okq (⟨"TypeLevelsModel", "comparison", "()I"⟩, 76) := ⟨⟨by decide +kernel, by decide +kernel⟩, List.mem_of_getElem? (i := 1402) (by decide +kernel), List.mem_of_getElem? (i := 1705) (by decide +kernel), List.mem_of_getElem? (i := 1706) (by decide +kernel)⟩
theorem lw_p103 : lw_okq (⟨"TypeLevelsModel", "sum", "()I"⟩, 76) := ⟨⟨by decide +kernel, by decide +kernel⟩, List.mem_of_getElem? (i := 1402) (by decide +kernel), List.mem_of_getElem? (i := 1709) (by decide +kernel), List.mem_of_getElem? (i := 1710) (by decide +kernel)⟩
theorem lw_p104 : lw_okq (⟨"TypeLevelsModel", "term", "()I"⟩, 76) := ⟨⟨by decide +kernel, by decide +kernel⟩, List.mem_of_getElem? (i := 1402) (by decide +kernel), List.mem_of_getElem? (i := 1713) (by decide +kernel), List.mem_of_getElem? (i := 1714) (by decide +kernel)⟩
theorem lw_p105 : lw_okq (⟨"TypeLevelsModel", "factor", "()I"⟩, 76) := ⟨⟨by decide +kernel, by decide +kernel⟩, List.mem_of_getElem? (i := 1402) (by decide +kernel), List.mem_of_getElem? (i := 1717) (by decide +kernel), List.mem_of_getElem? (i := 1718) (by decide +kernel)⟩
theorem lw_p106 : lw_okq (⟨"TypeLevelsModel", "isFactor", "(I)Z"⟩, 76) := ⟨⟨by decide +kernel, by decide +kernel⟩, List.mem_of_getElem? (i := 1402) (by decide +kernel), List.mem_of_getElem? (i := 1721) (by decide +kernel), List.mem_of_getElem? (i := 1722) (by decide +kernel)⟩
theorem lw_p107 : lw_okq (⟨"TypeLevelsModel", "number", "(I)I"⟩, 76) := ⟨⟨by decide +kernel, by decide +kernel⟩, List.mem_of_getElem? (i := 1402) (by decide +kernel), List.mem_of_getElem? (i := 1725) (by decide +kernel), List.mem_of_getElem? (i := 1726) (by decide +kernel)⟩
theorem lw_p108 : lw_okq (⟨"TypeLevelsModel", "opened", "(II)I"⟩, 76) := ⟨⟨by decide +kernel, by decide +kernel⟩, List.mem_of_getElem? (i := 1402) (by decide +kernel), List.mem_of_getElem? (i := 1729) (by decide +kernel), List.mem_of_getElem? (i := 1730) (by decide +kernel)⟩
theorem lw_p109 : lw_okq (⟨"TypeLevelsModel", "pairOf", "(III)I"⟩, 76) := ⟨⟨by decide +kernel, by decide +kernel⟩, List.mem_of_getElem? (i := 1402) (by decide +kernel), List.mem_of_getElem? (i := 1733) (by decide +kernel), List.mem_of_getElem? (i := 1734) (by decide +kernel)⟩
theorem lw_p110 : lw_okq (⟨"TypeLevelsModel", "wasRight", "()Z"⟩, 76) := ⟨⟨by decide +kernel, by decide +kernel⟩, List.mem_of_getElem? (i := 1402) (by decide +kernel), List.mem_of_getElem? (i := 1737) (by decide +kernel), List.mem_of_getElem? (i := 1738) (by decide +kernel)⟩
theorem lw_p111 : lw_okq (⟨"TypeLevelsModel", "goDefine", "([III[BII)I"⟩, 76) := ⟨⟨by decide +kernel, by decide +kernel⟩, List.mem_of_getElem? (i := 1402) (by decide +kernel), List.mem_of_getElem? (i := 1744) (by decide +kernel), List.mem_of_getElem? (i := 1745) (by decide +kernel)⟩
def lw_privs_7 : List (MethodName × Nat) := [(⟨"TypeLevelsModel", "need", "(C)V"⟩, 76), (⟨"TypeLevelsModel", "passes", "(C)Z"⟩, 76), (⟨"TypeLevelsModel", "readAll", "(Z)I"⟩, 76), (⟨"TypeLevelsModel", "expression", "()I"⟩, 76), (⟨"TypeLevelsModel", "opens", "()Z"⟩, 76), (⟨"TypeLevelsModel", "part", "(IIIII)I"⟩, 76), (⟨"TypeLevelsModel", "comparison", "()I"⟩, 76), (⟨"TypeLevelsModel", "sum", "()I"⟩, 76), (⟨"TypeLevelsModel", "term", "()I"⟩, 76), (⟨"TypeLevelsModel", "factor", "()I"⟩, 76), (⟨"TypeLevelsModel", "isFactor", "(I)Z"⟩, 76), (⟨"TypeLevelsModel", "number", "(I)I"⟩, 76), (⟨"TypeLevelsModel", "opened", "(II)I"⟩, 76), (⟨"TypeLevelsModel", "pairOf", "(III)I"⟩, 76), (⟨"TypeLevelsModel", "wasRight", "()Z"⟩, 76), (⟨"TypeLevelsModel", "goDefine", "([III[BII)I"⟩, 76)]
theorem lw_r7 : ∀ q ∈ lw_privs_7, lw_okq q := List.forall_mem_cons.mpr ⟨lw_p96, List.forall_mem_cons.mpr ⟨lw_p97, List.forall_mem_cons.mpr ⟨lw_p98, List.forall_mem_cons.mpr ⟨lw_p99, List.forall_mem_cons.mpr ⟨lw_p100, List.forall_mem_cons.mpr ⟨lw_p101, List.forall_mem_cons.mpr ⟨lw_p102, List.forall_mem_cons.mpr ⟨lw_p103, List.forall_mem_cons.mpr ⟨lw_p104, List.forall_mem_cons.mpr ⟨lw_p105, List.forall_mem_cons.mpr ⟨lw_p106, List.forall_mem_cons.mpr ⟨lw_p107, List.forall_mem_cons.mpr ⟨lw_p108, List.forall_mem_cons.mpr ⟨lw_p109, List.forall_mem_cons.mpr ⟨lw_p110, List.forall_mem_cons.mpr ⟨lw_p111, fun _ h => absurd h List.not_mem_nil⟩⟩⟩⟩⟩⟩⟩⟩⟩⟩⟩⟩⟩⟩⟩⟩
theorem lw_p112 : lw_okq (⟨"TypeLevelsModel", "findAll", "([II)I"⟩, 76) := ⟨⟨by decide +kernel, by decide +kernel⟩, List.mem_of_getElem? (i := 1402) (by decide +kernel), List.mem_of_getElem? (i := 1748) (by decide +kernel), List.mem_of_getElem? (i := 1749) (by decide +kernel)⟩
theorem lw_p113 : lw_okq (⟨"TypeLevelsModel", "beginTypes", "([I)V"⟩, 76) := ⟨⟨by decide +kernel, by decide +kernel⟩, List.mem_of_getElem? (i := 1402) (by decide +kernel), List.mem_of_getElem? (i := 1752) (by decide +kernel), List.mem_of_getElem? (i := 1753) (by decide +kernel)⟩
theorem lw_p114 : lw_okq (⟨"TypeLevelsModel", "variable", "()I"⟩, 76) := ⟨⟨by decide +kernel, by decide +kernel⟩, List.mem_of_getElem? (i := 1402) (by decide +kernel), List.mem_of_getElem? (i := 1760) (by decide +kernel), List.mem_of_getElem? (i := 1761) (by decide +kernel)⟩
theorem lw_p115 : lw_okq (⟨"TypeLevelsModel", "node", "(III)I"⟩, 76) := ⟨⟨by decide +kernel, by decide +kernel⟩, List.mem_of_getElem? (i := 1402) (by decide +kernel), List.mem_of_getElem? (i := 1764) (by decide +kernel), List.mem_of_getElem? (i := 1765) (by decide +kernel)⟩
theorem lw_p116 : lw_okq (⟨"TypeLevelsModel", "find", "(I)I"⟩, 76) := ⟨⟨by decide +kernel, by decide +kernel⟩, List.mem_of_getElem? (i := 1402) (by decide +kernel), List.mem_of_getElem? (i := 1768) (by decide +kernel), List.mem_of_getElem? (i := 1769) (by decide +kernel)⟩
theorem lw_p117 : lw_okq (⟨"TypeLevelsModel", "findOf", "(I)I"⟩, 76) := ⟨⟨by decide +kernel, by decide +kernel⟩, List.mem_of_getElem? (i := 1402) (by decide +kernel), List.mem_of_getElem? (i := 1772) (by decide +kernel), List.mem_of_getElem? (i := 1773) (by decide +kernel)⟩
theorem lw_p118 : lw_okq (⟨"TypeLevelsModel", "findLetter", "(I)I"⟩, 76) := ⟨⟨by decide +kernel, by decide +kernel⟩, List.mem_of_getElem? (i := 1402) (by decide +kernel), List.mem_of_getElem? (i := 1776) (by decide +kernel), List.mem_of_getElem? (i := 1777) (by decide +kernel)⟩
theorem lw_p119 : lw_okq (⟨"TypeLevelsModel", "nodesOf", "(II)I"⟩, 76) := ⟨⟨by decide +kernel, by decide +kernel⟩, List.mem_of_getElem? (i := 1402) (by decide +kernel), List.mem_of_getElem? (i := 1780) (by decide +kernel), List.mem_of_getElem? (i := 1781) (by decide +kernel)⟩
theorem lw_p120 : lw_okq (⟨"TypeLevelsModel", "now", "(I)I"⟩, 76) := ⟨⟨by decide +kernel, by decide +kernel⟩, List.mem_of_getElem? (i := 1402) (by decide +kernel), List.mem_of_getElem? (i := 1784) (by decide +kernel), List.mem_of_getElem? (i := 1785) (by decide +kernel)⟩
theorem lw_p121 : lw_okq (⟨"TypeLevelsModel", "anew", "(I)I"⟩, 76) := ⟨⟨by decide +kernel, by decide +kernel⟩, List.mem_of_getElem? (i := 1402) (by decide +kernel), List.mem_of_getElem? (i := 1788) (by decide +kernel), List.mem_of_getElem? (i := 1789) (by decide +kernel)⟩
theorem lw_p122 : lw_okq (⟨"TypeLevelsModel", "fails", "(II)V"⟩, 76) := ⟨⟨by decide +kernel, by decide +kernel⟩, List.mem_of_getElem? (i := 1402) (by decide +kernel), List.mem_of_getElem? (i := 1792) (by decide +kernel), List.mem_of_getElem? (i := 1793) (by decide +kernel)⟩
theorem lw_p123 : lw_okq (⟨"TypeLevelsModel", "instance", "(I)I"⟩, 76) := ⟨⟨by decide +kernel, by decide +kernel⟩, List.mem_of_getElem? (i := 1402) (by decide +kernel), List.mem_of_getElem? (i := 1796) (by decide +kernel), List.mem_of_getElem? (i := 1797) (by decide +kernel)⟩
theorem lw_p124 : lw_okq (⟨"TypeLevelsModel", "fromRow", "(I)I"⟩, 76) := ⟨⟨by decide +kernel, by decide +kernel⟩, List.mem_of_getElem? (i := 1402) (by decide +kernel), List.mem_of_getElem? (i := 1800) (by decide +kernel), List.mem_of_getElem? (i := 1801) (by decide +kernel)⟩
theorem lw_p125 : lw_okq (⟨"TypeLevelsModel", "within", "(III)I"⟩, 76) := ⟨⟨by decide +kernel, by decide +kernel⟩, List.mem_of_getElem? (i := 1402) (by decide +kernel), List.mem_of_getElem? (i := 1804) (by decide +kernel), List.mem_of_getElem? (i := 1805) (by decide +kernel)⟩
theorem lw_p126 : lw_okq (⟨"TypeLevelsModel", "make", "(III)V"⟩, 76) := ⟨⟨by decide +kernel, by decide +kernel⟩, List.mem_of_getElem? (i := 1402) (by decide +kernel), List.mem_of_getElem? (i := 1808) (by decide +kernel), List.mem_of_getElem? (i := 1809) (by decide +kernel)⟩
theorem lw_p127 : lw_okq (⟨"TypeLevelsModel", "makeOne", "(II)I"⟩, 76) := ⟨⟨by decide +kernel, by decide +kernel⟩, List.mem_of_getElem? (i := 1402) (by decide +kernel), List.mem_of_getElem? (i := 1812) (by decide +kernel), List.mem_of_getElem? (i := 1813) (by decide +kernel)⟩
def lw_privs_8 : List (MethodName × Nat) := [(⟨"TypeLevelsModel", "findAll", "([II)I"⟩, 76), (⟨"TypeLevelsModel", "beginTypes", "([I)V"⟩, 76), (⟨"TypeLevelsModel", "variable", "()I"⟩, 76), (⟨"TypeLevelsModel", "node", "(III)I"⟩, 76), (⟨"TypeLevelsModel", "find", "(I)I"⟩, 76), (⟨"TypeLevelsModel", "findOf", "(I)I"⟩, 76), (⟨"TypeLevelsModel", "findLetter", "(I)I"⟩, 76), (⟨"TypeLevelsModel", "nodesOf", "(II)I"⟩, 76), (⟨"TypeLevelsModel", "now", "(I)I"⟩, 76), (⟨"TypeLevelsModel", "anew", "(I)I"⟩, 76), (⟨"TypeLevelsModel", "fails", "(II)V"⟩, 76), (⟨"TypeLevelsModel", "instance", "(I)I"⟩, 76), (⟨"TypeLevelsModel", "fromRow", "(I)I"⟩, 76), (⟨"TypeLevelsModel", "within", "(III)I"⟩, 76), (⟨"TypeLevelsModel", "make", "(III)V"⟩, 76), (⟨"TypeLevelsModel", "makeOne", "(II)I"⟩, 76)]
theorem lw_r8 : ∀ q ∈ lw_privs_8, lw_okq q := List.forall_mem_cons.mpr ⟨lw_p112, List.forall_mem_cons.mpr ⟨lw_p113, List.forall_mem_cons.mpr ⟨lw_p114, List.forall_mem_cons.mpr ⟨lw_p115, List.forall_mem_cons.mpr ⟨lw_p116, List.forall_mem_cons.mpr ⟨lw_p117, List.forall_mem_cons.mpr ⟨lw_p118, List.forall_mem_cons.mpr ⟨lw_p119, List.forall_mem_cons.mpr ⟨lw_p120, List.forall_mem_cons.mpr ⟨lw_p121, List.forall_mem_cons.mpr ⟨lw_p122, List.forall_mem_cons.mpr ⟨lw_p123, List.forall_mem_cons.mpr ⟨lw_p124, List.forall_mem_cons.mpr ⟨lw_p125, List.forall_mem_cons.mpr ⟨lw_p126, List.forall_mem_cons.mpr ⟨lw_p127, fun _ h => absurd h List.not_mem_nil⟩⟩⟩⟩⟩⟩⟩⟩⟩⟩⟩⟩⟩⟩⟩⟩
theorem lw_p128 : lw_okq (⟨"TypeLevelsModel", "isIn", "(II)Z"⟩, 76) := ⟨⟨by decide +kernel, by decide +kernel⟩, List.mem_of_getElem? (i := 1402) (by decide +kernel), List.mem_of_getElem? (i := 1816) (by decide +kernel), List.mem_of_getElem? (i := 1817) (by decide +kernel)⟩
theorem lw_p129 : lw_okq (⟨"TypeLevelsModel", "findLet", "(I)I"⟩, 76) := ⟨⟨by decide +kernel, by decide +kernel⟩, List.mem_of_getElem? (i := 1402) (by decide +kernel), List.mem_of_getElem? (i := 1820) (by decide +kernel), List.mem_of_getElem? (i := 1821) (by decide +kernel)⟩
theorem lw_p130 : lw_okq (⟨"TypeLevelsModel", "isValue", "(I)Z"⟩, 76) := ⟨⟨by decide +kernel, by decide +kernel⟩, List.mem_of_getElem? (i := 1402) (by decide +kernel), List.mem_of_getElem? (i := 1827) (by decide +kernel), List.mem_of_getElem? (i := 1828) (by decide +kernel)⟩
theorem lw_p131 : lw_okq (⟨"TypeLevelsModel", "markAround", "()V"⟩, 76) := ⟨⟨by decide +kernel, by decide +kernel⟩, List.mem_of_getElem? (i := 1402) (by decide +kernel), List.mem_of_getElem? (i := 1831) (by decide +kernel), List.mem_of_getElem? (i := 1832) (by decide +kernel)⟩
theorem lw_p132 : lw_okq (⟨"TypeLevelsModel", "mark", "(I)V"⟩, 76) := ⟨⟨by decide +kernel, by decide +kernel⟩, List.mem_of_getElem? (i := 1402) (by decide +kernel), List.mem_of_getElem? (i := 1835) (by decide +kernel), List.mem_of_getElem? (i := 1836) (by decide +kernel)⟩
theorem lw_p133 : lw_okq (⟨"TypeLevelsModel", "free", "(II)V"⟩, 76) := ⟨⟨by decide +kernel, by decide +kernel⟩, List.mem_of_getElem? (i := 1402) (by decide +kernel), List.mem_of_getElem? (i := 1839) (by decide +kernel), List.mem_of_getElem? (i := 1840) (by decide +kernel)⟩
theorem lw_p134 : lw_okq (⟨"TypeLevelsModel", "findSum", "(II)I"⟩, 76) := ⟨⟨by decide +kernel, by decide +kernel⟩, List.mem_of_getElem? (i := 1402) (by decide +kernel), List.mem_of_getElem? (i := 1843) (by decide +kernel), List.mem_of_getElem? (i := 1844) (by decide +kernel)⟩
theorem lw_p135 : lw_okq (⟨"TypeLevelsModel", "findChoice", "(I)I"⟩, 76) := ⟨⟨by decide +kernel, by decide +kernel⟩, List.mem_of_getElem? (i := 1402) (by decide +kernel), List.mem_of_getElem? (i := 1847) (by decide +kernel), List.mem_of_getElem? (i := 1848) (by decide +kernel)⟩
theorem lw_p136 : lw_okq (⟨"TypeLevelsModel", "findTwo", "(I)I"⟩, 76) := ⟨⟨by decide +kernel, by decide +kernel⟩, List.mem_of_getElem? (i := 1402) (by decide +kernel), List.mem_of_getElem? (i := 1851) (by decide +kernel), List.mem_of_getElem? (i := 1852) (by decide +kernel)⟩
theorem lw_p137 : lw_okq (⟨"TypeLevelsModel", "beginRows", "()V"⟩, 76) := ⟨⟨by decide +kernel, by decide +kernel⟩, List.mem_of_getElem? (i := 1402) (by decide +kernel), List.mem_of_getElem? (i := 1855) (by decide +kernel), List.mem_of_getElem? (i := 1856) (by decide +kernel)⟩
theorem lw_p138 : lw_okq (⟨"TypeLevelsModel", "countWeak", "(I)V"⟩, 76) := ⟨⟨by decide +kernel, by decide +kernel⟩, List.mem_of_getElem? (i := 1402) (by decide +kernel), List.mem_of_getElem? (i := 1859) (by decide +kernel), List.mem_of_getElem? (i := 1860) (by decide +kernel)⟩
theorem lw_p139 : lw_okq (⟨"TypeLevelsModel", "layRow", "([II)Z"⟩, 76) := ⟨⟨by decide +kernel, by decide +kernel⟩, List.mem_of_getElem? (i := 1402) (by decide +kernel), List.mem_of_getElem? (i := 1863) (by decide +kernel), List.mem_of_getElem? (i := 1864) (by decide +kernel)⟩
theorem lw_p140 : lw_okq (⟨"TypeLevelsModel", "rowOf", "(I)V"⟩, 76) := ⟨⟨by decide +kernel, by decide +kernel⟩, List.mem_of_getElem? (i := 1402) (by decide +kernel), List.mem_of_getElem? (i := 1867) (by decide +kernel), List.mem_of_getElem? (i := 1868) (by decide +kernel)⟩
theorem lw_p141 : lw_okq (⟨"TypeLevelsModel", "keepRow", "(I)V"⟩, 76) := ⟨⟨by decide +kernel, by decide +kernel⟩, List.mem_of_getElem? (i := 1402) (by decide +kernel), List.mem_of_getElem? (i := 1871) (by decide +kernel), List.mem_of_getElem? (i := 1872) (by decide +kernel)⟩
theorem lw_p142 : lw_okq (⟨"TypeLevelsModel", "tellFault", "()I"⟩, 76) := ⟨⟨by decide +kernel, by decide +kernel⟩, List.mem_of_getElem? (i := 1402) (by decide +kernel), List.mem_of_getElem? (i := 1875) (by decide +kernel), List.mem_of_getElem? (i := 1876) (by decide +kernel)⟩
theorem lw_p143 : lw_okq (⟨"TypeLevelsModel", "tell", "(J)V"⟩, 76) := ⟨⟨by decide +kernel, by decide +kernel⟩, List.mem_of_getElem? (i := 1402) (by decide +kernel), List.mem_of_getElem? (i := 1879) (by decide +kernel), List.mem_of_getElem? (i := 1880) (by decide +kernel)⟩
def lw_privs_9 : List (MethodName × Nat) := [(⟨"TypeLevelsModel", "isIn", "(II)Z"⟩, 76), (⟨"TypeLevelsModel", "findLet", "(I)I"⟩, 76), (⟨"TypeLevelsModel", "isValue", "(I)Z"⟩, 76), (⟨"TypeLevelsModel", "markAround", "()V"⟩, 76), (⟨"TypeLevelsModel", "mark", "(I)V"⟩, 76), (⟨"TypeLevelsModel", "free", "(II)V"⟩, 76), (⟨"TypeLevelsModel", "findSum", "(II)I"⟩, 76), (⟨"TypeLevelsModel", "findChoice", "(I)I"⟩, 76), (⟨"TypeLevelsModel", "findTwo", "(I)I"⟩, 76), (⟨"TypeLevelsModel", "beginRows", "()V"⟩, 76), (⟨"TypeLevelsModel", "countWeak", "(I)V"⟩, 76), (⟨"TypeLevelsModel", "layRow", "([II)Z"⟩, 76), (⟨"TypeLevelsModel", "rowOf", "(I)V"⟩, 76), (⟨"TypeLevelsModel", "keepRow", "(I)V"⟩, 76), (⟨"TypeLevelsModel", "tellFault", "()I"⟩, 76), (⟨"TypeLevelsModel", "tell", "(J)V"⟩, 76)]
theorem lw_r9 : ∀ q ∈ lw_privs_9, lw_okq q := List.forall_mem_cons.mpr ⟨lw_p128, List.forall_mem_cons.mpr ⟨lw_p129, List.forall_mem_cons.mpr ⟨lw_p130, List.forall_mem_cons.mpr ⟨lw_p131, List.forall_mem_cons.mpr ⟨lw_p132, List.forall_mem_cons.mpr ⟨lw_p133, List.forall_mem_cons.mpr ⟨lw_p134, List.forall_mem_cons.mpr ⟨lw_p135, List.forall_mem_cons.mpr ⟨lw_p136, List.forall_mem_cons.mpr ⟨lw_p137, List.forall_mem_cons.mpr ⟨lw_p138, List.forall_mem_cons.mpr ⟨lw_p139, List.forall_mem_cons.mpr ⟨lw_p140, List.forall_mem_cons.mpr ⟨lw_p141, List.forall_mem_cons.mpr ⟨lw_p142, List.forall_mem_cons.mpr ⟨lw_p143, fun _ h => absurd h List.not_mem_nil⟩⟩⟩⟩⟩⟩⟩⟩⟩⟩⟩⟩⟩⟩⟩⟩
theorem lw_p144 : lw_okq (⟨"TypeLevelsModel", "remember", "()V"⟩, 76) := ⟨⟨by decide +kernel, by decide +kernel⟩, List.mem_of_getElem? (i := 1402) (by decide +kernel), List.mem_of_getElem? (i := 1883) (by decide +kernel), List.mem_of_getElem? (i := 1884) (by decide +kernel)⟩
theorem lw_p145 : lw_okq (⟨"TypeLevelsModel", "tellScheme", "(I)I"⟩, 76) := ⟨⟨by decide +kernel, by decide +kernel⟩, List.mem_of_getElem? (i := 1402) (by decide +kernel), List.mem_of_getElem? (i := 1887) (by decide +kernel), List.mem_of_getElem? (i := 1888) (by decide +kernel)⟩
theorem lw_p146 : lw_okq (⟨"TypeLevelsModel", "isName", "(I)Z"⟩, 76) := ⟨⟨by decide +kernel, by decide +kernel⟩, List.mem_of_getElem? (i := 1402) (by decide +kernel), List.mem_of_getElem? (i := 1903) (by decide +kernel), List.mem_of_getElem? (i := 1904) (by decide +kernel)⟩
theorem lw_p147 : lw_okq (⟨"TypeLevelsModel", "lost", "()I"⟩, 76) := ⟨⟨by decide +kernel, by decide +kernel⟩, List.mem_of_getElem? (i := 1402) (by decide +kernel), List.mem_of_getElem? (i := 1907) (by decide +kernel), List.mem_of_getElem? (i := 1908) (by decide +kernel)⟩
theorem lw_p148 : lw_okq (⟨"TypeLevelsModel", "readText", "(Z)I"⟩, 76) := ⟨⟨by decide +kernel, by decide +kernel⟩, List.mem_of_getElem? (i := 1402) (by decide +kernel), List.mem_of_getElem? (i := 1928) (by decide +kernel), List.mem_of_getElem? (i := 1929) (by decide +kernel)⟩
theorem lw_p149 : lw_okq (⟨"TypeLevelsModel", "tellFound", "(I)I"⟩, 76) := ⟨⟨by decide +kernel, by decide +kernel⟩, List.mem_of_getElem? (i := 1402) (by decide +kernel), List.mem_of_getElem? (i := 1932) (by decide +kernel), List.mem_of_getElem? (i := 1933) (by decide +kernel)⟩
theorem lw_p150 : lw_okq (⟨"TypeLevelsModel", "tellType", "(I)I"⟩, 76) := ⟨⟨by decide +kernel, by decide +kernel⟩, List.mem_of_getElem? (i := 1402) (by decide +kernel), List.mem_of_getElem? (i := 1936) (by decide +kernel), List.mem_of_getElem? (i := 1937) (by decide +kernel)⟩
theorem lw_p151 : lw_okq (⟨"TypeLevelsModel", "isSame", "(III)Z"⟩, 76) := ⟨⟨by decide +kernel, by decide +kernel⟩, List.mem_of_getElem? (i := 1402) (by decide +kernel), List.mem_of_getElem? (i := 1957) (by decide +kernel), List.mem_of_getElem? (i := 1958) (by decide +kernel)⟩
theorem lw_p152 : lw_okq (⟨"TypeLevelsModel", "typeOf", "(Ljava/lang/String;II)I"⟩, 76) := ⟨⟨by decide +kernel, by decide +kernel⟩, List.mem_of_getElem? (i := 1402) (by decide +kernel), List.mem_of_getElem? (i := 1970) (by decide +kernel), List.mem_of_getElem? (i := 1971) (by decide +kernel)⟩
theorem lw_p153 : lw_okq (⟨"TypeLevelsModel", "layWay", "(IIII)Z"⟩, 76) := ⟨⟨by decide +kernel, by decide +kernel⟩, List.mem_of_getElem? (i := 1402) (by decide +kernel), List.mem_of_getElem? (i := 2036) (by decide +kernel), List.mem_of_getElem? (i := 2037) (by decide +kernel)⟩
theorem lw_p154 : lw_okq (⟨"TypeLevelsModel", "goes", "(III)Z"⟩, 76) := ⟨⟨by decide +kernel, by decide +kernel⟩, List.mem_of_getElem? (i := 1402) (by decide +kernel), List.mem_of_getElem? (i := 2040) (by decide +kernel), List.mem_of_getElem? (i := 2041) (by decide +kernel)⟩
theorem lw_p155 : lw_okq (⟨"TypeLevelsModel", "run", "(I)I"⟩, 76) := ⟨⟨by decide +kernel, by decide +kernel⟩, List.mem_of_getElem? (i := 1402) (by decide +kernel), List.mem_of_getElem? (i := 2059) (by decide +kernel), List.mem_of_getElem? (i := 2060) (by decide +kernel)⟩
theorem lw_p156 : lw_okq (⟨"TypeLevelsModel", "readDefinition", "(I)I"⟩, 76) := ⟨⟨by decide +kernel, by decide +kernel⟩, List.mem_of_getElem? (i := 1402) (by decide +kernel), List.mem_of_getElem? (i := 2063) (by decide +kernel), List.mem_of_getElem? (i := 2064) (by decide +kernel)⟩
theorem lw_p157 : lw_okq (⟨"TypeLevelsModel", "begins", "(II)V"⟩, 76) := ⟨⟨by decide +kernel, by decide +kernel⟩, List.mem_of_getElem? (i := 1402) (by decide +kernel), List.mem_of_getElem? (i := 2067) (by decide +kernel), List.mem_of_getElem? (i := 2068) (by decide +kernel)⟩
theorem lw_p158 : lw_okq (⟨"TypeLevelsModel", "goPart", "()V"⟩, 76) := ⟨⟨by decide +kernel, by decide +kernel⟩, List.mem_of_getElem? (i := 1402) (by decide +kernel), List.mem_of_getElem? (i := 2071) (by decide +kernel), List.mem_of_getElem? (i := 2072) (by decide +kernel)⟩
theorem lw_p159 : lw_okq (⟨"TypeLevelsModel", "goLetter", "(I)V"⟩, 76) := ⟨⟨by decide +kernel, by decide +kernel⟩, List.mem_of_getElem? (i := 1402) (by decide +kernel), List.mem_of_getElem? (i := 2075) (by decide +kernel), List.mem_of_getElem? (i := 2076) (by decide +kernel)⟩
def lw_privs_10 : List (MethodName × Nat) := [(⟨"TypeLevelsModel", "remember", "()V"⟩, 76), (⟨"TypeLevelsModel", "tellScheme", "(I)I"⟩, 76), (⟨"TypeLevelsModel", "isName", "(I)Z"⟩, 76), (⟨"TypeLevelsModel", "lost", "()I"⟩, 76), (⟨"TypeLevelsModel", "readText", "(Z)I"⟩, 76), (⟨"TypeLevelsModel", "tellFound", "(I)I"⟩, 76), (⟨"TypeLevelsModel", "tellType", "(I)I"⟩, 76), (⟨"TypeLevelsModel", "isSame", "(III)Z"⟩, 76), (⟨"TypeLevelsModel", "typeOf", "(Ljava/lang/String;II)I"⟩, 76), (⟨"TypeLevelsModel", "layWay", "(IIII)Z"⟩, 76), (⟨"TypeLevelsModel", "goes", "(III)Z"⟩, 76), (⟨"TypeLevelsModel", "run", "(I)I"⟩, 76), (⟨"TypeLevelsModel", "readDefinition", "(I)I"⟩, 76), (⟨"TypeLevelsModel", "begins", "(II)V"⟩, 76), (⟨"TypeLevelsModel", "goPart", "()V"⟩, 76), (⟨"TypeLevelsModel", "goLetter", "(I)V"⟩, 76)]
theorem lw_r10 : ∀ q ∈ lw_privs_10, lw_okq q := List.forall_mem_cons.mpr ⟨lw_p144, List.forall_mem_cons.mpr ⟨lw_p145, List.forall_mem_cons.mpr ⟨lw_p146, List.forall_mem_cons.mpr ⟨lw_p147, List.forall_mem_cons.mpr ⟨lw_p148, List.forall_mem_cons.mpr ⟨lw_p149, List.forall_mem_cons.mpr ⟨lw_p150, List.forall_mem_cons.mpr ⟨lw_p151, List.forall_mem_cons.mpr ⟨lw_p152, List.forall_mem_cons.mpr ⟨lw_p153, List.forall_mem_cons.mpr ⟨lw_p154, List.forall_mem_cons.mpr ⟨lw_p155, List.forall_mem_cons.mpr ⟨lw_p156, List.forall_mem_cons.mpr ⟨lw_p157, List.forall_mem_cons.mpr ⟨lw_p158, List.forall_mem_cons.mpr ⟨lw_p159, fun _ h => absurd h List.not_mem_nil⟩⟩⟩⟩⟩⟩⟩⟩⟩⟩⟩⟩⟩⟩⟩⟩
theorem lw_p160 : lw_okq (⟨"TypeLevelsModel", "step", "()V"⟩, 76) := ⟨⟨by decide +kernel, by decide +kernel⟩, List.mem_of_getElem? (i := 1402) (by decide +kernel), List.mem_of_getElem? (i := 2079) (by decide +kernel), List.mem_of_getElem? (i := 2080) (by decide +kernel)⟩
theorem lw_p161 : lw_okq (⟨"TypeLevelsModel", "gets", "(III)V"⟩, 76) := ⟨⟨by decide +kernel, by decide +kernel⟩, List.mem_of_getElem? (i := 1402) (by decide +kernel), List.mem_of_getElem? (i := 2083) (by decide +kernel), List.mem_of_getElem? (i := 2084) (by decide +kernel)⟩
theorem lw_p162 : lw_okq (⟨"TypeLevelsModel", "scope", "(IIIII)I"⟩, 76) := ⟨⟨by decide +kernel, by decide +kernel⟩, List.mem_of_getElem? (i := 1402) (by decide +kernel), List.mem_of_getElem? (i := 2087) (by decide +kernel), List.mem_of_getElem? (i := 2088) (by decide +kernel)⟩
theorem lw_p163 : lw_okq (⟨"TypeLevelsModel", "push", "(III)V"⟩, 76) := ⟨⟨by decide +kernel, by decide +kernel⟩, List.mem_of_getElem? (i := 1402) (by decide +kernel), List.mem_of_getElem? (i := 2091) (by decide +kernel), List.mem_of_getElem? (i := 2092) (by decide +kernel)⟩
theorem lw_p164 : lw_okq (⟨"TypeLevelsModel", "goValue", "()V"⟩, 76) := ⟨⟨by decide +kernel, by decide +kernel⟩, List.mem_of_getElem? (i := 1402) (by decide +kernel), List.mem_of_getElem? (i := 2095) (by decide +kernel), List.mem_of_getElem? (i := 2096) (by decide +kernel)⟩
theorem lw_p165 : lw_okq (⟨"TypeLevelsModel", "goTwo", "(III)V"⟩, 76) := ⟨⟨by decide +kernel, by decide +kernel⟩, List.mem_of_getElem? (i := 1402) (by decide +kernel), List.mem_of_getElem? (i := 2102) (by decide +kernel), List.mem_of_getElem? (i := 2103) (by decide +kernel)⟩
theorem lw_p166 : lw_okq (⟨"TypeLevelsModel", "goOne", "(I)V"⟩, 76) := ⟨⟨by decide +kernel, by decide +kernel⟩, List.mem_of_getElem? (i := 1402) (by decide +kernel), List.mem_of_getElem? (i := 2106) (by decide +kernel), List.mem_of_getElem? (i := 2107) (by decide +kernel)⟩
theorem lw_p167 : lw_okq (⟨"TypeLevelsModel", "tellValue", "(I)V"⟩, 76) := ⟨⟨by decide +kernel, by decide +kernel⟩, List.mem_of_getElem? (i := 1402) (by decide +kernel), List.mem_of_getElem? (i := 2110) (by decide +kernel), List.mem_of_getElem? (i := 2111) (by decide +kernel)⟩
theorem lw_p168 : lw_okq (⟨"TypeLevelsModel", "giveOf", "(II)I"⟩, 76) := ⟨⟨by decide +kernel, by decide +kernel⟩, List.mem_of_getElem? (i := 1402) (by decide +kernel), List.mem_of_getElem? (i := 2118) (by decide +kernel), List.mem_of_getElem? (i := 2119) (by decide +kernel)⟩
theorem lw_p169 : lw_okq (⟨"TypeLevelsModel", "fitting", "()I"⟩, 76) := ⟨⟨by decide +kernel, by decide +kernel⟩, List.mem_of_getElem? (i := 1402) (by decide +kernel), List.mem_of_getElem? (i := 2141) (by decide +kernel), List.mem_of_getElem? (i := 2142) (by decide +kernel)⟩
theorem lw_p170 : lw_okq (⟨"TypeLevelsModel", "isSo", "(III)Z"⟩, 76) := ⟨⟨by decide +kernel, by decide +kernel⟩, List.mem_of_getElem? (i := 1402) (by decide +kernel), List.mem_of_getElem? (i := 2145) (by decide +kernel), List.mem_of_getElem? (i := 2146) (by decide +kernel)⟩
theorem lw_p171 : lw_okq (⟨"TypeLevelsModel", "names", "()I"⟩, 76) := ⟨⟨by decide +kernel, by decide +kernel⟩, List.mem_of_getElem? (i := 1402) (by decide +kernel), List.mem_of_getElem? (i := 2163) (by decide +kernel), List.mem_of_getElem? (i := 2164) (by decide +kernel)⟩
theorem lw_p172 : lw_okq (⟨"TypeLevelsModel", "nodesOfAll", "()I"⟩, 76) := ⟨⟨by decide +kernel, by decide +kernel⟩, List.mem_of_getElem? (i := 1402) (by decide +kernel), List.mem_of_getElem? (i := 2167) (by decide +kernel), List.mem_of_getElem? (i := 2168) (by decide +kernel)⟩
def lw_privs_11 : List (MethodName × Nat) := [(⟨"TypeLevelsModel", "step", "()V"⟩, 76), (⟨"TypeLevelsModel", "gets", "(III)V"⟩, 76), (⟨"TypeLevelsModel", "scope", "(IIIII)I"⟩, 76), (⟨"TypeLevelsModel", "push", "(III)V"⟩, 76), (⟨"TypeLevelsModel", "goValue", "()V"⟩, 76), (⟨"TypeLevelsModel", "goTwo", "(III)V"⟩, 76), (⟨"TypeLevelsModel", "goOne", "(I)V"⟩, 76), (⟨"TypeLevelsModel", "tellValue", "(I)V"⟩, 76), (⟨"TypeLevelsModel", "giveOf", "(II)I"⟩, 76), (⟨"TypeLevelsModel", "fitting", "()I"⟩, 76), (⟨"TypeLevelsModel", "isSo", "(III)Z"⟩, 76), (⟨"TypeLevelsModel", "names", "()I"⟩, 76), (⟨"TypeLevelsModel", "nodesOfAll", "()I"⟩, 76)]
theorem lw_r11 : ∀ q ∈ lw_privs_11, lw_okq q := List.forall_mem_cons.mpr ⟨lw_p160, List.forall_mem_cons.mpr ⟨lw_p161, List.forall_mem_cons.mpr ⟨lw_p162, List.forall_mem_cons.mpr ⟨lw_p163, List.forall_mem_cons.mpr ⟨lw_p164, List.forall_mem_cons.mpr ⟨lw_p165, List.forall_mem_cons.mpr ⟨lw_p166, List.forall_mem_cons.mpr ⟨lw_p167, List.forall_mem_cons.mpr ⟨lw_p168, List.forall_mem_cons.mpr ⟨lw_p169, List.forall_mem_cons.mpr ⟨lw_p170, List.forall_mem_cons.mpr ⟨lw_p171, List.forall_mem_cons.mpr ⟨lw_p172, fun _ h => absurd h List.not_mem_nil⟩⟩⟩⟩⟩⟩⟩⟩⟩⟩⟩⟩⟩
def lw_privs : List (MethodName × Nat) := lw_privs_1 ++ (lw_privs_2 ++ (lw_privs_3 ++ (lw_privs_4 ++ (lw_privs_5 ++ (lw_privs_6 ++ (lw_privs_7 ++ (lw_privs_8 ++ (lw_privs_9 ++ (lw_privs_10 ++ (lw_privs_11))))))))))
def lw_tbl : List Cond := k2_sels lw_privs ++ tables_1
theorem lw_privs_ok : ∀ q ∈ lw_privs, lw_okq q := by
  show ∀ q ∈ lw_privs_1 ++ (lw_privs_2 ++ (lw_privs_3 ++ (lw_privs_4 ++ (lw_privs_5 ++ (lw_privs_6 ++ (lw_privs_7 ++ (lw_privs_8 ++ (lw_privs_9 ++ (lw_privs_10 ++ (lw_privs_11)))))))))), lw_okq q
  exact List.forall_mem_append.mpr ⟨lw_r1, List.forall_mem_append.mpr ⟨lw_r2, List.forall_mem_append.mpr ⟨lw_r3, List.forall_mem_append.mpr ⟨lw_r4, List.forall_mem_append.mpr ⟨lw_r5, List.forall_mem_append.mpr ⟨lw_r6, List.forall_mem_append.mpr ⟨lw_r7, List.forall_mem_append.mpr ⟨lw_r8, List.forall_mem_append.mpr ⟨lw_r9, List.forall_mem_append.mpr ⟨lw_r10, lw_r11⟩⟩⟩⟩⟩⟩⟩⟩⟩⟩
end
section
/-! ===== an interpreter of the claim's bytecode over what is known of ints (from .. to) and cells by number ===== -/
section EVA
abbrev ev_V : Type := (Int × Int) ⊕ (Nat ⊕ Nat)
abbrev ev_C : Type := (Nat × Nat × List (Nat × (Int × Int))) ⊕ (Nat × List ev_V)
abbrev ev_H : Type := List ev_C
abbrev ev_L : Type := List (Nat × ev_V)
abbrev ev_I : Type := Nat × (Instr × Nat) × (Nat × Nat × Nat × Int)
abbrev ev_M : Type := List (List ev_I)
abbrev ev_R : Type := Nat × Nat × ev_L × List ev_V × ev_H × Nat × Nat
def ev_top : ev_V := .inl (-2147483648, 2147483647)
/-! values are computed before they go on -/
def ev_fN {α : Type} (x : Nat) (f : Nat → α) : α := match x with
  | 0 => f 0
  | n + 1 => f (n + 1)
theorem ev_fN_eq {α : Type} (x : Nat) (f : Nat → α) : ev_fN x f = f x := by cases x <;> rfl
def ev_fI {α : Type} (x : Int) (f : Int → α) : α := match x with
  | .ofNat n => ev_fN n fun m => f (.ofNat m)
  | .negSucc n => ev_fN n fun m => f (.negSucc m)
theorem ev_fI_eq {α : Type} (x : Int) (f : Int → α) : ev_fI x f = f x := by cases x <;> simp [ev_fI, ev_fN_eq]
def ev_fV {α : Type} (x : ev_V) (f : ev_V → α) : α := match x with
  | .inl r => ev_fI r.1 fun a => ev_fI r.2 fun b => f (.inl (a, b))
  | .inr (.inl k) => ev_fN k fun k => f (.inr (.inl k))
  | .inr (.inr k) => ev_fN k fun k => f (.inr (.inr k))
theorem ev_fV_eq {α : Type} (x : ev_V) (f : ev_V → α) : ev_fV x f = f x := by
  rcases x with r | k | k <;> simp [ev_fV, ev_fI_eq, ev_fN_eq]
def ev_fL {β α : Type} (l : List β) (f : List β → α) : α := match l with
  | [] => f []
  | a :: t => ev_fL t fun u => f (a :: u)
theorem ev_fL_eq {β α : Type} (l : List β) (f : List β → α) : ev_fL l f = f l := by
  induction l generalizing f with
  | nil => rfl
  | cons a t ih => simp only [ev_fL]; rw [ih]
def ev_fS {α : Type} (l : List ev_V) (f : List ev_V → α) : α := match l with
  | [] => f []
  | a :: t => ev_fV a fun a => ev_fS t fun u => f (a :: u)
theorem ev_fS_eq {α : Type} (l : List ev_V) (f : List ev_V → α) : ev_fS l f = f l := by
  induction l generalizing f with
  | nil => rfl
  | cons a t ih => simp only [ev_fS]; rw [ev_fV_eq, ih]
/-! lists -/
def ev_at {α : Type} (l : List α) (n : Nat) : Option α := match l, n with
  | [], _ => none
  | a :: _, 0 => some a
  | _ :: t, n + 1 => ev_at t n
theorem ev_at_eq {α : Type} (l : List α) (n : Nat) : ev_at l n = l[n]? := by
  induction l generalizing n with
  | nil => simp [ev_at]
  | cons a t ih => cases n with
    | zero => simp [ev_at]
    | succ n => simp [ev_at, ih]
def ev_loc (ls : ev_L) (i : Nat) : Option ev_V := match ls with
  | [] => none
  | q :: t => bif Nat.beq q.1 i then some q.2 else ev_loc t i
def ev_lng (x : ev_V) : Bool := match x with
  | .inr (.inr 0) => true
  | _ => false
def ev_sto (ls : ev_L) (i : Nat) (x : ev_V) : ev_L := (i, x) :: ls.filter (fun q => !(q.1 == i) && !(q.1 + 1 == i && ev_lng q.2))
def ev_stoL (ls : ev_L) (i : Nat) (x : ev_V) : ev_L := (i, x) :: ls.filter (fun q => !(q.1 == i) && (!(q.1 == i + 1) && !(q.1 + 1 == i && ev_lng q.2)))
def ev_get (m : List (Nat × (Int × Int))) (j : Nat) : Int × Int := match m with
  | [] => (0, 0)
  | q :: t => bif Nat.beq q.1 j then q.2 else ev_get t j
def ev_same (x y : Int × Int) : Bool := decide (x.1 = y.1) && decide (x.2 = y.2)
def ev_put {α : Type} (m : List (Nat × (Int × Int))) (j : Nat) (r : Int × Int) (f : List (Nat × (Int × Int)) → α) : α :=
  bif ev_same (ev_get m j) r then f m else f ((j, r) :: m)
def ev_args (i : Nat) (l : List ev_V) : ev_L := match l with
  | [] => []
  | x :: t => (i, x) :: ev_args (bif ev_lng x then i + 2 else i + 1) t
def ev_fetch (T : ev_M) (pc : Nat) : Option ev_I := match ev_at T (pc / 16) with
  | none => none
  | some c => c.find? fun q => Nat.beq q.1 pc
def ev_bin (f : Int32 → Int32 → Int32) (x y : Int × Int) : ev_V :=
  bif decide (x.1 = x.2) && decide (y.1 = y.2) then ev_fI (f (Int32.ofInt x.1) (Int32.ofInt y.1)).toInt fun n => .inl (n, n) else ev_top
def ev_lt (x y : Int × Int) : Option Bool := if x.2 < y.1 then some true else if y.2 ≤ x.1 then some false else none
def ev_eq (x y : Int × Int) : Option Bool := if x.1 = x.2 ∧ y.1 = y.2 ∧ x.1 = y.1 then some true else if x.2 < y.1 ∨ y.2 < x.1 then some false else none
def ev_pair (a b : Option (Int × Int)) : Option ((Int × Int) × (Int × Int)) := match a, b with
  | some a, some b => some (a, b)
  | _, _ => none
/-- an index: known, and inside -/
def ev_ix (x : Int × Int) (n : Nat) : Option Nat := match x.1, x.2 with
  | .ofNat a, .ofNat b => bif Nat.beq a b && Nat.ble (a + 1) n then some a else none
  | _, _ => none
abbrev ev_O : Type := Option (Nat × ev_L × List ev_V × Option ev_H × Nat × Nat)
def ev_psh (pc : Nat) (ls : ev_L) (st : List ev_V) (x : Option ev_V) : ev_O := match x with
  | none => none
  | some x => some (pc, ls, x :: st, none, 0, 0)
def ev_ldI (ls : ev_L) (i : Nat) : Option ev_V := match ev_loc ls i with
  | some (.inl r) => some (.inl r)
  | _ => none
def ev_ldR (ls : ev_L) (i : Nat) : Option ev_V := match ev_loc ls i with
  | some (.inr (.inr (n + 2))) => some (.inr (.inr (n + 2)))
  | _ => none
def ev_ldJ (ls : ev_L) (i : Nat) : Option ev_V := match ev_loc ls i with
  | some (.inr (.inr 0)) => some (.inr (.inr 0))
  | _ => none
def ev_jmp (pc : Nat) (off : Int) (ls : ev_L) (st : List ev_V) : ev_O := match (pc : Int) + off with
  | .ofNat t => some (t, ls, st, none, 0, 0)
  | .negSucc _ => none
def ev_br (pc : Nat) (off : Int) (ls : ev_L) (st : List ev_V) (c : Option Bool) : ev_O := match c with
  | none => none
  | some true => ev_jmp pc off ls st
  | some false => some (pc + 3, ls, st, none, 0, 0)
def ev_not (c : Option Bool) : Option Bool := match c with
  | none => none
  | some b => some (!b)
def ev_ok1 (x : ev_V) : Bool := match x with
  | .inl _ => true
  | .inr (.inl _) => true
  | .inr (.inr 0) => false
  | .inr (.inr (_ + 1)) => true
/-- may the value stand in a field of this sort: 0 an int, 1 a boolean, else a reference -/
def ev_may (t : Nat) (x : ev_V) : Bool := match t, x with
  | 0, .inl _ => true
  | 1, .inl r => decide (0 ≤ r.1) && decide (r.2 ≤ 1)
  | 2, .inr (.inr (_ + 1)) => true
  | _, _ => false
def ev_getf (pc a b : Nat) (ls : ev_L) (st : List ev_V) (h : ev_H) : ev_O := match st with
  | .inr (.inr (n + 4)) :: st => match ev_at h n with
    | some (.inr o) => bif Nat.beq o.1 a then ev_psh (pc + 3) ls st (ev_at o.2 b) else none
    | _ => none
  | _ => none
def ev_putf (pc a b t : Nat) (ls : ev_L) (st : List ev_V) (h : ev_H) : ev_O := match st with
  | x :: .inr (.inr (n + 4)) :: st => match ev_at h n with
    | some (.inr o) => bif Nat.beq o.1 a && ev_may t x && Nat.ble (b + 1) o.2.length then ev_fL (o.2.set b x) fun fs => ev_fL (h.set n (.inr (o.1, fs))) fun h => some (pc + 3, ls, st, some h, 0, 0) else none
    | _ => none
  | _ => none
def ev_new (pc a : Nat) (df : List (List ev_V)) (ls : ev_L) (st : List ev_V) (h : ev_H) : ev_O := match ev_at df a with
  | some fs => ev_fN h.length fun n => ev_fN fs.length fun w => ev_fL (h ++ [.inr (a, fs)]) fun h => some (pc + 3, ls, .inr (.inr (n + 4)) :: st, some h, 1, w)
  | none => none
def ev_newa (pc a : Nat) (ls : ev_L) (st : List ev_V) (h : ev_H) : ev_O := match st with
  | .inl r :: st => match ev_ix r 1000001 with
    | some w => ev_fN h.length fun n => ev_fL (h ++ [.inl (a, w, [])]) fun h => some (pc + 2, ls, .inr (.inr (n + 4)) :: st, some h, 1, w)
    | none => none
  | _ => none
def ev_len (pc : Nat) (sc : List ev_V) (ls : ev_L) (st : List ev_V) (h : ev_H) : ev_O := match st with
  | .inr (.inr 2) :: st => ev_fN sc.length fun n => some (pc + 1, ls, .inl (n, n) :: st, none, 0, 0)
  | .inr (.inr (n + 4)) :: st => match ev_at h n with
    | some (.inl o) => bif Nat.ble o.2.1 1000000 then some (pc + 1, ls, .inl (o.2.1, o.2.1) :: st, none, 0, 0) else none
    | _ => none
  | _ => none
def ev_ald (pc : Nat) (sc : List ev_V) (hi : List Int) (ls : ev_L) (st : List ev_V) (h : ev_H) : ev_O := match st with
  | .inl r :: .inr (.inr 2) :: st => match ev_ix r sc.length with
    | some j => ev_psh (pc + 1) ls st (ev_at sc j)
    | none => none
  | .inl r :: .inr (.inr 3) :: st => match ev_ix r hi.length with
    | some j => match ev_at hi j with
      | some v => some (pc + 1, ls, .inl (v, v) :: st, none, 0, 0)
      | none => none
    | none => none
  | .inl r :: .inr (.inr (n + 4)) :: st => match ev_at h n with
    | some (.inl (0, w, m)) => match ev_ix r w with
      | some j => some (pc + 1, ls, .inl (ev_get m j) :: st, none, 0, 0)
      | none => none
    | _ => none
  | _ => none
def ev_ast (pc : Nat) (ls : ev_L) (st : List ev_V) (h : ev_H) : ev_O := match st with
  | .inl x :: .inl r :: .inr (.inr (n + 4)) :: st => match ev_at h n with
    | some (.inl (0, w, m)) => match ev_ix r w with
      | some j => ev_put m j x fun m => ev_fL (h.set n (.inl (0, w, m))) fun h => some (pc + 1, ls, st, some h, 0, 0)
      | none => none
    | _ => none
  | _ => none
def ev_bst (pc : Nat) (ls : ev_L) (st : List ev_V) (h : ev_H) : ev_O := match st with
  | .inl _ :: .inl r :: .inr (.inr (n + 4)) :: st => match ev_at h n with
    | some (.inl (1, w, m)) => match ev_ix r w with
      | some j => ev_put m j (-2147483648, 2147483647) fun m => ev_fL (h.set n (.inl (1, w, m))) fun h => some (pc + 1, ls, st, some h, 0, 0)
      | none => none
    | _ => none
  | _ => none
def ev_lst (pc : Nat) (ls : ev_L) (st : List ev_V) (h : ev_H) : ev_O := match st with
  | .inr (.inr 0) :: .inl r :: .inr (.inr (n + 4)) :: st => match ev_at h n with
    | some (.inl (3, w, _)) => match ev_ix r w with
      | some _ => some (pc + 1, ls, st, none, 0, 0)
      | none => none
    | _ => none
  | _ => none
def ev_ii (f : (Int × Int) → (Int × Int) → ev_V) (pc : Nat) (ls : ev_L) (st : List ev_V) : ev_O := match st with
  | .inl y :: .inl x :: st => some (pc, ls, f x y :: st, none, 0, 0)
  | _ => none
def ev_and (pc : Nat) (ls : ev_L) (st : List ev_V) : ev_O := match st with
  | .inl y :: .inl x :: st => some (pc, ls, ev_bin (fun a b => a &&& b) x y :: st, none, 0, 0)
  | .inl y :: .inr (.inl k) :: st => bif decide (y.1 = 31) && decide (y.2 = 31) && Nat.ble k 31 then some (pc, ls, .inl (k, k) :: st, none, 0, 0) else none
  | _ => none
def ev_cc (f : (Int × Int) → (Int × Int) → Option Bool) (pc : Nat) (off : Int) (ls : ev_L) (st : List ev_V) : ev_O := match st with
  | .inl y :: .inl x :: st => ev_br pc off ls st (f x y)
  | _ => none
def ev_c0 (f : (Int × Int) → (Int × Int) → Option Bool) (pc : Nat) (off : Int) (ls : ev_L) (st : List ev_V) : ev_O := match st with
  | .inl x :: st => ev_br pc off ls st (f x (0, 0))
  | _ => none
def ev_tsw (pc : Nat) (d lo hi : Int) (offs : Array Int) (ls : ev_L) (st : List ev_V) : ev_O := match st with
  | .inl x :: st => if x.2 < lo ∨ hi < x.1 then ev_jmp pc d ls st else if x.1 = x.2 ∧ lo ≤ x.1 ∧ x.1 ≤ hi then match ev_at offs.toList (x.1 - lo).toNat with
      | some o => ev_jmp pc o ls st
      | none => none
    else none
  | _ => none
def ev_lsw (pc : Nat) (d : Int) (ps : Array (Int × Int)) (ls : ev_L) (st : List ev_V) : ev_O := match st with
  | .inl x :: st => if x.1 = x.2 then ev_jmp pc (Op.lookupswitch.offset ps.toList d x.1) ls st else none
  | _ => none
def ev_sI (pc i : Nat) (ls : ev_L) (st : List ev_V) : ev_O := match st with
  | .inl x :: st => ev_fL (ev_sto ls i (.inl x)) fun ls => some (pc, ls, st, none, 0, 0)
  | _ => none
def ev_sR (pc i : Nat) (ls : ev_L) (st : List ev_V) : ev_O := match st with
  | .inr (.inr (n + 2)) :: st => ev_fL (ev_sto ls i (.inr (.inr (n + 2)))) fun ls => some (pc, ls, st, none, 0, 0)
  | _ => none
def ev_sJ (pc i : Nat) (ls : ev_L) (st : List ev_V) : ev_O := match st with
  | .inr (.inr 0) :: st => ev_fL (ev_stoL ls i (.inr (.inr 0))) fun ls => some (pc, ls, st, none, 0, 0)
  | _ => none
def ev_inc (pc i : Nat) (n : Int) (ls : ev_L) (st : List ev_V) : ev_O := match ev_loc ls i with
  | some (.inl x) => ev_fV (ev_bin (fun a b => a + b) x (n, n)) fun v => ev_fL (ev_sto ls i v) fun ls => some (pc + 3, ls, st, none, 0, 0)
  | _ => none
def ev_mm (mx : Bool) (x y : Int × Int) : ev_V := ev_bin (fun a b => if mx then (if a < b then b else a) else (if b < a then b else a)) x y
/-- a row of ints copied into another, place by place -/
def ev_cp (f g : List (Nat × (Int × Int))) (sp dp : Nat) (n : Nat) : List (Nat × (Int × Int)) := match n with
  | 0 => g
  | n + 1 => ev_put (ev_cp f g sp dp n) (dp + n) (ev_get f (sp + n)) fun m => m
def ev_copy (pc : Nat) (ls : ev_L) (st : List ev_V) (h : ev_H) : ev_O := match st with
  | .inl n :: .inl dp :: .inr (.inr (b + 4)) :: .inl sp :: .inr (.inr (a + 4)) :: st => match ev_at h a, ev_at h b with
    | some (.inl (0, w, f)), some (.inl (0, v, g)) => match ev_ix n 1000000, ev_ix dp 1000000, ev_ix sp 1000000 with
      | some n, some dp, some sp => bif Nat.ble (sp + n) w && Nat.ble (dp + n) v && !(Nat.beq a b) then ev_fL (ev_cp f g sp dp n) fun m => ev_fL (h.set b (.inl (0, v, m))) fun h => some (pc + 3, ls, st, some h, 0, 0) else none
      | _, _, _ => none
    | _, _ => none
  | _ => none
def ev_step (df : List (List ev_V)) (sc : List ev_V) (hi : List Int) (q : ev_I) (ls : ev_L) (st : List ev_V) (h : ev_H) : ev_O := match q.2.1 with
  | (.aload_n k, 1) => ev_psh (q.1 + 1) ls st (ev_ldR ls k.val)
  | (.aload k, 2) => ev_psh (q.1 + 2) ls st (ev_ldR ls k)
  | (.iload_n k, 1) => ev_psh (q.1 + 1) ls st (ev_ldI ls k.val)
  | (.iload k, 2) => ev_psh (q.1 + 2) ls st (ev_ldI ls k)
  | (.lload_n k, 1) => ev_psh (q.1 + 1) ls st (ev_ldJ ls k.val)
  | (.iconst _, 1) => some (q.1 + 1, ls, .inl (q.2.2.2.2.2, q.2.2.2.2.2) :: st, none, 0, 0)
  | (.bipush _, 2) => some (q.1 + 2, ls, .inl (q.2.2.2.2.2, q.2.2.2.2.2) :: st, none, 0, 0)
  | (.sipush _, 3) => some (q.1 + 3, ls, .inl (q.2.2.2.2.2, q.2.2.2.2.2) :: st, none, 0, 0)
  | (.ldc _, 2) => some (q.1 + 2, ls, .inl (q.2.2.2.2.2, q.2.2.2.2.2) :: st, none, 0, 0)
  | (.ldc_w _, 3) => some (q.1 + 3, ls, .inl (q.2.2.2.2.2, q.2.2.2.2.2) :: st, none, 0, 0)
  | (.istore_n k, 1) => ev_sI (q.1 + 1) k.val ls st
  | (.istore k, 2) => ev_sI (q.1 + 2) k ls st
  | (.astore_n k, 1) => ev_sR (q.1 + 1) k.val ls st
  | (.lstore k, 2) => ev_sJ (q.1 + 2) k ls st
  | (.iinc k n, 3) => ev_inc q.1 k n ls st
  | (.getfield _, 3) => ev_getf q.1 q.2.2.2.1 q.2.2.2.2.1 ls st h
  | (.putfield _, 3) => ev_putf q.1 q.2.2.2.1 q.2.2.2.2.1 q.2.2.2.2.2.toNat ls st h
  | (.new _, 3) => ev_new q.1 q.2.2.2.1 df ls st h
  | (.newarray _, 2) => ev_newa q.1 q.2.2.2.1 ls st h
  | (.arraylength, 1) => ev_len q.1 sc ls st h
  | (.iaload, 1) => ev_ald q.1 sc hi ls st h
  | (.iastore, 1) => ev_ast q.1 ls st h
  | (.bastore, 1) => ev_bst q.1 ls st h
  | (.lastore, 1) => ev_lst q.1 ls st h
  | (.getstatic _, 3) => some (q.1 + 3, ls, .inr (.inr 3) :: st, none, 0, 0)
  | (.iadd, 1) => ev_ii (ev_bin fun a b => a + b) (q.1 + 1) ls st
  | (.isub, 1) => ev_ii (ev_bin fun a b => a - b) (q.1 + 1) ls st
  | (.imul, 1) => ev_ii (ev_bin fun a b => a * b) (q.1 + 1) ls st
  | (.ishr, 1) => ev_ii (ev_bin fun a b => a >>> (b &&& 31)) (q.1 + 1) ls st
  | (.iushr, 1) => ev_ii (ev_bin fun a b => (a.toUInt32 >>> (b.toUInt32 &&& Int32.toUInt32 31)).toInt32) (q.1 + 1) ls st
  | (.iand, 1) => ev_and (q.1 + 1) ls st
  | (.i2b, 1) => match st with
    | .inl _ :: st => some (q.1 + 1, ls, ev_top :: st, none, 0, 0)
    | _ => none
  | (.i2l, 1) => match st with
    | .inl _ :: st => some (q.1 + 1, ls, .inr (.inr 0) :: st, none, 0, 0)
    | _ => none
  | (.dup, 1) => match st with
    | x :: st => bif ev_ok1 x then some (q.1 + 1, ls, x :: x :: st, none, 0, 0) else none
    | _ => none
  | (.dup_x1, 1) => match st with
    | x :: y :: st => bif ev_ok1 x && ev_ok1 y then some (q.1 + 1, ls, x :: y :: x :: st, none, 0, 0) else none
    | _ => none
  | (.pop, 1) => match st with
    | x :: st => bif ev_ok1 x then some (q.1 + 1, ls, st, none, 0, 0) else none
    | _ => none
  | (.goto off, 3) => ev_jmp q.1 off ls st
  | (.if_icmp .lt off, 3) => ev_cc ev_lt q.1 off ls st
  | (.if_icmp .ge off, 3) => ev_cc (fun x y => ev_not (ev_lt x y)) q.1 off ls st
  | (.if_icmp .gt off, 3) => ev_cc (fun x y => ev_lt y x) q.1 off ls st
  | (.if_icmp .le off, 3) => ev_cc (fun x y => ev_not (ev_lt y x)) q.1 off ls st
  | (.if_icmp .eq off, 3) => ev_cc ev_eq q.1 off ls st
  | (.if_icmp .ne off, 3) => ev_cc (fun x y => ev_not (ev_eq x y)) q.1 off ls st
  | (.ifCond .lt off, 3) => ev_c0 ev_lt q.1 off ls st
  | (.ifCond .ge off, 3) => ev_c0 (fun x y => ev_not (ev_lt x y)) q.1 off ls st
  | (.ifCond .gt off, 3) => ev_c0 (fun x y => ev_lt y x) q.1 off ls st
  | (.ifCond .le off, 3) => ev_c0 (fun x y => ev_not (ev_lt y x)) q.1 off ls st
  | (.ifCond .eq off, 3) => ev_c0 ev_eq q.1 off ls st
  | (.ifCond .ne off, 3) => ev_c0 (fun x y => ev_not (ev_eq x y)) q.1 off ls st
  | (.tableswitch d lo hi offs, _) => ev_tsw q.1 d lo hi offs ls st
  | (.lookupswitch d ps, _) => ev_lsw q.1 d ps ls st
  | _ => none
/-- calls of the library's own: kind 7 Object's constructor, 8 max, 9 min, 10 a copy -/
def ev_lib (k : Nat) (q : ev_I) (ls : ev_L) (st : List ev_V) (h : ev_H) : ev_O := match k with
  | 7 => match st with
    | .inr (.inr (_ + 4)) :: st => bif Nat.ble st.length 4 then some (q.1 + 3, ls, st, none, 0, 0) else none
    | _ => none
  | 8 => bif Nat.ble st.length 6 then ev_ii (ev_mm true) (q.1 + 3) ls st else none
  | 9 => bif Nat.ble st.length 6 then ev_ii (ev_mm false) (q.1 + 3) ls st else none
  | 10 => bif Nat.ble st.length 9 then ev_copy q.1 ls st h else none
  | _ => none
/-- a method's end: 0 nothing, 1 an int, 2 a boolean, 3 a long, 5 a throw -/
def ev_end (t : Nat) (st : List ev_V) : Bool := match t, st with
  | 0, [] => true
  | 1, [.inl _] => true
  | 2, [.inl r] => decide (0 ≤ r.1) && decide (r.2 ≤ 1)
  | 3, [.inr (.inr 0)] => true
  | 5, [] => true
  | _, _ => false
/-- the receiver is an object of that kind -/
def ev_rcv (ci : Nat) (as : List ev_V) (h : ev_H) : Bool := match as with
  | .inr (.inr (n + 4)) :: _ => match ev_at h n with
    | some (.inr o) => Nat.beq o.1 ci
    | _ => false
  | _ => false
abbrev ev_F : Type := Nat → ev_M → Nat → Nat → ev_L → List ev_V → ev_H → Nat → Nat → Option ev_R
/-- a step's outcome goes on -/
def ev_go (ih : ev_F) (d : Nat) (T : ev_M) (stop : Nat) (h : ev_H) (k n : Nat) (o : ev_O) : Option ev_R := match o with
  | none => none
  | some r => ev_fN r.1 fun pc => ev_fS r.2.2.1 fun st => ev_fN (k + r.2.2.2.2.1) fun k => ev_fN (n + r.2.2.2.2.2) fun n => match r.2.2.2.1 with
    | none => ih d T stop pc r.2.1 st h k n
    | some h => ih d T stop pc r.2.1 st h k n
/-- a call: kinds 2 virtual, 3 constructor, 4 constructor of a nest mate, 5 static -/
def ev_call (PR : List ev_M) (ih : ev_F) (d : Nat) (T : ev_M) (stop : Nat) (q : ev_I) (ls : ev_L) (st : List ev_V) (h : ev_H) (k n : Nat) : Option ev_R := match d with
  | 0 => none
  | d + 1 => ev_fL (st.take q.2.2.2.2.1).reverse fun as => ev_fL (st.drop q.2.2.2.2.1) fun rest => bif Nat.beq as.length q.2.2.2.2.1 && Nat.ble rest.length 4 && (!(Nat.beq q.2.2.1 2) || ev_rcv q.2.2.2.2.2.toNat as h) then
      match ev_at PR q.2.2.2.1 with
      | none => none
      | some U => ev_fL (ev_args 0 as) fun la => match ih d U 100000 0 la [] h 0 0 with
        | none => none
        | some r => bif Nat.ble r.1 3 then ev_fN (k + r.2.2.2.2.2.1) fun k => ev_fN (n + r.2.2.2.2.2.2) fun n => ev_fN (q.1 + 3) fun pc => ev_fS (r.2.2.2.1 ++ rest) fun st => ih (d + 1) T stop pc ls st r.2.2.2.2.1 k n else none
    else none
/-- kind 6: a call that the law makes of what throws, with its catching; 40 cells, 400 places are more than an exception takes -/
def ev_help (PR : List ev_M) (ih : ev_F) (d : Nat) (T : ev_M) (stop : Nat) (q : ev_I) (ls : ev_L) (st : List ev_V) (h : ev_H) (k n : Nat) : Option ev_R := match d with
  | d + 9 => ev_fL (st.take q.2.2.2.2.1).reverse fun as => ev_fL (st.drop q.2.2.2.2.1) fun rest => bif Nat.beq as.length q.2.2.2.2.1 && Nat.ble rest.length 4 && ev_rcv 10 as h then
      match ev_at PR q.2.2.2.1 with
      | none => none
      | some U => ev_fL (ev_args 0 as.dropLast) fun la => match ih 1 U 100000 0 la [] h 0 0 with
        | none => none
        | some r => bif Nat.beq r.1 5 && Nat.beq r.2.2.2.2.2.1 0 && Nat.beq r.2.2.2.2.2.2 0 then ev_fN (k + 40) fun k => ev_fN (n + 400) fun n => ev_fN (q.1 + 3) fun pc => ih (d + 9) T stop pc ls (.inl (1, 1) :: rest) r.2.2.2.2.1 k n else none
    else none
  | _ => none
noncomputable def ev_run (PR : List ev_M) (df : List (List ev_V)) (sc : List ev_V) (hi : List Int) (fuel : Nat) : ev_F :=
  Nat.rec (fun _ _ _ _ _ _ _ _ _ => none) (fun _ ih => fun d T stop pc ls st h k n =>
    bif Nat.beq pc stop then some (4, pc, ls, st, h, k, n) else
    match ev_fetch T pc with
    | none => none
    | some q => match q.2.2.1 with
      | 0 => ev_go ih d T stop h k n (ev_step df sc hi q ls st h)
      | 1 => bif ev_end q.2.2.2.1 st then some (q.2.2.2.1, pc, ls, st, h, k, n) else none
      | 6 => ev_help PR ih d T stop q ls st h k n
      | 2 => ev_call PR ih d T stop q ls st h k n
      | 3 => ev_call PR ih d T stop q ls st h k n
      | 4 => ev_call PR ih d T stop q ls st h k n
      | 5 => ev_call PR ih d T stop q ls st h k n
      | w + 7 => match d with
        | 0 => none
        | d + 1 => ev_go ih (d + 1) T stop h k n (ev_lib (w + 7) q ls st h)) fuel
end EVA
end
section
/-! ===== what the interpreter's values say of the machine's ===== -/
section EVR
def ev_rel (b hz : Nat) (L : List Nat) (x : ev_V) (v : Value) : Prop := match x with
  | .inl r => ∃ i : Int32, v = .int i ∧ r.1 ≤ i.toInt ∧ i.toInt ≤ r.2
  | .inr (.inl k) => ∃ i : Int32, v = .int i ∧ i &&& 31 = Int32.ofNat k
  | .inr (.inr 0) => ∃ i : Int64, v = .long i
  | .inr (.inr 1) => v = .null
  | .inr (.inr 2) => v = .ref b
  | .inr (.inr 3) => v = .ref hz
  | .inr (.inr (n + 4)) => ∃ a, L[n]? = some a ∧ v = .ref a
theorem ev_rel_mono {b hz : Nat} {L t : List Nat} {x : ev_V} {v : Value} (h : ev_rel b hz L x v) : ev_rel b hz (L ++ t) x v := by
  rcases x with r | k | k
  · exact h
  · exact h
  · match k, h with
    | 0, h => exact h
    | 1, h => exact h
    | 2, h => exact h
    | 3, h => exact h
    | n + 4, ⟨a, h1, h2⟩ =>
      have hl : n < L.length := by
        by_cases q : n < L.length
        · exact q
        · rw [List.getElem?_eq_none (by omega)] at h1; cases h1
      exact ⟨a, by rw [List.getElem?_append_left hl]; exact h1, h2⟩
theorem ev_rel_cat {b hz : Nat} {L : List Nat} {x : ev_V} {v : Value} (h : ev_rel b hz L x v) : (v.category == 2) = ev_lng x := by
  rcases x with r | k | k
  · obtain ⟨i, rfl, -⟩ := h; rfl
  · obtain ⟨i, rfl, -⟩ := h; rfl
  · match k, h with
    | 0, ⟨i, h⟩ => subst h; rfl
    | 1, h => cases h; rfl
    | 2, h => cases h; rfl
    | 3, h => cases h; rfl
    | n + 4, ⟨a, h1, h2⟩ => subst h2; rfl
theorem ev_rel_c1 {b hz : Nat} {L : List Nat} {x : ev_V} {v : Value} (h : ev_rel b hz L x v) (hx : ev_ok1 x = true) : v.category = 1 := by
  rcases x with r | k | k
  · obtain ⟨i, rfl, -⟩ := h; rfl
  · obtain ⟨i, rfl, -⟩ := h; rfl
  · match k, h with
    | 0, ⟨i, h⟩ => cases hx
    | 1, h => cases h; rfl
    | 2, h => cases h; rfl
    | 3, h => cases h; rfl
    | n + 4, ⟨a, h1, h2⟩ => subst h2; rfl
theorem ev_rel_le2 {b hz : Nat} {L : List Nat} {x : ev_V} {v : Value} (h : ev_rel b hz L x v) : v.category ≤ 2 := by
  rcases x with r | k | k
  · obtain ⟨i, rfl, -⟩ := h; exact Nat.le_of_ble_eq_true rfl
  · obtain ⟨i, rfl, -⟩ := h; exact Nat.le_of_ble_eq_true rfl
  · match k, h with
    | 0, ⟨i, h⟩ => subst h; exact Nat.le_of_ble_eq_true rfl
    | 1, h => cases h; exact Nat.le_of_ble_eq_true rfl
    | 2, h => cases h; exact Nat.le_of_ble_eq_true rfl
    | 3, h => cases h; exact Nat.le_of_ble_eq_true rfl
    | n + 4, ⟨a, h1, h2⟩ => subst h2; exact Nat.le_of_ble_eq_true rfl
theorem ev_nt {x : Bool} (h : ¬ x = true) : x = false := by cases x with
  | false => rfl
  | true => exact absurd rfl h
def ev_all {α β : Type} (R : α → β → Prop) (l : List α) (m : List β) : Prop := match l, m with
  | [], [] => True
  | a :: l, b :: m => R a b ∧ ev_all R l m
  | _, _ => False
theorem ev_all_nil {α β : Type} {R : α → β → Prop} : ev_all R [] [] := trivial
theorem ev_all_mono {α β : Type} {R S : α → β → Prop} (f : ∀ a b, R a b → S a b) : ∀ {l : List α} {m : List β}, ev_all R l m → ev_all S l m
  | [], [], _ => trivial
  | a :: l, b :: m, h => ⟨f a b h.1, ev_all_mono f h.2⟩
  | [], _ :: _, h => h.elim
  | _ :: _, [], h => h.elim
theorem ev_all_len {α β : Type} {R : α → β → Prop} : ∀ {l : List α} {m : List β}, ev_all R l m → l.length = m.length
  | [], [], _ => rfl
  | a :: l, b :: m, h => by rw [List.length_cons, List.length_cons, ev_all_len h.2]
  | [], _ :: _, h => h.elim
  | _ :: _, [], h => h.elim
theorem ev_all_get {α β : Type} {R : α → β → Prop} : ∀ {l : List α} {m : List β}, ev_all R l m → ∀ {n : Nat} {a : α}, l[n]? = some a → ∃ b, m[n]? = some b ∧ R a b
  | [], [], _, n, a, h => by simp at h
  | x :: l, y :: m, h, 0, a, e => by
    rw [List.getElem?_cons_zero] at e; cases e
    exact ⟨y, by rw [List.getElem?_cons_zero], h.1⟩
  | x :: l, y :: m, h, n + 1, a, e => by
    rw [List.getElem?_cons_succ] at e
    obtain ⟨b, h1, h2⟩ := ev_all_get h.2 e
    exact ⟨b, by rw [List.getElem?_cons_succ]; exact h1, h2⟩
  | [], _ :: _, h, _, _, _ => h.elim
  | _ :: _, [], h, _, _, _ => h.elim
theorem ev_all_set {α β : Type} {R : α → β → Prop} {a : α} {b : β} (hab : R a b) : ∀ {l : List α} {m : List β}, ev_all R l m → ∀ (n : Nat), ev_all R (l.set n a) (m.set n b)
  | [], [], _, n => by simp [ev_all]
  | x :: l, y :: m, h, 0 => ⟨hab, h.2⟩
  | x :: l, y :: m, h, n + 1 => ⟨h.1, ev_all_set hab h.2 n⟩
  | [], _ :: _, h, _ => h.elim
  | _ :: _, [], h, _ => h.elim
theorem ev_all_app {α β : Type} {R : α → β → Prop} : ∀ {l : List α} {m : List β} {l' : List α} {m' : List β}, ev_all R l m → ev_all R l' m' → ev_all R (l ++ l') (m ++ m')
  | [], [], _, _, _, h' => h'
  | _ :: _, _ :: _, _, _, h, h' => ⟨h.1, ev_all_app h.2 h'⟩
  | [], _ :: _, _, _, h, _ => h.elim
  | _ :: _, [], _, _, h, _ => h.elim
theorem ev_all_take {α β : Type} {R : α → β → Prop} : ∀ {l : List α} {m : List β}, ev_all R l m → ∀ n, ev_all R (l.take n) (m.take n)
  | [], [], _, n => by simp [ev_all]
  | _ :: _, _ :: _, _, 0 => trivial
  | _ :: _, _ :: _, h, n + 1 => ⟨h.1, ev_all_take h.2 n⟩
  | [], _ :: _, h, _ => h.elim
  | _ :: _, [], h, _ => h.elim
theorem ev_all_drop {α β : Type} {R : α → β → Prop} : ∀ {l : List α} {m : List β}, ev_all R l m → ∀ n, ev_all R (l.drop n) (m.drop n)
  | [], [], _, n => by simp [ev_all]
  | _ :: _, _ :: _, h, 0 => h
  | _ :: _, _ :: _, h, n + 1 => ev_all_drop h.2 n
  | [], _ :: _, h, _ => h.elim
  | _ :: _, [], h, _ => h.elim
theorem ev_all_rev {α β : Type} {R : α → β → Prop} : ∀ {l : List α} {m : List β}, ev_all R l m → ev_all R l.reverse m.reverse
  | [], [], _ => trivial
  | x :: l, y :: m, h => by
    rw [List.reverse_cons, List.reverse_cons]
    exact ev_all_app (ev_all_rev h.2) ⟨h.1, trivial⟩
  | [], _ :: _, h => h.elim
  | _ :: _, [], h => h.elim
theorem ev_all_filter {α β : Type} {R : α → β → Prop} {f : α → Bool} {g : β → Bool} (hfg : ∀ a b, R a b → f a = g b) : ∀ {l : List α} {m : List β}, ev_all R l m → ev_all R (l.filter f) (m.filter g)
  | [], [], _ => trivial
  | x :: l, y :: m, h => by
    rw [List.filter_cons, List.filter_cons, hfg x y h.1]
    by_cases q : g y = true
    · rw [if_pos q, if_pos q]; exact ⟨h.1, ev_all_filter hfg h.2⟩
    · rw [if_neg q, if_neg q]; exact ev_all_filter hfg h.2
  | [], _ :: _, h => h.elim
  | _ :: _, [], h => h.elim
theorem ev_all_cons {α β : Type} {R : α → β → Prop} {a : α} {l : List α} {m : List β} (h : ev_all R (a :: l) m) : ∃ b m', m = b :: m' ∧ R a b ∧ ev_all R l m' := by
  cases m with
  | nil => exact h.elim
  | cons b m => exact ⟨b, m, rfl, h.1, h.2⟩
theorem ev_all_none {α β : Type} {R : α → β → Prop} {m : List β} (h : ev_all R [] m) : m = [] := by
  cases m with
  | nil => rfl
  | cons b m => exact h.elim
def ev_ty (t : Nat) : FieldType := match t with
  | 0 => .int
  | 1 => .byte
  | 2 => .boolean
  | _ => .long
def ev_in (r : Int × Int) (i : Int32) : Prop := r.1 ≤ i.toInt ∧ i.toInt ≤ r.2
def ev_crel (b hz : Nat) (tys : List (ClassId × FieldType)) (L : List Nat) (c : ev_C) (e : va_E) : Prop := match c with
  | .inl q => if q.1 = 3 then ∃ (cA : ClassId) (f : Nat → Int64), e = .inl (cA, q.2.1, .inr (.inl f)) ∧ (cA, FieldType.long) ∈ tys
    else ∃ (cA : ClassId) (f : Nat → Int32), e = .inl (cA, q.2.1, .inl f) ∧ (cA, ev_ty q.1) ∈ tys ∧ ∀ j, ev_in (ev_get q.2.2 j) (f j)
  | .inr o => ∃ vs, e = .inr (o.1, vs) ∧ ev_all (ev_rel b hz L) o.2 vs
theorem ev_crel_mono {b hz : Nat} {tys t2 : List (ClassId × FieldType)} {L t : List Nat} {c : ev_C} {e : va_E} (h : ev_crel b hz tys L c e) : ev_crel b hz (tys ++ t2) (L ++ t) c e := by
  rcases c with q | o
  · unfold ev_crel at h ⊢
    by_cases q3 : q.1 = 3
    · simp only [if_pos q3] at h ⊢
      obtain ⟨cA, f, h1, h2⟩ := h
      exact ⟨cA, f, h1, List.mem_append_left _ h2⟩
    · simp only [if_neg q3] at h ⊢
      obtain ⟨cA, f, h1, h2, h3⟩ := h
      exact ⟨cA, f, h1, List.mem_append_left _ h2, h3⟩
  · obtain ⟨vs, h1, h2⟩ := h
    exact ⟨vs, h1, ev_all_mono (fun _ _ => ev_rel_mono) h2⟩
def ev_wrel (b hz : Nat) (tys : List (ClassId × FieldType)) (L : List Nat) (h : ev_H) (ws : va_W) : Prop := ev_all (fun c (q : Nat × va_E) => ev_crel b hz tys L c q.2) h ws
def ev_lrel (b hz : Nat) (L : List Nat) (ls : ev_L) (lv : List (Nat × Value)) : Prop := ev_all (fun q r => q.1 = r.1 ∧ ev_rel b hz L q.2 r.2) ls lv
def ev_St (b hz : Nat) (D : va_G) (cl : List vw_C) (A : Nat → Prop) (L0 : List Nat) (s : State) (nL : Nat) (ls : ev_L) (st : List ev_V) (h : ev_H) (H : Heap) (locs : List Loc) (lsC : Array Slot) (stC : List Value) : Prop :=
  ∃ (tys : List (ClassId × FieldType)) (ws : va_W) (lv : List (Nat × Value)) (t : List Nat), va_K D cl tys s ∧ va_P D cl ws H ∧ va_D A ws ∧ va_S A s.heap H locs ∧ ws.map Prod.fst = L0 ++ t ∧
    ev_wrel b hz tys (ws.map Prod.fst) h ws ∧ ev_all (ev_rel b hz (ws.map Prod.fst)) st stC ∧ lv_has lsC nL lv ∧ ev_lrel b hz (ws.map Prod.fst) ls lv
theorem ev_loc_ok {b hz : Nat} {L : List Nat} : ∀ {ls : ev_L} {lv : List (Nat × Value)}, ev_lrel b hz L ls lv → ∀ {i : Nat} {x : ev_V}, ev_loc ls i = some x → ∃ (k : Nat) (v : Value), lv[k]? = some (i, v) ∧ ev_rel b hz L x v
  | [], _, _, i, x, e => by simp [ev_loc] at e
  | q :: t, [], h, _, _, _ => h.elim
  | q :: t, r :: lv, h, i, x, e => by
    unfold ev_loc at e
    by_cases hq : Nat.beq q.1 i = true
    · rw [hq] at e
      simp only [cond_true, Option.some.injEq] at e
      refine ⟨0, r.2, ?_, by rw [← e]; exact h.1.2⟩
      rw [List.getElem?_cons_zero, ← Nat.eq_of_beq_eq_true hq, h.1.1]
    · rw [ev_nt hq] at e
      obtain ⟨k, v, h1, h2⟩ := ev_loc_ok h.2 e
      exact ⟨k + 1, v, by rw [List.getElem?_cons_succ]; exact h1, h2⟩
theorem ev_sto_ok {b hz : Nat} {L : List Nat} {ls : ev_L} {lv : List (Nat × Value)} (h : ev_lrel b hz L ls lv) (i : Nat) {x : ev_V} {v : Value} (hx : ev_rel b hz L x v) :
    ev_lrel b hz L (ev_sto ls i x) ((i, v) :: lv.filter (fun q => !(q.1 == i) && !(q.1 + 1 == i && q.2.category == 2))) :=
  ⟨⟨rfl, hx⟩, ev_all_filter (fun q r hqr => by rw [hqr.1, ev_rel_cat hqr.2]) h⟩
theorem ev_stoL_ok {b hz : Nat} {L : List Nat} {ls : ev_L} {lv : List (Nat × Value)} (h : ev_lrel b hz L ls lv) (i : Nat) {x : ev_V} {v : Value} (hx : ev_rel b hz L x v) :
    ev_lrel b hz L (ev_stoL ls i x) ((i, v) :: lv.filter (fun q => !(q.1 == i) && (!(q.1 == i + 1) && !(q.1 + 1 == i && q.2.category == 2)))) :=
  ⟨⟨rfl, hx⟩, ev_all_filter (fun q r hqr => by rw [hqr.1, ev_rel_cat hqr.2]) h⟩
theorem ev_args_ok {b hz : Nat} {L : List Nat} : ∀ {as : List ev_V} {vs : List Value}, ev_all (ev_rel b hz L) as vs → ∀ i, ev_lrel b hz L (ev_args i as) (lv_args i vs)
  | [], [], _, _ => trivial
  | x :: as, v :: vs, h, i => by
    refine ⟨⟨rfl, h.1⟩, ?_⟩
    have hc := ev_rel_cat h.1
    have e : (bif ev_lng x then i + 2 else i + 1) = if v.category = 2 then i + 2 else i + 1 := by
      rw [← hc]
      by_cases q : v.category = 2
      · rw [if_pos q, q]; rfl
      · rw [if_neg q, show (v.category == 2) = false from by simpa using q]; rfl
    rw [e]
    exact ev_args_ok h.2 _
  | [], _ :: _, h, _ => h.elim
  | _ :: _, [], h, _ => h.elim
theorem ev_get_put {m : List (Nat × (Int × Int))} {j : Nat} {r : Int × Int} (k : Nat) : ev_get (ev_put m j r fun m => m) k = if k = j then r else ev_get m k := by
  unfold ev_put
  by_cases hs : ev_same (ev_get m j) r = true
  · rw [hs]
    simp only [cond_true]
    by_cases hk : k = j
    · subst hk
      rw [if_pos rfl]
      simp only [ev_same, Bool.and_eq_true, decide_eq_true_eq] at hs
      exact Prod.ext hs.1 hs.2
    · rw [if_neg hk]
  · rw [ev_nt hs]
    simp only [cond_false, ev_get]
    by_cases hk : k = j
    · subst hk
      rw [if_pos rfl, show Nat.beq k k = true from Nat.beq_refl k]; rfl
    · rw [if_neg hk, show Nat.beq j k = false from by
        cases hb : Nat.beq j k with
        | false => rfl
        | true => exact absurd (Nat.eq_of_beq_eq_true hb).symm hk]; rfl
theorem ev_put_out {α : Type} {m : List (Nat × (Int × Int))} {j : Nat} {r : Int × Int} (f : List (Nat × (Int × Int)) → α) : ev_put m j r f = f (ev_put m j r fun m => m) := by
  unfold ev_put
  cases ev_same (ev_get m j) r <;> rfl
theorem ev_cp_get {f g : List (Nat × (Int × Int))} {sp dp : Nat} : ∀ (n k : Nat), ev_get (ev_cp f g sp dp n) k = if dp ≤ k ∧ k < dp + n then ev_get f (sp + (k - dp)) else ev_get g k
  | 0, k => by rw [if_neg (by omega)]; rfl
  | n + 1, k => by
    show ev_get (ev_put (ev_cp f g sp dp n) (dp + n) (ev_get f (sp + n)) fun m => m) k = _
    rw [ev_get_put, ev_cp_get n k]
    by_cases h1 : k = dp + n
    · subst h1
      rw [if_pos rfl, if_pos (by omega)]
      congr 1; omega
    · rw [if_neg h1]
      by_cases h2 : dp ≤ k ∧ k < dp + n
      · rw [if_pos h2, if_pos (by omega)]
      · rw [if_neg h2, if_neg (by omega)]
theorem ev_ix_ok {x : Int × Int} {n j : Nat} (h : ev_ix x n = some j) {i : Int32} (hi : ev_in x i) : i = nI j ∧ vp_in i n ∧ i.toNatClampNeg = j ∧ j < n ∧ ¬ i < 0 := by
  unfold ev_ix at h
  split at h
  · rename_i a b ha hb
    have hc : (Nat.beq a b && Nat.ble (a + 1) n) = true := by
      cases q : (Nat.beq a b && Nat.ble (a + 1) n) with
      | true => rfl
      | false => rw [q] at h; cases h
    rw [hc] at h
    simp only [cond_true, Option.some.injEq] at h
    subst h
    simp only [Bool.and_eq_true] at hc
    have e1 := Nat.eq_of_beq_eq_true hc.1
    have e2 := Nat.le_of_ble_eq_true hc.2
    have hj : i.toInt = (a : Int) := by
      have h1 := hi.1
      have h2 := hi.2
      rw [ha] at h1
      rw [hb, ← e1] at h2
      have h1' : (a : Int) ≤ i.toInt := h1
      have h2' : i.toInt ≤ (a : Int) := h2
      omega
    have hlt : a < 2 ^ 31 := by
      have := Int32.toInt_lt i
      omega
    have e : i = nI a := by
      apply Int32.toInt_inj.mp
      rw [hj, nI_toInt hlt]
    subst e
    have hcl : (nI a).toNatClampNeg = a := nI_clamp hlt
    have hps : ¬ nI a < 0 := nI_pos hlt
    exact ⟨rfl, fun q => q.elim hps (fun q => by rw [hcl] at q; omega), hcl, by omega, hps⟩
  · cases h
theorem ev_bin_ok {f : Int32 → Int32 → Int32} {x y : Int × Int} {i j : Int32} (hi : ev_in x i) (hj : ev_in y j) {b hz : Nat} {L : List Nat} : ev_rel b hz L (ev_bin f x y) (.int (f i j)) := by
  unfold ev_bin
  by_cases hq : (decide (x.1 = x.2) && decide (y.1 = y.2)) = true
  · rw [hq]
    simp only [cond_true]
    rw [ev_fI_eq]
    simp only [Bool.and_eq_true, decide_eq_true_eq] at hq
    have e1 : Int32.ofInt x.1 = i := by
      have := hi.1; have := hi.2
      rw [show x.1 = i.toInt by omega, Int32.ofInt_toInt]
    have e2 : Int32.ofInt y.1 = j := by
      have := hj.1; have := hj.2
      rw [show y.1 = j.toInt by omega, Int32.ofInt_toInt]
    exact ⟨f i j, rfl, by rw [e1, e2]; exact Int.le_refl _, by rw [e1, e2]; exact Int.le_refl _⟩
  · rw [ev_nt hq]
    exact ⟨f i j, rfl, Int32.le_toInt _, by have := Int32.toInt_le (f i j); exact this⟩
theorem ev_top_ok {i : Int32} {b hz : Nat} {L : List Nat} : ev_rel b hz L ev_top (.int i) := ⟨i, rfl, Int32.le_toInt _, by have := Int32.toInt_le i; exact this⟩
theorem ev_lt_t {x y : Int × Int} {i j : Int32} (hi : ev_in x i) (hj : ev_in y j) (h : ev_lt x y = some true) : i < j := by
  unfold ev_lt at h
  split at h
  · rename_i q
    rw [Int32.lt_iff_toInt_lt]
    have := hi.2; have := hj.1; omega
  · split at h <;> cases h
theorem ev_lt_f {x y : Int × Int} {i j : Int32} (hi : ev_in x i) (hj : ev_in y j) (h : ev_lt x y = some false) : ¬ i < j := by
  unfold ev_lt at h
  split at h
  · cases h
  · split at h
    · rename_i q
      rw [Int32.lt_iff_toInt_lt]
      have := hi.1; have := hj.2; omega
    · cases h
theorem ev_eq_t {x y : Int × Int} {i j : Int32} (hi : ev_in x i) (hj : ev_in y j) (h : ev_eq x y = some true) : i = j := by
  unfold ev_eq at h
  split at h
  · rename_i q
    apply Int32.toInt_inj.mp
    have := hi.1; have := hi.2; have := hj.1; have := hj.2; omega
  · split at h <;> cases h
theorem ev_eq_f {x y : Int × Int} {i j : Int32} (hi : ev_in x i) (hj : ev_in y j) (h : ev_eq x y = some false) : ¬ i = j := by
  unfold ev_eq at h
  split at h
  · cases h
  · split at h
    · rename_i q
      intro e
      subst e
      have := hi.1; have := hi.2; have := hj.1; have := hj.2; omega
    · cases h
end EVR
end
section
/-! ===== each step of the interpreter is one of the machine ===== -/
section EVS
variable {p : Program} {l : Launch} {e : Env} {R : Room} {s : State} {m : MethodId} {args : Array Value} {below : List Frame} {meth : Method} {c : Code} {Q : State → Prop} {b hz : Nat} {D : va_G} {cl : List vw_C} {A : Nat → Prop} {L0 : List Nat} {nL : Nat} {cells slots : Nat} {cc : ByteArray} {pc : Nat} {ls : ev_L} {st : List ev_V} {h : ev_H}
def ev_K (p : Program) (l : Launch) (e : Env) (R : Room) (s : State) (m : MethodId) (args : Array Value) (below : List Frame) (meth : Method) (c : Code) (Q : State → Prop) (b hz : Nat) (D : va_G) (cl : List vw_C) (A : Nat → Prop) (L0 : List Nat) (nL : Nat) (cells slots : Nat) (pc : Nat) (ls : ev_L) (st : List ev_V) (h : ev_H) : Prop :=
  ∀ (H : Heap) (locs : List Loc) (lsC : Array Slot) (stC : List Value), ev_St b hz D cl A L0 s nL ls st h H locs lsC stC → W p l e R s m args below meth c H locs cells slots Q (F0 m pc lsC stC)
def ev_hv (j : Nat) : Value := .int (Int32.ofInt (([5, 24, 9, 1, 9] : List Int).getD j 0))
/-- a known pushed value -/
theorem ev_pc_ok {n : Int} {v : Int32} (hv : v.toInt = n) : ev_rel b hz (L0) (.inl (n, n)) (.int v) := ⟨v, rfl, by rw [hv]; exact Int.le_refl _, by rw [hv]; exact Int.le_refl _⟩

theorem ev_ref_ok {n : Nat} {L : List Nat} {v : Value} (hv : ev_rel b hz L (.inr (.inr (n + 2))) v) : ∃ a, v = .ref a := by
  match n, hv with
  | 0, hv => exact ⟨_, hv⟩
  | 1, hv => exact ⟨_, hv⟩
  | n + 2, ⟨a, _, hv⟩ => exact ⟨a, hv⟩
theorem ev_iload_n_ok (hx : p.tables.exec = Jvm.exec) (hb : c.code = cc) {k : Fin 4} {x : ev_V} (hld : ev_ldI ls k.val = some x) (hdg : decode cc pc = .ok (.iload_n k, 1)) (kk : ev_K p l e R s m args below meth c Q b hz D cl A L0 nL cells slots (pc + 1) ls (x :: st) h) : ev_K p l e R s m args below meth c Q b hz D cl A L0 nL cells slots pc ls st h := by
  intro H locs lsC stC hSt
  obtain ⟨tys, ws, lv, t, hK, hP, hD, hS, hL0, hw, hst, hl, hlr⟩ := hSt
  unfold ev_ldI at hld
  split at hld
  · rename_i hq
    cases hld
    obtain ⟨j, v, h1, h2⟩ := ev_loc_ok hlr hq
    obtain ⟨i, rfl, h3⟩ := h2
    exact lv_iload_n hx hb hdg rfl (lv_at hl j h1) (kk H locs lsC _ ⟨tys, ws, lv, t, hK, hP, hD, hS, hL0, hw, ⟨⟨i, rfl, h3⟩, hst⟩, hl, hlr⟩)
  · cases hld
theorem ev_iload_ok (hx : p.tables.exec = Jvm.exec) (hb : c.code = cc) {k : Nat} {x : ev_V} (hld : ev_ldI ls k = some x) (hdg : decode cc pc = .ok (.iload k, 2)) (kk : ev_K p l e R s m args below meth c Q b hz D cl A L0 nL cells slots (pc + 2) ls (x :: st) h) : ev_K p l e R s m args below meth c Q b hz D cl A L0 nL cells slots pc ls st h := by
  intro H locs lsC stC hSt
  obtain ⟨tys, ws, lv, t, hK, hP, hD, hS, hL0, hw, hst, hl, hlr⟩ := hSt
  unfold ev_ldI at hld
  split at hld
  · rename_i hq
    cases hld
    obtain ⟨j, v, h1, h2⟩ := ev_loc_ok hlr hq
    obtain ⟨i, rfl, h3⟩ := h2
    exact lv_iload hx hb hdg (lv_at hl j h1) (kk H locs lsC _ ⟨tys, ws, lv, t, hK, hP, hD, hS, hL0, hw, ⟨⟨i, rfl, h3⟩, hst⟩, hl, hlr⟩)
  · cases hld
theorem ev_aload_n_ok (hx : p.tables.exec = Jvm.exec) (hb : c.code = cc) {k : Fin 4} {x : ev_V} (hld : ev_ldR ls k.val = some x) (hdg : decode cc pc = .ok (.aload_n k, 1)) (kk : ev_K p l e R s m args below meth c Q b hz D cl A L0 nL cells slots (pc + 1) ls (x :: st) h) : ev_K p l e R s m args below meth c Q b hz D cl A L0 nL cells slots pc ls st h := by
  intro H locs lsC stC hSt
  obtain ⟨tys, ws, lv, t, hK, hP, hD, hS, hL0, hw, hst, hl, hlr⟩ := hSt
  unfold ev_ldR at hld
  split at hld
  · rename_i hq
    cases hld
    obtain ⟨j, v, h1, h2⟩ := ev_loc_ok hlr hq
    obtain ⟨a, rfl⟩ := ev_ref_ok h2
    exact lv_aload_n hx hb hdg rfl (lv_at hl j h1) (kk H locs lsC _ ⟨tys, ws, lv, t, hK, hP, hD, hS, hL0, hw, ⟨h2, hst⟩, hl, hlr⟩)
  · cases hld
theorem ev_aload_ok (hx : p.tables.exec = Jvm.exec) (hb : c.code = cc) {k : Nat} {x : ev_V} (hld : ev_ldR ls k = some x) (hdg : decode cc pc = .ok (.aload k, 2)) (kk : ev_K p l e R s m args below meth c Q b hz D cl A L0 nL cells slots (pc + 2) ls (x :: st) h) : ev_K p l e R s m args below meth c Q b hz D cl A L0 nL cells slots pc ls st h := by
  intro H locs lsC stC hSt
  obtain ⟨tys, ws, lv, t, hK, hP, hD, hS, hL0, hw, hst, hl, hlr⟩ := hSt
  unfold ev_ldR at hld
  split at hld
  · rename_i hq
    cases hld
    obtain ⟨j, v, h1, h2⟩ := ev_loc_ok hlr hq
    obtain ⟨a, rfl⟩ := ev_ref_ok h2
    exact lv_aload hx hb hdg (lv_at hl j h1) (kk H locs lsC _ ⟨tys, ws, lv, t, hK, hP, hD, hS, hL0, hw, ⟨h2, hst⟩, hl, hlr⟩)
  · cases hld
theorem ev_lload_n_ok (hx : p.tables.exec = Jvm.exec) (hb : c.code = cc) {k : Fin 4} {x : ev_V} (hld : ev_ldJ ls k.val = some x) (hdg : decode cc pc = .ok (.lload_n k, 1)) (kk : ev_K p l e R s m args below meth c Q b hz D cl A L0 nL cells slots (pc + 1) ls (x :: st) h) : ev_K p l e R s m args below meth c Q b hz D cl A L0 nL cells slots pc ls st h := by
  intro H locs lsC stC hSt
  obtain ⟨tys, ws, lv, t, hK, hP, hD, hS, hL0, hw, hst, hl, hlr⟩ := hSt
  unfold ev_ldJ at hld
  split at hld
  · rename_i hq
    cases hld
    obtain ⟨j, v, h1, h2⟩ := ev_loc_ok hlr hq
    obtain ⟨i, rfl⟩ := h2
    exact lv_lload_n hx hb hdg rfl (lv_at hl j h1) (kk H locs lsC _ ⟨tys, ws, lv, t, hK, hP, hD, hS, hL0, hw, ⟨⟨i, rfl⟩, hst⟩, hl, hlr⟩)
  · cases hld
theorem ev_istore_n_ok (hx : p.tables.exec = Jvm.exec) (hb : c.code = cc) {k : Fin 4} {r : Int × Int} (hn : k.val < nL) (hdg : decode cc pc = .ok (.istore_n k, 1)) (kk : ev_K p l e R s m args below meth c Q b hz D cl A L0 nL cells slots (pc + 1) (ev_sto ls k.val (.inl r)) st h) : ev_K p l e R s m args below meth c Q b hz D cl A L0 nL cells slots pc ls (.inl r :: st) h := by
  intro H locs lsC stC hSt
  obtain ⟨tys, ws, lv, t, hK, hP, hD, hS, hL0, hw, hst, hl, hlr⟩ := hSt
  obtain ⟨v, stCv, ev, hv, hv1⟩ := ev_all_cons hst
  subst ev
  clear hst
  have hst := hv1
  obtain ⟨i, rfl, h3⟩ := hv
  exact lv_istore_n hx hb hdg rfl hl hn rfl (fun ls' hl' => kk H locs ls' _ ⟨tys, ws, _, t, hK, hP, hD, hS, hL0, hw, hst, hl', ev_sto_ok hlr _ ⟨i, rfl, h3⟩⟩)
theorem ev_istore_ok (hx : p.tables.exec = Jvm.exec) (hb : c.code = cc) {k : Nat} {r : Int × Int} (hn : k < nL) (hdg : decode cc pc = .ok (.istore k, 2)) (kk : ev_K p l e R s m args below meth c Q b hz D cl A L0 nL cells slots (pc + 2) (ev_sto ls k (.inl r)) st h) : ev_K p l e R s m args below meth c Q b hz D cl A L0 nL cells slots pc ls (.inl r :: st) h := by
  intro H locs lsC stC hSt
  obtain ⟨tys, ws, lv, t, hK, hP, hD, hS, hL0, hw, hst, hl, hlr⟩ := hSt
  obtain ⟨v, stCv, ev, hv, hv1⟩ := ev_all_cons hst
  subst ev
  clear hst
  have hst := hv1
  obtain ⟨i, rfl, h3⟩ := hv
  exact lv_istore hx hb hdg hl hn rfl (fun ls' hl' => kk H locs ls' _ ⟨tys, ws, _, t, hK, hP, hD, hS, hL0, hw, hst, hl', ev_sto_ok hlr _ ⟨i, rfl, h3⟩⟩)
theorem ev_astore_n_ok (hx : p.tables.exec = Jvm.exec) (hb : c.code = cc) {k : Fin 4} {n : Nat} (hn : k.val < nL) (hdg : decode cc pc = .ok (.astore_n k, 1)) (kk : ev_K p l e R s m args below meth c Q b hz D cl A L0 nL cells slots (pc + 1) (ev_sto ls k.val (.inr (.inr (n + 2)))) st h) : ev_K p l e R s m args below meth c Q b hz D cl A L0 nL cells slots pc ls (.inr (.inr (n + 2)) :: st) h := by
  intro H locs lsC stC hSt
  obtain ⟨tys, ws, lv, t, hK, hP, hD, hS, hL0, hw, hst, hl, hlr⟩ := hSt
  obtain ⟨v, stCv, ev, hv, hv1⟩ := ev_all_cons hst
  subst ev
  clear hst
  have hst := hv1
  obtain ⟨a, rfl⟩ := ev_ref_ok hv
  exact lv_astore_n hx hb hdg rfl hl hn rfl (fun ls' hl' => kk H locs ls' _ ⟨tys, ws, _, t, hK, hP, hD, hS, hL0, hw, hst, hl', ev_sto_ok hlr _ hv⟩)
theorem ev_lstore_ok (hx : p.tables.exec = Jvm.exec) (hb : c.code = cc) {k : Nat} (hn : k + 1 < nL) (hdg : decode cc pc = .ok (.lstore k, 2)) (kk : ev_K p l e R s m args below meth c Q b hz D cl A L0 nL cells slots (pc + 2) (ev_stoL ls k (.inr (.inr 0))) st h) : ev_K p l e R s m args below meth c Q b hz D cl A L0 nL cells slots pc ls (.inr (.inr 0) :: st) h := by
  intro H locs lsC stC hSt
  obtain ⟨tys, ws, lv, t, hK, hP, hD, hS, hL0, hw, hst, hl, hlr⟩ := hSt
  obtain ⟨v, stCi, e1, ⟨i, e2⟩, hi1⟩ := ev_all_cons hst
  subst e1 e2
  clear hst
  have hst := hi1
  exact lv_lstore hx hb hdg hl hn rfl (fun ls' hl' => kk H locs ls' _ ⟨tys, ws, _, t, hK, hP, hD, hS, hL0, hw, hst, hl', ev_stoL_ok hlr _ ⟨i, rfl⟩⟩)
theorem ev_iinc_ok (hx : p.tables.exec = Jvm.exec) (hb : c.code = cc) {k : Nat} {n : Int} {x : Int × Int} (hld : ev_loc ls k = some (.inl x)) (hn : k < nL) (hnn : (Int32.ofInt n).toInt = n) (hdg : decode cc pc = .ok (.iinc k n, 3)) (kk : ev_K p l e R s m args below meth c Q b hz D cl A L0 nL cells slots (pc + 3) (ev_sto ls k (ev_bin (fun a b => a + b) x (n, n))) st h) : ev_K p l e R s m args below meth c Q b hz D cl A L0 nL cells slots pc ls st h := by
  intro H locs lsC stC hSt
  obtain ⟨tys, ws, lv, t, hK, hP, hD, hS, hL0, hw, hst, hl, hlr⟩ := hSt
  obtain ⟨j, v, h1, h2⟩ := ev_loc_ok hlr hld
  obtain ⟨i, rfl, h3⟩ := h2
  exact lv_iinc hx hb hdg hl h1 rfl hn rfl (fun ls' hl' => kk H locs ls' _ ⟨tys, ws, _, t, hK, hP, hD, hS, hL0, hw, hst, hl', ev_sto_ok hlr _ (ev_bin_ok (f := fun a b => a + b) h3 ⟨by rw [hnn]; exact Int.le_refl _, by rw [hnn]; exact Int.le_refl _⟩)⟩)
theorem ev_iconst_ok (hx : p.tables.exec = Jvm.exec) (hb : c.code = cc) {n z : Int} (hv : (Int32.ofInt n).toInt = z) (hdg : decode cc pc = .ok (.iconst n, 1)) (kk : ev_K p l e R s m args below meth c Q b hz D cl A L0 nL cells slots (pc + 1) ls (.inl (z, z) :: st) h) : ev_K p l e R s m args below meth c Q b hz D cl A L0 nL cells slots pc ls st h := by
  intro H locs lsC stC hSt
  obtain ⟨tys, ws, lv, t, hK, hP, hD, hS, hL0, hw, hst, hl, hlr⟩ := hSt
  exact lv_iconst hx hb hdg rfl (kk H locs lsC _ ⟨tys, ws, lv, t, hK, hP, hD, hS, hL0, hw, ⟨ev_pc_ok hv, hst⟩, hl, hlr⟩)
theorem ev_bipush_ok (hx : p.tables.exec = Jvm.exec) (hb : c.code = cc) {n z : Int} (hv : ((Int8.ofInt n).toInt32).toInt = z) (hdg : decode cc pc = .ok (.bipush n, 2)) (kk : ev_K p l e R s m args below meth c Q b hz D cl A L0 nL cells slots (pc + 2) ls (.inl (z, z) :: st) h) : ev_K p l e R s m args below meth c Q b hz D cl A L0 nL cells slots pc ls st h := by
  intro H locs lsC stC hSt
  obtain ⟨tys, ws, lv, t, hK, hP, hD, hS, hL0, hw, hst, hl, hlr⟩ := hSt
  exact lv_bipush hx hb hdg rfl (kk H locs lsC _ ⟨tys, ws, lv, t, hK, hP, hD, hS, hL0, hw, ⟨ev_pc_ok hv, hst⟩, hl, hlr⟩)
theorem ev_sipush_ok (hx : p.tables.exec = Jvm.exec) (hb : c.code = cc) {n z : Int} (hv : ((Int16.ofInt n).toInt32).toInt = z) (hdg : decode cc pc = .ok (.sipush n, 3)) (kk : ev_K p l e R s m args below meth c Q b hz D cl A L0 nL cells slots (pc + 3) ls (.inl (z, z) :: st) h) : ev_K p l e R s m args below meth c Q b hz D cl A L0 nL cells slots pc ls st h := by
  intro H locs lsC stC hSt
  obtain ⟨tys, ws, lv, t, hK, hP, hD, hS, hL0, hw, hst, hl, hlr⟩ := hSt
  exact lv_sipush hx hb hdg rfl (kk H locs lsC _ ⟨tys, ws, lv, t, hK, hP, hD, hS, hL0, hw, ⟨ev_pc_ok hv, hst⟩, hl, hlr⟩)
theorem ev_ldc_ok (hx : p.tables.exec = Jvm.exec) (hb : c.code = cc) {own : String} (hown : s.vm.findClass own = some m.cls) {k : Nat} {v : Int32} {z : Int} (hv : v.toInt = z) (hc : (Cond.constant own k v).before args s = true) (hdg : decode cc pc = .ok (.ldc k, 2)) (kk : ev_K p l e R s m args below meth c Q b hz D cl A L0 nL cells slots (pc + 2) ls (.inl (z, z) :: st) h) : ev_K p l e R s m args below meth c Q b hz D cl A L0 nL cells slots pc ls st h := by
  intro H locs lsC stC hSt
  obtain ⟨tys, ws, lv, t, hK, hP, hD, hS, hL0, hw, hst, hl, hlr⟩ := hSt
  exact lv_ldc hx hb hown hc hdg (kk H locs lsC _ ⟨tys, ws, lv, t, hK, hP, hD, hS, hL0, hw, ⟨ev_pc_ok hv, hst⟩, hl, hlr⟩)
theorem ev_ldc_w_ok (hx : p.tables.exec = Jvm.exec) (hb : c.code = cc) {own : String} (hown : s.vm.findClass own = some m.cls) {k : Nat} {v : Int32} {z : Int} (hv : v.toInt = z) (hc : (Cond.constant own k v).before args s = true) (hdg : decode cc pc = .ok (.ldc_w k, 3)) (kk : ev_K p l e R s m args below meth c Q b hz D cl A L0 nL cells slots (pc + 3) ls (.inl (z, z) :: st) h) : ev_K p l e R s m args below meth c Q b hz D cl A L0 nL cells slots pc ls st h := by
  intro H locs lsC stC hSt
  obtain ⟨tys, ws, lv, t, hK, hP, hD, hS, hL0, hw, hst, hl, hlr⟩ := hSt
  exact lv_ldcw hx hb hown hc hdg (kk H locs lsC _ ⟨tys, ws, lv, t, hK, hP, hD, hS, hL0, hw, ⟨ev_pc_ok hv, hst⟩, hl, hlr⟩)
theorem ev_iadd_ok (hx : p.tables.exec = Jvm.exec) (hb : c.code = cc) {x y : Int × Int} (hdg : decode cc pc = .ok (.iadd, 1)) (kk : ev_K p l e R s m args below meth c Q b hz D cl A L0 nL cells slots (pc + 1) ls (ev_bin (fun a b => a + b) x y :: st) h) : ev_K p l e R s m args below meth c Q b hz D cl A L0 nL cells slots pc ls (.inl y :: .inl x :: st) h := by
  intro H locs lsC stC hSt
  obtain ⟨tys, ws, lv, t, hK, hP, hD, hS, hL0, hw, hst, hl, hlr⟩ := hSt
  obtain ⟨v, stCj, e1, ⟨j, e2, hj⟩, hj1⟩ := ev_all_cons hst
  subst e1 e2
  clear hst
  have hst := hj1
  obtain ⟨v, stCi, e1, ⟨i, e2, hi⟩, hi1⟩ := ev_all_cons hst
  subst e1 e2
  clear hst
  have hst := hi1
  exact lv_iadd hx hb hdg (kk H locs lsC _ ⟨tys, ws, lv, t, hK, hP, hD, hS, hL0, hw, ⟨ev_bin_ok (f := fun a b => a + b) hi hj, hst⟩, hl, hlr⟩)
theorem ev_isub_ok (hx : p.tables.exec = Jvm.exec) (hb : c.code = cc) {x y : Int × Int} (hdg : decode cc pc = .ok (.isub, 1)) (kk : ev_K p l e R s m args below meth c Q b hz D cl A L0 nL cells slots (pc + 1) ls (ev_bin (fun a b => a - b) x y :: st) h) : ev_K p l e R s m args below meth c Q b hz D cl A L0 nL cells slots pc ls (.inl y :: .inl x :: st) h := by
  intro H locs lsC stC hSt
  obtain ⟨tys, ws, lv, t, hK, hP, hD, hS, hL0, hw, hst, hl, hlr⟩ := hSt
  obtain ⟨v, stCj, e1, ⟨j, e2, hj⟩, hj1⟩ := ev_all_cons hst
  subst e1 e2
  clear hst
  have hst := hj1
  obtain ⟨v, stCi, e1, ⟨i, e2, hi⟩, hi1⟩ := ev_all_cons hst
  subst e1 e2
  clear hst
  have hst := hi1
  exact lv_isub hx hb hdg (kk H locs lsC _ ⟨tys, ws, lv, t, hK, hP, hD, hS, hL0, hw, ⟨ev_bin_ok (f := fun a b => a - b) hi hj, hst⟩, hl, hlr⟩)
theorem ev_imul_ok (hx : p.tables.exec = Jvm.exec) (hb : c.code = cc) {x y : Int × Int} (hdg : decode cc pc = .ok (.imul, 1)) (kk : ev_K p l e R s m args below meth c Q b hz D cl A L0 nL cells slots (pc + 1) ls (ev_bin (fun a b => a * b) x y :: st) h) : ev_K p l e R s m args below meth c Q b hz D cl A L0 nL cells slots pc ls (.inl y :: .inl x :: st) h := by
  intro H locs lsC stC hSt
  obtain ⟨tys, ws, lv, t, hK, hP, hD, hS, hL0, hw, hst, hl, hlr⟩ := hSt
  obtain ⟨v, stCj, e1, ⟨j, e2, hj⟩, hj1⟩ := ev_all_cons hst
  subst e1 e2
  clear hst
  have hst := hj1
  obtain ⟨v, stCi, e1, ⟨i, e2, hi⟩, hi1⟩ := ev_all_cons hst
  subst e1 e2
  clear hst
  have hst := hi1
  exact lv_imul hx hb hdg (kk H locs lsC _ ⟨tys, ws, lv, t, hK, hP, hD, hS, hL0, hw, ⟨ev_bin_ok (f := fun a b => a * b) hi hj, hst⟩, hl, hlr⟩)
theorem ev_ishr_ok (hx : p.tables.exec = Jvm.exec) (hb : c.code = cc) {x y : Int × Int} (hdg : decode cc pc = .ok (.ishr, 1)) (kk : ev_K p l e R s m args below meth c Q b hz D cl A L0 nL cells slots (pc + 1) ls (ev_bin (fun a b => a >>> (b &&& 31)) x y :: st) h) : ev_K p l e R s m args below meth c Q b hz D cl A L0 nL cells slots pc ls (.inl y :: .inl x :: st) h := by
  intro H locs lsC stC hSt
  obtain ⟨tys, ws, lv, t, hK, hP, hD, hS, hL0, hw, hst, hl, hlr⟩ := hSt
  obtain ⟨v, stCj, e1, ⟨j, e2, hj⟩, hj1⟩ := ev_all_cons hst
  subst e1 e2
  clear hst
  have hst := hj1
  obtain ⟨v, stCi, e1, ⟨i, e2, hi⟩, hi1⟩ := ev_all_cons hst
  subst e1 e2
  clear hst
  have hst := hi1
  exact lv_ishr hx hb hdg (kk H locs lsC _ ⟨tys, ws, lv, t, hK, hP, hD, hS, hL0, hw, ⟨ev_bin_ok (f := fun a b => a >>> (b &&& 31)) hi hj, hst⟩, hl, hlr⟩)
theorem ev_iand_ok (hx : p.tables.exec = Jvm.exec) (hb : c.code = cc) {x y : Int × Int} (hdg : decode cc pc = .ok (.iand, 1)) (kk : ev_K p l e R s m args below meth c Q b hz D cl A L0 nL cells slots (pc + 1) ls (ev_bin (fun a b => a &&& b) x y :: st) h) : ev_K p l e R s m args below meth c Q b hz D cl A L0 nL cells slots pc ls (.inl y :: .inl x :: st) h := by
  intro H locs lsC stC hSt
  obtain ⟨tys, ws, lv, t, hK, hP, hD, hS, hL0, hw, hst, hl, hlr⟩ := hSt
  obtain ⟨v, stCj, e1, ⟨j, e2, hj⟩, hj1⟩ := ev_all_cons hst
  subst e1 e2
  clear hst
  have hst := hj1
  obtain ⟨v, stCi, e1, ⟨i, e2, hi⟩, hi1⟩ := ev_all_cons hst
  subst e1 e2
  clear hst
  have hst := hi1
  exact lv_iand hx hb hdg (kk H locs lsC _ ⟨tys, ws, lv, t, hK, hP, hD, hS, hL0, hw, ⟨ev_bin_ok (f := fun a b => a &&& b) hi hj, hst⟩, hl, hlr⟩)
theorem ev_iushr_ok (hx : p.tables.exec = Jvm.exec) (hb : c.code = cc) {x y : Int × Int} (hdg : decode cc pc = .ok (.iushr, 1)) (kk : ev_K p l e R s m args below meth c Q b hz D cl A L0 nL cells slots (pc + 1) ls (ev_bin (fun a b => (a.toUInt32 >>> (b.toUInt32 &&& Int32.toUInt32 31)).toInt32) x y :: st) h) : ev_K p l e R s m args below meth c Q b hz D cl A L0 nL cells slots pc ls (.inl y :: .inl x :: st) h := by
  intro H locs lsC stC hSt
  obtain ⟨tys, ws, lv, t, hK, hP, hD, hS, hL0, hw, hst, hl, hlr⟩ := hSt
  obtain ⟨v, stCj, e1, ⟨j, e2, hj⟩, hj1⟩ := ev_all_cons hst
  subst e1 e2
  clear hst
  have hst := hj1
  obtain ⟨v, stCi, e1, ⟨i, e2, hi⟩, hi1⟩ := ev_all_cons hst
  subst e1 e2
  clear hst
  have hst := hi1
  exact lv_iushr hx hb hdg rfl (kk H locs lsC _ ⟨tys, ws, lv, t, hK, hP, hD, hS, hL0, hw, ⟨ev_bin_ok (f := fun a b => (a.toUInt32 >>> (b.toUInt32 &&& Int32.toUInt32 31)).toInt32) hi hj, hst⟩, hl, hlr⟩)
theorem ev_iandm_ok (hx : p.tables.exec = Jvm.exec) (hb : c.code = cc) {k : Nat} {y : Int × Int} (h1 : y.1 = 31) (h2 : y.2 = 31) (hk : k ≤ 31) (hdg : decode cc pc = .ok (.iand, 1)) (kk : ev_K p l e R s m args below meth c Q b hz D cl A L0 nL cells slots (pc + 1) ls (.inl (k, k) :: st) h) : ev_K p l e R s m args below meth c Q b hz D cl A L0 nL cells slots pc ls (.inl y :: .inr (.inl k) :: st) h := by
  intro H locs lsC stC hSt
  obtain ⟨tys, ws, lv, t, hK, hP, hD, hS, hL0, hw, hst, hl, hlr⟩ := hSt
  obtain ⟨v, stCj, e1, ⟨j, e2, hj⟩, hj1⟩ := ev_all_cons hst
  subst e1 e2
  clear hst
  have hst := hj1
  obtain ⟨v, stCi, e1, ⟨i, e2, hi⟩, hi1⟩ := ev_all_cons hst
  subst e1 e2
  clear hst
  have hst := hi1
  have ej : j = 31 := by
    apply Int32.toInt_inj.mp
    have q1 := hj.1
    have q2 := hj.2
    rw [h1] at q1
    rw [h2] at q2
    have : (31 : Int32).toInt = 31 := by decide
    omega
  subst ej
  refine lv_iand hx hb hdg (kk H locs lsC _ ⟨tys, ws, lv, t, hK, hP, hD, hS, hL0, hw, ⟨?_, hst⟩, hl, hlr⟩)
  rw [hi]
  exact ev_pc_ok (nI_toInt (n := k) (by omega))
theorem ev_i2b_ok (hx : p.tables.exec = Jvm.exec) (hb : c.code = cc) {x : Int × Int} (hdg : decode cc pc = .ok (.i2b, 1)) (kk : ev_K p l e R s m args below meth c Q b hz D cl A L0 nL cells slots (pc + 1) ls (ev_top :: st) h) : ev_K p l e R s m args below meth c Q b hz D cl A L0 nL cells slots pc ls (.inl x :: st) h := by
  intro H locs lsC stC hSt
  obtain ⟨tys, ws, lv, t, hK, hP, hD, hS, hL0, hw, hst, hl, hlr⟩ := hSt
  obtain ⟨v, stCj, e1, ⟨j, e2, hj⟩, hj1⟩ := ev_all_cons hst
  subst e1 e2
  clear hst
  have hst := hj1
  exact lv_i2b hx hb hdg rfl (kk H locs lsC _ ⟨tys, ws, lv, t, hK, hP, hD, hS, hL0, hw, ⟨ev_top_ok, hst⟩, hl, hlr⟩)
theorem ev_i2l_ok (hx : p.tables.exec = Jvm.exec) (hb : c.code = cc) {x : Int × Int} (hdg : decode cc pc = .ok (.i2l, 1)) (kk : ev_K p l e R s m args below meth c Q b hz D cl A L0 nL cells slots (pc + 1) ls (.inr (.inr 0) :: st) h) : ev_K p l e R s m args below meth c Q b hz D cl A L0 nL cells slots pc ls (.inl x :: st) h := by
  intro H locs lsC stC hSt
  obtain ⟨tys, ws, lv, t, hK, hP, hD, hS, hL0, hw, hst, hl, hlr⟩ := hSt
  obtain ⟨v, stCj, e1, ⟨j, e2, hj⟩, hj1⟩ := ev_all_cons hst
  subst e1 e2
  clear hst
  have hst := hj1
  exact lv_i2l hx hb hdg rfl (kk H locs lsC _ ⟨tys, ws, lv, t, hK, hP, hD, hS, hL0, hw, ⟨⟨_, rfl⟩, hst⟩, hl, hlr⟩)
theorem ev_dup_ok (hx : p.tables.exec = Jvm.exec) (hb : c.code = cc) {x : ev_V} (h1 : ev_ok1 x = true) (hdg : decode cc pc = .ok (.dup, 1)) (kk : ev_K p l e R s m args below meth c Q b hz D cl A L0 nL cells slots (pc + 1) ls (x :: x :: st) h) : ev_K p l e R s m args below meth c Q b hz D cl A L0 nL cells slots pc ls (x :: st) h := by
  intro H locs lsC stC hSt
  obtain ⟨tys, ws, lv, t, hK, hP, hD, hS, hL0, hw, hst, hl, hlr⟩ := hSt
  obtain ⟨v, stCv, ev, hv, hv1⟩ := ev_all_cons hst
  subst ev
  clear hst
  have hst := hv1
  exact lv_dup hx hb hdg (ev_rel_c1 hv h1) (kk H locs lsC _ ⟨tys, ws, lv, t, hK, hP, hD, hS, hL0, hw, ⟨hv, hv, hst⟩, hl, hlr⟩)
theorem ev_dup_x1_ok (hx : p.tables.exec = Jvm.exec) (hb : c.code = cc) {x y : ev_V} (h1 : ev_ok1 x = true) (h2 : ev_ok1 y = true) (hdg : decode cc pc = .ok (.dup_x1, 1)) (kk : ev_K p l e R s m args below meth c Q b hz D cl A L0 nL cells slots (pc + 1) ls (x :: y :: x :: st) h) : ev_K p l e R s m args below meth c Q b hz D cl A L0 nL cells slots pc ls (x :: y :: st) h := by
  intro H locs lsC stC hSt
  obtain ⟨tys, ws, lv, t, hK, hP, hD, hS, hL0, hw, hst, hl, hlr⟩ := hSt
  obtain ⟨v, stCv, ev, hv, hv1⟩ := ev_all_cons hst
  subst ev
  clear hst
  have hst := hv1
  obtain ⟨u, stCu, eu, hu, hu1⟩ := ev_all_cons hst
  subst eu
  clear hst
  have hst := hu1
  exact lv_dup_x1 hx hb hdg (ev_rel_c1 hv h1) (ev_rel_c1 hu h2) (kk H locs lsC _ ⟨tys, ws, lv, t, hK, hP, hD, hS, hL0, hw, ⟨hv, hu, hv, hst⟩, hl, hlr⟩)
theorem ev_pop_ok (hx : p.tables.exec = Jvm.exec) (hb : c.code = cc) {x : ev_V} (h1 : ev_ok1 x = true) (hdg : decode cc pc = .ok (.pop, 1)) (kk : ev_K p l e R s m args below meth c Q b hz D cl A L0 nL cells slots (pc + 1) ls st h) : ev_K p l e R s m args below meth c Q b hz D cl A L0 nL cells slots pc ls (x :: st) h := by
  intro H locs lsC stC hSt
  obtain ⟨tys, ws, lv, t, hK, hP, hD, hS, hL0, hw, hst, hl, hlr⟩ := hSt
  obtain ⟨v, stCv, ev, hv, hv1⟩ := ev_all_cons hst
  subst ev
  clear hst
  have hst := hv1
  exact lv_pop hx hb hdg (ev_rel_c1 hv h1) (kk H locs lsC _ ⟨tys, ws, lv, t, hK, hP, hD, hS, hL0, hw, hst, hl, hlr⟩)
theorem ev_goto_ok (hx : p.tables.exec = Jvm.exec) (hb : c.code = cc) {off : Int} {tgt : Nat} (ht : (pc : Int) + off = (tgt : Int)) (hdg : decode cc pc = .ok (.goto off, 3)) (kk : ev_K p l e R s m args below meth c Q b hz D cl A L0 nL cells slots tgt ls st h) : ev_K p l e R s m args below meth c Q b hz D cl A L0 nL cells slots pc ls st h := by
  intro H locs lsC stC hSt
  obtain ⟨tys, ws, lv, t, hK, hP, hD, hS, hL0, hw, hst, hl, hlr⟩ := hSt
  exact lv_goto hx hb hdg ht (kk H locs lsC _ ⟨tys, ws, lv, t, hK, hP, hD, hS, hL0, hw, hst, hl, hlr⟩)
theorem ev_icmp_lt_t (hx : p.tables.exec = Jvm.exec) (hb : c.code = cc) {off : Int} {tgt : Nat} {x y : Int × Int} (hc : ev_lt x y = some true) (ht : (pc : Int) + off = (tgt : Int)) (hdg : decode cc pc = .ok (.if_icmp .lt off, 3)) (kk : ev_K p l e R s m args below meth c Q b hz D cl A L0 nL cells slots tgt ls st h) : ev_K p l e R s m args below meth c Q b hz D cl A L0 nL cells slots pc ls (.inl y :: .inl x :: st) h := by
  intro H locs lsC stC hSt
  obtain ⟨tys, ws, lv, t, hK, hP, hD, hS, hL0, hw, hst, hl, hlr⟩ := hSt
  obtain ⟨v, stC1, e1, ⟨j, e2, hj⟩, hj1⟩ := ev_all_cons hst
  subst e1 e2
  clear hst
  have hst := hj1
  obtain ⟨v, stC2, e1, ⟨i, e2, hi⟩, hi1⟩ := ev_all_cons hst
  subst e1 e2
  clear hst
  have hst := hi1
  exact lv_icmp_lt hx hb hdg ht (fun _ => kk H locs lsC _ ⟨tys, ws, lv, t, hK, hP, hD, hS, hL0, hw, hst, hl, hlr⟩) (fun q => absurd (ev_lt_t hi hj hc) q)
theorem ev_icmp_lt_f (hx : p.tables.exec = Jvm.exec) (hb : c.code = cc) {off : Int} {tgt : Nat} {x y : Int × Int} (hc : ev_lt x y = some false) (ht : (pc : Int) + off = (tgt : Int)) (hdg : decode cc pc = .ok (.if_icmp .lt off, 3)) (kk : ev_K p l e R s m args below meth c Q b hz D cl A L0 nL cells slots (pc + 3) ls st h) : ev_K p l e R s m args below meth c Q b hz D cl A L0 nL cells slots pc ls (.inl y :: .inl x :: st) h := by
  intro H locs lsC stC hSt
  obtain ⟨tys, ws, lv, t, hK, hP, hD, hS, hL0, hw, hst, hl, hlr⟩ := hSt
  obtain ⟨v, stC1, e1, ⟨j, e2, hj⟩, hj1⟩ := ev_all_cons hst
  subst e1 e2
  clear hst
  have hst := hj1
  obtain ⟨v, stC2, e1, ⟨i, e2, hi⟩, hi1⟩ := ev_all_cons hst
  subst e1 e2
  clear hst
  have hst := hi1
  exact lv_icmp_lt hx hb hdg ht (fun q => absurd q (ev_lt_f hi hj hc)) (fun _ => kk H locs lsC _ ⟨tys, ws, lv, t, hK, hP, hD, hS, hL0, hw, hst, hl, hlr⟩)
theorem ev_if_lt_t (hx : p.tables.exec = Jvm.exec) (hb : c.code = cc) {off : Int} {tgt : Nat} {x : Int × Int} (hc : ev_lt x (0, 0) = some true) (ht : (pc : Int) + off = (tgt : Int)) (hdg : decode cc pc = .ok (.ifCond .lt off, 3)) (kk : ev_K p l e R s m args below meth c Q b hz D cl A L0 nL cells slots tgt ls st h) : ev_K p l e R s m args below meth c Q b hz D cl A L0 nL cells slots pc ls (.inl x :: st) h := by
  intro H locs lsC stC hSt
  obtain ⟨tys, ws, lv, t, hK, hP, hD, hS, hL0, hw, hst, hl, hlr⟩ := hSt
  have hj : ev_in (0, 0) (0 : Int32) := ⟨Int.le_refl 0, Int.le_refl 0⟩
  obtain ⟨v, stC2, e1, ⟨i, e2, hi⟩, hi1⟩ := ev_all_cons hst
  subst e1 e2
  clear hst
  have hst := hi1
  exact lv_if_lt hx hb hdg ht (fun _ => kk H locs lsC _ ⟨tys, ws, lv, t, hK, hP, hD, hS, hL0, hw, hst, hl, hlr⟩) (fun q => absurd (ev_lt_t hi hj hc) q)
theorem ev_if_lt_f (hx : p.tables.exec = Jvm.exec) (hb : c.code = cc) {off : Int} {tgt : Nat} {x : Int × Int} (hc : ev_lt x (0, 0) = some false) (ht : (pc : Int) + off = (tgt : Int)) (hdg : decode cc pc = .ok (.ifCond .lt off, 3)) (kk : ev_K p l e R s m args below meth c Q b hz D cl A L0 nL cells slots (pc + 3) ls st h) : ev_K p l e R s m args below meth c Q b hz D cl A L0 nL cells slots pc ls (.inl x :: st) h := by
  intro H locs lsC stC hSt
  obtain ⟨tys, ws, lv, t, hK, hP, hD, hS, hL0, hw, hst, hl, hlr⟩ := hSt
  have hj : ev_in (0, 0) (0 : Int32) := ⟨Int.le_refl 0, Int.le_refl 0⟩
  obtain ⟨v, stC2, e1, ⟨i, e2, hi⟩, hi1⟩ := ev_all_cons hst
  subst e1 e2
  clear hst
  have hst := hi1
  exact lv_if_lt hx hb hdg ht (fun q => absurd q (ev_lt_f hi hj hc)) (fun _ => kk H locs lsC _ ⟨tys, ws, lv, t, hK, hP, hD, hS, hL0, hw, hst, hl, hlr⟩)
theorem ev_icmp_ge_t (hx : p.tables.exec = Jvm.exec) (hb : c.code = cc) {off : Int} {tgt : Nat} {x y : Int × Int} (hc : ev_lt x y = some true) (ht : (pc : Int) + off = (tgt : Int)) (hdg : decode cc pc = .ok (.if_icmp .ge off, 3)) (kk : ev_K p l e R s m args below meth c Q b hz D cl A L0 nL cells slots (pc + 3) ls st h) : ev_K p l e R s m args below meth c Q b hz D cl A L0 nL cells slots pc ls (.inl y :: .inl x :: st) h := by
  intro H locs lsC stC hSt
  obtain ⟨tys, ws, lv, t, hK, hP, hD, hS, hL0, hw, hst, hl, hlr⟩ := hSt
  obtain ⟨v, stC1, e1, ⟨j, e2, hj⟩, hj1⟩ := ev_all_cons hst
  subst e1 e2
  clear hst
  have hst := hj1
  obtain ⟨v, stC2, e1, ⟨i, e2, hi⟩, hi1⟩ := ev_all_cons hst
  subst e1 e2
  clear hst
  have hst := hi1
  exact lv_icmp_ge hx hb hdg ht (fun q => absurd q (Int32.not_le.mpr (ev_lt_t hi hj hc))) (fun _ => kk H locs lsC _ ⟨tys, ws, lv, t, hK, hP, hD, hS, hL0, hw, hst, hl, hlr⟩)
theorem ev_icmp_ge_f (hx : p.tables.exec = Jvm.exec) (hb : c.code = cc) {off : Int} {tgt : Nat} {x y : Int × Int} (hc : ev_lt x y = some false) (ht : (pc : Int) + off = (tgt : Int)) (hdg : decode cc pc = .ok (.if_icmp .ge off, 3)) (kk : ev_K p l e R s m args below meth c Q b hz D cl A L0 nL cells slots tgt ls st h) : ev_K p l e R s m args below meth c Q b hz D cl A L0 nL cells slots pc ls (.inl y :: .inl x :: st) h := by
  intro H locs lsC stC hSt
  obtain ⟨tys, ws, lv, t, hK, hP, hD, hS, hL0, hw, hst, hl, hlr⟩ := hSt
  obtain ⟨v, stC1, e1, ⟨j, e2, hj⟩, hj1⟩ := ev_all_cons hst
  subst e1 e2
  clear hst
  have hst := hj1
  obtain ⟨v, stC2, e1, ⟨i, e2, hi⟩, hi1⟩ := ev_all_cons hst
  subst e1 e2
  clear hst
  have hst := hi1
  exact lv_icmp_ge hx hb hdg ht (fun _ => kk H locs lsC _ ⟨tys, ws, lv, t, hK, hP, hD, hS, hL0, hw, hst, hl, hlr⟩) (fun q => absurd (Int32.not_lt.mp (ev_lt_f hi hj hc)) q)
theorem ev_if_ge_t (hx : p.tables.exec = Jvm.exec) (hb : c.code = cc) {off : Int} {tgt : Nat} {x : Int × Int} (hc : ev_lt x (0, 0) = some true) (ht : (pc : Int) + off = (tgt : Int)) (hdg : decode cc pc = .ok (.ifCond .ge off, 3)) (kk : ev_K p l e R s m args below meth c Q b hz D cl A L0 nL cells slots (pc + 3) ls st h) : ev_K p l e R s m args below meth c Q b hz D cl A L0 nL cells slots pc ls (.inl x :: st) h := by
  intro H locs lsC stC hSt
  obtain ⟨tys, ws, lv, t, hK, hP, hD, hS, hL0, hw, hst, hl, hlr⟩ := hSt
  have hj : ev_in (0, 0) (0 : Int32) := ⟨Int.le_refl 0, Int.le_refl 0⟩
  obtain ⟨v, stC2, e1, ⟨i, e2, hi⟩, hi1⟩ := ev_all_cons hst
  subst e1 e2
  clear hst
  have hst := hi1
  exact lv_if_ge hx hb hdg ht (fun q => absurd q (Int32.not_le.mpr (ev_lt_t hi hj hc))) (fun _ => kk H locs lsC _ ⟨tys, ws, lv, t, hK, hP, hD, hS, hL0, hw, hst, hl, hlr⟩)
theorem ev_if_ge_f (hx : p.tables.exec = Jvm.exec) (hb : c.code = cc) {off : Int} {tgt : Nat} {x : Int × Int} (hc : ev_lt x (0, 0) = some false) (ht : (pc : Int) + off = (tgt : Int)) (hdg : decode cc pc = .ok (.ifCond .ge off, 3)) (kk : ev_K p l e R s m args below meth c Q b hz D cl A L0 nL cells slots tgt ls st h) : ev_K p l e R s m args below meth c Q b hz D cl A L0 nL cells slots pc ls (.inl x :: st) h := by
  intro H locs lsC stC hSt
  obtain ⟨tys, ws, lv, t, hK, hP, hD, hS, hL0, hw, hst, hl, hlr⟩ := hSt
  have hj : ev_in (0, 0) (0 : Int32) := ⟨Int.le_refl 0, Int.le_refl 0⟩
  obtain ⟨v, stC2, e1, ⟨i, e2, hi⟩, hi1⟩ := ev_all_cons hst
  subst e1 e2
  clear hst
  have hst := hi1
  exact lv_if_ge hx hb hdg ht (fun _ => kk H locs lsC _ ⟨tys, ws, lv, t, hK, hP, hD, hS, hL0, hw, hst, hl, hlr⟩) (fun q => absurd (Int32.not_lt.mp (ev_lt_f hi hj hc)) q)
theorem ev_icmp_gt_t (hx : p.tables.exec = Jvm.exec) (hb : c.code = cc) {off : Int} {tgt : Nat} {x y : Int × Int} (hc : ev_lt y x = some true) (ht : (pc : Int) + off = (tgt : Int)) (hdg : decode cc pc = .ok (.if_icmp .gt off, 3)) (kk : ev_K p l e R s m args below meth c Q b hz D cl A L0 nL cells slots tgt ls st h) : ev_K p l e R s m args below meth c Q b hz D cl A L0 nL cells slots pc ls (.inl y :: .inl x :: st) h := by
  intro H locs lsC stC hSt
  obtain ⟨tys, ws, lv, t, hK, hP, hD, hS, hL0, hw, hst, hl, hlr⟩ := hSt
  obtain ⟨v, stC1, e1, ⟨j, e2, hj⟩, hj1⟩ := ev_all_cons hst
  subst e1 e2
  clear hst
  have hst := hj1
  obtain ⟨v, stC2, e1, ⟨i, e2, hi⟩, hi1⟩ := ev_all_cons hst
  subst e1 e2
  clear hst
  have hst := hi1
  exact lv_icmp_gt hx hb hdg ht (fun _ => kk H locs lsC _ ⟨tys, ws, lv, t, hK, hP, hD, hS, hL0, hw, hst, hl, hlr⟩) (fun q => absurd (ev_lt_t hj hi hc) q)
theorem ev_icmp_gt_f (hx : p.tables.exec = Jvm.exec) (hb : c.code = cc) {off : Int} {tgt : Nat} {x y : Int × Int} (hc : ev_lt y x = some false) (ht : (pc : Int) + off = (tgt : Int)) (hdg : decode cc pc = .ok (.if_icmp .gt off, 3)) (kk : ev_K p l e R s m args below meth c Q b hz D cl A L0 nL cells slots (pc + 3) ls st h) : ev_K p l e R s m args below meth c Q b hz D cl A L0 nL cells slots pc ls (.inl y :: .inl x :: st) h := by
  intro H locs lsC stC hSt
  obtain ⟨tys, ws, lv, t, hK, hP, hD, hS, hL0, hw, hst, hl, hlr⟩ := hSt
  obtain ⟨v, stC1, e1, ⟨j, e2, hj⟩, hj1⟩ := ev_all_cons hst
  subst e1 e2
  clear hst
  have hst := hj1
  obtain ⟨v, stC2, e1, ⟨i, e2, hi⟩, hi1⟩ := ev_all_cons hst
  subst e1 e2
  clear hst
  have hst := hi1
  exact lv_icmp_gt hx hb hdg ht (fun q => absurd q (ev_lt_f hj hi hc)) (fun _ => kk H locs lsC _ ⟨tys, ws, lv, t, hK, hP, hD, hS, hL0, hw, hst, hl, hlr⟩)
theorem ev_if_gt_t (hx : p.tables.exec = Jvm.exec) (hb : c.code = cc) {off : Int} {tgt : Nat} {x : Int × Int} (hc : ev_lt (0, 0) x = some true) (ht : (pc : Int) + off = (tgt : Int)) (hdg : decode cc pc = .ok (.ifCond .gt off, 3)) (kk : ev_K p l e R s m args below meth c Q b hz D cl A L0 nL cells slots tgt ls st h) : ev_K p l e R s m args below meth c Q b hz D cl A L0 nL cells slots pc ls (.inl x :: st) h := by
  intro H locs lsC stC hSt
  obtain ⟨tys, ws, lv, t, hK, hP, hD, hS, hL0, hw, hst, hl, hlr⟩ := hSt
  have hj : ev_in (0, 0) (0 : Int32) := ⟨Int.le_refl 0, Int.le_refl 0⟩
  obtain ⟨v, stC2, e1, ⟨i, e2, hi⟩, hi1⟩ := ev_all_cons hst
  subst e1 e2
  clear hst
  have hst := hi1
  exact lv_if_gt hx hb hdg ht (fun _ => kk H locs lsC _ ⟨tys, ws, lv, t, hK, hP, hD, hS, hL0, hw, hst, hl, hlr⟩) (fun q => absurd (ev_lt_t hj hi hc) q)
theorem ev_if_gt_f (hx : p.tables.exec = Jvm.exec) (hb : c.code = cc) {off : Int} {tgt : Nat} {x : Int × Int} (hc : ev_lt (0, 0) x = some false) (ht : (pc : Int) + off = (tgt : Int)) (hdg : decode cc pc = .ok (.ifCond .gt off, 3)) (kk : ev_K p l e R s m args below meth c Q b hz D cl A L0 nL cells slots (pc + 3) ls st h) : ev_K p l e R s m args below meth c Q b hz D cl A L0 nL cells slots pc ls (.inl x :: st) h := by
  intro H locs lsC stC hSt
  obtain ⟨tys, ws, lv, t, hK, hP, hD, hS, hL0, hw, hst, hl, hlr⟩ := hSt
  have hj : ev_in (0, 0) (0 : Int32) := ⟨Int.le_refl 0, Int.le_refl 0⟩
  obtain ⟨v, stC2, e1, ⟨i, e2, hi⟩, hi1⟩ := ev_all_cons hst
  subst e1 e2
  clear hst
  have hst := hi1
  exact lv_if_gt hx hb hdg ht (fun q => absurd q (ev_lt_f hj hi hc)) (fun _ => kk H locs lsC _ ⟨tys, ws, lv, t, hK, hP, hD, hS, hL0, hw, hst, hl, hlr⟩)
theorem ev_icmp_le_t (hx : p.tables.exec = Jvm.exec) (hb : c.code = cc) {off : Int} {tgt : Nat} {x y : Int × Int} (hc : ev_lt y x = some true) (ht : (pc : Int) + off = (tgt : Int)) (hdg : decode cc pc = .ok (.if_icmp .le off, 3)) (kk : ev_K p l e R s m args below meth c Q b hz D cl A L0 nL cells slots (pc + 3) ls st h) : ev_K p l e R s m args below meth c Q b hz D cl A L0 nL cells slots pc ls (.inl y :: .inl x :: st) h := by
  intro H locs lsC stC hSt
  obtain ⟨tys, ws, lv, t, hK, hP, hD, hS, hL0, hw, hst, hl, hlr⟩ := hSt
  obtain ⟨v, stC1, e1, ⟨j, e2, hj⟩, hj1⟩ := ev_all_cons hst
  subst e1 e2
  clear hst
  have hst := hj1
  obtain ⟨v, stC2, e1, ⟨i, e2, hi⟩, hi1⟩ := ev_all_cons hst
  subst e1 e2
  clear hst
  have hst := hi1
  exact lv_icmp_le hx hb hdg ht (fun q => absurd q (Int32.not_le.mpr (ev_lt_t hj hi hc))) (fun _ => kk H locs lsC _ ⟨tys, ws, lv, t, hK, hP, hD, hS, hL0, hw, hst, hl, hlr⟩)
theorem ev_icmp_le_f (hx : p.tables.exec = Jvm.exec) (hb : c.code = cc) {off : Int} {tgt : Nat} {x y : Int × Int} (hc : ev_lt y x = some false) (ht : (pc : Int) + off = (tgt : Int)) (hdg : decode cc pc = .ok (.if_icmp .le off, 3)) (kk : ev_K p l e R s m args below meth c Q b hz D cl A L0 nL cells slots tgt ls st h) : ev_K p l e R s m args below meth c Q b hz D cl A L0 nL cells slots pc ls (.inl y :: .inl x :: st) h := by
  intro H locs lsC stC hSt
  obtain ⟨tys, ws, lv, t, hK, hP, hD, hS, hL0, hw, hst, hl, hlr⟩ := hSt
  obtain ⟨v, stC1, e1, ⟨j, e2, hj⟩, hj1⟩ := ev_all_cons hst
  subst e1 e2
  clear hst
  have hst := hj1
  obtain ⟨v, stC2, e1, ⟨i, e2, hi⟩, hi1⟩ := ev_all_cons hst
  subst e1 e2
  clear hst
  have hst := hi1
  exact lv_icmp_le hx hb hdg ht (fun _ => kk H locs lsC _ ⟨tys, ws, lv, t, hK, hP, hD, hS, hL0, hw, hst, hl, hlr⟩) (fun q => absurd (Int32.not_lt.mp (ev_lt_f hj hi hc)) q)
theorem ev_if_le_t (hx : p.tables.exec = Jvm.exec) (hb : c.code = cc) {off : Int} {tgt : Nat} {x : Int × Int} (hc : ev_lt (0, 0) x = some true) (ht : (pc : Int) + off = (tgt : Int)) (hdg : decode cc pc = .ok (.ifCond .le off, 3)) (kk : ev_K p l e R s m args below meth c Q b hz D cl A L0 nL cells slots (pc + 3) ls st h) : ev_K p l e R s m args below meth c Q b hz D cl A L0 nL cells slots pc ls (.inl x :: st) h := by
  intro H locs lsC stC hSt
  obtain ⟨tys, ws, lv, t, hK, hP, hD, hS, hL0, hw, hst, hl, hlr⟩ := hSt
  have hj : ev_in (0, 0) (0 : Int32) := ⟨Int.le_refl 0, Int.le_refl 0⟩
  obtain ⟨v, stC2, e1, ⟨i, e2, hi⟩, hi1⟩ := ev_all_cons hst
  subst e1 e2
  clear hst
  have hst := hi1
  exact lv_if_le hx hb hdg ht (fun q => absurd q (Int32.not_le.mpr (ev_lt_t hj hi hc))) (fun _ => kk H locs lsC _ ⟨tys, ws, lv, t, hK, hP, hD, hS, hL0, hw, hst, hl, hlr⟩)
theorem ev_if_le_f (hx : p.tables.exec = Jvm.exec) (hb : c.code = cc) {off : Int} {tgt : Nat} {x : Int × Int} (hc : ev_lt (0, 0) x = some false) (ht : (pc : Int) + off = (tgt : Int)) (hdg : decode cc pc = .ok (.ifCond .le off, 3)) (kk : ev_K p l e R s m args below meth c Q b hz D cl A L0 nL cells slots tgt ls st h) : ev_K p l e R s m args below meth c Q b hz D cl A L0 nL cells slots pc ls (.inl x :: st) h := by
  intro H locs lsC stC hSt
  obtain ⟨tys, ws, lv, t, hK, hP, hD, hS, hL0, hw, hst, hl, hlr⟩ := hSt
  have hj : ev_in (0, 0) (0 : Int32) := ⟨Int.le_refl 0, Int.le_refl 0⟩
  obtain ⟨v, stC2, e1, ⟨i, e2, hi⟩, hi1⟩ := ev_all_cons hst
  subst e1 e2
  clear hst
  have hst := hi1
  exact lv_if_le hx hb hdg ht (fun _ => kk H locs lsC _ ⟨tys, ws, lv, t, hK, hP, hD, hS, hL0, hw, hst, hl, hlr⟩) (fun q => absurd (Int32.not_lt.mp (ev_lt_f hj hi hc)) q)
theorem ev_icmp_eq_t (hx : p.tables.exec = Jvm.exec) (hb : c.code = cc) {off : Int} {tgt : Nat} {x y : Int × Int} (hc : ev_eq x y = some true) (ht : (pc : Int) + off = (tgt : Int)) (hdg : decode cc pc = .ok (.if_icmp .eq off, 3)) (kk : ev_K p l e R s m args below meth c Q b hz D cl A L0 nL cells slots tgt ls st h) : ev_K p l e R s m args below meth c Q b hz D cl A L0 nL cells slots pc ls (.inl y :: .inl x :: st) h := by
  intro H locs lsC stC hSt
  obtain ⟨tys, ws, lv, t, hK, hP, hD, hS, hL0, hw, hst, hl, hlr⟩ := hSt
  obtain ⟨v, stC1, e1, ⟨j, e2, hj⟩, hj1⟩ := ev_all_cons hst
  subst e1 e2
  clear hst
  have hst := hj1
  obtain ⟨v, stC2, e1, ⟨i, e2, hi⟩, hi1⟩ := ev_all_cons hst
  subst e1 e2
  clear hst
  have hst := hi1
  exact lv_icmp_eq hx hb hdg ht (fun _ => kk H locs lsC _ ⟨tys, ws, lv, t, hK, hP, hD, hS, hL0, hw, hst, hl, hlr⟩) (fun q => absurd (ev_eq_t hi hj hc) q)
theorem ev_icmp_eq_f (hx : p.tables.exec = Jvm.exec) (hb : c.code = cc) {off : Int} {tgt : Nat} {x y : Int × Int} (hc : ev_eq x y = some false) (ht : (pc : Int) + off = (tgt : Int)) (hdg : decode cc pc = .ok (.if_icmp .eq off, 3)) (kk : ev_K p l e R s m args below meth c Q b hz D cl A L0 nL cells slots (pc + 3) ls st h) : ev_K p l e R s m args below meth c Q b hz D cl A L0 nL cells slots pc ls (.inl y :: .inl x :: st) h := by
  intro H locs lsC stC hSt
  obtain ⟨tys, ws, lv, t, hK, hP, hD, hS, hL0, hw, hst, hl, hlr⟩ := hSt
  obtain ⟨v, stC1, e1, ⟨j, e2, hj⟩, hj1⟩ := ev_all_cons hst
  subst e1 e2
  clear hst
  have hst := hj1
  obtain ⟨v, stC2, e1, ⟨i, e2, hi⟩, hi1⟩ := ev_all_cons hst
  subst e1 e2
  clear hst
  have hst := hi1
  exact lv_icmp_eq hx hb hdg ht (fun q => absurd q (ev_eq_f hi hj hc)) (fun _ => kk H locs lsC _ ⟨tys, ws, lv, t, hK, hP, hD, hS, hL0, hw, hst, hl, hlr⟩)
theorem ev_if_eq_t (hx : p.tables.exec = Jvm.exec) (hb : c.code = cc) {off : Int} {tgt : Nat} {x : Int × Int} (hc : ev_eq x (0, 0) = some true) (ht : (pc : Int) + off = (tgt : Int)) (hdg : decode cc pc = .ok (.ifCond .eq off, 3)) (kk : ev_K p l e R s m args below meth c Q b hz D cl A L0 nL cells slots tgt ls st h) : ev_K p l e R s m args below meth c Q b hz D cl A L0 nL cells slots pc ls (.inl x :: st) h := by
  intro H locs lsC stC hSt
  obtain ⟨tys, ws, lv, t, hK, hP, hD, hS, hL0, hw, hst, hl, hlr⟩ := hSt
  have hj : ev_in (0, 0) (0 : Int32) := ⟨Int.le_refl 0, Int.le_refl 0⟩
  obtain ⟨v, stC2, e1, ⟨i, e2, hi⟩, hi1⟩ := ev_all_cons hst
  subst e1 e2
  clear hst
  have hst := hi1
  exact lv_if_eq hx hb hdg ht (fun _ => kk H locs lsC _ ⟨tys, ws, lv, t, hK, hP, hD, hS, hL0, hw, hst, hl, hlr⟩) (fun q => absurd (ev_eq_t hi hj hc) q)
theorem ev_if_eq_f (hx : p.tables.exec = Jvm.exec) (hb : c.code = cc) {off : Int} {tgt : Nat} {x : Int × Int} (hc : ev_eq x (0, 0) = some false) (ht : (pc : Int) + off = (tgt : Int)) (hdg : decode cc pc = .ok (.ifCond .eq off, 3)) (kk : ev_K p l e R s m args below meth c Q b hz D cl A L0 nL cells slots (pc + 3) ls st h) : ev_K p l e R s m args below meth c Q b hz D cl A L0 nL cells slots pc ls (.inl x :: st) h := by
  intro H locs lsC stC hSt
  obtain ⟨tys, ws, lv, t, hK, hP, hD, hS, hL0, hw, hst, hl, hlr⟩ := hSt
  have hj : ev_in (0, 0) (0 : Int32) := ⟨Int.le_refl 0, Int.le_refl 0⟩
  obtain ⟨v, stC2, e1, ⟨i, e2, hi⟩, hi1⟩ := ev_all_cons hst
  subst e1 e2
  clear hst
  have hst := hi1
  exact lv_if_eq hx hb hdg ht (fun q => absurd q (ev_eq_f hi hj hc)) (fun _ => kk H locs lsC _ ⟨tys, ws, lv, t, hK, hP, hD, hS, hL0, hw, hst, hl, hlr⟩)
theorem ev_icmp_ne_t (hx : p.tables.exec = Jvm.exec) (hb : c.code = cc) {off : Int} {tgt : Nat} {x y : Int × Int} (hc : ev_eq x y = some true) (ht : (pc : Int) + off = (tgt : Int)) (hdg : decode cc pc = .ok (.if_icmp .ne off, 3)) (kk : ev_K p l e R s m args below meth c Q b hz D cl A L0 nL cells slots (pc + 3) ls st h) : ev_K p l e R s m args below meth c Q b hz D cl A L0 nL cells slots pc ls (.inl y :: .inl x :: st) h := by
  intro H locs lsC stC hSt
  obtain ⟨tys, ws, lv, t, hK, hP, hD, hS, hL0, hw, hst, hl, hlr⟩ := hSt
  obtain ⟨v, stC1, e1, ⟨j, e2, hj⟩, hj1⟩ := ev_all_cons hst
  subst e1 e2
  clear hst
  have hst := hj1
  obtain ⟨v, stC2, e1, ⟨i, e2, hi⟩, hi1⟩ := ev_all_cons hst
  subst e1 e2
  clear hst
  have hst := hi1
  exact lv_icmp_ne hx hb hdg ht (fun q => absurd q (fun q => q (ev_eq_t hi hj hc))) (fun _ => kk H locs lsC _ ⟨tys, ws, lv, t, hK, hP, hD, hS, hL0, hw, hst, hl, hlr⟩)
theorem ev_icmp_ne_f (hx : p.tables.exec = Jvm.exec) (hb : c.code = cc) {off : Int} {tgt : Nat} {x y : Int × Int} (hc : ev_eq x y = some false) (ht : (pc : Int) + off = (tgt : Int)) (hdg : decode cc pc = .ok (.if_icmp .ne off, 3)) (kk : ev_K p l e R s m args below meth c Q b hz D cl A L0 nL cells slots tgt ls st h) : ev_K p l e R s m args below meth c Q b hz D cl A L0 nL cells slots pc ls (.inl y :: .inl x :: st) h := by
  intro H locs lsC stC hSt
  obtain ⟨tys, ws, lv, t, hK, hP, hD, hS, hL0, hw, hst, hl, hlr⟩ := hSt
  obtain ⟨v, stC1, e1, ⟨j, e2, hj⟩, hj1⟩ := ev_all_cons hst
  subst e1 e2
  clear hst
  have hst := hj1
  obtain ⟨v, stC2, e1, ⟨i, e2, hi⟩, hi1⟩ := ev_all_cons hst
  subst e1 e2
  clear hst
  have hst := hi1
  exact lv_icmp_ne hx hb hdg ht (fun _ => kk H locs lsC _ ⟨tys, ws, lv, t, hK, hP, hD, hS, hL0, hw, hst, hl, hlr⟩) (fun q => absurd q (ev_eq_f hi hj hc))
theorem ev_if_ne_t (hx : p.tables.exec = Jvm.exec) (hb : c.code = cc) {off : Int} {tgt : Nat} {x : Int × Int} (hc : ev_eq x (0, 0) = some true) (ht : (pc : Int) + off = (tgt : Int)) (hdg : decode cc pc = .ok (.ifCond .ne off, 3)) (kk : ev_K p l e R s m args below meth c Q b hz D cl A L0 nL cells slots (pc + 3) ls st h) : ev_K p l e R s m args below meth c Q b hz D cl A L0 nL cells slots pc ls (.inl x :: st) h := by
  intro H locs lsC stC hSt
  obtain ⟨tys, ws, lv, t, hK, hP, hD, hS, hL0, hw, hst, hl, hlr⟩ := hSt
  have hj : ev_in (0, 0) (0 : Int32) := ⟨Int.le_refl 0, Int.le_refl 0⟩
  obtain ⟨v, stC2, e1, ⟨i, e2, hi⟩, hi1⟩ := ev_all_cons hst
  subst e1 e2
  clear hst
  have hst := hi1
  exact lv_if_ne hx hb hdg ht (fun q => absurd q (fun q => q (ev_eq_t hi hj hc))) (fun _ => kk H locs lsC _ ⟨tys, ws, lv, t, hK, hP, hD, hS, hL0, hw, hst, hl, hlr⟩)
theorem ev_if_ne_f (hx : p.tables.exec = Jvm.exec) (hb : c.code = cc) {off : Int} {tgt : Nat} {x : Int × Int} (hc : ev_eq x (0, 0) = some false) (ht : (pc : Int) + off = (tgt : Int)) (hdg : decode cc pc = .ok (.ifCond .ne off, 3)) (kk : ev_K p l e R s m args below meth c Q b hz D cl A L0 nL cells slots tgt ls st h) : ev_K p l e R s m args below meth c Q b hz D cl A L0 nL cells slots pc ls (.inl x :: st) h := by
  intro H locs lsC stC hSt
  obtain ⟨tys, ws, lv, t, hK, hP, hD, hS, hL0, hw, hst, hl, hlr⟩ := hSt
  have hj : ev_in (0, 0) (0 : Int32) := ⟨Int.le_refl 0, Int.le_refl 0⟩
  obtain ⟨v, stC2, e1, ⟨i, e2, hi⟩, hi1⟩ := ev_all_cons hst
  subst e1 e2
  clear hst
  have hst := hi1
  exact lv_if_ne hx hb hdg ht (fun _ => kk H locs lsC _ ⟨tys, ws, lv, t, hK, hP, hD, hS, hL0, hw, hst, hl, hlr⟩) (fun q => absurd q (ev_eq_f hi hj hc))
end EVS
end
section
/-! ===== steps that read and write cells ===== -/
section EVT
variable {p : Program} {l : Launch} {e : Env} {R : Room} {s : State} {m : MethodId} {args : Array Value} {below : List Frame} {meth : Method} {c : Code} {Q : State → Prop} {b hz : Nat} {D : va_G} {cl : List vw_C} {A : Nat → Prop} {L0 : List Nat} {nL : Nat} {cells slots : Nat} {cc : ByteArray} {pc : Nat} {ls : ev_L} {st : List ev_V} {h : ev_H}
theorem ev_crel_i {tys : List (ClassId × FieldType)} {L : List Nat} {t w : Nat} {mm : List (Nat × (Int × Int))} {e : va_E} (ht : ¬ t = 3) : ev_crel b hz tys L (.inl (t, w, mm)) e ↔ ∃ (cA : ClassId) (f : Nat → Int32), e = .inl (cA, w, .inl f) ∧ (cA, ev_ty t) ∈ tys ∧ ∀ j, ev_in (ev_get mm j) (f j) := by
  show (if t = 3 then _ else _) ↔ _
  rw [if_neg ht]
theorem ev_crel_l {tys : List (ClassId × FieldType)} {L : List Nat} {t w : Nat} {mm : List (Nat × (Int × Int))} {e : va_E} (ht : t = 3) : ev_crel b hz tys L (.inl (t, w, mm)) e ↔ ∃ (cA : ClassId) (f : Nat → Int64), e = .inl (cA, w, .inr (.inl f)) ∧ (cA, FieldType.long) ∈ tys := by
  show (if t = 3 then _ else _) ↔ _
  rw [if_pos ht]
theorem ev_crel_o {tys : List (ClassId × FieldType)} {L : List Nat} {ci : Nat} {fs : List ev_V} {vs : List Value} (h : ev_all (ev_rel b hz L) fs vs) : ev_crel b hz tys L (.inr (ci, fs)) (.inr (ci, vs)) := ⟨vs, rfl, h⟩
theorem ev_wat {tys : List (ClassId × FieldType)} {L : List Nat} {ws : va_W} (hw : ev_wrel b hz tys L h ws) {n : Nat} {x : ev_C} (hx : h[n]? = some x) (hL : L = ws.map Prod.fst) {a : Nat} (ha : L[n]? = some a) : ∃ e, ws[n]? = some (a, e) ∧ ev_crel b hz tys L x e := by
  obtain ⟨q, h1, h2⟩ := ev_all_get hw hx
  subst hL
  rw [List.getElem?_map, h1] at ha
  cases ha
  exact ⟨q.2, h1, h2⟩
theorem ev_mapset {ws : va_W} {n a : Nat} {e e' : va_E} (h1 : ws[n]? = some (a, e)) : (ws.set n (a, e')).map Prod.fst = ws.map Prod.fst := by
  apply List.ext_getElem?
  intro k
  rw [List.getElem?_map, List.getElem?_map, List.getElem?_set]
  by_cases hk : n = k
  · subst hk
    rw [if_pos rfl]
    by_cases hl : n < ws.length
    · rw [if_pos hl, h1]; rfl
    · rw [List.getElem?_eq_none (by omega)] at h1; cases h1
  · rw [if_neg hk]
theorem ev_getf_ok (hx : p.tables.exec = Jvm.exec) (hb : c.code = cc) {own : String} (hown : s.vm.findClass own = some m.cls) {Ts : List Cond} (hts : ∀ w ∈ Ts, w.before args s = true) {idx ci k n : Nat} {C : String} {T : u_T} {N : Nat} (hc : cl[ci]? = some (C, T, N)) (hin : ∀ w ∈ u_ws C T N, w ∈ Ts) (hk : k < N) (hlink : Cond.fieldLink own idx (T k).1 (T k).2.1 (T k).2.2.1 ∈ Ts)
    {fs : List ev_V} {x : ev_V} (h1 : h[n]? = some (.inr (ci, fs))) (h2 : fs[k]? = some x) (hdg : decode cc pc = .ok (.getfield idx, 3)) (kk : ev_K p l e R s m args below meth c Q b hz D cl A L0 nL cells slots (pc + 3) ls (x :: st) h) : ev_K p l e R s m args below meth c Q b hz D cl A L0 nL cells slots pc ls (.inr (.inr (n + 4)) :: st) h := by
  intro H locs lsC stC hSt
  obtain ⟨tys, ws, lv, t, hK, hP, hD, hS, hL0, hw, hst, hl, hlr⟩ := hSt
  obtain ⟨v, stC1, e1, ⟨a, ha, e2⟩, hst1⟩ := ev_all_cons hst
  subst e1 e2
  obtain ⟨e', g1, vs, g2, g3⟩ := ev_wat hw h1 rfl ha
  subst g2
  obtain ⟨v, g4, g5⟩ := ev_all_get g3 h2
  exact va_get hx hb hts hin hown hK hP n g1 hc k hk (hts _ hlink) (fun _ h => h) g4 hdg (kk H locs lsC _ ⟨tys, ws, lv, t, hK, hP, hD, hS, hL0, hw, ⟨g5, hst1⟩, hl, hlr⟩)
/-- a sort of field, and the type that its descriptor says -/
def ev_tc (t : Nat) (ty : FieldType) : Prop := match t with
  | 0 => ty = .int
  | 1 => ty = .boolean
  | _ => (∃ C, ty = .object C) ∨ ∃ u, ty = .array u
theorem ev_may_ok {t : Nat} {x : ev_V} {L : List Nat} {v : Value} {ty : FieldType} (h1 : ev_may t x = true) (h2 : ev_rel b hz L x v) (h3 : ev_tc t ty) : narrow ty v = v ∧ fits ty v = true := by
  unfold ev_may at h1
  split at h1
  · obtain ⟨i, rfl, -⟩ := h2
    cases h3
    exact ⟨rfl, rfl⟩
  · obtain ⟨i, rfl, h4, h5⟩ := h2
    cases h3
    simp only [Bool.and_eq_true, decide_eq_true_eq] at h1
    have h6 : i = 0 ∨ i = 1 := by
      have q0 : (0 : Int32).toInt = 0 := by decide
      have q1 : (1 : Int32).toInt = 1 := by decide
      by_cases q : i.toInt = 0
      · exact Or.inl (Int32.toInt_inj.mp (by omega))
      · exact Or.inr (Int32.toInt_inj.mp (by omega))
    rcases h6 with rfl | rfl
    · exact ⟨by decide +kernel, by decide +kernel⟩
    · exact ⟨by decide +kernel, by decide +kernel⟩
  · rename_i n
    have hv : v = .null ∨ ∃ a, v = .ref a := by
      match n, h2 with
      | 0, h2 => exact Or.inl h2
      | n + 1, h2 => exact Or.inr (ev_ref_ok h2)
    rcases h3 with ⟨C, rfl⟩ | ⟨u, rfl⟩ <;> rcases hv with rfl | ⟨a, rfl⟩ <;> exact ⟨rfl, rfl⟩
  · cases h1
theorem ev_putf_ok (hx : p.tables.exec = Jvm.exec) (hb : c.code = cc) {own : String} (hown : s.vm.findClass own = some m.cls) {Ts : List Cond} (hts : ∀ w ∈ Ts, w.before args s = true) {idx ci k n : Nat} {C : String} {T : u_T} {N : Nat} (hc : cl[ci]? = some (C, T, N)) (hin : ∀ w ∈ u_ws C T N, w ∈ Ts) (ty0 : Nat → FieldType) (hty : ∀ k, k < N → parseFieldDescriptor (T k).2.2.1 = some (ty0 k)) (hnm : ∀ a, a < N → ∀ b, b < N → a ≠ b → (T a).2.1 ≠ (T b).2.1) (hk : k < N) (hlink : Cond.fieldLink own idx (T k).1 (T k).2.1 (T k).2.2.1 ∈ Ts)
    (hfin : (T k).2.2.2 = true → meth.name = "<init>" ∧ (T k).1 = own) {tc : Nat} (htc : ev_tc tc (ty0 k))
    {fs : List ev_V} {x : ev_V} (h1 : h[n]? = some (.inr (ci, fs))) (h2 : ev_may tc x = true) (h3 : k < fs.length) (hdg : decode cc pc = .ok (.putfield idx, 3)) (kk : ev_K p l e R s m args below meth c Q b hz D cl A L0 nL cells slots (pc + 3) ls st (h.set n (.inr (ci, fs.set k x)))) : ev_K p l e R s m args below meth c Q b hz D cl A L0 nL cells slots pc ls (x :: .inr (.inr (n + 4)) :: st) h := by
  intro H locs lsC stC hSt
  obtain ⟨tys, ws, lv, t, hK, hP, hD, hS, hL0, hw, hst, hl, hlr⟩ := hSt
  obtain ⟨v, stC1, e1, hv, hst1⟩ := ev_all_cons hst
  subst e1
  obtain ⟨v', stC2, e1, ⟨a, ha, e2⟩, hst2⟩ := ev_all_cons hst1
  subst e1 e2
  obtain ⟨e', g1, vs, g2, g3⟩ := ev_wat hw h1 rfl ha
  subst g2
  obtain ⟨q1, q2⟩ := ev_may_ok h2 hv htc
  have hlen : k < vs.length := by rw [← ev_all_len g3]; exact h3
  have fin : ∀ (H1 : Heap) (locs1 : List Loc), va_P D cl (ws.set n (a, .inr (ci, vs.set k v))) H1 → va_D A (ws.set n (a, .inr (ci, vs.set k v))) → va_S A s.heap H1 locs1 → W p l e R s m args below meth c H1 locs1 cells slots Q (F0 m (pc + 3) lsC stC2) := fun H1 locs1 hP1 hD1 hS1 => by
    refine kk H1 locs1 lsC stC2 ⟨tys, _, lv, t, hK, hP1, hD1, hS1, ?_, ?_, ?_, hl, ?_⟩
    · rw [ev_mapset g1]; exact hL0
    · rw [ev_mapset g1]
      exact ev_all_set (R := fun c (q : Nat × va_E) => ev_crel b hz tys (ws.map Prod.fst) c q.2) (a := .inr (ci, fs.set k x)) (b := (a, .inr (ci, vs.set k v))) (ev_crel_o (ev_all_set hv g3 k)) hw n
    · rw [ev_mapset g1]; exact hst2
    · rw [ev_mapset g1]; exact hlr
  by_cases hf : (T k).2.2.2 = true
  · obtain ⟨i1, i2⟩ := hfin hf
    exact va_putF hx hb hts hin ty0 hty hnm hown hK hP hD hS n g1 hc k hk (hts _ hlink) (fun _ h => h) hf i1 i2 (hty k hk) q1 q2 hlen hdg fin
  · exact va_put hx hb hts hin ty0 hty hnm hown hK hP hD hS n g1 hc k hk (hts _ hlink) (fun _ h => h) (ev_nt hf) (hty k hk) q1 q2 hlen hdg fin
theorem ev_rel_app {tys t2 : List (ClassId × FieldType)} {ws : va_W} {q : Nat} {x : ev_C} {e : va_E} (hw : ev_wrel b hz tys (ws.map Prod.fst) h ws) (hx : ev_crel b hz (tys ++ t2) ((ws ++ [(q, e)]).map Prod.fst) x e) : ev_wrel b hz (tys ++ t2) ((ws ++ [(q, e)]).map Prod.fst) (h ++ [x]) (ws ++ [(q, e)]) := by
  refine ev_all_app ?_ ⟨hx, trivial⟩
  rw [List.map_append]
  exact ev_all_mono (fun _ _ hq => ev_crel_mono hq) hw
theorem ev_new_ok (hx : p.tables.exec = Jvm.exec) (hb : c.code = cc) (hA : ∀ q, s.heap.size ≤ q → A q) {own : String} (hown : s.vm.findClass own = some m.cls) {Ts : List Cond} (hts : ∀ w ∈ Ts, w.before args s = true) {idx ci : Nat} {C : String} {T : u_T} {N : Nat} (hc : cl[ci]? = some (C, T, N)) (hin : ∀ w ∈ u_ws C T N, w ∈ Ts) (ty0 : Nat → FieldType) (hty : ∀ k, k < N → parseFieldDescriptor (T k).2.2.1 = some (ty0 k))
    (hcl : Cond.classLink own idx C ∈ Ts) (hin2 : Cond.instantiable C N ∈ Ts) (hini : Cond.initialized C ∈ Ts) {fs : List ev_V} {vs : List Value} (hfs : ∀ j, j < N → defaultValue (ty0 j) = vp_V vs j) (hvs : ∀ b hz L, ev_all (ev_rel b hz L) fs vs) (hN : fs.length = N) (hcells : cells + 1 ≤ R.cells) (hslots : slots + fs.length ≤ R.slots)
    (hdg : decode cc pc = .ok (.new idx, 3)) (kk : ev_K p l e R s m args below meth c Q b hz D cl A L0 nL (cells + 1) (slots + fs.length) (pc + 3) ls (.inr (.inr (h.length + 4)) :: st) (h ++ [.inr (ci, fs)])) : ev_K p l e R s m args below meth c Q b hz D cl A L0 nL cells slots pc ls st h := by
  intro H locs lsC stC hSt
  obtain ⟨tys, ws, lv, t, hK, hP, hD, hS, hL0, hw, hst, hl, hlr⟩ := hSt
  have hlen : h.length = ws.length := ev_all_len hw
  subst hN
  refine va_new hx hb hts hin ty0 hty hown (hts _ hcl) (hts _ hin2) (hts _ hini) hK hP hD hS hA hc hfs hcells hslots hdg (fun q H1 hP1 hD1 hS1 => ?_)
  refine kk H1 locs lsC _ ⟨tys, _, lv, t ++ [q], hK, hP1, hD1, hS1, ?_, ?_, ⟨⟨q, ?_, rfl⟩, ?_⟩, hl, ?_⟩
  · rw [List.map_append, hL0, List.append_assoc]; rfl
  · have := ev_rel_app (t2 := []) (q := q) (x := .inr (ci, fs)) (e := .inr (ci, vs)) hw ⟨vs, rfl, hvs _ _ _⟩
    rw [List.append_nil] at this
    exact this
  · rw [List.map_append, List.getElem?_append_right (by rw [List.length_map]; omega), List.length_map, hlen, Nat.sub_self]; rfl
  · rw [List.map_append]; exact ev_all_mono (fun _ _ hq => ev_rel_mono hq) hst
  · rw [List.map_append]; exact ev_all_mono (fun _ _ hq => ⟨hq.1, ev_rel_mono hq.2⟩) hlr
theorem ev_newa_ok (hx : p.tables.exec = Jvm.exec) (hb : c.code = cc) (hA : ∀ q, s.heap.size ≤ q → A q) {Ts : List Cond} (hts : ∀ w ∈ Ts, w.before args s = true) {at' : ArrayType} {ty w : Nat} {r : Int × Int} (hty : newarray.typeOf at' = ev_ty ty) (ht3 : ty ≤ 3) (harr : Cond.arrayClass (ev_ty ty) ∈ Ts) (hix : ev_ix r 1000001 = some w) (hcells : cells + 1 ≤ R.cells) (hslots : slots + w ≤ R.slots)
    (hdg : decode cc pc = .ok (.newarray at', 2)) (kk : ev_K p l e R s m args below meth c Q b hz D cl A L0 nL (cells + 1) (slots + w) (pc + 2) ls (.inr (.inr (h.length + 4)) :: st) (h ++ [.inl (ty, w, [])])) : ev_K p l e R s m args below meth c Q b hz D cl A L0 nL cells slots pc ls (.inl r :: st) h := by
  intro H locs lsC stC hSt
  obtain ⟨tys, ws, lv, t, hK, hP, hD, hS, hL0, hw, hst, hl, hlr⟩ := hSt
  have hlen : h.length = ws.length := ev_all_len hw
  obtain ⟨v, stC1, e1, ⟨i, e2, hi⟩, hst1⟩ := ev_all_cons hst
  subst e1 e2
  obtain ⟨k1, k2, k3, k4, k5⟩ := ev_ix_ok hix hi
  have go : ∀ (a0 : vp_A), (∀ cA : ClassId, vp_cell cA a0 = arrV cA w (fun _ => defaultValue (ev_ty ty))) → (∀ tys' cA L, (cA, ev_ty ty) ∈ tys' → ev_crel b hz tys' L (.inl (ty, w, [])) (.inl (cA, a0))) → W p l e R s m args below meth c H locs cells slots Q (F0 m pc lsC (.int i :: stC1)) := fun a0 ha hrel => by
    refine va_newa hx hb (by rw [hty]; exact hts _ harr) hty hK hP hD hS hA ha k5 k3 ?_ hcells hslots hdg (fun q cA H1 hK1 hP1 hD1 hS1 => ?_)
    · have : componentBytes (ev_ty ty) ≤ 8 := by
        match ty, ht3 with
        | 0, _ => decide
        | 1, _ => decide
        | 2, _ => decide
        | 3, _ => decide
      calc w * componentBytes (ev_ty ty) ≤ 1000001 * 8 := Nat.mul_le_mul (by omega) this
        _ ≤ 536870912 := by decide
    · refine kk H1 locs lsC _ ⟨_, _, lv, t ++ [q], hK1, hP1, hD1, hS1, ?_, ?_, ⟨⟨q, ?_, rfl⟩, ?_⟩, hl, ?_⟩
      · rw [List.map_append, hL0, List.append_assoc]; rfl
      · exact ev_rel_app (t2 := [(cA, ev_ty ty)]) (q := q) (x := .inl (ty, w, [])) (e := .inl (cA, a0)) hw (hrel _ cA _ (List.mem_append_right _ List.mem_cons_self))
      · rw [List.map_append, List.getElem?_append_right (by rw [List.length_map]; omega), List.length_map, hlen, Nat.sub_self]; rfl
      · rw [List.map_append]; exact ev_all_mono (fun _ _ hq => ev_rel_mono hq) hst1
      · rw [List.map_append]; exact ev_all_mono (fun _ _ hq => ⟨hq.1, ev_rel_mono hq.2⟩) hlr
  have z : ∀ j : Nat, ev_in (ev_get [] j) (0 : Int32) := fun j => ⟨Int.le_refl 0, Int.le_refl 0⟩
  match ty, ht3, go with
  | 0, _, go => exact go (w, .inl fun _ => 0) (fun cA => rfl) (fun tys' cA L hm => (ev_crel_i (by decide)).mpr ⟨cA, _, rfl, hm, z⟩)
  | 1, _, go => exact go (w, .inl fun _ => 0) (fun cA => rfl) (fun tys' cA L hm => (ev_crel_i (by decide)).mpr ⟨cA, _, rfl, hm, z⟩)
  | 2, _, go => exact go (w, .inl fun _ => 0) (fun cA => rfl) (fun tys' cA L hm => (ev_crel_i (by decide)).mpr ⟨cA, _, rfl, hm, z⟩)
  | 3, _, go => exact go (w, .inr (.inl fun _ => 0)) (fun cA => rfl) (fun tys' cA L hm => (ev_crel_l rfl).mpr ⟨cA, _, rfl, hm⟩)
theorem ev_mem_at {α : Type} {x : α} {l : List α} (h : x ∈ l) : ∃ k : Nat, l[k]? = some x := by
  obtain ⟨k, hk⟩ := List.getElem?_of_mem h
  exact ⟨k, hk⟩
theorem ev_len_ok (hx : p.tables.exec = Jvm.exec) (hb : c.code = cc) {n : Nat} {o : Nat × Nat × List (Nat × (Int × Int))} (h1 : h[n]? = some (.inl o)) (h2 : o.2.1 ≤ 1000000) (hdg : decode cc pc = .ok (.arraylength, 1)) (kk : ev_K p l e R s m args below meth c Q b hz D cl A L0 nL cells slots (pc + 1) ls (.inl (o.2.1, o.2.1) :: st) h) : ev_K p l e R s m args below meth c Q b hz D cl A L0 nL cells slots pc ls (.inr (.inr (n + 4)) :: st) h := by
  intro H locs lsC stC hSt
  obtain ⟨tys, ws, lv, t, hK, hP, hD, hS, hL0, hw, hst, hl, hlr⟩ := hSt
  obtain ⟨v, stC1, e1, ⟨a, ha, e2⟩, hst1⟩ := ev_all_cons hst
  subst e1 e2
  obtain ⟨e', g1, g2⟩ := ev_wat hw h1 rfl ha
  have hv : (Int32.ofNat o.2.1).toInt = (o.2.1 : Int) := nI_toInt (n := o.2.1) (by omega)
  by_cases q3 : o.1 = 3
  · obtain ⟨cA, f, g3, g4⟩ := (ev_crel_l q3).mp g2
    subst g3
    obtain ⟨t0, ht⟩ := ev_mem_at g4
    exact va_alen hx hb hK hP n t0 g1 ht rfl hdg (kk H locs lsC _ ⟨tys, ws, lv, t, hK, hP, hD, hS, hL0, hw, ⟨ev_pc_ok hv, hst1⟩, hl, hlr⟩)
  · obtain ⟨cA, f, g3, g4, -⟩ := (ev_crel_i q3).mp g2
    subst g3
    obtain ⟨t0, ht⟩ := ev_mem_at g4
    exact va_alen hx hb hK hP n t0 g1 ht rfl hdg (kk H locs lsC _ ⟨tys, ws, lv, t, hK, hP, hD, hS, hL0, hw, ⟨ev_pc_ok hv, hst1⟩, hl, hlr⟩)
theorem ev_slen_ok (hx : p.tables.exec = Jvm.exec) (hb : c.code = cc) {N : Nat} {xs : Nat → Int32} (hX : va_X b N xs s s.heap) (hbl : b < s.heap.size) (hbA : ¬ A b) (hN : N ≤ 1000000) (hdg : decode cc pc = .ok (.arraylength, 1)) (kk : ev_K p l e R s m args below meth c Q b hz D cl A L0 nL cells slots (pc + 1) ls (.inl (N, N) :: st) h) : ev_K p l e R s m args below meth c Q b hz D cl A L0 nL cells slots pc ls (.inr (.inr 2) :: st) h := by
  intro H locs lsC stC hSt
  obtain ⟨tys, ws, lv, t, hK, hP, hD, hS, hL0, hw, hst, hl, hlr⟩ := hSt
  obtain ⟨v, stC1, e1, e2, hst1⟩ := ev_all_cons hst
  have e2 : v = .ref b := e2
  subst e1 e2
  exact va_slen hx hb hX hbl hbA hS hdg (kk H locs lsC _ ⟨tys, ws, lv, t, hK, hP, hD, hS, hL0, hw, ⟨ev_pc_ok (nI_toInt (n := N) (by omega)), hst1⟩, hl, hlr⟩)
theorem ev_sld_ok (hx : p.tables.exec = Jvm.exec) (hb : c.code = cc) {N : Nat} {xs : Nat → Int32} (hX : va_X b N xs s s.heap) (hbl : b < s.heap.size) (hbA : ¬ A b) (hN : N ≤ 1000000) {r : Int × Int} {j : Nat} {x : ev_V} (hix : ev_ix r N = some j) (hxs : ∀ L, ev_rel b hz L x (.int (xs j))) (hdg : decode cc pc = .ok (.iaload, 1)) (kk : ev_K p l e R s m args below meth c Q b hz D cl A L0 nL cells slots (pc + 1) ls (x :: st) h) : ev_K p l e R s m args below meth c Q b hz D cl A L0 nL cells slots pc ls (.inl r :: .inr (.inr 2) :: st) h := by
  intro H locs lsC stC hSt
  obtain ⟨tys, ws, lv, t, hK, hP, hD, hS, hL0, hw, hst, hl, hlr⟩ := hSt
  obtain ⟨v, stC1, e1, ⟨i, e2, hi⟩, hst1⟩ := ev_all_cons hst
  subst e1 e2
  obtain ⟨v, stC2, e1, e2, hst2⟩ := ev_all_cons hst1
  have e2 : v = .ref b := e2
  subst e1 e2
  obtain ⟨k1, k2, k3, k4, k5⟩ := ev_ix_ok hix hi
  refine va_sld hx hb hX hbl hbA hS k2 hdg (kk H locs lsC _ ⟨tys, ws, lv, t, hK, hP, hD, hS, hL0, hw, ⟨?_, hst2⟩, hl, hlr⟩)
  rw [k3]
  exact hxs _
theorem ev_hld_ok (hx : p.tables.exec = Jvm.exec) (hb : c.code = cc) (hT : va_T .int hz 5 ev_hv A s s.heap) {r : Int × Int} {j : Nat} {x : Int} (hix : ev_ix r 5 = some j) (hxs : ([5, 24, 9, 1, 9] : List Int)[j]? = some x) (hdg : decode cc pc = .ok (.iaload, 1)) (kk : ev_K p l e R s m args below meth c Q b hz D cl A L0 nL cells slots (pc + 1) ls (.inl (x, x) :: st) h) : ev_K p l e R s m args below meth c Q b hz D cl A L0 nL cells slots pc ls (.inl r :: .inr (.inr 3) :: st) h := by
  intro H locs lsC stC hSt
  obtain ⟨tys, ws, lv, t, hK, hP, hD, hS, hL0, hw, hst, hl, hlr⟩ := hSt
  obtain ⟨v, stC1, e1, ⟨i, e2, hi⟩, hst1⟩ := ev_all_cons hst
  subst e1 e2
  obtain ⟨v, stC2, e1, e2, hst2⟩ := ev_all_cons hst1
  have e2 : v = .ref hz := e2
  subst e1 e2
  obtain ⟨k1, k2, k3, k4, k5⟩ := ev_ix_ok hix hi
  refine va_ti hx hb hT hS k2 (v := .int (Int32.ofInt x)) ?_ hdg (kk H locs lsC _ ⟨tys, ws, lv, t, hK, hP, hD, hS, hL0, hw, ⟨ev_pc_ok ?_, hst2⟩, hl, hlr⟩)
  · rw [k3]
    unfold ev_hv
    rw [List.getD_eq_getElem?_getD, hxs]; rfl
  · have : x ∈ ([5, 24, 9, 1, 9] : List Int) := List.mem_of_getElem? hxs
    have key : ∀ x ∈ ([5, 24, 9, 1, 9] : List Int), (Int32.ofInt x).toInt = x := by decide
    exact key x this
theorem ev_gets_ok (hx : p.tables.exec = Jvm.exec) (hb : c.code = cc) {own : String} (hown : s.vm.findClass own = some m.cls) {Ts : List Cond} (hts : ∀ w ∈ Ts, w.before args s = true) {idx : Nat} (hlink : Cond.fieldLink own idx "TypeLevels$Heard" "HIGHEST" "[I" ∈ Ts) (hZ : va_Z "TypeLevels$Heard" "HIGHEST" "[I" (.ref hz) A s s.heap) (hdg : decode cc pc = .ok (.getstatic idx, 3)) (kk : ev_K p l e R s m args below meth c Q b hz D cl A L0 nL cells slots (pc + 3) ls (.inr (.inr 3) :: st) h) : ev_K p l e R s m args below meth c Q b hz D cl A L0 nL cells slots pc ls st h := by
  intro H locs lsC stC hSt
  obtain ⟨tys, ws, lv, t, hK, hP, hD, hS, hL0, hw, hst, hl, hlr⟩ := hSt
  exact va_gets hx hb hZ hS hown (hts _ hlink) (fun _ h => h) hdg (kk H locs lsC _ ⟨tys, ws, lv, t, hK, hP, hD, hS, hL0, hw, ⟨rfl, hst⟩, hl, hlr⟩)
theorem ev_ald_ok (hx : p.tables.exec = Jvm.exec) (hb : c.code = cc) {n w j : Nat} {mm : List (Nat × (Int × Int))} {r : Int × Int} (h1 : h[n]? = some (.inl (0, w, mm))) (hix : ev_ix r w = some j) (hdg : decode cc pc = .ok (.iaload, 1)) (kk : ev_K p l e R s m args below meth c Q b hz D cl A L0 nL cells slots (pc + 1) ls (.inl (ev_get mm j) :: st) h) : ev_K p l e R s m args below meth c Q b hz D cl A L0 nL cells slots pc ls (.inl r :: .inr (.inr (n + 4)) :: st) h := by
  intro H locs lsC stC hSt
  obtain ⟨tys, ws, lv, t, hK, hP, hD, hS, hL0, hw, hst, hl, hlr⟩ := hSt
  obtain ⟨v, stC1, e1, ⟨i, e2, hi⟩, hst1⟩ := ev_all_cons hst
  subst e1 e2
  obtain ⟨v, stC2, e1, ⟨a, ha, e2⟩, hst2⟩ := ev_all_cons hst1
  subst e1 e2
  obtain ⟨e', g1, g2⟩ := ev_wat hw h1 rfl ha
  obtain ⟨cA, f, g3, g4, g5⟩ := (ev_crel_i (by decide)).mp g2
  subst g3
  obtain ⟨t0, ht⟩ := ev_mem_at g4
  obtain ⟨k1, k2, k3, k4, k5⟩ := ev_ix_ok hix hi
  refine va_iald hx hb hK hP n t0 g1 ht k2 hdg (kk H locs lsC _ ⟨tys, ws, lv, t, hK, hP, hD, hS, hL0, hw, ⟨⟨_, rfl, ?_⟩, hst2⟩, hl, hlr⟩)
  rw [k3]
  exact g5 j
theorem ev_upd_in {mm : List (Nat × (Int × Int))} {f : Nat → Int32} (hf : ∀ j, ev_in (ev_get mm j) (f j)) {j : Nat} {x : Int × Int} {i : Int32} (hi : ev_in x i) : ∀ k, ev_in (ev_get (ev_put mm j x fun m => m) k) (upd f j i k) := by
  intro k
  rw [ev_get_put]
  by_cases hk : k = j
  · subst hk
    rw [if_pos rfl, pk_us]; exact hi
  · rw [if_neg hk, pk_un hk]; exact hf k
theorem ev_ast_ok (hx : p.tables.exec = Jvm.exec) (hb : c.code = cc) {n w j : Nat} {mm : List (Nat × (Int × Int))} {x r : Int × Int} (h1 : h[n]? = some (.inl (0, w, mm))) (hix : ev_ix r w = some j) (hdg : decode cc pc = .ok (.iastore, 1)) (kk : ev_K p l e R s m args below meth c Q b hz D cl A L0 nL cells slots (pc + 1) ls st (h.set n (.inl (0, w, ev_put mm j x fun m => m)))) : ev_K p l e R s m args below meth c Q b hz D cl A L0 nL cells slots pc ls (.inl x :: .inl r :: .inr (.inr (n + 4)) :: st) h := by
  intro H locs lsC stC hSt
  obtain ⟨tys, ws, lv, t, hK, hP, hD, hS, hL0, hw, hst, hl, hlr⟩ := hSt
  obtain ⟨v, stC0, e1, ⟨i0, e2, hi0⟩, hst0⟩ := ev_all_cons hst
  subst e1 e2
  obtain ⟨v, stC1, e1, ⟨i, e2, hi⟩, hst1⟩ := ev_all_cons hst0
  subst e1 e2
  obtain ⟨v, stC2, e1, ⟨a, ha, e2⟩, hst2⟩ := ev_all_cons hst1
  subst e1 e2
  obtain ⟨e', g1, g2⟩ := ev_wat hw h1 rfl ha
  obtain ⟨cA, f, g3, g4, g5⟩ := (ev_crel_i (by decide)).mp g2
  subst g3
  obtain ⟨t0, ht⟩ := ev_mem_at g4
  obtain ⟨k1, k2, k3, k4, k5⟩ := ev_ix_ok hix hi
  refine va_iast hx hb hK hP hD hS n t0 g1 ht k2 hdg (fun H1 locs1 hP1 hD1 hS1 => ?_)
  rw [k3] at hP1 hD1
  refine kk H1 locs1 lsC stC2 ⟨tys, _, lv, t, hK, hP1, hD1, hS1, ?_, ?_, ?_, hl, ?_⟩
  · rw [ev_mapset g1]; exact hL0
  · rw [ev_mapset g1]
    refine ev_all_set (R := fun c (q : Nat × va_E) => ev_crel b hz tys (ws.map Prod.fst) c q.2) ?_ hw n
    exact (ev_crel_i (t := 0) (by decide)).mpr ⟨cA, _, rfl, g4, ev_upd_in g5 hi0⟩
  · rw [ev_mapset g1]; exact hst2
  · rw [ev_mapset g1]; exact hlr
theorem ev_bst_ok (hx : p.tables.exec = Jvm.exec) (hb : c.code = cc) {n w j : Nat} {mm : List (Nat × (Int × Int))} {x r : Int × Int} (h1 : h[n]? = some (.inl (1, w, mm))) (hix : ev_ix r w = some j) (hdg : decode cc pc = .ok (.bastore, 1)) (kk : ev_K p l e R s m args below meth c Q b hz D cl A L0 nL cells slots (pc + 1) ls st (h.set n (.inl (1, w, ev_put mm j (-2147483648, 2147483647) fun m => m)))) : ev_K p l e R s m args below meth c Q b hz D cl A L0 nL cells slots pc ls (.inl x :: .inl r :: .inr (.inr (n + 4)) :: st) h := by
  intro H locs lsC stC hSt
  obtain ⟨tys, ws, lv, t, hK, hP, hD, hS, hL0, hw, hst, hl, hlr⟩ := hSt
  obtain ⟨v, stC0, e1, ⟨i0, e2, hi0⟩, hst0⟩ := ev_all_cons hst
  subst e1 e2
  obtain ⟨v, stC1, e1, ⟨i, e2, hi⟩, hst1⟩ := ev_all_cons hst0
  subst e1 e2
  obtain ⟨v, stC2, e1, ⟨a, ha, e2⟩, hst2⟩ := ev_all_cons hst1
  subst e1 e2
  obtain ⟨e', g1, g2⟩ := ev_wat hw h1 rfl ha
  obtain ⟨cA, f, g3, g4, g5⟩ := (ev_crel_i (by decide)).mp g2
  subst g3
  obtain ⟨t0, ht⟩ := ev_mem_at g4
  obtain ⟨k1, k2, k3, k4, k5⟩ := ev_ix_ok hix hi
  refine va_bast hx hb hK hP hD hS n t0 g1 ht k2 hdg (fun H1 locs1 hP1 hD1 hS1 => ?_)
  rw [k3] at hP1 hD1
  refine kk H1 locs1 lsC stC2 ⟨tys, _, lv, t, hK, hP1, hD1, hS1, ?_, ?_, ?_, hl, ?_⟩
  · rw [ev_mapset g1]; exact hL0
  · rw [ev_mapset g1]
    refine ev_all_set (R := fun c (q : Nat × va_E) => ev_crel b hz tys (ws.map Prod.fst) c q.2) ?_ hw n
    exact (ev_crel_i (t := 1) (by decide)).mpr ⟨cA, _, rfl, g4, ev_upd_in g5 ⟨Int32.le_toInt _, by have := Int32.toInt_le (vp_nar .byte i0); exact this⟩⟩
  · rw [ev_mapset g1]; exact hst2
  · rw [ev_mapset g1]; exact hlr
theorem ev_setself {α : Type} {l : List α} {n : Nat} {x : α} (h : l[n]? = some x) : l.set n x = l := by
  apply List.ext_getElem?
  intro k
  rw [List.getElem?_set]
  by_cases hk : n = k
  · subst hk
    rw [if_pos rfl]
    by_cases hl : n < l.length
    · rw [if_pos hl, h]
    · rw [List.getElem?_eq_none (by omega)] at h; cases h
  · rw [if_neg hk]
theorem ev_lst_ok (hx : p.tables.exec = Jvm.exec) (hb : c.code = cc) {n w j : Nat} {mm : List (Nat × (Int × Int))} {r : Int × Int} (h1 : h[n]? = some (.inl (3, w, mm))) (hix : ev_ix r w = some j) (hdg : decode cc pc = .ok (.lastore, 1)) (kk : ev_K p l e R s m args below meth c Q b hz D cl A L0 nL cells slots (pc + 1) ls st h) : ev_K p l e R s m args below meth c Q b hz D cl A L0 nL cells slots pc ls (.inr (.inr 0) :: .inl r :: .inr (.inr (n + 4)) :: st) h := by
  intro H locs lsC stC hSt
  obtain ⟨tys, ws, lv, t, hK, hP, hD, hS, hL0, hw, hst, hl, hlr⟩ := hSt
  obtain ⟨v, stC0, e1, ⟨i0, e2⟩, hst0⟩ := ev_all_cons hst
  subst e1 e2
  obtain ⟨v, stC1, e1, ⟨i, e2, hi⟩, hst1⟩ := ev_all_cons hst0
  subst e1 e2
  obtain ⟨v, stC2, e1, ⟨a, ha, e2⟩, hst2⟩ := ev_all_cons hst1
  subst e1 e2
  obtain ⟨e', g1, g2⟩ := ev_wat hw h1 rfl ha
  obtain ⟨cA, f, g3, g4⟩ := (ev_crel_l rfl).mp g2
  subst g3
  obtain ⟨t0, ht⟩ := ev_mem_at g4
  obtain ⟨k1, k2, k3, k4, k5⟩ := ev_ix_ok hix hi
  refine va_last hx hb hK hP hD hS n t0 g1 ht k2 hdg (fun H1 locs1 hP1 hD1 hS1 => ?_)
  refine kk H1 locs1 lsC stC2 ⟨tys, _, lv, t, hK, hP1, hD1, hS1, ?_, ?_, ?_, hl, ?_⟩
  · rw [ev_mapset g1]; exact hL0
  · rw [ev_mapset g1]
    have key := ev_all_set (R := fun c (q : Nat × va_E) => ev_crel b hz tys (ws.map Prod.fst) c q.2) (a := .inl (3, w, mm)) (b := (a, .inl (cA, w, .inr (.inl (vp_updL f i.toNatClampNeg i0))))) ((ev_crel_l rfl).mpr ⟨cA, _, rfl, g4⟩) hw n
    rw [ev_setself h1] at key
    exact key
  · rw [ev_mapset g1]; exact hst2
  · rw [ev_mapset g1]; exact hlr
theorem ev_tsw_in (hx : p.tables.exec = Jvm.exec) (hb : c.code = cc) {d lo hi off : Int} {offs : Array Int} {len tgt : Nat} {x : Int × Int} (hlo : lo ≤ x.1) (hhi : x.1 ≤ hi) (hxx : x.1 = x.2) (ho : offs.toList[(x.1 - lo).toNat]? = some off) (ht : (pc : Int) + off = (tgt : Int)) (hdg : decode cc pc = .ok (.tableswitch d lo hi offs, len)) (kk : ev_K p l e R s m args below meth c Q b hz D cl A L0 nL cells slots tgt ls st h) : ev_K p l e R s m args below meth c Q b hz D cl A L0 nL cells slots pc ls (.inl x :: st) h := by
  intro H locs lsC stC hSt
  obtain ⟨tys, ws, lv, t, hK, hP, hD, hS, hL0, hw, hst, hl, hlr⟩ := hSt
  obtain ⟨v, stC1, e1, ⟨i, e2, hi1, hi2⟩, hst1⟩ := ev_all_cons hst
  subst e1 e2
  have ex : i.toInt = x.1 := by omega
  exact lv_tableIn hx hb hdg (by omega) (by omega) (by rw [ex, ← Array.getElem?_toList]; exact ho) ht (kk H locs lsC _ ⟨tys, ws, lv, t, hK, hP, hD, hS, hL0, hw, hst1, hl, hlr⟩)
theorem ev_tsw_out (hx : p.tables.exec = Jvm.exec) (hb : c.code = cc) {d lo hi : Int} {offs : Array Int} {len tgt : Nat} {x : Int × Int} (ho : x.2 < lo ∨ hi < x.1) (ht : (pc : Int) + d = (tgt : Int)) (hdg : decode cc pc = .ok (.tableswitch d lo hi offs, len)) (kk : ev_K p l e R s m args below meth c Q b hz D cl A L0 nL cells slots tgt ls st h) : ev_K p l e R s m args below meth c Q b hz D cl A L0 nL cells slots pc ls (.inl x :: st) h := by
  intro H locs lsC stC hSt
  obtain ⟨tys, ws, lv, t, hK, hP, hD, hS, hL0, hw, hst, hl, hlr⟩ := hSt
  obtain ⟨v, stC1, e1, ⟨i, e2, hi1, hi2⟩, hst1⟩ := ev_all_cons hst
  subst e1 e2
  exact lv_tableOut hx hb hdg (by omega) ht (kk H locs lsC _ ⟨tys, ws, lv, t, hK, hP, hD, hS, hL0, hw, hst1, hl, hlr⟩)
theorem ev_lsw_ok (hx : p.tables.exec = Jvm.exec) (hb : c.code = cc) {d : Int} {ps : Array (Int × Int)} {len tgt : Nat} {x : Int × Int} (hp : (ps.toList.zip (ps.toList.drop 1)).all (fun (a, next) => a.1 < next.1) = true) (hxx : x.1 = x.2) (ht : (pc : Int) + Op.lookupswitch.offset ps.toList d x.1 = (tgt : Int)) (hdg : decode cc pc = .ok (.lookupswitch d ps, len)) (kk : ev_K p l e R s m args below meth c Q b hz D cl A L0 nL cells slots tgt ls st h) : ev_K p l e R s m args below meth c Q b hz D cl A L0 nL cells slots pc ls (.inl x :: st) h := by
  intro H locs lsC stC hSt
  obtain ⟨tys, ws, lv, t, hK, hP, hD, hS, hL0, hw, hst, hl, hlr⟩ := hSt
  obtain ⟨v, stC1, e1, ⟨i, e2, hi1, hi2⟩, hst1⟩ := ev_all_cons hst
  subst e1 e2
  have ex : i.toInt = x.1 := by omega
  exact lv_lookup hx hb hdg hp rfl (by rw [ex]; exact ht) (kk H locs lsC _ ⟨tys, ws, lv, t, hK, hP, hD, hS, hL0, hw, hst1, hl, hlr⟩)
end EVT
end
